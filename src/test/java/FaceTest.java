import java.lang.reflect.Array;
import java.lang.reflect.Constructor;
import java.lang.reflect.Field;
import java.lang.reflect.Method;
import java.lang.reflect.Modifier;
import java.nio.charset.StandardCharsets;
import java.nio.file.Files;
import java.nio.file.Path;
import java.util.ArrayDeque;
import java.util.ArrayList;
import java.util.Arrays;
import java.util.Collections;
import java.util.Deque;
import java.util.IdentityHashMap;
import java.util.List;
import java.util.Set;
import java.util.TreeSet;

/** The public face, and some rules of ../shared/LANGUAGE.md that can be seen from outside. */
public final class FaceTest {
    private static final Check CHECK = new Check("FaceTest");
    private static final String NUMBERS = "feed:5 meadow:1 fault:0 where:0 mown:2 beside:2 parts:0 rings:0 ends:0 steps:2 "
        + "longest:0 splits:2 at:2 out:1 ever:1 ring:1 meets:2 shouts:1 visits:1 crowd:1 paid:0 stuck:0 caught:3 "
        + "clash:0 changes:0 toMow:0 strokes:0 shut:2 shutWays:0 seen:2 gatesSeen:0 places:0 place:1 best:0 bestPaid:0 "
        + "week:0 thin:0 mark:0 led:1 size:1 trouble:0";
    private static final String TRUTHS = "mow:2 stand:2 seed:1 undo:0 back:1";

    public static void main(String[] args) throws Exception {
        members();
        inside();
        names();
        room();
        text();
        CHECK.end();
    }

    private static String shape(Method method) {
        StringBuilder shape = new StringBuilder(method.getReturnType() + " " + method.getName());
        for (Class<?> type : method.getParameterTypes()) {
            shape.append(' ').append(type);
        }
        return shape.toString();
    }

    private static Set<String> dueShapes() {
        Set<String> shapes = new TreeSet<>();
        for (String told : NUMBERS.split(" ")) {
            shapes.add("int " + told.split(":")[0] + " int".repeat(Integer.parseInt(told.split(":")[1])));
        }
        for (String told : TRUTHS.split(" ")) {
            shapes.add("boolean " + told.split(":")[0] + " int".repeat(Integer.parseInt(told.split(":")[1])));
        }
        shapes.add("int unlike boolean");
        shapes.add("int firstUnlike boolean");
        return shapes;
    }

    private static void members() {
        Class<?> face = MownMaze.class;
        CHECK.due("the class is public and final", Modifier.isPublic(face.getModifiers()) && Modifier.isFinal(face.getModifiers()), true);
        Set<String> open = new TreeSet<>();
        Set<String> names = new TreeSet<>();
        for (Method method : face.getDeclaredMethods()) {
            if (!Modifier.isPrivate(method.getModifiers()) && !method.isSynthetic()) {
                CHECK.due(method.getName() + " is public", Modifier.isPublic(method.getModifiers()), true);
                open.add(shape(method));
                names.add(method.getName());
            }
        }
        CHECK.due("methods as in the document: " + open, open.equals(dueShapes()), true);
        for (Method method : face.getDeclaredMethods()) {
            boolean hidden = Modifier.isPrivate(method.getModifiers());
            CHECK.due(method.getName() + " has a name of its own", hidden && names.contains(method.getName()), false);
        }
        for (Field field : face.getDeclaredFields()) {
            boolean none = field.getName().equals("NONE");
            CHECK.due(field.getName() + " is hidden", Modifier.isPrivate(field.getModifiers()), !none);
        }
        Constructor<?>[] constructors = face.getDeclaredConstructors();
        CHECK.due("one constructor", constructors.length, 1);
        CHECK.due("it is public, without parameters", Modifier.isPublic(constructors[0].getModifiers()) && constructors[0].getParameterCount() == 0, true);
    }

    private static void inside() {
        Class<?>[] classes = MownMaze.class.getDeclaredClasses();
        CHECK.due("twelve classes at most", classes.length + 1 <= 12, true);
        for (Class<?> inner : classes) {
            CHECK.due(inner + " is static", Modifier.isStatic(inner.getModifiers()), true);
            CHECK.due(inner + " is not public", Modifier.isPublic(inner.getModifiers()) || Modifier.isProtected(inner.getModifiers()), false);
            int fields = 0;
            for (Field field : inner.getDeclaredFields()) {
                fields += Modifier.isStatic(field.getModifiers()) ? 0 : 1;
                boolean fixed = !Modifier.isStatic(field.getModifiers()) || Modifier.isFinal(field.getModifiers());
                CHECK.due(inner + "." + field.getName() + " is no changing static", fixed, true);
            }
            CHECK.due(inner + " has twenty fields at most", fields <= 20, true);
        }
    }

    /** No method inside bears the name of a public one, and none takes more than seven parameters. */
    private static void names() {
        Set<String> open = new TreeSet<>();
        for (Method method : MownMaze.class.getDeclaredMethods()) {
            if (Modifier.isPublic(method.getModifiers())) {
                open.add(method.getName());
            }
            CHECK.due(method.getName() + " takes seven at most", method.getParameterCount() <= 7, true);
        }
        for (Class<?> inner : MownMaze.class.getDeclaredClasses()) {
            for (Method method : inner.getDeclaredMethods()) {
                CHECK.due(inner + "." + method.getName() + " has a name of its own", open.contains(method.getName()), false);
                CHECK.due(inner + "." + method.getName() + " takes seven at most", method.getParameterCount() <= 7, true);
            }
        }
    }

    /** Were each of 512 calls a new object, all of them would have to fit into one room; calls make nothing more. */
    private static void room() throws Exception {
        MownMaze x = new MownMaze();
        int[] fresh = held(x);
        CHECK.due("objects and arrays of a new object: " + fresh[0], fresh[0] * 512 <= 600_000, true);
        CHECK.due("fields and elements of a new object: " + fresh[1], fresh[1] * 512 <= 7_300_000, true);
        Check.tell(x, Check.rows("dusk 200 pays 9 shuts 3", "mmmmmmmm", "mssmssmm", "mmmmmmmm")
            + ";gate 7,2;noise 0,0;want mmmmmmmm;want mmmmmmmm;heard 2 from 0,0;walker a once at 0,0 faces east leaves 0");
        for (int i = 0; i < 8; i++) {
            x.mark();
            x.thin();
            x.strokes();
            x.best();
            x.meets(0, 0);
            x.caught(0, 0, 0);
            x.week();
        }
        int[] used = held(x);
        CHECK.due("objects and arrays behind calls", used[0], fresh[0]);
        CHECK.due("fields and elements behind calls", used[1], fresh[1]);
    }

    /** How many objects and arrays an object holds, itself among them, and how many fields and elements these have. */
    private static int[] held(Object root) throws Exception {
        Set<Object> met = Collections.newSetFromMap(new IdentityHashMap<>());
        Deque<Object> left = new ArrayDeque<>();
        met.add(root);
        left.add(root);
        int parts = 0;
        while (!left.isEmpty()) {
            Object object = left.remove();
            List<Object> inside = new ArrayList<>();
            if (object.getClass().isArray()) {
                parts += Array.getLength(object);
                inside = object instanceof Object[] ? Arrays.asList((Object[]) object) : inside;
            } else {
                for (Field field : object.getClass().getDeclaredFields()) {
                    if (!Modifier.isStatic(field.getModifiers())) {
                        parts++;
                        field.setAccessible(true);
                        inside.add(field.getType().isPrimitive() ? null : field.get(object));
                    }
                }
            }
            for (Object next : inside) {
                if (next != null && met.add(next)) {
                    left.add(next);
                }
            }
        }
        return new int[] {met.size(), parts};
    }

    private static void text() throws Exception {
        String source = Files.readString(Path.of("src/main/java/MownMaze.java"), StandardCharsets.UTF_8);
        String code = source.replaceAll("(?s)/\\*.*?\\*/", "").replaceAll("//[^\n]*", "");
        for (String word : new String[] {"->", "::", "try ", "catch", "finally", "synchronized", "assert ", "package ",
            "Exact(", "while", "instanceof", "System.out", "import java.util.*", "static {", "record "}) {
            CHECK.due("no " + word, code.contains(word), false);
        }
        CHECK.due("one import", code.split("import ", -1).length - 1, 1);
        CHECK.due("signs 10 and 32 to 126 alone", source.matches("[\\n -~]*"), true);
        methodLengths(code);
        madeWhere(code);
    }

    /** Objects are made where fields are told and in constructors; but for them the one exception of led. */
    private static void madeWhere(String code) {
        boolean building = false;
        for (String line : code.split("\n")) {
            if (line.matches(" {4}( {4})?[a-zA-Z].*\\) (throws \\w+ )?\\{")) {
                building = line.matches(" {4}( {4})?(public )?[A-Z]\\w*\\(.*");
            }
            boolean field = line.matches(" {8}private final .*");
            boolean thrown = line.contains("throw new NoSuchElementException(");
            if (line.contains("new ")) {
                CHECK.due("made by a constructor:" + line, building || field || thrown, true);
            }
        }
        CHECK.due("one throw", code.split("throw new ", -1).length - 1, 1);
    }

    /** Methods begin and end at the same depth of blanks, by the way this file is written. */
    private static void methodLengths(String code) {
        int length = 0;
        String end = null;
        for (String line : code.split("\n")) {
            if (end == null && line.matches(" {4}( {4})?[a-zA-Z].*\\) (throws \\w+ )?\\{")) {
                end = line.substring(0, line.length() - line.stripLeading().length()) + "}";
                length = 0;
            }
            length++;
            if (line.equals(end)) {
                CHECK.due("a method of " + length + " lines", length <= 60, true);
                end = null;
            }
        }
    }
}
