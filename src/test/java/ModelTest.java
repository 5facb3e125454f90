import java.lang.reflect.InvocationTargetException;
import java.lang.reflect.Method;
import java.lang.reflect.Modifier;
import java.nio.charset.StandardCharsets;
import java.util.ArrayList;
import java.util.Comparator;
import java.util.List;
import java.util.NoSuchElementException;
import java.util.Random;

/** Runs of calls by lot, the same on the class and on the plain model: each answer must be the same. */
public final class ModelTest {
    private static final int RUNS = 400;
    private static final int CALLS = 512;
    private static final int[] WILD = {Integer.MIN_VALUE, Integer.MAX_VALUE, -65537, -3, -2, -1, 65, 201, 65536, 65537, 1 << 30};
    private static final String[] WORDS = {"meadow", "row", "want", "moon", "gate", "noise", "heard", "walker", "wide",
        "from", "at", "faces", "leaves", "left", "north", "mm", "ss", "ma", "mmmmmmmmm", "a", ";", ",", "0", "7", "99",
        "201", "0001", "61", "M", "\u00e9", "\0", "-1"};

    private final Random lots;
    private final MownMaze maze = new MownMaze();
    private final Model model = new Model();
    private final List<String> told = new ArrayList<>();

    private ModelTest(long number) {
        lots = new Random(number);
    }

    public static void main(String[] args) throws Exception {
        int runs = args.length > 0 ? Integer.parseInt(args[0]) : RUNS;
        List<Method> methods = new ArrayList<>();
        for (Method method : MownMaze.class.getDeclaredMethods()) {
            if (Modifier.isPublic(method.getModifiers())) {
                methods.add(method);
            }
        }
        methods.sort(Comparator.comparing(Method::getName));
        int wrong = 0;
        for (int run = 0; run < runs && wrong < 5; run++) {
            if (!new ModelTest(run).agrees(methods, run)) {
                wrong++;
            }
        }
        System.out.println(wrong == 0 ? runs + " runs agree with the model" : wrong + " runs don't agree");
        if (wrong != 0) {
            System.exit(1);
        }
    }

    private boolean agrees(List<Method> methods, int run) throws Exception {
        for (int call = 0; call < CALLS; ) {
            int what = lots.nextInt(call < 40 ? 40 : 120);
            if (what == 0) {
                String text = text();
                int length = Math.min(text.length(), 900);
                for (int i = 0; i < length; i += 20) {
                    Object[] five = new Object[5];
                    for (int k = 0; k < 5; k++) {
                        five[k] = number(text, i + 4 * k);
                    }
                    if (!same(method(methods, "feed"), five, run)) {
                        return false;
                    }
                    call++;
                }
                if (!same(method(methods, "meadow"), new Object[] {length}, run)
                    || !same(method(methods, "fault"), new Object[0], run)
                    || !same(method(methods, "where"), new Object[0], run)) {
                    return false;
                }
                call += 3;
            } else {
                Method method = methods.get(lots.nextInt(methods.size()));
                boolean rare = method.getName().equals("meadow") || method.getName().equals("feed");
                if (rare && lots.nextInt(10) > 0) {
                    continue;
                }
                if (!same(method, arguments(method), run)) {
                    return false;
                }
                call++;
            }
        }
        return true;
    }

    private static Method method(List<Method> methods, String name) {
        return methods.stream().filter(m -> m.getName().equals(name)).findFirst().orElseThrow();
    }

    private Object[] arguments(Method method) {
        Class<?>[] types = method.getParameterTypes();
        Object[] arguments = new Object[types.length];
        for (int i = 0; i < types.length; i++) {
            if (types[i] == boolean.class) {
                arguments[i] = lots.nextBoolean();
            } else {
                arguments[i] = argument(method.getName());
            }
        }
        return arguments;
    }

    private int argument(String name) {
        if (lots.nextInt(12) == 0) {
            return WILD[lots.nextInt(WILD.length)];
        }
        switch (name) {
            case "steps":
                return lots.nextInt(50);
            case "seed":
                return lots.nextInt(65539);
            case "crowd":
                return lots.nextInt(60);
            case "meadow":
            case "feed":
                return lots.nextInt(1000);
            case "size":
                return lots.nextInt(14);
            case "back":
                return lots.nextInt(4);
            case "at":
                return lots.nextInt(lots.nextBoolean() ? 6 : 205);
            default:
                return lots.nextInt(8) - lots.nextInt(2);
        }
    }

    private boolean same(Method method, Object[] arguments, int run) throws Exception {
        String due = answer(model, Model.class.getMethod(method.getName(), method.getParameterTypes()), arguments);
        String got = answer(maze, method, arguments);
        told.add(method.getName() + List.of(arguments) + " -> " + got);
        if (got.equals(due)) {
            return true;
        }
        System.out.println("run " + run + ", call " + told.size() + ": the model answers " + due + "; the last calls:");
        told.subList(Math.max(0, told.size() - 25), told.size()).forEach(System.out::println);
        return false;
    }

    private static String answer(Object object, Method method, Object[] arguments) throws Exception {
        method.setAccessible(true);
        try {
            return String.valueOf(method.invoke(object, arguments));
        } catch (InvocationTargetException thrown) {
            if (thrown.getCause() instanceof NoSuchElementException) {
                return "throws.NoSuchElementException";
            }
            thrown.getCause().printStackTrace();
            return "throws." + thrown.getCause();
        }
    }

    private static int number(String text, int from) {
        byte[] bytes = text.getBytes(StandardCharsets.ISO_8859_1);
        int value = 0;
        for (int i = from; i < from + 4; i++) {
            value = value << 8 | (i < bytes.length ? bytes[i] & 255 : ' ');
        }
        return value;
    }

    private int upTo(int most) {
        return lots.nextInt(most + 1);
    }

    private String row(int wide, String letters) {
        StringBuilder row = new StringBuilder();
        for (int x = 0; x < wide; x++) {
            row.append(letters.charAt(lots.nextInt(letters.length())));
        }
        return row.toString();
    }

    private String text() {
        int wide = 2 + upTo(6);
        int high = 2 + upTo(4);
        String letters = new String[] {"mmms", "mms", "mmmmmmmms", "ms", "m", "mss"}[lots.nextInt(6)];
        List<String> lines = new ArrayList<>();
        for (int y = 0; y < high; y++) {
            lines.add("row " + row(wide, letters));
        }
        String wanted = new String[] {"msa", "aam", "aaas", "ma"}[lots.nextInt(4)];
        for (int y = upTo(high); y > 0; y--) {
            lines.add("want " + row(wide, wanted));
        }
        for (int y = upTo(high); y > 0; y--) {
            lines.add("moon " + row(wide, "msaa"));
        }
        for (int i = upTo(4); i > 0; i--) {
            lines.add("gate " + spot(wide, high));
        }
        if (upTo(3) > 0) {
            lines.add("noise " + spot(wide, high));
        }
        for (int i = upTo(upTo(5)); i > 0; i--) {
            lines.add("heard " + upTo(5) + " from " + spot(wide, high));
        }
        int walkers = upTo(5);
        for (int i = 0; i < walkers; i++) {
            String kind = new String[] {"left", "right", "once", "cow", "lot"}[lots.nextInt(5)];
            String side = new String[] {"north", "east", "south", "west"}[lots.nextInt(4)];
            lines.add("walker " + (char) ('a' + i + upTo(upTo(1))) + " " + kind + " at " + spot(wide, high) + " faces " + side
                + " leaves " + upTo(lots.nextInt(4) == 0 ? 99 : 9));
        }
        java.util.Collections.shuffle(lines, lots);
        int dusk = 1 + upTo(new int[] {9, 40, 199}[lots.nextInt(3)]);
        lines.add(0, "meadow wide " + wide + " high " + high + " dusk " + dusk
            + " pays " + upTo(99) + " shuts " + (1 + upTo(3)));
        String text = String.join(lots.nextBoolean() ? ";" : " ; ", lines);
        return lots.nextInt(3) == 0 ? spoilt(text) : text;
    }

    private String spot(int wide, int high) {
        return upTo(wide - 1) + "," + (lots.nextBoolean() ? " " : "") + upTo(high - 1);
    }

    private String spoilt(String text) {
        int at = lots.nextInt(text.length());
        switch (lots.nextInt(4)) {
            case 0:
                return text.substring(0, at);
            case 1:
                return text.substring(0, at) + text.substring(at + 1);
            case 2:
                return text.substring(0, at) + WORDS[lots.nextInt(WORDS.length)] + text.substring(at);
            default:
                String[] tokens = text.split("(?<=[ ;,])|(?=[ ;,])");
                tokens[lots.nextInt(tokens.length)] = WORDS[lots.nextInt(WORDS.length)];
                return String.join("", tokens);
        }
    }
}
