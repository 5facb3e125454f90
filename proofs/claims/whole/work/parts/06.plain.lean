def oiadd {β : Type} (k : KT β) : KT β := fun lv st hp => match st with
  | .int y :: .int x :: r => k lv (.int (x + y) :: r) hp
  | _ => none
theorem s_iadd {β : Type} {X : MX} {fin : β → HP → Option Value × HP} {pc : Nat} {k : KT β} {mc ms : Nat} (pc2 : Nat) (hd : decode X.2.1 pc = .ok (.iadd, 1)) (hp2 : pc + 1 = pc2) (h : Snd X fin pc2 k mc ms) : Snd X fin pc (oiadd k) mc ms := by
  subst hp2
  refine h.row ?_
  intro lv st hp out ho
  unfold oiadd at ho
  split at ho
  · exact ⟨_, ho, fun p l e s m args below meth c H locs cells slots Q ad lsA C hl w => lv_iadd C.1 C.2.1 hd w⟩
  · cases ho
def oisub {β : Type} (k : KT β) : KT β := fun lv st hp => match st with
  | .int y :: .int x :: r => k lv (.int (x - y) :: r) hp
  | _ => none
theorem s_isub {β : Type} {X : MX} {fin : β → HP → Option Value × HP} {pc : Nat} {k : KT β} {mc ms : Nat} (pc2 : Nat) (hd : decode X.2.1 pc = .ok (.isub, 1)) (hp2 : pc + 1 = pc2) (h : Snd X fin pc2 k mc ms) : Snd X fin pc (oisub k) mc ms := by
  subst hp2
  refine h.row ?_
  intro lv st hp out ho
  unfold oisub at ho
  split at ho
  · exact ⟨_, ho, fun p l e s m args below meth c H locs cells slots Q ad lsA C hl w => lv_isub C.1 C.2.1 hd w⟩
  · cases ho
def oimul {β : Type} (k : KT β) : KT β := fun lv st hp => match st with
  | .int y :: .int x :: r => k lv (.int (x * y) :: r) hp
  | _ => none
theorem s_imul {β : Type} {X : MX} {fin : β → HP → Option Value × HP} {pc : Nat} {k : KT β} {mc ms : Nat} (pc2 : Nat) (hd : decode X.2.1 pc = .ok (.imul, 1)) (hp2 : pc + 1 = pc2) (h : Snd X fin pc2 k mc ms) : Snd X fin pc (oimul k) mc ms := by
  subst hp2
  refine h.row ?_
  intro lv st hp out ho
  unfold oimul at ho
  split at ho
  · exact ⟨_, ho, fun p l e s m args below meth c H locs cells slots Q ad lsA C hl w => lv_imul C.1 C.2.1 hd w⟩
  · cases ho
def oiand {β : Type} (k : KT β) : KT β := fun lv st hp => match st with
  | .int y :: .int x :: r => k lv (.int (x &&& y) :: r) hp
  | _ => none
theorem s_iand {β : Type} {X : MX} {fin : β → HP → Option Value × HP} {pc : Nat} {k : KT β} {mc ms : Nat} (pc2 : Nat) (hd : decode X.2.1 pc = .ok (.iand, 1)) (hp2 : pc + 1 = pc2) (h : Snd X fin pc2 k mc ms) : Snd X fin pc (oiand k) mc ms := by
  subst hp2
  refine h.row ?_
  intro lv st hp out ho
  unfold oiand at ho
  split at ho
  · exact ⟨_, ho, fun p l e s m args below meth c H locs cells slots Q ad lsA C hl w => lv_iand C.1 C.2.1 hd w⟩
  · cases ho
def oior {β : Type} (k : KT β) : KT β := fun lv st hp => match st with
  | .int y :: .int x :: r => k lv (.int (x ||| y) :: r) hp
  | _ => none
theorem s_ior {β : Type} {X : MX} {fin : β → HP → Option Value × HP} {pc : Nat} {k : KT β} {mc ms : Nat} (pc2 : Nat) (hd : decode X.2.1 pc = .ok (.ior, 1)) (hp2 : pc + 1 = pc2) (h : Snd X fin pc2 k mc ms) : Snd X fin pc (oior k) mc ms := by
  subst hp2
  refine h.row ?_
  intro lv st hp out ho
  unfold oior at ho
  split at ho
  · exact ⟨_, ho, fun p l e s m args below meth c H locs cells slots Q ad lsA C hl w => lv_ior C.1 C.2.1 hd w⟩
  · cases ho
def oixor {β : Type} (k : KT β) : KT β := fun lv st hp => match st with
  | .int y :: .int x :: r => k lv (.int (x ^^^ y) :: r) hp
  | _ => none
theorem s_ixor {β : Type} {X : MX} {fin : β → HP → Option Value × HP} {pc : Nat} {k : KT β} {mc ms : Nat} (pc2 : Nat) (hd : decode X.2.1 pc = .ok (.ixor, 1)) (hp2 : pc + 1 = pc2) (h : Snd X fin pc2 k mc ms) : Snd X fin pc (oixor k) mc ms := by
  subst hp2
  refine h.row ?_
  intro lv st hp out ho
  unfold oixor at ho
  split at ho
  · exact ⟨_, ho, fun p l e s m args below meth c H locs cells slots Q ad lsA C hl w => lv_ixor C.1 C.2.1 hd w⟩
  · cases ho
def oishl {β : Type} (k : KT β) : KT β := fun lv st hp => match st with
  | .int y :: .int x :: r => k lv (.int (x <<< (y &&& 31)) :: r) hp
  | _ => none
theorem s_ishl {β : Type} {X : MX} {fin : β → HP → Option Value × HP} {pc : Nat} {k : KT β} {mc ms : Nat} (pc2 : Nat) (hd : decode X.2.1 pc = .ok (.ishl, 1)) (hp2 : pc + 1 = pc2) (h : Snd X fin pc2 k mc ms) : Snd X fin pc (oishl k) mc ms := by
  subst hp2
  refine h.row ?_
  intro lv st hp out ho
  unfold oishl at ho
  split at ho
  · exact ⟨_, ho, fun p l e s m args below meth c H locs cells slots Q ad lsA C hl w => lv_ishl C.1 C.2.1 hd w⟩
  · cases ho
def oishr {β : Type} (k : KT β) : KT β := fun lv st hp => match st with
  | .int y :: .int x :: r => k lv (.int (x >>> (y &&& 31)) :: r) hp
  | _ => none
theorem s_ishr {β : Type} {X : MX} {fin : β → HP → Option Value × HP} {pc : Nat} {k : KT β} {mc ms : Nat} (pc2 : Nat) (hd : decode X.2.1 pc = .ok (.ishr, 1)) (hp2 : pc + 1 = pc2) (h : Snd X fin pc2 k mc ms) : Snd X fin pc (oishr k) mc ms := by
  subst hp2
  refine h.row ?_
  intro lv st hp out ho
  unfold oishr at ho
  split at ho
  · exact ⟨_, ho, fun p l e s m args below meth c H locs cells slots Q ad lsA C hl w => lv_ishr C.1 C.2.1 hd w⟩
  · cases ho
def oiushr {β : Type} (k : KT β) : KT β := fun lv st hp => match st with
  | .int y :: .int x :: r => k lv (.int ((x.toUInt32 >>> (y.toUInt32 &&& Int32.toUInt32 31)).toInt32) :: r) hp
  | _ => none
theorem s_iushr {β : Type} {X : MX} {fin : β → HP → Option Value × HP} {pc : Nat} {k : KT β} {mc ms : Nat} (pc2 : Nat) (hd : decode X.2.1 pc = .ok (.iushr, 1)) (hp2 : pc + 1 = pc2) (h : Snd X fin pc2 k mc ms) : Snd X fin pc (oiushr k) mc ms := by
  subst hp2
  refine h.row ?_
  intro lv st hp out ho
  unfold oiushr at ho
  split at ho
  · exact ⟨_, ho, fun p l e s m args below meth c H locs cells slots Q ad lsA C hl w => lv_iushr C.1 C.2.1 hd rfl w⟩
  · cases ho
def oidiv {β : Type} (k : KT β) : KT β := fun lv st hp => match st with
  | .int y :: .int x :: r => if ¬ y = 0 then k lv (.int (x / y) :: r) hp else none
  | _ => none
theorem s_idiv {β : Type} {X : MX} {fin : β → HP → Option Value × HP} {pc : Nat} {k : KT β} {mc ms : Nat} (pc2 : Nat) (hd : decode X.2.1 pc = .ok (.idiv, 1)) (hp2 : pc + 1 = pc2) (h : Snd X fin pc2 k mc ms) : Snd X fin pc (oidiv k) mc ms := by
  subst hp2
  refine h.row ?_
  intro lv st hp out ho
  unfold oidiv at ho
  split at ho
  · split at ho
    · rename_i hc
      exact ⟨_, ho, fun p l e s m args below meth c H locs cells slots Q ad lsA C hl w => lv_idiv C.1 C.2.1 hd hc w⟩
    · cases ho
  · cases ho
def oirem {β : Type} (k : KT β) : KT β := fun lv st hp => match st with
  | .int y :: .int x :: r => if ¬ y = 0 then k lv (.int (x - x / y * y) :: r) hp else none
  | _ => none
theorem s_irem {β : Type} {X : MX} {fin : β → HP → Option Value × HP} {pc : Nat} {k : KT β} {mc ms : Nat} (pc2 : Nat) (hd : decode X.2.1 pc = .ok (.irem, 1)) (hp2 : pc + 1 = pc2) (h : Snd X fin pc2 k mc ms) : Snd X fin pc (oirem k) mc ms := by
  subst hp2
  refine h.row ?_
  intro lv st hp out ho
  unfold oirem at ho
  split at ho
  · split at ho
    · rename_i hc
      exact ⟨_, ho, fun p l e s m args below meth c H locs cells slots Q ad lsA C hl w => lv_irem C.1 C.2.1 hd hc w⟩
    · cases ho
  · cases ho
def oladd {β : Type} (k : KT β) : KT β := fun lv st hp => match st with
  | .long y :: .long x :: r => k lv (.long (x + y) :: r) hp
  | _ => none
theorem s_ladd {β : Type} {X : MX} {fin : β → HP → Option Value × HP} {pc : Nat} {k : KT β} {mc ms : Nat} (pc2 : Nat) (hd : decode X.2.1 pc = .ok (.ladd, 1)) (hp2 : pc + 1 = pc2) (h : Snd X fin pc2 k mc ms) : Snd X fin pc (oladd k) mc ms := by
  subst hp2
  refine h.row ?_
  intro lv st hp out ho
  unfold oladd at ho
  split at ho
  · exact ⟨_, ho, fun p l e s m args below meth c H locs cells slots Q ad lsA C hl w => lv_ladd C.1 C.2.1 hd w⟩
  · cases ho
def olsub {β : Type} (k : KT β) : KT β := fun lv st hp => match st with
  | .long y :: .long x :: r => k lv (.long (x - y) :: r) hp
  | _ => none
theorem s_lsub {β : Type} {X : MX} {fin : β → HP → Option Value × HP} {pc : Nat} {k : KT β} {mc ms : Nat} (pc2 : Nat) (hd : decode X.2.1 pc = .ok (.lsub, 1)) (hp2 : pc + 1 = pc2) (h : Snd X fin pc2 k mc ms) : Snd X fin pc (olsub k) mc ms := by
  subst hp2
  refine h.row ?_
  intro lv st hp out ho
  unfold olsub at ho
  split at ho
  · exact ⟨_, ho, fun p l e s m args below meth c H locs cells slots Q ad lsA C hl w => lv_lsub C.1 C.2.1 hd w⟩
  · cases ho
def olmul {β : Type} (k : KT β) : KT β := fun lv st hp => match st with
  | .long y :: .long x :: r => k lv (.long (x * y) :: r) hp
  | _ => none
theorem s_lmul {β : Type} {X : MX} {fin : β → HP → Option Value × HP} {pc : Nat} {k : KT β} {mc ms : Nat} (pc2 : Nat) (hd : decode X.2.1 pc = .ok (.lmul, 1)) (hp2 : pc + 1 = pc2) (h : Snd X fin pc2 k mc ms) : Snd X fin pc (olmul k) mc ms := by
  subst hp2
  refine h.row ?_
  intro lv st hp out ho
  unfold olmul at ho
  split at ho
  · exact ⟨_, ho, fun p l e s m args below meth c H locs cells slots Q ad lsA C hl w => lv_lmul C.1 C.2.1 hd w⟩
  · cases ho
def oland {β : Type} (k : KT β) : KT β := fun lv st hp => match st with
  | .long y :: .long x :: r => k lv (.long (x &&& y) :: r) hp
  | _ => none
theorem s_land {β : Type} {X : MX} {fin : β → HP → Option Value × HP} {pc : Nat} {k : KT β} {mc ms : Nat} (pc2 : Nat) (hd : decode X.2.1 pc = .ok (.land, 1)) (hp2 : pc + 1 = pc2) (h : Snd X fin pc2 k mc ms) : Snd X fin pc (oland k) mc ms := by
  subst hp2
  refine h.row ?_
  intro lv st hp out ho
  unfold oland at ho
  split at ho
  · exact ⟨_, ho, fun p l e s m args below meth c H locs cells slots Q ad lsA C hl w => lv_land C.1 C.2.1 hd w⟩
  · cases ho
def olor {β : Type} (k : KT β) : KT β := fun lv st hp => match st with
  | .long y :: .long x :: r => k lv (.long (x ||| y) :: r) hp
  | _ => none
theorem s_lor {β : Type} {X : MX} {fin : β → HP → Option Value × HP} {pc : Nat} {k : KT β} {mc ms : Nat} (pc2 : Nat) (hd : decode X.2.1 pc = .ok (.lor, 1)) (hp2 : pc + 1 = pc2) (h : Snd X fin pc2 k mc ms) : Snd X fin pc (olor k) mc ms := by
  subst hp2
  refine h.row ?_
  intro lv st hp out ho
  unfold olor at ho
  split at ho
  · exact ⟨_, ho, fun p l e s m args below meth c H locs cells slots Q ad lsA C hl w => lv_lor C.1 C.2.1 hd w⟩
  · cases ho
def olxor {β : Type} (k : KT β) : KT β := fun lv st hp => match st with
  | .long y :: .long x :: r => k lv (.long (x ^^^ y) :: r) hp
  | _ => none
theorem s_lxor {β : Type} {X : MX} {fin : β → HP → Option Value × HP} {pc : Nat} {k : KT β} {mc ms : Nat} (pc2 : Nat) (hd : decode X.2.1 pc = .ok (.lxor, 1)) (hp2 : pc + 1 = pc2) (h : Snd X fin pc2 k mc ms) : Snd X fin pc (olxor k) mc ms := by
  subst hp2
  refine h.row ?_
  intro lv st hp out ho
  unfold olxor at ho
  split at ho
  · exact ⟨_, ho, fun p l e s m args below meth c H locs cells slots Q ad lsA C hl w => lv_lxor C.1 C.2.1 hd w⟩
  · cases ho
def olrem {β : Type} (k : KT β) : KT β := fun lv st hp => match st with
  | .long y :: .long x :: r => if ¬ y = 0 then k lv (.long (x - x / y * y) :: r) hp else none
  | _ => none
theorem s_lrem {β : Type} {X : MX} {fin : β → HP → Option Value × HP} {pc : Nat} {k : KT β} {mc ms : Nat} (pc2 : Nat) (hd : decode X.2.1 pc = .ok (.lrem, 1)) (hp2 : pc + 1 = pc2) (h : Snd X fin pc2 k mc ms) : Snd X fin pc (olrem k) mc ms := by
  subst hp2
  refine h.row ?_
  intro lv st hp out ho
  unfold olrem at ho
  split at ho
  · split at ho
    · rename_i hc
      exact ⟨_, ho, fun p l e s m args below meth c H locs cells slots Q ad lsA C hl w => lv_lrem C.1 C.2.1 hd hc w⟩
    · cases ho
  · cases ho
def olneg {β : Type} (k : KT β) : KT β := fun lv st hp => match st with
  | .long x :: r => k lv (.long (-x) :: r) hp
  | _ => none
theorem s_lneg {β : Type} {X : MX} {fin : β → HP → Option Value × HP} {pc : Nat} {k : KT β} {mc ms : Nat} (pc2 : Nat) (hd : decode X.2.1 pc = .ok (.lneg, 1)) (hp2 : pc + 1 = pc2) (h : Snd X fin pc2 k mc ms) : Snd X fin pc (olneg k) mc ms := by
  subst hp2
  refine h.row ?_
  intro lv st hp out ho
  unfold olneg at ho
  split at ho
  · exact ⟨_, ho, fun p l e s m args below meth c H locs cells slots Q ad lsA C hl w => lv_lneg C.1 C.2.1 hd w⟩
  · cases ho
def olshl {β : Type} (k : KT β) : KT β := fun lv st hp => match st with
  | .int y :: .long x :: r => k lv (.long (x <<< (y.toInt64 &&& 63)) :: r) hp
  | _ => none
theorem s_lshl {β : Type} {X : MX} {fin : β → HP → Option Value × HP} {pc : Nat} {k : KT β} {mc ms : Nat} (pc2 : Nat) (hd : decode X.2.1 pc = .ok (.lshl, 1)) (hp2 : pc + 1 = pc2) (h : Snd X fin pc2 k mc ms) : Snd X fin pc (olshl k) mc ms := by
  subst hp2
  refine h.row ?_
  intro lv st hp out ho
  unfold olshl at ho
  split at ho
  · exact ⟨_, ho, fun p l e s m args below meth c H locs cells slots Q ad lsA C hl w => lv_lshl C.1 C.2.1 hd rfl w⟩
  · cases ho
def olshr {β : Type} (k : KT β) : KT β := fun lv st hp => match st with
  | .int y :: .long x :: r => k lv (.long (x >>> (y.toInt64 &&& 63)) :: r) hp
  | _ => none
theorem s_lshr {β : Type} {X : MX} {fin : β → HP → Option Value × HP} {pc : Nat} {k : KT β} {mc ms : Nat} (pc2 : Nat) (hd : decode X.2.1 pc = .ok (.lshr, 1)) (hp2 : pc + 1 = pc2) (h : Snd X fin pc2 k mc ms) : Snd X fin pc (olshr k) mc ms := by
  subst hp2
  refine h.row ?_
  intro lv st hp out ho
  unfold olshr at ho
  split at ho
  · exact ⟨_, ho, fun p l e s m args below meth c H locs cells slots Q ad lsA C hl w => lv_lshr C.1 C.2.1 hd rfl w⟩
  · cases ho
def olushr {β : Type} (k : KT β) : KT β := fun lv st hp => match st with
  | .int y :: .long x :: r => k lv (.long ((x.toUInt64 >>> (y.toInt64.toUInt64 &&& Int64.toUInt64 63)).toInt64) :: r) hp
  | _ => none
theorem s_lushr {β : Type} {X : MX} {fin : β → HP → Option Value × HP} {pc : Nat} {k : KT β} {mc ms : Nat} (pc2 : Nat) (hd : decode X.2.1 pc = .ok (.lushr, 1)) (hp2 : pc + 1 = pc2) (h : Snd X fin pc2 k mc ms) : Snd X fin pc (olushr k) mc ms := by
  subst hp2
  refine h.row ?_
  intro lv st hp out ho
  unfold olushr at ho
  split at ho
  · exact ⟨_, ho, fun p l e s m args below meth c H locs cells slots Q ad lsA C hl w => lv_lushr C.1 C.2.1 hd rfl w⟩
  · cases ho
def olcmp {β : Type} (k : KT β) : KT β := fun lv st hp => match st with
  | .long y :: .long x :: r => k lv (.int (lg_cmp x y) :: r) hp
  | _ => none
theorem s_lcmp {β : Type} {X : MX} {fin : β → HP → Option Value × HP} {pc : Nat} {k : KT β} {mc ms : Nat} (pc2 : Nat) (hd : decode X.2.1 pc = .ok (.lcmp, 1)) (hp2 : pc + 1 = pc2) (h : Snd X fin pc2 k mc ms) : Snd X fin pc (olcmp k) mc ms := by
  subst hp2
  refine h.row ?_
  intro lv st hp out ho
  unfold olcmp at ho
  split at ho
  · exact ⟨_, ho, fun p l e s m args below meth c H locs cells slots Q ad lsA C hl w => W.lcmp C.1 C.2.1 hd w⟩
  · cases ho
def oi2l {β : Type} (k : KT β) : KT β := fun lv st hp => match st with
  | .int x :: r => k lv (.long x.toInt64 :: r) hp
  | _ => none
theorem s_i2l {β : Type} {X : MX} {fin : β → HP → Option Value × HP} {pc : Nat} {k : KT β} {mc ms : Nat} (pc2 : Nat) (hd : decode X.2.1 pc = .ok (.i2l, 1)) (hp2 : pc + 1 = pc2) (h : Snd X fin pc2 k mc ms) : Snd X fin pc (oi2l k) mc ms := by
  subst hp2
  refine h.row ?_
  intro lv st hp out ho
  unfold oi2l at ho
  split at ho
  · exact ⟨_, ho, fun p l e s m args below meth c H locs cells slots Q ad lsA C hl w => lv_i2l C.1 C.2.1 hd rfl w⟩
  · cases ho
def ol2i {β : Type} (k : KT β) : KT β := fun lv st hp => match st with
  | .long x :: r => k lv (.int x.toInt32 :: r) hp
  | _ => none
theorem s_l2i {β : Type} {X : MX} {fin : β → HP → Option Value × HP} {pc : Nat} {k : KT β} {mc ms : Nat} (pc2 : Nat) (hd : decode X.2.1 pc = .ok (.l2i, 1)) (hp2 : pc + 1 = pc2) (h : Snd X fin pc2 k mc ms) : Snd X fin pc (ol2i k) mc ms := by
  subst hp2
  refine h.row ?_
  intro lv st hp out ho
  unfold ol2i at ho
  split at ho
  · exact ⟨_, ho, fun p l e s m args below meth c H locs cells slots Q ad lsA C hl w => lv_l2i C.1 C.2.1 hd rfl w⟩
  · cases ho
def oi2b {β : Type} (k : KT β) : KT β := fun lv st hp => match st with
  | .int x :: r => k lv (.int x.toInt8.toInt32 :: r) hp
  | _ => none
theorem s_i2b {β : Type} {X : MX} {fin : β → HP → Option Value × HP} {pc : Nat} {k : KT β} {mc ms : Nat} (pc2 : Nat) (hd : decode X.2.1 pc = .ok (.i2b, 1)) (hp2 : pc + 1 = pc2) (h : Snd X fin pc2 k mc ms) : Snd X fin pc (oi2b k) mc ms := by
  subst hp2
  refine h.row ?_
  intro lv st hp out ho
  unfold oi2b at ho
  split at ho
  · exact ⟨_, ho, fun p l e s m args below meth c H locs cells slots Q ad lsA C hl w => lv_i2b C.1 C.2.1 hd rfl w⟩
  · cases ho
def oi2c {β : Type} (k : KT β) : KT β := fun lv st hp => match st with
  | .int x :: r => k lv (.int (x.toUInt32 % 65536).toInt32 :: r) hp
  | _ => none
theorem s_i2c {β : Type} {X : MX} {fin : β → HP → Option Value × HP} {pc : Nat} {k : KT β} {mc ms : Nat} (pc2 : Nat) (hd : decode X.2.1 pc = .ok (.i2c, 1)) (hp2 : pc + 1 = pc2) (h : Snd X fin pc2 k mc ms) : Snd X fin pc (oi2c k) mc ms := by
  subst hp2
  refine h.row ?_
  intro lv st hp out ho
  unfold oi2c at ho
  split at ho
  · exact ⟨_, ho, fun p l e s m args below meth c H locs cells slots Q ad lsA C hl w => lv_i2c C.1 C.2.1 hd rfl w⟩
  · cases ho
def odup {β : Type} (k : KT β) : KT β := fun lv st hp => match st with
  | v :: r => if v.category = 1 then k lv (v :: v :: r) hp else none
  | _ => none
theorem s_dup {β : Type} {X : MX} {fin : β → HP → Option Value × HP} {pc : Nat} {k : KT β} {mc ms : Nat} (pc2 : Nat) (hd : decode X.2.1 pc = .ok (.dup, 1)) (hp2 : pc + 1 = pc2) (h : Snd X fin pc2 k mc ms) : Snd X fin pc (odup k) mc ms := by
  subst hp2
  refine h.row ?_
  intro lv st hp out ho
  unfold odup at ho
  split at ho
  · split at ho
    · rename_i hc
      exact ⟨_, ho, fun p l e s m args below meth c H locs cells slots Q ad lsA C hl w => lv_dup C.1 C.2.1 hd (by rw [rv_cat]; exact hc) w⟩
    · cases ho
  · cases ho
def opop {β : Type} (k : KT β) : KT β := fun lv st hp => match st with
  | v :: r => if v.category = 1 then k lv (r) hp else none
  | _ => none
theorem s_pop {β : Type} {X : MX} {fin : β → HP → Option Value × HP} {pc : Nat} {k : KT β} {mc ms : Nat} (pc2 : Nat) (hd : decode X.2.1 pc = .ok (.pop, 1)) (hp2 : pc + 1 = pc2) (h : Snd X fin pc2 k mc ms) : Snd X fin pc (opop k) mc ms := by
  subst hp2
  refine h.row ?_
  intro lv st hp out ho
  unfold opop at ho
  split at ho
  · split at ho
    · rename_i hc
      exact ⟨_, ho, fun p l e s m args below meth c H locs cells slots Q ad lsA C hl w => lv_pop C.1 C.2.1 hd (by rw [rv_cat]; exact hc) w⟩
    · cases ho
  · cases ho
def odup2 {β : Type} (k : KT β) : KT β := fun lv st hp => match st with
  | v :: u :: r => if v.category = 1 ∧ u.category = 1 then k lv (v :: u :: v :: u :: r) hp else none
  | _ => none
theorem s_dup2 {β : Type} {X : MX} {fin : β → HP → Option Value × HP} {pc : Nat} {k : KT β} {mc ms : Nat} (pc2 : Nat) (hd : decode X.2.1 pc = .ok (.dup2, 1)) (hp2 : pc + 1 = pc2) (h : Snd X fin pc2 k mc ms) : Snd X fin pc (odup2 k) mc ms := by
  subst hp2
  refine h.row ?_
  intro lv st hp out ho
  unfold odup2 at ho
  split at ho
  · split at ho
    · rename_i hc
      exact ⟨_, ho, fun p l e s m args below meth c H locs cells slots Q ad lsA C hl w => lv_dup2_11 C.1 C.2.1 hd (by rw [rv_cat]; exact hc.1) (by rw [rv_cat]; exact hc.2) w⟩
    · cases ho
  · cases ho
def oConst {β : Type} (v : Value) (k : KT β) : KT β := fun lv st hp => k lv (v :: st) hp
theorem s_iconst {β : Type} {X : MX} {fin : β → HP → Option Value × HP} {pc : Nat} {k : KT β} {mc ms : Nat} {n : Int} (pc2 : Nat) (v : Int32) (hv : Int32.ofInt n = v) (hd : decode X.2.1 pc = .ok (.iconst n, 1)) (hp2 : pc + 1 = pc2) (h : Snd X fin pc2 k mc ms) : Snd X fin pc (oConst (.int v) k) mc ms := by
  subst hp2
  refine h.row ?_
  intro lv st hp out ho
  exact ⟨_, ho, fun p l e s m args below meth c H locs cells slots Q ad lsA C hl w => lv_iconst C.1 C.2.1 hd hv w⟩
theorem s_bipush {β : Type} {X : MX} {fin : β → HP → Option Value × HP} {pc : Nat} {k : KT β} {mc ms : Nat} {n : Int} (pc2 : Nat) (v : Int32) (hv : (Int8.ofInt n).toInt32 = v) (hd : decode X.2.1 pc = .ok (.bipush n, 2)) (hp2 : pc + 2 = pc2) (h : Snd X fin pc2 k mc ms) : Snd X fin pc (oConst (.int v) k) mc ms := by
  subst hp2
  refine h.row ?_
  intro lv st hp out ho
  exact ⟨_, ho, fun p l e s m args below meth c H locs cells slots Q ad lsA C hl w => lv_bipush C.1 C.2.1 hd hv w⟩
theorem s_sipush {β : Type} {X : MX} {fin : β → HP → Option Value × HP} {pc : Nat} {k : KT β} {mc ms : Nat} {n : Int} (pc2 : Nat) (v : Int32) (hv : (Int16.ofInt n).toInt32 = v) (hd : decode X.2.1 pc = .ok (.sipush n, 3)) (hp2 : pc + 3 = pc2) (h : Snd X fin pc2 k mc ms) : Snd X fin pc (oConst (.int v) k) mc ms := by
  subst hp2
  refine h.row ?_
  intro lv st hp out ho
  exact ⟨_, ho, fun p l e s m args below meth c H locs cells slots Q ad lsA C hl w => lv_sipush C.1 C.2.1 hd hv w⟩
theorem s_lconst {β : Type} {X : MX} {fin : β → HP → Option Value × HP} {pc : Nat} {k : KT β} {mc ms : Nat} {n : Fin 2} (pc2 : Nat) (v : Int64) (hv : Int64.ofNat (n : Nat) = v) (hd : decode X.2.1 pc = .ok (.lconst n, 1)) (hp2 : pc + 1 = pc2) (h : Snd X fin pc2 k mc ms) : Snd X fin pc (oConst (.long v) k) mc ms := by
  subst hp2
  refine h.row ?_
  intro lv st hp out ho
  exact ⟨_, ho, fun p l e s m args below meth c H locs cells slots Q ad lsA C hl w => lv_lconst C.1 C.2.1 hd hv w⟩
theorem s_ldc {β : Type} {X : MX} {fin : β → HP → Option Value × HP} {pc : Nat} {k : KT β} {mc ms : Nat} {i : Nat} (pc2 : Nat) (v : Int32) (hw : Cond.constant X.1.cls i v ∈ WS) (hd : decode X.2.1 pc = .ok (.ldc i, 2)) (hp2 : pc + 2 = pc2) (h : Snd X fin pc2 k mc ms) : Snd X fin pc (oConst (.int v) k) mc ms := by
  subst hp2
  refine h.row ?_
  intro lv st hp out ho
  exact ⟨_, ho, fun p l e s m args below meth c H locs cells slots Q ad lsA C hl w => lv_ldc C.1 C.2.1 C.2.2.2.2.1 (C.2.2.2.2.2.1 _ hw) hd w⟩
theorem s_ldcw {β : Type} {X : MX} {fin : β → HP → Option Value × HP} {pc : Nat} {k : KT β} {mc ms : Nat} {i : Nat} (pc2 : Nat) (v : Int32) (hw : Cond.constant X.1.cls i v ∈ WS) (hd : decode X.2.1 pc = .ok (.ldc_w i, 3)) (hp2 : pc + 3 = pc2) (h : Snd X fin pc2 k mc ms) : Snd X fin pc (oConst (.int v) k) mc ms := by
  subst hp2
  refine h.row ?_
  intro lv st hp out ho
  exact ⟨_, ho, fun p l e s m args below meth c H locs cells slots Q ad lsA C hl w => lv_ldcw C.1 C.2.1 C.2.2.2.2.1 (C.2.2.2.2.2.1 _ hw) hd w⟩
theorem s_ldc2 {β : Type} {X : MX} {fin : β → HP → Option Value × HP} {pc : Nat} {k : KT β} {mc ms : Nat} {i : Nat} (pc2 : Nat) (v : Int64) (hw : Cond.constantLong X.1.cls i v ∈ WS) (hd : decode X.2.1 pc = .ok (.ldc2_w i, 3)) (hp2 : pc + 3 = pc2) (h : Snd X fin pc2 k mc ms) : Snd X fin pc (oConst (.long v) k) mc ms := by
  subst hp2
  refine h.row ?_
  intro lv st hp out ho
  exact ⟨_, ho, fun p l e s m args below meth c H locs cells slots Q ad lsA C hl w => lv_ldc2 C.1 C.2.1 C.2.2.2.2.1 (C.2.2.2.2.2.1 _ hw) hd w⟩
def oIld {β : Type} (i : Nat) (k : KT β) : KT β := fun lv st hp => match lk lv i with
  | some (.int x) => k lv (.int x :: st) hp
  | _ => none
theorem s_Ildn {β : Type} {X : MX} {fin : β → HP → Option Value × HP} {pc : Nat} {k : KT β} {mc ms : Nat} {j : Fin 4} (i : Nat) (hi : (j : Nat) = i) (pc2 : Nat) (hd : decode X.2.1 pc = .ok (.iload_n j, 1)) (hp2 : pc + 1 = pc2) (h : Snd X fin pc2 k mc ms) : Snd X fin pc (oIld i k) mc ms := by
  subst hp2
  refine h.row ?_
  intro lv st hp out ho
  unfold oIld at ho
  split at ho
  · rename_i hx
    exact ⟨_, ho, fun p l e s m args below meth c H locs cells slots Q ad lsA C hl w => lv_iload_n C.1 C.2.1 hd hi (lk_at hl hx) w⟩
  · cases ho
theorem s_Ild {β : Type} {X : MX} {fin : β → HP → Option Value × HP} {pc : Nat} {k : KT β} {mc ms : Nat} (i : Nat) (pc2 : Nat) (hd : decode X.2.1 pc = .ok (.iload i, 2)) (hp2 : pc + 2 = pc2) (h : Snd X fin pc2 k mc ms) : Snd X fin pc (oIld i k) mc ms := by
  subst hp2
  refine h.row ?_
  intro lv st hp out ho
  unfold oIld at ho
  split at ho
  · rename_i hx
    exact ⟨_, ho, fun p l e s m args below meth c H locs cells slots Q ad lsA C hl w => lv_iload C.1 C.2.1 hd (lk_at hl hx) w⟩
  · cases ho
def oLld {β : Type} (i : Nat) (k : KT β) : KT β := fun lv st hp => match lk lv i with
  | some (.long x) => k lv (.long x :: st) hp
  | _ => none
theorem s_Lldn {β : Type} {X : MX} {fin : β → HP → Option Value × HP} {pc : Nat} {k : KT β} {mc ms : Nat} {j : Fin 4} (i : Nat) (hi : (j : Nat) = i) (pc2 : Nat) (hd : decode X.2.1 pc = .ok (.lload_n j, 1)) (hp2 : pc + 1 = pc2) (h : Snd X fin pc2 k mc ms) : Snd X fin pc (oLld i k) mc ms := by
  subst hp2
  refine h.row ?_
  intro lv st hp out ho
  unfold oLld at ho
  split at ho
  · rename_i hx
    exact ⟨_, ho, fun p l e s m args below meth c H locs cells slots Q ad lsA C hl w => lv_lload_n C.1 C.2.1 hd hi (lk_at hl hx) w⟩
  · cases ho
theorem s_Lld {β : Type} {X : MX} {fin : β → HP → Option Value × HP} {pc : Nat} {k : KT β} {mc ms : Nat} (i : Nat) (pc2 : Nat) (hd : decode X.2.1 pc = .ok (.lload i, 2)) (hp2 : pc + 2 = pc2) (h : Snd X fin pc2 k mc ms) : Snd X fin pc (oLld i k) mc ms := by
  subst hp2
  refine h.row ?_
  intro lv st hp out ho
  unfold oLld at ho
  split at ho
  · rename_i hx
    exact ⟨_, ho, fun p l e s m args below meth c H locs cells slots Q ad lsA C hl w => lv_lload C.1 C.2.1 hd (lk_at hl hx) w⟩
  · cases ho
def oAld {β : Type} (i : Nat) (k : KT β) : KT β := fun lv st hp => match lk lv i with
  | some (.ref x) => k lv (.ref x :: st) hp
  | _ => none
theorem s_Aldn {β : Type} {X : MX} {fin : β → HP → Option Value × HP} {pc : Nat} {k : KT β} {mc ms : Nat} {j : Fin 4} (i : Nat) (hi : (j : Nat) = i) (pc2 : Nat) (hd : decode X.2.1 pc = .ok (.aload_n j, 1)) (hp2 : pc + 1 = pc2) (h : Snd X fin pc2 k mc ms) : Snd X fin pc (oAld i k) mc ms := by
  subst hp2
  refine h.row ?_
  intro lv st hp out ho
  unfold oAld at ho
  split at ho
  · rename_i hx
    exact ⟨_, ho, fun p l e s m args below meth c H locs cells slots Q ad lsA C hl w => lv_aload_n C.1 C.2.1 hd hi (lk_at hl hx) w⟩
  · cases ho
theorem s_Ald {β : Type} {X : MX} {fin : β → HP → Option Value × HP} {pc : Nat} {k : KT β} {mc ms : Nat} (i : Nat) (pc2 : Nat) (hd : decode X.2.1 pc = .ok (.aload i, 2)) (hp2 : pc + 2 = pc2) (h : Snd X fin pc2 k mc ms) : Snd X fin pc (oAld i k) mc ms := by
  subst hp2
  refine h.row ?_
  intro lv st hp out ho
  unfold oAld at ho
  split at ho
  · rename_i hx
    exact ⟨_, ho, fun p l e s m args below meth c H locs cells slots Q ad lsA C hl w => lv_aload C.1 C.2.1 hd (lk_at hl hx) w⟩
  · cases ho
def oIst {β : Type} (i : Nat) (k : KT β) : KT β := fun lv st hp => match st with
  | .int x :: r => k (stI lv i (.int x)) r hp
  | _ => none
theorem s_Istn {β : Type} {X : MX} {fin : β → HP → Option Value × HP} {pc : Nat} {k : KT β} {mc ms : Nat} {j : Fin 4} (i : Nat) (hi : (j : Nat) = i) (pc2 : Nat) (hb : i < X.2.2.1) (hd : decode X.2.1 pc = .ok (.istore_n j, 1)) (hp2 : pc + 1 = pc2) (h : Snd X fin pc2 k mc ms) : Snd X fin pc (oIst i k) mc ms := by
  subst hp2
  refine h.rowS ?_
  intro lv st hp out ho
  unfold oIst at ho
  split at ho
  · exact ⟨_, _, ho, fun p l e s m args below meth c H locs cells slots Q ad lsA C hl w => lv_istore_n C.1 C.2.1 hd hi hl hb (stI_rl ad lv i (.int _)) w⟩
  · cases ho
theorem s_Ist {β : Type} {X : MX} {fin : β → HP → Option Value × HP} {pc : Nat} {k : KT β} {mc ms : Nat} (i : Nat) (pc2 : Nat) (hb : i < X.2.2.1) (hd : decode X.2.1 pc = .ok (.istore i, 2)) (hp2 : pc + 2 = pc2) (h : Snd X fin pc2 k mc ms) : Snd X fin pc (oIst i k) mc ms := by
  subst hp2
  refine h.rowS ?_
  intro lv st hp out ho
  unfold oIst at ho
  split at ho
  · exact ⟨_, _, ho, fun p l e s m args below meth c H locs cells slots Q ad lsA C hl w => lv_istore C.1 C.2.1 hd hl hb (stI_rl ad lv i (.int _)) w⟩
  · cases ho
def oLst {β : Type} (i : Nat) (k : KT β) : KT β := fun lv st hp => match st with
  | .long x :: r => k (stL lv i (.long x)) r hp
  | _ => none
theorem s_Lstn {β : Type} {X : MX} {fin : β → HP → Option Value × HP} {pc : Nat} {k : KT β} {mc ms : Nat} {j : Fin 4} (i : Nat) (hi : (j : Nat) = i) (pc2 : Nat) (hb : i + 1 < X.2.2.1) (hd : decode X.2.1 pc = .ok (.lstore_n j, 1)) (hp2 : pc + 1 = pc2) (h : Snd X fin pc2 k mc ms) : Snd X fin pc (oLst i k) mc ms := by
  subst hp2
  refine h.rowS ?_
  intro lv st hp out ho
  unfold oLst at ho
  split at ho
  · exact ⟨_, _, ho, fun p l e s m args below meth c H locs cells slots Q ad lsA C hl w => lv_lstore_n C.1 C.2.1 hd hi hl hb (stL_rl ad lv i (.long _)) w⟩
  · cases ho
theorem s_Lst {β : Type} {X : MX} {fin : β → HP → Option Value × HP} {pc : Nat} {k : KT β} {mc ms : Nat} (i : Nat) (pc2 : Nat) (hb : i + 1 < X.2.2.1) (hd : decode X.2.1 pc = .ok (.lstore i, 2)) (hp2 : pc + 2 = pc2) (h : Snd X fin pc2 k mc ms) : Snd X fin pc (oLst i k) mc ms := by
  subst hp2
  refine h.rowS ?_
  intro lv st hp out ho
  unfold oLst at ho
  split at ho
  · exact ⟨_, _, ho, fun p l e s m args below meth c H locs cells slots Q ad lsA C hl w => lv_lstore C.1 C.2.1 hd hl hb (stL_rl ad lv i (.long _)) w⟩
  · cases ho
def oAst {β : Type} (i : Nat) (k : KT β) : KT β := fun lv st hp => match st with
  | .ref x :: r => k (stI lv i (.ref x)) r hp
  | _ => none
theorem s_Astn {β : Type} {X : MX} {fin : β → HP → Option Value × HP} {pc : Nat} {k : KT β} {mc ms : Nat} {j : Fin 4} (i : Nat) (hi : (j : Nat) = i) (pc2 : Nat) (hb : i < X.2.2.1) (hd : decode X.2.1 pc = .ok (.astore_n j, 1)) (hp2 : pc + 1 = pc2) (h : Snd X fin pc2 k mc ms) : Snd X fin pc (oAst i k) mc ms := by
  subst hp2
  refine h.rowS ?_
  intro lv st hp out ho
  unfold oAst at ho
  split at ho
  · exact ⟨_, _, ho, fun p l e s m args below meth c H locs cells slots Q ad lsA C hl w => lv_astore_n C.1 C.2.1 hd hi hl hb (stI_rl ad lv i (.ref _)) w⟩
  · cases ho
theorem s_Ast {β : Type} {X : MX} {fin : β → HP → Option Value × HP} {pc : Nat} {k : KT β} {mc ms : Nat} (i : Nat) (pc2 : Nat) (hb : i < X.2.2.1) (hd : decode X.2.1 pc = .ok (.astore i, 2)) (hp2 : pc + 2 = pc2) (h : Snd X fin pc2 k mc ms) : Snd X fin pc (oAst i k) mc ms := by
  subst hp2
  refine h.rowS ?_
  intro lv st hp out ho
  unfold oAst at ho
  split at ho
  · exact ⟨_, _, ho, fun p l e s m args below meth c H locs cells slots Q ad lsA C hl w => lv_astore C.1 C.2.1 hd hl hb (stI_rl ad lv i (.ref _)) w⟩
  · cases ho
def oInc {β : Type} (i : Nat) (n : Int32) (k : KT β) : KT β := fun lv st hp => match lk lv i with
  | some (.int x) => k (stI lv i (.int (x + n))) st hp
  | _ => none
theorem s_inc {β : Type} {X : MX} {fin : β → HP → Option Value × HP} {pc : Nat} {k : KT β} {mc ms : Nat} {z : Int} (i : Nat) (n : Int32) (pc2 : Nat) (hz : Int32.ofInt z = n) (hb : i < X.2.2.1) (hd : decode X.2.1 pc = .ok (.iinc i z, 3)) (hp2 : pc + 3 = pc2) (h : Snd X fin pc2 k mc ms) : Snd X fin pc (oInc i n k) mc ms := by
  subst hp2
  refine h.rowS ?_
  intro lv st hp out ho
  unfold oInc at ho
  split at ho
  · rename_i x hx
    refine ⟨_, _, ho, fun p l e s m args below meth c H locs cells slots Q ad lsA C hl w => ?_⟩
    obtain ⟨j, hj⟩ := List.mem_iff_getElem?.mp (List.mem_map.mpr ⟨(i, .int x), lk_mem hx, rfl⟩ : (i, rv ad (.int x)) ∈ rl ad lv)
    exact lv_iinc C.1 C.2.1 hd hl hj (by rw [hz]) hb (stI_rl ad lv i (.int _)) w
  · cases ho
theorem s_goto {β : Type} {X : MX} {fin : β → HP → Option Value × HP} {pc : Nat} {k : KT β} {mc ms : Nat} {off : Int} (tgt : Nat) (hd : decode X.2.1 pc = .ok (.goto off, 3)) (ht : (pc : Int) + off = (tgt : Int)) (h : Snd X fin tgt k mc ms) : Snd X fin pc k mc ms := by
  refine h.row ?_
  intro lv st hp out ho
  exact ⟨_, ho, fun p l e s m args below meth c H locs cells slots Q ad lsA C hl w => lv_goto C.1 C.2.1 hd ht w⟩
/-- two ways -/
theorem Snd.row2 {β : Type} {X : MX} {fin : β → HP → Option Value × HP} {pc pcT pcF : Nat} {k kt kf : KT β} {mc ms : Nat} (h1 : Snd X fin pcT kt mc ms) (h2 : Snd X fin pcF kf mc ms)
    (hk : ∀ (lv : LV) (st : List Value) (hp : HP) (out : β), k lv st hp = some out → ∃ (st2 : List Value) (P : Prop), (P → kt lv st2 hp = some out) ∧ (¬ P → kf lv st2 hp = some out) ∧
      ∀ (p : Program) (l : Launch) (e : Env) (s : State) (m : MethodId) (args : Array Value) (below : List Frame) (meth : Method) (c : Code) (H : Heap) (locs : List Loc) (cells slots : Nat) (Q : State → Prop) (ad : Nat → Nat) (lsA : Array Slot),
        Cx X p s m args meth c → (P → W p l e X.2.2.2.2.2 s m args below meth c H locs cells slots Q (F0 m pcT lsA (st2.map (rv ad)))) → (¬ P → W p l e X.2.2.2.2.2 s m args below meth c H locs cells slots Q (F0 m pcF lsA (st2.map (rv ad)))) → W p l e X.2.2.2.2.2 s m args below meth c H locs cells slots Q (F0 m pc lsA (st.map (rv ad)))) :
    Snd X fin pc k mc ms := by
  intro p l e s m args below meth c D cy A ad0 n0 mcT msT ad H locs cells slots lv st hp out lsA hs ho hl
  obtain ⟨st2, P, g1, g2, hw⟩ := hk lv st hp out ho
  exact hw p l e s m args below meth c H locs cells slots _ ad lsA hs.1
    (fun hP => h1 p l e s m args below meth c D cy A ad0 n0 mcT msT ad H locs cells slots lv st2 hp out lsA hs (g1 hP) hl)
    (fun hP => h2 p l e s m args below meth c D cy A ad0 n0 mcT msT ad H locs cells slots lv st2 hp out lsA hs (g2 hP) hl)
def oIfeq {β : Type} (kt kf : KT β) : KT β := fun lv st hp => match st with
  | .int x :: r => if x = 0 then kt lv r hp else kf lv r hp
  | _ => none
theorem s_ifeq {β : Type} {X : MX} {fin : β → HP → Option Value × HP} {pc : Nat} {kt kf : KT β} {mc ms : Nat} {off : Int} (tgt pc2 : Nat) (hd : decode X.2.1 pc = .ok (.ifCond .eq off, 3)) (ht : (pc : Int) + off = (tgt : Int)) (hp2 : pc + 3 = pc2) (h1 : Snd X fin tgt kt mc ms) (h2 : Snd X fin pc2 kf mc ms) : Snd X fin pc (oIfeq kt kf) mc ms := by
  subst hp2
  refine h1.row2 h2 ?_
  intro lv st hp out ho
  unfold oIfeq at ho
  split at ho
  · rename_i x r
    exact ⟨r, x = 0, fun hP => by rw [if_pos hP] at ho; exact ho, fun hP => by rw [if_neg hP] at ho; exact ho, fun p l e s m args below meth c H locs cells slots Q ad lsA C w1 w2 => lv_if_eq C.1 C.2.1 hd ht w1 w2⟩
  · cases ho
def oIflt {β : Type} (kt kf : KT β) : KT β := fun lv st hp => match st with
  | .int x :: r => if x < 0 then kt lv r hp else kf lv r hp
  | _ => none
theorem s_iflt {β : Type} {X : MX} {fin : β → HP → Option Value × HP} {pc : Nat} {kt kf : KT β} {mc ms : Nat} {off : Int} (tgt pc2 : Nat) (hd : decode X.2.1 pc = .ok (.ifCond .lt off, 3)) (ht : (pc : Int) + off = (tgt : Int)) (hp2 : pc + 3 = pc2) (h1 : Snd X fin tgt kt mc ms) (h2 : Snd X fin pc2 kf mc ms) : Snd X fin pc (oIflt kt kf) mc ms := by
  subst hp2
  refine h1.row2 h2 ?_
  intro lv st hp out ho
  unfold oIflt at ho
  split at ho
  · rename_i x r
    exact ⟨r, x < 0, fun hP => by rw [if_pos hP] at ho; exact ho, fun hP => by rw [if_neg hP] at ho; exact ho, fun p l e s m args below meth c H locs cells slots Q ad lsA C w1 w2 => lv_if_lt C.1 C.2.1 hd ht w1 w2⟩
  · cases ho
def oIfge {β : Type} (kt kf : KT β) : KT β := fun lv st hp => match st with
  | .int x :: r => if 0 ≤ x then kt lv r hp else kf lv r hp
  | _ => none
theorem s_ifge {β : Type} {X : MX} {fin : β → HP → Option Value × HP} {pc : Nat} {kt kf : KT β} {mc ms : Nat} {off : Int} (tgt pc2 : Nat) (hd : decode X.2.1 pc = .ok (.ifCond .ge off, 3)) (ht : (pc : Int) + off = (tgt : Int)) (hp2 : pc + 3 = pc2) (h1 : Snd X fin tgt kt mc ms) (h2 : Snd X fin pc2 kf mc ms) : Snd X fin pc (oIfge kt kf) mc ms := by
  subst hp2
  refine h1.row2 h2 ?_
  intro lv st hp out ho
  unfold oIfge at ho
  split at ho
  · rename_i x r
    exact ⟨r, 0 ≤ x, fun hP => by rw [if_pos hP] at ho; exact ho, fun hP => by rw [if_neg hP] at ho; exact ho, fun p l e s m args below meth c H locs cells slots Q ad lsA C w1 w2 => lv_if_ge C.1 C.2.1 hd ht w1 w2⟩
  · cases ho
def oIfgt {β : Type} (kt kf : KT β) : KT β := fun lv st hp => match st with
  | .int x :: r => if 0 < x then kt lv r hp else kf lv r hp
  | _ => none
theorem s_ifgt {β : Type} {X : MX} {fin : β → HP → Option Value × HP} {pc : Nat} {kt kf : KT β} {mc ms : Nat} {off : Int} (tgt pc2 : Nat) (hd : decode X.2.1 pc = .ok (.ifCond .gt off, 3)) (ht : (pc : Int) + off = (tgt : Int)) (hp2 : pc + 3 = pc2) (h1 : Snd X fin tgt kt mc ms) (h2 : Snd X fin pc2 kf mc ms) : Snd X fin pc (oIfgt kt kf) mc ms := by
  subst hp2
  refine h1.row2 h2 ?_
  intro lv st hp out ho
  unfold oIfgt at ho
  split at ho
  · rename_i x r
    exact ⟨r, 0 < x, fun hP => by rw [if_pos hP] at ho; exact ho, fun hP => by rw [if_neg hP] at ho; exact ho, fun p l e s m args below meth c H locs cells slots Q ad lsA C w1 w2 => lv_if_gt C.1 C.2.1 hd ht w1 w2⟩
  · cases ho
def oIfle {β : Type} (kt kf : KT β) : KT β := fun lv st hp => match st with
  | .int x :: r => if x ≤ 0 then kt lv r hp else kf lv r hp
  | _ => none
theorem s_ifle {β : Type} {X : MX} {fin : β → HP → Option Value × HP} {pc : Nat} {kt kf : KT β} {mc ms : Nat} {off : Int} (tgt pc2 : Nat) (hd : decode X.2.1 pc = .ok (.ifCond .le off, 3)) (ht : (pc : Int) + off = (tgt : Int)) (hp2 : pc + 3 = pc2) (h1 : Snd X fin tgt kt mc ms) (h2 : Snd X fin pc2 kf mc ms) : Snd X fin pc (oIfle kt kf) mc ms := by
  subst hp2
  refine h1.row2 h2 ?_
  intro lv st hp out ho
  unfold oIfle at ho
  split at ho
  · rename_i x r
    exact ⟨r, x ≤ 0, fun hP => by rw [if_pos hP] at ho; exact ho, fun hP => by rw [if_neg hP] at ho; exact ho, fun p l e s m args below meth c H locs cells slots Q ad lsA C w1 w2 => lv_if_le C.1 C.2.1 hd ht w1 w2⟩
  · cases ho
def oIfne {β : Type} (kt kf : KT β) : KT β := fun lv st hp => match st with
  | .int x :: r => if x = 0 then kf lv r hp else kt lv r hp
  | _ => none
theorem s_ifne {β : Type} {X : MX} {fin : β → HP → Option Value × HP} {pc : Nat} {kt kf : KT β} {mc ms : Nat} {off : Int} (tgt pc2 : Nat) (hd : decode X.2.1 pc = .ok (.ifCond .ne off, 3)) (ht : (pc : Int) + off = (tgt : Int)) (hp2 : pc + 3 = pc2) (h1 : Snd X fin tgt kt mc ms) (h2 : Snd X fin pc2 kf mc ms) : Snd X fin pc (oIfne kt kf) mc ms := by
  subst hp2
  refine h2.row2 h1 ?_
  intro lv st hp out ho
  unfold oIfne at ho
  split at ho
  · rename_i x r
    exact ⟨r, x = 0, fun hP => by rw [if_pos hP] at ho; exact ho, fun hP => by rw [if_neg hP] at ho; exact ho, fun p l e s m args below meth c H locs cells slots Q ad lsA C w1 w2 => lv_if_ne C.1 C.2.1 hd ht w2 w1⟩
  · cases ho
def oCmpeq {β : Type} (kt kf : KT β) : KT β := fun lv st hp => match st with
  | .int y :: .int x :: r => if x = y then kt lv r hp else kf lv r hp
  | _ => none
theorem s_cmpeq {β : Type} {X : MX} {fin : β → HP → Option Value × HP} {pc : Nat} {kt kf : KT β} {mc ms : Nat} {off : Int} (tgt pc2 : Nat) (hd : decode X.2.1 pc = .ok (.if_icmp .eq off, 3)) (ht : (pc : Int) + off = (tgt : Int)) (hp2 : pc + 3 = pc2) (h1 : Snd X fin tgt kt mc ms) (h2 : Snd X fin pc2 kf mc ms) : Snd X fin pc (oCmpeq kt kf) mc ms := by
  subst hp2
  refine h1.row2 h2 ?_
  intro lv st hp out ho
  unfold oCmpeq at ho
  split at ho
  · rename_i y x r
    exact ⟨r, x = y, fun hP => by rw [if_pos hP] at ho; exact ho, fun hP => by rw [if_neg hP] at ho; exact ho, fun p l e s m args below meth c H locs cells slots Q ad lsA C w1 w2 => lv_icmp_eq C.1 C.2.1 hd ht w1 w2⟩
  · cases ho
def oCmplt {β : Type} (kt kf : KT β) : KT β := fun lv st hp => match st with
  | .int y :: .int x :: r => if x < y then kt lv r hp else kf lv r hp
  | _ => none
theorem s_cmplt {β : Type} {X : MX} {fin : β → HP → Option Value × HP} {pc : Nat} {kt kf : KT β} {mc ms : Nat} {off : Int} (tgt pc2 : Nat) (hd : decode X.2.1 pc = .ok (.if_icmp .lt off, 3)) (ht : (pc : Int) + off = (tgt : Int)) (hp2 : pc + 3 = pc2) (h1 : Snd X fin tgt kt mc ms) (h2 : Snd X fin pc2 kf mc ms) : Snd X fin pc (oCmplt kt kf) mc ms := by
  subst hp2
  refine h1.row2 h2 ?_
  intro lv st hp out ho
  unfold oCmplt at ho
  split at ho
  · rename_i y x r
    exact ⟨r, x < y, fun hP => by rw [if_pos hP] at ho; exact ho, fun hP => by rw [if_neg hP] at ho; exact ho, fun p l e s m args below meth c H locs cells slots Q ad lsA C w1 w2 => lv_icmp_lt C.1 C.2.1 hd ht w1 w2⟩
  · cases ho
def oCmpge {β : Type} (kt kf : KT β) : KT β := fun lv st hp => match st with
  | .int y :: .int x :: r => if y ≤ x then kt lv r hp else kf lv r hp
  | _ => none
theorem s_cmpge {β : Type} {X : MX} {fin : β → HP → Option Value × HP} {pc : Nat} {kt kf : KT β} {mc ms : Nat} {off : Int} (tgt pc2 : Nat) (hd : decode X.2.1 pc = .ok (.if_icmp .ge off, 3)) (ht : (pc : Int) + off = (tgt : Int)) (hp2 : pc + 3 = pc2) (h1 : Snd X fin tgt kt mc ms) (h2 : Snd X fin pc2 kf mc ms) : Snd X fin pc (oCmpge kt kf) mc ms := by
  subst hp2
  refine h1.row2 h2 ?_
  intro lv st hp out ho
  unfold oCmpge at ho
  split at ho
  · rename_i y x r
    exact ⟨r, y ≤ x, fun hP => by rw [if_pos hP] at ho; exact ho, fun hP => by rw [if_neg hP] at ho; exact ho, fun p l e s m args below meth c H locs cells slots Q ad lsA C w1 w2 => lv_icmp_ge C.1 C.2.1 hd ht w1 w2⟩
  · cases ho
def oCmpgt {β : Type} (kt kf : KT β) : KT β := fun lv st hp => match st with
  | .int y :: .int x :: r => if y < x then kt lv r hp else kf lv r hp
  | _ => none
theorem s_cmpgt {β : Type} {X : MX} {fin : β → HP → Option Value × HP} {pc : Nat} {kt kf : KT β} {mc ms : Nat} {off : Int} (tgt pc2 : Nat) (hd : decode X.2.1 pc = .ok (.if_icmp .gt off, 3)) (ht : (pc : Int) + off = (tgt : Int)) (hp2 : pc + 3 = pc2) (h1 : Snd X fin tgt kt mc ms) (h2 : Snd X fin pc2 kf mc ms) : Snd X fin pc (oCmpgt kt kf) mc ms := by
  subst hp2
  refine h1.row2 h2 ?_
  intro lv st hp out ho
  unfold oCmpgt at ho
  split at ho
  · rename_i y x r
    exact ⟨r, y < x, fun hP => by rw [if_pos hP] at ho; exact ho, fun hP => by rw [if_neg hP] at ho; exact ho, fun p l e s m args below meth c H locs cells slots Q ad lsA C w1 w2 => lv_icmp_gt C.1 C.2.1 hd ht w1 w2⟩
  · cases ho
def oCmple {β : Type} (kt kf : KT β) : KT β := fun lv st hp => match st with
  | .int y :: .int x :: r => if x ≤ y then kt lv r hp else kf lv r hp
  | _ => none
theorem s_cmple {β : Type} {X : MX} {fin : β → HP → Option Value × HP} {pc : Nat} {kt kf : KT β} {mc ms : Nat} {off : Int} (tgt pc2 : Nat) (hd : decode X.2.1 pc = .ok (.if_icmp .le off, 3)) (ht : (pc : Int) + off = (tgt : Int)) (hp2 : pc + 3 = pc2) (h1 : Snd X fin tgt kt mc ms) (h2 : Snd X fin pc2 kf mc ms) : Snd X fin pc (oCmple kt kf) mc ms := by
  subst hp2
  refine h1.row2 h2 ?_
  intro lv st hp out ho
  unfold oCmple at ho
  split at ho
  · rename_i y x r
    exact ⟨r, x ≤ y, fun hP => by rw [if_pos hP] at ho; exact ho, fun hP => by rw [if_neg hP] at ho; exact ho, fun p l e s m args below meth c H locs cells slots Q ad lsA C w1 w2 => lv_icmp_le C.1 C.2.1 hd ht w1 w2⟩
  · cases ho
def oCmpne {β : Type} (kt kf : KT β) : KT β := fun lv st hp => match st with
  | .int y :: .int x :: r => if x = y then kf lv r hp else kt lv r hp
  | _ => none
theorem s_cmpne {β : Type} {X : MX} {fin : β → HP → Option Value × HP} {pc : Nat} {kt kf : KT β} {mc ms : Nat} {off : Int} (tgt pc2 : Nat) (hd : decode X.2.1 pc = .ok (.if_icmp .ne off, 3)) (ht : (pc : Int) + off = (tgt : Int)) (hp2 : pc + 3 = pc2) (h1 : Snd X fin tgt kt mc ms) (h2 : Snd X fin pc2 kf mc ms) : Snd X fin pc (oCmpne kt kf) mc ms := by
  subst hp2
  refine h2.row2 h1 ?_
  intro lv st hp out ho
  unfold oCmpne at ho
  split at ho
  · rename_i y x r
    exact ⟨r, x = y, fun hP => by rw [if_pos hP] at ho; exact ho, fun hP => by rw [if_neg hP] at ho; exact ho, fun p l e s m args below meth c H locs cells slots Q ad lsA C w1 w2 => lv_icmp_ne C.1 C.2.1 hd ht w2 w1⟩
  · cases ho
def oNul {β : Type} (kt kf : KT β) : KT β := fun lv st hp => match st with
  | .null :: r => kt lv r hp
  | .ref _ :: r => kf lv r hp
  | _ => none
theorem s_ifnull {β : Type} {X : MX} {fin : β → HP → Option Value × HP} {pc : Nat} {kt kf : KT β} {mc ms : Nat} {off : Int} (tgt pc2 : Nat) (hd : decode X.2.1 pc = .ok (.ifnull off, 3)) (ht : (pc : Int) + off = (tgt : Int)) (hp2 : pc + 3 = pc2) (h1 : Snd X fin tgt kt mc ms) (h2 : Snd X fin pc2 kf mc ms) : Snd X fin pc (oNul kt kf) mc ms := by
  subst hp2
  refine h1.row2 h2 ?_
  intro lv st hp out ho
  unfold oNul at ho
  split at ho
  · exact ⟨_, True, fun _ => ho, fun h => absurd trivial h, fun p l e s m args below meth c H locs cells slots Q ad lsA C w1 w2 => lv_ifnullN C.1 C.2.1 hd ht (w1 trivial)⟩
  · exact ⟨_, False, fun h => h.elim, fun _ => ho, fun p l e s m args below meth c H locs cells slots Q ad lsA C w1 w2 => lv_ifnull C.1 C.2.1 hd (w2 id)⟩
  · cases ho
theorem s_ifnonnull {β : Type} {X : MX} {fin : β → HP → Option Value × HP} {pc : Nat} {kt kf : KT β} {mc ms : Nat} {off : Int} (tgt pc2 : Nat) (hd : decode X.2.1 pc = .ok (.ifnonnull off, 3)) (ht : (pc : Int) + off = (tgt : Int)) (hp2 : pc + 3 = pc2) (h1 : Snd X fin tgt kf mc ms) (h2 : Snd X fin pc2 kt mc ms) : Snd X fin pc (oNul kt kf) mc ms := by
  subst hp2
  refine h2.row2 h1 ?_
  intro lv st hp out ho
  unfold oNul at ho
  split at ho
  · exact ⟨_, True, fun _ => ho, fun h => absurd trivial h, fun p l e s m args below meth c H locs cells slots Q ad lsA C w1 w2 => lv_ifnonnullN C.1 C.2.1 hd (w1 trivial)⟩
  · exact ⟨_, False, fun h => h.elim, fun _ => ho, fun p l e s m args below meth c H locs cells slots Q ad lsA C w1 w2 => lv_ifnonnull C.1 C.2.1 hd ht (w2 id)⟩
  · cases ho
