/-! ===== the words that ride with every call ===== -/
def a_ridw (w : Jvm.Cond) : Bool := goodWord w || (match w with
  | .castable _ _ => true
  | .methodLinkNest _ _ _ _ => true
  | .fieldLinkNest _ _ _ _ _ _ => true
  | .arrayOver _ => true
  | _ => false)
def aW : List Jvm.Cond := lw_tbl.filter a_ridw
theorem a_ride {w : Jvm.Cond} (hw : a_ridw w = true) {s U : State} {a b : Array Value} (hW : s.WarmedH U.vm) (h : w.before a s = true) : w.before b U = true := by
  unfold a_ridw at hw
  rw [Bool.or_eq_true] at hw
  rcases hw with hw | hw
  · exact word_at hW (good_of_word hw) h
  · split at hw
    · exact va_Nw.use rfl (va_Nw.warmC hW (va_Nw.of rfl h))
    · exact va_Nw.use rfl (va_Nw.warmM hW (va_Nw.of rfl h))
    · exact va_Nw.use rfl (va_Nw.warmF hW (va_Nw.of rfl h))
    · rename_i ty
      have h1 : (Jvm.Cond.arrayOver ty).before a (s.setVm U.vm) = true := by rw [Cond.arrayOver_setVmC hW.alike]; exact h
      exact h1
    · cases hw
theorem aW_mem {w : Jvm.Cond} (h : w ∈ lw_tbl) (hr : a_ridw w = true) : w ∈ aW := List.mem_filter.mpr ⟨h, hr⟩
theorem aW_ride {s U : State} {a b : Array Value} (hW : s.WarmedH U.vm) (h : ∀ w ∈ aW, w.before a s = true) : ∀ w ∈ aW, w.before b U = true := fun w hw => a_ride (List.mem_filter.mp hw).2 hW (h w hw)
/-- a class's fields by kind: 0 int, 1 boolean, 2 long, 3 a reference -/
def a_fk (d : String) : Nat := if d = "I" then 0 else if d = "Z" then 1 else if d = "J" then 2 else 3
section SNX
variable (yy : Nat → MethodName) (bb : Nat → ByteArray) (mx : Nat → Nat) (rr : Nat → Option FieldType)
def a_callee (p : Nat) : Prop := Jvm.Cond.code (yy p) (bb p) (mx p) (rr p) ∈ aW ∧ Jvm.Cond.initialized (yy p).cls ∈ aW ∧ ((yy p).cls ≠ "java/lang/invoke/MethodHandle" ∧ (yy p).cls ≠ "java/lang/invoke/VarHandle") ∧ mx p ≤ 41 ∧ plainName (yy p).cls = true
def a_link (mi ix p : Nat) : Prop := Jvm.Cond.methodLink (yy mi).cls ix (yy p) ∈ aW ∨ ∃ host, Jvm.Cond.methodLinkNest (yy mi).cls ix (yy p) host ∈ aW
abbrev a_pars (p n : Nat) : Prop := (parseMethodDescriptor (yy p).desc).map (fun d => d.parameters.length) = some n
/-- a row of the table says what the bytes say -/
def a_ok (mi pc : Nat) (x : aI) : Prop := match x with
  | (i, nx, p, q, t, ci, cl, _, sw) => match i with
    | .iconst n => (decode (bb mi) pc = .ok (.iconst n, 1) ∧ nx = pc + 1) ∧ Int32.ofInt n = ci
    | .bipush n => (decode (bb mi) pc = .ok (.bipush n, 2) ∧ nx = pc + 2) ∧ (Int8.ofInt n).toInt32 = ci
    | .sipush n => (decode (bb mi) pc = .ok (.sipush n, 3) ∧ nx = pc + 3) ∧ (Int16.ofInt n).toInt32 = ci
    | .lconst n => (decode (bb mi) pc = .ok (.lconst n, 1) ∧ nx = pc + 1) ∧ Int64.ofNat (n : Nat) = cl
    | .ldc ix => (decode (bb mi) pc = .ok (.ldc ix, 2) ∧ nx = pc + 2) ∧ (match t with
      | 0 => Jvm.Cond.constant (yy mi).cls ix ci ∈ aW
      | _ => (yy mi).cls = RX6 ∧ ix = 151)
    | .ldc_w ix => (decode (bb mi) pc = .ok (.ldc_w ix, 3) ∧ nx = pc + 3) ∧ Jvm.Cond.constant (yy mi).cls ix ci ∈ aW
    | .ldc2_w ix => (decode (bb mi) pc = .ok (.ldc2_w ix, 3) ∧ nx = pc + 3) ∧ Jvm.Cond.constantLong (yy mi).cls ix cl ∈ aW
    | .iload ix => (decode (bb mi) pc = .ok (.iload ix, 2) ∧ nx = pc + 2) ∧ p = ix
    | .lload ix => (decode (bb mi) pc = .ok (.lload ix, 2) ∧ nx = pc + 2) ∧ p = ix
    | .aload ix => (decode (bb mi) pc = .ok (.aload ix, 2) ∧ nx = pc + 2) ∧ p = ix
    | .istore ix => (decode (bb mi) pc = .ok (.istore ix, 2) ∧ nx = pc + 2) ∧ p = ix ∧ p < mx mi
    | .lstore ix => (decode (bb mi) pc = .ok (.lstore ix, 2) ∧ nx = pc + 2) ∧ p = ix ∧ p + 1 < mx mi
    | .astore ix => (decode (bb mi) pc = .ok (.astore ix, 2) ∧ nx = pc + 2) ∧ p = ix ∧ p < mx mi
    | .iload_n n => (decode (bb mi) pc = .ok (.iload_n n, 1) ∧ nx = pc + 1) ∧ (n : Nat) = p
    | .lload_n n => (decode (bb mi) pc = .ok (.lload_n n, 1) ∧ nx = pc + 1) ∧ (n : Nat) = p
    | .aload_n n => (decode (bb mi) pc = .ok (.aload_n n, 1) ∧ nx = pc + 1) ∧ (n : Nat) = p
    | .istore_n n => (decode (bb mi) pc = .ok (.istore_n n, 1) ∧ nx = pc + 1) ∧ (n : Nat) = p ∧ p < mx mi
    | .lstore_n n => (decode (bb mi) pc = .ok (.lstore_n n, 1) ∧ nx = pc + 1) ∧ (n : Nat) = p ∧ p + 1 < mx mi
    | .astore_n n => (decode (bb mi) pc = .ok (.astore_n n, 1) ∧ nx = pc + 1) ∧ (n : Nat) = p ∧ p < mx mi
    | .iinc ix n => (decode (bb mi) pc = .ok (.iinc ix n, 3) ∧ nx = pc + 3) ∧ p = ix ∧ Int32.ofInt n = ci ∧ p < mx mi
    | .goto off => decode (bb mi) pc = .ok (.goto off, 3) ∧ (pc : Int) + off = (p : Int)
    | .ifCond cn off => (decode (bb mi) pc = .ok (.ifCond cn off, 3) ∧ nx = pc + 3) ∧ (pc : Int) + off = (p : Int)
    | .if_icmp cn off => (decode (bb mi) pc = .ok (.if_icmp cn off, 3) ∧ nx = pc + 3) ∧ (pc : Int) + off = (p : Int)
    | .ifnull off => (decode (bb mi) pc = .ok (.ifnull off, 3) ∧ nx = pc + 3) ∧ (pc : Int) + off = (p : Int)
    | .ifnonnull off => (decode (bb mi) pc = .ok (.ifnonnull off, 3) ∧ nx = pc + 3) ∧ (pc : Int) + off = (p : Int)
    | .tableswitch df lo hi offs => (∃ len, decode (bb mi) pc = .ok (.tableswitch df lo hi offs, len)) ∧ (pc : Int) + df = (p : Int) ∧ (∀ e ∈ sw, lo ≤ e.1.toInt ∧ e.1.toInt ≤ hi ∧ (offs[(e.1.toInt - lo).toNat]?).map (fun o => (pc : Int) + o) = some (e.2 : Int)) ∧ sw.map (fun e => e.1.toInt) = (List.range (hi - lo + 1).toNat).map (fun (j : Nat) => lo + (j : Int))
    | .getfield ix => (decode (bb mi) pc = .ok (.getfield ix, 3) ∧ nx = pc + 3) ∧ ∃ r, vwCl[p]? = some r ∧ q < r.2.2 ∧ a_fk (r.2.1 q).2.2.1 = t ∧ Jvm.Cond.fieldLink (yy mi).cls ix (r.2.1 q).1 (r.2.1 q).2.1 (r.2.1 q).2.2.1 ∈ aW
    | .putfield ix => (decode (bb mi) pc = .ok (.putfield ix, 3) ∧ nx = pc + 3) ∧ ∃ r, vwCl[p]? = some r ∧ q < r.2.2 ∧ a_fk (r.2.1 q).2.2.1 = t ∧ Jvm.Cond.fieldLink (yy mi).cls ix (r.2.1 q).1 (r.2.1 q).2.1 (r.2.1 q).2.2.1 ∈ aW ∧ ((r.2.1 q).2.2.2 = false ∨ ((r.2.1 q).2.2.2 = true ∧ (yy mi).name = "<init>" ∧ (r.2.1 q).1 = (yy mi).cls))
    | .getstatic ix => (decode (bb mi) pc = .ok (.getstatic ix, 3) ∧ nx = pc + 3) ∧ ∃ n, ((p = 2 ∧ n = "LOWEST") ∨ (p = 3 ∧ n = "HIGHEST") ∨ (p = 4 ∧ n = "AT_FIRST")) ∧ (Jvm.Cond.fieldLink (yy mi).cls ix RX10 n "[I" ∈ aW ∨ ∃ host, Jvm.Cond.fieldLinkNest (yy mi).cls ix RX10 n "[I" host ∈ aW)
    | .aaload => (decode (bb mi) pc = .ok (.aaload, 1) ∧ nx = pc + 1) ∧ 15 ≤ p ∧ p ≤ 18
    | .aastore => (decode (bb mi) pc = .ok (.aastore, 1) ∧ nx = pc + 1) ∧ ((p = 15 ∧ q = 5) ∨ (p = 16 ∧ q = 7))
    | .new ix => (decode (bb mi) pc = .ok (.new ix, 3) ∧ nx = pc + 3) ∧ ∃ r, vwCl[p]? = some r ∧ q = r.2.2 ∧ Jvm.Cond.classLink (yy mi).cls ix r.1 ∈ aW ∧ Jvm.Cond.instantiable r.1 r.2.2 ∈ aW ∧ Jvm.Cond.initialized r.1 ∈ aW
    | .newarray a => (decode (bb mi) pc = .ok (.newarray a, 2) ∧ nx = pc + 2) ∧ ((p = 12 ∧ a = .int) ∨ (p = 13 ∧ a = .long) ∨ (p = 14 ∧ a = .boolean)) ∧ Jvm.Cond.arrayClass (newarray.typeOf a) ∈ aW
    | .anewarray ix => (decode (bb mi) pc = .ok (.anewarray ix, 3) ∧ nx = pc + 3) ∧ ∃ C, ((p = 15 ∧ C = RX5) ∨ (p = 16 ∧ C = RX7)) ∧ Jvm.Cond.classLink (yy mi).cls ix C ∈ aW ∧ Jvm.Cond.arrayOver (.object C) ∈ aW
    | .multianewarray ix dm => (decode (bb mi) pc = .ok (.multianewarray ix 2, 4) ∧ nx = pc + 4) ∧ dm = 2 ∧ ∃ ty, ((p = 17 ∧ q = 12 ∧ ty = .int) ∨ (p = 18 ∧ q = 13 ∧ ty = .long)) ∧ Jvm.Cond.classLink (yy mi).cls ix ("[" ++ (FieldType.array ty).toString) ∈ aW ∧ Jvm.Cond.arrayOver (.array ty) ∈ aW ∧ Jvm.Cond.arrayClass ty ∈ aW
    | .checkcast ix => (decode (bb mi) pc = .ok (.checkcast ix, 3) ∧ nx = pc + 3) ∧ p = 12 ∧ Jvm.Cond.classLink (yy mi).cls ix "[I" ∈ aW
    | .invokevirtual ix => (decode (bb mi) pc = .ok (.invokevirtual ix, 3) ∧ nx = pc + 3) ∧
      (t ≤ 2 → a_callee yy bb mx rr p ∧ Jvm.Cond.methodLink (yy mi).cls ix (yy p) ∈ aW ∧ Jvm.Cond.instanceMethod (yy p) ∈ aW ∧ 1 ≤ q / 100 ∧ a_pars yy p (q / 100 - 1) ∧ ∃ rc, vwCl[q % 100]? = some rc ∧ Jvm.Cond.selects rc.1 (yy p) (yy p) ∈ aW) ∧
      (t = 12 → q = 0 ∧ Jvm.Cond.methodLink (yy mi).cls ix ⟨"[I", "clone", "()Ljava/lang/Object;"⟩ ∈ aW) ∧ (t = 13 → q = 0 ∧ Jvm.Cond.methodLink (yy mi).cls ix yJ0_length_8abf5 ∈ aW) ∧ (t = 14 → q = 0 ∧ Jvm.Cond.methodLink (yy mi).cls ix yJ0_charAt_5068e ∈ aW) ∧ (t ≤ 2 ∨ (12 ≤ t ∧ t ≤ 14))
    | .invokespecial ix => (decode (bb mi) pc = .ok (.invokespecial ix, 3) ∧ nx = pc + 3) ∧
      (t ≤ 2 → a_callee yy bb mx rr p ∧ rr p = none ∧ a_link yy mi ix p ∧ Jvm.Cond.instanceMethod (yy p) ∈ aW ∧ (yy p).name = "<init>" ∧ 1 ≤ q / 100 ∧ a_pars yy p (q / 100 - 1) ∧ q % 100 ≤ 11) ∧
      (t = 10 → q = 0 ∧ Jvm.Cond.methodLink (yy mi).cls ix Lib.objectInit ∈ aW ∧ Jvm.Cond.instanceMethod Lib.objectInit ∈ aW ∧ Jvm.Cond.code Lib.objectInit ⟨#[0xb1]⟩ 1 none ∈ aW) ∧ (t ≤ 2 ∨ t = 10)
    | .invokestatic ix => (decode (bb mi) pc = .ok (.invokestatic ix, 3) ∧ nx = pc + 3) ∧
      (t ≤ 2 → a_callee yy bb mx rr p ∧ a_link yy mi ix p ∧ Jvm.Cond.static (yy p) ∈ aW ∧ a_pars yy p (q / 100)) ∧
      (t = 11 → q = 0 ∧ Jvm.Cond.methodLink (yy mi).cls ix arraycopyName ∈ aW) ∧ (t = 15 → q = 0 ∧ Jvm.Cond.methodLink (yy mi).cls ix Lib.Math.min.name ∈ aW) ∧ (t = 16 → q = 0 ∧ Jvm.Cond.methodLink (yy mi).cls ix Lib.Math.max.name ∈ aW) ∧ (t = 17 → q = 0 ∧ Jvm.Cond.methodLink (yy mi).cls ix Lib.MathLoose.min_long.x ∈ aW) ∧ (t = 18 → q = 0 ∧ Jvm.Cond.methodLink (yy mi).cls ix Lib.MathLoose.max_long.x ∈ aW) ∧ (t = 19 → q = 0 ∧ Jvm.Cond.methodLink (yy mi).cls ix Lib.Math.abs.name ∈ aW) ∧ (t ≤ 2 ∨ t = 11 ∨ (15 ≤ t ∧ t ≤ 19))
    | .ireturn => decode (bb mi) pc = .ok (.ireturn, 1) ∧ (t = 0 → rr mi = some .int) ∧ (t ≠ 0 → rr mi = some .boolean)
    | .lreturn => decode (bb mi) pc = .ok (.lreturn, 1) ∧ rr mi = some .long
    | .return_ => decode (bb mi) pc = .ok (.return_, 1) ∧ rr mi = none
    | i => decode (bb mi) pc = .ok (i, 1) ∧ nx = pc + 1
/-- words that stand by themselves -/
def a_fix : Prop := (∀ (ci : Nat) (r : vw_C), vwCl[ci]? = some r → ∀ w ∈ u_ws r.1 r.2.1 r.2.2, w ∈ aW) ∧ Jvm.Cond.native arraycopyName ∈ aW ∧ Jvm.Cond.static arraycopyName ∈ aW ∧ Jvm.Cond.initialized "java/lang/System" ∈ aW ∧
  Jvm.Cond.sameMethod "[I" "java/lang/Object" "clone" "()Ljava/lang/Object;" ∈ aW ∧ Jvm.Cond.native ⟨"java/lang/Object", "clone", "()Ljava/lang/Object;"⟩ ∈ aW ∧ Jvm.Cond.instanceMethod ⟨"java/lang/Object", "clone", "()Ljava/lang/Object;"⟩ ∈ aW ∧ Jvm.Cond.selects "[I" ⟨"[I", "clone", "()Ljava/lang/Object;"⟩ ⟨"java/lang/Object", "clone", "()Ljava/lang/Object;"⟩ ∈ aW ∧ Jvm.Cond.castable "[I" "java/lang/Cloneable" ∈ aW ∧
  (Jvm.Cond.code yJ0_length_8abf5 cJ0_length_8abf5 1 (some .int) ∈ aW ∧ Jvm.Cond.instanceMethod yJ0_length_8abf5 ∈ aW ∧ Jvm.Cond.selects RJ0 yJ0_length_8abf5 yJ0_length_8abf5 ∈ aW) ∧ (Jvm.Cond.code yJ0_charAt_5068e cJ0_charAt_5068e 2 (some .char) ∈ aW ∧ Jvm.Cond.instanceMethod yJ0_charAt_5068e ∈ aW ∧ Jvm.Cond.selects RJ0 yJ0_charAt_5068e yJ0_charAt_5068e ∈ aW) ∧ Jvm.Cond.initialized RJ0 ∈ aW ∧
  (Jvm.Cond.initialized "java/lang/Math" ∈ aW ∧ (Jvm.Cond.static Lib.Math.min.name ∈ aW ∧ Jvm.Cond.code Lib.Math.min.name Lib.Math.min.code 2 (some .int) ∈ aW) ∧ (Jvm.Cond.static Lib.Math.max.name ∈ aW ∧ Jvm.Cond.code Lib.Math.max.name Lib.Math.max.code 2 (some .int) ∈ aW) ∧ (Jvm.Cond.static Lib.MathLoose.min_long.x ∈ aW ∧ Jvm.Cond.code Lib.MathLoose.min_long.x Lib.MathLoose.min_long.code 4 (some .long) ∈ aW) ∧ (Jvm.Cond.static Lib.MathLoose.max_long.x ∈ aW ∧ Jvm.Cond.code Lib.MathLoose.max_long.x Lib.MathLoose.max_long.code 4 (some .long) ∈ aW) ∧ (Jvm.Cond.static Lib.Math.abs.name ∈ aW ∧ Jvm.Cond.code Lib.Math.abs.name Lib.Math.abs.code 1 (some .int) ∈ aW))
end SNX
/-! ===== a table is looked through by a program ===== -/
section OKB
variable (yy : Nat → MethodName) (bb : Nat → ByteArray) (mx : Nat → Nat) (rr : Nat → Option FieldType)
/-- what a constant pool's entry is: sort, entry, p, q, t -/
def a_pf (own : String) (e : Nat × Nat × Nat × Nat × Nat) : Prop := match e with
  | (so, ix, p, q, t) => match so with
    | 1 => ∃ r, vwCl[p]? = some r ∧ q < r.2.2 ∧ a_fk (r.2.1 q).2.2.1 = t ∧ Jvm.Cond.fieldLink own ix (r.2.1 q).1 (r.2.1 q).2.1 (r.2.1 q).2.2.1 ∈ aW
    | 2 => ∃ r, vwCl[p]? = some r ∧ q < r.2.2 ∧ a_fk (r.2.1 q).2.2.1 = t ∧ Jvm.Cond.fieldLink own ix (r.2.1 q).1 (r.2.1 q).2.1 (r.2.1 q).2.2.1 ∈ aW ∧ (r.2.1 q).2.2.2 = false
    | 3 => ∃ n, ((p = 2 ∧ n = "LOWEST") ∨ (p = 3 ∧ n = "HIGHEST") ∨ (p = 4 ∧ n = "AT_FIRST")) ∧ (Jvm.Cond.fieldLink own ix RX10 n "[I" ∈ aW ∨ ∃ host, Jvm.Cond.fieldLinkNest own ix RX10 n "[I" host ∈ aW)
    | 4 => ∃ r, vwCl[p]? = some r ∧ q = r.2.2 ∧ Jvm.Cond.classLink own ix r.1 ∈ aW ∧ Jvm.Cond.instantiable r.1 r.2.2 ∈ aW ∧ Jvm.Cond.initialized r.1 ∈ aW
    | 5 => ∃ C, ((p = 15 ∧ C = RX5) ∨ (p = 16 ∧ C = RX7)) ∧ Jvm.Cond.classLink own ix C ∈ aW ∧ Jvm.Cond.arrayOver (.object C) ∈ aW
    | 6 => ∃ ty, ((p = 17 ∧ q = 12 ∧ ty = .int) ∨ (p = 18 ∧ q = 13 ∧ ty = .long)) ∧ Jvm.Cond.classLink own ix ("[" ++ (FieldType.array ty).toString) ∈ aW ∧ Jvm.Cond.arrayOver (.array ty) ∈ aW ∧ Jvm.Cond.arrayClass ty ∈ aW
    | 7 => p = 12 ∧ Jvm.Cond.classLink own ix "[I" ∈ aW
    | 8 => (t ≤ 2 → a_callee yy bb mx rr p ∧ Jvm.Cond.methodLink own ix (yy p) ∈ aW ∧ Jvm.Cond.instanceMethod (yy p) ∈ aW ∧ 1 ≤ q / 100 ∧ a_pars yy p (q / 100 - 1) ∧ ∃ rc, vwCl[q % 100]? = some rc ∧ Jvm.Cond.selects rc.1 (yy p) (yy p) ∈ aW) ∧
      (t = 12 → q = 0 ∧ Jvm.Cond.methodLink own ix ⟨"[I", "clone", "()Ljava/lang/Object;"⟩ ∈ aW) ∧ (t = 13 → q = 0 ∧ Jvm.Cond.methodLink own ix yJ0_length_8abf5 ∈ aW) ∧ (t = 14 → q = 0 ∧ Jvm.Cond.methodLink own ix yJ0_charAt_5068e ∈ aW) ∧ (t ≤ 2 ∨ (12 ≤ t ∧ t ≤ 14))
    | 9 => (t ≤ 2 → a_callee yy bb mx rr p ∧ rr p = none ∧ (Jvm.Cond.methodLink own ix (yy p) ∈ aW ∨ ∃ host, Jvm.Cond.methodLinkNest own ix (yy p) host ∈ aW) ∧ Jvm.Cond.instanceMethod (yy p) ∈ aW ∧ (yy p).name = "<init>" ∧ 1 ≤ q / 100 ∧ a_pars yy p (q / 100 - 1) ∧ q % 100 ≤ 11) ∧
      (t = 10 → q = 0 ∧ Jvm.Cond.methodLink own ix Lib.objectInit ∈ aW ∧ Jvm.Cond.instanceMethod Lib.objectInit ∈ aW ∧ Jvm.Cond.code Lib.objectInit ⟨#[0xb1]⟩ 1 none ∈ aW) ∧ (t ≤ 2 ∨ t = 10)
    | 10 => (t ≤ 2 → a_callee yy bb mx rr p ∧ (Jvm.Cond.methodLink own ix (yy p) ∈ aW ∨ ∃ host, Jvm.Cond.methodLinkNest own ix (yy p) host ∈ aW) ∧ Jvm.Cond.static (yy p) ∈ aW ∧ a_pars yy p (q / 100)) ∧
      (t = 11 → q = 0 ∧ Jvm.Cond.methodLink own ix arraycopyName ∈ aW) ∧ (t = 15 → q = 0 ∧ Jvm.Cond.methodLink own ix Lib.Math.min.name ∈ aW) ∧ (t = 16 → q = 0 ∧ Jvm.Cond.methodLink own ix Lib.Math.max.name ∈ aW) ∧ (t = 17 → q = 0 ∧ Jvm.Cond.methodLink own ix Lib.MathLoose.min_long.x ∈ aW) ∧ (t = 18 → q = 0 ∧ Jvm.Cond.methodLink own ix Lib.MathLoose.max_long.x ∈ aW) ∧ (t = 19 → q = 0 ∧ Jvm.Cond.methodLink own ix Lib.Math.abs.name ∈ aW) ∧ (t ≤ 2 ∨ t = 11 ∨ (15 ≤ t ∧ t ≤ 19))
    | 11 => ∃ r, vwCl[p]? = some r ∧ q < r.2.2 ∧ a_fk (r.2.1 q).2.2.1 = t ∧ Jvm.Cond.fieldLink own ix (r.2.1 q).1 (r.2.1 q).2.1 (r.2.1 q).2.2.1 ∈ aW ∧ (r.2.1 q).2.2.2 = true ∧ (r.2.1 q).1 = own
    | 12 => own = RX6 ∧ ix = 151
    | _ => False
variable (P : List (Nat × Nat × Nat × Nat × Nat)) (CI : List (Nat × Int32)) (CL : List (Nat × Int64)) (b : ByteArray) (n : Nat) (rt : Option FieldType) (ini : Bool)
def a_dc (pc : Nat) (i : Instr) (len nx : Nat) : Bool := decide (decode b pc = .ok (i, len)) && Nat.beq nx (pc + len)
def a_has (e : Nat × Nat × Nat × Nat × Nat) : Bool := P.any (fun f => Nat.beq f.1 e.1 && Nat.beq f.2.1 e.2.1 && Nat.beq f.2.2.1 e.2.2.1 && Nat.beq f.2.2.2.1 e.2.2.2.1 && Nat.beq f.2.2.2.2 e.2.2.2.2)
def a_okb (pc : Nat) (x : aI) : Bool := match x with
  | (i, nx, p, q, t, ci, cl, _, sw) => match i with
    | .iconst z => a_dc b pc (.iconst z) 1 nx && decide (Int32.ofInt z = ci)
    | .bipush z => a_dc b pc (.bipush z) 2 nx && decide ((Int8.ofInt z).toInt32 = ci)
    | .sipush z => a_dc b pc (.sipush z) 3 nx && decide ((Int16.ofInt z).toInt32 = ci)
    | .lconst z => a_dc b pc (.lconst z) 1 nx && decide (Int64.ofNat (z : Nat) = cl)
    | .ldc ix => a_dc b pc (.ldc ix) 2 nx && (match t with
      | 0 => CI.any (fun e => Nat.beq e.1 ix && decide (e.2 = ci))
      | _ => a_has P (12, ix, 0, 0, 1))
    | .ldc_w ix => a_dc b pc (.ldc_w ix) 3 nx && CI.any (fun e => Nat.beq e.1 ix && decide (e.2 = ci))
    | .ldc2_w ix => a_dc b pc (.ldc2_w ix) 3 nx && CL.any (fun e => Nat.beq e.1 ix && decide (e.2 = cl))
    | .iload ix => a_dc b pc (.iload ix) 2 nx && Nat.beq p ix
    | .lload ix => a_dc b pc (.lload ix) 2 nx && Nat.beq p ix
    | .aload ix => a_dc b pc (.aload ix) 2 nx && Nat.beq p ix
    | .istore ix => a_dc b pc (.istore ix) 2 nx && Nat.beq p ix && Nat.ble (p + 1) n
    | .lstore ix => a_dc b pc (.lstore ix) 2 nx && Nat.beq p ix && Nat.ble (p + 2) n
    | .astore ix => a_dc b pc (.astore ix) 2 nx && Nat.beq p ix && Nat.ble (p + 1) n
    | .iload_n z => a_dc b pc (.iload_n z) 1 nx && Nat.beq (z : Nat) p
    | .lload_n z => a_dc b pc (.lload_n z) 1 nx && Nat.beq (z : Nat) p
    | .aload_n z => a_dc b pc (.aload_n z) 1 nx && Nat.beq (z : Nat) p
    | .istore_n z => a_dc b pc (.istore_n z) 1 nx && Nat.beq (z : Nat) p && Nat.ble (p + 1) n
    | .lstore_n z => a_dc b pc (.lstore_n z) 1 nx && Nat.beq (z : Nat) p && Nat.ble (p + 2) n
    | .astore_n z => a_dc b pc (.astore_n z) 1 nx && Nat.beq (z : Nat) p && Nat.ble (p + 1) n
    | .iinc ix z => a_dc b pc (.iinc ix z) 3 nx && Nat.beq p ix && decide (Int32.ofInt z = ci) && Nat.ble (p + 1) n
    | .goto off => decide (decode b pc = .ok (.goto off, 3)) && decide ((pc : Int) + off = (p : Int))
    | .ifCond cn off => a_dc b pc (.ifCond cn off) 3 nx && decide ((pc : Int) + off = (p : Int))
    | .if_icmp cn off => a_dc b pc (.if_icmp cn off) 3 nx && decide ((pc : Int) + off = (p : Int))
    | .ifnull off => a_dc b pc (.ifnull off) 3 nx && decide ((pc : Int) + off = (p : Int))
    | .ifnonnull off => a_dc b pc (.ifnonnull off) 3 nx && decide ((pc : Int) + off = (p : Int))
    | .tableswitch df lo hi offs => decide (decode b pc = .ok (.tableswitch df lo hi offs, nx)) && decide ((pc : Int) + df = (p : Int)) && decide (∀ e ∈ sw, lo ≤ e.1.toInt ∧ e.1.toInt ≤ hi ∧ (offs[(e.1.toInt - lo).toNat]?).map (fun o => (pc : Int) + o) = some (e.2 : Int)) && decide (sw.map (fun e => e.1.toInt) = (List.range (hi - lo + 1).toNat).map (fun (j : Nat) => lo + (j : Int)))
    | .getfield ix => a_dc b pc (.getfield ix) 3 nx && a_has P (1, ix, p, q, t)
    | .putfield ix => a_dc b pc (.putfield ix) 3 nx && (a_has P (2, ix, p, q, t) || (ini && a_has P (11, ix, p, q, t)))
    | .getstatic ix => a_dc b pc (.getstatic ix) 3 nx && a_has P (3, ix, p, q, t)
    | .aaload => a_dc b pc .aaload 1 nx && Nat.ble 15 p && Nat.ble p 18
    | .aastore => a_dc b pc .aastore 1 nx && ((Nat.beq p 15 && Nat.beq q 5) || (Nat.beq p 16 && Nat.beq q 7))
    | .new ix => a_dc b pc (.new ix) 3 nx && a_has P (4, ix, p, q, t)
    | .newarray a => a_dc b pc (.newarray a) 2 nx && ((Nat.beq p 12 && decide (a = .int)) || (Nat.beq p 13 && decide (a = .long)) || (Nat.beq p 14 && decide (a = .boolean)))
    | .anewarray ix => a_dc b pc (.anewarray ix) 3 nx && a_has P (5, ix, p, q, t)
    | .multianewarray ix dm => a_dc b pc (.multianewarray ix 2) 4 nx && Nat.beq dm 2 && a_has P (6, ix, p, q, t)
    | .checkcast ix => a_dc b pc (.checkcast ix) 3 nx && a_has P (7, ix, p, q, t)
    | .invokevirtual ix => a_dc b pc (.invokevirtual ix) 3 nx && a_has P (8, ix, p, q, t)
    | .invokespecial ix => a_dc b pc (.invokespecial ix) 3 nx && a_has P (9, ix, p, q, t)
    | .invokestatic ix => a_dc b pc (.invokestatic ix) 3 nx && a_has P (10, ix, p, q, t)
    | .ireturn => decide (decode b pc = .ok (.ireturn, 1)) && (match t with
      | 0 => decide (rt = some .int)
      | _ => decide (rt = some .boolean))
    | .lreturn => decide (decode b pc = .ok (.lreturn, 1)) && decide (rt = some .long)
    | .return_ => decide (decode b pc = .ok (.return_, 1)) && decide (rt = none)
    | i => a_dc b pc i 1 nx
variable {P CI CL b n rt ini}
theorem a_dc_spec {pc : Nat} {i : Instr} {len nx : Nat} (h : a_dc b pc i len nx = true) : decode b pc = .ok (i, len) ∧ nx = pc + len := by
  unfold a_dc at h
  rw [Bool.and_eq_true] at h
  exact ⟨of_decide_eq_true h.1, Nat.eq_of_beq_eq_true h.2⟩
theorem a_has_spec {e : Nat × Nat × Nat × Nat × Nat} (h : a_has P e = true) : e ∈ P := by
  unfold a_has at h
  obtain ⟨f, hf, h1⟩ := List.any_eq_true.mp h
  simp only [Bool.and_eq_true] at h1
  obtain ⟨⟨⟨⟨h1, h2⟩, h3⟩, h4⟩, h5⟩ := h1
  obtain ⟨a1, a2, a3, a4, a5⟩ := f
  obtain ⟨b1, b2, b3, b4, b5⟩ := e
  have e1 : a1 = b1 := Nat.eq_of_beq_eq_true h1
  have e2 : a2 = b2 := Nat.eq_of_beq_eq_true h2
  have e3 : a3 = b3 := Nat.eq_of_beq_eq_true h3
  have e4 : a4 = b4 := Nat.eq_of_beq_eq_true h4
  have e5 : a5 = b5 := Nat.eq_of_beq_eq_true h5
  rw [← e1, ← e2, ← e3, ← e4, ← e5]
  exact hf
theorem a_ci_spec {ix : Nat} {ci : Int32} (h : CI.any (fun e => Nat.beq e.1 ix && decide (e.2 = ci)) = true) : (ix, ci) ∈ CI := by
  obtain ⟨f, hf, h1⟩ := List.any_eq_true.mp h
  rw [Bool.and_eq_true] at h1
  obtain ⟨a1, a2⟩ := f
  have e1 : a1 = ix := Nat.eq_of_beq_eq_true h1.1
  have e2 : a2 = ci := of_decide_eq_true h1.2
  rw [← e1, ← e2]
  exact hf
theorem a_cl_spec {ix : Nat} {cl : Int64} (h : CL.any (fun e => Nat.beq e.1 ix && decide (e.2 = cl)) = true) : (ix, cl) ∈ CL := by
  obtain ⟨f, hf, h1⟩ := List.any_eq_true.mp h
  rw [Bool.and_eq_true] at h1
  obtain ⟨a1, a2⟩ := f
  have e1 : a1 = ix := Nat.eq_of_beq_eq_true h1.1
  have e2 : a2 = cl := of_decide_eq_true h1.2
  rw [← e1, ← e2]
  exact hf
set_option maxHeartbeats 4000000 in
theorem a_okb_sound {mi : Nat} (hP : ∀ e ∈ P, a_pf yy bb mx rr (yy mi).cls e) (hCI : ∀ e ∈ CI, Jvm.Cond.constant (yy mi).cls e.1 e.2 ∈ aW) (hCL : ∀ e ∈ CL, Jvm.Cond.constantLong (yy mi).cls e.1 e.2 ∈ aW) (hA : Jvm.Cond.arrayClass .int ∈ aW ∧ Jvm.Cond.arrayClass .long ∈ aW ∧ Jvm.Cond.arrayClass .boolean ∈ aW) (hb : bb mi = b) (hn : mx mi = n) (hrt : rr mi = rt) (hini : ini = true → (yy mi).name = "<init>") {pc : Nat} {x : aI} (h : a_okb P CI CL b n rt ini pc x = true) : a_ok yy bb mx rr mi pc x := by
  subst hb hn hrt
  obtain ⟨i, nx, p, q, t, ci, cl, ks, sw⟩ := x
  cases i
  case iconst z => simp only [a_okb, Bool.and_eq_true] at h; exact ⟨a_dc_spec h.1, of_decide_eq_true h.2⟩
  case bipush z => simp only [a_okb, Bool.and_eq_true] at h; exact ⟨a_dc_spec h.1, of_decide_eq_true h.2⟩
  case sipush z => simp only [a_okb, Bool.and_eq_true] at h; exact ⟨a_dc_spec h.1, of_decide_eq_true h.2⟩
  case lconst z => simp only [a_okb, Bool.and_eq_true] at h; exact ⟨a_dc_spec h.1, of_decide_eq_true h.2⟩
  case ldc ix =>
    simp only [a_okb, Bool.and_eq_true] at h
    refine ⟨a_dc_spec h.1, ?_⟩
    match t, h.2 with
    | 0, h2 => exact hCI _ (a_ci_spec h2)
    | t + 1, h2 => exact hP _ (a_has_spec h2)
  case ldc_w ix => simp only [a_okb, Bool.and_eq_true] at h; exact ⟨a_dc_spec h.1, hCI _ (a_ci_spec h.2)⟩
  case ldc2_w ix => simp only [a_okb, Bool.and_eq_true] at h; exact ⟨a_dc_spec h.1, hCL _ (a_cl_spec h.2)⟩
  case iload ix => simp only [a_okb, Bool.and_eq_true] at h; exact ⟨a_dc_spec h.1, Nat.eq_of_beq_eq_true h.2⟩
  case lload ix => simp only [a_okb, Bool.and_eq_true] at h; exact ⟨a_dc_spec h.1, Nat.eq_of_beq_eq_true h.2⟩
  case aload ix => simp only [a_okb, Bool.and_eq_true] at h; exact ⟨a_dc_spec h.1, Nat.eq_of_beq_eq_true h.2⟩
  case istore ix => simp only [a_okb, Bool.and_eq_true] at h; exact ⟨a_dc_spec h.1.1, Nat.eq_of_beq_eq_true h.1.2, Nat.le_of_ble_eq_true h.2⟩
  case lstore ix => simp only [a_okb, Bool.and_eq_true] at h; exact ⟨a_dc_spec h.1.1, Nat.eq_of_beq_eq_true h.1.2, Nat.le_of_ble_eq_true h.2⟩
  case astore ix => simp only [a_okb, Bool.and_eq_true] at h; exact ⟨a_dc_spec h.1.1, Nat.eq_of_beq_eq_true h.1.2, Nat.le_of_ble_eq_true h.2⟩
  case iload_n z => simp only [a_okb, Bool.and_eq_true] at h; exact ⟨a_dc_spec h.1, Nat.eq_of_beq_eq_true h.2⟩
  case lload_n z => simp only [a_okb, Bool.and_eq_true] at h; exact ⟨a_dc_spec h.1, Nat.eq_of_beq_eq_true h.2⟩
  case aload_n z => simp only [a_okb, Bool.and_eq_true] at h; exact ⟨a_dc_spec h.1, Nat.eq_of_beq_eq_true h.2⟩
  case istore_n z => simp only [a_okb, Bool.and_eq_true] at h; exact ⟨a_dc_spec h.1.1, Nat.eq_of_beq_eq_true h.1.2, Nat.le_of_ble_eq_true h.2⟩
  case lstore_n z => simp only [a_okb, Bool.and_eq_true] at h; exact ⟨a_dc_spec h.1.1, Nat.eq_of_beq_eq_true h.1.2, Nat.le_of_ble_eq_true h.2⟩
  case astore_n z => simp only [a_okb, Bool.and_eq_true] at h; exact ⟨a_dc_spec h.1.1, Nat.eq_of_beq_eq_true h.1.2, Nat.le_of_ble_eq_true h.2⟩
  case iinc ix z => simp only [a_okb, Bool.and_eq_true] at h; exact ⟨a_dc_spec h.1.1.1, Nat.eq_of_beq_eq_true h.1.1.2, of_decide_eq_true h.1.2, Nat.le_of_ble_eq_true h.2⟩
  case goto off => simp only [a_okb, Bool.and_eq_true] at h; exact ⟨of_decide_eq_true h.1, of_decide_eq_true h.2⟩
  case ifCond cn off => simp only [a_okb, Bool.and_eq_true] at h; exact ⟨a_dc_spec h.1, of_decide_eq_true h.2⟩
  case if_icmp cn off => simp only [a_okb, Bool.and_eq_true] at h; exact ⟨a_dc_spec h.1, of_decide_eq_true h.2⟩
  case ifnull off => simp only [a_okb, Bool.and_eq_true] at h; exact ⟨a_dc_spec h.1, of_decide_eq_true h.2⟩
  case ifnonnull off => simp only [a_okb, Bool.and_eq_true] at h; exact ⟨a_dc_spec h.1, of_decide_eq_true h.2⟩
  case tableswitch df lo hi offs => simp only [a_okb, Bool.and_eq_true] at h; exact ⟨⟨_, of_decide_eq_true h.1.1.1⟩, of_decide_eq_true h.1.1.2, of_decide_eq_true h.1.2, of_decide_eq_true h.2⟩
  case getfield ix => simp only [a_okb, Bool.and_eq_true] at h; exact ⟨a_dc_spec h.1, hP _ (a_has_spec h.2)⟩
  case putfield ix =>
    simp only [a_okb, Bool.and_eq_true, Bool.or_eq_true] at h
    refine ⟨a_dc_spec h.1, ?_⟩
    rcases h.2 with h2 | ⟨h1, h2⟩
    · obtain ⟨r, q1, q2, q3, q4, q5⟩ := hP _ (a_has_spec h2)
      exact ⟨r, q1, q2, q3, q4, Or.inl q5⟩
    · obtain ⟨r, q1, q2, q3, q4, q5, q6⟩ := hP _ (a_has_spec h2)
      exact ⟨r, q1, q2, q3, q4, Or.inr ⟨q5, hini h1, q6⟩⟩
  case getstatic ix => simp only [a_okb, Bool.and_eq_true] at h; exact ⟨a_dc_spec h.1, hP _ (a_has_spec h.2)⟩
  case aaload => simp only [a_okb, Bool.and_eq_true] at h; exact ⟨a_dc_spec h.1.1, Nat.le_of_ble_eq_true h.1.2, Nat.le_of_ble_eq_true h.2⟩
  case aastore =>
    simp only [a_okb, Bool.and_eq_true, Bool.or_eq_true] at h
    refine ⟨a_dc_spec h.1, ?_⟩
    rcases h.2 with ⟨h1, h2⟩ | ⟨h1, h2⟩
    · exact Or.inl ⟨Nat.eq_of_beq_eq_true h1, Nat.eq_of_beq_eq_true h2⟩
    · exact Or.inr ⟨Nat.eq_of_beq_eq_true h1, Nat.eq_of_beq_eq_true h2⟩
  case new ix => simp only [a_okb, Bool.and_eq_true] at h; exact ⟨a_dc_spec h.1, hP _ (a_has_spec h.2)⟩
  case newarray a =>
    simp only [a_okb, Bool.and_eq_true, Bool.or_eq_true] at h
    refine ⟨a_dc_spec h.1, ?_⟩
    rcases h.2 with (⟨h1, h2⟩ | ⟨h1, h2⟩) | ⟨h1, h2⟩
    · have e := of_decide_eq_true h2; subst e; exact ⟨Or.inl ⟨Nat.eq_of_beq_eq_true h1, rfl⟩, hA.1⟩
    · have e := of_decide_eq_true h2; subst e; exact ⟨Or.inr (Or.inl ⟨Nat.eq_of_beq_eq_true h1, rfl⟩), hA.2.1⟩
    · have e := of_decide_eq_true h2; subst e; exact ⟨Or.inr (Or.inr ⟨Nat.eq_of_beq_eq_true h1, rfl⟩), hA.2.2⟩
  case anewarray ix => simp only [a_okb, Bool.and_eq_true] at h; exact ⟨a_dc_spec h.1, hP _ (a_has_spec h.2)⟩
  case multianewarray ix dm => simp only [a_okb, Bool.and_eq_true] at h; exact ⟨a_dc_spec h.1.1, Nat.eq_of_beq_eq_true h.1.2, hP _ (a_has_spec h.2)⟩
  case checkcast ix => simp only [a_okb, Bool.and_eq_true] at h; exact ⟨a_dc_spec h.1, hP _ (a_has_spec h.2)⟩
  case invokevirtual ix => simp only [a_okb, Bool.and_eq_true] at h; exact ⟨a_dc_spec h.1, hP _ (a_has_spec h.2)⟩
  case invokespecial ix => simp only [a_okb, Bool.and_eq_true] at h; exact ⟨a_dc_spec h.1, hP _ (a_has_spec h.2)⟩
  case invokestatic ix => simp only [a_okb, Bool.and_eq_true] at h; exact ⟨a_dc_spec h.1, hP _ (a_has_spec h.2)⟩
  case ireturn =>
    simp only [a_okb, Bool.and_eq_true] at h
    refine ⟨of_decide_eq_true h.1, ?_⟩
    match t, h.2 with
    | 0, h2 => exact ⟨fun _ => of_decide_eq_true h2, fun z => absurd rfl z⟩
    | t + 1, h2 => exact ⟨fun z => absurd z (Nat.succ_ne_zero t), fun _ => of_decide_eq_true h2⟩
  case lreturn => simp only [a_okb, Bool.and_eq_true] at h; exact ⟨of_decide_eq_true h.1, of_decide_eq_true h.2⟩
  case return_ => simp only [a_okb, Bool.and_eq_true] at h; exact ⟨of_decide_eq_true h.1, of_decide_eq_true h.2⟩
  all_goals exact a_dc_spec h
/-- a list's row is sought -/
def a_look (tb : List (Nat × aI)) (pc : Nat) : Option aI := match tb with
  | [] => none
  | (q, x) :: r => match Nat.beq q pc with
    | true => some x
    | false => a_look r pc
theorem a_look_mem : ∀ {tb : List (Nat × aI)} {pc : Nat} {x : aI}, a_look tb pc = some x → (pc, x) ∈ tb
  | [], _, _, h => by cases h
  | (q, y) :: r, pc, x, h => by
    unfold a_look at h
    split at h
    · rename_i e
      cases h
      rw [Nat.eq_of_beq_eq_true e]
      exact List.mem_cons_self
    · exact List.mem_cons_of_mem _ (a_look_mem h)
end OKB
/-- by halves -/
def a_sel {α : Type} (k n : Nat) (A B : α) : α := match Nat.ble k n with
  | true => A
  | false => B
