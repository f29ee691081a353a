/-! ===== the abstract machine is the machine ===== -/
section SNX
variable (yy : Nat → MethodName) (bb : Nat → ByteArray) (mx : Nat → Nat) (rr : Nat → Option FieldType)
def a_callee (p : Nat) : Prop := Jvm.Cond.code (yy p) (bb p) (mx p) (rr p) ∈ aW ∧ Jvm.Cond.initialized (yy p).cls ∈ aW ∧ ((yy p).cls ≠ "java/lang/invoke/MethodHandle" ∧ (yy p).cls ≠ "java/lang/invoke/VarHandle") ∧ mx p ≤ 41 ∧ plainName (yy p).cls = true
def a_link (mi ix p : Nat) : Prop := Jvm.Cond.methodLink (yy mi).cls ix (yy p) ∈ aW ∨ ∃ host, Jvm.Cond.methodLinkNest (yy mi).cls ix (yy p) host ∈ aW
abbrev a_pars (p n : Nat) : Prop := (parseMethodDescriptor (yy p).desc).map (fun d => d.parameters.length) = some n
/-- a row of the table says what the bytes say -/
def a_ok (mi pc : Nat) (x : aI) : Prop := match x with
  | (i, nx, p, q, t, ci, cl, _, sw) => match i with
    | .iconst n => (decode (bb mi) pc = .ok (.iconst n, 1) ∧ nx = pc + 1) ∧ Int32.ofInt n = ci
    | .bipush n => (decode (bb mi) pc = .ok (.bipush n, 2) ∧ nx = pc + 2) ∧ (Int8.ofInt n).toInt32 = ci
    | .sipush n => (decode (bb mi) pc = .ok (.sipush n, 3) ∧ nx = pc + 3) ∧ (Int16.ofInt n).toInt32 = ci
    | .lconst n => (decode (bb mi) pc = .ok (.lconst n, 1) ∧ nx = pc + 1) ∧ Int64.ofNat (n : Nat) = cl
    | .ldc ix => (decode (bb mi) pc = .ok (.ldc ix, 2) ∧ nx = pc + 2) ∧ (match t with
      | 0 => Jvm.Cond.constant (yy mi).cls ix ci ∈ aW
      | _ => (yy mi).cls = RX6 ∧ ix = 151)
    | .ldc_w ix => (decode (bb mi) pc = .ok (.ldc_w ix, 3) ∧ nx = pc + 3) ∧ Jvm.Cond.constant (yy mi).cls ix ci ∈ aW
    | .ldc2_w ix => (decode (bb mi) pc = .ok (.ldc2_w ix, 3) ∧ nx = pc + 3) ∧ Jvm.Cond.constantLong (yy mi).cls ix cl ∈ aW
    | .iload ix => (decode (bb mi) pc = .ok (.iload ix, 2) ∧ nx = pc + 2) ∧ p = ix
    | .lload ix => (decode (bb mi) pc = .ok (.lload ix, 2) ∧ nx = pc + 2) ∧ p = ix
    | .aload ix => (decode (bb mi) pc = .ok (.aload ix, 2) ∧ nx = pc + 2) ∧ p = ix
    | .istore ix => (decode (bb mi) pc = .ok (.istore ix, 2) ∧ nx = pc + 2) ∧ p = ix ∧ p < mx mi
    | .lstore ix => (decode (bb mi) pc = .ok (.lstore ix, 2) ∧ nx = pc + 2) ∧ p = ix ∧ p + 1 < mx mi
    | .astore ix => (decode (bb mi) pc = .ok (.astore ix, 2) ∧ nx = pc + 2) ∧ p = ix ∧ p < mx mi
    | .iload_n n => (decode (bb mi) pc = .ok (.iload_n n, 1) ∧ nx = pc + 1) ∧ (n : Nat) = p
    | .lload_n n => (decode (bb mi) pc = .ok (.lload_n n, 1) ∧ nx = pc + 1) ∧ (n : Nat) = p
    | .aload_n n => (decode (bb mi) pc = .ok (.aload_n n, 1) ∧ nx = pc + 1) ∧ (n : Nat) = p
    | .istore_n n => (decode (bb mi) pc = .ok (.istore_n n, 1) ∧ nx = pc + 1) ∧ (n : Nat) = p ∧ p < mx mi
    | .lstore_n n => (decode (bb mi) pc = .ok (.lstore_n n, 1) ∧ nx = pc + 1) ∧ (n : Nat) = p ∧ p + 1 < mx mi
    | .astore_n n => (decode (bb mi) pc = .ok (.astore_n n, 1) ∧ nx = pc + 1) ∧ (n : Nat) = p ∧ p < mx mi
    | .iinc ix n => (decode (bb mi) pc = .ok (.iinc ix n, 3) ∧ nx = pc + 3) ∧ p = ix ∧ Int32.ofInt n = ci ∧ p < mx mi
    | .goto off => decode (bb mi) pc = .ok (.goto off, 3) ∧ (pc : Int) + off = (p : Int)
    | .ifCond cn off => (decode (bb mi) pc = .ok (.ifCond cn off, 3) ∧ nx = pc + 3) ∧ (pc : Int) + off = (p : Int)
    | .if_icmp cn off => (decode (bb mi) pc = .ok (.if_icmp cn off, 3) ∧ nx = pc + 3) ∧ (pc : Int) + off = (p : Int)
    | .ifnull off => (decode (bb mi) pc = .ok (.ifnull off, 3) ∧ nx = pc + 3) ∧ (pc : Int) + off = (p : Int)
    | .ifnonnull off => (decode (bb mi) pc = .ok (.ifnonnull off, 3) ∧ nx = pc + 3) ∧ (pc : Int) + off = (p : Int)
    | .tableswitch df lo hi offs => (∃ len, decode (bb mi) pc = .ok (.tableswitch df lo hi offs, len)) ∧ (pc : Int) + df = (p : Int) ∧ (∀ e ∈ sw, lo ≤ e.1.toInt ∧ e.1.toInt ≤ hi ∧ (offs[(e.1.toInt - lo).toNat]?).map (fun o => (pc : Int) + o) = some (e.2 : Int)) ∧ sw.map (fun e => e.1.toInt) = (List.range (hi - lo + 1).toNat).map (fun (j : Nat) => lo + (j : Int))
    | .getfield ix => (decode (bb mi) pc = .ok (.getfield ix, 3) ∧ nx = pc + 3) ∧ ∃ r, vwCl[p]? = some r ∧ q < r.2.2 ∧ a_fk (r.2.1 q).2.2.1 = t ∧ Jvm.Cond.fieldLink (yy mi).cls ix (r.2.1 q).1 (r.2.1 q).2.1 (r.2.1 q).2.2.1 ∈ aW
    | .putfield ix => (decode (bb mi) pc = .ok (.putfield ix, 3) ∧ nx = pc + 3) ∧ ∃ r, vwCl[p]? = some r ∧ q < r.2.2 ∧ a_fk (r.2.1 q).2.2.1 = t ∧ Jvm.Cond.fieldLink (yy mi).cls ix (r.2.1 q).1 (r.2.1 q).2.1 (r.2.1 q).2.2.1 ∈ aW ∧ ((r.2.1 q).2.2.2 = false ∨ ((r.2.1 q).2.2.2 = true ∧ (yy mi).name = "<init>" ∧ (r.2.1 q).1 = (yy mi).cls))
    | .getstatic ix => (decode (bb mi) pc = .ok (.getstatic ix, 3) ∧ nx = pc + 3) ∧ ∃ n, ((p = 2 ∧ n = "LOWEST") ∨ (p = 3 ∧ n = "HIGHEST") ∨ (p = 4 ∧ n = "AT_FIRST")) ∧ (Jvm.Cond.fieldLink (yy mi).cls ix RX10 n "[I" ∈ aW ∨ ∃ host, Jvm.Cond.fieldLinkNest (yy mi).cls ix RX10 n "[I" host ∈ aW)
    | .aaload => (decode (bb mi) pc = .ok (.aaload, 1) ∧ nx = pc + 1) ∧ 15 ≤ p ∧ p ≤ 18
    | .aastore => (decode (bb mi) pc = .ok (.aastore, 1) ∧ nx = pc + 1) ∧ ((p = 15 ∧ q = 5) ∨ (p = 16 ∧ q = 7))
    | .new ix => (decode (bb mi) pc = .ok (.new ix, 3) ∧ nx = pc + 3) ∧ ∃ r, vwCl[p]? = some r ∧ q = r.2.2 ∧ Jvm.Cond.classLink (yy mi).cls ix r.1 ∈ aW ∧ Jvm.Cond.instantiable r.1 r.2.2 ∈ aW ∧ Jvm.Cond.initialized r.1 ∈ aW
    | .newarray a => (decode (bb mi) pc = .ok (.newarray a, 2) ∧ nx = pc + 2) ∧ ((p = 12 ∧ a = .int) ∨ (p = 13 ∧ a = .long) ∨ (p = 14 ∧ a = .boolean)) ∧ Jvm.Cond.arrayClass (newarray.typeOf a) ∈ aW
    | .anewarray ix => (decode (bb mi) pc = .ok (.anewarray ix, 3) ∧ nx = pc + 3) ∧ ∃ C, ((p = 15 ∧ C = RX5) ∨ (p = 16 ∧ C = RX7)) ∧ Jvm.Cond.classLink (yy mi).cls ix C ∈ aW ∧ Jvm.Cond.arrayOver (.object C) ∈ aW
    | .multianewarray ix dm => (decode (bb mi) pc = .ok (.multianewarray ix 2, 4) ∧ nx = pc + 4) ∧ dm = 2 ∧ ∃ ty, ((p = 17 ∧ q = 12 ∧ ty = .int) ∨ (p = 18 ∧ q = 13 ∧ ty = .long)) ∧ Jvm.Cond.classLink (yy mi).cls ix ("[" ++ (FieldType.array ty).toString) ∈ aW ∧ Jvm.Cond.arrayOver (.array ty) ∈ aW ∧ Jvm.Cond.arrayClass ty ∈ aW
    | .checkcast ix => (decode (bb mi) pc = .ok (.checkcast ix, 3) ∧ nx = pc + 3) ∧ p = 12 ∧ Jvm.Cond.classLink (yy mi).cls ix "[I" ∈ aW
    | .invokevirtual ix => (decode (bb mi) pc = .ok (.invokevirtual ix, 3) ∧ nx = pc + 3) ∧
      (t ≤ 2 → a_callee yy bb mx rr p ∧ Jvm.Cond.methodLink (yy mi).cls ix (yy p) ∈ aW ∧ Jvm.Cond.instanceMethod (yy p) ∈ aW ∧ 1 ≤ q / 100 ∧ a_pars yy p (q / 100 - 1) ∧ ∃ rc, vwCl[q % 100]? = some rc ∧ Jvm.Cond.selects rc.1 (yy p) (yy p) ∈ aW) ∧
      (t = 12 → q = 0 ∧ Jvm.Cond.methodLink (yy mi).cls ix ⟨"[I", "clone", "()Ljava/lang/Object;"⟩ ∈ aW) ∧ (t = 13 → q = 0 ∧ Jvm.Cond.methodLink (yy mi).cls ix yJ0_length_8abf5 ∈ aW) ∧ (t = 14 → q = 0 ∧ Jvm.Cond.methodLink (yy mi).cls ix yJ0_charAt_5068e ∈ aW) ∧ (t ≤ 2 ∨ (12 ≤ t ∧ t ≤ 14))
    | .invokespecial ix => (decode (bb mi) pc = .ok (.invokespecial ix, 3) ∧ nx = pc + 3) ∧
      (t ≤ 2 → a_callee yy bb mx rr p ∧ rr p = none ∧ a_link yy mi ix p ∧ Jvm.Cond.instanceMethod (yy p) ∈ aW ∧ (yy p).name = "<init>" ∧ 1 ≤ q / 100 ∧ a_pars yy p (q / 100 - 1) ∧ q % 100 ≤ 11) ∧
      (t = 10 → q = 0 ∧ Jvm.Cond.methodLink (yy mi).cls ix Lib.objectInit ∈ aW ∧ Jvm.Cond.instanceMethod Lib.objectInit ∈ aW ∧ Jvm.Cond.code Lib.objectInit ⟨#[0xb1]⟩ 1 none ∈ aW) ∧ (t ≤ 2 ∨ t = 10)
    | .invokestatic ix => (decode (bb mi) pc = .ok (.invokestatic ix, 3) ∧ nx = pc + 3) ∧
      (t ≤ 2 → a_callee yy bb mx rr p ∧ a_link yy mi ix p ∧ Jvm.Cond.static (yy p) ∈ aW ∧ a_pars yy p (q / 100)) ∧
      (t = 11 → q = 0 ∧ Jvm.Cond.methodLink (yy mi).cls ix arraycopyName ∈ aW) ∧ (t = 15 → q = 0 ∧ Jvm.Cond.methodLink (yy mi).cls ix Lib.Math.min.name ∈ aW) ∧ (t = 16 → q = 0 ∧ Jvm.Cond.methodLink (yy mi).cls ix Lib.Math.max.name ∈ aW) ∧ (t = 17 → q = 0 ∧ Jvm.Cond.methodLink (yy mi).cls ix Lib.MathLoose.min_long.x ∈ aW) ∧ (t = 18 → q = 0 ∧ Jvm.Cond.methodLink (yy mi).cls ix Lib.MathLoose.max_long.x ∈ aW) ∧ (t = 19 → q = 0 ∧ Jvm.Cond.methodLink (yy mi).cls ix Lib.Math.abs.name ∈ aW) ∧ (t ≤ 2 ∨ t = 11 ∨ (15 ≤ t ∧ t ≤ 19))
    | .ireturn => decode (bb mi) pc = .ok (.ireturn, 1) ∧ (t = 0 → rr mi = some .int) ∧ (t ≠ 0 → rr mi = some .boolean)
    | .lreturn => decode (bb mi) pc = .ok (.lreturn, 1) ∧ rr mi = some .long
    | .return_ => decode (bb mi) pc = .ok (.return_, 1) ∧ rr mi = none
    | i => decode (bb mi) pc = .ok (i, 1) ∧ nx = pc + 1
/-- words that stand by themselves -/
def a_fix : Prop := (∀ (ci : Nat) (r : vw_C), vwCl[ci]? = some r → ∀ w ∈ u_ws r.1 r.2.1 r.2.2, w ∈ aW) ∧ Jvm.Cond.native arraycopyName ∈ aW ∧ Jvm.Cond.static arraycopyName ∈ aW ∧ Jvm.Cond.initialized "java/lang/System" ∈ aW ∧
  Jvm.Cond.sameMethod "[I" "java/lang/Object" "clone" "()Ljava/lang/Object;" ∈ aW ∧ Jvm.Cond.native ⟨"java/lang/Object", "clone", "()Ljava/lang/Object;"⟩ ∈ aW ∧ Jvm.Cond.instanceMethod ⟨"java/lang/Object", "clone", "()Ljava/lang/Object;"⟩ ∈ aW ∧ Jvm.Cond.selects "[I" ⟨"[I", "clone", "()Ljava/lang/Object;"⟩ ⟨"java/lang/Object", "clone", "()Ljava/lang/Object;"⟩ ∈ aW ∧ Jvm.Cond.castable "[I" "java/lang/Cloneable" ∈ aW ∧
  (Jvm.Cond.code yJ0_length_8abf5 cJ0_length_8abf5 1 (some .int) ∈ aW ∧ Jvm.Cond.instanceMethod yJ0_length_8abf5 ∈ aW ∧ Jvm.Cond.selects RJ0 yJ0_length_8abf5 yJ0_length_8abf5 ∈ aW) ∧ (Jvm.Cond.code yJ0_charAt_5068e cJ0_charAt_5068e 2 (some .char) ∈ aW ∧ Jvm.Cond.instanceMethod yJ0_charAt_5068e ∈ aW ∧ Jvm.Cond.selects RJ0 yJ0_charAt_5068e yJ0_charAt_5068e ∈ aW) ∧ Jvm.Cond.initialized RJ0 ∈ aW ∧
  (Jvm.Cond.initialized "java/lang/Math" ∈ aW ∧ (Jvm.Cond.static Lib.Math.min.name ∈ aW ∧ Jvm.Cond.code Lib.Math.min.name Lib.Math.min.code 2 (some .int) ∈ aW) ∧ (Jvm.Cond.static Lib.Math.max.name ∈ aW ∧ Jvm.Cond.code Lib.Math.max.name Lib.Math.max.code 2 (some .int) ∈ aW) ∧ (Jvm.Cond.static Lib.MathLoose.min_long.x ∈ aW ∧ Jvm.Cond.code Lib.MathLoose.min_long.x Lib.MathLoose.min_long.code 4 (some .long) ∈ aW) ∧ (Jvm.Cond.static Lib.MathLoose.max_long.x ∈ aW ∧ Jvm.Cond.code Lib.MathLoose.max_long.x Lib.MathLoose.max_long.code 4 (some .long) ∈ aW) ∧ (Jvm.Cond.static Lib.Math.abs.name ∈ aW ∧ Jvm.Cond.code Lib.Math.abs.name Lib.Math.abs.code 1 (some .int) ∈ aW))
/-- the two members of the text: their contracts -/
def aPs (w : aO) (as : List Value) : Array Value → State → Prop := fun a U => a = as.toArray ∧ a_env w U U.heap
def aQs (v : Int32) : Array Value → State → Outcome → State → Prop := fun _ st o t => o = .returned (some (.int v)) ∧ t.heap = st.heap
def a_SL (l : Launch) (w : aO) : Prop := Met l yJ0_length_8abf5 (wsM yJ0_length_8abf5 cJ0_length_8abf5 1 (some .int)) { frames := 5, cells := 0, slots := 0, locals := 400 } (aPs w [.ref (w.2.2.1 5)]) (aQs (Int32.ofNat a_words.length)) 0 0 (fun _ => False)
def a_SC (l : Launch) (w : aO) : Prop := ∀ i : Int32, vp_in i a_words.length → Met l yJ0_charAt_5068e (wsM yJ0_charAt_5068e cJ0_charAt_5068e 2 (some .char)) { frames := 5, cells := 0, slots := 0, locals := 400 } (aPs w [.ref (w.2.2.1 5), .int i]) (aQs (Int32.ofNat (a_words.getD i.toNatClampNeg 0))) 0 0 (fun _ => False)
theorem aPs_blind (w : aO) (as : List Value) : FrameBlind (aPs w as) := fun a U g mk q => ⟨q.1, by
    obtain ⟨h1, ⟨h2, h3, h4⟩, h5, ⟨adV, h6⟩, h7⟩ := q.2
    exact ⟨va_K.moved (u := U) (U := U.calling g mk a) (Vm.Alike.refl U.vm) h1, ⟨va_Z.moved (u := U) (U := U.calling g mk a) (Vm.Alike.refl U.vm) h2, va_Z.moved (u := U) (U := U.calling g mk a) (Vm.Alike.refl U.vm) h3, va_Z.moved (u := U) (U := U.calling g mk a) (Vm.Alike.refl U.vm) h4⟩, vk_R.same rfl h5, ⟨adV, vk_S.moved (u := U) (U := U.calling g mk a) (Vm.Alike.refl U.vm) h6⟩, va_Z.moved (u := U) (U := U.calling g mk a) (Vm.Alike.refl U.vm) h7⟩⟩
end SNX
section SNY
variable {p : Program} {l : Launch} {e : Env} {R : Room} {s : State} {m : MethodId} {args : Array Value} {below : List Frame} {meth : Method} {c : Code} {cc : ByteArray} {Qf : State → Prop} {w : aO} {x0 s0 nL : Nat}
variable {k : aK} {pc tg ix : Nat} {L st : List Value} {h : aH} {H : Heap} {locs : List Loc} {cells slots : Nat} {ls : Array Slot}
/-- a member of the text -/
theorem sn_text (hx : p.tables.exec = Jvm.exec) (hb : c.code = cc) (hk : a_Wk p l e R s m args below meth c Qf w x0 s0 nL k) (hs : a_st w x0 s0 h s H locs cells slots) (hl : a_ls w nL L ls) (hml : c.maxLocals = nL) {own : String} (ho : s.vm.findClass own = some m.cls) (hts : ∀ w ∈ aW, w.before args s = true) (hev : a_env w s s.heap) (hle : s.heap.size ≤ H.size) (hold : ∀ q, q < w.2.2.2.1 → s.heap[q]? = w.2.2.2.2[q]?)
    {y : MethodName} {b : ByteArray} {mxl : Nat} {rt : Option FieldType} {v : Int32} {as st2 : List Value} (hM : Met l y (wsM y b mxl rt) { frames := 5, cells := 0, slots := 0, locals := 400 } (aPs w (.ref (w.2.2.1 5) :: as)) (aQs v) 0 0 (fun _ => False)) (has : as.map (acv w) = as) (hfr : 9 ≤ R.frames) (hlo : 600 ≤ R.locals) (h41 : mxl ≤ 41) (hrm : cells ≤ R.cells ∧ slots ≤ R.slots)
    (hlk : (Jvm.Cond.methodLink own ix y).before args s = true) (hc : Jvm.Cond.code y b mxl rt ∈ aW) (hin : Jvm.Cond.instanceMethod y ∈ aW) (hsel : Jvm.Cond.selects RJ0 y y ∈ aW) (hini : Jvm.Cond.initialized RJ0 ∈ aW) (hyc : y.cls = RJ0) (hn : (parseMethodDescriptor y.desc).map (fun d => d.parameters.length) = some as.length) (h8 : (st2.map Value.category).sum ≤ 8) (hd : decode cc pc = .ok (.invokevirtual ix, 3)) (hr : k (pc + 3) L (.int v :: st2) h) : W p l e R s m args below meth c H locs cells slots Qf (F0 m pc ls ((as.reverse ++ .ref 5 :: st2).map (acv w))) := by
  have hlen : ∀ sig, parseMethodDescriptor y.desc = some sig → as.length = sig.parameters.length := fun sig hsig => by rw [hsig] at hn; exact (Option.some.inj hn).symm
  have hcv : acv w (.ref 5) = .ref (w.2.2.1 5) := by rw [acv_ref w (by decide), aad, if_pos (by decide)]
  obtain ⟨adV, hsS⟩ := hev.2.2.2.1
  have hS : va_S (fun q => w.2.2.2.1 ≤ q) s.heap H locs := ⟨hle, fun q h1 h3 => by rw [hs.1.2.2.2.2.2 q (by omega), hold q (by omega)], hs.2.1⟩
  have hpre : PreV s H RJ0 (w.2.2.1 5) (aPs w (.ref (w.2.2.1 5) :: as)) as := ⟨aPs_blind w _, vk_recv (i := 0) hsS (by decide) hS, fun U hU hW => ⟨rfl, a_env_to hev hW (fun q h1 h3 => by rw [hU, hs.1.2.2.2.2.2 q h3, hold q h3])⟩⟩
  have hstk : (as.reverse ++ .ref 5 :: st2).map (acv w) = as.reverse ++ .ref (w.2.2.1 5) :: st2.map (acv w) := by rw [List.map_append, List.map_reverse, has, List.map_cons, hcv]
  have hrun := va_runV (R := R) (locs := locs) (cells := cells) (slots := slots) (below := below) (meth := meth) (e := e) (g := F0 m pc ls ((as.reverse ++ .ref 5 :: st2).map (acv w))) ⟨hx, hb, hml, ho, hts⟩ hM ⟨⟨rfl, rfl, by show 5 + 1 ≤ _; omega, by show 8 + (mxl + 11) + 400 ≤ _; omega, a_words_ok hts hc, List.mem_cons_self, hts _ hc, hts _ (by rw [hyc]; exact hini), by rw [hyc]; decide, hlen, hlk⟩, hts _ hin, hts _ hsel⟩ hpre rfl rfl hl.2.1 hstk (by show 2 * 0 + _ ≤ _; rw [a_cats]; omega) hd ⟨by omega, by omega⟩
  intro T hT X
  obtain ⟨v', st₀, t, T', Lo, e0, X', hL, e1, e2, hq, go⟩ := hrun T hT X
  have hv := hq.1
  cases hv
  have hheap : T'.heap = H := by rw [e1, hq.2, e0]
  have hLo : ∀ q ∈ locs ++ Lo, w.2.2.2.1 ≤ q.base := fun q hq => by
    rcases List.mem_append.mp hq with h5 | h5
    · exact hs.2.1 q h5
    · exact (hL q h5).elim
  obtain ⟨t2, a1, b1⟩ := hk _ _ _ _ _ _ _ _ _ hr ⟨hs.1, hLo, hs.2.2⟩ hl T' hheap X'
  exact ⟨t2, go t2 a1, b1⟩
end SNY
