/-! THE CLAIM OUT OF ONE WALK OF THE LAW'S BODY. Your part is whole_start (and what it stands on); all else here is the same for every law, but numbers. -/
def R_law : String := "ClothPlayLaw"
def lw_P (b : Addr) (xs : List Int32) (args : Array Value) (s : State) : Prop := args = #[.ref b] ∧ s.IntsAt b xs ∧ xs.length ≤ 384 ∧ (Jvm.Cond.and given_1 narrow_1).before args s = true
def lw_Q (_ : Array Value) (s : State) (o : Outcome) (t : State) : Prop := o = .returned (some (.int 1)) ∧ Framed s o t [] room_1.cells room_1.slots
def lw_Z (below : List Frame) (a : Array Value) (s : State) : State → Prop := fun t => ∃ o, t.status = .running ∧ Ended t below o ∧ lw_Q a s o t
/-- the law's own end, with 1 on the stack, nothing written that was there before, its room as the claim has it -/
theorem lw_ret {p : Program} {l : Launch} {e : Env} {s : State} {m : MethodId} {below : List Frame} {meth : Method} {c : Code} {b : Nat} (hx : p.tables.exec = Jvm.exec) (hb : c.code = code) (hr : meth.sig.returnType = ret) (hlocks : meth.locks = false) {pc : Nat} {H : Heap} {ls : Array Slot} (hdg : decode code pc = .ok (.ireturn, 1)) : W p l e room_1 s m #[Value.ref b] below meth c H [] room_1.cells room_1.slots (lw_Z below #[Value.ref b] s) (F0 m pc ls [.int 1]) := by
  intro T hT X
  obtain ⟨fs, hret, hrun, hended, hW, hframe⟩ := X.leave (v := some (.int 1)) (hlocks := hlocks) (fun h => by rw [hr] at h; cases h)
  have hmeth' : T.vm.method? m = some meth := X.method'
  refine ⟨T.setFrames fs, ?_, .returned (some (.int 1)), hrun, hended, rfl, ⟨_, rfl⟩, hW, hframe⟩
  jvm_step X.here [X.here.top, hx, hb, hdg, hmeth', hr, ret, narrow_b1]
  (try refine ⟨rfl, ?_⟩); (try refine ⟨rfl, ?_⟩)
  first | (intro acts; rw [hret _ acts rfl rfl rfl]) | rw [hret _ _ rfl rfl rfl]
  exact Steps.refl _
/-- what holds at the law's entry: the machine, the code, the tables' words (any of lw_tbl by 'hts w (by decide +kernel)'), the script of L ints xs at the cell b, what the Statement gives of the start (any of its parts by flat_of_before) -/
def lw_At (p : Program) (s : State) (m : MethodId) (meth : Method) (c : Code) (b L : Nat) (xs : Nat → Int32) : Prop :=
  p.tables.exec = Jvm.exec ∧ c.code = code ∧ meth.sig.returnType = ret ∧ c.maxLocals = 4 ∧ s.vm.findClass R_law = some m.cls ∧ (∀ w ∈ lw_tbl, w.before #[Value.ref b] s = true) ∧ va_X b L xs s s.heap ∧ b < s.heap.size ∧ meth.locks = false ∧ (Jvm.Cond.and given_1 narrow_1).before #[Value.ref b] s = true
/-! ===== the law's start ===== -/
def aLo : Nat → Int32 := fun j => ([2, 0, 0, 0, 0, 0, 0] : List Int32).getD j 0
def aHi : Nat → Int32 := fun j => ([32, 16, 3, 1, 6, 31, 31] : List Int32).getD j 0
def aFi : Nat → Int32 := fun j => ([8, 1, 3, 0, 0, 8, 8] : List Int32).getD j 0
/-- the abstract heap at the law's entry -/
def h0 (L : Nat) (xs : Nat → Int32) : aH := ((fun a => if 1 ≤ a ∧ a ≤ 4 then 20 else 99, fun a => if a = 1 then L else if 2 ≤ a ∧ a ≤ 4 then 7 else 0, fun _ _ => 0, 6, 0), fun a => if a = 1 then xs else if a = 2 then aLo else if a = 3 then aHi else if a = 4 then aFi else fun _ => 0, fun _ _ => 0)
def QL : aQ := fun r h => r = some (.int 1) ∧ gx h.1 ≤ 6 + room_1.cells ∧ gs h.1 ≤ room_1.slots
theorem a_statAt {args : Array Value} {s : State} {tm : Jvm.Term} {N : Nat} {f : Nat → Int32} (hN : N < 2 ^ 31) (harr : (Jvm.Cond.arrayOf tm .int).before args s = true) (hlen : (Jvm.Cond.eq (.length tm) (.int (Int32.ofNat N))).before args s = true) (hel : ∀ j : Nat, j < N → (Jvm.Cond.eq (.elem tm (.int (Int32.ofNat j))) (.int (f j))).before args s = true) (hex : (Jvm.Cond.exactly tm "[I").before args s = true) : ∃ t : Nat, tm.eval args s none [] s = some (.ref t) ∧ t < s.heap.size ∧ va_X t N f s s.heap ∧ ∃ (cell : Cell) (cA : ClassId), s.heap[t]? = some cell ∧ s.vm.findClass "[I" = some cA ∧ cell.cls = cA := by
  have hlen := va_eqt hlen
  have hv0 := hlen
  obtain ⟨t, cell, ht, hat, hv⟩ := Term.length_spec hlen
  obtain ⟨hcell, hkn, -, -⟩ := State.arrayAt?_spec hat
  obtain ⟨hof, -⟩ := Cond.arrayOf_spec harr ht hcell
  have hsz : cell.slots.size < 2 ^ 31 := by
    simp only [Term.eval, ht, hat, Option.bind_eq_bind, Option.bind_some] at hv0
    by_cases hlt : cell.slots.size < 2147483648
    · exact hlt
    · simp [hlt] at hv0
  have hsN : cell.slots.size = N := by
    have h1 : Int32.ofNat N = cell.slots.size.toInt32 := Value.int.inj hv
    have h2 : (Int32.ofNat N).toNatClampNeg = N := Int32.toNatClampNeg_ofNat_of_lt hN
    have h3 : (Int32.ofNat cell.slots.size).toNatClampNeg = cell.slots.size := Int32.toNatClampNeg_ofNat_of_lt hsz
    have h4 : Int32.ofNat N = Int32.ofNat cell.slots.size := h1
    rw [← h3, ← h4, h2]
  obtain ⟨a, cc, cell', k, q1, q2, q3, -, -, q6, -⟩ := Cond.exactly_spec (args := args) (first := s) (o := none) (s := s) (idx := []) (t := tm) (cls := "[I") hex
  cases ht.symm.trans q1
  cases hcell.symm.trans q3
  refine ⟨t, ht, (Array.getElem?_eq_some_iff.mp hcell).1, ⟨cell, hcell, hof, hkn, hsN, fun j hj => ?_⟩, cell, cc, hcell, q2, q6⟩
  obtain ⟨a, i, cell2, h1, h2, h3, h4, h5⟩ := Term.elem_spec (va_eqt (hel j hj))
  cases ht.symm.trans h1
  cases hat.symm.trans h3
  have hi : i = Int32.ofNat j := by
    have e : (Term.int (Int32.ofNat j)).eval args s none [] s = some (.int (Int32.ofNat j)) := rfl
    cases h2.symm.trans e
    rfl
  have hc : i.toNatClampNeg = j := by rw [hi]; exact Int32.toNatClampNeg_ofNat_of_lt (Nat.lt_trans hj hN)
  rw [hc] at h5
  exact h5
theorem a_kn {args : Array Value} {s : State} (hts : ∀ w ∈ aW, w.before args s = true) : ∃ D : va_G, ∀ (ci : Nat) (r : vw_C), vwCl[ci]? = some r → u_Kn s r.1 r.2.1 r.2.2 (D.1 ci) (D.2 ci) := by
  have h : ∀ ci : Nat, ∃ q : ClassId × (Nat → Nat), ∀ r : vw_C, vwCl[ci]? = some r → u_Kn s r.1 r.2.1 r.2.2 q.1 q.2 := by
    intro ci
    cases hr : vwCl[ci]? with
    | none => exact ⟨(0, fun _ => 0), fun r h => by cases h⟩
    | some r =>
      obtain ⟨cC, iS, hk⟩ := u_known (n := r.2.2) hts (a_fixed.1 ci r hr) (hts _ (k_inst ci r hr))
      exact ⟨(cC, iS), fun r' h => by cases h; exact hk⟩
  obtain ⟨f, hf⟩ := Classical.axiomOfChoice h
  exact ⟨(fun ci => (f ci).1, fun ci => (f ci).2), fun ci r hr => hf ci r hr⟩
theorem a_arrP {args : Array Value} {s : State} {ty : FieldType} (h : (Jvm.Cond.arrayClass ty).before args s = true) (hty : ty = .int ∨ ty = .long ∨ ty = .boolean) : ∃ cA : ClassId, ArrOfT s cA ty ∧ va_RA s cA ty := by
  obtain ⟨cA, k, comp, h1, h2, h3⟩ := Cond.arrayClass_spec (args := args) (first := s) (o := none) (s := s) (idx := []) h
  exact ⟨cA, fun n z => ⟨fun k h => (by cases h), k, h2, comp, h3⟩, by rcases hty with rfl | rfl | rfl <;> exact h1⟩
theorem a_arrO {args : Array Value} {s : State} {C : String} (h : (Jvm.Cond.arrayOver (.object C)).before args s = true) : ∃ cA : ClassId, ArrOfT s cA (.object C) ∧ va_RA s cA (.object C) := by
  obtain ⟨comp, cA, k, h1, h2, h3, h4, h5⟩ := Cond.arrayOver_spec (args := args) (first := s) (o := none) (s := s) (idx := []) h
  exact ⟨cA, fun n z => ⟨fun k h => (by cases h), k, h3, comp, h4⟩, ⟨k, comp, h3, h4, h1, h5⟩⟩
theorem a_arrA {args : Array Value} {s : State} {t : FieldType} (h : (Jvm.Cond.arrayOver (.array t)).before args s = true) : ∃ cA : ClassId, ArrOfT s cA (.array t) ∧ va_RA s cA (.array t) := by
  obtain ⟨comp, cA, k, h1, h2, h3, h4, h5⟩ := arrayOverA_spec (args := args) (first := s) (o := none) (s := s) (idx := []) h
  exact ⟨cA, fun n z => ⟨fun k h => (by cases h), k, h3, comp, h4⟩, h5⟩
theorem a_chs {args : Array Value} {s : State} (hg : ∀ w ∈ flatC (Jvm.Cond.and given_1 narrow_1), w.before args s = true) : ∀ j : Nat, j < a_words.length → (Jvm.Cond.eq (.elem (.field (.string "ClothPlay$Reader" 151) "java/lang/String" "value" "[B") (.int (Int32.ofNat j))) (.int (aBy.getD j 0))).before args s = true := fun j hj => match j, hj with
  | 0, _ => hg _ (by decide +kernel)
  | 1, _ => hg _ (by decide +kernel)
  | 2, _ => hg _ (by decide +kernel)
  | 3, _ => hg _ (by decide +kernel)
  | 4, _ => hg _ (by decide +kernel)
  | 5, _ => hg _ (by decide +kernel)
  | 6, _ => hg _ (by decide +kernel)
  | 7, _ => hg _ (by decide +kernel)
  | 8, _ => hg _ (by decide +kernel)
  | 9, _ => hg _ (by decide +kernel)
  | 10, _ => hg _ (by decide +kernel)
  | 11, _ => hg _ (by decide +kernel)
  | 12, _ => hg _ (by decide +kernel)
  | 13, _ => hg _ (by decide +kernel)
  | 14, _ => hg _ (by decide +kernel)
  | 15, _ => hg _ (by decide +kernel)
  | 16, _ => hg _ (by decide +kernel)
  | 17, _ => hg _ (by decide +kernel)
  | 18, _ => hg _ (by decide +kernel)
  | 19, _ => hg _ (by decide +kernel)
  | 20, _ => hg _ (by decide +kernel)
  | 21, _ => hg _ (by decide +kernel)
  | 22, _ => hg _ (by decide +kernel)
  | 23, _ => hg _ (by decide +kernel)
  | 24, _ => hg _ (by decide +kernel)
  | 25, _ => hg _ (by decide +kernel)
  | 26, _ => hg _ (by decide +kernel)
  | 27, _ => hg _ (by decide +kernel)
  | 28, _ => hg _ (by decide +kernel)
  | 29, _ => hg _ (by decide +kernel)
  | 30, _ => hg _ (by decide +kernel)
  | 31, _ => hg _ (by decide +kernel)
  | 32, _ => hg _ (by decide +kernel)
  | 33, _ => hg _ (by decide +kernel)
  | 34, _ => hg _ (by decide +kernel)
  | 35, _ => hg _ (by decide +kernel)
  | 36, _ => hg _ (by decide +kernel)
  | 37, _ => hg _ (by decide +kernel)
  | 38, _ => hg _ (by decide +kernel)
  | 39, _ => hg _ (by decide +kernel)
  | 40, _ => hg _ (by decide +kernel)
  | 41, _ => hg _ (by decide +kernel)
  | 42, _ => hg _ (by decide +kernel)
  | 43, _ => hg _ (by decide +kernel)
  | 44, _ => hg _ (by decide +kernel)
  | 45, _ => hg _ (by decide +kernel)
  | 46, _ => hg _ (by decide +kernel)
  | 47, _ => hg _ (by decide +kernel)
  | 48, _ => hg _ (by decide +kernel)
  | 49, _ => hg _ (by decide +kernel)
  | 50, _ => hg _ (by decide +kernel)
  | 51, _ => hg _ (by decide +kernel)
  | 52, _ => hg _ (by decide +kernel)
  | 53, _ => hg _ (by decide +kernel)
  | 54, _ => hg _ (by decide +kernel)
  | 55, _ => hg _ (by decide +kernel)
  | 56, _ => hg _ (by decide +kernel)
  | 57, _ => hg _ (by decide +kernel)
  | 58, _ => hg _ (by decide +kernel)
  | 59, _ => hg _ (by decide +kernel)
  | 60, _ => hg _ (by decide +kernel)
  | 61, _ => hg _ (by decide +kernel)
  | 62, _ => hg _ (by decide +kernel)
  | 63, _ => hg _ (by decide +kernel)
  | 64, _ => hg _ (by decide +kernel)
  | 65, _ => hg _ (by decide +kernel)
  | 66, _ => hg _ (by decide +kernel)
  | 67, _ => hg _ (by decide +kernel)
  | 68, _ => hg _ (by decide +kernel)
  | 69, _ => hg _ (by decide +kernel)
  | 70, _ => hg _ (by decide +kernel)
  | 71, _ => hg _ (by decide +kernel)
  | 72, _ => hg _ (by decide +kernel)
  | 73, _ => hg _ (by decide +kernel)
  | 74, _ => hg _ (by decide +kernel)
  | 75, _ => hg _ (by decide +kernel)
  | 76, _ => hg _ (by decide +kernel)
  | 77, _ => hg _ (by decide +kernel)
  | 78, _ => hg _ (by decide +kernel)
  | 79, _ => hg _ (by decide +kernel)
  | n + 80, h => absurd h (by show ¬ (n + 80 < 80); omega)
theorem a_byt : ∀ j, j < a_words.length → aBy.getD j 0 = aBy.getD j 0 := fun _ _ => rfl
set_option maxRecDepth 100000 in
set_option maxHeartbeats 8000000 in
theorem whole_open {p : Program} {e : Env} {s : State} {m : MethodId} {below : List Frame} {meth : Method} {c : Code} (l : Launch) {b L : Nat} {xs : Nat → Int32} (hmain : a_wp aTab aMX 100 m_law 0 [.ref 1, aU, aU, aU] [] (h0 L xs) QL) (C0 : lw_At p s m meth c b L xs) : W p l e room_1 s m #[Value.ref b] below meth c s.heap [] 0 0 (lw_Z below #[Value.ref b] s) (entryFrame m ([Value.ref b] : List Value).toArray 4) := by
  obtain ⟨hx, hb, hret, hml, hown, hts0, hX, hbl, hlocks, hgv⟩ := C0
  have hts : ∀ w ∈ aW, w.before #[Value.ref b] s = true := fun w hw => hts0 w (List.mem_filter.mp hw).1
  have hg := flat_of_before _ hgv
  obtain ⟨D, hD⟩ := a_kn hts
  obtain ⟨y12, a12⟩ := a_arrP (hts _ k_arr.1) (Or.inl rfl)
  obtain ⟨y13, a13⟩ := a_arrP (hts _ k_arr.2.1) (Or.inr (Or.inl rfl))
  obtain ⟨y14, a14⟩ := a_arrP (hts _ k_arr.2.2) (Or.inr (Or.inr rfl))
  obtain ⟨y15, a15⟩ := a_arrO (hts _ k_ovP)
  obtain ⟨y16, a16⟩ := a_arrO (hts _ k_ovS)
  obtain ⟨y17, a17⟩ := a_arrA (hts _ k_ovI)
  obtain ⟨y18, a18⟩ := a_arrA (hts _ k_ovJ)
  obtain ⟨tL, eL, bL, xL, cL', cA2, cL1, cL2, cL3⟩ := a_statAt (N := 7) (f := aLo) (tm := .static "ClothPlay" "LOWEST" "[I") (by decide) (hg _ (by decide +kernel)) (hg _ (by decide +kernel)) (fun j hj => by
    match j, hj with
    | 0, _ => exact hg _ (by decide +kernel)
    | 1, _ => exact hg _ (by decide +kernel)
    | 2, _ => exact hg _ (by decide +kernel)
    | 3, _ => exact hg _ (by decide +kernel)
    | 4, _ => exact hg _ (by decide +kernel)
    | 5, _ => exact hg _ (by decide +kernel)
    | 6, _ => exact hg _ (by decide +kernel)
    | n + 7, h => omega) (hg _ (by decide +kernel))
  obtain ⟨tH, eH, bH, xH, cH', cA3, cH1, cH2, cH3⟩ := a_statAt (N := 7) (f := aHi) (tm := .static "ClothPlay" "HIGHEST" "[I") (by decide) (hg _ (by decide +kernel)) (hg _ (by decide +kernel)) (fun j hj => by
    match j, hj with
    | 0, _ => exact hg _ (by decide +kernel)
    | 1, _ => exact hg _ (by decide +kernel)
    | 2, _ => exact hg _ (by decide +kernel)
    | 3, _ => exact hg _ (by decide +kernel)
    | 4, _ => exact hg _ (by decide +kernel)
    | 5, _ => exact hg _ (by decide +kernel)
    | 6, _ => exact hg _ (by decide +kernel)
    | n + 7, h => omega) (hg _ (by decide +kernel))
  obtain ⟨tF, eF, bF, xF, cF', cA4, cF1, cF2, cF3⟩ := a_statAt (N := 7) (f := aFi) (tm := .static "ClothPlay" "AT_FIRST" "[I") (by decide) (hg _ (by decide +kernel)) (hg _ (by decide +kernel)) (fun j hj => by
    match j, hj with
    | 0, _ => exact hg _ (by decide +kernel)
    | 1, _ => exact hg _ (by decide +kernel)
    | 2, _ => exact hg _ (by decide +kernel)
    | 3, _ => exact hg _ (by decide +kernel)
    | 4, _ => exact hg _ (by decide +kernel)
    | 5, _ => exact hg _ (by decide +kernel)
    | 6, _ => exact hg _ (by decide +kernel)
    | n + 7, h => omega) (hg _ (by decide +kernel))
  have hA : ∀ a : Nat, a < s.heap.size → ¬ s.heap.size ≤ a := fun a h => by omega
  obtain ⟨adK, adV, hS, hSe⟩ := vk_Sof (N := 1) (tm := fun _ => .string "ClothPlay$Reader" 151) (len := [a_words.length]) (byt := [aBy]) (A := fun q => s.heap.size ≤ q) (fun i hi => by obtain rfl : i = 0 := (by omega); decide) (fun i hi => hg _ (by decide +kernel)) (fun i hi => hg _ (by decide +kernel)) (fun i hi => hg _ (by decide +kernel)) (fun i hi => by obtain rfl : i = 0 := (by omega); exact hg _ (by decide +kernel)) (fun i hi j hj => by
    obtain rfl : i = 0 := (by omega)
    exact a_chs (fun w hw => hg w hw) j hj) (fun i j hi hj hij => absurd (by omega : i = j) hij) hA
  have hZL : va_Z RX10 "LOWEST" "[I" (.ref tL) (fun q => s.heap.size ≤ q) s s.heap := va_Zof (hts0 _ (t0W k_lsL)) (hts _ k_iniC) eL hA
  have hZH : va_Z RX10 "HIGHEST" "[I" (.ref tH) (fun q => s.heap.size ≤ q) s s.heap := va_Zof (hts0 _ (t0W k_lsH)) (hts _ k_iniC) eH hA
  have hZF : va_Z RX10 "AT_FIRST" "[I" (.ref tF) (fun q => s.heap.size ≤ q) s s.heap := va_Zof (hts0 _ (t0W k_lsF)) (hts _ k_iniC) eF hA
  have hZC : va_Z RJ0 "COMPACT_STRINGS" "Z" (.int 1) (fun q => s.heap.size ≤ q) s s.heap := va_Zof (hts0 _ (t0W k_lsC)) (hts _ a_fixed.2.2.2.2.2.2.2.2.2.2.2.1) (va_eqt (hg _ (by decide +kernel))) hA
  have hZq : va_Zq RJ3 "SIOOBE_FORMATTER" "Ljava/util/function/BiFunction;" (fun q => s.heap.size ≤ q) s s.heap := va_Zqof (hts0 _ (t0W k_lsQ)) (hts _ kw_n5) (hg _ (by decide +kernel)) hA
  have hvR : vk_R RX6 151 aTx (adK 0) s := vk_R.of (A := #[Value.ref b]) (hts0 _ (t0W k_str)) (hSe 0 (by decide))
  let w : aO := (D, (fun k => if k = 12 then y12 else if k = 13 then y13 else if k = 14 then y14 else if k = 15 then y15 else if k = 16 then y16 else if k = 17 then y17 else y18), (fun a => if a = 1 then b else if a = 2 then tL else if a = 3 then tH else if a = 4 then tF else adK 0), s.heap.size, s.heap)
  have hw : w = (D, (fun k => if k = 12 then y12 else if k = 13 then y13 else if k = 14 then y14 else if k = 15 then y15 else if k = 16 then y16 else if k = 17 then y17 else y18), (fun a => if a = 1 then b else if a = 2 then tL else if a = 3 then tH else if a = 4 then tF else adK 0), s.heap.size, s.heap) := rfl
  clear_value w
  have hK : va_K w.1 vwCl (a_tys w) s := by
    subst hw
    refine ⟨hD, fun k q hk => ?_⟩
    match k, hk with
    | 0, hk => cases hk; exact a12
    | 1, hk => cases hk; exact a13
    | 2, hk => cases hk; exact a14
    | 3, hk => cases hk; exact a15
    | 4, hk => cases hk; exact a16
    | 5, hk => cases hk; exact a17
    | 6, hk => cases hk; exact a18
    | n + 7, hk => cases hk
  have henv : a_env w s s.heap := by
    refine ⟨hK, ?_⟩
    subst hw
    exact ⟨⟨hZL, hZH, hZF⟩, hvR, ⟨adV, by
      have e : (fun _ => adK 0 : Nat → Nat) 0 = adK 0 := rfl
      exact ⟨fun i hi => by obtain rfl : i = 0 := (by omega); exact hS.1 0 hi, fun i j hi hj _ => by omega⟩⟩, hZC, hZq⟩
  have hrel : a_rel w (h0 L xs) s s.heap := by
    subst hw
    refine ⟨Nat.le_refl 6, rfl, fun a ha => ?_, fun a h1 h2 => ?_, fun a ha => ?_, fun q hq => rfl⟩
    · exfalso
      revert ha
      show (if 1 ≤ a ∧ a ≤ 4 then 20 else 99) ≤ 18 → False
      split <;> omega
    · exfalso
      have h2 : a < 6 := h2
      omega
    · have ha : (if 1 ≤ a ∧ a ≤ 4 then 20 else 99) = 20 := ha
      have h14 : 1 ≤ a ∧ a ≤ 4 := by
        by_cases q : 1 ≤ a ∧ a ≤ 4
        · exact q
        · rw [if_neg q] at ha; cases ha
      have : a = 1 ∨ a = 2 ∨ a = 3 ∨ a = 4 := by omega
      rcases this with rfl | rfl | rfl | rfl
      · exact ⟨h14, hbl, hX, fun h => by cases h⟩
      · exact ⟨h14, bL, xL, fun h => by cases h⟩
      · exact ⟨h14, bH, xH, fun h => by cases h⟩
      · refine ⟨h14, bF, xF, fun _ => ⟨cF', cF1, ?_⟩⟩
        rw [cF3]
        exact Option.some.inj (cF2.symm.trans a12.2)
  have hn0 : w.2.2.2.1 = s.heap.size := by rw [hw]
  have hH0 : w.2.2.2.2 = s.heap := by rw [hw]
  have had1 : acv w (.ref 1) = .ref b := by subst hw; rfl
  obtain ⟨n, hrun⟩ := hmain
  have hfit : a_fit2 4 [.ref 1] = true := rfl
  have hls := a_entry_ls (w := w) hfit
  rw [show ([Value.ref 1] : List Value).map (acv w) = [Value.ref b] by rw [List.map_cons, had1]; rfl] at hls
  rw [lg_entry_eq]
  have hst0 : a_st w 6 0 (h0 L xs) s s.heap [] 0 0 := ⟨hrel, fun _ hq => absurd hq List.not_mem_nil, rfl, rfl⟩
  have IH := a_sound (yy := aYY) (bb := aBB) (mx := aMX) (rr := aRR) (tab := aTab) a_fixed (t_length l w) (t_charAt l w) a_prog 100
  refine a_run_sound (mi := m_law) (x0 := 6) (s0 := 0) (Q := QL) a_fixed (t_length l w) (t_charAt l w) a_prog IH ⟨⟨hx, hb, hml, hown, hts⟩, ⟨henv, fun q _ => by rw [hH0]⟩, ⟨hret, hlocks, fun z => absurd z (by decide)⟩, by decide, by decide⟩ ⟨?_, ?_, ?_⟩ ?_ ?_ n 0 _ [] (h0 L xs) s.heap [] 0 0 _ hrun hst0 hls
  · rintro pc v h' H locs cells slots ls ⟨hv, hc1, hc2⟩ hs hd hrr
    cases hv
    have e1 := hs.2.2.1
    have e2 := hs.2.2.2
    refine va_forget (fun q hq => by rw [← hn0]; exact hs.2.1 q hq) ?_
    refine W.widen (k := room_1.cells) (n := room_1.slots) (by omega) (by omega) ?_
    exact lw_ret hx hb hret hlocks hd
  · rintro pc v h' H locs cells slots ls ⟨hv, -⟩
    cases hv
  · rintro pc h' H locs cells slots ls ⟨hv, -⟩
    cases hv
  · rintro r g ⟨-, h1, h2⟩
    exact ⟨h1, by show gs g.1 ≤ 0 + room_1.slots; omega⟩
  · rw [hn0]
    exact Nat.le_refl _
