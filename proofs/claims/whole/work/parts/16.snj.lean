/-! ===== arraycopy and clone ===== -/
section SNJ
variable {p : Program} {l : Launch} {e : Env} {R : Room} {s : State} {m : MethodId} {args : Array Value} {below : List Frame} {meth : Method} {c : Code} {cc : ByteArray} {Qf : State → Prop} {w : aO} {x0 s0 nL : Nat}
variable {k : aK} {pc tg ix : Nat} {L st : List Value} {h : aH} {H : Heap} {locs : List Loc} {cells slots : Nat} {ls : Array Slot} {ci : Int32} {cl : Int64}
theorem a_cats (r : List Value) : ((r.map (acv w)).map fun v => v.category).sum = (r.map Value.category).sum := by
  rw [List.map_map, show ((fun v => v.category) ∘ acv w) = Value.category from funext fun v => acv_cat w v]
theorem sn_arraycopy (hx : p.tables.exec = Jvm.exec) (hb : c.code = cc) (hk : a_Wk p l e R s m args below meth c Qf w x0 s0 nL k) (hs : a_st w x0 s0 h s H locs cells slots) (hl : a_ls w nL L ls) (hml : c.maxLocals = nL) {own : String} (ho : s.vm.findClass own = some m.cls) (hK : va_K w.1 vwCl (a_tys w) s) (hlk : (Jvm.Cond.methodLink own ix arraycopyName).before args s = true) (hnat : (Jvm.Cond.native arraycopyName).before args s = true) (hstat : (Jvm.Cond.static arraycopyName).before args s = true) (hini : (Jvm.Cond.initialized "java/lang/System").before args s = true)
    (hd : decode cc pc = .ok (.invokestatic ix, 3)) (hf : 1 ≤ R.frames) (hlo : 40 ≤ R.locals)
    (hr : match st with | .int n :: .int dp :: .ref d :: .int sp :: .ref s' :: r => (gK h.1 s' = 12 ∧ gK h.1 d = 12) ∧ (¬ n < 0 ∧ ¬ dp < 0 ∧ ¬ sp < 0) ∧ (sp.toNatClampNeg + n.toNatClampNeg ≤ gN h.1 s' ∧ dp.toNatClampNeg + n.toNatClampNeg ≤ gN h.1 d) ∧ k (pc + 3) L r (h.1, cpy2 h.2.1 s' sp.toNatClampNeg d dp.toNatClampNeg n.toNatClampNeg, h.2.2) | _ => False) (h8 : (st.map Value.category).sum ≤ 8) : W p l e R s m args below meth c H locs cells slots Qf (F0 m pc ls (st.map (acv w))) := by
  split at hr
  · rename_i n dp d sp s' r
    obtain ⟨⟨hka, hkd⟩, ⟨h3, h2, h1⟩, ⟨h4, h5⟩, hr⟩ := hr
    obtain ⟨h0, h6, hlt, hcv, hat⟩ := a_rel_at hs.1 (a := s') (by omega)
    obtain ⟨g0, g6, glt, gcv, gat⟩ := a_rel_at hs.1 (a := d) (by omega)
    rw [List.map_cons, List.map_cons, List.map_cons, List.map_cons, List.map_cons, hcv, gcv]
    rw [a_cell_i hka] at hat
    rw [a_cell_i hkd] at gat
    generalize hA0 : w.2.2.2.1 + (s' - 6) = a0 at hat
    generalize hA1 : w.2.2.2.1 + (d - 6) = a at gat
    have nn : ∀ z : Int32, ¬ z < 0 → z.toInt = (z.toNatClampNeg : Int) := by
      intro z hz
      have hz0 : (0 : Int) ≤ z.toInt := by
        have := Int32.not_lt.mp hz
        simpa using Int32.le_iff_toInt_le.mp this
      show z.toInt = ((z.toInt.toNat : Nat) : Int)
      omega
    have hcat : ((r.map (acv w)).map fun v => v.category).sum ≤ 8 := by
      rw [a_cats]
      simp only [List.map_cons, List.sum_cons] at h8
      omega
    intro T hT X
    have hc0 : H[a0]? = some (vp_cell (w.2.1 12) (gN h.1 s', .inl (h.2.1 s'))) := hat
    have hc1 : H[a]? = some (vp_cell (w.2.1 12) (gN h.1 d, .inl (h.2.1 d))) := gat
    obtain ⟨-, k0, hk0, cm0, hkk0⟩ := (hK.2 0 _ rfl).1 (gN h.1 s') (fun j => .int (h.2.1 s' j))
    obtain ⟨-, k1, hk1, cm1, hkk1⟩ := (hK.2 0 _ rfl).1 (gN h.1 d) (fun j => .int (h.2.1 d j))
    obtain ⟨vm', X', step⟩ := X.arraycopy hx ho hlk hnat hstat hini (src := a0) (dst := a) (cs := vp_cell (w.2.1 12) (gN h.1 s', .inl (h.2.1 s'))) (cd := vp_cell (w.2.1 12) (gN h.1 d, .inl (h.2.1 d))) (srcPos := sp) (destPos := dp) (n := n) (by rw [hT]; exact hc0) (by rw [hT]; exact hc1)
      (fun _ h => by cases h) (fun _ h => by cases h) (fun h => by cases h) (fun h => by cases h) hk0 hk1 hkk0 hkk1 (by simp) h1 h2 h3
      (by rw [nn sp h1, nn n h3]; show ¬ _ > ((arrV (w.2.1 12) (gN h.1 s') (fun j => .int (h.2.1 s' j))).slots.size : Int); rw [arrV_size]; omega)
      (by rw [nn dp h2, nn n h3]; show ¬ _ > ((arrV (w.2.1 12) (gN h.1 d) (fun j => .int (h.2.1 d j))).slots.size : Int); rw [arrV_size]; omega)
      (fun vm₁ _ i hi => by
        have e : (vp_cell (w.2.1 12) (gN h.1 s', .inl (h.2.1 s'))).slots.getD (sp.toNatClampNeg + i) .null = .int (h.2.1 s' (sp.toNatClampNeg + i)) := by
          show (arrV (w.2.1 12) (gN h.1 s') (fun j => .int (h.2.1 s' j))).slots.getD _ _ = _
          rw [Array.getD_eq_getD_getElem?, arrV_read _ _ (by omega)]
          rfl
        refine ⟨?_, ?_⟩
        · rw [e]
          rfl
        · rw [e]
          exact trivial)
      (g := F0 m pc ls (.int n :: .int dp :: .ref a :: .int sp :: .ref a0 :: r.map (acv w))) rfl (by rw [hml]; exact hl.2.1) (rest := r.map (acv w)) rfl (by rw [hb]; exact hd) hf (by show 2 * 0 + _ + (5 + 2 + 11) ≤ _; omega)
    have e1 : copied (vp_cell (w.2.1 12) (gN h.1 s', .inl (h.2.1 s'))) (vp_cell (w.2.1 12) (gN h.1 d, .inl (h.2.1 d))) sp dp n = vp_cell (w.2.1 12) (gN h.1 d, .inl (va_cpy (h.2.1 s') (h.2.1 d) sp.toNatClampNeg dp.toNatClampNeg n.toNatClampNeg)) := va_copied (fun z => .int z) (w.2.1 12) (w.2.1 12) (h.2.1 s') (h.2.1 d) h4
    rw [e1] at X' step
    have hlt2 : a < H.size := (Array.getElem?_eq_some_iff.mp hc1).1
    have hheap : ((T.setVm vm').setCell a (vp_cell (w.2.1 12) (gN h.1 d, .inl (va_cpy (h.2.1 s') (h.2.1 d) sp.toNatClampNeg dp.toNatClampNeg n.toNatClampNeg)))).heap = H.setIfInBounds a (vp_cell (w.2.1 12) (gN h.1 d, .inl (va_cpy (h.2.1 s') (h.2.1 d) sp.toNatClampNeg dp.toNatClampNeg n.toNatClampNeg))) := by rw [← hT]; rfl
    have hrel : a_rel w (h.1, cpy2 h.2.1 s' sp.toNatClampNeg d dp.toNatClampNeg n.toNatClampNeg, h.2.2) s (H.setIfInBounds a (vp_cell (w.2.1 12) (gN h.1 d, .inl (va_cpy (h.2.1 s') (h.2.1 d) sp.toNatClampNeg dp.toNatClampNeg n.toNatClampNeg)))) := by
      have hne : ∀ b, b ≠ d → cpy2 h.2.1 s' sp.toNatClampNeg d dp.toNatClampNeg n.toNatClampNeg b = h.2.1 b := fun b hb => by
        funext j
        simp [cpy2, hb]
      refine a_rel_upd (a := d) hs.1 rfl rfl rfl (by omega) ?_ (fun b hb => a_cell_same rfl rfl rfl (hne b hb) rfl) hne (by simp) (fun q hq => by rw [hA1] at hq; simp [Array.getElem?_setIfInBounds, Ne.symm hq])
      rw [a_cell_i (h := (h.1, cpy2 h.2.1 s' sp.toNatClampNeg d dp.toNatClampNeg n.toNatClampNeg, h.2.2)) hkd, hA1]
      show (H.setIfInBounds a _)[a]? = some (vp_cell _ _)
      have e5 : cpy2 h.2.1 s' sp.toNatClampNeg d dp.toNatClampNeg n.toNatClampNeg d = va_cpy (h.2.1 s') (h.2.1 d) sp.toNatClampNeg dp.toNatClampNeg n.toNatClampNeg := by
        funext j
        simp [cpy2, va_cpy]
      show (H.setIfInBounds a _)[a]? = some (vp_cell (w.2.1 12) (gN h.1 d, .inl (cpy2 h.2.1 s' sp.toNatClampNeg d dp.toNatClampNeg n.toNatClampNeg d)))
      rw [e5]
      simp [Array.getElem?_setIfInBounds, hlt2]
    obtain ⟨t, a1, b1⟩ := hk _ _ _ _ _ _ _ _ _ hr ⟨hrel, fun q hq => by
        rcases List.mem_append.mp hq with h | h
        · exact hs.2.1 q h
        · obtain ⟨z, -, hz⟩ := List.mem_map.mp h
          rw [← hz]
          show w.2.2.2.1 ≤ a
          omega, hs.2.2.1, hs.2.2.2⟩ hl _ hheap X'
    exact ⟨t, step t a1, b1⟩
  · exact hr.elim
theorem sn_clone (hx : p.tables.exec = Jvm.exec) (hb : c.code = cc) (hk : a_Wk p l e R s m args below meth c Qf w x0 s0 nL k) (hrm : a_rm R x0 s0 k) (hs : a_st w x0 s0 h s H locs cells slots) (hl : a_ls w nL L ls) (hml : c.maxLocals = nL) {own : String} (ho : s.vm.findClass own = some m.cls) (hK : va_K w.1 vwCl (a_tys w) s)
    (hlk : (Jvm.Cond.methodLink own ix ⟨"[I", "clone", "()Ljava/lang/Object;"⟩).before args s = true) (hsame : (Jvm.Cond.sameMethod "[I" "java/lang/Object" "clone" "()Ljava/lang/Object;").before args s = true)
    (hnat : (Jvm.Cond.native ⟨"java/lang/Object", "clone", "()Ljava/lang/Object;"⟩).before args s = true) (hinst : (Jvm.Cond.instanceMethod ⟨"java/lang/Object", "clone", "()Ljava/lang/Object;"⟩).before args s = true)
    (hsel : (Jvm.Cond.selects "[I" ⟨"[I", "clone", "()Ljava/lang/Object;"⟩ ⟨"java/lang/Object", "clone", "()Ljava/lang/Object;"⟩).before args s = true) (hcl : (Jvm.Cond.castable "[I" "java/lang/Cloneable").before args s = true)
    (hd : decode cc pc = .ok (.invokevirtual ix, 3)) (hf : 1 ≤ R.frames) (hlo : 40 ≤ R.locals)
    (hr : match st with | .ref a :: r => (gK h.1 a = 20 ∧ a = 4) ∧ k (pc + 3) L (.ref (gx h.1) :: r) (gnew h.1 12 (gN h.1 a), row2 h.2.1 (gx h.1) a (gN h.1 a), z2 h.2.2 (gx h.1) 0) | _ => False) (h8 : (st.map Value.category).sum ≤ 8) : W p l e R s m args below meth c H locs cells slots Qf (F0 m pc ls (st.map (acv w))) := by
  split at hr
  · rename_i a r
    obtain ⟨⟨hka, ha4⟩, hr⟩ := hr
    obtain ⟨h1, h2, ⟨scr, hscr, hof, hunk, hsz, hel⟩, h4⟩ := hs.1.2.2.2.2.1 a hka
    obtain ⟨scr', hscr', hcls⟩ := h4 ha4
    cases hscr.symm.trans hscr'
    have h0 : a ≠ 0 := Nat.ne_of_gt h1.1
    rw [List.map_cons, acv_ref w h0, aad, if_pos (by omega)]
    have hroom : gx (gnew h.1 12 (gN h.1 a)) ≤ x0 + R.cells ∧ gs (gnew h.1 12 (gN h.1 a)) ≤ s0 + R.slots := hrm _ _ _ _ hr
    have e1 : gx (gnew h.1 12 (gN h.1 a)) = gx h.1 + 1 := rfl
    have e2 : gs (gnew h.1 12 (gN h.1 a)) = gs h.1 + gN h.1 a := rfl
    have e3 := hs.2.2
    have hcat : ((r.map (acv w)).map fun v => v.category).sum ≤ 8 := by
      rw [a_cats]
      simp only [List.map_cons, List.sum_cons] at h8
      omega
    have hnm : s.vm.findClass "[I" = some (w.2.1 12) := (hK.2 0 _ rfl).2
    obtain ⟨c0, t0', f1, f2, f3⟩ := Cond.castable_spec hcl
    cases hnm.symm.trans f1
    intro T hT X
    have hcellT : T.heap[w.2.2.1 a]? = some scr := by rw [hT]; exact hscr
    obtain ⟨-, kA, hkA, comp, hkind⟩ := State.isArrayOf_alike X.warmed.alike ((hK.2 0 _ rfl).1 0 (fun _ => .null))
    obtain ⟨-, kS, hkS, compS, hkindS⟩ := (hK.2 0 _ rfl).1 0 (fun _ => .null)
    have hval : ∀ (i : Nat) (v : Value), scr.slots[i]? = some v → ∃ z, v = .int z := fun i v hv => by
      have hi : i < gN h.1 a := by rw [← hsz]; exact (Array.getElem?_eq_some_iff.mp hv).1
      exact ⟨_, Option.some.inj (hv.symm.trans (hel i hi))⟩
    obtain ⟨vm', X', st'⟩ := X.cloneArray hx ho hlk hsame hnat hinst hsel (a := w.2.2.1 a) (cell := scr) hcellT hof.1 hunk (by rw [hcls]; exact hnm) f2 (by rw [hcls]; exact f3)
      (fun i v hv => by
        rw [hcls]
        have hk' : T.vm.classes[w.2.1 12]? = some kA := hkA
        obtain ⟨z, rfl⟩ := hval i v hv
        simp [State.fitsSlot, State.slotType?, hk', hkind, fits])
      (g := F0 m pc ls (.ref (w.2.2.1 a) :: r.map (acv w))) rfl (by rw [hml]; exact hl.2.1) rfl (by rw [hb]; exact hd) hf (by show 2 * 0 + _ + 14 ≤ _; omega) (by omega) (by rw [hsz]; omega) (hloader := by rw [hcls]; exact Vm.clonesLoader_of_array hkS hkindS)
    have hce : ({ cls := scr.cls, slots := scr.slots } : Cell) = vp_cell (w.2.1 12) (gN h.1 a, .inl (row2 h.2.1 (gx h.1) a (gN h.1 a) (gx h.1))) := by
      rw [vp_cell_i, hcls]
      have : scr.slots = (arrV (w.2.1 12) (gN h.1 a) (fun j => .int (row2 h.2.1 (gx h.1) a (gN h.1 a) (gx h.1) j))).slots := by
        apply Array.ext_getElem?
        intro j
        by_cases hj : j < gN h.1 a
        · rw [hel j hj, arrV_read _ _ hj]
          simp [row2, hj]
        · rw [Array.getElem?_eq_none (by omega), Array.getElem?_eq_none (by rw [arrV_size]; omega)]
      rw [this]
      rfl
    rw [hce, hsz] at X'
    generalize hH1 : H.push (vp_cell (w.2.1 12) (gN h.1 a, .inl (row2 h.2.1 (gx h.1) a (gN h.1 a) (gx h.1)))) = H1
    have z1 : H1.size = H.size + 1 := by rw [← hH1, Array.size_push]
    have q1 : H1[H.size]? = some (vp_cell (w.2.1 12) (gN h.1 a, .inl (row2 h.2.1 (gx h.1) a (gN h.1 a) (gx h.1)))) := by rw [← hH1, Array.getElem?_push_size]
    have o1 : ∀ q : Nat, q < H.size → H1[q]? = H[q]? := fun q hq => by rw [← hH1, Array.getElem?_push, if_neg (Nat.ne_of_lt hq)]
    have hKx : gK (gnew h.1 12 (gN h.1 a)) (gx h.1) = 12 := u1_eq
    have hNx : gN (gnew h.1 12 (gN h.1 a)) (gx h.1) = gN h.1 a := u1_eq
    obtain ⟨g1, g2⟩ := a_st_new (h2 := (gnew h.1 12 (gN h.1 a), row2 h.2.1 (gx h.1) a (gN h.1 a), z2 h.2.2 (gx h.1) 0)) (H1 := H1) hs rfl rfl (n := gN h.1 a) rfl (fun b hb => u1_ne hb) (fun b hb => u1_ne hb) (fun b hb => z2_ne hb) (fun b hb => by funext j; simp [row2, hb]) (fun b hb => z2_ne hb) (by rw [hKx]; decide) (by
      rw [a_cell_i hKx, hNx]
      exact q1) z1 o1
    obtain ⟨t, b1, b2⟩ := hk _ _ _ _ _ _ _ _ _ hr g1 hl ((T.setVm vm').pushCell (vp_cell (w.2.1 12) (gN h.1 a, .inl (row2 h.2.1 (gx h.1) a (gN h.1 a) (gx h.1))))) (by rw [← hH1, ← hT]; rfl) X'
    refine ⟨t, st' t ?_, b2⟩
    rw [hce, hT]
    rw [List.map_cons, g2] at b1
    exact b1
  · exact hr.elim
theorem sn_mmin (hx : p.tables.exec = Jvm.exec) (hb : c.code = cc) (hk : a_Wk p l e R s m args below meth c Qf w x0 s0 nL k) (hs : a_st w x0 s0 h s H locs cells slots) (hl : a_ls w nL L ls) (hml : c.maxLocals = nL) {own : String} (ho : s.vm.findClass own = some m.cls) (hlk : (Jvm.Cond.methodLink own ix Lib.Math.min.name).before args s = true) (hstat : (Jvm.Cond.static Lib.Math.min.name).before args s = true) (hini : (Jvm.Cond.initialized "java/lang/Math").before args s = true) (hcode : (Jvm.Cond.code Lib.Math.min.name Lib.Math.min.code 2 (some .int)).before args s = true)
    (hd : decode cc pc = .ok (.invokestatic ix, 3)) (hf : 1 ≤ R.frames) (hlo : 40 ≤ R.locals) (hrm0 : cells ≤ R.cells ∧ slots ≤ R.slots) (hr : a_bin st (fun a b => if b < a then b else a) (fun st2 => k (pc + 3) L st2 h)) (h8 : (st.map Value.category).sum ≤ 8) : W p l e R s m args below meth c H locs cells slots Qf (F0 m pc ls (st.map (acv w))) := by
  unfold a_bin at hr
  split at hr
  · rename_i b a r
    have hcat : ((r.map (acv w)).map fun v => v.category).sum ≤ 8 := by
      rw [a_cats]
      simp only [List.map_cons, List.sum_cons] at h8
      omega
    exact va_mmin hx hb (by rw [hml]; exact hl.2.1.symm) ho hlk hstat hini hcode hf (by omega) hrm0.1 hrm0.2 hd (hk _ _ _ _ _ _ _ _ _ hr hs hl)
  · exact hr.elim
theorem sn_mmax (hx : p.tables.exec = Jvm.exec) (hb : c.code = cc) (hk : a_Wk p l e R s m args below meth c Qf w x0 s0 nL k) (hs : a_st w x0 s0 h s H locs cells slots) (hl : a_ls w nL L ls) (hml : c.maxLocals = nL) {own : String} (ho : s.vm.findClass own = some m.cls) (hlk : (Jvm.Cond.methodLink own ix Lib.Math.max.name).before args s = true) (hstat : (Jvm.Cond.static Lib.Math.max.name).before args s = true) (hini : (Jvm.Cond.initialized "java/lang/Math").before args s = true) (hcode : (Jvm.Cond.code Lib.Math.max.name Lib.Math.max.code 2 (some .int)).before args s = true)
    (hd : decode cc pc = .ok (.invokestatic ix, 3)) (hf : 1 ≤ R.frames) (hlo : 40 ≤ R.locals) (hrm0 : cells ≤ R.cells ∧ slots ≤ R.slots) (hr : a_bin st (fun a b => if a < b then b else a) (fun st2 => k (pc + 3) L st2 h)) (h8 : (st.map Value.category).sum ≤ 8) : W p l e R s m args below meth c H locs cells slots Qf (F0 m pc ls (st.map (acv w))) := by
  unfold a_bin at hr
  split at hr
  · rename_i b a r
    have hcat : ((r.map (acv w)).map fun v => v.category).sum ≤ 8 := by
      rw [a_cats]
      simp only [List.map_cons, List.sum_cons] at h8
      omega
    exact va_mmax hx hb (by rw [hml]; exact hl.2.1.symm) ho hlk hstat hini hcode hf (by omega) hrm0.1 hrm0.2 hd (hk _ _ _ _ _ _ _ _ _ hr hs hl)
  · exact hr.elim
theorem sn_mminL (hx : p.tables.exec = Jvm.exec) (hb : c.code = cc) (hk : a_Wk p l e R s m args below meth c Qf w x0 s0 nL k) (hs : a_st w x0 s0 h s H locs cells slots) (hl : a_ls w nL L ls) (hml : c.maxLocals = nL) {own : String} (ho : s.vm.findClass own = some m.cls) (hlk : (Jvm.Cond.methodLink own ix Lib.MathLoose.min_long.x).before args s = true) (hstat : (Jvm.Cond.static Lib.MathLoose.min_long.x).before args s = true) (hini : (Jvm.Cond.initialized "java/lang/Math").before args s = true) (hcode : (Jvm.Cond.code Lib.MathLoose.min_long.x Lib.MathLoose.min_long.code 4 (some .long)).before args s = true)
    (hd : decode cc pc = .ok (.invokestatic ix, 3)) (hf : 1 ≤ R.frames) (hlo : 40 ≤ R.locals) (hrm0 : cells ≤ R.cells ∧ slots ≤ R.slots) (hr : a_binL st (fun a b => if b < a then b else a) (fun st2 => k (pc + 3) L st2 h)) (h8 : (st.map Value.category).sum ≤ 8) : W p l e R s m args below meth c H locs cells slots Qf (F0 m pc ls (st.map (acv w))) := by
  unfold a_binL at hr
  split at hr
  · rename_i b a r
    have hcat : ((r.map (acv w)).map fun v => v.category).sum ≤ 8 := by
      rw [a_cats]
      simp only [List.map_cons, List.sum_cons] at h8
      omega
    exact va_mmin_long hx hb (by rw [hml]; exact hl.2.1.symm) ho hlk hstat hini hcode hf (by omega) hrm0.1 hrm0.2 hd (hk _ _ _ _ _ _ _ _ _ hr hs hl)
  · exact hr.elim
theorem sn_mmaxL (hx : p.tables.exec = Jvm.exec) (hb : c.code = cc) (hk : a_Wk p l e R s m args below meth c Qf w x0 s0 nL k) (hs : a_st w x0 s0 h s H locs cells slots) (hl : a_ls w nL L ls) (hml : c.maxLocals = nL) {own : String} (ho : s.vm.findClass own = some m.cls) (hlk : (Jvm.Cond.methodLink own ix Lib.MathLoose.max_long.x).before args s = true) (hstat : (Jvm.Cond.static Lib.MathLoose.max_long.x).before args s = true) (hini : (Jvm.Cond.initialized "java/lang/Math").before args s = true) (hcode : (Jvm.Cond.code Lib.MathLoose.max_long.x Lib.MathLoose.max_long.code 4 (some .long)).before args s = true)
    (hd : decode cc pc = .ok (.invokestatic ix, 3)) (hf : 1 ≤ R.frames) (hlo : 40 ≤ R.locals) (hrm0 : cells ≤ R.cells ∧ slots ≤ R.slots) (hr : a_binL st (fun a b => if b < a then a else b) (fun st2 => k (pc + 3) L st2 h)) (h8 : (st.map Value.category).sum ≤ 8) : W p l e R s m args below meth c H locs cells slots Qf (F0 m pc ls (st.map (acv w))) := by
  unfold a_binL at hr
  split at hr
  · rename_i b a r
    have hcat : ((r.map (acv w)).map fun v => v.category).sum ≤ 8 := by
      rw [a_cats]
      simp only [List.map_cons, List.sum_cons] at h8
      omega
    exact va_mmax_long hx hb (by rw [hml]; exact hl.2.1.symm) ho hlk hstat hini hcode hf (by omega) hrm0.1 hrm0.2 hd (hk _ _ _ _ _ _ _ _ _ hr hs hl)
  · exact hr.elim
theorem sn_mabs (hx : p.tables.exec = Jvm.exec) (hb : c.code = cc) (hk : a_Wk p l e R s m args below meth c Qf w x0 s0 nL k) (hs : a_st w x0 s0 h s H locs cells slots) (hl : a_ls w nL L ls) (hml : c.maxLocals = nL) {own : String} (ho : s.vm.findClass own = some m.cls) (hlk : (Jvm.Cond.methodLink own ix Lib.Math.abs.name).before args s = true) (hstat : (Jvm.Cond.static Lib.Math.abs.name).before args s = true) (hini : (Jvm.Cond.initialized "java/lang/Math").before args s = true) (hcode : (Jvm.Cond.code Lib.Math.abs.name Lib.Math.abs.code 1 (some .int)).before args s = true)
    (hd : decode cc pc = .ok (.invokestatic ix, 3)) (hf : 1 ≤ R.frames) (hlo : 40 ≤ R.locals) (hrm0 : cells ≤ R.cells ∧ slots ≤ R.slots) (hr : match st with | .int a :: r => k (pc + 3) L (.int (if 0 ≤ a then a else 0 - a) :: r) h | _ => False) (h8 : (st.map Value.category).sum ≤ 8) : W p l e R s m args below meth c H locs cells slots Qf (F0 m pc ls (st.map (acv w))) := by
  split at hr
  · rename_i a r
    have hcat : ((r.map (acv w)).map fun v => v.category).sum ≤ 8 := by
      rw [a_cats]
      simp only [List.map_cons, List.sum_cons] at h8
      omega
    exact va_mabs hx hb (by rw [hml]; exact hl.2.1.symm) ho hlk hstat hini hcode hf (by omega) hrm0.1 hrm0.2 hd (hk _ _ _ _ _ _ _ _ _ hr hs hl)
  · exact hr.elim
end SNJ
