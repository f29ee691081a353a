/-! ===== writes, and arrays ===== -/
theorem u2_ne {α : Type} {f : Nat → Nat → α} {a k b : Nat} {v : α} (h : b ≠ a) : u2 f a k v b = f b := by
  funext j
  simp [u2, h]
theorem u2_nk {α : Type} {f : Nat → Nat → α} {a k j : Nat} {v : α} (h : j ≠ k) : u2 f a k v a j = f a j := by simp [u2, h]
theorem u2_eq {α : Type} {f : Nat → Nat → α} {a k : Nat} {v : α} : u2 f a k v a k = v := by simp [u2]
theorem a_cell_same {w : aO} {h h2 : aH} {b : Nat} (hK : gK h2.1 = gK h.1) (hN : gN h2.1 = gN h.1) (hR : gR h2.1 b = gR h.1 b) (hI : h2.2.1 b = h.2.1 b) (hJ : h2.2.2 b = h.2.2 b) : a_cell w h2 b = a_cell w h b := by
  simp only [a_cell, a_fl, a_fv, a_ar, hK, hN, hR, hI, hJ]
theorem a_fl_set {w : aO} {h h2 : aH} {a q : Nat} {r : vw_C} {v : Value} (hv : a_fv w h2 a q (a_fk (r.2.1 q).2.2.1) = acv w v) (hn : ∀ j t, j ≠ q → a_fv w h2 a j t = a_fv w h a j t) : a_fl w h2 a r = (a_fl w h a r).set q (acv w v) := by
  apply List.ext_getElem?
  intro j
  by_cases hj : j < r.2.2
  · rw [a_fl_get hj]
    by_cases e : q = j
    · subst e
      rw [List.getElem?_set_self (by rw [a_fl_len]; exact hj), hv]
    · rw [List.getElem?_set_ne e, a_fl_get hj, hn j _ (fun z => e z.symm)]
  · rw [List.getElem?_eq_none (by rw [a_fl_len]; omega), List.getElem?_eq_none (by rw [List.length_set, a_fl_len]; omega)]
section SNW
variable {p : Program} {l : Launch} {e : Env} {R : Room} {s : State} {m : MethodId} {args : Array Value} {below : List Frame} {meth : Method} {c : Code} {cc : ByteArray} {Qf : State → Prop} {w : aO} {x0 s0 nL : Nat}
variable {k : aK} {pc tg ix : Nat} {L st : List Value} {h : aH} {H : Heap} {locs : List Loc} {cells slots : Nat} {ls : Array Slot} {ci : Int32} {cl : Int64}
theorem a_st_upd {h2 : aH} {H1 : Heap} {a sl : Nat} (hs : a_st w x0 s0 h s H locs cells slots) (hK : gK h2.1 = gK h.1) (hN : gN h2.1 = gN h.1) (hX : gx h2.1 = gx h.1) (hS : gs h2.1 = gs h.1) (ha : gK h.1 a ≤ 18) (hc : va_at w.1 vwCl (w.2.2.2.1 + (a - 6), a_cell w h2 a) H1) (hR : ∀ b, b ≠ a → gR h2.1 b = gR h.1 b) (hI : ∀ b, b ≠ a → h2.2.1 b = h.2.1 b) (hJ : ∀ b, b ≠ a → h2.2.2 b = h.2.2 b) (hsz : H1.size = H.size) (ho : ∀ q, q ≠ w.2.2.2.1 + (a - 6) → H1[q]? = H[q]?) : a_st w x0 s0 h2 s H1 (locs ++ [⟨w.2.2.2.1 + (a - 6), sl⟩]) cells slots := by
  obtain ⟨r, h1, h3, h4⟩ := hs
  refine ⟨a_rel_upd r hK hN hX ha hc (fun b hb => a_cell_same hK hN (hR b hb) (hI b hb) (hJ b hb)) hI hsz ho, fun q hq => ?_, by rw [hX]; exact h3, by rw [hS]; exact h4⟩
  rcases List.mem_append.mp hq with h5 | h5
  · exact h1 q h5
  · rw [List.mem_singleton.mp h5]
    exact Nat.le_add_right _ _
theorem sn_putfield (hx : p.tables.exec = Jvm.exec) (hb : c.code = cc) (hk : a_Wk p l e R s m args below meth c Qf w x0 s0 nL k) (hs : a_st w x0 s0 h s H locs cells slots) (hl : a_ls w nL L ls) {own : String} (ho : s.vm.findClass own = some m.cls) (hts : ∀ w ∈ aW, w.before args s = true) (hK : va_K w.1 vwCl (a_tys w) s)
    {x : aI} {i : Instr} {nx p' q t : Nat} {ci : Int32} {cl : Int64} {ks : List Nat} {sw : List (Int32 × Nat)} (hxe : x = (i, nx, p', q, t, ci, cl, ks, sw)) {r : vw_C} (hr : vwCl[p']? = some r) (hq : q < r.2.2) (hin : ∀ w ∈ u_ws r.1 r.2.1 r.2.2, w ∈ aW) (ht : a_fk (r.2.1 q).2.2.1 = t) (hlk : (Jvm.Cond.fieldLink own ix (r.2.1 q).1 (r.2.1 q).2.1 (r.2.1 q).2.2.1).before args s = true)
    (hfin : (r.2.1 q).2.2.2 = false ∨ ((r.2.1 q).2.2.2 = true ∧ meth.name = "<init>" ∧ (r.2.1 q).1 = own)) (hd : decode cc pc = .ok (.putfield ix, 3)) (hr' : a_put x st h (fun st2 h2 => k (pc + 3) L st2 h2)) : W p l e R s m args below meth c H locs cells slots Qf (F0 m pc ls (st.map (acv w))) := by
  subst hxe
  have h12 : p' < 12 := (List.getElem?_eq_some_iff.mp hr).1
  obtain ⟨c1, c2, c3⟩ := a_cls hr
  have core : ∀ (a : Nat) (v : Value) (rest : List Value) (h2 : aH), gK h.1 a = p' → k (pc + 3) L rest h2 → gK h2.1 = gK h.1 → gN h2.1 = gN h.1 → gx h2.1 = gx h.1 → gs h2.1 = gs h.1 → (∀ b, b ≠ a → gR h2.1 b = gR h.1 b) → (∀ b, b ≠ a → h2.2.1 b = h.2.1 b) → (∀ b, b ≠ a → h2.2.2 b = h.2.2 b) →
      a_fv w h2 a q t = acv w v → (∀ j t, j ≠ q → a_fv w h2 a j t = a_fv w h a j t) → ((t = 0 ∧ ∃ i, v = .int i) ∨ (t = 1 ∧ (v = .int 0 ∨ v = .int 1)) ∨ (t = 2 ∧ ∃ i, v = .long i) ∨ (t = 3 ∧ ∃ b, v = .ref b)) → W p l e R s m args below meth c H locs cells slots Qf (F0 m pc ls ((v :: .ref a :: rest).map (acv w))) := by
    intro a v rest h2 hka hkk e1 e2 e3 e4 e5 e6 e7 e8 e9 hv
    obtain ⟨h0, h6, hlt, hcv, hat⟩ := a_rel_at hs.1 (a := a) (by omega)
    rw [List.map_cons, List.map_cons, hcv]
    rw [a_cell_o hka hr] at hat
    obtain ⟨f1, f2⟩ := a_fit (w := w) ((c2 q hq).trans ht) hv
    refine a_pw (C := r.1) (T := r.2.1) (N := r.2.2) hx hb ho hts hK hin (a_ty r) c1 c3 hat hr hq hlk hfin (c1 q hq) f1 f2 (by rw [a_fl_len]; exact hq) hd (fun H1 sl z1 z2 z3 => ?_)
    rw [← a_fl_set (h2 := h2) (by rw [ht]; exact e8) e9] at z3
    exact hk _ _ _ _ _ _ _ _ _ hkk (a_st_upd hs e1 e2 e3 e4 (by omega) (by rw [a_cell_o (by rw [e1]; exact hka) hr]; exact z3) e5 e6 e7 z1 z2) hl
  simp only [a_put] at hr'
  split at hr' <;> split at hr' <;> (try exact hr'.elim)
  · rename_i v a rest
    exact core a _ rest _ hr'.1 hr'.2 rfl rfl rfl rfl (fun _ _ => rfl) (fun b hb => u2_ne hb) (fun _ _ => rfl) (by simp [a_fv, u2_eq, acv]) (fun j t hj => by simp only [a_fv, u2_nk hj]) (Or.inl ⟨rfl, v, rfl⟩)
  · rename_i v a rest
    exact core a _ rest _ hr'.1 hr'.2.2 rfl rfl rfl rfl (fun _ _ => rfl) (fun b hb => u2_ne hb) (fun _ _ => rfl) (by simp [a_fv, u2_eq, acv]) (fun j t hj => by simp only [a_fv, u2_nk hj]) (Or.inr (Or.inl ⟨rfl, by rcases hr'.2.1 with rfl | rfl <;> simp⟩))
  · rename_i v a rest
    exact core a _ rest _ hr'.1 hr'.2 rfl rfl rfl rfl (fun _ _ => rfl) (fun _ _ => rfl) (fun b hb => u2_ne hb) (by simp [a_fv, u2_eq, acv]) (fun j t hj => by simp only [a_fv, u2_nk hj]) (Or.inr (Or.inr (Or.inl ⟨rfl, v, rfl⟩)))
  · rename_i t0 t1 t2 _ v a rest
    have t3 : t = 3 := by
      have h9 : a_fk (r.2.1 q).2.2.1 = 0 ∨ a_fk (r.2.1 q).2.2.1 = 1 ∨ a_fk (r.2.1 q).2.2.1 = 2 ∨ a_fk (r.2.1 q).2.2.1 = 3 := by
        unfold a_fk
        split
        · simp
        · split
          · simp
          · split <;> simp
      rw [ht] at h9
      rcases h9 with z | z | z | z
      · exact (t0 z).elim
      · exact (t1 z).elim
      · exact (t2 z).elim
      · exact z
    subst t3
    exact core a _ rest _ hr'.1 hr'.2 rfl rfl rfl rfl (fun b hb => u2_ne hb) (fun _ _ => rfl) (fun _ _ => rfl) (by simp [a_fv, gR, gput, u2_eq]) (fun j t hj => by simp only [a_fv, gR, gput, u2_nk hj]) (Or.inr (Or.inr (Or.inr ⟨rfl, v, rfl⟩)))
theorem sn_iaload (hx : p.tables.exec = Jvm.exec) (hb : c.code = cc) (hk : a_Wk p l e R s m args below meth c Qf w x0 s0 nL k) (hs : a_st w x0 s0 h s H locs cells slots) (hl : a_ls w nL L ls) (hK : va_K w.1 vwCl (a_tys w) s) (hd : decode cc pc = .ok (.iaload, 1))
    (hr : match st with | .int i :: .ref a :: r => (gK h.1 a = 12 ∨ gK h.1 a = 20) ∧ vp_in i (gN h.1 a) ∧ k (pc + 1) L (.int (h.2.1 a i.toNatClampNeg) :: r) h | _ => False) : W p l e R s m args below meth c H locs cells slots Qf (F0 m pc ls (st.map (acv w))) := by
  split at hr
  · rename_i i a r
    obtain ⟨hka, hin, hr⟩ := hr
    rcases hka with hka | hka
    · obtain ⟨h0, h6, hlt, hcv, hat⟩ := a_rel_at hs.1 (a := a) (by omega)
      rw [List.map_cons, List.map_cons, hcv]
      rw [a_cell_i hka] at hat
      exact va_iald hx hb hK (a_P1 hat) 0 0 rfl rfl hin hd (hk _ _ _ _ _ _ _ _ _ hr hs hl)
    · obtain ⟨h1, h2, hX, -⟩ := hs.1.2.2.2.2.1 a hka
      have h0 : a ≠ 0 := Nat.ne_of_gt h1.1
      rw [List.map_cons, List.map_cons, acv_ref w h0, aad, if_pos (by omega)]
      exact va_sld (A := fun q => w.2.2.2.1 ≤ q) (H0 := H) hx hb hX (by rw [hs.1.2.1]; omega) (by omega) ⟨Nat.le_refl _, fun _ _ _ => rfl, hs.2.1⟩ hin hd (hk _ _ _ _ _ _ _ _ _ hr hs hl)
  · exact hr.elim
theorem sn_laload (hx : p.tables.exec = Jvm.exec) (hb : c.code = cc) (hk : a_Wk p l e R s m args below meth c Qf w x0 s0 nL k) (hs : a_st w x0 s0 h s H locs cells slots) (hl : a_ls w nL L ls) (hK : va_K w.1 vwCl (a_tys w) s) (hd : decode cc pc = .ok (.laload, 1))
    (hr : match st with | .int i :: .ref a :: r => (gK h.1 a = 13) ∧ vp_in i (gN h.1 a) ∧ k (pc + 1) L (.long (h.2.2 a i.toNatClampNeg) :: r) h | _ => False) : W p l e R s m args below meth c H locs cells slots Qf (F0 m pc ls (st.map (acv w))) := by
  split at hr
  · rename_i i a r
    obtain ⟨hka, hin, hr⟩ := hr
    obtain ⟨h0, h6, hlt, hcv, hat⟩ := a_rel_at hs.1 (a := a) (by omega)
    rw [List.map_cons, List.map_cons, hcv]
    rw [a_cell_l hka] at hat
    exact va_lald hx hb hK (a_P1 hat) 0 1 rfl rfl hin hd (hk _ _ _ _ _ _ _ _ _ hr hs hl)
  · exact hr.elim
theorem sn_baload (hx : p.tables.exec = Jvm.exec) (hb : c.code = cc) (hk : a_Wk p l e R s m args below meth c Qf w x0 s0 nL k) (hs : a_st w x0 s0 h s H locs cells slots) (hl : a_ls w nL L ls) (hK : va_K w.1 vwCl (a_tys w) s) (hd : decode cc pc = .ok (.baload, 1))
    (hr : match st with | .int i :: .ref a :: r => (gK h.1 a = 14) ∧ vp_in i (gN h.1 a) ∧ k (pc + 1) L (.int (h.2.1 a i.toNatClampNeg) :: r) h | _ => False) : W p l e R s m args below meth c H locs cells slots Qf (F0 m pc ls (st.map (acv w))) := by
  split at hr
  · rename_i i a r
    obtain ⟨hka, hin, hr⟩ := hr
    obtain ⟨h0, h6, hlt, hcv, hat⟩ := a_rel_at hs.1 (a := a) (by omega)
    rw [List.map_cons, List.map_cons, hcv]
    rw [a_cell_z hka] at hat
    exact va_zald hx hb hK (a_P1 hat) 0 2 rfl rfl hin hd (hk _ _ _ _ _ _ _ _ _ hr hs hl)
  · exact hr.elim
theorem sn_aaload (hx : p.tables.exec = Jvm.exec) (hb : c.code = cc) (hk : a_Wk p l e R s m args below meth c Qf w x0 s0 nL k) (hs : a_st w x0 s0 h s H locs cells slots) (hl : a_ls w nL L ls) (hK : va_K w.1 vwCl (a_tys w) s) {kd : Nat} (h15 : 15 ≤ kd) (h18 : kd ≤ 18) (hd : decode cc pc = .ok (.aaload, 1))
    (hr : match st with | .int i :: .ref a :: r => (gK h.1 a = kd) ∧ vp_in i (gN h.1 a) ∧ k (pc + 1) L (.ref (gR h.1 a i.toNatClampNeg) :: r) h | _ => False) : W p l e R s m args below meth c H locs cells slots Qf (F0 m pc ls (st.map (acv w))) := by
  split at hr
  · rename_i i a r
    obtain ⟨hka, hin, hr⟩ := hr
    obtain ⟨h0, h6, hlt, hcv, hat⟩ := a_rel_at hs.1 (a := a) (by omega)
    rw [List.map_cons, List.map_cons, hcv]
    rw [a_cell_q hka h15] at hat
    have hlt2 : i.toNatClampNeg < gN h.1 a := Nat.not_le.mp fun q => hin (Or.inr q)
    have h2 := hk _ _ _ _ _ _ _ _ _ hr hs hl
    rw [List.map_cons, acv_rf] at h2
    have hty : ∃ ty : FieldType, ty.isReference = true ∧ ArrOfT s (w.2.1 kd) ty := by
      have h3 := hK.2
      have : kd = 15 ∨ kd = 16 ∨ kd = 17 ∨ kd = 18 := by omega
      rcases this with rfl | rfl | rfl | rfl
      · exact ⟨_, rfl, (h3 3 _ rfl).1⟩
      · exact ⟨_, rfl, (h3 4 _ rfl).1⟩
      · exact ⟨_, rfl, (h3 5 _ rfl).1⟩
      · exact ⟨_, rfl, (h3 6 _ rfl).1⟩
    obtain ⟨ty, t1, t2⟩ := hty
    exact W.aald (v := va_rf (arf w (gR h.1 a i.toNatClampNeg))) (ty := ty) hx hb hat (t2 (gN h.1 a) (fun j => va_rf (arf w (gR h.1 a j)))) t1 (fun q => by cases q) (by show ¬ (i < 0 ∨ (arrV _ _ _).slots.size ≤ _); rw [arrV_size]; exact hin) (by show (arrV _ _ _).slots[_]? = _; rw [arrV_read _ _ hlt2]) rfl rfl hd h2
  · exact hr.elim
theorem sn_iastore (hx : p.tables.exec = Jvm.exec) (hb : c.code = cc) (hk : a_Wk p l e R s m args below meth c Qf w x0 s0 nL k) (hs : a_st w x0 s0 h s H locs cells slots) (hl : a_ls w nL L ls) (hK : va_K w.1 vwCl (a_tys w) s) (hd : decode cc pc = .ok (.iastore, 1))
    (hr : match st with | .int v :: .int i :: .ref a :: r => (gK h.1 a = 12) ∧ vp_in i (gN h.1 a) ∧ k (pc + 1) L r (h.1, u2 h.2.1 a i.toNatClampNeg v, h.2.2) | _ => False) : W p l e R s m args below meth c H locs cells slots Qf (F0 m pc ls (st.map (acv w))) := by
  split at hr
  · rename_i v i a r
    obtain ⟨hka, hin, hr⟩ := hr
    obtain ⟨h0, h6, hlt, hcv, hat⟩ := a_rel_at hs.1 (a := a) (by omega)
    rw [List.map_cons, List.map_cons, List.map_cons, hcv]
    rw [a_cell_i hka] at hat
    refine W.iast hx hb hat ((hK.2 0 _ rfl).1 (gN h.1 a) (fun j => .int (h.2.1 a j))) (fun q => by cases q) (by show ¬ (i < 0 ∨ (arrV _ _ _).slots.size ≤ _); rw [arrV_size]; exact hin) rfl rfl hd fun H1 e1 e2 e3 => ?_
    refine hk _ _ _ _ _ _ _ _ _ hr (a_st_upd hs rfl rfl rfl rfl (by omega) ?_ (fun _ _ => rfl) (fun b hb => u2_ne hb) (fun _ _ => rfl) e2 e3) hl
    rw [a_cell_i (h := (h.1, u2 h.2.1 a i.toNatClampNeg v, h.2.2)) hka]
    show H1[_]? = some (vp_cell _ _)
    rw [e1]
    show some ((vp_cell (w.2.1 12) (gN h.1 a, .inl (h.2.1 a))).setSlot _ _) = _
    rw [vp_cell_i, vp_cell_i, arrV_store]
    congr 2
    funext q
    by_cases hq : q = i.toNatClampNeg
    · subst hq
      simp [updV, u2, acv]
    · simp [updV, u2, hq]
  · exact hr.elim
theorem sn_lastore (hx : p.tables.exec = Jvm.exec) (hb : c.code = cc) (hk : a_Wk p l e R s m args below meth c Qf w x0 s0 nL k) (hs : a_st w x0 s0 h s H locs cells slots) (hl : a_ls w nL L ls) (hK : va_K w.1 vwCl (a_tys w) s) (hd : decode cc pc = .ok (.lastore, 1))
    (hr : match st with | .long v :: .int i :: .ref a :: r => (gK h.1 a = 13) ∧ vp_in i (gN h.1 a) ∧ k (pc + 1) L r (h.1, h.2.1, u2 h.2.2 a i.toNatClampNeg v) | _ => False) : W p l e R s m args below meth c H locs cells slots Qf (F0 m pc ls (st.map (acv w))) := by
  split at hr
  · rename_i v i a r
    obtain ⟨hka, hin, hr⟩ := hr
    obtain ⟨h0, h6, hlt, hcv, hat⟩ := a_rel_at hs.1 (a := a) (by omega)
    rw [List.map_cons, List.map_cons, List.map_cons, hcv]
    rw [a_cell_l hka] at hat
    refine W.last hx hb hat ((hK.2 1 _ rfl).1 (gN h.1 a) (fun j => .long (h.2.2 a j))) (fun q => by cases q) (by show ¬ (i < 0 ∨ (arrV _ _ _).slots.size ≤ _); rw [arrV_size]; exact hin) rfl rfl hd fun H1 e1 e2 e3 => ?_
    refine hk _ _ _ _ _ _ _ _ _ hr (a_st_upd hs rfl rfl rfl rfl (by omega) ?_ (fun _ _ => rfl) (fun _ _ => rfl) (fun b hb => u2_ne hb) e2 e3) hl
    rw [a_cell_l (h := (h.1, h.2.1, u2 h.2.2 a i.toNatClampNeg v)) hka]
    show H1[_]? = some (vp_cell _ _)
    rw [e1]
    show some ((vp_cell (w.2.1 13) (gN h.1 a, .inr (.inl (h.2.2 a)))).setSlot _ _) = _
    rw [vp_cell_l, vp_cell_l, arrV_store]
    congr 2
    funext q
    by_cases hq : q = i.toNatClampNeg
    · subst hq
      simp [updV, u2, acv]
    · simp [updV, u2, hq]
  · exact hr.elim
theorem sn_bastore (hx : p.tables.exec = Jvm.exec) (hb : c.code = cc) (hk : a_Wk p l e R s m args below meth c Qf w x0 s0 nL k) (hs : a_st w x0 s0 h s H locs cells slots) (hl : a_ls w nL L ls) (hK : va_K w.1 vwCl (a_tys w) s) (hd : decode cc pc = .ok (.bastore, 1))
    (hr : match st with | .int v :: .int i :: .ref a :: r => (gK h.1 a = 14) ∧ vp_in i (gN h.1 a) ∧ (v = 0 ∨ v = 1) ∧ k (pc + 1) L r (h.1, u2 h.2.1 a i.toNatClampNeg v, h.2.2) | _ => False) : W p l e R s m args below meth c H locs cells slots Qf (F0 m pc ls (st.map (acv w))) := by
  split at hr
  · rename_i v i a r
    obtain ⟨hka, hin, hv, hr⟩ := hr
    obtain ⟨h0, h6, hlt, hcv, hat⟩ := a_rel_at hs.1 (a := a) (by omega)
    rw [List.map_cons, List.map_cons, List.map_cons, hcv]
    rw [a_cell_z hka] at hat
    refine W.zast hx hb hat ((hK.2 2 _ rfl).1 (gN h.1 a) (fun j => .int (h.2.1 a j))) (fun q => by cases q) (by show ¬ (i < 0 ∨ (arrV _ _ _).slots.size ≤ _); rw [arrV_size]; exact hin) rfl rfl hd fun H1 e1 e2 e3 => ?_
    refine hk _ _ _ _ _ _ _ _ _ hr (a_st_upd hs rfl rfl rfl rfl (by omega) ?_ (fun _ _ => rfl) (fun b hb => u2_ne hb) (fun _ _ => rfl) e2 e3) hl
    have hnv : narrow .boolean (.int v) = .int v := by rcases hv with rfl | rfl <;> rfl
    rw [a_cell_z (h := (h.1, u2 h.2.1 a i.toNatClampNeg v, h.2.2)) hka]
    show H1[_]? = some (vp_cell _ _)
    rw [e1, hnv]
    show some ((vp_cell (w.2.1 14) (gN h.1 a, .inl (h.2.1 a))).setSlot _ _) = _
    rw [vp_cell_i, vp_cell_i, arrV_store]
    congr 2
    funext q
    by_cases hq : q = i.toNatClampNeg
    · subst hq
      simp [updV, u2, acv]
    · simp [updV, u2, hq]
  · exact hr.elim
theorem sn_aastore (hx : p.tables.exec = Jvm.exec) (hb : c.code = cc) (hk : a_Wk p l e R s m args below meth c Qf w x0 s0 nL k) (hs : a_st w x0 s0 h s H locs cells slots) (hl : a_ls w nL L ls) (hK : va_K w.1 vwCl (a_tys w) s) {kd kv : Nat} (hkd : (kd = 15 ∧ kv = 5) ∨ (kd = 16 ∧ kv = 7)) (hd : decode cc pc = .ok (.aastore, 1))
    (hr : match st with | .ref v :: .int i :: .ref a :: r => (gK h.1 a = kd) ∧ (gK h.1 v = kv) ∧ vp_in i (gN h.1 a) ∧ k (pc + 1) L r (gput h.1 a i.toNatClampNeg v, h.2.1, h.2.2) | _ => False) : W p l e R s m args below meth c H locs cells slots Qf (F0 m pc ls (st.map (acv w))) := by
  split at hr
  · rename_i v i a r
    obtain ⟨hka, hkv, hin, hr⟩ := hr
    obtain ⟨h0, h6, hlt, hcv, hat⟩ := a_rel_at hs.1 (a := a) (by omega)
    obtain ⟨g0, g6, glt, gcv, gat⟩ := a_rel_at hs.1 (a := v) (by omega)
    rw [List.map_cons, List.map_cons, List.map_cons, hcv, gcv]
    rw [a_cell_q hka (by omega)] at hat
    have hlt2 : i.toNatClampNeg < gN h.1 a := Nat.not_le.mp fun q => hin (Or.inr q)
    have hi0 : ¬ i < 0 := fun q => hin (Or.inl q)
    have hh : ∃ (r2 : vw_C) (t0 : Nat), vwCl[kv]? = some r2 ∧ (a_tys w)[t0]? = some (w.2.1 kd, .object r2.1) := by
      rcases hkd with ⟨rfl, rfl⟩ | ⟨rfl, rfl⟩
      · exact ⟨_, 3, rfl, rfl⟩
      · exact ⟨_, 4, rfl, rfl⟩
    obtain ⟨r2, t0, hr2, ht0⟩ := hh
    rw [a_cell_o hkv hr2] at gat
    obtain ⟨r', hr', cellV, g1, g2, g3, -⟩ := gat
    have hcls := (hK.1 kv r2 hr2).2
    obtain ⟨kA, comp, k1, k2, k3, -⟩ := (hK.2 t0 _ ht0).2
    have hcomp : comp = w.1.1 kv := Option.some.inj (k3.symm.trans hcls.1)
    subst hcomp
    obtain ⟨kC, hkC, -⟩ := hcls.2
    refine W.aast hx hb hat (fun q h => by cases h) (fun h => by cases h) k1 k2 rfl hkC ⟨hi0, by show _ < (arrV _ _ _).slots.size; rw [arrV_size]; exact hlt2⟩ g1 (fun q h => by rw [g3] at h; cases h) (by rw [g2]; exact hkC) (by rw [g2]; exact va_assign hcls) rfl rfl hd fun H1 e1 e2 e3 => ?_
    refine hk _ _ _ _ _ _ _ _ _ hr (a_st_upd hs rfl rfl rfl rfl (by omega) ?_ (fun b hb => u2_ne hb) (fun _ _ => rfl) (fun _ _ => rfl) e2 e3) hl
    rw [a_cell_q (h := (gput h.1 a i.toNatClampNeg v, h.2.1, h.2.2)) hka (by omega)]
    show H1[_]? = some (vp_cell _ _)
    rw [e1]
    show some ((vp_cell (w.2.1 kd) (gN h.1 a, .inr (.inr (.inr (.inr (fun j => arf w (gR h.1 a j))))))).setSlot _ _) = _
    rw [vp_cell_q, vp_cell_q, arrV_store]
    congr 2
    funext q
    by_cases hq : q = i.toNatClampNeg
    · subst hq
      have ge : aad w v = w.2.2.2.1 + (v - 6) := by unfold aad; rw [if_neg (by omega)]
      simp [updV, gR, gput, u2, arf, g0, va_rf, ge]
    · simp [updV, gR, gput, u2, hq]
  · exact hr.elim
theorem sn_arraylength (hx : p.tables.exec = Jvm.exec) (hb : c.code = cc) (hk : a_Wk p l e R s m args below meth c Qf w x0 s0 nL k) (hs : a_st w x0 s0 h s H locs cells slots) (hl : a_ls w nL L ls) (hK : va_K w.1 vwCl (a_tys w) s) (hd : decode cc pc = .ok (.arraylength, 1))
    (hr : match st with | .ref a :: r => (a_arr (gK h.1 a) = true) ∧ k (pc + 1) L (.int (Int32.ofNat (gN h.1 a)) :: r) h | _ => False) : W p l e R s m args below meth c H locs cells slots Qf (F0 m pc ls (st.map (acv w))) := by
  split at hr
  · rename_i a r
    obtain ⟨hka, hr⟩ := hr
    have h2 := hk _ _ _ _ _ _ _ _ _ hr hs hl
    unfold a_arr at hka
    rw [Bool.or_eq_true, Bool.and_eq_true] at hka
    rcases hka with ⟨h12, h18⟩ | h20
    · have h12 := Nat.le_of_ble_eq_true h12
      have h18 := Nat.le_of_ble_eq_true h18
      obtain ⟨h0, h6, hlt, hcv, hat⟩ := a_rel_at hs.1 (a := a) h18
      rw [List.map_cons, hcv]
      have e : a_cell w h a = .inl (w.2.1 (gK h.1 a), gN h.1 a, a_ar w h a) := by unfold a_cell; rw [if_neg (by omega)]
      rw [e] at hat
      have hty : ∃ (t0 : Nat) (ty : FieldType), (a_tys w)[t0]? = some (w.2.1 (gK h.1 a), ty) := by
        have : gK h.1 a = 12 ∨ gK h.1 a = 13 ∨ gK h.1 a = 14 ∨ gK h.1 a = 15 ∨ gK h.1 a = 16 ∨ gK h.1 a = 17 ∨ gK h.1 a = 18 := by omega
        rcases this with e | e | e | e | e | e | e <;> rw [e]
        · exact ⟨0, _, rfl⟩
        · exact ⟨1, _, rfl⟩
        · exact ⟨2, _, rfl⟩
        · exact ⟨3, _, rfl⟩
        · exact ⟨4, _, rfl⟩
        · exact ⟨5, _, rfl⟩
        · exact ⟨6, _, rfl⟩
      obtain ⟨t0, ty, ht⟩ := hty
      exact va_alen hx hb hK (a_P1 hat) 0 t0 rfl ht rfl hd h2
    · have hka := Nat.eq_of_beq_eq_true h20
      obtain ⟨h1, h2', hX, -⟩ := hs.1.2.2.2.2.1 a hka
      have h0 : a ≠ 0 := Nat.ne_of_gt h1.1
      rw [List.map_cons, acv_ref w h0, aad, if_pos (by omega)]
      exact va_slen (A := fun q => w.2.2.2.1 ≤ q) (H0 := H) hx hb hX (by rw [hs.1.2.1]; omega) (by omega) ⟨Nat.le_refl _, fun _ _ _ => rfl, hs.2.1⟩ hd h2
  · exact hr.elim
end SNW
