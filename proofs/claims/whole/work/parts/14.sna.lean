/-! ===== cells that are made ===== -/
theorem a_cell_same2 {w : aO} {h h2 : aH} {b : Nat} (hK : gK h2.1 b = gK h.1 b) (hN : gN h2.1 b = gN h.1 b) (hR : gR h2.1 b = gR h.1 b) (hI : h2.2.1 b = h.2.1 b) (hJ : h2.2.2 b = h.2.2 b) : a_cell w h2 b = a_cell w h b := by
  simp only [a_cell, a_fl, a_fv, a_ar, hK, hN, hR, hI, hJ]
/-- n cells are new -/
theorem a_rel_push {w : aO} {h h2 : aH} {s : State} {H H1 : Heap} {n : Nat} (r : a_rel w h s H) (hX : gx h2.1 = gx h.1 + n) (hK : ∀ b, (b < gx h.1 ∨ gx h.1 + n ≤ b) → gK h2.1 b = gK h.1 b) (hN : ∀ b, b < gx h.1 → gN h2.1 b = gN h.1 b) (hR : ∀ b, b < gx h.1 → gR h2.1 b = gR h.1 b) (hI : ∀ b, b < gx h.1 → h2.2.1 b = h.2.1 b) (hJ : ∀ b, b < gx h.1 → h2.2.2 b = h.2.2 b)
    (hc : ∀ b, gx h.1 ≤ b → b < gx h.1 + n → gK h2.1 b ≤ 18 ∧ va_at w.1 vwCl (w.2.2.2.1 + (b - 6), a_cell w h2 b) H1) (hsz : H1.size = H.size + n) (ho : ∀ q, q < H.size → H1[q]? = H[q]?) : a_rel w h2 s H1 := by
  obtain ⟨r1, r2, r3, r4, r5, r6⟩ := r
  refine ⟨by omega, by rw [hsz, hX]; omega, fun b hb => ?_, fun b h1 h2' => ?_, fun b hb => ?_, fun q hq => by rw [ho q (by omega)]; exact r6 q hq⟩
  · by_cases e : b < gx h.1 ∨ gx h.1 + n ≤ b
    · rw [hK b e] at hb
      have := r3 b hb
      omega
    · omega
  · rw [hX] at h2'
    by_cases e : b < gx h.1
    · refine ⟨by rw [hK b (Or.inl e)]; exact (r4 b h1 e).1, ?_⟩
      rw [a_cell_same2 (hK b (Or.inl e)) (hN b e) (hR b e) (hI b e) (hJ b e)]
      exact (r4 b h1 e).2.kept (ho _ (by omega))
    · exact hc b (by omega) h2'
  · by_cases e : gx h.1 ≤ b ∧ b < gx h.1 + n
    · have := (hc b e.1 e.2).1
      omega
    · rw [hK b (by omega)] at hb
      obtain ⟨h1, h2', ⟨scr, h3⟩, h4⟩ := r5 b hb
      refine ⟨h1, h2', ?_, fun e4 => ?_⟩
      · rw [hN b (by omega), hI b (by omega)]
        exact ⟨scr, by rw [ho _ (by omega)]; exact h3.1, h3.2⟩
      · obtain ⟨cell, q1, q2⟩ := h4 e4
        exact ⟨cell, by rw [ho _ (by omega)]; exact q1, q2⟩
section SNA
variable {p : Program} {l : Launch} {e : Env} {R : Room} {s : State} {m : MethodId} {args : Array Value} {below : List Frame} {meth : Method} {c : Code} {cc : ByteArray} {Qf : State → Prop} {w : aO} {x0 s0 nL : Nat}
variable {k : aK} {pc tg ix : Nat} {L st : List Value} {h : aH} {H : Heap} {locs : List Loc} {cells slots : Nat} {ls : Array Slot} {ci : Int32} {cl : Int64}
/-- the room that is left holds all that is still made -/
def a_rm (R : Room) (x0 s0 : Nat) (k : aK) : Prop := ∀ (pc : Nat) (L st : List Value) (h : aH), k pc L st h → gx h.1 ≤ x0 + R.cells ∧ gs h.1 ≤ s0 + R.slots
theorem a_st_new {h2 : aH} {H1 : Heap} {x : Nat} (hs : a_st w x0 s0 h s H locs cells slots) (hx : gx h.1 = x) (hX : gx h2.1 = x + 1) {n : Nat} (hS : gs h2.1 = gs h.1 + n) (hK : ∀ b, b ≠ x → gK h2.1 b = gK h.1 b) (hN : ∀ b, b ≠ x → gN h2.1 b = gN h.1 b) (hR : ∀ b, b ≠ x → gR h2.1 b = gR h.1 b) (hI : ∀ b, b ≠ x → h2.2.1 b = h.2.1 b) (hJ : ∀ b, b ≠ x → h2.2.2 b = h.2.2 b)
    (hkd : gK h2.1 x ≤ 18) (hc : va_at w.1 vwCl (H.size, a_cell w h2 x) H1) (hsz : H1.size = H.size + 1) (ho : ∀ q, q < H.size → H1[q]? = H[q]?) : a_st w x0 s0 h2 s H1 locs (cells + 1) (slots + n) ∧ acv w (.ref x) = .ref H.size := by
  subst hx
  obtain ⟨r, h1, h3, h4⟩ := hs
  have r1 := r.1
  have r2 := r.2.1
  refine ⟨⟨a_rel_push (n := 1) r hX (fun b hb => hK b (by omega)) (fun b hb => hN b (by omega)) (fun b hb => hR b (by omega)) (fun b hb => hI b (by omega)) (fun b hb => hJ b (by omega)) (fun b g1 g2 => ?_) hsz ho, h1, by omega, by omega⟩, ?_⟩
  · have e : b = gx h.1 := by omega
    subst e
    rw [← r2]
    exact ⟨hkd, hc⟩
  · rw [acv_ref w (Nat.ne_of_gt (Nat.lt_of_lt_of_le (by decide) r1)), aad, if_neg (by omega), ← r2]
theorem z2_ne {α : Type} {f : Nat → Nat → α} {a b : Nat} {v : α} (h : b ≠ a) : z2 f a v b = f b := by
  funext j
  simp [z2, h]
theorem u1_ne {α : Type} {f : Nat → α} {a b : Nat} {v : α} (h : b ≠ a) : u1 f a v b = f b := by simp [u1, h]
theorem u1_eq {α : Type} {f : Nat → α} {a : Nat} {v : α} : u1 f a v a = v := by simp [u1]
theorem a_st_alc {H1 : Heap} {kd n : Nat} (hs : a_st w x0 s0 h s H locs cells slots) (hkd : kd ≤ 18) (hc : va_at w.1 vwCl (H.size, a_cell w (a_alc h kd n) (gx h.1)) H1) (hsz : H1.size = H.size + 1) (ho : ∀ q, q < H.size → H1[q]? = H[q]?) : a_st w x0 s0 (a_alc h kd n) s H1 locs (cells + 1) (slots + n) ∧ acv w (.ref (gx h.1)) = .ref H.size :=
  a_st_new hs rfl rfl rfl (fun b hb => u1_ne hb) (fun b hb => u1_ne hb) (fun b hb => z2_ne hb) (fun b hb => z2_ne hb) (fun b hb => z2_ne hb) (by show u1 _ _ _ _ ≤ 18; rw [show h.1.2.2.2.1 = gx h.1 from rfl, u1_eq]; exact hkd) hc hsz ho
theorem sn_new (hx : p.tables.exec = Jvm.exec) (hb : c.code = cc) (hk : a_Wk p l e R s m args below meth c Qf w x0 s0 nL k) (hrm : a_rm R x0 s0 k) (hs : a_st w x0 s0 h s H locs cells slots) (hl : a_ls w nL L ls) {own : String} (ho : s.vm.findClass own = some m.cls) (hts : ∀ w ∈ aW, w.before args s = true) (hK : va_K w.1 vwCl (a_tys w) s)
    {p' : Nat} {r : vw_C} (hr : vwCl[p']? = some r) (hin : ∀ w ∈ u_ws r.1 r.2.1 r.2.2, w ∈ aW) (hcl : (Jvm.Cond.classLink own ix r.1).before args s = true) (hinst : (Jvm.Cond.instantiable r.1 r.2.2).before args s = true) (hini : (Jvm.Cond.initialized r.1).before args s = true) (hd : decode cc pc = .ok (.new ix, 3))
    (hr' : k (pc + 3) L (.ref (gx h.1) :: st) (a_alc h p' r.2.2)) : W p l e R s m args below meth c H locs cells slots Qf (F0 m pc ls (st.map (acv w))) := by
  have h12 : p' < 12 := (List.getElem?_eq_some_iff.mp hr).1
  obtain ⟨c1, c2, c3⟩ := a_cls hr
  have hKn := hK.1 p' r hr
  have hroom := hrm _ _ _ _ hr'
  have e1 : gx (a_alc h p' r.2.2).1 = gx h.1 + 1 := rfl
  have e2 : gs (a_alc h p' r.2.2).1 = gs h.1 + r.2.2 := rfl
  have e3 := hs.2.2
  refine W.newcK hx hb ho hcl hinst hini rfl hd (by omega) (by omega) hKn.2.1 rfl fun H1 kC hkC q1 q2 q3 => ?_
  have hKx : gK (a_alc h p' r.2.2).1 (gx h.1) = p' := u1_eq
  obtain ⟨g1, g2⟩ := a_st_alc (H1 := H1) (kd := p') (n := r.2.2) hs (by omega) (by
    rw [a_cell_o hKx hr]
    refine ⟨r, hr, (u_born (a_ty r) hts hin hKn hkC q1 c1).to fun j hj => ?_⟩
    show defaultValue (a_ty r j) = (a_fl w (a_alc h p' r.2.2) (gx h.1) r).getD j .null
    rw [List.getD_eq_getElem?_getD, a_fl_get hj]
    have h5 := c2 j hj
    rw [← h5]
    simp only [Option.getD_some, a_fv, a_alc, z2, gR, gnew, gx, if_true]
    cases hty : a_ty r j <;> rw [hty] at h5 <;> first
      | rfl
      | (exfalso; simp only [a_tk] at h5; unfold a_fk at h5; split at h5 <;> (try split at h5) <;> (try split at h5) <;> simp at h5)) q2 q3
  have h2 := hk _ _ _ _ _ _ _ _ _ hr' g1 hl
  rw [List.map_cons, g2] at h2
  exact h2
theorem sn_newarray (hx : p.tables.exec = Jvm.exec) (hb : c.code = cc) (hk : a_Wk p l e R s m args below meth c Qf w x0 s0 nL k) (hrm : a_rm R x0 s0 k) (hs : a_st w x0 s0 h s H locs cells slots) (hl : a_ls w nL L ls) (hK : va_K w.1 vwCl (a_tys w) s)
    {p' : Nat} {at' : ArrayType} (hp : (p' = 12 ∧ at' = .int) ∨ (p' = 13 ∧ at' = .long) ∨ (p' = 14 ∧ at' = .boolean)) (harr : (Jvm.Cond.arrayClass (newarray.typeOf at')).before args s = true) (hd : decode cc pc = .ok (.newarray at', 2))
    (hr : match st with | .int n :: r => (¬ n < 0) ∧ (n.toNatClampNeg ≤ 1000000) ∧ k (pc + 2) L (.ref (gx h.1) :: r) (a_alc h p' n.toNatClampNeg) | _ => False) : W p l e R s m args below meth c H locs cells slots Qf (F0 m pc ls (st.map (acv w))) := by
  split at hr
  · rename_i n r
    obtain ⟨hn, hm, hr⟩ := hr
    have hroom := hrm _ _ _ _ hr
    have e1 : gx (a_alc h p' n.toNatClampNeg).1 = gx h.1 + 1 := rfl
    have e2 : gs (a_alc h p' n.toNatClampNeg).1 = gs h.1 + n.toNatClampNeg := rfl
    have e3 := hs.2.2
    refine va_newaK hx hb harr rfl hd rfl hn rfl (by rcases hp with ⟨-, rfl⟩ | ⟨-, rfl⟩ | ⟨-, rfl⟩ <;> simp only [newarray.typeOf, componentBytes] <;> omega) (by omega) (by omega) rfl fun H1 cA q1 q2 q3 q4 q5 => ?_
    have hKx : gK (a_alc h p' n.toNatClampNeg).1 (gx h.1) = p' := u1_eq
    have hNx : gN (a_alc h p' n.toNatClampNeg).1 (gx h.1) = n.toNatClampNeg := u1_eq
    have hcA : cA = w.2.1 p' := by
      rcases hp with ⟨rfl, rfl⟩ | ⟨rfl, rfl⟩ | ⟨rfl, rfl⟩
      · exact Option.some.inj (q5.symm.trans (hK.2 0 _ rfl).2)
      · exact Option.some.inj (q5.symm.trans (hK.2 1 _ rfl).2)
      · exact Option.some.inj (q5.symm.trans (hK.2 2 _ rfl).2)
    obtain ⟨g1, g2⟩ := a_st_alc (H1 := H1) (kd := p') (n := n.toNatClampNeg) hs (by omega) (by
      subst hcA
      rcases hp with ⟨rfl, rfl⟩ | ⟨rfl, rfl⟩ | ⟨rfl, rfl⟩
      · rw [a_cell_i hKx]
        show H1[H.size]? = some (vp_cell _ _)
        rw [q1, hNx, vp_cell_i]
        congr 2
        funext j
        simp [a_alc, z2, defaultValue, newarray.typeOf]
      · rw [a_cell_l hKx]
        show H1[H.size]? = some (vp_cell _ _)
        rw [q1, hNx, vp_cell_l]
        congr 2
        funext j
        simp [a_alc, z2, defaultValue, newarray.typeOf]
      · rw [a_cell_z hKx]
        show H1[H.size]? = some (vp_cell _ _)
        rw [q1, hNx, vp_cell_i]
        congr 2
        funext j
        simp [a_alc, z2, defaultValue, newarray.typeOf]) q2 q3
    have h2 := hk _ _ _ _ _ _ _ _ _ hr g1 hl
    rw [List.map_cons, g2] at h2
    exact h2
  · exact hr.elim
theorem sn_anewarray (hx : p.tables.exec = Jvm.exec) (hb : c.code = cc) (hk : a_Wk p l e R s m args below meth c Qf w x0 s0 nL k) (hrm : a_rm R x0 s0 k) (hs : a_st w x0 s0 h s H locs cells slots) (hl : a_ls w nL L ls) {own : String} (ho : s.vm.findClass own = some m.cls) (hK : va_K w.1 vwCl (a_tys w) s)
    {p' : Nat} {C : String} (hp : (p' = 15 ∧ C = RX5) ∨ (p' = 16 ∧ C = RX7)) (hcl : (Jvm.Cond.classLink own ix C).before args s = true) (hov : (Jvm.Cond.arrayOver (.object C)).before args s = true) (hd : decode cc pc = .ok (.anewarray ix, 3))
    (hr : match st with | .int n :: r => (¬ n < 0) ∧ (n.toNatClampNeg ≤ 1000000) ∧ k (pc + 3) L (.ref (gx h.1) :: r) (a_alc h p' n.toNatClampNeg) | _ => False) : W p l e R s m args below meth c H locs cells slots Qf (F0 m pc ls (st.map (acv w))) := by
  split at hr
  · rename_i n r
    obtain ⟨hn, hm, hr⟩ := hr
    have hroom := hrm _ _ _ _ hr
    have e1 : gx (a_alc h p' n.toNatClampNeg).1 = gx h.1 + 1 := rfl
    have e2 : gs (a_alc h p' n.toNatClampNeg).1 = gs h.1 + n.toNatClampNeg := rfl
    have e3 := hs.2.2
    refine W.anew hx hb ho hcl hov rfl hd rfl hn (by omega) (by omega) (by omega) fun cA kA comp f1 f2 f3 f4 => ?_
    generalize hH1 : H.push ({ cls := cA, slots := Array.replicate n.toNatClampNeg .null, vm := .none } : Cell) = H1
    have z1 : H1.size = H.size + 1 := by rw [← hH1, Array.size_push]
    have q1 : H1[H.size]? = some (arrV cA n.toNatClampNeg (fun _ => .null)) := by rw [← hH1, Array.getElem?_push_size, ← arrV_new]
    have o1 : ∀ q : Nat, q < H.size → H1[q]? = H[q]? := fun q hq => by rw [← hH1, Array.getElem?_push, if_neg (Nat.ne_of_lt hq)]
    have hKx : gK (a_alc h p' n.toNatClampNeg).1 (gx h.1) = p' := u1_eq
    have hNx : gN (a_alc h p' n.toNatClampNeg).1 (gx h.1) = n.toNatClampNeg := u1_eq
    have hcA : cA = w.2.1 p' := by
      rcases hp with ⟨rfl, rfl⟩ | ⟨rfl, rfl⟩
      · obtain ⟨_, _, _, _, _, k4⟩ := (hK.2 3 _ rfl).2
        exact Option.some.inj (f1.symm.trans k4)
      · obtain ⟨_, _, _, _, _, k4⟩ := (hK.2 4 _ rfl).2
        exact Option.some.inj (f1.symm.trans k4)
    obtain ⟨g1, g2⟩ := a_st_alc (H1 := H1) (kd := p') (n := n.toNatClampNeg) hs (by omega) (by
      subst hcA
      rw [a_cell_q hKx (by omega)]
      show H1[H.size]? = some (vp_cell _ _)
      rw [q1, hNx, vp_cell_q]
      congr 2
      funext j
      simp [a_alc, z2, gR, gnew, gx, arf, va_rf]) z1 o1
    have h2 := hk _ _ _ _ _ _ _ _ _ hr g1 hl
    rw [List.map_cons, g2] at h2
    exact h2
  · exact hr.elim
end SNA
