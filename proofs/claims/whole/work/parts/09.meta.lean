/-! ===== the abstract machine goes one way: what it comes to is one state ===== -/
def a_le (h h2 : aH) : Prop := gx h.1 ≤ gx h2.1 ∧ gs h.1 ≤ gs h2.1
theorem a_le_rf {h : aH} : a_le h h := ⟨Nat.le_refl _, Nat.le_refl _⟩
theorem a_le_tr {h1 h2 h3 : aH} (a : a_le h1 h2) (b : a_le h2 h3) : a_le h1 h3 := ⟨Nat.le_trans a.1 b.1, Nat.le_trans a.2 b.2⟩
theorem a_le_I {g : aG} {I I2 : Nat → Nat → Int32} {J J2 : Nat → Nat → Int64} : a_le (g, I, J) (g, I2, J2) := ⟨Nat.le_refl _, Nat.le_refl _⟩
theorem a_le_put {g : aG} {a k b : Nat} {I I2 : Nat → Nat → Int32} {J J2 : Nat → Nat → Int64} : a_le (g, I, J) (gput g a k b, I2, J2) := ⟨Nat.le_refl _, Nat.le_refl _⟩
theorem a_le_new {g : aG} {a k : Nat} {I I2 : Nat → Nat → Int32} {J J2 : Nat → Nat → Int64} : a_le (g, I, J) (gnew g a k, I2, J2) := ⟨Nat.le_succ _, Nat.le_add_right _ _⟩
theorem a_le_alc {h : aH} {a k : Nat} : a_le h (a_alc h a k) := ⟨Nat.le_succ _, Nat.le_add_right _ _⟩
theorem a_le_mul {h : aH} {a b n m : Nat} : a_le h (a_mul h a b n m) := ⟨by show gx h.1 ≤ gx h.1 + 1 + n; omega, by show gs h.1 ≤ gs h.1 + n + n * m; omega⟩
def a_CE (cf : aCF) : Prop := ∀ mi as h Q, cf mi as h Q → ∃ r h2, Q r h2 ∧ a_le h h2 ∧ ∀ Q2 : aQ, Q2 r h2 → cf mi as h Q2
def a_Ex (F : aK → aQ → Prop) (h : aH) : Prop := ∀ k Q, F k Q → (∃ pc L st h2, k pc L st h2 ∧ a_le h h2 ∧ ∀ (k2 : aK) (Q2 : aQ), k2 pc L st h2 → F k2 Q2) ∨ (∃ r h2, Q r h2 ∧ a_le h h2 ∧ ∀ (k2 : aK) (Q2 : aQ), Q2 r h2 → F k2 Q2)
theorem ex_k {h h2 : aH} {pc : Nat} {L st : List Value} (hl : a_le h h2) : a_Ex (fun k _ => k pc L st h2) h := fun k Q hk => Or.inl ⟨_, _, _, _, hk, hl, fun _ _ h => h⟩
theorem ex_Q {h h2 : aH} {r : Option Value} (hl : a_le h h2) : a_Ex (fun _ Q => Q r h2) h := fun k Q hk => Or.inr ⟨_, _, hk, hl, fun _ _ h => h⟩
theorem ex_F {h : aH} : a_Ex (fun _ _ => False) h := fun k Q hk => hk.elim
theorem ex_and {h : aH} {P : Prop} {F : aK → aQ → Prop} (hF : a_Ex F h) : a_Ex (fun k Q => P ∧ F k Q) h := by
  intro k Q ⟨hp, hf⟩
  rcases hF k Q hf with ⟨pc, L, st, h2, a, b, c⟩ | ⟨r, h2, a, b, c⟩
  · exact Or.inl ⟨pc, L, st, h2, a, b, fun k2 Q2 h => ⟨hp, c k2 Q2 h⟩⟩
  · exact Or.inr ⟨r, h2, a, b, fun k2 Q2 h => ⟨hp, c k2 Q2 h⟩⟩
theorem ex_ite {h : aH} {P : Prop} [Decidable P] {F G : aK → aQ → Prop} (hF : a_Ex F h) (hG : a_Ex G h) : a_Ex (fun k Q => if P then F k Q else G k Q) h := by
  by_cases hp : P
  · simp only [if_pos hp]; exact hF
  · simp only [if_neg hp]; exact hG
theorem ex_if {h : aH} {c : ClassFile.Cond} {a b : Int32} {F G : aK → aQ → Prop} (hF : a_Ex F h) (hG : a_Ex G h) : a_Ex (fun k Q => a_if c a b (F k Q) (G k Q)) h := by
  cases c <;> first | exact ex_ite hF hG | exact ex_ite hG hF
theorem ex_sw {h : aH} {v : Int32} {d : Nat} {L st : List Value} : ∀ sw : List (Int32 × Nat), a_Ex (fun k _ => a_sw v d (fun tg => k tg L st h) sw) h
  | [] => ex_k a_le_rf
  | (c, t) :: r => ex_ite (ex_k a_le_rf) (ex_sw r)
theorem ex_ret {cf : aCF} (hc : a_CE cf) {h : aH} {mi t nx : Nat} {as L r : List Value} : a_Ex (fun k _ => cf mi as h (fun v h2 => a_ret t v (fun w => k nx L (w ++ r) h2))) h := by
  intro k Q hk
  obtain ⟨v, h2, hq, hl, hx⟩ := hc _ _ _ _ hk
  refine Or.inl ?_
  unfold a_ret at hq
  split at hq
  · exact ⟨_, _, _, _, hq.2, hl, fun k2 Q2 h3 => hx _ (by unfold a_ret; exact ⟨hq.1, h3⟩)⟩
  · obtain ⟨i, e, hq⟩ := hq
    exact ⟨_, _, _, _, hq, hl, fun k2 Q2 h3 => hx _ (by unfold a_ret; exact ⟨i, e, h3⟩)⟩
  · rename_i n0 n1
    obtain ⟨i, e, hq⟩ := hq
    refine ⟨_, _, _, _, hq, hl, fun k2 Q2 h3 => hx _ ?_⟩
    match t, n0, n1 with
    | 0, n0, _ => exact absurd rfl n0
    | 1, _, n1 => exact absurd rfl n1
    | t + 2, _, _ => exact ⟨i, e, h3⟩
theorem ex_call1 {cf : aCF} (hc : a_CE cf) {x : aI} {nr : Bool} {h : aH} {nx : Nat} {L st : List Value} : a_Ex (fun k _ => a_call1 cf x nr st h (fun st2 h2 => k nx L st2 h2)) h := by
  obtain ⟨i, nx', p, q, t, ci, cl, ks, sw⟩ := x
  cases nr with
  | true =>
    simp only [a_call1]
    split
    · exact ex_ret hc
    · exact ex_F
  | false =>
    simp only [a_call1]
    split
    · refine ex_and ?_
      split
      · exact ex_ret hc
      · exact ex_F
    · exact ex_F
theorem ex_prim {t : Nat} {h : aH} {nx : Nat} {L st : List Value} : a_Ex (fun k _ => a_prim t st h (fun st2 h2 => k nx L st2 h2)) h := by
  simp only [a_prim, a_bin, a_binL]
  split <;> (try exact ex_F) <;> split <;> first
    | exact ex_F
    | exact ex_k a_le_rf
    | exact ex_and (ex_k a_le_rf)
    | exact ex_and (ex_and (ex_k a_le_rf))
    | exact ex_and (ex_and (ex_and (ex_k a_le_I)))
    | exact ex_and (ex_k a_le_new)
theorem ex_inv {cf : aCF} (hc : a_CE cf) {x : aI} {nr : Bool} {h : aH} {nx : Nat} {L st : List Value} : a_Ex (fun k _ => a_inv cf x nr st h (fun st2 h2 => k nx L st2 h2)) h := by
  obtain ⟨i, nx', p, q, t, ci, cl, ks, sw⟩ := x
  simp only [a_inv]
  split
  · exact ex_F
  · split <;> first | exact ex_call1 hc | exact ex_prim
theorem ex_put {x : aI} {h : aH} {nx : Nat} {L st : List Value} : a_Ex (fun k _ => a_put x st h (fun st2 h2 => k nx L st2 h2)) h := by
  obtain ⟨i, nx', p, q, t, ci, cl, ks, sw⟩ := x
  simp only [a_put]
  split <;> split <;> first
    | exact ex_F
    | exact ex_and (ex_k a_le_I)
    | exact ex_and (ex_and (ex_k a_le_I))
    | exact ex_and (ex_k a_le_put)
theorem ex_get {x : aI} {h : aH} {nx : Nat} {L st : List Value} : a_Ex (fun k _ => a_get x st h (fun st2 => k nx L st2 h)) h := by
  obtain ⟨i, nx', p, q, t, ci, cl, ks, sw⟩ := x
  simp only [a_get]
  split
  · refine ex_and ?_
    split <;> exact ex_k a_le_rf
  · exact ex_F
theorem a_ins_ex {cf : aCF} (hc : a_CE cf) (x : aI) (L st : List Value) (h : aH) : a_Ex (fun k Q => a_ins cf x L st h k Q) h := by
  obtain ⟨i, nx, p, q, t, ci, cl, ks, sw⟩ := x
  cases i <;> simp only [a_ins, a_bin, a_binL, a_binS, a_loadI, a_loadL, a_loadA, a_stoI, a_stoL, a_stoA] <;> first
    | exact ex_F
    | exact ex_k a_le_rf
    | exact ex_k a_le_alc
    | exact ex_Q a_le_rf
    | exact ex_inv hc
    | exact ex_put
    | exact ex_get
    | (split <;> first
      | exact ex_F
      | exact ex_k a_le_rf
      | exact ex_Q a_le_rf
      | exact ex_and (ex_k a_le_rf)
      | exact ex_and (ex_and (ex_k a_le_rf))
      | exact ex_and (ex_and (ex_k a_le_I))
      | exact ex_and (ex_and (ex_and (ex_k a_le_I)))
      | exact ex_and (ex_and (ex_and (ex_k a_le_put)))
      | exact ex_and (ex_and (ex_k a_le_alc))
      | exact ex_and (ex_and (ex_k a_le_mul))
      | exact ex_if (ex_k a_le_rf) (ex_k a_le_rf)
      | exact ex_ite (ex_k a_le_rf) (ex_k a_le_rf)
      | exact ex_sw sw
      | (split <;> first | exact ex_F | exact ex_k a_le_rf | exact ex_Q a_le_rf | exact ex_and (ex_Q a_le_rf)))
section AMx
variable (tab : Nat → Nat → Option aI) (mx : Nat → Nat)
theorem a_run_ex {cf : aCF} (hc : a_CE cf) (mi : Nat) : ∀ (n pc : Nat) (L st : List Value) (h : aH), a_Ex (fun k Q => a_run tab cf mi n pc L st h k Q) h
  | 0, pc, L, st, h => ex_k a_le_rf
  | n + 1, pc, L, st, h => by
    intro k Q hk
    simp only [a_run] at hk ⊢
    split at hk
    · exact hk.elim
    · rename_i x hx
      rcases a_ins_ex hc x _ st h _ Q hk with ⟨pc2, L2, st2, h2, a, b, c⟩ | ⟨r, h2, a, b, c⟩
      · rcases a_run_ex hc mi n pc2 L2 st2 h2 k Q a with ⟨pc3, L3, st3, h3, a3, b3, c3⟩ | ⟨r, h3, a3, b3, c3⟩
        · exact Or.inl ⟨pc3, L3, st3, h3, a3, a_le_tr b b3, fun k2 Q2 h4 => c _ Q2 (c3 k2 Q2 h4)⟩
        · exact Or.inr ⟨r, h3, a3, a_le_tr b b3, fun k2 Q2 h4 => c _ Q2 (c3 k2 Q2 h4)⟩
      · exact Or.inr ⟨r, h2, a, b, fun k2 Q2 h4 => c _ Q2 h4⟩
theorem a_call_ex : ∀ d, a_CE (a_call tab mx d)
  | 0 => fun _ _ _ _ h => h.elim
  | d + 1 => by
    intro mi as h Q ⟨hle, n, hn⟩
    rcases a_run_ex tab (a_call_ex d) mi n _ _ _ _ _ Q hn with ⟨_, _, _, _, a, -⟩ | ⟨r, h2, a, b, c⟩
    · exact a.elim
    · exact ⟨r, h2, a, b, fun Q2 h3 => ⟨hle, n, c _ Q2 h3⟩⟩
/-- some instructions, then the rest -/
theorem a_run_app {cf : aCF} (hc : a_CE cf) (mi : Nat) (m : Nat) : ∀ (n pc : Nat) (L st : List Value) (h : aH) (k : aK) (Q : aQ), a_run tab cf mi n pc L st h (fun pc L st h => a_run tab cf mi m pc L st h k Q) Q → a_run tab cf mi (n + m) pc L st h k Q
  | 0, pc, L, st, h, k, Q, hr => by rw [Nat.zero_add]; exact hr
  | n + 1, pc, L, st, h, k, Q, hr => by
    rw [Nat.succ_add_eq_add_succ, Nat.add_succ]
    simp only [a_run] at hr ⊢
    split at hr
    · exact hr.elim
    · rename_i x hx
      rcases a_ins_ex hc x _ st h _ Q hr with ⟨pc2, L2, st2, h2, a, b, c⟩ | ⟨r, h2, a, b, c⟩
      · exact c _ Q (a_run_app hc mi m n pc2 L2 st2 h2 k Q a)
      · exact c _ Q a
theorem wp_run (n : Nat) {d mi pc : Nat} {L st : List Value} {h : aH} {Q : aQ} (hr : a_run tab (a_call tab mx d) mi n pc L st h (fun pc L st h => a_wp tab mx d mi pc L st h Q) Q) : a_wp tab mx d mi pc L st h Q := by
  rcases a_run_ex tab (a_call_ex tab mx d) mi n pc L st h _ Q hr with ⟨pc2, L2, st2, h2, ⟨m, a⟩, b, c⟩ | ⟨r, h2, a, b, c⟩
  · exact ⟨n + m, a_run_app tab (a_call_ex tab mx d) mi m n pc L st h _ Q (c _ Q a)⟩
  · exact ⟨n, c _ Q a⟩
theorem wp_call {d mi : Nat} {as : List Value} {h : aH} {Q : aQ} (hle : a_fit2 (mx mi) as = true) (hr : a_wp tab mx d mi 0 (a_entry mx mi as) [] h Q) : a_call tab mx (d + 1) mi as h Q := ⟨hle, hr⟩
theorem a_call_mono {d mi : Nat} {as : List Value} {h : aH} {Q Q2 : aQ} (hr : a_call tab mx d mi as h Q) (hq : ∀ r h2, Q r h2 → Q2 r h2) : a_call tab mx d mi as h Q2 := by
  obtain ⟨r, h2, a, -, c⟩ := a_call_ex tab mx d mi as h Q hr
  exact c Q2 (hq _ _ a)
/-- a deeper stack does no harm -/
def a_Up (cf cf2 : aCF) : Prop := ∀ mi as h Q, cf mi as h Q → cf2 mi as h Q
theorem up_ins {cf cf2 : aCF} (hu : a_Up cf cf2) (x : aI) (L st : List Value) (h : aH) (k : aK) (Q : aQ) (hr : a_ins cf x L st h k Q) : a_ins cf2 x L st h k Q := by
  obtain ⟨i, nx, p, q, t, ci, cl, ks, sw⟩ := x
  have h1 : ∀ (nr : Bool) (kk : List Value → aH → Prop), a_inv cf (i, nx, p, q, t, ci, cl, ks, sw) nr st h kk → a_inv cf2 (i, nx, p, q, t, ci, cl, ks, sw) nr st h kk := by
    intro nr kk hh
    have h2 : a_call1 cf (i, nx, p, q, t, ci, cl, ks, sw) nr st h kk → a_call1 cf2 (i, nx, p, q, t, ci, cl, ks, sw) nr st h kk := by
      intro h3
      cases nr with
      | true =>
        simp only [a_call1] at h3 ⊢
        split at h3
        · exact hu _ _ _ _ h3
        · exact h3.elim
      | false =>
        simp only [a_call1] at h3 ⊢
        split at h3
        · refine ⟨h3.1, ?_⟩
          have h4 := h3.2
          split at h4
          · exact hu _ _ _ _ h4
          · exact h4.elim
        · exact h3.elim
    simp only [a_inv] at hh ⊢
    split at hh
    · exact hh.elim
    · split at hh <;> first | exact h2 hh | exact hh
  cases i <;> first | exact h1 _ _ hr | exact hr
theorem up_run {cf cf2 : aCF} (hc : a_CE cf2) (hu : a_Up cf cf2) (mi : Nat) : ∀ (n pc : Nat) (L st : List Value) (h : aH) (k : aK) (Q : aQ), a_run tab cf mi n pc L st h k Q → a_run tab cf2 mi n pc L st h k Q
  | 0, _, _, _, _, _, _, hr => hr
  | n + 1, pc, L, st, h, k, Q, hr => by
    simp only [a_run] at hr ⊢
    split at hr
    · exact hr.elim
    · rename_i x hx
      have h2 := up_ins hu x _ st h _ Q hr
      rcases a_ins_ex hc x _ st h _ Q h2 with ⟨pc2, L2, st2, h3, a, b, c⟩ | ⟨r, h3, a, b, c⟩
      · exact c _ Q (up_run hc hu mi n pc2 L2 st2 h3 k Q a)
      · exact c _ Q a
theorem a_call_up1 : ∀ d, a_Up (a_call tab mx d) (a_call tab mx (d + 1))
  | 0 => fun _ _ _ _ h => h.elim
  | d + 1 => fun mi as h Q ⟨hle, n, hn⟩ => ⟨hle, n, up_run tab (a_call_ex tab mx (d + 1)) (a_call_up1 d) mi n _ _ _ _ _ Q hn⟩
theorem a_call_up {d e : Nat} (he : d ≤ e) : a_Up (a_call tab mx d) (a_call tab mx e) := by
  induction he with
  | refl => exact fun _ _ _ _ h => h
  | step _ ih => exact fun mi as h Q hq => a_call_up1 tab mx _ mi as h Q (ih mi as h Q hq)
end AMx
