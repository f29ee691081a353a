/-! ===== what was there keeps its kind ===== -/
def b_le (h h2 : aH) : Prop := gx h.1 ≤ gx h2.1 ∧ ∀ a, a < gx h.1 → gK h2.1 a = gK h.1 a
theorem b_le_rf {h : aH} : b_le h h := ⟨Nat.le_refl _, fun _ _ => rfl⟩
theorem b_le_tr {h1 h2 h3 : aH} (a : b_le h1 h2) (b : b_le h2 h3) : b_le h1 h3 := ⟨Nat.le_trans a.1 b.1, fun x hx => (b.2 x (Nat.lt_of_lt_of_le hx a.1)).trans (a.2 x hx)⟩
theorem b_le_I {g : aG} {I I2 : Nat → Nat → Int32} {J J2 : Nat → Nat → Int64} : b_le (g, I, J) (g, I2, J2) := ⟨Nat.le_refl _, fun _ _ => rfl⟩
theorem b_le_put {g : aG} {a k b : Nat} {I I2 : Nat → Nat → Int32} {J J2 : Nat → Nat → Int64} : b_le (g, I, J) (gput g a k b, I2, J2) := ⟨Nat.le_refl _, fun _ _ => rfl⟩
theorem b_le_new {g : aG} {a k : Nat} {I I2 : Nat → Nat → Int32} {J J2 : Nat → Nat → Int64} : b_le (g, I, J) (gnew g a k, I2, J2) := ⟨Nat.le_succ _, fun x hx => by
  have hx : x < gx g := hx
  show (if x = gx g then a else gK g x) = gK g x
  exact if_neg (by omega)⟩
theorem b_le_alc {h : aH} {a k : Nat} : b_le h (a_alc h a k) := ⟨Nat.le_succ _, fun x hx => by
  show (if x = gx h.1 then a else gK h.1 x) = gK h.1 x
  exact if_neg (by omega)⟩
theorem b_le_mul {h : aH} {a b n m : Nat} : b_le h (a_mul h a b n m) := ⟨by show gx h.1 ≤ gx h.1 + 1 + n; omega, fun x hx => by
  show (if x = gx h.1 then a else if gx h.1 < x ∧ x ≤ gx h.1 + n then b else gK h.1 x) = gK h.1 x
  rw [if_neg (by omega), if_neg (by omega)]⟩
def b_CE (cf : aCF) : Prop := ∀ mi as h Q, cf mi as h Q → ∃ r h2, Q r h2 ∧ b_le h h2 ∧ ∀ Q2 : aQ, Q2 r h2 → cf mi as h Q2
def b_Ex (F : aK → aQ → Prop) (h : aH) : Prop := ∀ k Q, F k Q → (∃ pc L st h2, k pc L st h2 ∧ b_le h h2 ∧ ∀ (k2 : aK) (Q2 : aQ), k2 pc L st h2 → F k2 Q2) ∨ (∃ r h2, Q r h2 ∧ b_le h h2 ∧ ∀ (k2 : aK) (Q2 : aQ), Q2 r h2 → F k2 Q2)
theorem ey_k {h h2 : aH} {pc : Nat} {L st : List Value} (hl : b_le h h2) : b_Ex (fun k _ => k pc L st h2) h := fun k Q hk => Or.inl ⟨_, _, _, _, hk, hl, fun _ _ h => h⟩
theorem ey_Q {h h2 : aH} {r : Option Value} (hl : b_le h h2) : b_Ex (fun _ Q => Q r h2) h := fun k Q hk => Or.inr ⟨_, _, hk, hl, fun _ _ h => h⟩
theorem ey_F {h : aH} : b_Ex (fun _ _ => False) h := fun k Q hk => hk.elim
theorem ey_and {h : aH} {P : Prop} {F : aK → aQ → Prop} (hF : b_Ex F h) : b_Ex (fun k Q => P ∧ F k Q) h := by
  intro k Q ⟨hp, hf⟩
  rcases hF k Q hf with ⟨pc, L, st, h2, a, b, c⟩ | ⟨r, h2, a, b, c⟩
  · exact Or.inl ⟨pc, L, st, h2, a, b, fun k2 Q2 h => ⟨hp, c k2 Q2 h⟩⟩
  · exact Or.inr ⟨r, h2, a, b, fun k2 Q2 h => ⟨hp, c k2 Q2 h⟩⟩
theorem ey_ite {h : aH} {P : Prop} [Decidable P] {F G : aK → aQ → Prop} (hF : b_Ex F h) (hG : b_Ex G h) : b_Ex (fun k Q => if P then F k Q else G k Q) h := by
  by_cases hp : P
  · simp only [if_pos hp]; exact hF
  · simp only [if_neg hp]; exact hG
theorem ey_if {h : aH} {c : ClassFile.Cond} {a b : Int32} {F G : aK → aQ → Prop} (hF : b_Ex F h) (hG : b_Ex G h) : b_Ex (fun k Q => a_if c a b (F k Q) (G k Q)) h := by
  cases c <;> first | exact ey_ite hF hG | exact ey_ite hG hF
theorem ey_sw {h : aH} {v : Int32} {d : Nat} {L st : List Value} : ∀ sw : List (Int32 × Nat), b_Ex (fun k _ => a_sw v d (fun tg => k tg L st h) sw) h
  | [] => ey_k b_le_rf
  | (c, t) :: r => ey_ite (ey_k b_le_rf) (ey_sw r)
theorem ey_ret {cf : aCF} (hc : b_CE cf) {h : aH} {mi t nx : Nat} {as L r : List Value} : b_Ex (fun k _ => cf mi as h (fun v h2 => a_ret t v (fun w => k nx L (w ++ r) h2))) h := by
  intro k Q hk
  obtain ⟨v, h2, hq, hl, hx⟩ := hc _ _ _ _ hk
  refine Or.inl ?_
  unfold a_ret at hq
  split at hq
  · exact ⟨_, _, _, _, hq.2, hl, fun k2 Q2 h3 => hx _ (by unfold a_ret; exact ⟨hq.1, h3⟩)⟩
  · obtain ⟨i, e, hq⟩ := hq
    exact ⟨_, _, _, _, hq, hl, fun k2 Q2 h3 => hx _ (by unfold a_ret; exact ⟨i, e, h3⟩)⟩
  · rename_i n0 n1
    obtain ⟨i, e, hq⟩ := hq
    refine ⟨_, _, _, _, hq, hl, fun k2 Q2 h3 => hx _ ?_⟩
    match t, n0, n1 with
    | 0, n0, _ => exact absurd rfl n0
    | 1, _, n1 => exact absurd rfl n1
    | t + 2, _, _ => exact ⟨i, e, h3⟩
theorem ey_call1 {cf : aCF} (hc : b_CE cf) {x : aI} {nr : Bool} {h : aH} {nx : Nat} {L st : List Value} : b_Ex (fun k _ => a_call1 cf x nr st h (fun st2 h2 => k nx L st2 h2)) h := by
  obtain ⟨i, nx', p, q, t, ci, cl, ks, sw⟩ := x
  cases nr with
  | true =>
    simp only [a_call1]
    split
    · exact ey_ret hc
    · exact ey_F
  | false =>
    simp only [a_call1]
    split
    · refine ey_and ?_
      split
      · exact ey_ret hc
      · exact ey_F
    · exact ey_F
theorem ey_prim {t : Nat} {h : aH} {nx : Nat} {L st : List Value} : b_Ex (fun k _ => a_prim t st h (fun st2 h2 => k nx L st2 h2)) h := by
  simp only [a_prim, a_bin, a_binL]
  split <;> (try exact ey_F) <;> split <;> first
    | exact ey_F
    | exact ey_k b_le_rf
    | exact ey_and (ey_k b_le_rf)
    | exact ey_and (ey_and (ey_k b_le_rf))
    | exact ey_and (ey_and (ey_and (ey_k b_le_I)))
    | exact ey_and (ey_k b_le_new)
theorem ey_inv {cf : aCF} (hc : b_CE cf) {x : aI} {nr : Bool} {h : aH} {nx : Nat} {L st : List Value} : b_Ex (fun k _ => a_inv cf x nr st h (fun st2 h2 => k nx L st2 h2)) h := by
  obtain ⟨i, nx', p, q, t, ci, cl, ks, sw⟩ := x
  simp only [a_inv]
  split
  · exact ey_F
  · split <;> first | exact ey_call1 hc | exact ey_prim
theorem ey_put {x : aI} {h : aH} {nx : Nat} {L st : List Value} : b_Ex (fun k _ => a_put x st h (fun st2 h2 => k nx L st2 h2)) h := by
  obtain ⟨i, nx', p, q, t, ci, cl, ks, sw⟩ := x
  simp only [a_put]
  split <;> split <;> first
    | exact ey_F
    | exact ey_and (ey_k b_le_I)
    | exact ey_and (ey_and (ey_k b_le_I))
    | exact ey_and (ey_k b_le_put)
theorem ey_get {x : aI} {h : aH} {nx : Nat} {L st : List Value} : b_Ex (fun k _ => a_get x st h (fun st2 => k nx L st2 h)) h := by
  obtain ⟨i, nx', p, q, t, ci, cl, ks, sw⟩ := x
  simp only [a_get]
  split
  · refine ey_and ?_
    split <;> exact ey_k b_le_rf
  · exact ey_F
theorem b_ins_ex {cf : aCF} (hc : b_CE cf) (x : aI) (L st : List Value) (h : aH) : b_Ex (fun k Q => a_ins cf x L st h k Q) h := by
  obtain ⟨i, nx, p, q, t, ci, cl, ks, sw⟩ := x
  cases i <;> simp only [a_ins, a_bin, a_binL, a_binS, a_loadI, a_loadL, a_loadA, a_stoI, a_stoL, a_stoA] <;> first
    | exact ey_F
    | exact ey_k b_le_rf
    | exact ey_k b_le_alc
    | exact ey_Q b_le_rf
    | exact ey_inv hc
    | exact ey_put
    | exact ey_get
    | (split <;> first
      | exact ey_F
      | exact ey_k b_le_rf
      | exact ey_Q b_le_rf
      | exact ey_and (ey_k b_le_rf)
      | exact ey_and (ey_and (ey_k b_le_rf))
      | exact ey_and (ey_and (ey_k b_le_I))
      | exact ey_and (ey_and (ey_and (ey_k b_le_I)))
      | exact ey_and (ey_and (ey_and (ey_k b_le_put)))
      | exact ey_and (ey_and (ey_k b_le_alc))
      | exact ey_and (ey_and (ey_k b_le_mul))
      | exact ey_if (ey_k b_le_rf) (ey_k b_le_rf)
      | exact ey_ite (ey_k b_le_rf) (ey_k b_le_rf)
      | exact ey_sw sw
      | (split <;> first | exact ey_F | exact ey_k b_le_rf | exact ey_Q b_le_rf | exact ey_and (ey_Q b_le_rf)))
section AMx
variable (tab : Nat → Nat → Option aI) (mx : Nat → Nat)
theorem b_run_ex {cf : aCF} (hc : b_CE cf) (mi : Nat) : ∀ (n pc : Nat) (L st : List Value) (h : aH), b_Ex (fun k Q => a_run tab cf mi n pc L st h k Q) h
  | 0, pc, L, st, h => ey_k b_le_rf
  | n + 1, pc, L, st, h => by
    intro k Q hk
    simp only [a_run] at hk ⊢
    split at hk
    · exact hk.elim
    · rename_i x hx
      rcases b_ins_ex hc x _ st h _ Q hk with ⟨pc2, L2, st2, h2, a, b, c⟩ | ⟨r, h2, a, b, c⟩
      · rcases b_run_ex hc mi n pc2 L2 st2 h2 k Q a with ⟨pc3, L3, st3, h3, a3, b3, c3⟩ | ⟨r, h3, a3, b3, c3⟩
        · exact Or.inl ⟨pc3, L3, st3, h3, a3, b_le_tr b b3, fun k2 Q2 h4 => c _ Q2 (c3 k2 Q2 h4)⟩
        · exact Or.inr ⟨r, h3, a3, b_le_tr b b3, fun k2 Q2 h4 => c _ Q2 (c3 k2 Q2 h4)⟩
      · exact Or.inr ⟨r, h2, a, b, fun k2 Q2 h4 => c _ Q2 h4⟩
theorem b_call_ex : ∀ d, b_CE (a_call tab mx d)
  | 0 => fun _ _ _ _ h => h.elim
  | d + 1 => by
    intro mi as h Q ⟨hle, n, hn⟩
    rcases b_run_ex tab (b_call_ex d) mi n _ _ _ _ _ Q hn with ⟨_, _, _, _, a, -⟩ | ⟨r, h2, a, b, c⟩
    · exact a.elim
    · exact ⟨r, h2, a, b, fun Q2 h3 => ⟨hle, n, c _ Q2 h3⟩⟩
theorem call_K {d mi : Nat} {as : List Value} {h : aH} {Q : aQ} (hr : a_call tab mx d mi as h Q) : a_call tab mx d mi as h (fun r h2 => Q r h2 ∧ b_le h h2) := by
  obtain ⟨r, h2, a, b, c⟩ := b_call_ex tab mx d mi as h Q hr
  exact c _ ⟨a, b⟩
end AMx
