/-! ===== the reference's pile ===== -/
def bnd (o : Nat) : Nat := if 30 ≤ o then 0 else if o = 29 then 1 else if o = 28 then 2 else if o = 27 then 3 else if 24 ≤ o then 4 else if 22 ≤ o then 6 else 5
def stl (l : Nat) : List (Nat × Nat) → List (Nat × Nat) → List (Nat × Nat) × List (Nat × Nat)
  | [], c => ([], c)
  | x :: q, c => if bnd x.1 < l then (x :: q, c) else if x.1 = 28 ∨ x.1 = 29 then stl l q (c.set x.2 ((c.getD x.2 (0, 0)).1, c.length)) else stl l q (c ++ [(x.1, 0)])
def TB (l : Nat) : List (Nat × Nat) → Prop
  | [] => True
  | x :: _ => bnd x.1 < l
theorem stl_T {l : Nat} {q c : List (Nat × Nat)} (h : TB l q) : stl l q c = (q, c) := by
  cases q with
  | nil => rfl
  | cons x q => exact if_pos h
theorem stl_c {l : Nat} {x : Nat × Nat} {q c : List (Nat × Nat)} : stl l (x :: q) c = if bnd x.1 < l then (x :: q, c) else if x.1 = 28 ∨ x.1 = 29 then stl l q (c.set x.2 ((c.getD x.2 (0, 0)).1, c.length)) else stl l q (c ++ [(x.1, 0)]) := rfl
theorem stl_2 {l m : Nat} (h : l ≤ m) : ∀ q c, stl l q c = stl l (stl m q c).1 (stl m q c).2
  | [], c => rfl
  | x :: q, c => by
    by_cases h1 : bnd x.1 < m
    · rw [show stl m (x :: q) c = (x :: q, c) from if_pos h1]
    · have h2 : ¬ bnd x.1 < l := by omega
      rw [stl_c (l := l), stl_c (l := m), if_neg h2, if_neg h1]
      by_cases h3 : x.1 = 28 ∨ x.1 = 29
      · rw [if_pos h3, if_pos h3]; exact stl_2 h q _
      · rw [if_neg h3, if_neg h3]; exact stl_2 h q _
theorem stl_len {l : Nat} : ∀ q c, (stl l q c).1.length + (stl l q c).2.length ≤ q.length + c.length ∧ (stl l q c).1.length ≤ q.length ∧ c.length ≤ (stl l q c).2.length
  | [], c => ⟨Nat.le_refl _, Nat.le_refl _, Nat.le_refl _⟩
  | x :: q, c => by
    unfold stl
    by_cases h1 : bnd x.1 < l
    · rw [if_pos h1]; exact ⟨Nat.le_refl _, Nat.le_refl _, Nat.le_refl _⟩
    · rw [if_neg h1]
      by_cases h3 : x.1 = 28 ∨ x.1 = 29
      · rw [if_pos h3]
        have ih := stl_len (l := l) q (c.set x.2 ((c.getD x.2 (0, 0)).1, c.length))
        rw [List.length_set] at ih
        rw [List.length_cons]
        omega
      · rw [if_neg h3]
        have ih := stl_len (l := l) q (c ++ [(x.1, 0)])
        rw [List.length_append, List.length_singleton] at ih
        rw [List.length_cons]
        omega
def PV (q : List (Nat × Nat)) : Prop := ∀ x ∈ q, 20 ≤ x.1 ∧ x.1 ≤ 31 ∧ x.2 < 400
theorem PV_s {l : Nat} : ∀ {q c : List (Nat × Nat)}, PV q → PV (stl l q c).1
  | [], _, h => h
  | x :: q, c, h => by
    have hq : PV q := fun y hy => h y (List.mem_cons_of_mem _ hy)
    unfold stl
    by_cases h1 : bnd x.1 < l
    · rw [if_pos h1]; exact h
    · rw [if_neg h1]
      by_cases h3 : x.1 = 28 ∨ x.1 = 29
      · rw [if_pos h3]; exact PV_s hq
      · rw [if_neg h3]; exact PV_s hq
theorem PV_c {x : Nat × Nat} {q : List (Nat × Nat)} (h1 : 20 ≤ x.1) (h2 : x.1 ≤ 31) (h3 : x.2 < 400) (h : PV q) : PV (x :: q) := by
  intro y hy
  rcases List.mem_cons.1 hy with e | e
  · rw [e]; exact ⟨h1, h2, h3⟩
  · exact h y e
def inn : List (Nat × Nat) → Option Nat
  | [] => none
  | x :: q => if 30 ≤ x.1 then some x.1 else inn q
theorem inn_s {l : Nat} (hl : 1 ≤ l) : ∀ q c, inn (stl l q c).1 = inn q
  | [], _ => rfl
  | x :: q, c => by
    unfold stl
    by_cases h1 : bnd x.1 < l
    · rw [if_pos h1]
    · have hx : ¬ 30 ≤ x.1 := by
        intro z
        apply h1
        unfold bnd
        rw [if_pos z]
        omega
      have e : inn (x :: q) = inn q := if_neg hx
      rw [if_neg h1, e]
      by_cases h3 : x.1 = 28 ∨ x.1 = 29
      · rw [if_pos h3]; exact inn_s hl q _
      · rw [if_neg h3]; exact inn_s hl q _
def cmpd : List (Nat × Nat) → Bool
  | [] => false
  | x :: q => if x.1 ≤ 23 then cmpd q else decide (x.1 ≤ 26)
theorem bnd5 {o : Nat} : ¬ bnd o < 5 ↔ o ≤ 23 := by
  unfold bnd
  split
  · omega
  · split
    · omega
    · split
      · omega
      · split
        · omega
        · split
          · omega
          · split <;> omega
theorem cmpd_s : ∀ q c, cmpd (stl 5 q c).1 = cmpd q
  | [], _ => rfl
  | x :: q, c => by
    unfold stl
    by_cases h1 : bnd x.1 < 5
    · rw [if_pos h1]
    · have hx := bnd5.1 h1
      have e : cmpd (x :: q) = cmpd q := if_pos hx
      rw [if_neg h1, e]
      by_cases h3 : x.1 = 28 ∨ x.1 = 29
      · rw [if_pos h3]; exact cmpd_s q _
      · rw [if_neg h3]; exact cmpd_s q _
/-! in the heap -/
def plh : List (Nat × Nat) → (Nat → Int32) → (Nat → Int32) → Prop
  | [], _, _ => True
  | x :: q, X, Y => X q.length = nI x.1 ∧ Y q.length = nI x.2 ∧ plh q X Y
theorem plh_c {X Y X' Y' : Nat → Int32} : ∀ {q : List (Nat × Nat)}, (∀ i, i < q.length → X' i = X i ∧ Y' i = Y i) → plh q X Y → plh q X' Y'
  | [], _, _ => trivial
  | x :: q, h, hp => by
    have w := h q.length (by rw [List.length_cons]; omega)
    refine ⟨w.1.trans hp.1, w.2.trans hp.2.1, plh_c (fun i hi => h i (by rw [List.length_cons]; omega)) hp.2.2⟩
def cdh (c : List (Nat × Nat)) (X Y : Nat → Int32) : Prop := ∀ i, i < c.length → X i = nI (c.getD i (0, 0)).1 ∧ Y i = nI (c.getD i (0, 0)).2
theorem cdh_a {c : List (Nat × Nat)} {x : Nat × Nat} {X Y X' Y' : Nat → Int32} (h : cdh c X Y) (h1 : ∀ i, i < c.length → X' i = X i ∧ Y' i = Y i) (h2 : X' c.length = nI x.1 ∧ Y' c.length = nI x.2) : cdh (c ++ [x]) X' Y' := by
  intro i hi
  rw [List.length_append, List.length_singleton] at hi
  rw [gapp]
  by_cases q : i < c.length
  · rw [if_pos q, (h1 i q).1, (h1 i q).2]; exact h i q
  · rw [if_neg q, show i = c.length by omega, Nat.sub_self]; exact h2
theorem cdh_s {c : List (Nat × Nat)} {k v : Nat} {X Y Y' : Nat → Int32} (h : cdh c X Y) (h1 : ∀ i, i ≠ k → Y' i = Y i) (h2 : Y' k = nI v) : cdh (c.set k ((c.getD k (0, 0)).1, v)) X Y' := by
  intro i hi
  rw [List.length_set] at hi
  rw [List.getD_eq_getElem?_getD, List.getElem?_set]
  by_cases q : k = i
  · rw [if_pos q, if_pos (by rw [q]; exact hi), q]
    have := h i hi
    rw [← q] at this ⊢
    exact ⟨this.1, h2⟩
  · rw [if_neg q, ← List.getD_eq_getElem?_getD, h1 i (fun z => q z.symm)]
    exact h i hi
def XE (I I' : Nat → Nat → Int32) : Prop := ∀ a k, ¬ (96 ≤ a ∧ a ≤ 99) → ¬ (a = 89 ∧ (k = 9 ∨ k = 10 ∨ k = 11 ∨ k = 13 ∨ k = 14 ∨ k = 17 ∨ k = 20 ∨ k = 23 ∨ k = 24)) → I' a k = I a k
theorem XE_r (I : Nat → Nat → Int32) : XE I I := fun _ _ _ _ => rfl
theorem XE_t {I I' I2 : Nat → Nat → Int32} (h1 : XE I I') (h2 : XE I' I2) : XE I I2 := fun a k h3 h4 => (h2 a k h3 h4).trans (h1 a k h3 h4)
theorem XE_u {I I' : Nat → Nat → Int32} (h : XE I I') {a k : Nat} {v : Int32} (h1 : (96 ≤ a ∧ a ≤ 99) ∨ (a = 89 ∧ (k = 9 ∨ k = 10 ∨ k = 11 ∨ k = 13 ∨ k = 14 ∨ k = 17 ∨ k = 20 ∨ k = 23 ∨ k = 24))) : XE I (u2 I' a k v) := by
  intro b j h3 h4
  rw [show u2 I' a k v b j = I' b j from if_neg (by rintro ⟨rfl, rfl⟩; exact h1.elim h3 h4)]
  exact h b j h3 h4
/-- pile and code -/
def SC (q c : List (Nat × Nat)) (I : Nat → Nat → Int32) : Prop := I 89 23 = nI q.length ∧ plh q (I 98) (I 99) ∧ I 89 17 = nI c.length ∧ cdh c (I 96) (I 97)
/-- only pile and code change -/
def XS (I I' : Nat → Nat → Int32) : Prop := ∀ a k, ¬ (96 ≤ a ∧ a ≤ 99) → ¬ (a = 89 ∧ (k = 17 ∨ k = 23)) → I' a k = I a k
theorem XS_r (I : Nat → Nat → Int32) : XS I I := fun _ _ _ _ => rfl
theorem XS_t {I I' I2 : Nat → Nat → Int32} (h1 : XS I I') (h2 : XS I' I2) : XS I I2 := fun a k h3 h4 => (h2 a k h3 h4).trans (h1 a k h3 h4)
theorem XS_u {I I' : Nat → Nat → Int32} (h : XS I I') {a k : Nat} {v : Int32} (h1 : (96 ≤ a ∧ a ≤ 99) ∨ (a = 89 ∧ (k = 17 ∨ k = 23))) : XS I (u2 I' a k v) := by
  intro b j h3 h4
  rw [show u2 I' a k v b j = I' b j from if_neg (by rintro ⟨rfl, rfl⟩; exact h1.elim h3 h4)]
  exact h b j h3 h4
theorem XS_E {I I' : Nat → Nat → Int32} (h : XS I I') : XE I I' := fun a k h3 h4 => h a k h3 (by omega)
section STL
variable {d : Nat} {g : aG} {I : Nat → Nat → Int32} {J : Nat → Nat → Int64} {Q : aQ}
theorem c_emit (hg : Geo g) {q c : List (Nat × Nat)} {o x : Nat} (hS : SC q c I) (hc : c.length < 400) (hQ : ∀ I', XS I I' → SC q (c ++ [(o, x)]) I' → Q none (g, I', J)) : a_call aTab aMX (d + 1) m_Mo_emit [.ref 89, .int (nI o), .int (nI x)] (g, I, J) Q := by
  obtain ⟨s1, s2, s3, s4⟩ := hS
  rw [e_Mo_emit, b_Mo_emit_0 hg, s3, ncl (by omega), u2_a (by decide), s3, ncl (by omega), u2_a (by decide), u2_a (by decide), s3, nadd]
  have hv : vp_in (nI c.length) 400 := by rw [nvi hc (by omega)]; trivial
  refine ⟨hv, hv, hQ _ (XS_u (XS_u (XS_u (XS_r I) (by omega)) (by omega)) (by omega)) ⟨?_, ?_, ?_, ?_⟩⟩
  · rw [u2_k (by decide), u2_a (by decide), u2_a (by decide)]; exact s1
  · rw [u2_r (by decide), u2_r (by decide), u2_r (by decide), u2_r (by decide), u2_r (by decide), u2_r (by decide)]; exact s2
  · rw [u2_s, List.length_append, List.length_singleton]
  · refine cdh_a (x := (o, x)) s4 (fun i hi => ⟨?_, ?_⟩) ⟨?_, ?_⟩
    · rw [u2_a (by decide), u2_a (by decide), u2_k (by omega)]
    · rw [u2_a (by decide), u2_k (by omega), u2_a (by decide)]
    · rw [u2_a (by decide), u2_a (by decide), u2_s]
    · rw [u2_a (by decide), u2_s]
theorem c_push (hg : Geo g) {q c : List (Nat × Nat)} {o x : Nat} (hS : SC q c I) (hc : q.length < 400) (hQ : ∀ I', XS I I' → SC ((o, x) :: q) c I' → Q none (g, I', J)) : a_call aTab aMX (d + 1) m_Mo_push [.ref 89, .int (nI o), .int (nI x)] (g, I, J) Q := by
  obtain ⟨s1, s2, s3, s4⟩ := hS
  rw [e_Mo_push, b_Mo_push_0 hg, s1, ncl (by omega), u2_a (by decide), s1, ncl (by omega), u2_a (by decide), u2_a (by decide), s1, nadd]
  have hv : vp_in (nI q.length) 400 := by rw [nvi hc (by omega)]; trivial
  refine ⟨hv, hv, hQ _ (XS_u (XS_u (XS_u (XS_r I) (by omega)) (by omega)) (by omega)) ⟨?_, ⟨?_, ?_, ?_⟩, ?_, ?_⟩⟩
  · rw [u2_s, List.length_cons]
  · rw [u2_a (by decide), u2_a (by decide), u2_s]
  · rw [u2_a (by decide), u2_s]
  · refine plh_c (fun i hi => ⟨?_, ?_⟩) s2
    · rw [u2_a (by decide), u2_a (by decide), u2_k (by omega)]
    · rw [u2_a (by decide), u2_k (by omega), u2_a (by decide)]
  · rw [u2_k (by decide), u2_a (by decide), u2_a (by decide)]; exact s3
  · rw [u2_r (by decide), u2_r (by decide), u2_r (by decide), u2_r (by decide), u2_r (by decide), u2_r (by decide)]; exact s4
theorem c_binds {o : Nat} (ho : o ≤ 31) : a_call aTab aMX (d + 1) m_Mo_binds [.int (nI o)] (g, I, J) Q = Q (some (.int (nI (bnd o)))) (g, I, J) := by
  rw [e_Mo_binds, b_Mo_binds_0, rlt (by omega) (by omega)]
  unfold bnd
  by_cases h1 : 30 ≤ o
  · rw [if_neg (by omega), if_pos h1, b_Mo_binds_6, b_Mo_binds_62]
  rw [if_pos (by omega), if_neg h1, b_Mo_binds_10, req (by omega) (by omega)]
  by_cases h2 : o = 29
  · rw [if_pos h2, if_pos h2, b_Mo_binds_16, b_Mo_binds_62]
  rw [if_neg h2, if_neg h2, b_Mo_binds_20, req (by omega) (by omega)]
  by_cases h3 : o = 28
  · rw [if_pos h3, if_pos h3, b_Mo_binds_26, b_Mo_binds_62]
  rw [if_neg h3, if_neg h3, b_Mo_binds_30, req (by omega) (by omega)]
  by_cases h4 : o = 27
  · rw [if_pos h4, if_pos h4, b_Mo_binds_36, b_Mo_binds_62]
  rw [if_neg h4, if_neg h4, b_Mo_binds_40, rlt (by omega) (by omega)]
  by_cases h5 : 24 ≤ o
  · rw [if_neg (by omega), if_pos h5, b_Mo_binds_46, b_Mo_binds_62]
  rw [if_pos (by omega), if_neg h5, b_Mo_binds_50, rlt (by omega) (by omega)]
  by_cases h6 : 22 ≤ o
  · rw [if_neg (by omega), if_pos h6, b_Mo_binds_56, b_Mo_binds_62]
  · rw [if_pos (by omega), if_neg h6, b_Mo_binds_61, b_Mo_binds_62]
theorem bnd_le (o : Nat) : bnd o ≤ 6 := by
  unfold bnd
  split
  · decide
  · split
    · decide
    · split
      · decide
      · split
        · decide
        · split
          · decide
          · split <;> decide
theorem c_settle (hg : Geo g) {l : Nat} (hl : l ≤ 6) : ∀ (q c : List (Nat × Nat)) (I : Nat → Nat → Int32), SC q c I → PV q → q.length + c.length ≤ 400 → (∀ I', XS I I' → SC (stl l q c).1 (stl l q c).2 I' → Q none (g, I', J)) → a_wp aTab aMX (d + 1) m_Mo_settle 0 [.ref 89, .int (nI l)] [] (g, I, J) Q
  | [], c, I, hS, _, _, hQ => by
    rw [b_Mo_settle_0 hg, hS.1, rlf (by decide) (by decide) (by decide), b_Mo_settle_101]
    exact hQ I (XS_r I) hS
  | x :: q, c, I, hS, hV, hs, hQ => by
    obtain ⟨s1, s2, s3, s4⟩ := hS
    have hx := hV x List.mem_cons_self
    have hq : PV q := fun y hy => hV y (List.mem_cons_of_mem _ hy)
    rw [List.length_cons] at s1 hs
    have hb := bnd_le x.1
    have hv : vp_in (nI q.length) 400 := by rw [nvi (show q.length < 400 by omega) (by omega)]; trivial
    rw [b_Mo_settle_0 hg, s1, rlt2 (by omega) (by omega) (by omega), b_Mo_settle_7 hg, s1, nsub (by omega), Nat.add_sub_cancel, ncl (by omega), s2.1, c_binds hx.2.1]
    refine ⟨hv, ?_⟩
    simp only [exI]
    rw [b_Mo_settle_21, rlt (by omega) (by omega)]
    unfold stl at hQ
    by_cases h1 : bnd x.1 < l
    · rw [if_pos h1] at hQ
      rw [if_pos h1, b_Mo_settle_101]
      exact hQ I (XS_r I) ⟨by rw [List.length_cons]; exact s1, s2, s3, s4⟩
    rw [if_neg h1] at hQ
    rw [if_neg h1, b_Mo_settle_25 hg, s1, nsub (by omega), Nat.add_sub_cancel, u2_s, ncl (by omega)]
    have e98 : u2 I 89 23 (nI q.length) 98 q.length = nI x.1 := by rw [u2_a (by decide)]; exact s2.1
    have e99 : u2 I 89 23 (nI q.length) 99 q.length = nI x.2 := by rw [u2_a (by decide)]; exact s2.2.1
    have e23 : u2 I 89 23 (nI q.length) 89 23 = nI q.length := u2_s
    have e17 : u2 I 89 23 (nI q.length) 89 17 = nI c.length := by rw [u2_k (by decide)]; exact s3
    have eS : SC q c (u2 I 89 23 (nI q.length)) := ⟨u2_s, by rw [u2_r (by decide), u2_r (by decide)]; exact s2.2.2, e17, by rw [u2_r (by decide), u2_r (by decide)]; exact s4⟩
    have eX : XS I (u2 I 89 23 (nI q.length)) := XS_u (XS_r I) (by omega)
    generalize u2 I 89 23 (nI q.length) = I1 at *
    rw [e98, req (by omega) (by omega)]
    refine ⟨hv, ?_⟩
    have at63 : (x.1 = 28 ∨ x.1 = 29) → a_wp aTab aMX (d + 1) m_Mo_settle 63 [.ref 89, .int (nI l)] [] (g, I1, J) Q := by
      intro h3
      rw [if_pos h3] at hQ
      rw [b_Mo_settle_63 hg, e23, ncl (by omega), e99, ncl (by omega), e17]
      refine ⟨hv, by rw [nvi hx.2.2 (by omega)]; trivial, ?_⟩
      refine c_settle hg hl q _ _ ⟨?_, ?_, ?_, ?_⟩ hq (by rw [List.length_set]; omega) (fun I' g1 g2 => hQ I' (XS_t (XS_u eX (by omega)) g1) g2)
      · rw [u2_a (by decide)]; exact eS.1
      · rw [u2_r (by decide), u2_r (by decide)]; exact eS.2.1
      · rw [u2_a (by decide), List.length_set]; exact e17
      · rw [u2_r (show 96 ≠ 97 by decide)]
        exact cdh_s eS.2.2.2 (fun i hi => u2_k hi) u2_s
    by_cases h28 : x.1 = 28
    · rw [if_pos h28]; exact at63 (Or.inl h28)
    rw [if_neg h28, b_Mo_settle_49 hg, e23, ncl (by omega), e98, req (by omega) (by omega)]
    refine ⟨hv, ?_⟩
    by_cases h29 : x.1 = 29
    · rw [if_pos h29]; exact at63 (Or.inr h29)
    rw [if_neg (by omega)] at hQ
    rw [if_neg h29, b_Mo_settle_84 hg, e23, ncl (by omega), e98]
    refine ⟨hv, c_emit hg eS (by omega) ?_⟩
    intro I2 g1 g2
    simp only [exV, true_and]
    rw [b_Mo_settle_98]
    exact c_settle hg hl q _ I2 g2 hq (by rw [List.length_append, List.length_singleton]; omega) (fun I' g3 g4 => hQ I' (XS_t (XS_t eX g1) g3) g4)
theorem c_settleC (hg : Geo g) {l : Nat} (hl : l ≤ 6) {q c : List (Nat × Nat)} (hS : SC q c I) (hV : PV q) (hs : q.length + c.length ≤ 400) (hQ : ∀ I', XS I I' → SC (stl l q c).1 (stl l q c).2 I' → Q none (g, I', J)) : a_call aTab aMX (d + 2) m_Mo_settle [.ref 89, .int (nI l)] (g, I, J) Q := by
  rw [e_Mo_settle]
  exact c_settle hg hl q c I hS hV hs hQ
def innI : Option Nat → Int32
  | none => -1
  | some o => nI o
theorem plh_at {X Y : Nat → Int32} : ∀ {q : List (Nat × Nat)}, plh q X Y → ∀ i, i < q.length → X i = nI (q.getD (q.length - 1 - i) (0, 0)).1
  | [], _, i, hi => absurd hi (Nat.not_lt_zero _)
  | x :: q, h, i, hi => by
    rw [List.length_cons] at hi ⊢
    by_cases z : i = q.length
    · rw [z, show q.length + 1 - 1 - q.length = 0 by omega]; exact h.1
    · rw [plh_at h.2.2 i (by omega), show q.length + 1 - 1 - i = (q.length - 1 - i) + 1 by omega]; rfl
theorem c_inner (hg : Geo g) {q c : List (Nat × Nat)} (hS : SC q c I) (hV : PV q) (hl : q.length ≤ 400) : a_call aTab aMX (d + 1) m_Mo_inner [.ref 89] (g, I, J) Q = Q (some (.int (innI (inn q)))) (g, I, J) := by
  obtain ⟨s1, s2, s3, s4⟩ := hS
  apply propext
  rw [e_Mo_inner, b_Mo_inner_0]
  have key : ∀ (s t : List (Nat × Nat)), q = t ++ s → (a_wp aTab aMX d m_Mo_inner 4 [.ref 89, .int (innI (inn s)), .int (nI s.length)] [] (g, I, J) Q ↔ Q (some (.int (innI (inn q)))) (g, I, J)) := by
    intro s t
    induction hm : t.length generalizing s t with
    | zero =>
      intro e
      have ht : t = [] := List.length_eq_zero_iff.1 hm
      rw [ht, List.nil_append] at e
      rw [b_Mo_inner_4 hg, s1, ← e, rlf (by omega) (by omega) (by omega), b_Mo_inner_40]
    | succ m ih =>
      intro e
      obtain ⟨t', x, ht⟩ : ∃ t' x, t = t' ++ [x] := by
        rcases List.eq_nil_or_concat t with w | ⟨L, b, w⟩
        · rw [w] at hm; cases hm
        · exact ⟨L, b, by rw [w, List.concat_eq_append]⟩
      rw [ht, List.length_append, List.length_singleton] at hm
      rw [ht, List.append_assoc] at e
      have e : q = t' ++ (x :: s) := e
      have hxq : x ∈ q := by rw [e]; exact List.mem_append_right _ List.mem_cons_self
      have hx := hV x hxq
      have hlen : q.length = t'.length + (s.length + 1) := by rw [e, List.length_append, List.length_cons]
      have ex : I 98 s.length = nI x.1 := by
        rw [plh_at s2 s.length (by omega), e, gapp, List.length_append, List.length_cons, if_neg (by omega), show t'.length + (s.length + 1) - 1 - s.length - t'.length = 0 by omega]
        rfl
      rw [b_Mo_inner_4 hg, s1, rlt2 (by omega) (by omega) (by omega), b_Mo_inner_12 hg, ncl (by omega), ex, rlt (by omega) (by omega)]
      simp (disch := omega) only [nvi, true_and]
      have ih := ih (x :: s) t' (by omega) e
      rw [List.length_cons] at ih
      by_cases h30 : 30 ≤ x.1
      · have ei : inn (x :: s) = some x.1 := if_pos h30
        rw [if_neg (by omega), b_Mo_inner_23 hg, ncl (by omega), ex, b_Mo_inner_33, nadd]
        simp (disch := omega) only [nvi, true_and]
        rw [ei] at ih
        exact ih
      · have ei : inn (x :: s) = inn s := if_neg h30
        rw [if_pos (by omega), b_Mo_inner_32, b_Mo_inner_33, nadd]
        rw [ei] at ih
        exact ih
  exact key [] q (by rw [List.append_nil])
theorem c_isCompared (hg : Geo g) {c : List (Nat × Nat)} : ∀ {q : List (Nat × Nat)}, (∃ r, SC (r ++ q) c I ∧ PV (r ++ q) ∧ (r ++ q).length ≤ 400) → (a_wp aTab aMX (d + 1) m_Mo_isCompared 7 [.ref 89, .int (nI q.length - nI 1)] [] (g, I, J) Q ↔ Q (some (.int (bi (cmpd q)))) (g, I, J)) := by
  intro q
  induction q with
  | nil =>
    rintro ⟨r, hS, hV, hl⟩
    rw [List.length_nil, b_Mo_isCompared_7, if_pos (show nI 0 - nI 1 < nI 0 by decide), b_Mo_isCompared_36, if_pos (show nI 0 - nI 1 < nI 0 by decide), b_Mo_isCompared_63, b_Mo_isCompared_64]
    exact ⟨fun w => w.2, fun w => ⟨by decide, w⟩⟩
  | cons x q ih =>
    rintro ⟨r, hS, hV, hl⟩
    obtain ⟨s1, s2, s3, s4⟩ := hS
    have hxq : x ∈ r ++ x :: q := List.mem_append_right _ List.mem_cons_self
    have hx := hV x hxq
    have hlen : (r ++ x :: q).length = r.length + (q.length + 1) := by rw [List.length_append, List.length_cons]
    rw [hlen] at hl
    have ex : I 98 q.length = nI x.1 := by
      rw [plh_at s2 q.length (by omega), gapp, hlen, if_neg (by omega), show r.length + (q.length + 1) - 1 - q.length - r.length = 0 by omega]
      rfl
    have hn0 : ¬ nI q.length < nI 0 := by rw [nlt (by omega) (by omega)]; omega
    have e20 : decide (¬ (nI x.1).toInt64 < lN 20 ∧ ¬ lN 23 < (nI x.1).toInt64) = decide (x.1 ≤ 23) := by
      rw [nL (by omega), decide_eq_decide, lN_lt (by omega) (by omega), lN_lt (by omega) (by omega)]; omega
    have e24 : decide (¬ (nI x.1).toInt64 < lN 24 ∧ ¬ lN 26 < (nI x.1).toInt64) = decide (24 ≤ x.1 ∧ x.1 ≤ 26) := by
      rw [nL (by omega), decide_eq_decide, lN_lt (by omega) (by omega), lN_lt (by omega) (by omega)]; omega
    have hv : vp_in (nI q.length) 400 := by rw [nvi (show q.length < 400 by omega) (by omega)]; trivial
    rw [List.length_cons, nsub (by omega), Nat.add_sub_cancel, b_Mo_isCompared_7, if_neg hn0, b_Mo_isCompared_11 hg, ncl (by omega), ex, c_in, e20]
    simp only [exI, hv, true_and]
    rw [b_Mo_isCompared_27]
    by_cases h23 : x.1 ≤ 23
    · have ec : cmpd (x :: q) = cmpd q := if_pos h23
      rw [decide_eq_true h23, if_neg (by decide), b_Mo_isCompared_30, ec, show nI q.length + (-1 : Int32) = nI q.length - nI 1 by rw [Int32.sub_eq_add_neg]; rfl]
      refine ih ⟨r ++ [x], ?_, ?_, ?_⟩
      · rw [List.append_assoc]; exact ⟨s1, s2, s3, s4⟩
      · rw [List.append_assoc]; exact hV
      · rw [List.append_assoc]; show (r ++ x :: q).length ≤ 400; omega
    · have ec : cmpd (x :: q) = decide (x.1 ≤ 26) := if_neg h23
      rw [decide_eq_false h23, if_pos bi_F, b_Mo_isCompared_36, if_neg hn0, b_Mo_isCompared_40 hg, ncl (by omega), ex, c_in, e24, ec]
      simp only [exI, hv, true_and]
      rw [b_Mo_isCompared_56]
      by_cases h26 : x.1 ≤ 26
      · rw [decide_eq_true (show 24 ≤ x.1 ∧ x.1 ≤ 26 by omega), decide_eq_true h26, if_neg (by decide), b_Mo_isCompared_59, b_Mo_isCompared_64]
        exact ⟨fun w => w.2, fun w => ⟨by decide, w⟩⟩
      · rw [decide_eq_false (show ¬ (24 ≤ x.1 ∧ x.1 ≤ 26) by omega), decide_eq_false h26, if_pos bi_F, b_Mo_isCompared_63, b_Mo_isCompared_64]
        exact ⟨fun w => w.2, fun w => ⟨by decide, w⟩⟩
theorem c_isComp (hg : Geo g) {q c : List (Nat × Nat)} (hS : SC q c I) (hV : PV q) (hl : q.length ≤ 400) : a_call aTab aMX (d + 2) m_Mo_isCompared [.ref 89] (g, I, J) Q = Q (some (.int (bi (cmpd q)))) (g, I, J) := by
  rw [e_Mo_isCompared, b_Mo_isCompared_0 hg, hS.1]
  exact propext (c_isCompared hg ⟨[], hS, hV, hl⟩)
end STL
