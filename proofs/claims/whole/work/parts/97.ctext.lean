/-! ===== the class reads a text ===== -/
theorem gq {α : Type} {L : List α} {x w : α} {i : Nat} (h : (L ++ [x])[i]? = some w) : (i < L.length ∧ L[i]? = some w) ∨ (i = L.length ∧ w = x) := by
  rw [List.getElem?_append] at h
  split at h
  · rename_i q; exact Or.inl ⟨q, h⟩
  · rename_i q
    right
    have hl : i - L.length < [x].length := by
      apply Classical.byContradiction
      intro z
      rw [List.getElem?_eq_none (by omega)] at h
      cases h
    have hl : i - L.length < 1 := hl
    have : i - L.length = 0 := by omega
    rw [this] at h
    have h : some x = some w := h
    cases h
    exact ⟨by omega, rfl⟩
def LWc (l : List aLw) (I : Nat → Nat → Int32) : Prop := ∀ i w, l[i]? = some w → I 25 i = nI w.1 ∧ I 26 i = nI w.2.1.1 ∧ I 27 i = nI w.2.1.2.1 ∧ I 28 i = nI w.2.1.2.2
def MVc (l : List aMv) (I : Nat → Nat → Int32) : Prop := ∀ i w, l[i]? = some w → I 31 (6 * i) = nI w.1 ∧ I 31 (6 * i + 1) = nI w.2.1 ∧ I 31 (6 * i + 2) = nI w.2.2.1 ∧ I 31 (6 * i + 3) = nI w.2.2.2.1 ∧ I 31 (6 * i + 4) = nI w.2.2.2.2.1 ∧ I 31 (6 * i + 5) = nI w.2.2.2.2.2
def CT (B : Nat → Nat) (n : Nat) (s : aT) (I : Nat → Nat → Int32) : Prop := RD B n s.1 s.2.1 s.2.2.1.length I ∧ hC s.2.2.1 0 (I 29) ∧ I 24 1 = nI s.2.2.2.2.2.length ∧ I 23 4 = nI s.2.2.2.2.1.length ∧ LWc s.2.2.2.2.2 I ∧ MVc s.2.2.2.2.1 I
def FT (I I' : Nat → Nat → Int32) : Prop := ∀ a, ¬ (23 ≤ a ∧ a ≤ 31) → I' a = I a
theorem FT_t {I I' I2 : Nat → Nat → Int32} (h1 : FT I I') (h2 : FT I' I2) : FT I I2 := fun a h => (h2 a h).trans (h1 a h)
theorem FT_r (I : Nat → Nat → Int32) : FT I I := fun _ _ => rfl
def XMv (k : Nat) (I I' : Nat → Nat → Int32) : Prop := ∀ a j, ¬ (a = 23 ∧ (6 ≤ j ∧ j ≤ 9)) → ¬ (a = 31 ∧ 6 * k ≤ j ∧ j < 6 * k + 6) → I' a j = I a j
theorem XMv_t {k : Nat} {I I' I2 : Nat → Nat → Int32} (h1 : XMv k I I') (h2 : XMv k I' I2) : XMv k I I2 := fun a j h3 h4 => (h2 a j h3 h4).trans (h1 a j h3 h4)
theorem XMv_F {k : Nat} {I I' : Nat → Nat → Int32} (h : XMv k I I') : FT I I' := fun a ha => funext (fun j => h a j (by omega) (by omega))
section CTX
variable {g : aG} {B : Nat → Nat} {n : Nat} {I : Nat → Nat → Int32} {J : Nat → Nat → Int64} {Q : aQ}
theorem XMv_adv {k : Nat} {I' : Nat → Nat → Int32} (h : ∀ a k, ¬ (a = 23 ∧ (k = 6 ∨ k = 7 ∨ k = 8 ∨ k = 9)) → I' a k = I a k) : XMv k I I' := fun a j h1 _ => h a j (by omega)
theorem c_tnum (hg : Geo g) (hB : ∀ i, B i ≤ 255) (hn : n ≤ 400) {D lo hi k i p lv u : Nat} (hD : 3 ≤ D) (hlo : lo ≤ 1000) (hhi : hi ≤ 1000) (hk : k < 24) (hi6 : 6 * k ≤ i ∧ i < 6 * k + 6) (hp : p ≤ n) (hR : RD B n p lv u I) (h0 : ∀ q, pNum B n lo hi p = .inl q → Q (some (.int (nI 0))) (g, u2 I 23 1 (nI q), J)) (h1 : ∀ w, pNum B n lo hi p = .inr w → ∀ I', XMv k I I' → (∀ j, j ≠ i → I' 31 j = I 31 j) → RD B n w.1 lv u I' → I' 31 i = nI w.2 → Q (some (.int (nI 1))) (g, I', J)) : a_call aTab aMX D m_Reader_takeNumber [.ref 23, .int (nI lo), .int (nI hi), .int (nI i)] (g, I, J) Q := by
  obtain ⟨e, rfl⟩ : ∃ e, D = e + 1 := ⟨D - 1, by omega⟩
  have ht := tk_le (n := n) (p := p) hB
  have hv : nv B n p ≤ 100000 := vv_le _ _ _
  unfold pNum at h0 h1
  have bad : ¬ (tk B n p = 257 ∧ lo ≤ nv B n p ∧ nv B n p ≤ hi) → ∀ v1 v2 v3, a_wp aTab aMX e m_Reader_takeNumber 26 [.ref 23, v1, v2, v3] [] (g, I, J) Q := by
    intro q v1 v2 v3
    rw [if_neg q] at h0
    rw [b_Reader_takeNumber_26 hg]
    refine c_rfail hg (by omega) hR.1.2.1 ?_
    simp only [exI]
    rw [b_Reader_takeNumber_30]
    exact ⟨by decide, h0 _ rfl⟩
  rw [e_Reader_takeNumber, b_Reader_takeNumber_0 hg, hR.1.1, req (by omega) (by omega)]
  by_cases q1 : tk B n p = 257
  rotate_left
  · rw [if_neg q1]; exact bad (fun z => q1 z.1) _ _ _
  rw [if_pos q1, b_Reader_takeNumber_10 hg, hR.1.2.2.2, rlt (by omega) (by omega)]
  by_cases q2 : nv B n p < lo
  · rw [if_pos q2]; exact bad (fun z => by omega) _ _ _
  rw [if_neg q2, b_Reader_takeNumber_18 hg, hR.1.2.2.2, rlt (by omega) (by omega)]
  by_cases q3 : hi < nv B n p
  · rw [if_pos q3]; exact bad (fun z => by omega) _ _ _
  rw [if_pos ⟨q1, by omega, by omega⟩] at h1
  rw [if_neg q3, b_Reader_takeNumber_31 hg, ncl (by omega), hR.1.2.2.2]
  refine ⟨by rw [nvi (show i < 144 by omega) (by omega)]; trivial, ?_⟩
  refine c_radv hg hB hn (by omega) hp (RD_u (a := 31) (k := i) (v := nI (nv B n p)) hR (by omega) (by omega) (by omega)) ?_
  intro I2 g1 g2
  simp only [exV, true_and]
  rw [b_Reader_takeNumber_45]
  refine h1 _ rfl I2 (fun a j y1 y2 => ?_) (fun j hj => ?_) g2 ?_
  · rw [g1 a j (by omega), show u2 I 31 i (nI (nv B n p)) a j = I a j from if_neg (by omega)]
  · rw [g1 31 j (by omega), u2_k hj]
  · rw [g1 31 i (by omega), u2_s]
theorem CT_m {s : aT} {I' : Nat → Nat → Int32} {k : Nat} (hk : k = s.2.2.2.2.1.length) (h : CT B n s I) (hX : XMv k I I') : hC s.2.2.1 0 (I' 29) ∧ I' 24 1 = nI s.2.2.2.2.2.length ∧ I' 23 4 = nI s.2.2.2.2.1.length ∧ LWc s.2.2.2.2.2 I' ∧ MVc s.2.2.2.2.1 I' := by
  obtain ⟨h1, h2, h3, h4, h5, h6⟩ := h
  refine ⟨fun i hi => ?_, ?_, ?_, fun i w hw => ?_, fun i w hw => ?_⟩
  · rw [hX 29 _ (by omega) (by omega)]; exact h2 i hi
  · rw [hX 24 1 (by omega) (by omega)]; exact h3
  · rw [hX 23 4 (by omega) (by omega)]; exact h4
  · rw [hX 25 i (by omega) (by omega), hX 26 i (by omega) (by omega), hX 27 i (by omega) (by omega), hX 28 i (by omega) (by omega)]
    exact h5 i w hw
  · have hl : i < s.2.2.2.2.1.length := by
      apply Classical.byContradiction
      intro z
      rw [List.getElem?_eq_none (by omega)] at hw
      cases hw
    rw [hX 31 (6 * i) (by omega) (by omega), hX 31 (6 * i + 1) (by omega) (by omega), hX 31 (6 * i + 2) (by omega) (by omega), hX 31 (6 * i + 3) (by omega) (by omega), hX 31 (6 * i + 4) (by omega) (by omega), hX 31 (6 * i + 5) (by omega) (by omega)]
    exact h6 i w hw
theorem FT_u {I0 I : Nat → Nat → Int32} {a k : Nat} {v : Int32} (h : FT I0 I) (ha : 23 ≤ a ∧ a ≤ 31) : FT I0 (u2 I a k v) := fun b hb => by rw [u2_r (by omega)]; exact h b hb
theorem c_fillD {r m a b D : Nat} {v : Int32} (hD : 2 ≤ D) (hk : gK g r = 12) (hn : gN g r = m) (h : m < 2147483648) (h1 : a ≤ b) (h2 : b ≤ m) : a_call aTab aMX D m_J_fillIr [.ref r, .int (nI a), .int (nI b), .int v] (g, I, J) Q = Q none (g, fl2 I r a b v, J) := by
  obtain ⟨e, rfl⟩ : ∃ e, D = e + 2 := ⟨D - 2, by omega⟩
  exact c_fillIr hk hn h h1 h2
theorem c_readMove (hg : Geo g) (hB : ∀ i, B i ≤ 255) (hn : n ≤ 400) {D : Nat} {s : aT} (hD : 5 ≤ D) (hs : s.1 ≤ n) (hk : s.2.2.2.2.1.length < 24) (h3 : I 3 0 = nI 32) (hC : CT B n s I) (h0 : ∀ q, pMove B n s.1 = .inl q → ∀ I', FT I I' → I' 23 1 = nI q → Q (some (.int (nI 0))) (g, I', J)) (h1 : ∀ w, pMove B n s.1 = .inr w → ∀ I', FT I I' → I' 23 1 = I 23 1 → CT B n (w.1, s.2.1, s.2.2.1, s.2.2.2.1, s.2.2.2.2.1 ++ [w.2], s.2.2.2.2.2) I' → Q (some (.int (nI 1))) (g, I', J)) : a_call aTab aMX D m_Reader_readMove [.ref 23] (g, I, J) Q := by
  obtain ⟨e, rfl⟩ : ∃ e, D = e + 1 := ⟨D - 1, by omega⟩
  obtain ⟨k, ek⟩ : ∃ k, k = s.2.2.2.2.1.length := ⟨_, rfl⟩
  rw [← ek] at hk
  have h4 : I 23 4 = nI k := by rw [ek]; exact hC.2.2.2.1
  obtain ⟨p, ep⟩ : ∃ p, p = s.1 := ⟨_, rfl⟩
  obtain ⟨lv, elv⟩ : ∃ lv, lv = s.2.1 := ⟨_, rfl⟩
  obtain ⟨u, eu⟩ : ∃ u, u = s.2.2.1.length := ⟨_, rfl⟩
  have hR : RD B n p lv u I := by rw [ep, elv, eu]; exact hC.1
  rw [← ep] at hs h0 h1
  have f1 : ∀ {I1 : Nat → Nat → Int32} {q : Nat}, XMv k I I1 → FT I (u2 I1 23 1 (nI q)) ∧ u2 I1 23 1 (nI q) 23 1 = nI q := fun {I1 q} hX => ⟨FT_u (XMv_F hX) (by omega), u2_s⟩
  rw [e_Reader_readMove, b_Reader_readMove_0 hg, h4, nmul, nadd, rlf (by omega) (by omega) (by omega), b_Reader_readMove_25 hg, show k * 6 = 6 * k by omega]
  unfold pMove at h0 h1
  refine c_radv hg hB hn (by omega) hs hR ?_
  intro I1 g1 R1
  have X1 : XMv k I I1 := XMv_adv g1
  have hle := le_le (B := B) hs
  simp only [exV, true_and]
  rw [b_Reader_readMove_29 hg]
  refine c_tnum hg hB hn (by omega) (by omega) (by omega) hk ⟨Nat.le_refl _, by omega⟩ hle R1 ?_ ?_
  · intro q eq
    rw [eq] at h0
    simp only [exI]
    rw [b_Reader_readMove_37, if_pos rfl, b_Reader_readMove_40]
    exact h0 q rfl _ (f1 X1).1 (f1 X1).2
  intro a ea I2 Y2 o2 R2 v2
  rw [ea] at h0 h1
  have h0 : ∀ q, (if tk B n a.1 = 267 then thx (pNum B n a.2 11 (le B n a.1)) (fun v => pMv1 B n a.2 v.2 v.1) else pMv1 B n a.2 a.2 a.1) = .inl q → ∀ I', FT I I' → I' 23 1 = nI q → Q (some (.int (nI 0))) (g, I', J) := h0
  have h1 : ∀ w, (if tk B n a.1 = 267 then thx (pNum B n a.2 11 (le B n a.1)) (fun v => pMv1 B n a.2 v.2 v.1) else pMv1 B n a.2 a.2 a.1) = .inr w → ∀ I', FT I I' → I' 23 1 = I 23 1 → CT B n (w.1, s.2.1, s.2.2.1, s.2.2.2.1, s.2.2.2.2.1 ++ [w.2], s.2.2.2.2.2) I' → Q (some (.int (nI 1))) (g, I', J) := h1
  have na := num_le hle ea
  have X2 := XMv_t X1 Y2
  simp only [exI]
  rw [b_Reader_readMove_37, if_neg (by decide), b_Reader_readMove_42 hg, nadd, ncl (by omega), ncl (by omega), v2]
  refine ⟨by rw [nvi (show 6 * k < 144 by omega) (by omega)]; trivial, by rw [nvi (show 6 * k + 1 < 144 by omega) (by omega)]; trivial, ?_⟩
  have R3 : RD B n a.1 lv u (u2 I2 31 (6 * k + 1) (nI a.2)) := RD_u R2 (by omega) (by omega) (by omega)
  have X3 : XMv k I (u2 I2 31 (6 * k + 1) (nI a.2)) := fun b j y1 y2 => by rw [show u2 I2 31 (6 * k + 1) (nI a.2) b j = I2 b j from if_neg (by omega)]; exact X2 b j y1 y2
  have w30 : u2 I2 31 (6 * k + 1) (nI a.2) 31 (6 * k) = nI a.2 := by rw [u2_k (by omega)]; exact v2
  have w31 : u2 I2 31 (6 * k + 1) (nI a.2) 31 (6 * k + 1) = nI a.2 := u2_s
  generalize u2 I2 31 (6 * k + 1) (nI a.2) = I3 at *
  have ht := tk_le (n := n) (p := a.1) hB
  rw [R3.1.1, req (by omega) (by omega)]
  -- from the figure's number on
  have at90 : ∀ b p3 I4, p3 ≤ n → XMv k I I4 → RD B n p3 lv u I4 → I4 31 (6 * k) = nI a.2 → I4 31 (6 * k + 1) = nI b → (∀ q, pMv1 B n a.2 b p3 = .inl q → ∀ I', FT I I' → I' 23 1 = nI q → Q (some (.int (nI 0))) (g, I', J)) → (∀ w, pMv1 B n a.2 b p3 = .inr w → ∀ I', FT I I' → I' 23 1 = I 23 1 → CT B n (w.1, s.2.1, s.2.2.1, s.2.2.2.1, s.2.2.2.2.1 ++ [w.2], s.2.2.2.2.2) I' → Q (some (.int (nI 1))) (g, I', J)) → a_wp aTab aMX e m_Reader_readMove 90 [.ref 23, .int (nI (6 * k))] [] (g, I4, J) Q := by
    intro b p3 I4 hp3 X4 R4 z0 z1 h0 h1
    unfold pMv1 at h0 h1
    rw [b_Reader_readMove_90 hg, nadd]
    refine c_tnum hg hB hn (by omega) (by omega) (by omega) hk ⟨by omega, by omega⟩ hp3 R4 ?_ ?_
    · intro q eq
      rw [eq] at h0
      simp only [exI]
      rw [b_Reader_readMove_99, if_pos rfl, b_Reader_readMove_102]
      exact h0 q rfl _ (f1 X4).1 (f1 X4).2
    intro f ef I5 Y5 o5 R5 v5
    rw [ef] at h0 h1
    have h0 : ∀ q, pMv2 B n a.2 b f.2 f.1 = .inl q → ∀ I', FT I I' → I' 23 1 = nI q → Q (some (.int (nI 0))) (g, I', J) := h0
    have h1 : ∀ w, pMv2 B n a.2 b f.2 f.1 = .inr w → ∀ I', FT I I' → I' 23 1 = I 23 1 → CT B n (w.1, s.2.1, s.2.2.1, s.2.2.2.1, s.2.2.2.2.1 ++ [w.2], s.2.2.2.2.2) I' → Q (some (.int (nI 1))) (g, I', J) := h1
    unfold pMv2 at h0 h1
    have nf := num_le hp3 ef
    have X5 := XMv_t X4 Y5
    have c4 : I5 23 4 = nI k := by rw [X5 23 4 (by omega) (by omega)]; exact h4
    simp only [exI]
    rw [b_Reader_readMove_99, if_neg (by decide), b_Reader_readMove_104 hg, c4, nadd, u2_k (by decide), R5.1.1, req (by have := tk_le (n := n) (p := f.1) hB; omega) (by omega)]
    have R6 : RD B n f.1 lv u (u2 I5 23 4 (nI (k + 1))) := RD_u R5 (by omega) (by omega) (by omega)
    -- what all ends share: everything but row 31 from 6 k + 3 on, the token, and the count
    have fin : ∀ (x y dp pe : Nat) I', (∀ a j, ¬ (a = 23 ∧ (6 ≤ j ∧ j ≤ 9)) → ¬ (a = 31 ∧ 6 * k + 3 ≤ j ∧ j < 6 * k + 6) → I' a j = u2 I5 23 4 (nI (k + 1)) a j) → RD B n pe lv u I' → I' 31 (6 * k + 3) = nI x → I' 31 (6 * k + 4) = nI y → I' 31 (6 * k + 5) = nI dp → FT I I' ∧ I' 23 1 = I 23 1 ∧ CT B n (pe, s.2.1, s.2.2.1, s.2.2.2.1, s.2.2.2.2.1 ++ [(a.2, b, f.2, x, y, dp)], s.2.2.2.2.2) I' := by
      intro x y dp pe I' hX hRD hx hy hd
      have XX : ∀ a j, ¬ (a = 23 ∧ (j = 4 ∨ (6 ≤ j ∧ j ≤ 9))) → ¬ (a = 31 ∧ 6 * k ≤ j ∧ j < 6 * k + 6) → I' a j = I a j := fun a j y1 y2 => by
        rw [hX a j (by omega) (by omega), show u2 I5 23 4 (nI (k + 1)) a j = I5 a j from if_neg (by omega)]
        exact X5 a j (by omega) (by omega)
      have e31 : ∀ j, j < 6 * k + 3 → I' 31 j = I5 31 j := fun j hj => by rw [hX 31 j (by omega) (by omega), u2_a (by decide)]
      refine ⟨fun a ha => funext (fun j => XX a j (by omega) (by omega)), XX 23 1 (by omega) (by omega), ?_, fun i hi => ?_, ?_, ?_, fun i w hw => ?_, fun i w hw => ?_⟩
      · show RD B n pe s.2.1 s.2.2.1.length I'
        rw [← elv, ← eu]; exact hRD
      · rw [XX 29 _ (by omega) (by omega)]; exact hC.2.1 i hi
      · rw [XX 24 1 (by omega) (by omega)]; exact hC.2.2.1
      · show I' 23 4 = nI (s.2.2.2.2.1 ++ [(a.2, b, f.2, x, y, dp)]).length
        rw [hX 23 4 (by omega) (by omega), u2_s, List.length_append, ← ek]; rfl
      · rw [XX 25 i (by omega) (by omega), XX 26 i (by omega) (by omega), XX 27 i (by omega) (by omega), XX 28 i (by omega) (by omega)]
        exact hC.2.2.2.2.1 i w hw
      · rcases gq hw with ⟨q1, q2⟩ | ⟨q1, q2⟩
        · rw [← ek] at q1
          rw [XX 31 (6 * i) (by omega) (by omega), XX 31 (6 * i + 1) (by omega) (by omega), XX 31 (6 * i + 2) (by omega) (by omega), XX 31 (6 * i + 3) (by omega) (by omega), XX 31 (6 * i + 4) (by omega) (by omega), XX 31 (6 * i + 5) (by omega) (by omega)]
          exact hC.2.2.2.2.2 i w q2
        · rw [← ek] at q1
          rw [q2, q1]
          refine ⟨?_, ?_, ?_, hx, hy, hd⟩
          · rw [e31 _ (by omega), o5 _ (by omega)]; exact z0
          · rw [e31 _ (by omega), o5 _ (by omega)]; exact z1
          · rw [e31 _ (by omega)]; exact v5
    by_cases q7 : tk B n f.1 = 269
    · rw [if_pos q7] at h1
      rw [if_pos q7, b_Reader_readMove_124 hg, nadd, nadd]
      rw [c_fillD (by omega) (k_31 hg) (n_31 hg) (by omega) (by omega) (by omega)]
      simp only [exV, true_and]
      rw [b_Reader_readMove_139 hg]
      have R7 : RD B n f.1 lv u (fl2 (u2 I5 23 4 (nI (k + 1))) 31 (6 * k + 3) (6 * k + 6) (nI 0)) := by
        have ee : ∀ a j, a ≠ 31 → fl2 (u2 I5 23 4 (nI (k + 1))) 31 (6 * k + 3) (6 * k + 6) (nI 0) a j = u2 I5 23 4 (nI (k + 1)) a j := fun a j ha => if_neg (fun z => ha z.1)
        obtain ⟨⟨r1, r2, r3, r4⟩, r5, r6, r7, r8⟩ := R6
        exact ⟨⟨by rw [ee 23 6 (by decide)]; exact r1, by rw [ee 23 7 (by decide)]; exact r2, by rw [ee 23 8 (by decide)]; exact r3, by rw [ee 23 9 (by decide)]; exact r4⟩, by rw [ee 23 5 (by decide)]; exact r5, fun i hi => by rw [ee 30 i (by decide)]; exact r6 i hi, by rw [ee 23 10 (by decide)]; exact r7, by rw [ee 24 2 (by decide)]; exact r8⟩
      refine c_radv hg hB hn (by omega) nf.1 R7 ?_
      intro I8 g8 R8
      simp only [exV, true_and]
      rw [b_Reader_readMove_143]
      have e8 : ∀ j, 6 * k + 3 ≤ j → j < 6 * k + 6 → I8 31 j = nI 0 := fun j y1 y2 => by
        rw [g8 31 j (by omega)]
        exact if_pos ⟨rfl, y1, y2⟩
      obtain ⟨w1, w2, w3⟩ := fin 0 0 0 (le B n f.1) I8 (fun a j y1 y2 => by
        rw [g8 a j (by omega)]
        exact if_neg (fun z => y2 ⟨z.1, z.2.1, z.2.2⟩)) R8 (e8 _ (by omega) (by omega)) (e8 _ (by omega) (by omega)) (e8 _ (by omega) (by omega))
      exact h1 _ rfl I8 w1 w2 w3
    · rw [if_neg q7] at h0 h1
      rw [if_neg q7, b_Reader_readMove_145 hg]
      -- a state on the way
      have K6 : ∀ {I' : Nat → Nat → Int32} {q : Nat}, (∀ a j, ¬ (a = 23 ∧ (6 ≤ j ∧ j ≤ 9)) → ¬ (a = 31 ∧ 6 * k + 3 ≤ j ∧ j < 6 * k + 6) → I' a j = u2 I5 23 4 (nI (k + 1)) a j) → FT I (u2 I' 23 1 (nI q)) ∧ u2 I' 23 1 (nI q) 23 1 = nI q := fun {I' q} hX => ⟨FT_u (fun a ha => funext (fun j => by
        rw [hX a j (by omega) (by omega), show u2 I5 23 4 (nI (k + 1)) a j = I5 a j from if_neg (by omega)]
        exact X5 a j (by omega) (by omega))) (by omega), u2_s⟩
      have no : ∀ {I' : Nat → Nat → Int32} {q : Nat}, (∀ a j, ¬ (a = 23 ∧ (6 ≤ j ∧ j ≤ 9)) → ¬ (a = 31 ∧ 6 * k + 3 ≤ j ∧ j < 6 * k + 6) → I' a j = u2 I5 23 4 (nI (k + 1)) a j) → (∀ I', FT I I' → I' 23 1 = nI q → Q (some (.int (nI 0))) (g, I', J)) → a_wp aTab aMX e m_Reader_readMove 220 [aU, aU] [] (g, u2 I' 23 1 (nI q), J) Q := by
        intro I' q hX hq
        rw [b_Reader_readMove_220, b_Reader_readMove_221]
        exact ⟨by decide, hq _ (K6 hX).1 (K6 hX).2⟩
      have no' : ∀ {I' : Nat → Nat → Int32} {q : Nat}, (∀ a j, ¬ (a = 23 ∧ (6 ≤ j ∧ j ≤ 9)) → ¬ (a = 31 ∧ 6 * k + 3 ≤ j ∧ j < 6 * k + 6) → I' a j = u2 I5 23 4 (nI (k + 1)) a j) → (∀ I', FT I I' → I' 23 1 = nI q → Q (some (.int (nI 0))) (g, I', J)) → ∀ v0 v1, a_wp aTab aMX e m_Reader_readMove 220 [v0, v1] [] (g, u2 I' 23 1 (nI q), J) Q := by
        intro I' q hX hq v0 v1
        rw [b_Reader_readMove_220, b_Reader_readMove_221]
        exact ⟨by decide, hq _ (K6 hX).1 (K6 hX).2⟩
      have H6 : ∀ a j, ¬ (a = 23 ∧ (6 ≤ j ∧ j ≤ 9)) → ¬ (a = 31 ∧ 6 * k + 3 ≤ j ∧ j < 6 * k + 6) → u2 I5 23 4 (nI (k + 1)) a j = u2 I5 23 4 (nI (k + 1)) a j := fun _ _ _ _ => rfl
      unfold pTok at h0 h1
      refine c_rtake hg hB hn (by omega) (by omega) nf.1 R6 ?_ ?_
      · intro hne
        rw [if_neg hne] at h0
        simp only [exI]
        rw [b_Reader_readMove_152, if_pos rfl]
        exact no' H6 (h0 _ rfl) _ _
      intro heq I7 g7 R7
      rw [if_pos heq] at h0 h1
      have h0 : ∀ q, thx (pNum B n 0 31 (le B n f.1)) (fun u => thx (if tk B n u.1 = 44 then (.inr (le B n u.1) : Nat ⊕ Nat) else .inl (ls B n u.1)) (fun p7 => thx (pNum B n 0 15 p7) (fun v => thx (if tk B n v.1 = 265 then (.inr (le B n v.1) : Nat ⊕ Nat) else .inl (ls B n v.1)) (fun p9 => thx (pNum B n 1 32 p9) (fun w => (.inr (w.1, (a.2, b, f.2, u.2, v.2, w.2)) : Nat ⊕ (Nat × aMv))))))) = .inl q → ∀ I', FT I I' → I' 23 1 = nI q → Q (some (.int (nI 0))) (g, I', J) := h0
      have h1 : ∀ w, thx (pNum B n 0 31 (le B n f.1)) (fun u => thx (if tk B n u.1 = 44 then (.inr (le B n u.1) : Nat ⊕ Nat) else .inl (ls B n u.1)) (fun p7 => thx (pNum B n 0 15 p7) (fun v => thx (if tk B n v.1 = 265 then (.inr (le B n v.1) : Nat ⊕ Nat) else .inl (ls B n v.1)) (fun p9 => thx (pNum B n 1 32 p9) (fun w => (.inr (w.1, (a.2, b, f.2, u.2, v.2, w.2)) : Nat ⊕ (Nat × aMv))))))) = .inr w → ∀ I', FT I I' → I' 23 1 = I 23 1 → CT B n (w.1, s.2.1, s.2.2.1, s.2.2.2.1, s.2.2.2.2.1 ++ [w.2], s.2.2.2.2.2) I' → Q (some (.int (nI 1))) (g, I', J) := h1
      have hl7 := le_le (B := B) nf.1
      have H7 : ∀ a j, ¬ (a = 23 ∧ (6 ≤ j ∧ j ≤ 9)) → ¬ (a = 31 ∧ 6 * k + 3 ≤ j ∧ j < 6 * k + 6) → I7 a j = u2 I5 23 4 (nI (k + 1)) a j := fun a j y1 y2 => g7 a j (by omega)
      simp only [exI]
      rw [b_Reader_readMove_152, if_neg (by decide), b_Reader_readMove_155 hg, nadd]
      refine c_tnum hg hB hn (by omega) (by omega) (by omega) hk ⟨by omega, by omega⟩ hl7 R7 ?_ ?_
      · intro q eq
        rw [eq] at h0
        simp only [exI]
        rw [b_Reader_readMove_165, if_pos rfl]
        exact no' H7 (h0 q rfl) _ _
      intro x ex I8 Y8 o8 R8 v8
      rw [ex] at h0 h1
      have h0 : ∀ q, thx (if tk B n x.1 = 44 then (.inr (le B n x.1) : Nat ⊕ Nat) else .inl (ls B n x.1)) (fun p7 => thx (pNum B n 0 15 p7) (fun v => thx (if tk B n v.1 = 265 then (.inr (le B n v.1) : Nat ⊕ Nat) else .inl (ls B n v.1)) (fun p9 => thx (pNum B n 1 32 p9) (fun w => (.inr (w.1, (a.2, b, f.2, x.2, v.2, w.2)) : Nat ⊕ (Nat × aMv)))))) = .inl q → ∀ I', FT I I' → I' 23 1 = nI q → Q (some (.int (nI 0))) (g, I', J) := h0
      have h1 : ∀ w, thx (if tk B n x.1 = 44 then (.inr (le B n x.1) : Nat ⊕ Nat) else .inl (ls B n x.1)) (fun p7 => thx (pNum B n 0 15 p7) (fun v => thx (if tk B n v.1 = 265 then (.inr (le B n v.1) : Nat ⊕ Nat) else .inl (ls B n v.1)) (fun p9 => thx (pNum B n 1 32 p9) (fun w => (.inr (w.1, (a.2, b, f.2, x.2, v.2, w.2)) : Nat ⊕ (Nat × aMv)))))) = .inr w → ∀ I', FT I I' → I' 23 1 = I 23 1 → CT B n (w.1, s.2.1, s.2.2.1, s.2.2.2.1, s.2.2.2.2.1 ++ [w.2], s.2.2.2.2.2) I' → Q (some (.int (nI 1))) (g, I', J) := h1
      have nx := num_le hl7 ex
      have H8 : ∀ a j, ¬ (a = 23 ∧ (6 ≤ j ∧ j ≤ 9)) → ¬ (a = 31 ∧ 6 * k + 3 ≤ j ∧ j < 6 * k + 6) → I8 a j = u2 I5 23 4 (nI (k + 1)) a j := fun a j y1 y2 => by
        by_cases y : a = 31
        · rw [y, o8 j (by omega), ← y]; exact H7 a j y1 y2
        · rw [Y8 a j y1 (by omega)]; exact H7 a j y1 y2
      simp only [exI]
      rw [b_Reader_readMove_165, if_neg (by decide), b_Reader_readMove_168 hg]
      refine c_rtake hg hB hn (by omega) (by omega) nx.1 R8 ?_ ?_
      · intro hne
        rw [if_neg hne] at h0
        simp only [exI]
        rw [b_Reader_readMove_174, if_pos rfl]
        exact no' H8 (h0 _ rfl) _ _
      intro heq2 I9 g9 R9
      rw [if_pos heq2] at h0 h1
      have h0 : ∀ q, thx (pNum B n 0 15 (le B n x.1)) (fun v => thx (if tk B n v.1 = 265 then (.inr (le B n v.1) : Nat ⊕ Nat) else .inl (ls B n v.1)) (fun p9 => thx (pNum B n 1 32 p9) (fun w => (.inr (w.1, (a.2, b, f.2, x.2, v.2, w.2)) : Nat ⊕ (Nat × aMv))))) = .inl q → ∀ I', FT I I' → I' 23 1 = nI q → Q (some (.int (nI 0))) (g, I', J) := h0
      have h1 : ∀ w, thx (pNum B n 0 15 (le B n x.1)) (fun v => thx (if tk B n v.1 = 265 then (.inr (le B n v.1) : Nat ⊕ Nat) else .inl (ls B n v.1)) (fun p9 => thx (pNum B n 1 32 p9) (fun w => (.inr (w.1, (a.2, b, f.2, x.2, v.2, w.2)) : Nat ⊕ (Nat × aMv))))) = .inr w → ∀ I', FT I I' → I' 23 1 = I 23 1 → CT B n (w.1, s.2.1, s.2.2.1, s.2.2.2.1, s.2.2.2.2.1 ++ [w.2], s.2.2.2.2.2) I' → Q (some (.int (nI 1))) (g, I', J) := h1
      have hl9 := le_le (B := B) nx.1
      have H9 : ∀ a j, ¬ (a = 23 ∧ (6 ≤ j ∧ j ≤ 9)) → ¬ (a = 31 ∧ 6 * k + 3 ≤ j ∧ j < 6 * k + 6) → I9 a j = u2 I5 23 4 (nI (k + 1)) a j := fun a j y1 y2 => by rw [g9 a j (by omega)]; exact H8 a j y1 y2
      simp only [exI]
      rw [b_Reader_readMove_174, if_neg (by decide), b_Reader_readMove_177 hg, nadd]
      refine c_tnum hg hB hn (by omega) (by omega) (by omega) hk ⟨by omega, by omega⟩ hl9 R9 ?_ ?_
      · intro q eq
        rw [eq] at h0
        simp only [exI]
        rw [b_Reader_readMove_187, if_pos rfl]
        exact no' H9 (h0 q rfl) _ _
      intro y ey IA YA oA' RA' vA
      rw [ey] at h0 h1
      have h0 : ∀ q, thx (if tk B n y.1 = 265 then (.inr (le B n y.1) : Nat ⊕ Nat) else .inl (ls B n y.1)) (fun p9 => thx (pNum B n 1 32 p9) (fun w => (.inr (w.1, (a.2, b, f.2, x.2, y.2, w.2)) : Nat ⊕ (Nat × aMv)))) = .inl q → ∀ I', FT I I' → I' 23 1 = nI q → Q (some (.int (nI 0))) (g, I', J) := h0
      have h1 : ∀ w, thx (if tk B n y.1 = 265 then (.inr (le B n y.1) : Nat ⊕ Nat) else .inl (ls B n y.1)) (fun p9 => thx (pNum B n 1 32 p9) (fun w => (.inr (w.1, (a.2, b, f.2, x.2, y.2, w.2)) : Nat ⊕ (Nat × aMv)))) = .inr w → ∀ I', FT I I' → I' 23 1 = I 23 1 → CT B n (w.1, s.2.1, s.2.2.1, s.2.2.2.1, s.2.2.2.2.1 ++ [w.2], s.2.2.2.2.2) I' → Q (some (.int (nI 1))) (g, I', J) := h1
      have ny := num_le hl9 ey
      have HA : ∀ a j, ¬ (a = 23 ∧ (6 ≤ j ∧ j ≤ 9)) → ¬ (a = 31 ∧ 6 * k + 3 ≤ j ∧ j < 6 * k + 6) → IA a j = u2 I5 23 4 (nI (k + 1)) a j := fun a j y1 y2 => by
        by_cases y : a = 31
        · rw [y, oA' j (by omega), ← y]; exact H9 a j y1 y2
        · rw [YA a j y1 (by omega)]; exact H9 a j y1 y2
      simp only [exI]
      rw [b_Reader_readMove_187, if_neg (by decide), b_Reader_readMove_190 hg]
      refine c_rtake hg hB hn (by omega) (by omega) ny.1 RA' ?_ ?_
      · intro hne
        rw [if_neg hne] at h0
        simp only [exI]
        rw [b_Reader_readMove_197, if_pos rfl]
        exact no' HA (h0 _ rfl) _ _
      intro heq3 IB gB RB
      rw [if_pos heq3] at h0 h1
      have h0 : ∀ q, thx (pNum B n 1 32 (le B n y.1)) (fun w => (.inr (w.1, (a.2, b, f.2, x.2, y.2, w.2)) : Nat ⊕ (Nat × aMv))) = .inl q → ∀ I', FT I I' → I' 23 1 = nI q → Q (some (.int (nI 0))) (g, I', J) := h0
      have h1 : ∀ w, thx (pNum B n 1 32 (le B n y.1)) (fun w => (.inr (w.1, (a.2, b, f.2, x.2, y.2, w.2)) : Nat ⊕ (Nat × aMv))) = .inr w → ∀ I', FT I I' → I' 23 1 = I 23 1 → CT B n (w.1, s.2.1, s.2.2.1, s.2.2.2.1, s.2.2.2.2.1 ++ [w.2], s.2.2.2.2.2) I' → Q (some (.int (nI 1))) (g, I', J) := h1
      have hlB := le_le (B := B) ny.1
      have HB : ∀ a j, ¬ (a = 23 ∧ (6 ≤ j ∧ j ≤ 9)) → ¬ (a = 31 ∧ 6 * k + 3 ≤ j ∧ j < 6 * k + 6) → IB a j = u2 I5 23 4 (nI (k + 1)) a j := fun a j y1 y2 => by rw [gB a j (by omega)]; exact HA a j y1 y2
      have e3 : IB 3 0 = nI 32 := by
        rw [HB 3 0 (by omega) (by omega), u2_a (by decide), X5 3 0 (by omega) (by omega)]; exact h3
      simp only [exI]
      rw [b_Reader_readMove_197, if_neg (by decide), b_Reader_readMove_200 hg, ncl (by decide), e3, nadd]
      refine c_tnum hg hB hn (by omega) (by omega) (by omega) hk ⟨by omega, by omega⟩ hlB RB ?_ ?_
      · intro q eq
        rw [eq] at h0
        simp only [exI]
        rw [b_Reader_readMove_213, if_pos rfl]
        exact no' HB (h0 q rfl) _ _
      intro z ez IC YC oC' RC vC
      rw [ez] at h1
      simp only [exI]
      rw [b_Reader_readMove_213, if_neg (by decide), b_Reader_readMove_216, b_Reader_readMove_221]
      have e3' : IC 31 (6 * k + 3) = nI x.2 := by rw [oC' _ (by omega), gB 31 _ (by omega), oA' _ (by omega), g9 31 _ (by omega)]; exact v8
      have e4' : IC 31 (6 * k + 4) = nI y.2 := by rw [oC' _ (by omega), gB 31 _ (by omega)]; exact vA
      obtain ⟨w1, w2, w3⟩ := fin x.2 y.2 z.2 z.1 IC (fun a j y1 y2 => by
        by_cases y : a = 31
        · rw [y, oC' j (by omega), ← y]; exact HB a j y1 y2
        · rw [YC a j y1 (by omega)]; exact HB a j y1 y2) RC e3' e4' vC
      exact ⟨by decide, h1 _ rfl IC w1 w2 w3⟩
  by_cases q6 : tk B n a.1 = 267
  · rw [if_pos q6] at h0 h1
    rw [if_pos q6, b_Reader_readMove_66 hg]
    refine c_radv hg hB hn (by omega) na.1 R3 ?_
    intro I4 g4 R4
    have X4 : XMv k I I4 := XMv_t X3 (XMv_adv g4)
    have hl4 := le_le (B := B) na.1
    have w40 : I4 31 (6 * k) = nI a.2 := by rw [g4 31 _ (by omega)]; exact w30
    simp only [exV, true_and]
    rw [b_Reader_readMove_70 hg, ncl (by omega), w40, nadd]
    refine ⟨by rw [nvi (show 6 * k < 144 by omega) (by omega)]; trivial, ?_⟩
    refine c_tnum hg hB hn (by omega) (by have := na.2.2.2; omega) (by omega) hk ⟨by omega, by omega⟩ hl4 R4 ?_ ?_
    · intro q eq
      rw [eq] at h0
      simp only [exI]
      rw [b_Reader_readMove_85, if_pos rfl, b_Reader_readMove_88]
      exact h0 q rfl _ (f1 X4).1 (f1 X4).2
    intro b eb I5 Y5 o5 R5 v5
    rw [eb] at h0 h1
    have nb := num_le hl4 eb
    simp only [exI]
    rw [b_Reader_readMove_85, if_neg (by decide)]
    exact at90 b.2 b.1 I5 nb.1 (XMv_t X4 Y5) R5 (by rw [o5 _ (by omega)]; exact w40) v5 h0 h1
  · rw [if_neg q6] at h0 h1
    rw [if_neg q6]
    exact at90 a.2 a.1 I3 na.1 X3 R3 w30 w31 h0 h1
end CTX
