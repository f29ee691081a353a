/-! ===== calls that change the scene ===== -/
theorem irng {x : Int32} {lo hi : Nat} (hlo : lo < 1000000) (hh : hi < 1000000) (h1 : ¬ x < nI lo) (h2 : ¬ nI hi < x) : ∃ m, x = nI m ∧ lo ≤ m ∧ m ≤ hi := by
  rcases nIx x (hi + 1) (by omega) with w | ⟨w1, w2⟩ | ⟨m, w1, w2⟩
  · exfalso
    apply h1
    rw [fa_lt, nI_toInt (by omega)] at w ⊢
    omega
  · exfalso
    rw [fa_lt, nI_toInt (by omega)] at w2 h2
    omega
  · refine ⟨m, w2, ?_, by omega⟩
    rw [w2, nlt (by omega) (by omega)] at h1
    omega
section CAL
variable {N : Nat} {X : Nat → Int32} {ow : Nat → Nat} {S : Nat → Nat → Nat} {LF : aLF} {g : aG} {I : Nat → Nat → Int32} {J : Nat → Nat → Int64} {Q : aQ} {d : Nat}
/-- status, counts of refusals, and what was reckoned -/
theorem INV_fr {I' : Nat → Nat → Int32} (h : INV N X ow S LF g I J) (hr : ∀ a, a ≠ 6 → a ≠ 88 → a ≠ 89 → a ≠ 90 → I' a = I a) (h89 : ∀ j, j ≠ 0 → j ≠ 1 → j ≠ 36 → I' 89 j = I 89 j) (h11 : I' 6 11 = I 6 11) (hs : SCA I') (h36 : I' 89 36 = nI 0 ∨ I' 89 36 = I 89 36) : INV N X ow S LF g I' J := by
  obtain ⟨h1, h2, ⟨h3, h4, h5⟩, h6, ⟨B, t, t1, t2, t3, t4, t5⟩, -, ⟨c1, c2, c3, c4, c5⟩, h9⟩ := h
  have hW : I' 91 = I 91 := hr 91 (by decide) (by decide) (by decide) (by decide)
  have r : ∀ a, a ≠ 6 → ¬ (88 ≤ a ∧ a ≤ 90) → I' a = I a := fun a y1 y2 => hr a y1 (by omega) (by omega) (by omega)
  refine ⟨h1, by rw [r 1 (by decide) (by decide)]; exact h2, ⟨⟨fun a j y1 y2 => by rw [r a (by omega) (by omega)]; exact h3.1 a j y1 y2, h3.2⟩, by rw [hW, r 14 (by decide) (by decide)]; exact h4, by rw [hW]; exact LJ_cong (fun a y1 y2 => r a (by omega) (by omega)) (fun _ _ => rfl) h5⟩, IMs_c h1.2.2.2.2.2.1 (r 92 (by decide) (by decide)) (r 93 (by decide) (by decide)) (fun a y1 _ _ => r a (by omega) (by omega)) h6, ⟨B, t, t1, t2, by rw [h11]; exact t3, by rw [h89 8 (by decide) (by decide) (by decide)]; exact t4, fun i hi => by rw [r 22 (by decide) (by decide), r 94 (by decide) (by decide)]; exact t5 i hi⟩, hs, ⟨?_, by rw [r 46 (by decide) (by decide)]; exact c2, ?_, ?_, ?_⟩, ?_⟩
  · exact HC_c (r 38 (by decide) (by decide)) (r 39 (by decide) (by decide)) rfl c1
  · unfold PR at c3 ⊢
    rw [r 44 (by decide) (by decide), r 47 (by decide) (by decide)]; exact c3
  · rcases h36 with w | w
    · exact Or.inl w
    · unfold RC LR at c4 ⊢
      rw [w, h89 44 (by decide) (by decide) (by decide), h89 45 (by decide) (by decide) (by decide), r 112 (by decide) (by decide)]; exact c4
  · rw [r 14 (by decide) (by decide)]
    exact MC_c h1.2.2.2.1 (fun a y1 y2 => r a (by omega) (by omega)) ⟨rfl, rfl⟩ (fun a y1 _ _ => ⟨r a (by omega) (by omega), rfl⟩) c5
  · unfold STA at h9 ⊢
    rw [r 2 (by decide) (by decide), r 3 (by decide) (by decide), r 4 (by decide) (by decide)]; exact h9
/-- the scene has changed: hands and plan are forgotten, the maker is forgotten or not concerned -/
theorem INV_sc {S' : Nat → Nat → Nat} {LF' : aLF} {I' : Nat → Nat → Int32} (h : INV N X ow S LF g I J) (hr : ∀ a, a ≠ 6 → ¬ (7 ≤ a ∧ a ≤ 20) → a ≠ 39 → a ≠ 44 → a ≠ 49 → a ≠ 84 → ¬ (23 ≤ a ∧ a ≤ 31) → a ≠ 88 → a ≠ 89 → a ≠ 90 → a ≠ 91 → ¬ (95 ≤ a ∧ a ≤ 101) → I' a = I a) (hO : OKs S' LF' I' (I' 91)) (ht : TAP I') (hs : SCA I') (h39 : ∀ b, b < 12 → I' 39 b = nI 0) (h44 : I' 44 0 = nI 0) (h36 : I' 89 36 = nI 0) (hM : MC S' (I' 14) g I' J) {J' : Nat → Nat → Int64} (hJ : XNJ J J') : INV N X ow S' LF' g I' J' := by
  obtain ⟨h1, h2, -, h6, -, -, ⟨c1, c2, c3, c4, c5⟩, h9⟩ := h
  have r : ∀ a, a < 6 ∨ a = 46 ∨ 92 ≤ a ∧ a ≤ 94 ∨ 101 < a → I' a = I a := fun a y => hr a (by omega) (by omega) (by omega) (by omega) (by omega) (by omega) (by omega) (by omega) (by omega) (by omega) (by omega) (by omega)
  have j : ∀ a, a ≠ 89 → J' a = J a := fun a ha => funext (fun k => hJ a k (by omega))
  refine ⟨h1, by rw [r 1 (by omega)]; exact h2, hO, IMs_c h1.2.2.2.2.2.1 (r 92 (by omega)) (r 93 (by omega)) (fun a y1 _ _ => r a (by omega)) h6, ht, hs, ⟨fun b hb => Or.inl (h39 b hb), by rw [r 46 (by omega)]; exact c2, Or.inl h44, Or.inl h36, ?_⟩, ?_⟩
  · exact MC_c h1.2.2.2.1 (fun _ _ _ => rfl) ⟨j 49 (by decide), j 50 (by decide)⟩ (fun a y1 _ _ => ⟨rfl, j a (by omega)⟩) hM
  · unfold STA at h9 ⊢
    rw [r 2 (by omega), r 3 (by omega), r 4 (by omega), j 100 (by decide)]; exact h9
def rfC (I : Nat → Nat → Int32) (v : Int32) (r : Nat) : Nat → Nat → Int32 := u2 (u2 I 6 14 v) 88 r (I 88 r + nI 1)
def rfM (I : Nat → Nat → Int32) (v : Int32) (r : Nat) : Nat → Nat → Int32 := u2 (u2 (u2 I 89 0 (nI 0)) 89 1 v) 90 r (I 90 r + nI 1)
theorem c_refuse (hg : Geo g) {v : Int32} {r : Nat} (hv : v = -(nI r)) (h1 : 1 ≤ r) (h2 : r < 7) : a_call aTab aMX (d + 1) m_Cp_refuse [.ref 6, .int v] (g, I, J) Q = Q (some (.int v)) (g, rfC I v r, J) := by
  have hn : -v = nI r := by rw [hv, Int32.neg_neg]
  have hl : v < nI 0 := by
    rw [hv, fa_lt, fb_negI (by rw [nI_toInt (by omega)]; omega), nI_toInt (by omega), nI_toInt (by decide)]
    omega
  rw [e_Cp_refuse, b_Cp_refuse_0 hg, if_pos hl, b_Cp_refuse_9 hg, hn, rlt2 (by omega) (by omega) h2, b_Cp_refuse_19 hg, hn, ncl (by omega), b_Cp_refuse_30, u2_a (by decide)]
  have hvp : vp_in (nI r) 7 = True := by rw [nvi h2 (by omega)]
  rw [hvp, true_and, true_and]
  rfl
theorem INV_rf {v : Int32} {r : Nat} (h1 : 1 ≤ r) (h2 : r < 7) (h : INV N X ow S LF g I J) : INV N X ow S LF g (rfM (rfC I v r) v r) J := by
  unfold rfM rfC
  have hs := h.2.2.2.2.2.1
  refine INV_fr h (fun a y1 y2 y3 y4 => ?_) (fun j y1 y2 y3 => ?_) ?_ ?_ (Or.inr ?_)
  · rw [u2_r y4, u2_r y3, u2_r y3, u2_r y2, u2_r y1]
  · rw [u2_a (by decide), u2_k y2, u2_k y1, u2_a (by decide), u2_a (by decide)]
  · rw [u2_a (by decide), u2_a (by decide), u2_a (by decide), u2_a (by decide), u2_k (by decide)]
  · obtain ⟨s1, s2, s3, s4, s5, s6⟩ := hs
    have e6 : ∀ j, j ≠ 14 → u2 (u2 (u2 (u2 (u2 I 6 14 v) 88 r (I 88 r + nI 1)) 89 0 (nI 0)) 89 1 v) 90 r (u2 (u2 I 6 14 v) 88 r (I 88 r + nI 1) 90 r + nI 1) 6 j = I 6 j := fun j hj => by rw [u2_a (by decide), u2_a (by decide), u2_a (by decide), u2_a (by decide), u2_k hj]
    have e89 : ∀ j, j ≠ 0 → j ≠ 1 → u2 (u2 (u2 (u2 (u2 I 6 14 v) 88 r (I 88 r + nI 1)) 89 0 (nI 0)) 89 1 v) 90 r (u2 (u2 I 6 14 v) 88 r (I 88 r + nI 1) 90 r + nI 1) 89 j = I 89 j := fun j y1 y2 => by rw [u2_a (by decide), u2_k y2, u2_k y1, u2_a (by decide), u2_a (by decide)]
    refine ⟨by rw [e6 12 (by decide), e89 6 (by decide) (by decide)]; exact s1, by rw [e6 13 (by decide), e89 13 (by decide) (by decide)]; exact s2, ?_, by rw [e6 15 (by decide), e89 61 (by decide) (by decide)]; exact s4, fun b hb => ?_, fun q y1 y2 => ?_⟩
    · rw [u2_a (by decide), u2_a (by decide), u2_a (by decide), u2_a (by decide), u2_s, u2_a (by decide), u2_s]
    · rw [u2_a (by decide), u2_a (by decide), u2_a (by decide), u2_a (by decide), u2_a (by decide), u2_a (by decide), u2_a (by decide), u2_a (by decide), u2_a (by decide), u2_a (by decide)]
      exact s5 b hb
    · have := s6 q y1 y2
      have e90 : u2 (u2 I 6 14 v) 88 r (I 88 r + nI 1) 90 r = I 90 r := by rw [u2_a (by decide), u2_a (by decide)]
      rw [e90, u2_a (show 88 ≠ 90 by decide), u2_a (show 88 ≠ 89 by decide), u2_a (show 88 ≠ 89 by decide)]
      by_cases z : q = r
      · rw [z, u2_s, u2_s, s6 r h1 h2]
      · rw [u2_k z, u2_k z, u2_a (by decide), u2_a (by decide), u2_a (by decide), u2_a (by decide), u2_a (by decide)]
        exact this
  · rw [u2_a (by decide), u2_k (by decide), u2_k (by decide), u2_a (by decide), u2_a (by decide)]
theorem rc36 (h : INV N X ow S LF g I J) : I 89 36 = nI 0 ∨ I 89 36 = nI 1 := by
  rcases h.2.2.2.2.2.2.1.2.2.2.1 with w | w
  · exact Or.inl w
  · exact Or.inr w.1
/-- both refuse -/
theorem both_rf {v : Int32} {r : Nat} (hv : v = -(nI r)) (h1 : 1 ≤ r) (h2 : r < 7) (h : INV N X ow S LF g I J) : a_call aTab aMX (d + 1) m_Mo_tell [.ref 89, .int v] (g, u2 (rfC I v r) 89 0 (nI 0), J) (fun v3 h3 => ∃ i3 : Int32, v3 = some (.int i3) ∧ v = i3 ∧ INVx N X h3) := by
  have h36 : u2 (rfC I v r) 89 0 (nI 0) 89 36 = I 89 36 := by rw [u2_k (by decide)]; unfold rfC; rw [u2_a (by decide), u2_a (by decide)]
  rw [c_tellR h.1.1 hv h1 h2 (by rw [h36]; exact rc36 h)]
  have e90 : u2 (rfC I v r) 89 0 (nI 0) 90 r = rfC I v r 90 r := u2_a (by decide)
  rw [e90]
  exact ⟨v, rfl, rfl, ow, S, LF, INV_rf h1 h2 h⟩
theorem rfC_1 {v : Int32} {r : Nat} : rfC I v r 1 = I 1 := by unfold rfC; rw [u2_r (by decide), u2_r (by decide)]
theorem rfC_o {v : Int32} {r a : Nat} (h1 : a ≠ 6) (h2 : a ≠ 88) : rfC I v r a = I a := by unfold rfC; rw [u2_r h2, u2_r h1]
theorem c_accept (hg : Geo g) {v : Int32} : a_call aTab aMX (d + 1) m_Cp_accept [.ref 6, .int v] (g, I, J) Q = Q (some (.int v)) (g, u2 I 6 14 (nI 0), J) := by
  rw [e_Cp_accept, b_Cp_accept_0 hg]
theorem c_chHands (hg : Geo g) : a_call aTab aMX (d + 2) m_Cp_changeHands [.ref 6] (g, I, J) Q = Q none (g, u2 (fl2 I 39 0 12 (nI 0)) 44 0 (nI 0), J) := by
  rw [e_Cp_changeHands, b_Cp_changeHands_0 hg, c_hForget hg]
  simp only [exV, true_and]
  rw [b_Cp_changeHands_7 hg]
theorem c_inI {x : Int32} {lo hi : Nat} (hlo : lo < 2147483648) (hhi : hi < 2147483648) : a_call aTab aMX (d + 1) m_Mo_in [.long x.toInt64, .long (lN lo), .long (lN hi)] (g, I, J) Q = Q (some (.int (bi (decide (¬ x < nI lo ∧ ¬ nI hi < x))))) (g, I, J) := by
  rw [c_in]
  simp only [wlt hlo, wgt hhi]
theorem m_sheet {x : Int32} (h : INV N X ow S LF g I J) : BOTH N X (d + 2) m_Cp_sheet m_Mo_sheet [.int x] (g, I, J) := by
  have hg := h.1.1
  have hM := h.2.2.1.2.1
  unfold BOTH
  have h0 := INV_0 (v := nI 0) h
  rw [e_Cp_sheet, b_Cp_sheet_0]
  rcases nIx x 16 (by decide) with w | ⟨w1, w2⟩ | ⟨m, w1, w2⟩
  · rw [if_pos w, b_Cp_sheet_10, b_Cp_sheet_23]
    refine ⟨_, rfl, h.2.1, h.1.2.2.1, ?_⟩
    rw [e_Mo_sheet, b_Mo_sheet_0 hg, c_inI (by decide) (by decide), decide_eq_false (fun z => z.1 w)]
    simp only [exI]
    rw [b_Mo_sheet_14, if_pos bi_F, b_Mo_sheet_30, b_Mo_sheet_31]
    exact ⟨_, rfl, rfl, ow, S, LF, h0⟩
  · rw [if_neg w1, b_Cp_sheet_4, if_neg w2, b_Cp_sheet_10, b_Cp_sheet_23]
    refine ⟨_, rfl, h.2.1, h.1.2.2.1, ?_⟩
    have hb : nI 15 < x := by
      rw [fa_lt, nI_toInt (by decide)] at w2 ⊢
      omega
    rw [e_Mo_sheet, b_Mo_sheet_0 hg, c_inI (by decide) (by decide), decide_eq_false (fun z => z.2 hb)]
    simp only [exI]
    rw [b_Mo_sheet_14, if_pos bi_F, b_Mo_sheet_30, b_Mo_sheet_31]
    exact ⟨_, rfl, rfl, ow, S, LF, h0⟩
  · rw [w2, rlf (by omega) (by omega) (by omega), b_Cp_sheet_4, rlt2 (by omega) (by omega) w1, b_Cp_sheet_14 hg, ncl (by omega), b_Cp_sheet_23]
    refine ⟨by rw [nvi w1 (by omega)]; trivial, _, rfl, h.2.1, h.1.2.2.1, ?_⟩
    rw [e_Mo_sheet, b_Mo_sheet_0 hg, c_inI (by decide) (by decide), decide_eq_true (show ¬ nI m < nI 0 ∧ ¬ nI 15 < nI m by rw [nlt (by omega) (by omega), nlt (by omega) (by omega)]; omega)]
    simp only [exI]
    rw [b_Mo_sheet_14, if_neg (by decide), b_Mo_sheet_17 hg, nadd, ncl (by omega), b_Mo_sheet_31, u2_a (by decide)]
    refine ⟨by rw [nvi (show 352 + m < 1470 by omega) (by omega)]; trivial, _, rfl, ?_, ow, S, LF, h0⟩
    exact (hM.2.2.2.2.2.2.2 m w1).symm
end CAL
