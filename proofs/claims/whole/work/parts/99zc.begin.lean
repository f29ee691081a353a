/-! ===== a new object holds what holds between the calls; the law's loop ===== -/
def bRF : List (Nat × Nat × Nat) := ((89, 60, 122) :: ((89, 59, 121) :: ((89, 57, 120) :: ((89, 54, 119) :: ((89, 53, 118) :: ((89, 52, 117) :: ((89, 51, 116) :: ((89, 50, 115) :: ((89, 48, 114) :: ((89, 47, 113) :: ((89, 46, 112) :: ((89, 43, 111) :: ((89, 42, 110) :: ((89, 41, 109) :: ((89, 40, 108) :: ((89, 39, 107) :: ((89, 38, 106) :: ((89, 37, 105) :: ((89, 35, 104) :: ((89, 30, 103) :: ((89, 29, 102) :: ((89, 26, 101) :: ((89, 25, 100) :: ((89, 22, 99) :: ((89, 21, 98) :: ((89, 19, 97) :: ((89, 18, 96) :: ((89, 16, 95) :: ((89, 7, 94) :: ((89, 5, 93) :: ((89, 4, 92) :: ((89, 3, 91) :: ((89, 2, 90) :: ((6, 10, 88) :: ((6, 9, 87) :: ((6, 8, 49) :: ((49, 1, 7) :: ((49, 6, 86) :: ((49, 5, 85) :: ((49, 4, 84) :: ((49, 3, 83) :: ((49, 2, 50) :: ((50, 7, 73) :: (mrow 73 9 ++ ((50, 6, 63) :: (mrow 63 9 ++ ((50, 5, 53) :: (mrow 53 9 ++ ((50, 4, 52) :: ((50, 3, 51) :: ((6, 7, 44) :: ((44, 5, 36) :: ((44, 4, 33) :: ((44, 3, 7) :: ((44, 12, 48) :: ((44, 11, 47) :: ((44, 10, 46) :: ((44, 9, 45) :: ((44, 7, 0) :: ((44, 6, 0) :: ((6, 6, 36) :: ((36, 1, 33) :: ((36, 0, 7) :: ((36, 6, 41) :: (mrow 41 2 ++ ((36, 5, 40) :: ((36, 4, 39) :: ((36, 3, 38) :: ((36, 2, 37) :: ((6, 5, 33) :: ((33, 1, 15) :: ((33, 0, 7) :: ((33, 3, 35) :: ((33, 2, 34) :: ((6, 4, 32) :: ((32, 0, 7) :: ((6, 3, 23) :: ((23, 3, 31) :: ((23, 2, 30) :: ((23, 0, 24) :: ((24, 7, 29) :: ((24, 6, 28) :: ((24, 5, 27) :: ((24, 4, 26) :: ((24, 3, 25) :: ((6, 2, 22) :: ((6, 1, 21) :: ((6, 0, 7) :: ((7, 8, 15) :: ((15, 7, 20) :: ((15, 6, 19) :: ((15, 5, 18) :: ((15, 4, 17) :: ((15, 3, 16) :: ((7, 7, 14) :: ((7, 6, 13) :: ((7, 5, 12) :: ((7, 4, 11) :: ((7, 3, 10) :: ((7, 2, 9) :: ((7, 1, 8) :: [])))))))))))))))))))))))))))))))))))))))))))))))))))))))))))))))))))))))))))))))))))))))))))))))))))))
def bUF : List (Nat × Nat × Int32) := ((91, 8, (nI 8)) :: ((91, 7, (nI 8)) :: ((91, 4, (nI 3)) :: ((91, 3, (nI 1)) :: ((91, 2, (nI 8)) :: ((89, 13, (-1 : Int32)) :: ((6, 15, (nI 0)) :: ((6, 14, (nI 0)) :: ((6, 13, (-1 : Int32)) :: ((6, 12, (nI 0)) :: ((6, 11, (nI 0)) :: ((49, 13, (nI 0)) :: ((49, 12, (nI 0)) :: ((49, 11, (nI 0)) :: ((49, 10, (nI 0)) :: ((49, 8, (nI 0)) :: ((49, 7, (-1 : Int32)) :: ((50, 2, (nI 0)) :: ((50, 0, (nI 0)) :: ((49, 0, (-1 : Int32)) :: ((44, 14, (nI 0)) :: ((44, 13, (nI 0)) :: ((44, 8, (nI 0)) :: ((44, 2, (nI 0)) :: ((44, 1, (nI 0)) :: ((44, 0, (nI 0)) :: ((36, 7, (nI 0)) :: ((23, 10, (nI 0)) :: ((23, 9, (nI 0)) :: ((23, 8, (nI 0)) :: ((23, 7, (nI 0)) :: ((23, 6, (nI 256)) :: ((23, 5, (nI 0)) :: ((23, 4, (nI 0)) :: ((23, 1, (-1 : Int32)) :: ((24, 2, (nI 0)) :: ((24, 1, (nI 0)) :: ((24, 0, (nI 0)) :: ((15, 2, (nI 0)) :: ((15, 1, (nI 0)) :: ((15, 0, (nI 0)) :: ((10, 0, (nI 8)) :: ((10, 1, (nI 1)) :: ((10, 2, (nI 3)) :: ((10, 3, (nI 0)) :: ((10, 4, (nI 0)) :: ((10, 5, (nI 8)) :: ((10, 6, (nI 8)) :: ((7, 0, (nI 0)) :: [])))))))))))))))))))))))))))))))))))))))))))))))))
def t0 (k : Nat) : Nat := if k = 0 then 8 else if k = 1 then 1 else if k = 2 then 3 else if k = 5 then 8 else if k = 6 then 8 else 0
def S0 (a k : Nat) : Nat := if a = 10 then t0 k else 0
def LF0 : aLF := fun head E => tF (fun _ => 0) (fun _ _ => none) (fun _ _ => none) head E 0
theorem t0_8 (k : Nat) : t0 k ≤ 8 := by
  unfold t0
  repeat (first | (split; omega) | omega)
theorem rf_T : ∀ i, i < 124 → 6 ≤ (rT.getD i (0, 0, 0)).1 ∧ (rT.getD i (0, 0, 0)).1 < 123 ∧ lk 0 bRF (rT.getD i (0, 0, 0)).1 (rT.getD i (0, 0, 0)).2.1 = (rT.getD i (0, 0, 0)).2.2 := by decide +kernel
theorem rf_83 : ∀ f, f < 6 → lk 0 bRF 83 f = 0 := by decide +kernel
theorem rf_21 : ∀ f, f < 2 → lk 0 bRF 21 f = 0 := by decide +kernel
theorem rf_44 : lk 0 bRF 44 6 = 0 := by decide +kernel
theorem uf_0 : ∀ u ∈ bUF, (u.1 = 6 ∨ u.1 = 10 ∨ u.1 = 23 ∨ u.1 = 49 ∨ u.1 = 89 ∨ u.1 = 91) ∨ u.2.2 = 0 := by decide +kernel
theorem uf_10 : ∀ u ∈ bUF, u.1 = 10 → u.2.1 < 7 := by decide +kernel
theorem uf_91 : ∀ u ∈ bUF, u.1 = 91 → 2 ≤ u.2.1 ∧ u.2.1 ≤ 8 := by decide +kernel
theorem uf_T : ∀ i, i < 7 → lk 0 bUF 10 i = nI (t0 i) ∧ lk 0 bUF 91 (2 + i) = nI (t0 i) := by decide +kernel
theorem uf_v : (lk 0 bUF 6 11 = nI 0 ∧ lk 0 bUF 6 12 = nI 0 ∧ lk 0 bUF 6 13 = (-1 : Int32) ∧ lk 0 bUF 6 14 = nI 0 ∧ lk 0 bUF 6 15 = nI 0) ∧ (lk 0 bUF 89 1 = nI 0 ∧ lk 0 bUF 89 6 = nI 0 ∧ lk 0 bUF 89 8 = nI 0 ∧ lk 0 bUF 89 13 = (-1 : Int32) ∧ lk 0 bUF 89 36 = nI 0 ∧ lk 0 bUF 89 61 = nI 0) ∧ lk 0 bUF 49 7 = (-1 : Int32) ∧ lk 0 bUF 49 8 = nI 0 := by decide +kernel
theorem aLo_v : aLo 0 = nI 2 ∧ ∀ k, k < 7 → 1 ≤ k → aLo k = nI 0 := by decide +kernel
theorem aHi_v : aHi 0 = nI 32 ∧ aHi 1 = nI 16 ∧ aHi 2 = nI 3 ∧ aHi 3 = nI 1 ∧ aHi 4 = nI 6 ∧ aHi 5 = nI 31 ∧ aHi 6 = nI 31 := by decide +kernel
theorem aFi_v : aFi 0 = nI 8 ∧ aFi 1 = nI 1 ∧ aFi 2 = nI 3 ∧ aFi 3 = nI 0 ∧ aFi 4 = nI 0 ∧ aFi 5 = nI 8 ∧ aFi 6 = nI 8 := by decide +kernel
section BEG
variable {L : Nat} {X : Nat → Int32} {g : aG} {I : Nat → Nat → Int32} {J : Nat → Nat → Int64} {s : Nat}
theorem st_INV (hs : ST L X 123 s bRF bUF g I J) (e : s ≤ 200000) : INV L X (fun _ => 0) S0 LF0 g I J := by
  obtain ⟨⟨a1, a2, a3⟩, ⟨b1, b2, b3⟩, ⟨c1, c2⟩, ⟨d1, d2, d3⟩, e1⟩ := hs
  have hz : ∀ a j, 6 ≤ a → a < 123 → a ≠ 6 → a ≠ 10 → a ≠ 23 → a ≠ 49 → a ≠ 89 → a ≠ 91 → I a j = nI 0 := fun a j y1 y2 y3 y4 y5 y6 y7 y8 => by
    rw [d1 a j y1 y2]
    exact lk_0 bUF (fun u hu z1 z2 => (uf_0 u hu).resolve_left (by omega))
  have hW : ∀ k, ¬ (2 ≤ k ∧ k ≤ 8) → I 91 k = nI 0 := fun k y => by
    rw [d1 91 k (by decide) (by decide)]
    exact lk_0 bUF (fun u hu z1 z2 => by have := uf_91 u hu z1; omega)
  obtain ⟨⟨u1', u2', u3', u4', u5'⟩, ⟨w1, w2, w3, w4, w5, w6⟩, v1, v2⟩ := uf_v
  have hR0 : ∀ f, f < 6 → gR g 83 f = 0 := fun f hf => by rw [c1 83 f (by decide) (by decide)]; exact rf_83 f hf
  have hR1 : ∀ f, f < 2 → gR g 21 f = 0 := fun f hf => by rw [c1 21 f (by decide) (by decide)]; exact rf_21 f hf
  have hR2 : gR g 44 6 = 0 := by rw [c1 44 6 (by decide) (by decide)]; exact rf_44
  refine ⟨⟨⟨b1, b2, fun i hi => ?_⟩, by omega, b3, fun f hf => Or.inl (hR0 f hf), Or.inl hR2, fun k hk => Or.inl (hR1 k hk), ?_, ?_⟩, ?_, ⟨⟨fun a k y1 y2 => ?_, ?_⟩, ?_, ?_⟩, fun k hk => Or.inl ⟨hR1 k hk, hz 93 k (by decide) (by decide) (by decide) (by decide) (by decide) (by decide) (by decide) (by decide)⟩, ⟨fun _ => 0, 0, fun _ => Nat.zero_le _, by decide, ?_, ?_, fun i hi => absurd hi (Nat.not_lt_zero i)⟩, ⟨?_, ?_, ?_, ?_, fun b hb => ?_, fun r y1 y2 => ?_⟩, ⟨fun b hb => Or.inl (hz 39 b (by decide) (by decide) (by decide) (by decide) (by decide) (by decide) (by decide) (by decide)), hz 46 12 (by decide) (by decide) (by decide) (by decide) (by decide) (by decide) (by decide) (by decide), Or.inl (hz 44 0 (by decide) (by decide) (by decide) (by decide) (by decide) (by decide) (by decide) (by decide)), Or.inl ?_, ?_⟩, ?_⟩
  · obtain ⟨z1, z2, z3⟩ := rf_T i hi
    rw [c1 _ _ z1 z2]; exact z3
  · have q1 : nl g ≤ 6 := fb_ct_le _ _
    have q2 : imn g ≤ 2 := fb_ct_le _ _
    have q3 : pn g ≤ 1 := by unfold pn; split <;> omega
    omega
  · have q1 : nl g ≤ 6 := fb_ct_le _ _
    have q2 : imn g ≤ 2 := fb_ct_le _ _
    have q3 : pn g ≤ 1 := by unfold pn; split <;> omega
    omega
  · exact d3 1 (by decide)
  · by_cases q : a = 10
    · subst q
      rw [d1 10 k (by decide) (by decide)]
      show _ = nI (t0 k)
      by_cases q2 : k < 7
      · exact (uf_T k q2).1
      · rw [show t0 k = 0 by unfold t0; rw [if_neg (by omega), if_neg (by omega), if_neg (by omega), if_neg (by omega), if_neg (by omega)]]
        exact lk_0 bUF (fun u hu z1 z2 => by have := uf_10 u hu z1; omega)
    · rw [show S0 a k = 0 from if_neg q]
      exact hz a k (by omega) (by omega) (by omega) q (by omega) (by omega) (by omega) (by omega)
  · refine ⟨fun a k _ _ => ?_, fun k => Nat.zero_le _, fun k => Nat.zero_le _, fun k => Nat.zero_le _, fun k => Nat.zero_le _, fun k => Nat.zero_le _, by decide +kernel, fun f hf => absurd hf (Nat.not_lt_zero f)⟩
    unfold S0
    split
    · have := t0_8 k; omega
    · omega
  · refine ⟨hW 0 (by omega), fun i hi => ?_, fun f hf => hW _ (by omega), fun k hk => hW _ (by omega), fun p hp => hW _ (by omega), fun p hp z => absurd z (Nat.lt_irrefl 0), fun p hp => hW _ (by omega), fun r hr => ?_⟩
    · rw [d1 91 _ (by decide) (by decide)]; exact (uf_T i hi).2
    · rw [hW _ (by omega)]
      exact (hz 14 r (by decide) (by decide) (by decide) (by decide) (by decide) (by decide) (by decide) (by decide)).symm
  · refine ⟨?_, 0, fun _ => 0, fun _ _ => none, fun _ _ => none, by decide, hz 15 1 (by decide) (by decide) (by decide) (by decide) (by decide) (by decide) (by decide) (by decide), hW _ (by omega), fun c hc => absurd hc (Nat.not_lt_zero c), fun _ _ => rfl⟩
    rw [hW 1 (by omega)]
    exact hz 15 0 (by decide) (by decide) (by decide) (by decide) (by decide) (by decide) (by decide) (by decide)
  · rw [d1 6 11 (by decide) (by decide)]; exact u1'
  · rw [d1 89 8 (by decide) (by decide)]; exact w3
  · rw [d1 6 12 (by decide) (by decide), d1 89 6 (by decide) (by decide), u2', w2]
  · rw [d1 6 13 (by decide) (by decide), d1 89 13 (by decide) (by decide), u3', w4]
  · rw [d1 6 14 (by decide) (by decide), d1 89 1 (by decide) (by decide), u4', w1]
  · rw [d1 6 15 (by decide) (by decide), d1 89 61 (by decide) (by decide), u5', w6]
  · rw [hz 87 b (by decide) (by decide) (by decide) (by decide) (by decide) (by decide) (by decide) (by decide), hz 122 b (by decide) (by decide) (by decide) (by decide) (by decide) (by decide) (by decide) (by decide)]
  · rw [hz 88 r (by decide) (by decide) (by decide) (by decide) (by decide) (by decide) (by decide) (by decide), hz 90 r (by decide) (by decide) (by decide) (by decide) (by decide) (by decide) (by decide) (by decide)]
  · rw [d1 89 36 (by decide) (by decide)]; exact w5
  · refine MC_0 ?_ ?_ (fun f hf => hz 84 f (by decide) (by decide) (by decide) (by decide) (by decide) (by decide) (by decide) (by decide))
    · rw [d1 49 7 (by decide) (by decide)]; exact v1
    · rw [d1 49 8 (by decide) (by decide)]; exact v2
  · have e2 : I 2 = aLo := d3 2 (by decide)
    have e3 : I 3 = aHi := d3 3 (by decide)
    have e4 : I 4 = aFi := d3 4 (by decide)
    unfold STA
    rw [e2, e3, e4]
    exact ⟨⟨aLo_v.1, fun k y1 y2 => aLo_v.2 k y2 y1⟩, aHi_v, aFi_v, e1 (by decide)⟩
end BEG
section LOO
variable {N : Nat} {X : Nat → Int32} {i : Nat}
theorem lw_cmp (hN : N ≤ 384) (q : ¬ i + 6 ≤ N) (h2 : i ≤ N) (h3 : i % 6 = 0) : nI N - nI 6 < nI i := by
  by_cases c : 6 ≤ N
  · rw [nsub c, nlt (by omega) (by omega)]; omega
  · have e0 : i = 0 := by omega
    rw [e0]
    have : N = 0 ∨ N = 1 ∨ N = 2 ∨ N = 3 ∨ N = 4 ∨ N = 5 := by omega
    rcases this with z | z | z | z | z | z <;> rw [z] <;> decide +kernel
theorem lw_rm : 209 ≤ 6 + room_1.cells ∧ 400000 ≤ room_1.slots := by decide +kernel
theorem lw_exit (hN : N ≤ 384) (q : ¬ i + 6 ≤ N) (h2 : i ≤ N) (h3 : i % 6 = 0) (h : aH) (hI : INVx N X h) : a_wp aTab aMX 100 m_law 18 [.ref 1, .ref 6, .ref 89, .int (nI i)] [] h QL := by
  obtain ⟨g, I, J⟩ := h
  obtain ⟨ow, S, LF, hi⟩ := hI
  have hi : INV N X ow S LF g I J := hi
  rw [b_law_18 hi.1.1, hi.1.2.2.1, if_pos (lw_cmp hN q h2 h3), b_law_1155]
  have q1 := hi.1.2.2.2.2.2.2.1
  have q2 := hi.1.2.2.2.2.2.2.2
  have q3 := lw_rm
  refine ⟨rfl, ?_, ?_⟩
  · show gx g ≤ 6 + room_1.cells
    omega
  · show gs g ≤ room_1.slots
    omega
set_option maxHeartbeats 4000000 in
theorem lw_step (hN : N ≤ 384) (q : i + 6 ≤ N) (h : aH) (hI : INVx N X h) (hk : ∀ h3, INVx N X h3 → a_wp aTab aMX 100 m_law 1149 [.ref 1, .ref 6, .ref 89, .int (nI i)] [] h3 QL) : a_wp aTab aMX 100 m_law 18 [.ref 1, .ref 6, .ref 89, .int (nI i)] [] h QL := by
  have hI' := hI
  obtain ⟨g, I, J⟩ := h
  obtain ⟨ow, S, LF, hi⟩ := hI
  have hi : INV N X ow S LF g I J := hi
  rw [b_law_18 hi.1.1, hi.1.2.2.1, if_neg (show ¬ nI N - nI 6 < nI i by rw [nsub (by omega), nlt (by omega) (by omega)]; omega), b_law_27 hi.1.1, hi.1.2.2.1, hi.2.1]
  refine ⟨vp_in_nI (by omega) (by omega), ?_⟩
  generalize X (nI i).toNatClampNeg &&& nI 63 = w
  by_cases e0 : w = nI 0
  · rw [if_pos e0]
    exact lc_figure hi q hN hk
  rw [if_neg e0]
  by_cases e1 : w = nI 1
  · rw [if_pos e1]
    exact lc_sticks hi q hN hk
  rw [if_neg e1]
  by_cases e2 : w = nI 2
  · rw [if_pos e2]
    exact lc_terms hi q hN hk
  rw [if_neg e2]
  by_cases e3 : w = nI 3
  · rw [if_pos e3]
    exact lc_on hi q hN hk
  rw [if_neg e3]
  by_cases e4 : w = nI 4
  · rw [if_pos e4]
    exact lc_off hi q hN hk
  rw [if_neg e4]
  by_cases e5 : w = nI 5
  · rw [if_pos e5]
    exact lc_of hi q hN hk
  rw [if_neg e5]
  by_cases e6 : w = nI 6
  · rw [if_pos e6]
    exact lc_feed hi q hN hk
  rw [if_neg e6]
  by_cases e7 : w = nI 7
  · rw [if_pos e7]
    exact lc_end hi q hN hk
  rw [if_neg e7]
  by_cases e8 : w = nI 8
  · rw [if_pos e8]
    exact lc_row hi q hN hk
  rw [if_neg e8]
  by_cases e9 : w = nI 9
  · rw [if_pos e9]
    exact lc_torn hi q hN hk
  rw [if_neg e9]
  by_cases e10 : w = nI 10
  · rw [if_pos e10]
    exact lc_outline hi q hN hk
  rw [if_neg e10]
  by_cases e11 : w = nI 11
  · rw [if_pos e11]
    exact lc_play hi q hN hk
  rw [if_neg e11]
  by_cases e12 : w = nI 12
  · rw [if_pos e12]
    exact lc_fault hi q hN hk
  rw [if_neg e12]
  by_cases e13 : w = nI 13
  · rw [if_pos e13]
    exact lc_shadow hi q hN hk
  rw [if_neg e13]
  by_cases e14 : w = nI 14
  · rw [if_pos e14]
    exact lc_seen hi q hN hk
  rw [if_neg e14]
  by_cases e15 : w = nI 15
  · rw [if_pos e15]
    exact lc_common hi q hN hk
  rw [if_neg e15]
  by_cases e16 : w = nI 16
  · rw [if_pos e16]
    exact lc_holds hi q hN hk
  rw [if_neg e16]
  by_cases e17 : w = nI 17
  · rw [if_pos e17]
    exact lc_holdings hi q hN hk
  rw [if_neg e17]
  by_cases e18 : w = nI 18
  · rw [if_pos e18]
    exact lc_least hi q hN hk
  rw [if_neg e18]
  by_cases e19 : w = nI 19
  · rw [if_pos e19]
    exact lc_holder hi q hN hk
  rw [if_neg e19]
  by_cases e20 : w = nI 20
  · rw [if_pos e20]
    exact lc_passed hi q hN hk
  rw [if_neg e20]
  by_cases e21 : w = nI 21
  · rw [if_pos e21]
    exact lc_fewest hi q hN hk
  rw [if_neg e21]
  by_cases e22 : w = nI 22
  · rw [if_pos e22]
    exact lc_barred hi q hN hk
  rw [if_neg e22]
  by_cases e23 : w = nI 23
  · rw [if_pos e23]
    exact lc_made hi q hN hk
  rw [if_neg e23]
  by_cases e24 : w = nI 24
  · rw [if_pos e24]
    exact lc_who hi q hN hk
  rw [if_neg e24]
  by_cases e25 : w = nI 25
  · rw [if_pos e25]
    exact lc_sheet hi q hN hk
  rw [if_neg e25]
  by_cases e26 : w = nI 26
  · rw [if_pos e26]
    exact lc_copy hi q hN hk
  rw [if_neg e26]
  by_cases e27 : w = nI 27
  · rw [if_pos e27]
    exact lc_show hi q hN hk
  rw [if_neg e27]
  by_cases e28 : w = nI 28
  · rw [if_pos e28]
    exact lc_slipped hi q hN hk
  rw [if_neg e28]
  by_cases e29 : w = nI 29
  · rw [if_pos e29]
    exact lc_image hi q hN hk
  rw [if_neg e29]
  by_cases e30 : w = nI 30
  · rw [if_pos e30]
    exact lc_back hi q hN hk
  rw [if_neg e30]
  by_cases e31 : w = nI 31
  · rw [if_pos e31]
    exact lc_count hi q hN hk
  rw [if_neg e31]
  by_cases e32 : w = nI 32
  · rw [if_pos e32]
    exact lc_status hi q hN hk
  rw [if_neg e32]
  exact hk _ hI'
theorem lw_loop (hN : N ≤ 384) : ∀ n i, N - i ≤ n → i ≤ N → i % 6 = 0 → ∀ h, INVx N X h → a_wp aTab aMX 100 m_law 18 [.ref 1, .ref 6, .ref 89, .int (nI i)] [] h QL := by
  intro n
  induction n with
  | zero => exact fun i h1 h2 h3 h hI => lw_exit hN (by omega) h2 h3 h hI
  | succ n ih =>
    intro i h1 h2 h3 h hI
    by_cases q : i + 6 ≤ N
    · refine lw_step hN q h hI (fun h4 hI4 => ?_)
      obtain ⟨g, I, J⟩ := h4
      rw [b_law_1149, nadd i 6]
      exact ih (i + 6) (by omega) q (by omega) _ hI4
    · exact lw_exit hN q h2 h3 h hI
theorem st_0 {L : Nat} : ST L X 6 0 [] [] (h0 L X).1 (h0 L X).2.1 (h0 L X).2.2 := by
  refine ⟨⟨rfl, rfl, by decide⟩, ⟨fun a y1 y2 => ?_, fun a y1 y2 => ?_, rfl⟩, ⟨fun a j y1 y2 => by omega, fun a j y => rfl⟩, ⟨fun a j y1 y2 => by omega, fun a j y => rfl, fun a y => rfl⟩, fun y => by omega⟩
  · have : a = 1 ∨ a = 2 ∨ a = 3 ∨ a = 4 ∨ a = 5 := by omega
    rcases this with rfl | rfl | rfl | rfl | rfl <;> rfl
  · have : a = 2 ∨ a = 3 ∨ a = 4 ∨ a = 5 := by omega
    rcases this with rfl | rfl | rfl | rfl <;> rfl
set_option maxRecDepth 100000 in
set_option maxHeartbeats 8000000 in
theorem lw_main {L : Nat} (hL : L ≤ 384) : a_wp aTab aMX 100 m_law 0 [.ref 1, aU, aU, aU] [] (h0 L X) QL := by
  show a_wp aTab aMX 100 m_law 0 [.ref 1, aU, aU, aU] [] ((h0 L X).1, (h0 L X).2.1, (h0 L X).2.2) QL
  refine W_g st_0 (fun g I J hs => ?_)
  rw [b_law_0, ST_x hs]
  refine ⟨SKx hs, ?_⟩
  refine c_Cp (d := 97) (ST_n (x := 6) hs (by rfl) (by rfl) (by decide)) (fun g I J hs => ⟨rfl, ?_⟩)
  rw [b_law_7, ST_x hs]
  refine ⟨SKx hs, ?_⟩
  refine c_Mo (d := 99) (ST_n (x := 89) hs (by rfl) (by rfl) (by decide)) (fun g I J hs => ⟨rfl, ?_⟩)
  rw [b_law_15]
  exact lw_loop hL L 0 (by omega) (by omega) (by omega) _ ⟨_, _, _, st_INV hs (by decide)⟩
theorem whole_start {p : Program} {e : Env} {s : State} {m : MethodId} {below : List Frame} {meth : Method} {c : Code} (l : Launch) {b L : Nat} {xs : Nat → Int32} (hL : L ≤ 384) (C0 : lw_At p s m meth c b L xs) : W p l e room_1 s m #[Value.ref b] below meth c s.heap [] 0 0 (lw_Z below #[Value.ref b] s) (entryFrame m ([Value.ref b] : List Value).toArray 4) := whole_open l (lw_main hL) C0
end LOO
