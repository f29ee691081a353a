/-! ===== play: both ===== -/
def dLw : aLw := (0, (0, 0, 0), (0, 0, 0), (fun _ => none), fun _ => none)
theorem LJ_new {sc : Nat → Nat → Int32} {W : Nat → Int32} {C : List Nat} {R : List (Nat × Nat)} {L : List aLw} (hP : ∀ w ∈ L, LWp C R w) (hc : ∀ i w, L[i]? = some w → sc 16 i = nI w.1 ∧ sc 17 i = nI w.2.1.1 ∧ sc 18 i = nI w.2.1.2.1 ∧ sc 19 i = nI w.2.1.2.2) (hm : ∀ i w, L[i]? = some w → W (372 + 8 * i) = nI (w.1 - 1) ∧ W (372 + 8 * i + 3) = nI w.2.2.1.1 ∧ W (372 + 8 * i + 4) = nI w.2.2.1.2.1 ∧ W (372 + 8 * i + 5) = nI w.2.2.1.2.1 ∧ W (372 + 8 * i + 6) = nI w.2.2.1.2.2) (h20 : hC C 0 (sc 20)) (hRr : hR R 0 (fun i => W (564 + i))) (cl : C.length ≤ 400) (rl : R.length ≤ 400) (ll : L.length ≤ 24) (h0 : sc 15 0 = W 1) (h1 : sc 15 1 = nI L.length) (h371 : W 371 = nI L.length) : ∃ LF, LJ LF sc W := by
  refine ⟨fun head E => tF (fun c => (L.getD c dLw).1) (fun c => (L.getD c dLw).2.2.2.1) (fun c => (L.getD c dLw).2.2.2.2) head E L.length, h0, L.length, fun c => (L.getD c dLw).1, fun c => (L.getD c dLw).2.2.2.1, fun c => (L.getD c dLw).2.2.2.2, ll, h1, h371, fun c hcl => ?_, fun _ _ => rfl⟩
  have e := getD_some (x := dLw) hcl
  have hw := hP _ (getD_mem (x := dLw) hcl)
  obtain ⟨a1, a2, a3, a4⟩ := hc c _ e
  obtain ⟨b1, b2, b3, b4, b5⟩ := hm c _ e
  show LWo sc W c (L.getD c dLw).1 (L.getD c dLw).2.2.2.1 (L.getD c dLw).2.2.2.2
  generalize L.getD c dLw = w at *
  obtain ⟨p1, p2, p3, p4, m, m2, p5, p6, p7⟩ := hw
  obtain ⟨p8, p9⟩ := p7 (sc 20) (fun i => W (564 + i)) h20 hRr
  exact ⟨⟨p1, p2⟩, a1, b1, w.2.1.1, w.2.1.2.1, w.2.1.2.2, w.2.2.1.1, w.2.2.1.2.1, w.2.2.1.2.2, m, m2, ⟨a2, a3, a4⟩, ⟨b2, b3, b4, b5⟩, ⟨by omega, by omega, by omega, by omega, p5, p6⟩, p8, p9⟩
theorem MS_z {S : Nat → Nat → Nat} {T W W' : Nat → Int32} (h : MS S T W) (h1 : ∀ i, i < 371 → i ≠ 1 → ¬ (64 ≤ i ∧ i < 352) → W' i = W i) (h2 : ∀ i, 64 ≤ i → i < 352 → W' i = nI 0) : MS (fl2 S 13 0 72 0) T W' := by
  obtain ⟨a1, a2, a3, a4, a5, a6, a7, a8⟩ := h
  have e : ∀ a, a ≠ 13 → fl2 S 13 0 72 0 a = S a := fun a ha => fl2_r ha
  have e13 : ∀ p, p < 72 → fl2 S 13 0 72 0 13 p = 0 := fun p hp => fl2_in (by omega) hp
  refine ⟨by rw [h1 _ (by omega) (by omega) (by omega), e 7 (by decide)]; exact a1, fun i hi => by rw [h1 _ (by omega) (by omega) (by omega), e 10 (by decide)]; exact a2 i hi, fun f hf => by rw [h1 _ (by omega) (by omega) (by omega), e 9 (by decide)]; exact a3 f hf, fun k hk => by rw [h1 _ (by omega) (by omega) (by omega), e 8 (by decide)]; exact a4 k hk, fun p hp => by rw [h2 _ (by omega) (by omega), e13 p hp]; rfl, fun p hp z => ?_, fun p hp => by rw [h2 _ (by omega) (by omega), e13 p hp], fun r hr => by rw [h1 _ (by omega) (by omega) (by omega)]; exact a8 r hr⟩
  rw [e13 p hp] at z
  exact absurd z (by decide)
theorem SB_z {S : Nat → Nat → Nat} (h : SB S) : SB (fl2 S 13 0 72 0) := by
  have e : ∀ a, a ≠ 13 → fl2 S 13 0 72 0 a = S a := fun a ha => fl2_r ha
  obtain ⟨a1, a2, a3, a4, a5, a6, a7, a8⟩ := h
  unfold SB
  rw [e 7 (by decide), e 9 (by decide), e 10 (by decide), e 11 (by decide), e 12 (by decide)]
  refine ⟨fun a j y1 y2 => ?_, a2, a3, a4, a5, fun j => ?_, a7, a8⟩
  · unfold fl2
    split
    · omega
    · exact a1 a j y1 y2
  · unfold fl2
    split
    · omega
    · exact a6 j
section PL2
variable {N : Nat} {X : Nat → Int32} {ow : Nat → Nat} {S : Nat → Nat → Nat} {LF : aLF} {g : aG} {I : Nat → Nat → Int32} {J : Nat → Nat → Int64} {Q : aQ} {d : Nat}
/-- a text was read and is not taken -/
theorem INV_pf {I' : Nat → Nat → Int32} {J' : Nat → Nat → Int64} (h : INV N X ow S LF g I J) (hr : ∀ a j, ¬ (23 ≤ a ∧ a ≤ 31) → ¬ (95 ≤ a ∧ a ≤ 101) → a ≠ 88 → a ≠ 90 → ¬ (a = 6 ∧ (j = 11 ∨ j = 13 ∨ j = 14)) → ¬ (a = 89 ∧ (j ≤ 1 ∨ (8 ≤ j ∧ j ≤ 28))) → I' a j = I a j) (hJ : XNJ J J') (ht : TAP I') (hs : SCA I') : INV N X ow S LF g I' J' := by
  obtain ⟨h1, h2, ⟨h3, h4, h5⟩, h6, -, -, ⟨c1, c2, c3, c4, c5⟩, h9⟩ := h
  have r : ∀ a, ¬ (a = 6 ∨ (23 ≤ a ∧ a ≤ 31) ∨ (88 ≤ a ∧ a ≤ 90) ∨ (95 ≤ a ∧ a ≤ 101)) → I' a = I a := fun a y => funext (fun j => hr a j (by omega) (by omega) (by omega) (by omega) (by omega) (by omega))
  have q89 : ∀ j, 28 < j → I' 89 j = I 89 j := fun j y => hr 89 j (by decide) (by decide) (by decide) (by decide) (by omega) (by omega)
  have j' : ∀ a, a ≠ 89 → J' a = J a := fun a ha => funext (fun k => hJ a k (by omega))
  have hW : I' 91 = I 91 := r 91 (by decide)
  refine ⟨h1, by rw [r 1 (by decide)]; exact h2, ⟨⟨fun a j y1 y2 => by rw [r a (by omega)]; exact h3.1 a j y1 y2, h3.2⟩, by rw [hW, r 14 (by decide)]; exact h4, by rw [hW]; exact LJ_cong (fun a y1 y2 => r a (by omega)) (fun _ _ => rfl) h5⟩, IMs_c h1.2.2.2.2.2.1 (r 92 (by decide)) (r 93 (by decide)) (fun a y1 _ _ => r a (by omega)) h6, ht, hs, ⟨HC_c (r 38 (by decide)) (r 39 (by decide)) (j' 37 (by decide)) c1, by rw [r 46 (by decide)]; exact c2, ?_, RC_c (fun j hj => q89 j (by omega)) (r 112 (by decide)) c4, ?_⟩, ?_⟩
  · unfold PR at c3 ⊢
    rw [r 44 (by decide), r 47 (by decide)]; exact c3
  · rw [r 14 (by decide)]
    exact MC_c h1.2.2.2.1 (fun a y1 y2 => r a (by omega)) ⟨j' 49 (by decide), j' 50 (by decide)⟩ (fun a y1 _ _ => ⟨r a (by omega), j' a (by omega)⟩) c5
  · unfold STA at h9 ⊢
    rw [r 2 (by decide), r 3 (by decide), r 4 (by decide), j' 100 (by decide)]; exact h9
theorem TI_0 {n : Nat} : TI n s0 := ⟨Nat.zero_le _, Nat.le_refl _, Nat.le_refl _, Nat.zero_le _, fun _ h => absurd h List.not_mem_nil, fun _ h => absurd h List.not_mem_nil⟩
set_option maxHeartbeats 8000000 in
theorem m_play (h : INV N X ow S LF g I J) : BOTH N X (d + 58) m_Cp_play m_Mo_play [] (g, I, J) := by
  have hg := h.1.1
  have hS := h.2.2.1.1
  have hB := hS.2
  have hM := h.2.2.1.2.1
  obtain ⟨B, n, t1, t2, t3, t4, t5⟩ := h.2.2.2.2.1
  obtain ⟨z1, z2, z3, z4, z5, z6⟩ := h.2.2.2.2.2.1
  have q3 := h.2.2.2.2.2.2.2.2.1.1
  have q100 := h.2.2.2.2.2.2.2.2.2.2
  -- the reference reads
  have ref : ∀ (I1 : Nat → Nat → Int32) (Q : aQ), I1 94 = I 94 → I1 89 = I 89 → (∀ q, pTx B n 24 0 s0 = .inl q → ∀ I2 J2, (∀ a k, ¬ (95 ≤ a ∧ a ≤ 101) → ¬ (a = 89 ∧ (k = 0 ∨ (9 ≤ k ∧ k ≤ 28))) → I2 a k = I1 a k) → XNJ J J2 → I2 89 14 = nI 1 → I2 89 13 = nI q → a_wp aTab aMX (d + 57) m_Mo_play 84 [.ref 89, aU, aU] [] (g, I2, J2) Q) → (∀ w, pTx B n 24 0 s0 = .inr w → ∀ I2 J2, (∀ a k, ¬ (95 ≤ a ∧ a ≤ 101) → ¬ (a = 89 ∧ (k = 0 ∨ (9 ≤ k ∧ k ≤ 28))) → I2 a k = I1 a k) → XNJ J J2 → I2 89 13 = (-1 : Int32) → MT B n w.1 w.2 I2 J2 → a_wp aTab aMX (d + 57) m_Mo_play 84 [.ref 89, aU, aU] [] (g, I2, J2) Q) → a_call aTab aMX (d + 58) m_Mo_play [.ref 89] (g, I1, J) Q := by
    intro I1 Q e94 e89 k0 k1
    rw [e_Mo_play, b_Mo_play_0 hg, e_Mo_begin, b_Mo_begin_0 hg]
    refine c_next hg t1 (n := n) (fun i hi => ?_) t2 ?_ (p := 0) (by omega) ?_ (fun I2 J2 x1 x2 x3 => ?_)
    · simp (disch := omega) only [u2_n, e94]; exact (t5 i hi).2
    · simp (disch := omega) only [u2_n, e89]; exact t4
    · simp (disch := omega) only [u2_n, u2_s]
    simp only [exV, true_and]
    rw [b_Mo_begin_19]
    simp only [exV, true_and]
    rw [b_Mo_play_9 hg]
    have fr : ∀ a k, ¬ (95 ≤ a ∧ a ≤ 101) → ¬ (a = 89 ∧ (k = 0 ∨ (9 ≤ k ∧ k ≤ 28))) → u2 (u2 (u2 (u2 (u2 I2 89 15 (nI 0)) 89 17 (nI 0)) 89 20 (nI 0)) 89 27 (nI 0)) 89 28 (nI 0) a k = I1 a k := fun a k y1 y2 => by
      rw [u2_n (by omega), u2_n (by omega), u2_n (by omega), u2_n (by omega), u2_n (by omega), x1 a k (by omega), u2_n (by omega), u2_n (by omega), u2_n (by omega), u2_n (by omega)]
    have e13 : u2 (u2 (u2 (u2 (u2 I2 89 15 (nI 0)) 89 17 (nI 0)) 89 20 (nI 0)) 89 27 (nI 0)) 89 28 (nI 0) 89 13 = (-1 : Int32) := by
      rw [u2_n (by omega), u2_n (by omega), u2_n (by omega), u2_n (by omega), u2_n (by omega), x1 89 13 (by omega), u2_s]
    have e14 : u2 (u2 (u2 (u2 (u2 I2 89 15 (nI 0)) 89 17 (nI 0)) 89 20 (nI 0)) 89 27 (nI 0)) 89 28 (nI 0) 89 14 = nI 0 := by
      rw [u2_n (by omega), u2_n (by omega), u2_n (by omega), u2_n (by omega), u2_n (by omega), x1 89 14 (by omega), u2_n (by omega), u2_s]
    have hMT : MT B n 0 s0 (u2 (u2 (u2 (u2 (u2 I2 89 15 (nI 0)) 89 17 (nI 0)) 89 20 (nI 0)) 89 27 (nI 0)) 89 28 (nI 0)) J2 := by
      obtain ⟨y1, y2, y3, y4⟩ := x3
      refine ⟨⟨⟨t1, t2, fun i hi => by rw [fr 94 i (by omega) (by omega), e94]; exact (t5 i hi).2, by rw [fr 89 8 (by omega) (by omega), e89]; exact t4, fun k hk => by rw [x2 100 k (by omega)]; exact q100 k hk⟩, ⟨?_, ?_, ?_, y4⟩, e14, ?_, ?_, fun i hi => absurd hi (Nat.not_lt_zero _)⟩, u2_s, ?_, ?_, fun i w hw => ?_, fun i w hw => ?_⟩
      · simp (disch := omega) only [u2_n]; exact y1
      · simp (disch := omega) only [u2_n]; exact y2
      · simp (disch := omega) only [u2_n]; exact y3
      · simp (disch := omega) only [u2_n, u2_s]; rfl
      · simp (disch := omega) only [u2_n, u2_s]; rfl
      · simp (disch := omega) only [u2_n, u2_s]; rfl
      · simp (disch := omega) only [u2_n, u2_s]; rfl
      · have : ([] : List aLw)[i]? = some w := hw
        simp at this
      · have : ([] : List aMv)[i]? = some w := hw
        simp at this
    refine mtext (d := d + 49) (J0 := J2) hg 24 0 s0 _ J2 rfl TI_0 rfl hMT (XTX_r _) (fun _ _ _ => rfl) rfl (fun q e I3 J3 y1 y2 y3 y4 => k0 q e I3 J3 (fun a k v1 v2 => by rw [y1 a k v1 (by omega)]; exact fr a k v1 v2) (XNJ_t x2 y2) y3 y4) (fun w e I3 J3 y1 y2 y3 y4 => k1 w e I3 J3 (fun a k v1 v2 => by rw [y1 a k v1 (by omega)]; exact fr a k v1 v2) (XNJ_t x2 y2) (by rw [y3]; exact e13) y4)
  unfold BOTH
  rw [e_Cp_play, b_Cp_play_0 hg, t3]
  refine c_readText hg t1 t2 (by omega) q3 (fun i hi => (t5 i hi).1) (fun q e I1 y1 y2 => ?_) (fun w e I1 y1 y2 y3 y4 => ?_)
  · -- not taken
    simp only [exI]
    rw [b_Cp_play_15 hg, if_pos rfl, b_Cp_play_30 hg, u2_a (by decide), y2, b_Cp_play_37 hg, if_pos rfl, b_Cp_play_44 hg, c_refuse hg (v := (-6 : Int32)) (r := 6) (by decide) (by decide) (by decide)]
    simp only [exI]
    rw [b_Cp_play_50]
    obtain ⟨H, eH⟩ : ∃ H, H = rfC (u2 (u2 I1 6 11 (nI 0)) 6 13 (nI q)) (-6) 6 := ⟨_, rfl⟩
    have rH : ∀ a j, ¬ (23 ≤ a ∧ a ≤ 31) → a ≠ 88 → ¬ (a = 6 ∧ (j = 11 ∨ j = 13 ∨ j = 14)) → H a j = I a j := fun a j v1 v2 v3 => by
      rw [eH]
      unfold rfC
      rw [u2_n (by omega), u2_n (by omega), u2_n (by omega), u2_n (by omega), y1 a v1]
    have h11 : H 6 11 = nI 0 := by
      rw [eH]
      unfold rfC
      rw [u2_a (by decide), u2_k (by decide), u2_k (by decide), u2_s]
    have h13 : H 6 13 = nI q := by
      rw [eH]
      unfold rfC
      rw [u2_a (by decide), u2_k (by decide), u2_s]
    have h14 : H 6 14 = -6 := by
      rw [eH]
      unfold rfC
      rw [u2_a (by decide), u2_s]
    have h88 : ∀ r, H 88 r = if r = 6 then I 88 6 + nI 1 else I 88 r := fun r => by
      rw [eH]
      unfold rfC
      by_cases z : r = 6
      · rw [z, if_pos rfl, u2_s, u2_a (by decide), u2_a (by decide), y1 88 (by decide)]
      · rw [if_neg z, u2_k z, u2_a (by decide), u2_a (by decide), u2_a (by decide), y1 88 (by decide)]
    rw [← eH]
    refine ⟨_, rfl, by rw [← h.2.1]; exact funext (fun j => rH 1 j (by decide) (by decide) (by omega)), h.1.2.2.1, ref H _ (funext (fun j => rH 94 j (by decide) (by decide) (by omega))) (funext (fun j => rH 89 j (by decide) (by decide) (by omega))) (fun q' e' I2 J2 v1 v2 v3 v4 => ?_) (fun w e' => by rw [e] at e'; cases e')⟩
    rw [e] at e'
    cases e'
    have h36 : u2 I2 89 8 (nI 0) 89 36 = I 89 36 := by rw [u2_k (by decide), v1 89 36 (by decide) (by decide), rH 89 36 (by decide) (by decide) (by decide)]
    rw [b_Mo_play_84 hg, u2_k (show 14 ≠ 8 by decide), v3, if_neg (by decide), b_Mo_play_96 hg, c_tellR hg (v := (-6 : Int32)) (r := 6) (by decide) (by decide) (by decide) (by rw [h36]; exact rc36 h)]
    simp only [exI]
    rw [b_Mo_play_102]
    have rr : ∀ a j, ¬ (23 ≤ a ∧ a ≤ 31) → ¬ (95 ≤ a ∧ a ≤ 101) → a ≠ 88 → ¬ (a = 6 ∧ (j = 11 ∨ j = 13 ∨ j = 14)) → ¬ (a = 89 ∧ (j = 0 ∨ (9 ≤ j ∧ j ≤ 28))) → I2 a j = I a j := fun a j w1 w2 w3 w4 w5 => by rw [v1 a j w2 w5, rH a j w1 w3 w4]
    refine ⟨_, rfl, rfl, INVx_i (INV_pf h (fun a j w1 w2 w3 w4 w5 w6 => ?_) v2 ⟨B, 0, t1, by omega, ?_, ?_, fun i hi => absurd hi (by omega)⟩ ⟨?_, ?_, ?_, ?_, fun b hb => ?_, fun r w1 w2 => ?_⟩)⟩
    · rw [u2_n (by omega), u2_n (by omega), u2_n (by omega), rr a j w1 w2 w3 w5 (by omega)]
    · rw [u2_a (by decide), u2_a (by decide), u2_a (by decide), v1 6 11 (by decide) (by decide)]; exact h11
    · rw [u2_a (by decide), u2_k (by decide), u2_s]
    · rw [u2_a (by decide), u2_a (by decide), u2_a (by decide), u2_a (by decide), u2_k (by decide), u2_k (by decide), rr 6 12 (by decide) (by decide) (by decide) (by decide) (by decide), rr 89 6 (by decide) (by decide) (by decide) (by decide) (by decide)]; exact z1
    · rw [u2_a (by decide), u2_a (by decide), u2_a (by decide), u2_a (by decide), u2_k (by decide), u2_k (by decide), v1 6 13 (by decide) (by decide), h13, v4]
    · rw [u2_a (by decide), u2_a (by decide), u2_a (by decide), u2_a (by decide), u2_s, v1 6 14 (by decide) (by decide), h14]
    · rw [u2_a (by decide), u2_a (by decide), u2_a (by decide), u2_a (by decide), u2_k (by decide), u2_k (by decide), rr 6 15 (by decide) (by decide) (by decide) (by decide) (by decide), rr 89 61 (by decide) (by decide) (by decide) (by decide) (by decide)]; exact z4
    · rw [u2_a (by decide), u2_a (by decide), u2_a (by decide), u2_a (by decide), u2_a (by decide), u2_a (by decide), rr 87 b (by decide) (by decide) (by decide) (by omega) (by omega), rr 122 b (by decide) (by decide) (by decide) (by omega) (by omega)]; exact z5 b hb
    · have e88 : I2 88 r = H 88 r := v1 88 r (by decide) (by omega)
      have e90 : ∀ r, I2 90 r = I 90 r := fun r => rr 90 r (by decide) (by decide) (by decide) (by omega) (by omega)
      rw [u2_a (show 88 ≠ 90 by decide), u2_a (show 88 ≠ 89 by decide), u2_a (show 88 ≠ 89 by decide), e88, h88 r]
      by_cases z : r = 6
      · rw [z, if_pos rfl, u2_s, u2_a (by decide), e90, z6 6 (by decide) (by decide)]
      · rw [if_neg z, u2_k z, u2_a (by decide), u2_a (by decide), e90]; exact z6 r w1 w2
  · -- taken
    obtain ⟨k, p, lv, C, R, M, L⟩ := w
    obtain ⟨hT, hk, hk24⟩ := tx_P t1 24 0 s0 _ TI_0 rfl e
    obtain ⟨hT1, hT2, hT3, hT4, hT5, hT6⟩ := hT
    obtain ⟨⟨-, -, -, -, r2⟩, c29, c24, c23, cL, cM⟩ := y4
    simp only at hT1 hT2 hT3 hT4 hT5 hT6 hk hk24 y3 c29 c24 c23 cL cM r2
    simp only [exI]
    rw [b_Cp_play_15 hg, if_neg (by decide), b_Cp_play_26, b_Cp_play_37 hg, if_neg (by decide), b_Cp_play_51 hg]
    obtain ⟨H, eH⟩ : ∃ H, H = u2 (u2 I1 6 11 (nI 0)) 6 13 (-1 : Int32) := ⟨_, rfl⟩
    rw [← eH]
    have rH : ∀ a, a ≠ 6 → H a = I1 a := fun a ha => by rw [eH, u2_r ha, u2_r ha]
    refine c_sTake (show SCo g 15 from (SO_7 hg).2.2.2.2) (SCo_24 hg) (Or.inr (by omega)) (fun I2 k1 k2 k3 k4 => ⟨rfl, ?_⟩)
    rw [b_Cp_play_68 hg, c_fillI (k_13 hg) (n_13 hg) (by decide)]
    refine ⟨rfl, ?_⟩
    rw [b_Cp_play_79 hg]
    have r2' : ∀ a j, ¬ (15 ≤ a ∧ a ≤ 20) → I2 a j = H a j := fun a j ha => k4 a j (by omega) (by omega) (by omega)
    have r2x : ∀ a, ¬ (15 ≤ a ∧ a ≤ 20) → a ≠ 13 → fl2 I2 13 0 72 (nI 0) a = H a := fun a v1 v2 => by rw [fl2_r v2]; exact funext (fun j => r2' a j v1)
    refine c_tellMoves hg (S := fl2 S 13 0 72 0) (M := M) (fun a j v1 v2 => ?_) hT5 ?_ (by omega) (fun i w hw => ?_) (fun I3 m1 => ⟨rfl, ?_⟩)
    · unfold fl2
      by_cases z : a = 13 ∧ 0 ≤ j ∧ j < 72
      · rw [if_pos z, if_pos z]
      · rw [if_neg z, if_neg z, r2' a j (by omega), rH a (by omega), y1 a (by omega)]; exact hS.1 a j v1 v2
    · rw [r2x 23 (by decide) (by decide), rH 23 (by decide)]; exact c23
    · rw [r2x 31 (by decide) (by decide), rH 31 (by decide)]; exact cM i w hw
    rw [b_Cp_play_90 hg, c_chHands hg]
    refine ⟨rfl, ?_⟩
    rw [b_Cp_play_94 hg, c_accept hg]
    simp only [exI]
    rw [b_Cp_play_108]
    have r3 : ∀ a j, ¬ (11 ≤ a ∧ a ≤ 20) → a ≠ 6 → I3 a j = I1 a j := fun a j v1 v2 => by rw [m1.2 a (by omega), r2x a (by omega) (by omega), rH a v2]
    have r35 : ∀ a j, 14 ≤ a → a ≤ 20 → I3 a j = I2 a j := fun a j v1 v2 => by rw [m1.2 a (by omega), fl2_r (by omega)]
    obtain ⟨K, eK⟩ : ∃ K, K = u2 (u2 (fl2 I3 39 0 12 (nI 0)) 44 0 (nI 0)) 6 14 (nI 0) := ⟨_, rfl⟩
    have e15 : u2 (fl2 I3 39 0 12 (nI 0)) 44 0 (nI 0) 15 0 = nI k := by
      rw [u2_a (by decide), fl2_r (by decide), r35 15 0 (by decide) (by decide), k1 0 (by decide), rH 24 (by decide)]; exact y3
    rw [e15, ← eK]
    have rK : ∀ a j, a ≠ 39 → ¬ (a = 44 ∧ j = 0) → ¬ (a = 6 ∧ j = 14) → K a j = I3 a j := fun a j v1 v2 v3 => by
      rw [eK, u2_n v3, u2_n v2, fl2_r v1]
    have rKI : ∀ a j, ¬ (11 ≤ a ∧ a ≤ 20 ∨ 23 ≤ a ∧ a ≤ 31) → a ≠ 39 → ¬ (a = 44 ∧ j = 0) → a ≠ 6 → K a j = I a j := fun a j v1 v2 v3 v4 => by
      rw [rK a j v2 v3 (by omega), r3 a j (by omega) v4, y1 a (by omega)]
    refine ⟨_, rfl, by rw [← h.2.1]; exact funext (fun j => rKI 1 j (by decide) (by decide) (by omega) (by decide)), h.1.2.2.1, ref K _ (funext (fun j => rKI 94 j (by decide) (by decide) (by omega) (by decide))) (funext (fun j => rKI 89 j (by decide) (by decide) (by omega) (by decide))) (fun q e' => by rw [e] at e'; cases e') (fun w e' I4 J4 v1 v2 v3 v4 => ?_)⟩
    rw [e] at e'
    cases e'
    obtain ⟨⟨-, -, b14, -, b17, bcd⟩, b28, b15, b27, bL, bM⟩ := v4
    simp only at b17 bcd b28 b15 b27 bL bM
    rw [b_Mo_play_84 hg, u2_k (show 14 ≠ 8 by decide), b14, if_pos rfl]
    have u8 : ∀ a, a ≠ 89 → u2 I4 89 8 (nI 0) a = I4 a := fun a ha => u2_r ha
    refine w_mLaws (d := d + 56) hg (k := k) (l := L.length) (R := R) (by rw [u2_k (by decide)]; exact b28) (by rw [u2_k (by decide)]; exact b15) (by rw [u2_k (by decide)]; exact b17) (by omega) (by omega) (fun va I5 n1 n2 => ?_)
    obtain ⟨w1, w2, w3, w4, w5, w6⟩ := n2
    rw [u8 91 (by decide), u8 95 (by decide), u8 96 (by decide), u8 97 (by decide)] at *
    have e91 : I4 91 = I 91 := funext (fun j => by rw [v1 91 j (by decide) (by omega)]; exact rKI 91 j (by decide) (by decide) (by omega) (by decide))
    rw [e91] at w6
    refine w_mMoves (d := d + 56) hg (S := fl2 S 13 0 72 0) (T := I 14) (M := M) (MS_z hM w6 w5) hT5 (by rw [n1 89 (by decide), u2_k (by decide)]; exact b27) (by omega) (fun i w hw => by rw [n1 101 (by decide), u8 101 (by decide)]; exact bM i w hw) (fun va vb I6 m2 => ?_) va
    have e28 : I6 89 28 = nI k := by rw [m2.2.1 89 (by decide), n1 89 (by decide), u2_k (by decide)]; exact b28
    rw [b_Mo_play_345 hg, e28, c_tellN hg (by rw [nlt (by omega) (by omega)]; omega)]
    simp only [exI]
    rw [b_Mo_play_353]
    -- what lies there now
    have r6 : ∀ a, a ≠ 91 → a ≠ 89 → I6 a = I4 a := fun a x1 x2 => by rw [m2.2.1 a x1, n1 a x1, u2_r x2]
    have r89 : ∀ j, j ≠ 8 → I6 89 j = I4 89 j := fun j x1 => by rw [m2.2.1 89 (by decide), n1 89 (by decide), u2_k x1]
    have rF : ∀ a j, a ≠ 89 → a ≠ 91 → ¬ (95 ≤ a ∧ a ≤ 101) → I6 a j = K a j := fun a j x1 x2 x3 => by rw [r6 a x2 x1, v1 a j x3 (by omega)]
    have W2 : ∀ i, ¬ (64 ≤ i ∧ i < 352) → I6 91 i = I5 91 i := m2.2.2
    have eF : ∀ a j, a ≠ 89 → u2 (u2 I6 89 1 (nI 0)) 89 36 (nI 0) a j = I6 a j := fun a j x1 => by rw [u2_a x1, u2_a x1]
    have eF9 : ∀ j, j ≠ 1 → j ≠ 36 → u2 (u2 I6 89 1 (nI 0)) 89 36 (nI 0) 89 j = I6 89 j := fun j x1 x2 => by rw [u2_k x2, u2_k x1]
    have eF91 : u2 (u2 I6 89 1 (nI 0)) 89 36 (nI 0) 91 = I6 91 := funext (fun j => eF 91 j (by decide))
    have s20 : ∀ j, j < 400 → I6 20 j = I1 29 j := fun j hj => by rw [rF 20 j (by decide) (by decide) (by decide), rK 20 j (by decide) (by omega) (by omega), r35 20 j (by decide) (by decide), k3 j hj, rH _ (by decide)]
    have s16 : ∀ i, 1 ≤ i → i ≤ 4 → ∀ j, j < 24 → I6 (15 + i) j = I1 (24 + i) j := fun i x1 x2 j hj => by rw [rF _ j (by omega) (by omega) (by omega), rK _ j (by omega) (by omega) (by omega), r35 _ j (by omega) (by omega), k2 i x1 x2 j hj, rH _ (by omega)]
    have s15 : ∀ j, j < 3 → I6 15 j = I1 24 j := fun j hj => by rw [rF 15 j (by decide) (by decide) (by decide), rK 15 j (by decide) (by omega) (by omega), r35 15 j (by decide) (by decide), k1 j hj, rH _ (by decide)]
    obtain ⟨LF', hLF⟩ : ∃ LF', LJ LF' I6 (I6 91) := by
      refine LJ_new (C := C) (R := R) (L := L) hT6 (fun i w hw => ?_) (fun i w hw => ?_) (fun i hi => ?_) (fun i hi => ?_) (by omega) (by omega) (by omega) ?_ ?_ ?_
      · have hil : i < L.length := (List.getElem?_eq_some_iff.1 hw).1
        obtain ⟨x1, x2, x3, x4⟩ := cL i w hw
        exact ⟨by rw [s16 1 (by decide) (by decide) i (by omega)]; exact x1, by rw [s16 2 (by decide) (by decide) i (by omega)]; exact x2, by rw [s16 3 (by decide) (by decide) i (by omega)]; exact x3, by rw [s16 4 (by decide) (by decide) i (by omega)]; exact x4⟩
      · have hil : i < L.length := (List.getElem?_eq_some_iff.1 hw).1
        obtain ⟨x1, x2, x3, x4, x5⟩ := bL i w hw
        have g : ∀ q, q < 8 → I6 91 (372 + 8 * i + q) = I4 95 (8 * i + q) := fun q hq => by rw [W2 _ (by omega), Nat.add_assoc, w3 _ (by omega)]
        have g0 := g 0 (by decide)
        rw [Nat.add_zero, Nat.add_zero] at g0
        exact ⟨by rw [g0]; exact x1, by rw [g 3 (by decide)]; exact x2, by rw [g 4 (by decide)]; exact x3, by rw [g 5 (by decide)]; exact x4, by rw [g 6 (by decide)]; exact x5⟩
      · rw [Nat.zero_add, s20 i (by omega)]
        have := c29 i hi
        rw [Nat.zero_add] at this
        exact this
      · have := bcd i hi
        obtain ⟨x1, x2⟩ := w4 i hi
        show I6 91 (564 + 2 * (0 + i)) = _ ∧ I6 91 (564 + (2 * (0 + i) + 1)) = _
        rw [Nat.zero_add, W2 _ (by omega), W2 _ (by omega), ← Nat.add_assoc, x1, x2]
        exact this
      · rw [s15 0 (by decide), W2 1 (by omega), w1]; exact y3
      · rw [s15 1 (by decide)]; exact c24
      · rw [W2 371 (by omega), w2]
    have hP := mvi_P (M := M) (SB_z hB) hT5 M.length (Nat.le_refl _)
    have o8 : mvi (fl2 S 13 0 72 0) M M.length 8 = S 8 := by rw [hP.2 8 (by decide), fl2_r (by decide)]
    have o10 : mvi (fl2 S 13 0 72 0) M M.length 10 = S 10 := by rw [hP.2 10 (by decide), fl2_r (by decide)]
    have e14 : I6 14 = I 14 := funext (fun j => by rw [rF 14 j (by decide) (by decide) (by decide), rK 14 j (by decide) (by omega) (by omega), r35 14 j (by decide) (by decide), r2' 14 j (by decide), rH 14 (by decide), y1 14 (by decide)])
    have e14' : u2 (u2 I6 89 1 (nI 0)) 89 36 (nI 0) 14 = I 14 := by rw [← e14]; exact funext (fun j => eF 14 j (by decide))
    have rKI2 : ∀ a j, ¬ (7 ≤ a ∧ a ≤ 20 ∨ 23 ≤ a ∧ a ≤ 31) → a ≠ 39 → ¬ (a = 44 ∧ j = 0) → a ≠ 6 → a ≠ 89 → a ≠ 91 → ¬ (95 ≤ a ∧ a ≤ 101) → I6 a j = I a j := fun a j x1 x2 x3 x4 x5 x6 x7 => by rw [rF a j x5 x6 x7, rKI a j (by omega) x2 x3 x4]
    have hK6 : ∀ j, j ≠ 14 → I6 6 j = I3 6 j := fun j x1 => by rw [rF 6 j (by decide) (by decide) (by decide), rK 6 j (by decide) (by omega) (by omega)]
    have hI6 : ∀ j, I3 6 j = H 6 j := fun j => by rw [m1.2 6 (by decide), r2x 6 (by decide) (by decide)]
    have H6 : ∀ j, j ≠ 11 → j ≠ 13 → H 6 j = I 6 j := fun j x1 x2 => by rw [eH, u2_k x2, u2_k x1, y1 6 (by decide)]
    have q89 : ∀ j, ¬ (8 ≤ j ∧ j ≤ 28) → j ≠ 0 → I6 89 j = I 89 j := fun j x1 x2 => by rw [r89 j (by omega), v1 89 j (by decide) (by omega)]; exact rKI 89 j (by decide) (by decide) (by omega) (by decide)
    refine ⟨_, rfl, rfl, INVx_i (INV_sc (S' := mvi (fl2 S 13 0 72 0) M M.length) (LF' := LF') h (fun a x1 x2 x3 x4 x5 x6 x7 x8 x9 x10 x11 x12 => funext (fun j => ?_)) ⟨⟨fun a j x1 x2 => ?_, hP.1⟩, ?_, ?_⟩ ⟨B, 0, t1, by omega, ?_, ?_, fun i hi => absurd hi (by omega)⟩ ⟨?_, ?_, ?_, ?_, fun b hb => ?_, fun r x1 x2 => ?_⟩ (fun b hb => ?_) ?_ u2_s ?_ v2)⟩
    · rw [eF a j x9, rKI2 a j (by omega) x3 (by omega) x1 x9 x11 x12]
    · rw [eF a j (by omega), rF a j (by omega) (by omega) (by omega), rK a j (by omega) (by omega) (by omega)]; exact m1.1 a j x1 x2
    · rw [eF91, e14']; exact m2.1
    · rw [eF91]; exact LJ_cong (fun a x1 x2 => funext (fun j => eF a j (by omega))) (fun _ _ => rfl) hLF
    · rw [eF 6 11 (by decide), hK6 11 (by decide), hI6, eH, u2_k (by decide), u2_s]
    · rw [eF9 8 (by decide) (by decide), m2.2.1 89 (by decide), n1 89 (by decide), u2_s]
    · rw [eF 6 12 (by decide), eF9 6 (by decide) (by decide), hK6 12 (by decide), hI6, H6 12 (by decide) (by decide), q89 6 (by decide) (by decide)]; exact z1
    · rw [eF 6 13 (by decide), eF9 13 (by decide) (by decide), hK6 13 (by decide), hI6, r89 13 (by decide), v3, eH, u2_s]
    · rw [eF 6 14 (by decide), u2_k (by decide), u2_s, rF 6 14 (by decide) (by decide) (by decide), eK, u2_s]
    · rw [eF 6 15 (by decide), eF9 61 (by decide) (by decide), hK6 15 (by decide), hI6, H6 15 (by decide) (by decide), q89 61 (by decide) (by decide)]; exact z4
    · rw [eF 87 b (by decide), eF 122 b (by decide), rKI2 87 b (by decide) (by decide) (by omega) (by decide) (by decide) (by decide) (by decide), rKI2 122 b (by decide) (by decide) (by omega) (by decide) (by decide) (by decide) (by decide)]; exact z5 b hb
    · rw [eF 88 r (by decide), eF 90 r (by decide), rKI2 88 r (by decide) (by decide) (by omega) (by decide) (by decide) (by decide) (by decide), rKI2 90 r (by decide) (by decide) (by omega) (by decide) (by decide) (by decide) (by decide)]; exact z6 r x1 x2
    · rw [eF 39 b (by decide), rF 39 b (by decide) (by decide) (by decide), eK, u2_a (by decide), u2_a (by decide), fl2_in (by omega) hb]
    · rw [eF 44 0 (by decide), rF 44 0 (by decide) (by decide) (by decide), eK, u2_a (by decide), u2_s]
    · rw [e14']
      exact MC_c h.1.2.2.2.1 (fun a x1 x2 => funext (fun j => by rw [eF a j (by omega), rKI2 a j (by omega) (by omega) (by omega) (by omega) (by omega) (by omega) (by omega)])) ⟨rfl, rfl⟩ (fun a x1 _ _ => ⟨funext (fun j => by rw [eF a j (by omega), rKI2 a j (by omega) (by omega) (by omega) (by omega) (by omega) (by omega) (by omega)]), rfl⟩) (MC_S o8 (by rw [o10]) h.2.2.2.2.2.2.1.2.2.2.2)
end PL2
