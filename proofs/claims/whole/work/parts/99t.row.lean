/-! ===== row, copy ===== -/
def wr {α : Type} (I : Nat → Nat → α) (r o : Nat) (F : Nat → α) (k : Nat) : Nat → Nat → α := fun a j => if a = r ∧ o ≤ j ∧ j < o + k then F (j - o) else I a j
section WRL
variable {α : Type} {I : Nat → Nat → α} {r o k : Nat} {F : Nat → α}
theorem wr_n {a j : Nat} (h : ¬ (a = r ∧ o ≤ j ∧ j < o + k)) : wr I r o F k a j = I a j := if_neg h
theorem wr_0 : wr I r o F 0 = I := by
  funext a j
  exact wr_n (by omega)
theorem wr_i {j : Nat} (h : j < k) : wr I r o F k r (o + j) = F j := by
  unfold wr
  rw [if_pos ⟨rfl, by omega, by omega⟩, show o + j - o = j by omega]
theorem wr_i0 {j : Nat} (h : j < k) : wr I r 0 F k r j = F j := by
  unfold wr
  rw [if_pos ⟨rfl, by omega, by omega⟩, Nat.sub_zero]
theorem wr_r {a : Nat} (h : a ≠ r) : wr I r o F k a = I a := funext (fun j => wr_n (fun z => h z.1))
theorem wr_s : u2 (wr I r o F k) r (o + k) (F k) = wr I r o F (k + 1) := by
  funext a j
  by_cases q : a = r ∧ j = o + k
  · rw [q.1, q.2, u2_s, wr_i (by omega)]
  · rw [u2_n q]
    unfold wr
    by_cases z : a = r ∧ o ≤ j ∧ j < o + k
    · rw [if_pos z, if_pos ⟨z.1, z.2.1, by omega⟩]
    · rw [if_neg z, if_neg (by omega)]
theorem wr_s0 : u2 (wr I r 0 F k) r k (F k) = wr I r 0 F (k + 1) := by
  have := wr_s (I := I) (r := r) (o := 0) (F := F) (k := k)
  rw [Nat.zero_add] at this
  exact this
end WRL
theorem CS_wr {S : Nat → Nat → Nat} {I : Nat → Nat → Int32} {r o k : Nat} {F : Nat → Nat} (h : ∀ a j, 7 ≤ a → a ≤ 13 → I a j = nI (S a j)) : ∀ a j, 7 ≤ a → a ≤ 13 → wr I r o (fun j => nI (F j)) k a j = nI (wr S r o F k a j) := fun a j h1 h2 => by
  unfold wr
  by_cases z : a = r ∧ o ≤ j ∧ j < o + k
  · rw [if_pos z, if_pos z]
  · rw [if_neg z, if_neg z]; exact h a j h1 h2
theorem SB_8 {S : Nat → Nat → Nat} {o k : Nat} {F : Nat → Nat} (h : SB S) (hF : ∀ j, F j ≤ 255) : SB (wr S 8 o F k) := by
  have e : ∀ a, a ≠ 8 → wr S 8 o F k a = S a := fun a ha => wr_r ha
  unfold SB at h ⊢
  rw [e 7 (by decide), e 9 (by decide), e 10 (by decide), e 11 (by decide), e 12 (by decide), e 13 (by decide)]
  refine ⟨fun a j y1 y2 => ?_, h.2⟩
  unfold wr
  split
  · exact hF _
  · exact h.1 a j y1 y2
theorem MS_8 {S : Nat → Nat → Nat} {T W W' : Nat → Int32} {n : Nat} {F : Nat → Nat} (h : MS S T W) (hn : n < 6) (h1 : ∀ i, ¬ (16 + 8 * n ≤ i ∧ i < 16 + 8 * n + 8) → W' i = W i) (h2 : ∀ j, j < 8 → W' (16 + 8 * n + j) = nI (F j)) : MS (wr S 8 (n * 8) F 8) T W' := by
  obtain ⟨a1, a2, a3, a4, a5, a6, a7, a8⟩ := h
  have e : ∀ a, a ≠ 8 → wr S 8 (n * 8) F 8 a = S a := fun a ha => wr_r ha
  refine ⟨by rw [h1 _ (by omega), e 7 (by decide)]; exact a1, fun i hi => by rw [h1 _ (by omega), e 10 (by decide)]; exact a2 i hi, fun f hf => by rw [h1 _ (by omega), e 9 (by decide)]; exact a3 f hf, fun k hk => ?_, fun p hp => by rw [h1 _ (by omega), e 13 (by decide)]; exact a5 p hp, fun p hp => by rw [h1 _ (by omega), h1 _ (by omega), e 13 (by decide), e 11 (by decide), e 12 (by decide)]; exact a6 p hp, fun p hp => by rw [h1 _ (by omega), e 13 (by decide)]; exact a7 p hp, fun r hr => by rw [h1 _ (by omega)]; exact a8 r hr⟩
  by_cases q : n * 8 ≤ k ∧ k < n * 8 + 8
  · have := h2 (k - n * 8) (by omega)
    rw [show 16 + 8 * n + (k - n * 8) = 16 + k by omega] at this
    rw [this]
    unfold wr
    rw [if_pos ⟨rfl, q⟩]
  · rw [h1 _ (by omega), wr_n (by omega)]; exact a4 k hk
theorem MS_T {S : Nat → Nat → Nat} {T T' W W' : Nat → Int32} (h : MS S T W) (h1 : ∀ i, ¬ (352 ≤ i ∧ i < 368) → W' i = W i) (h2 : ∀ r, r < 16 → W' (352 + r) = T' r) : MS S T' W' := by
  obtain ⟨a1, a2, a3, a4, a5, a6, a7, a8⟩ := h
  exact ⟨by rw [h1 _ (by omega)]; exact a1, fun i hi => by rw [h1 _ (by omega)]; exact a2 i hi, fun f hf => by rw [h1 _ (by omega)]; exact a3 f hf, fun k hk => by rw [h1 _ (by omega)]; exact a4 k hk, fun p hp => by rw [h1 _ (by omega)]; exact a5 p hp, fun p hp => by rw [h1 _ (by omega), h1 _ (by omega)]; exact a6 p hp, fun p hp => by rw [h1 _ (by omega)]; exact a7 p hp, h2⟩
/-! outlines are not asked for where hands are -/
def E8 (S S' : Nat → Nat → Nat) : Prop := ∀ a, a ≠ 8 → S' a = S a
section EIG
variable {S S' : Nat → Nat → Nat}
theorem q_on (h : E8 S S') : sOn S' = sOn S := by funext f b; unfold sOn; rw [h 7 (by decide), h 13 (by decide)]
theorem q_onb (h : E8 S S') (b : Nat) : ∀ k, onb S' b k = onb S b k
  | 0 => rfl
  | k + 1 => by
    show (if sOn S' k b then onb S' b k ||| 1 <<< k else onb S' b k) = (if sOn S k b then onb S b k ||| 1 <<< k else onb S b k)
    rw [q_on h, q_onb h b k]
theorem q_ons (h : E8 S S') : sOns S' = sOns S := by funext b; unfold sOns; rw [q_onb h, h 7 (by decide)]
theorem q_stay (h : E8 S S') : sStay S' = sStay S := by funext f b; unfold sStay; rw [q_on h, h 11 (by decide), h 12 (by decide), h 13 (by decide)]
theorem q_mDp (h : E8 S S') : mDp S' = mDp S := by funext f b; unfold mDp; rw [h 13 (by decide), h 10 (by decide)]
theorem q_env (h : E8 S S') : env S' = env S := by funext f b hh o w; unfold env; rw [h 11 (by decide), h 12 (by decide), h 9 (by decide), q_mDp h]
theorem q_near (h : E8 S S') : near S' = near S := by funext b f o; unfold near; rw [h 11 (by decide), h 10 (by decide), q_mDp h]
theorem q_alw (h : E8 S S') : alw S' = alw S := by funext LF hh b f; unfold alw; rw [q_on h, q_stay h, q_env h]
theorem q_two (h : E8 S S') : twoS S' = twoS S := by funext s; unfold twoS; rw [h 9 (by decide)]
theorem q_one (h : E8 S S') : oneS S' = oneS S := by funext s; unfold oneS; rw [h 9 (by decide)]
theorem q_hsf (h : E8 S S') : hsf S' = hsf S := by funext s; unfold hsf; rw [q_two h, q_one h, h 10 (by decide)]
theorem q_tog (h : E8 S S') : tog S' = tog S := by funext b s; unfold tog; rw [q_near h]
theorem q_can (h : E8 S S') : canS S' = canS S := by funext LF hh b s; unfold canS; rw [q_alw h, q_hsf h, q_tog h, h 10 (by decide)]
theorem q_on2 (h : E8 S S') : sOn2 S' = sOn2 S := by funext f b; unfold sOn2; rw [q_on h]
theorem q_psv (h : E8 S S') : psv S' = psv S := by funext LF f b hh t; unfold psv; rw [q_on2 h, q_env h]
theorem q_bk1 (h : E8 S S') : bk1 S' = bk1 S := by funext LF b f M; unfold bk1; rw [q_on2 h, q_psv h]
theorem q_bkS (h : E8 S S') (LF : aLF) (b : Nat) (M : aM) : ∀ f, bkS S' LF b M f = bkS S LF b M f
  | 0 => rfl
  | f + 1 => by
    show bk1 S' LF b f (bkS S' LF b M f) = bk1 S LF b f (bkS S LF b M f)
    rw [q_bkS h LF b M f, q_bk1 h]
theorem q_isB (h : E8 S S') : isB S' = isB S := by funext LF b c; unfold isB; rw [q_can h, q_ons h, h 10 (by decide)]
theorem q_dp (h : E8 S S') (LF : aLF) : ∀ k, dpS S' LF k = dpS S LF k
  | 0 => rfl
  | k + 1 => by
    show (fun c => if isB S' LF (11 - k) c then bkS S' LF (11 - k) (dpS S' LF k) 6 c else (1000000, 0)) = (fun c => if isB S LF (11 - k) c then bkS S LF (11 - k) (dpS S LF k) 6 c else (1000000, 0))
    rw [q_dp h LF k, q_isB h, q_bkS h]
theorem q_cst (h : E8 S S') : cst S' = cst S := by funext LF b c; unfold cst; rw [q_dp h]
theorem q_pbt (h : E8 S S') : pbt S' = pbt S := by funext LF b c e; unfold pbt; rw [q_psv h]
theorem q_lc (h : E8 S S') : lcS S' = lcS S := by funext LF; unfold lcS; rw [q_dp h]
theorem q_lw (h : E8 S S') : lwS S' = lwS S := by funext LF; unfold lwS; rw [q_dp h]
theorem q_fit (h : E8 S S') : fit S' = fit S := by funext LF b x y c; unfold fit; rw [q_cst h, q_pbt h]
theorem q_fc (h : E8 S S') (LF : aLF) : ∀ b, fcS S' LF b = fcS S LF b
  | 0 => by show (0, lcS S' LF) = (0, lcS S LF); rw [q_lc h]
  | b + 1 => by
    show (fa_first (fit S' LF b (fcS S' LF b).1 (fcS S' LF b).2) 4096, cst S' LF b (fa_first (fit S' LF b (fcS S' LF b).1 (fcS S' LF b).2) 4096)) = (fa_first (fit S LF b (fcS S LF b).1 (fcS S LF b).2) 4096, cst S LF b (fa_first (fit S LF b (fcS S LF b).1 (fcS S LF b).2) 4096))
    rw [q_fc h LF b, q_fit h, q_cst h]
theorem q_fcF (h : E8 S S') : fcS S' = fcS S := by funext LF b; exact q_fc h LF b
theorem q_HC (h : E8 S S') {LF : aLF} {I : Nat → Nat → Int32} {J : Nat → Nat → Int64} (hc : HC S LF I J) : HC S' LF I J := by
  unfold HC HB at hc ⊢
  rw [q_ons h, q_can h]
  exact hc
theorem q_PR (h : E8 S S') {LF : aLF} {I : Nat → Nat → Int32} (hc : PR S LF I) : PR S' LF I := by
  unfold PR at hc ⊢
  rw [q_lc h, q_lw h, q_on2 h, q_fcF h, h 10 (by decide)]
  exact hc
end EIG
/-! words of four bytes -/
theorem shl_or (n : Nat) (hn : n < 32) (x y : Int32) : (x ||| y) <<< (nI n &&& 31) = x <<< (nI n &&& 31) ||| y <<< (nI n &&& 31) := b_ext (fun i hi => by
  rw [b_or, b_shl n hn _ hi, b_or, b_shl n hn _ hi, b_shl n hn _ hi, Bool.and_or_distrib_left])
theorem shl_shl (m n : Nat) (hn : m + n < 32) (x : Int32) : (x <<< (nI m &&& 31)) <<< (nI n &&& 31) = x <<< (nI (m + n) &&& 31) := b_ext (fun i hi => by
  rw [b_shl n (by omega) _ hi, b_shl (m + n) hn _ hi, b_shl m (by omega) _ (by omega)]
  by_cases q : m + n ≤ i
  · rw [decide_eq_true q, decide_eq_true (show n ≤ i by omega), decide_eq_true (show m ≤ i - n by omega), show i - n - m = i - (m + n) by omega]
    rfl
  · rw [decide_eq_false q]
    by_cases z : n ≤ i
    · rw [decide_eq_false (show ¬ m ≤ i - n by omega), Bool.false_and, Bool.and_false, Bool.false_and]
    · rw [decide_eq_false z, Bool.false_and, Bool.false_and])
theorem shl_0 (n : Nat) (hn : n < 32) : nI 0 <<< (nI n &&& 31) = nI 0 := b_ext (fun i hi => by
  rw [b_shl n hn _ hi, bt_nI (by omega), bt_nI hi, Nat.zero_testBit, Nat.zero_testBit, Bool.and_false])
theorem zor (x : Int32) : nI 0 ||| x = x := b_ext (fun i hi => by rw [b_or, bt_nI hi, Nat.zero_testBit, Bool.false_or])
theorem wd4 (a b c e : Int32) : (((nI 0 <<< (nI 8 &&& 31) ||| a) <<< (nI 8 &&& 31) ||| b) <<< (nI 8 &&& 31) ||| c) <<< (nI 8 &&& 31) ||| e = a <<< (nI 24 &&& 31) ||| b <<< (nI 16 &&& 31) ||| c <<< (nI 8 &&& 31) ||| e := by
  have e1 : ∀ x : Int32, (x <<< (nI 8 &&& 31)) <<< (nI 8 &&& 31) = x <<< (nI 16 &&& 31) := fun x => shl_shl 8 8 (by decide) x
  have e2 : ∀ x : Int32, (x <<< (nI 8 &&& 31)) <<< (nI 16 &&& 31) = x <<< (nI 24 &&& 31) := fun x => shl_shl 8 16 (by decide) x
  rw [shl_0 8 (by decide), zor, shl_or 8 (by decide), shl_or 8 (by decide), shl_or 8 (by decide), e1, e1, e2]
def oN (B : Nat → Nat) (t j : Nat) : Nat := if j < t then B j else 0
def sF (B : Nat → Nat) (t r : Nat) : Int32 := if 4 * r + 3 < t then nI (B (4 * r)) <<< (nI 24 &&& 31) ||| nI (B (4 * r + 1)) <<< (nI 16 &&& 31) ||| nI (B (4 * r + 2)) <<< (nI 8 &&& 31) ||| nI (B (4 * r + 3)) else nI 0
section ROW
variable {N : Nat} {X : Nat → Int32} {ow : Nat → Nat} {S : Nat → Nat → Nat} {LF : aLF} {g : aG} {I : Nat → Nat → Int32} {J : Nat → Nat → Int64} {Q : aQ} {d : Nat} {B : Nat → Nat} {t : Nat}
theorem c_chCast (hg : Geo g) (hQ : ∀ I', (∀ a k, a ≠ 84 → ¬ (a = 49 ∧ (k = 7 ∨ k = 8)) → I' a k = I a k) → I' 49 7 = (-1 : Int32) → I' 49 8 = nI 0 → (∀ f, f < 6 → I' 84 f = nI 0) → Q none (g, I', J)) : a_call aTab aMX (d + 2) m_Cp_changeCast [.ref 6] (g, I, J) Q := by
  rw [e_Cp_changeCast, b_Cp_changeCast_0 hg]
  refine c_forget hg (fun I' a1 a2 a3 a4 => ?_)
  simp only [exV, true_and]
  rw [b_Cp_changeCast_7]
  exact hQ I' a1 a2 a3 a4
/-- what a figure looks like, or the told sheet, is another: hands and plan stay -/
theorem INV_cs {S' : Nat → Nat → Nat} {I' : Nat → Nat → Int32} (h : INV N X ow S LF g I J) (e8 : E8 S S') (hf : ∀ a j, a ≠ 8 → a ≠ 14 → a ≠ 84 → ¬ (a = 49 ∧ (j = 7 ∨ j = 8)) → a ≠ 91 → ¬ (a = 6 ∧ (j = 11 ∨ j = 12 ∨ j = 14)) → ¬ (a = 89 ∧ (j = 0 ∨ j = 1 ∨ j = 6 ∨ j = 8 ∨ j = 36)) → I' a j = I a j) (hC : CS S' I') (hMS : MS S' (I' 14) (I' 91)) (hW : ∀ i, i = 1 ∨ 371 ≤ i → I' 91 i = I 91 i) (ht : TAP I') (s12 : I' 6 12 = I' 89 6) (s14 : I' 6 14 = nI 0) (s1 : I' 89 1 = nI 0) (h36 : I' 89 36 = nI 0) (h7 : I' 49 7 = (-1 : Int32)) (h8 : I' 49 8 = nI 0) (h84 : ∀ f, f < 6 → I' 84 f = nI 0) : INV N X ow S' LF g I' J := by
  obtain ⟨h1, h2, ⟨h3, h4, h5⟩, h6, -, ⟨z1, z2, z3, z4, z5, z6⟩, ⟨c1, c2, c3, c4, c5⟩, h9⟩ := h
  have r : ∀ a, ¬ (a = 6 ∨ a = 8 ∨ a = 14 ∨ a = 49 ∨ a = 84 ∨ a = 89 ∨ a = 91) → I' a = I a := fun a y => funext (fun j => hf a j (by omega) (by omega) (by omega) (by omega) (by omega) (by omega) (by omega))
  refine ⟨h1, by rw [r 1 (by decide)]; exact h2, ⟨hC, hMS, LJ_cong (fun a y1 y2 => r a (by omega)) hW h5⟩, IMs_c h1.2.2.2.2.2.1 (r 92 (by decide)) (r 93 (by decide)) (fun a y1 _ _ => r a (by omega)) h6, ht, ⟨s12, ?_, by rw [s14, s1], ?_, by rw [r 87 (by decide), r 122 (by decide)]; exact z5, by rw [r 88 (by decide), r 90 (by decide)]; exact z6⟩, ⟨HC_c (r 38 (by decide)) (r 39 (by decide)) rfl (q_HC e8 c1), by rw [r 46 (by decide)]; exact c2, ?_, Or.inl h36, MC_0 h7 h8 h84⟩, ?_⟩
  · rw [hf 6 13 (by decide) (by decide) (by decide) (by decide) (by decide) (by decide) (by decide), hf 89 13 (by decide) (by decide) (by decide) (by decide) (by decide) (by decide) (by decide)]; exact z2
  · rw [hf 6 15 (by decide) (by decide) (by decide) (by decide) (by decide) (by decide) (by decide), hf 89 61 (by decide) (by decide) (by decide) (by decide) (by decide) (by decide) (by decide)]; exact z4
  · rcases c3 with w | ⟨w1, w2⟩
    · exact Or.inl (by rw [r 44 (by decide)]; exact w)
    · refine Or.inr ⟨by rw [r 44 (by decide)]; exact w1, ?_⟩
      have := q_PR e8 w2
      unfold PR at this ⊢
      rw [r 44 (by decide), r 47 (by decide)]; exact this
  · unfold STA at h9 ⊢
    rw [r 2 (by decide), r 3 (by decide), r 4 (by decide)]; exact h9
theorem c_takeOutline (hg : Geo g) {n : Nat} (hn : n < 6) (h11 : I 6 11 = nI t) (ht : t ≤ 400) (h22 : ∀ i, i < t → I 22 i = nI (B i)) : a_call aTab aMX (d + 2) m_Cp_takeOutline [.ref 6, .int (nI n)] (g, I, J) Q = Q (some (.int (nI (fb_sm (fun j => pcI (nI (oN B t j))) 8)))) (g, u2 (wr I 8 (n * 8) (fun j => nI (oN B t j)) 8) 6 12 (nI (t - 8)), J) := by
  rw [e_Cp_takeOutline, b_Cp_takeOutline_0]
  obtain ⟨F, eF⟩ : ∃ F : Nat → Int32, F = fun j => nI (oN B t j) := ⟨_, rfl⟩
  obtain ⟨G, eG⟩ : ∃ G : Nat → Nat, G = fun j => pcI (nI (oN B t j)) := ⟨_, rfl⟩
  rw [← eF, ← eG]
  have hp : ∀ v4, a_wp aTab aMX (d + 1) m_Cp_takeOutline 4 [.ref 6, .int (nI n), .int (nI (fb_sm G 0)), .int (nI 0), v4] [] (g, wr I 8 (n * 8) F 0, J) Q = Q (some (.int (nI (fb_sm G 8)))) (g, u2 (wr I 8 (n * 8) F 8) 6 12 (nI (t - 8)), J) := by
    refine dn (P := fun k => ∀ v4, a_wp aTab aMX (d + 1) m_Cp_takeOutline 4 [.ref 6, .int (nI n), .int (nI (fb_sm G k)), .int (nI k), v4] [] (g, wr I 8 (n * 8) F k, J) Q = Q (some (.int (nI (fb_sm G 8)))) (g, u2 (wr I 8 (n * 8) F 8) 6 12 (nI (t - 8)), J)) (n := 8) ?_ ?_ 0 (by omega)
    · intro v4
      rw [b_Cp_takeOutline_4]
      simp (disch := omega) only [↓reduceIte, nadd, nmul, nsub, nlt, neq, ncl, nvi, ndiv, nrem, nand, nor, nxor, nshl, nshr, exI, exJ, exV, eq_self, true_and, and_true, true_or, or_true, if_true, if_false, not_true, not_false_eq_true, false_and, and_false, decide_true, decide_false, bi_T, bi_F, bi_0, bi_1, bi_z, bft, n10, n01, Nat.reduceEqDiff, Nat.reduceLT, Nat.reduceAdd, Nat.reduceMul, reduceCtorEq, Nat.lt_irrefl]
      rw [b_Cp_takeOutline_60 hg, wr_n (show ¬ (6 = 8 ∧ n * 8 ≤ 11 ∧ 11 < n * 8 + 8) by omega), h11]
      by_cases q : 8 ≤ t
      · rw [nsub q]
        by_cases q2 : t = 8
        · rw [q2, if_neg (by decide)]
        · rw [if_pos (by rw [nlt (by omega) (by omega)]; omega)]
      · rw [show t - 8 = 0 by omega, if_neg (show ¬ nI 0 < nI t - nI 8 from fun z => Int32.lt_irrefl (Int32.lt_trans (show nI t - nI 8 < nI 0 from pk_sneg (by omega) (by omega)) z))]
    · intro k hk ih v4
      rw [fb_sm_succ, ← wr_s, show G k = pcI (nI (oN B t k)) by rw [eG], show F k = nI (oN B t k) by rw [eF]] at ih
      rw [b_Cp_takeOutline_4]
      have e6 : wr I 8 (n * 8) F k 6 11 = nI t := by rw [wr_n (by omega)]; exact h11
      by_cases q : k < t
      · have e22 : wr I 8 (n * 8) F k 22 k = nI (oN B t k) := by rw [wr_n (by omega), h22 k q]; unfold oN; rw [if_pos q]
        simp (disch := omega) only [↓reduceIte, nadd, nmul, nsub, nlt, neq, ncl, nvi, ndiv, nrem, nand, nor, nxor, nshl, nshr, exI, exJ, exV, eq_self, true_and, and_true, true_or, or_true, if_true, if_false, not_true, not_false_eq_true, false_and, and_false, decide_true, decide_false, bi_T, bi_F, bi_0, bi_1, bi_z, bft, n10, n01, Nat.reduceEqDiff, Nat.reduceLT, Nat.reduceAdd, Nat.reduceMul, reduceCtorEq, hk, b_Cp_takeOutline_10 hg, b_Cp_takeOutline_18 hg, b_Cp_takeOutline_28 hg, b_Cp_takeOutline_52, e6, q, e22, c_bitI]
        exact ih _
      · have e0 : oN B t k = 0 := if_neg q
        rw [e0] at ih
        simp (disch := omega) only [↓reduceIte, nadd, nmul, nsub, nlt, neq, ncl, nvi, ndiv, nrem, nand, nor, nxor, nshl, nshr, exI, exJ, exV, eq_self, true_and, and_true, true_or, or_true, if_true, if_false, not_true, not_false_eq_true, false_and, and_false, decide_true, decide_false, bi_T, bi_F, bi_0, bi_1, bi_z, bft, n10, n01, Nat.reduceEqDiff, Nat.reduceLT, Nat.reduceAdd, Nat.reduceMul, reduceCtorEq, hk, b_Cp_takeOutline_10 hg, b_Cp_takeOutline_27, b_Cp_takeOutline_28 hg, b_Cp_takeOutline_52, e6, q, c_bitI]
        exact ih _
  have h0 := hp aU
  rw [wr_0] at h0
  exact h0
theorem c_takeSheet (hg : Geo g) (h11 : I 6 11 = nI t) (ht : t ≤ 400) (h22 : ∀ i, i < t → I 22 i = nI (B i)) : a_call aTab aMX (d + 3) m_Cp_takeSheet [.ref 6] (g, I, J) Q = Q (some (.int (nI (tCells (sF B t))))) (g, u2 (wr I 14 0 (sF B t) 16) 6 12 (nI (t - 4 * min 16 (t / 4))), J) := by
  rw [e_Cp_takeSheet, b_Cp_takeSheet_0 hg, h11, ndiv (by omega) (by decide) (by decide)]
  obtain ⟨w, ew⟩ : ∃ w, w = min 16 (t / 4) := ⟨_, rfl⟩
  have hw : (if nI (t / 4) < nI 16 then nI (t / 4) else nI 16) = nI w := by
    by_cases q : t / 4 < 16
    · rw [if_pos (by rw [nlt (by omega) (by decide)]; exact q), show w = t / 4 by omega]
    · rw [if_neg (by rw [nlt (by omega) (by decide)]; exact q), show w = 16 by omega]
  rw [hw, ← ew]
  obtain ⟨F, eF⟩ : ∃ F : Nat → Int32, F = sF B t := ⟨_, rfl⟩
  rw [← eF]
  have hp : ∀ v3 v4, a_wp aTab aMX (d + 2) m_Cp_takeSheet 14 [.ref 6, .int (nI w), .int (nI 0), v3, v4] [] (g, wr I 14 0 F 0, J) Q = Q (some (.int (nI (tCells F)))) (g, u2 (wr I 14 0 F 16) 6 12 (nI (t - 4 * w)), J) := by
    refine dn (P := fun k => ∀ v3 v4, a_wp aTab aMX (d + 2) m_Cp_takeSheet 14 [.ref 6, .int (nI w), .int (nI k), v3, v4] [] (g, wr I 14 0 F k, J) Q = Q (some (.int (nI (tCells F)))) (g, u2 (wr I 14 0 F 16) 6 12 (nI (t - 4 * w)), J)) (n := 16) ?_ ?_ 0 (by omega)
    · intro v3 v4
      have e6 : wr I 14 0 F 16 6 11 = nI t := by rw [wr_n (by omega)]; exact h11
      have et : tCells (u2 (wr I 14 0 F 16) 6 12 (nI (t - 4 * w)) 14) = tCells F := fb_sm_cong (fun r hr => by rw [u2_a (by decide), wr_i0 hr])
      rw [b_Cp_takeSheet_14]
      simp (disch := omega) only [↓reduceIte, nadd, nmul, nsub, nlt, neq, ncl, nvi, ndiv, nrem, nand, nor, nxor, nshl, nshr, exI, exJ, exV, eq_self, true_and, and_true, true_or, or_true, if_true, if_false, not_true, not_false_eq_true, false_and, and_false, decide_true, decide_false, bi_T, bi_F, bi_0, bi_1, bi_z, bft, n10, n01, Nat.reduceEqDiff, Nat.reduceLT, Nat.reduceAdd, Nat.reduceMul, reduceCtorEq, Nat.lt_irrefl]
      rw [b_Cp_takeSheet_75 hg, e6, nmul, nsub (by omega), show w * 4 = 4 * w by omega, c_toldCells hg, et]
      simp only [exI]
      rw [b_Cp_takeSheet_94]
    · intro k hk ih v3 v4
      rw [← wr_s0, show F k = sF B t k by rw [eF]] at ih
      rw [b_Cp_takeSheet_14]
      by_cases q : k < w
      · have e22 : ∀ j, j < 4 → wr I 14 0 F k 22 (k * 4 + j) = nI (B (4 * k + j)) := fun j hj => by rw [wr_n (by omega), h22 _ (by omega), show k * 4 + j = 4 * k + j by omega]
        have e0 := e22 0 (by decide)
        rw [Nat.add_zero, Nat.add_zero] at e0
        unfold sF at ih
        rw [if_pos (by omega), ← wd4] at ih
        simp (disch := omega) only [↓reduceIte, nadd, nmul, nsub, nlt, neq, ncl, nvi, ndiv, nrem, exI, exJ, exV, eq_self, true_and, and_true, true_or, or_true, if_true, if_false, not_true, not_false_eq_true, false_and, and_false, decide_true, decide_false, bi_T, bi_F, bi_0, bi_1, bi_z, bft, n10, n01, Nat.reduceEqDiff, Nat.reduceLT, Nat.reduceAdd, Nat.reduceMul, reduceCtorEq, hk, q, b_Cp_takeSheet_20, b_Cp_takeSheet_27, b_Cp_takeSheet_30, b_Cp_takeSheet_36 hg, b_Cp_takeSheet_59 hg, e22, e0, Nat.add_zero, Nat.zero_add]
        exact ih _ _
      · unfold sF at ih
        rw [if_neg (by omega)] at ih
        simp (disch := omega) only [↓reduceIte, nadd, nmul, nsub, nlt, neq, ncl, nvi, ndiv, nrem, exI, exJ, exV, eq_self, true_and, and_true, true_or, or_true, if_true, if_false, not_true, not_false_eq_true, false_and, and_false, decide_true, decide_false, bi_T, bi_F, bi_0, bi_1, bi_z, bft, n10, n01, Nat.reduceEqDiff, Nat.reduceLT, Nat.reduceAdd, Nat.reduceMul, reduceCtorEq, hk, q, b_Cp_takeSheet_20, b_Cp_takeSheet_59 hg]
        exact ih _ _
  have h0 := hp aU aU
  rw [wr_0] at h0
  exact h0
end ROW
