/-! ===== figure, sticks, terms, on, off ===== -/
theorem u2_n {α : Type} {f : Nat → Nat → α} {a k b j : Nat} {v : α} (h : ¬ (b = a ∧ j = k)) : u2 f a k v b j = f b j := if_neg h
theorem fl2_n {α : Type} {f : Nat → Nat → α} {r a b x j : Nat} {v : α} (h : ¬ (x = r ∧ a ≤ j ∧ j < b)) : fl2 f r a b v x j = f x j := if_neg h
theorem CSu {S : Nat → Nat → Nat} {I : Nat → Nat → Int32} {p k v : Nat} (h : ∀ a j, 7 ≤ a → a ≤ 13 → I a j = nI (S a j)) : ∀ a j, 7 ≤ a → a ≤ 13 → u2 I p k (nI v) a j = nI (u2 S p k v a j) := fun a j h1 h2 => by
  unfold u2
  split
  · rfl
  · exact h a j h1 h2
theorem SBu {S : Nat → Nat → Nat} {p k v : Nat} (h : SB S) (hv : v ≤ 255) (h7 : p = 7 → v ≤ 6 ∧ ∀ f, f < v → 1 ≤ S 9 f) (h9 : p = 9 → 1 ≤ v ∧ v ≤ 2) (h11 : p = 11 → v ≤ 31) (h12 : p = 12 → v ≤ 15) (h13 : p = 13 → v ≤ 32) (h10 : p = 10 → (k = 0 → 2 ≤ v ∧ v ≤ 32) ∧ (k = 1 → v ≤ 16) ∧ (k = 2 → v ≤ 3) ∧ (k = 3 → v ≤ 1) ∧ (k = 4 → v ≤ 6) ∧ (k = 5 → v ≤ 31) ∧ (k = 6 → v ≤ 31)) : SB (u2 S p k v) := by
  obtain ⟨a1, a2, a3, a4, a5, a6, ⟨b0, b0', b1, b2, b3, b4, b5, b6⟩, a8⟩ := h
  have g : ∀ a j, u2 S p k v a j = if a = p ∧ j = k then v else S a j := fun _ _ => rfl
  refine ⟨fun a j y1 y2 => ?_, fun j => ?_, fun j => ?_, fun j => ?_, fun j => ?_, fun j => ?_, ⟨?_, ?_, ?_, ?_, ?_, ?_, ?_, ?_⟩, fun f hf => ?_⟩
  · rw [g]; split
    · exact hv
    · exact a1 a j y1 y2
  · rw [g]; split
    · next z => exact (h7 z.1.symm).1
    · exact a2 j
  · rw [g]; split
    · next z => exact (h9 z.1.symm).2
    · exact a3 j
  · rw [g]; split
    · next z => exact h11 z.1.symm
    · exact a4 j
  · rw [g]; split
    · next z => exact h12 z.1.symm
    · exact a5 j
  · rw [g]; split
    · next z => exact h13 z.1.symm
    · exact a6 j
  · rw [g]; split
    · next z => exact ((h10 z.1.symm).1 z.2.symm).1
    · exact b0
  · rw [g]; split
    · next z => exact ((h10 z.1.symm).1 z.2.symm).2
    · exact b0'
  · rw [g]; split
    · next z => exact (h10 z.1.symm).2.1 z.2.symm
    · exact b1
  · rw [g]; split
    · next z => exact (h10 z.1.symm).2.2.1 z.2.symm
    · exact b2
  · rw [g]; split
    · next z => exact (h10 z.1.symm).2.2.2.1 z.2.symm
    · exact b3
  · rw [g]; split
    · next z => exact (h10 z.1.symm).2.2.2.2.1 z.2.symm
    · exact b4
  · rw [g]; split
    · next z => exact (h10 z.1.symm).2.2.2.2.2.1 z.2.symm
    · exact b5
  · rw [g]; split
    · next z => exact (h10 z.1.symm).2.2.2.2.2.2 z.2.symm
    · exact b6
  · rw [g] at hf ⊢
    split
    · next z => exact (h9 z.1.symm).1
    · split at hf
      · next z => exact (h7 z.1.symm).2 f hf
      · exact a8 f hf
section MSU
variable {S : Nat → Nat → Nat} {T W W' : Nat → Int32}
theorem MS_7 {v : Nat} (h : MS S T W) (h1 : ∀ i, i ≠ 0 → W' i = W i) (h2 : W' 0 = nI v) : MS (u2 S 7 0 v) T W' := by
  obtain ⟨a1, a2, a3, a4, a5, a6, a7, a8⟩ := h
  refine ⟨by rw [u2_s]; exact h2, fun i hi => ?_, fun f hf => ?_, fun k hk => ?_, fun p hp => ?_, fun p hp => ?_, fun p hp => ?_, fun r hr => ?_⟩
  · rw [h1 _ (by omega), u2_a (by decide)]; exact a2 i hi
  · rw [h1 _ (by omega), u2_a (by decide)]; exact a3 f hf
  · rw [h1 _ (by omega), u2_a (by decide)]; exact a4 k hk
  · rw [h1 _ (by omega), u2_a (by decide)]; exact a5 p hp
  · rw [h1 _ (by omega), h1 _ (by omega), u2_a (by decide), u2_a (by decide), u2_a (by decide)]; exact a6 p hp
  · rw [h1 _ (by omega), u2_a (by decide)]; exact a7 p hp
  · rw [h1 _ (by omega)]; exact a8 r hr
theorem MS_9 {j m : Nat} (h : MS S T W) (hj : j < 6) (h1 : ∀ i, i ≠ 10 + j → W' i = W i) (h2 : W' (10 + j) = nI m) : MS (u2 S 9 j m) T W' := by
  obtain ⟨a1, a2, a3, a4, a5, a6, a7, a8⟩ := h
  refine ⟨by rw [h1 _ (by omega), u2_a (by decide)]; exact a1, fun i hi => ?_, fun f hf => ?_, fun k hk => ?_, fun p hp => ?_, fun p hp => ?_, fun p hp => ?_, fun r hr => ?_⟩
  · rw [h1 _ (by omega), u2_a (by decide)]; exact a2 i hi
  · by_cases q : f = j
    · rw [q, u2_s]; exact h2
    · rw [h1 _ (by omega), u2_k q]; exact a3 f hf
  · rw [h1 _ (by omega), u2_a (by decide)]; exact a4 k hk
  · rw [h1 _ (by omega), u2_a (by decide)]; exact a5 p hp
  · rw [h1 _ (by omega), h1 _ (by omega), u2_a (by decide), u2_a (by decide), u2_a (by decide)]; exact a6 p hp
  · rw [h1 _ (by omega), u2_a (by decide)]; exact a7 p hp
  · rw [h1 _ (by omega)]; exact a8 r hr
theorem MS_10 {j m : Nat} (h : MS S T W) (hj : j < 7) (h1 : ∀ i, i ≠ 2 + j → W' i = W i) (h2 : W' (2 + j) = nI m) : MS (u2 S 10 j m) T W' := by
  obtain ⟨a1, a2, a3, a4, a5, a6, a7, a8⟩ := h
  refine ⟨by rw [h1 _ (by omega), u2_a (by decide)]; exact a1, fun i hi => ?_, fun f hf => ?_, fun k hk => ?_, fun p hp => ?_, fun p hp => ?_, fun p hp => ?_, fun r hr => ?_⟩
  · by_cases q : i = j
    · rw [q, u2_s]; exact h2
    · rw [h1 _ (by omega), u2_k q]; exact a2 i hi
  · rw [h1 _ (by omega), u2_a (by decide)]; exact a3 f hf
  · rw [h1 _ (by omega), u2_a (by decide)]; exact a4 k hk
  · rw [h1 _ (by omega), u2_a (by decide)]; exact a5 p hp
  · rw [h1 _ (by omega), h1 _ (by omega), u2_a (by decide), u2_a (by decide), u2_a (by decide)]; exact a6 p hp
  · rw [h1 _ (by omega), u2_a (by decide)]; exact a7 p hp
  · rw [h1 _ (by omega)]; exact a8 r hr
theorem MS_p {q x y z : Nat} (h : MS S T W) (hq : q < 72) (h1 : ∀ i, ¬ (64 + 4 * q ≤ i ∧ i < 64 + 4 * q + 4) → W' i = W i) (h2 : W' (64 + 4 * q) = nI (if 0 < z then 1 else 0)) (h3 : 0 < z → W' (64 + 4 * q + 1) = nI x ∧ W' (64 + 4 * q + 2) = nI y) (h4 : W' (64 + 4 * q + 3) = nI z) : MS (u2 (u2 (u2 S 11 q x) 12 q y) 13 q z) T W' := by
  obtain ⟨a1, a2, a3, a4, a5, a6, a7, a8⟩ := h
  refine ⟨by rw [h1 _ (by omega), u2_a (by decide), u2_a (by decide), u2_a (by decide)]; exact a1, fun i hi => ?_, fun f hf => ?_, fun k hk => ?_, fun p hp => ?_, fun p hp => ?_, fun p hp => ?_, fun r hr => ?_⟩
  · rw [h1 _ (by omega), u2_a (by decide), u2_a (by decide), u2_a (by decide)]; exact a2 i hi
  · rw [h1 _ (by omega), u2_a (by decide), u2_a (by decide), u2_a (by decide)]; exact a3 f hf
  · rw [h1 _ (by omega), u2_a (by decide), u2_a (by decide), u2_a (by decide)]; exact a4 k hk
  · by_cases e : p = q
    · rw [e, u2_s]; exact h2
    · rw [h1 _ (by omega), u2_k e, u2_a (by decide), u2_a (by decide)]; exact a5 p hp
  · by_cases e : p = q
    · rw [e, u2_s, u2_a (by decide), u2_a (by decide), u2_s, u2_a (by decide), u2_s]; exact h3
    · rw [h1 _ (by omega), h1 _ (by omega), u2_k e, u2_a (by decide), u2_a (by decide), u2_k e, u2_k e, u2_k e, u2_k e, u2_k e, u2_k e]; exact a6 p hp
  · by_cases e : p = q
    · rw [e, u2_s]; exact h4
    · rw [h1 _ (by omega), u2_k e, u2_a (by decide), u2_a (by decide)]; exact a7 p hp
  · rw [h1 _ (by omega)]; exact a8 r hr
end MSU
section SCN
variable {N : Nat} {X : Nat → Int32} {ow : Nat → Nat} {S : Nat → Nat → Nat} {LF : aLF} {g : aG} {I : Nat → Nat → Int32} {J : Nat → Nat → Int64} {Q : aQ} {d : Nat}
theorem tl_rf {v : Int32} {r : Nat} (h : INV N X ow S LF g I J) (hv : v = -(nI r)) (h1 : 1 ≤ r) (h2 : r < 7) : a_call aTab aMX (d + 1) m_Mo_tell [.ref 89, .int v] (g, u2 (rfC I v r) 89 0 (nI 0), J) Q = Q (some (.int v)) (g, rfM (rfC I v r) v r, J) := by
  have h36 : u2 (rfC I v r) 89 0 (nI 0) 89 36 = I 89 36 := by rw [u2_k (by decide)]; unfold rfC; rw [u2_a (by decide), u2_a (by decide)]
  rw [c_tellR h.1.1 hv h1 h2 (by rw [h36]; exact rc36 h)]
  have e90 : u2 (rfC I v r) 89 0 (nI 0) 90 r = rfC I v r 90 r := u2_a (by decide)
  rw [e90]
  rfl
theorem both_r {m1 m2 : Nat} {as : List Value} (h : INV N X ow S LF g I J) (v : Int32) (r : Nat) (h1 : 1 ≤ r) (h2 : r < 7) (hc : ∀ Q : aQ, Q (some (.int v)) (g, rfC I v r, J) → a_call aTab aMX d m1 (.ref 6 :: as) (g, I, J) Q) (hm : ∀ Q : aQ, Q (some (.int v)) (g, rfM (rfC I v r) v r, J) → a_call aTab aMX d m2 (.ref 89 :: as) (g, rfC I v r, J) Q) : BOTH N X d m1 m2 as (g, I, J) := both_i v hc (by rw [rfC_1]; exact h.2.1) h.1.2.2.1 (hm _ ⟨v, rfl, rfl, INVx_i (INV_rf h1 h2 h)⟩)
theorem hMr {v : Int32} {r : Nat} (h : INV N X ow S LF g I J) : MS S (I 14) (u2 (rfC I v r) 89 0 (nI 0) 91) := by rw [u2_r (by decide), rfC_o (by decide) (by decide)]; exact h.2.2.1.2.1
/-- a small change of the scene -/
theorem INV_sm {S' : Nat → Nat → Nat} {I' : Nat → Nat → Int32} (h : INV N X ow S LF g I J) (hf : ∀ a j, ¬ (7 ≤ a ∧ a ≤ 13) → a ≠ 39 → ¬ (a = 44 ∧ j = 0) → a ≠ 49 → a ≠ 84 → a ≠ 91 → ¬ (a = 6 ∧ j = 14) → ¬ (a = 89 ∧ (j = 0 ∨ j = 1 ∨ j = 36)) → I' a j = I a j) (h6 : I' 6 14 = nI 0) (h1 : I' 89 1 = nI 0) (h36 : I' 89 36 = nI 0) (h39 : ∀ b, b < 12 → I' 39 b = nI 0) (h44 : I' 44 0 = nI 0) (hC : CS S' I') (hMS : MS S' (I 14) (I' 91)) (hW : ∀ i, i = 1 ∨ 371 ≤ i → I' 91 i = I 91 i) (hM : MC S' (I 14) g I' J) : INV N X ow S' LF g I' J := by
  obtain ⟨B, t, t1, t2, t3, t4, t5⟩ := h.2.2.2.2.1
  obtain ⟨s1, s2, s3, s4, s5, s6⟩ := h.2.2.2.2.2.1
  have r : ∀ a, ¬ (7 ≤ a ∧ a ≤ 13) → a ≠ 39 → a ≠ 44 → a ≠ 49 → a ≠ 84 → a ≠ 91 → a ≠ 6 → a ≠ 89 → I' a = I a := fun a y1 y2 y3 y4 y5 y6 y7 y8 => funext (fun j => hf a j y1 y2 (by omega) y4 y5 y6 (by omega) (by omega))
  have e14 : I' 14 = I 14 := r 14 (by decide) (by decide) (by decide) (by decide) (by decide) (by decide) (by decide) (by decide)
  refine INV_sc h (fun a y1 y2 y3 y4 y5 y6 y7 y8 y9 y10 y11 y12 => r a (by omega) y3 y4 y5 y6 y11 y1 y9) ⟨hC, by rw [e14]; exact hMS, LJ_cong (fun a y1 y2 => r a (by omega) (by omega) (by omega) (by omega) (by omega) (by omega) (by omega) (by omega)) hW h.2.2.1.2.2⟩ ⟨B, t, t1, t2, ?_, ?_, fun i hi => ⟨?_, ?_⟩⟩ ⟨?_, ?_, by rw [h6, h1], ?_, fun b hb => ?_, fun q y1 y2 => ?_⟩ h39 h44 h36 (by rw [e14]; exact hM) (fun _ _ _ => rfl)
  · rw [hf 6 11 (by decide) (by decide) (by decide) (by decide) (by decide) (by decide) (by decide) (by decide)]; exact t3
  · rw [hf 89 8 (by decide) (by decide) (by decide) (by decide) (by decide) (by decide) (by decide) (by decide)]; exact t4
  · rw [hf 22 i (by decide) (by decide) (by omega) (by decide) (by decide) (by decide) (by omega) (by omega)]; exact (t5 i hi).1
  · rw [hf 94 i (by decide) (by decide) (by omega) (by decide) (by decide) (by decide) (by omega) (by omega)]; exact (t5 i hi).2
  · rw [hf 6 12 (by decide) (by decide) (by decide) (by decide) (by decide) (by decide) (by decide) (by decide), hf 89 6 (by decide) (by decide) (by decide) (by decide) (by decide) (by decide) (by decide) (by decide)]; exact s1
  · rw [hf 6 13 (by decide) (by decide) (by decide) (by decide) (by decide) (by decide) (by decide) (by decide), hf 89 13 (by decide) (by decide) (by decide) (by decide) (by decide) (by decide) (by decide) (by decide)]; exact s2
  · rw [hf 6 15 (by decide) (by decide) (by decide) (by decide) (by decide) (by decide) (by decide) (by decide), hf 89 61 (by decide) (by decide) (by decide) (by decide) (by decide) (by decide) (by decide) (by decide)]; exact s4
  · rw [hf 87 b (by decide) (by decide) (by omega) (by decide) (by decide) (by decide) (by omega) (by omega), hf 122 b (by decide) (by decide) (by omega) (by decide) (by decide) (by decide) (by omega) (by omega)]; exact s5 b hb
  · rw [hf 88 q (by decide) (by decide) (by omega) (by decide) (by decide) (by decide) (by omega) (by omega), hf 90 q (by decide) (by decide) (by omega) (by decide) (by decide) (by decide) (by omega) (by omega)]; exact s6 q y1 y2
/-- what the maker knows is not concerned -/
theorem MC_k {S' : Nat → Nat → Nat} {I' : Nat → Nat → Int32} (h : INV N X ow S LF g I J) (h8 : S' 8 = S 8) (h10 : S' 10 0 = S 10 0) (hf : ∀ a j, 49 ≤ a → ¬ (89 ≤ a ∧ a ≤ 91) → I' a j = I a j) : MC S' (I 14) g I' J := MC_c h.1.2.2.2.1 (fun a y1 y2 => funext (fun j => hf a j y1 (by omega))) ⟨rfl, rfl⟩ (fun a y1 _ _ => ⟨funext (fun j => hf a j (by omega) (by omega)), rfl⟩) (MC_S h8 h10 h.2.2.2.2.2.2.1.2.2.2.2)
end SCN
