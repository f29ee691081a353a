/-! ===== the class reads expressions: its methods ===== -/
section RD2
variable {g : aG} {B : Nat → Nat} {n : Nat}
theorem RD_u {I : Nat → Nat → Int32} {p lv u a k : Nat} {v : Int32} (h : RD B n p lv u I) (ha : a ≠ 23 ∨ (k ≠ 5 ∧ k ≠ 6 ∧ k ≠ 7 ∧ k ≠ 8 ∧ k ≠ 9 ∧ k ≠ 10)) (ha2 : a ≠ 30) (ha3 : a ≠ 24 ∨ k ≠ 2) : RD B n p lv u (u2 I a k v) := by
  have e : ∀ j, j = 5 ∨ j = 6 ∨ j = 7 ∨ j = 8 ∨ j = 9 ∨ j = 10 → u2 I a k v 23 j = I 23 j := fun j hj => if_neg (by omega)
  obtain ⟨⟨c1, c2, c3, c4⟩, r2, r3, r4, r5⟩ := h
  refine ⟨⟨?_, ?_, ?_, ?_⟩, ?_, fun i hi => ?_, ?_, ?_⟩
  · rw [e 6 (by omega)]; exact c1
  · rw [e 7 (by omega)]; exact c2
  · rw [e 8 (by omega)]; exact c3
  · rw [e 9 (by omega)]; exact c4
  · rw [e 5 (by omega)]; exact r2
  · rw [u2_a (fun z => ha2 z.symm)]; exact r3 i hi
  · rw [e 10 (by omega)]; exact r4
  · rw [show u2 I a k v 24 2 = I 24 2 from if_neg (by omega)]; exact r5
/-- what adding a step leaves -/
theorem add_post {I0 I : Nat → Nat → Int32} {p lv u x : Nat} {C : List Nat} (h0 : FD I0 I) (h1 : I 23 1 = I0 23 1) (hR : RD B n p lv (u + C.length) I) (h29 : ∀ i, i < u → I 29 i = I0 29 i) (hc : hC C u (I 29)) : FD I0 (u2 (u2 I 29 (u + C.length) (nI x)) 24 2 (nI (u + C.length + 1))) ∧ u2 (u2 I 29 (u + C.length) (nI x)) 24 2 (nI (u + C.length + 1)) 23 1 = I0 23 1 ∧ RD B n p lv (u + (C ++ [x]).length) (u2 (u2 I 29 (u + C.length) (nI x)) 24 2 (nI (u + C.length + 1))) ∧ (∀ i, i < u → u2 (u2 I 29 (u + C.length) (nI x)) 24 2 (nI (u + C.length + 1)) 29 i = I0 29 i) ∧ hC (C ++ [x]) u (u2 (u2 I 29 (u + C.length) (nI x)) 24 2 (nI (u + C.length + 1)) 29) := by
  have e29 : ∀ i, u2 (u2 I 29 (u + C.length) (nI x)) 24 2 (nI (u + C.length + 1)) 29 i = if i = u + C.length then nI x else I 29 i := by
    intro i
    rw [u2_a (by decide)]
    by_cases q : i = u + C.length
    · rw [if_pos q, q, u2_s]
    · rw [if_neg q, u2_k q]
  have el : (C ++ [x]).length = C.length + 1 := by rw [List.length_append]; rfl
  refine ⟨⟨fun a x1 x2 x3 => ?_, fun k hk => ?_, fun k hk => ?_⟩, ?_, ?_, fun i hi => ?_, ?_⟩
  · rw [u2_r x2, u2_r x3]; exact h0.1 a x1 x2 x3
  · rw [u2_a (by decide), u2_a (by decide)]; exact h0.2.1 k hk
  · rw [u2_k hk, u2_a (by decide)]; exact h0.2.2 k hk
  · rw [u2_a (by decide), u2_a (by decide)]; exact h1
  · rw [el]
    have := RD_u (a := 29) (k := u + C.length) (v := nI x) hR (by omega) (by omega) (by omega)
    obtain ⟨⟨c1, c2, c3, c4⟩, r2, r3, r4, r5⟩ := this
    exact ⟨⟨by rw [u2_a (by decide)]; exact c1, by rw [u2_a (by decide)]; exact c2, by rw [u2_a (by decide)]; exact c3, by rw [u2_a (by decide)]; exact c4⟩, by rw [u2_a (by decide)]; exact r2, fun i hi => by rw [u2_a (by decide)]; exact r3 i hi, by rw [u2_a (by decide)]; exact r4, by rw [u2_s, Nat.add_assoc]⟩
  · rw [e29, if_neg (by omega)]; exact h29 i hi
  · rw [hC_app]
    refine ⟨fun i hi => ?_, hC_1.2 ?_⟩
    · rw [e29, if_neg (by omega)]; exact hc i hi
    · rw [e29, if_pos rfl]
theorem loopA (hg : Geo g) (hB : ∀ i, B i ≤ 255) (hn : n ≤ 400) {D L dp p lv u bR : Nat} {f : aF} {I0 : Nat → Nat → Int32} {J : Nat → Nat → Int64} {Q : aQ} (hD : 2 ≤ D) (hL : L = 3 ∨ L = 4) (hu : u ≤ p) (hPf : PP n 0 f) (hf : OKC B n g D m_Reader_readLevel [.ref 23, .int (nI (L + 1)), .int (nI dp)] f) : ∀ fu k, k + fu = 400 → ∀ w I, GPs n 0 u bR p lv w → FD I0 I → I 23 1 = I0 23 1 → RD B n w.1 w.2.1 (u + w.2.2.1.length) I → (∀ i, i < u → I 29 i = I0 29 i) → hC w.2.2.1 u (I 29) → KF B n g I0 J Q u (lpA B n (opL L) f u bR fu w) → ∀ v4 v5, a_wp aTab aMX D m_Reader_readLevel 37 [.ref 23, .int (nI L), .int (nI dp), .int (nI k), v4, v5] [] (g, I, J) Q := by
  have ops : ∀ t o, opL L t = some o → 2 ≤ o ∧ o ≤ 5 ∧ t ≠ 256 := by
    intro t o h
    rcases hL with e | e
    · rw [e] at h; exact oS_o h
    · rw [e] at h; exact oT_o h
  intro fu
  induction fu with
  | zero =>
    intro k hk w I hw h0 h1 hR h29 hc hK v4 v5
    rw [b_Reader_readLevel_37, rlf (by omega) (by omega) (by omega), b_Reader_readLevel_133]
    exact KF_s (w := w) hK I h0 h1 hR h29 hc
  | succ fu ih =>
    intro k hk w I hw h0 h1 hR h29 hc hK v4 v5
    have ht := tk_le (n := n) (p := w.1) hB
    rw [b_Reader_readLevel_37, rlt2 (by omega) (by omega) (by omega), b_Reader_readLevel_44 hg, c_opAt hg (by omega) (by omega) ht hR.1.1]
    simp only [exI]
    rw [b_Reader_readLevel_49]
    unfold lpA at hK
    cases e : opL L (tk B n w.1) with
    | none =>
      rw [e] at hK
      rw [if_pos (show oI none = (-1 : Int32) from rfl), b_Reader_readLevel_57]
      exact KF_s (w := w) hK I h0 h1 hR h29 hc
    | some o =>
      rw [e] at hK
      have ho := ops _ _ e
      have hlt := tk_ne (n := n) (p := w.1) hB rfl ho.2.2
      rw [if_neg (show ¬ oI (some o) = (-1 : Int32) from nI_m1 (by omega)), b_Reader_readLevel_59 hg, rlf (by omega) (by omega) (by omega), b_Reader_readLevel_83 hg]
      refine c_radv hg hB hn (by omega) hw.2.2.2.1 hR ?_
      intro I2 g1 g2
      obtain ⟨g3, g4, g5⟩ := FD_adv g1
      simp only [exV, true_and]
      rw [b_Reader_readLevel_87 hg, nadd]
      have hul : u + w.2.2.1.length ≤ le B n w.1 := by have := hw.1; omega
      refine hf (le B n w.1) w.2.1 (u + w.2.2.1.length) (bR + w.2.2.2.1.length) I2 J _ g2 hul (le_le hw.2.2.2.1) hw.2.2.2.2.2.1 ⟨?_, ?_⟩
      · intro q eq I3 f1 f2
        simp only [exI]
        rw [b_Reader_readLevel_95, if_pos rfl, b_Reader_readLevel_98]
        have eq : f (le B n w.1) w.2.1 (u + w.2.2.1.length) (bR + w.2.2.2.1.length) = .inl q := eq
        rw [eq] at hK
        exact KF_l (q := q) hK (FD_t (FD_t h0 g3) f1) f2
      · intro z eq I3 f1 f2 f3 f4 f5
        simp only [exI]
        have hz := hPf (le B n w.1) w.2.1 (u + w.2.2.1.length) (bR + w.2.2.2.1.length) (le_le hw.2.2.2.1) z eq
        have eq : f (le B n w.1) w.2.1 (u + w.2.2.1.length) (bR + w.2.2.2.1.length) = .inr z := eq
        rw [eq] at hK
        have hbin := bin_P ho.1 (show o ≤ 8 by omega) (show 0 = if o ≤ 5 then 0 else 1 by rw [if_pos ho.2.1]) hlt hw hz
        rw [b_Reader_readLevel_95, if_neg (by decide), b_Reader_readLevel_100, rlf (by omega) (by omega) (by omega), b_Reader_readLevel_117 hg]
        have hc3 : hC (w.2.2.1 ++ z.2.2.1) u (I3 29) := by
          rw [hC_app]
          refine ⟨fun i hi => ?_, f5⟩
          rw [f4 (u + i) (by omega), g5]
          exact hc i hi
        have hR3 : RD B n z.1 z.2.1 (u + (w.2.2.1 ++ z.2.2.1).length) I3 := by rw [List.length_append, ← Nat.add_assoc]; exact f3
        have hlen : (w.2.2.1 ++ z.2.2.1).length = w.2.2.1.length + z.2.2.1.length := List.length_append
        have b1 := hw.1
        have b2 := hz.1
        have b3 := hz.2.2.2.1
        refine c_sAdd (x := 0) hg (by omega) (u := u + (w.2.2.1 ++ z.2.2.1).length) (by omega) (by omega) (by omega) hR3.2.2.2.2 ?_
        simp only [exV, true_and]
        rw [b_Reader_readLevel_127, nadd, show 0 * 16 + o = o by omega]
        obtain ⟨p1, p2, p3, p4, p5⟩ := add_post (x := o) (FD_t (FD_t h0 g3) f1) (f2.trans (g4.trans h1)) hR3 (fun i hi => by rw [f4 i (by omega), g5]; exact h29 i hi) hc3
        exact ih (k + 1) (by omega) _ _ hbin p1 p2 p3 p4 p5 hK _ _
end RD2
