/-! ===== what a cast can make; the class gathers the shadows of a cast ===== -/
def inM (c t : Nat) : Prop := t ≠ 0 ∧ t &&& c = t ∧ sz t ≤ 3
theorem inM_bit {c t f : Nat} (h : inM c t) (hb : t.testBit f = true) : c.testBit f = true := by
  have := h.2.1
  rw [← this, Nat.testBit_and, Bool.and_eq_true] at hb
  exact hb.2
noncomputable def wM (fu : Nat) (A : Nat → List (Nat × Nat)) (c t : Nat) : Nat := @ite _ (inM c t) (Classical.propDecidable _) (wS fu A t) 0
theorem wM_y {fu c t : Nat} {A : Nat → List (Nat × Nat)} (h : inM c t) : wM fu A c t = wS fu A t := @if_pos _ (Classical.propDecidable _) h _ _ _
theorem wM_n {fu c t : Nat} {A : Nat → List (Nat × Nat)} (h : ¬ inM c t) : wM fu A c t = 0 := @if_neg _ (Classical.propDecidable _) h _ _ _
noncomputable def totW (fu : Nat) (A : Nat → List (Nat × Nat)) (c : Nat) : Nat := fb_sm (wM fu A c) 64
def BST (fu : Nat) (A : Nat → List (Nat × Nat)) (c n t : Nat) : Prop := t < n ∧ wM fu A c t ≠ 0 ∧ ∀ t', t' < n → wM fu A c t' ≠ 0 → sz t < sz t' ∨ (sz t = sz t' ∧ t ≤ t')
def MADE (fu : Nat) (A : Nat → List (Nat × Nat)) (c n : Nat) (val : Nat → Nat → Nat) (fe se : Int32) (X : Nat → Int32) : Prop := (fb_sm (wM fu A c) n = 0 → fe = (-1 : Int32) ∧ se = nI 0) ∧ (fb_sm (wM fu A c) n ≠ 0 → ∃ t, BST fu A c n t ∧ fe = nI (sz t) ∧ se = nI t ∧ CHO fu A t val X)
theorem wM_in {fu c t : Nat} {A : Nat → List (Nat × Nat)} (h : wM fu A c t ≠ 0) : inM c t := by
  apply Classical.byContradiction
  intro z
  exact h (wM_n z)
theorem sub_all : ∀ s c : Fin 64, decide (nI s.val &&& (nI c.val ^^^ (-1 : Int32)) = nI 0) = decide (s.val &&& c.val = s.val) := by decide +kernel
theorem sub_eq {s c : Nat} (hs : s < 64) (hc : c < 64) : (nI s &&& (nI c ^^^ (-1 : Int32)) = nI 0) = (s &&& c = s) := by
  have := sub_all ⟨s, hs⟩ ⟨c, hc⟩
  exact propext (decide_eq_decide.1 this)
theorem rsub {s c : Nat} {t e : Prop} (hs : s < 64) (hc : c < 64) : (if nI s &&& (nI c ^^^ (-1 : Int32)) = nI 0 then t else e) = (if s &&& c = s then t else e) := by simp only [sub_eq hs hc]
theorem plL_fu {S : Nat → Nat → Nat} {T : Nat → Int32} {f : Nat} : ∀ n i, i < (plL S T f n).length → sbs (LM (plL S T f n) i) (2 ^ tCells T - 1)
  | 0 => fun i hi => absurd hi (Nat.not_lt_zero _)
  | n + 1 => by
    have ih := plL_fu (S := S) (T := T) (f := f) n
    show ∀ i, i < (plA S T f _ _ _ (plL S T f n)).length → sbs (LM (plA S T f _ _ _ (plL S T f n)) i) (2 ^ tCells T - 1)
    unfold plA
    split
    · intro i hi
      rw [List.length_append] at hi
      have hi : i < (plL S T f n).length + 1 := hi
      by_cases q : i < (plL S T f n).length
      · rw [LM_l q]; exact ih i q
      · rw [show i = (plL S T f n).length by omega, LM_e]
        intro k hk
        have hk : (bl (mkb S T f _ _ _) (tCells T)).testBit k = true := hk
        rw [bl_bit, Bool.and_eq_true] at hk
        rw [Nat.testBit_two_pow_sub_one]
        exact hk.1
    · exact ih
/-! new rows -/
theorem gK_new {g : aG} {k n a : Nat} : gK (gnew g k n) a = if a = gx g then k else gK g a := rfl
theorem gN_new {g : aG} {k n a : Nat} : gN (gnew g k n) a = if a = gx g then n else gN g a := rfl
theorem gR_new {g : aG} {k n a j : Nat} : gR (gnew g k n) a j = if a = gx g then 0 else gR g a j := rfl
theorem gx_new {g : aG} {k n : Nat} : gx (gnew g k n) = gx g + 1 := rfl
theorem gs_new {g : aG} {k n : Nat} : gs (gnew g k n) = gs g + n := rfl
theorem gK_put {g : aG} {a k b x : Nat} : gK (gput g a k b) x = gK g x := rfl
theorem gN_put {g : aG} {a k b x : Nat} : gN (gput g a k b) x = gN g x := rfl
theorem gx_put {g : aG} {a k b : Nat} : gx (gput g a k b) = gx g := rfl
theorem gR_put {g : aG} {a k b x j : Nat} : gR (gput g a k b) x j = if x = a ∧ j = k then b else gR g x j := rfl
def gPr (g : aG) : aG := gput (gnew (gput (gnew (gput (gnew (gput (gnew (gput (gnew (gput (gnew (gnew g 5 9) 13 1632) (gx g) 3 (gx g + 1)) 12 1632) (gx g) 4 (gx g + 2)) 13 1664) (gx g) 5 (gx g + 3)) 12 64) (gx g) 6 (gx g + 4)) 12 64) (gx g) 7 (gx g + 5)) 12 1632) (gx g) 8 (gx g + 6)
theorem gPr_ok {g : aG} (hx : 123 ≤ gx g) : PO (gPr g) (gx g) ∧ gx (gPr g) = gx g + 7 ∧ gs (gPr g) = gs g + 6697 ∧ ∀ a, a < gx g → gK (gPr g) a = gK g a ∧ gN (gPr g) a = gN g a ∧ ∀ k, gR (gPr g) a k = gR g a k := by
  have eK : ∀ a, gK (gPr g) a = if a = gx g + 6 then 12 else if a = gx g + 5 then 12 else if a = gx g + 4 then 12 else if a = gx g + 3 then 13 else if a = gx g + 2 then 12 else if a = gx g + 1 then 13 else if a = gx g then 5 else gK g a := fun a => rfl
  have eN : ∀ a, gN (gPr g) a = if a = gx g + 6 then 1632 else if a = gx g + 5 then 64 else if a = gx g + 4 then 64 else if a = gx g + 3 then 1664 else if a = gx g + 2 then 1632 else if a = gx g + 1 then 1632 else if a = gx g then 9 else gN g a := fun a => rfl
  have eR : ∀ a k, gR (gPr g) a k = if a = gx g ∧ k = 8 then gx g + 6 else if a = gx g + 6 then 0 else if a = gx g ∧ k = 7 then gx g + 5 else if a = gx g + 5 then 0 else if a = gx g ∧ k = 6 then gx g + 4 else if a = gx g + 4 then 0 else if a = gx g ∧ k = 5 then gx g + 3 else if a = gx g + 3 then 0 else if a = gx g ∧ k = 4 then gx g + 2 else if a = gx g + 2 then 0 else if a = gx g ∧ k = 3 then gx g + 1 else if a = gx g + 1 then 0 else if a = gx g then 0 else gR g a k := fun a k => rfl
  have e2 : gx (gPr g) = gx g + 7 := rfl
  have e3 : gs (gPr g) = gs g + 9 + 1632 + 1632 + 1664 + 64 + 64 + 1632 := rfl
  generalize gPr g = g' at *
  refine ⟨⟨hx, ?_, ⟨?_, ?_, ?_⟩, ⟨?_, ?_, ?_⟩, ⟨?_, ?_, ?_⟩, ⟨?_, ?_, ?_⟩, ⟨?_, ?_, ?_⟩, ⟨?_, ?_, ?_⟩⟩, e2, ?_, fun a ha => ⟨?_, ?_, fun k => ?_⟩⟩
  all_goals first
    | (rw [eK]; repeat first | rw [if_neg (by omega)] | rw [if_pos (by omega)])
    | (rw [eN]; repeat first | rw [if_neg (by omega)] | rw [if_pos (by omega)])
    | (rw [eR]; repeat first | rw [if_neg (by omega)] | rw [if_pos (by omega)])
    | omega
section PIN
variable {d : Nat} {g : aG} {I : Nat → Nat → Int32} {J : Nat → Nat → Int64} {Q : aQ}
theorem z2_r {α : Type} {f : Nat → Nat → α} {a b : Nat} {v : α} (h : b ≠ a) : z2 f a v b = f b := funext (fun _ => if_neg h)
theorem c_pInit (hx : 123 ≤ gx g) (hQ : ∀ I' J', (∀ a, a < gx g → I' a = I a ∧ J' a = J a) → Q none (gPr g, I', J')) : a_call aTab aMX (d + 1) m_Prints_init [.ref (gx g)] (gnew g 5 9, z2 I (gx g) 0, z2 J (gx g) 0) Q := by
  have kk : ∀ {h : aG} {k n : Nat}, gx g < gx h → gK h (gx g) = 5 → gK (gnew h k n) (gx g) = 5 := fun {h k n} h1 h2 => by rw [gK_new, if_neg (by omega)]; exact h2
  rw [e_Prints_init, b_Prints_init_0, b_Prints_init_9, b_Prints_init_14, b_Prints_init_19, b_Prints_init_28, b_Prints_init_37, b_Prints_init_46, b_Prints_init_54, b_Prints_init_62, b_Prints_init_71]
  have k0 : gK (gnew g 5 9) (gx g) = 5 := by rw [gK_new, if_pos rfl]
  simp (disch := omega) only [ncl, nlt, Nat.not_lt_zero, not_false_eq_true, true_and, Nat.reduceLeDiff]
  have x1 : gx (gnew g 5 9) = gx g + 1 := rfl
  generalize e1 : gput (gnew (gnew g 5 9) 13 1632) (gx g) 3 (gx (gnew g 5 9)) = g1
  have x2 : gx g1 = gx g + 2 := by rw [← e1]; rfl
  have y0 : gK (gnew (gnew g 5 9) 13 1632) (gx g) = 5 := kk (by omega) k0
  have y1 : gK g1 (gx g) = 5 := by rw [← e1]; exact y0
  generalize e2 : gput (gnew g1 12 1632) (gx g) 4 (gx g1) = g2
  have x3 : gx g2 = gx g + 3 := by rw [← e2, gx_put, gx_new, x2]
  have z1 : gK (gnew g1 12 1632) (gx g) = 5 := kk (by omega) y1
  have y2 : gK g2 (gx g) = 5 := by rw [← e2]; exact z1
  generalize e3 : gput (gnew g2 13 1664) (gx g) 5 (gx g2) = g3
  have x4 : gx g3 = gx g + 4 := by rw [← e3, gx_put, gx_new, x3]
  have z2' : gK (gnew g2 13 1664) (gx g) = 5 := kk (by omega) y2
  have y3 : gK g3 (gx g) = 5 := by rw [← e3]; exact z2'
  generalize e4 : gput (gnew g3 12 64) (gx g) 6 (gx g3) = g4
  have x5 : gx g4 = gx g + 5 := by rw [← e4, gx_put, gx_new, x4]
  have z3 : gK (gnew g3 12 64) (gx g) = 5 := kk (by omega) y3
  have y4 : gK g4 (gx g) = 5 := by rw [← e4]; exact z3
  generalize e5 : gput (gnew g4 12 64) (gx g) 7 (gx g4) = g5
  have x6 : gx g5 = gx g + 6 := by rw [← e5, gx_put, gx_new, x5]
  have z4 : gK (gnew g4 12 64) (gx g) = 5 := kk (by omega) y4
  have y5 : gK g5 (gx g) = 5 := by rw [← e5]; exact z4
  have z5 : gK (gnew g5 12 1632) (gx g) = 5 := kk (by omega) y5
  have eF : gput (gnew g5 12 1632) (gx g) 8 (gx g5) = gPr g := by
    rw [x6, ← e5, x5, ← e4, x4, ← e3, x3, ← e2, x2, ← e1]
    rfl
  rw [k0, y0, z1, z2', z3, z4, z5, eF, x1, x2, x3, x4, x5, x6]
  refine ⟨by decide, rfl, rfl, rfl, rfl, rfl, rfl, rfl, rfl, rfl, ?_⟩
  refine hQ _ _ (fun a ha => ⟨?_, ?_⟩)
  · rw [z2_r (by omega), z2_r (by omega), z2_r (by omega), z2_r (by omega), z2_r (by omega), z2_r (by omega), u2_r (by omega), u2_r (by omega), z2_r (by omega)]
  · rw [z2_r (by omega), z2_r (by omega), z2_r (by omega), z2_r (by omega), z2_r (by omega), z2_r (by omega), u2_r (by omega), z2_r (by omega)]
end PIN
