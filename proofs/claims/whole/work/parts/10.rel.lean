/-! ===== the abstract machine and the machine: what is held of heaps and locals ===== -/
abbrev aO : Type := va_G × (Nat → ClassId) × (Nat → Nat) × Nat × Heap
def aad (w : aO) (a : Nat) : Nat := if a < 6 then w.2.2.1 a else w.2.2.2.1 + (a - 6)
def acv (w : aO) : Value → Value
  | .ref a => if a = 0 then .null else .ref (aad w a)
  | v => v
def arf (w : aO) (b : Nat) : Option Nat := if b = 0 then none else some (aad w b)
theorem acv_rf (w : aO) (b : Nat) : acv w (.ref b) = va_rf (arf w b) := by
  by_cases h : b = 0 <;> simp [acv, arf, va_rf, h]
theorem acv_ref (w : aO) {b : Nat} (h : b ≠ 0) : acv w (.ref b) = .ref (aad w b) := by simp [acv, h]
theorem acv_0 (w : aO) : acv w (.ref 0) = .null := rfl
theorem acv_cat (w : aO) (v : Value) : (acv w v).category = v.category := by
  cases v with
  | ref a => by_cases h : a = 0 <;> simp [acv, h, Value.category]
  | _ => rfl
def a_lv (w : aO) (L : List Value) : List (Nat × Value) := (L.zipIdx.filter (fun q => decide (q.1 ≠ aU))).map (fun q => (q.2, acv w q.1))
theorem a_lv_mem {w : aO} {L : List Value} {i : Nat} {u : Value} : (i, u) ∈ a_lv w L ↔ ∃ v, L[i]? = some v ∧ v ≠ aU ∧ u = acv w v := by
  unfold a_lv
  constructor
  · intro h
    obtain ⟨⟨v, j⟩, hm, he⟩ := List.mem_map.mp h
    obtain ⟨hm, hd⟩ := List.mem_filter.mp hm
    have hm := List.mem_zipIdx_iff_getElem?.mp hm
    cases he
    exact ⟨v, hm, of_decide_eq_true hd, rfl⟩
  · rintro ⟨v, hm, hd, rfl⟩
    exact List.mem_map.mpr ⟨(v, i), List.mem_filter.mpr ⟨List.mem_zipIdx_iff_getElem?.mpr hm, decide_eq_true hd⟩, rfl⟩
def a_ls (w : aO) (nL : Nat) (L : List Value) (ls : Array Slot) : Prop := L.length = nL ∧ lv_has ls nL (a_lv w L)
theorem a_ls_get {w : aO} {nL : Nat} {L : List Value} {ls : Array Slot} (h : a_ls w nL L ls) {i : Nat} {v : Value} (hg : L.getD i aU = v) (hv : v ≠ aU) : ls[i]? = some (.val (acv w v)) := by
  refine h.2.2.2 (i, acv w v) (a_lv_mem.mpr ⟨v, ?_, hv, rfl⟩)
  rw [List.getD_eq_getElem?_getD] at hg
  cases hi : L[i]? with
  | none => rw [hi] at hg; exact absurd hg.symm hv
  | some x => rw [hi] at hg; cases hg; rfl
theorem a_ls_less {w : aO} {nL : Nat} {L L2 : List Value} {ls : Array Slot} (h : a_ls w nL L ls) (hl : L2.length = L.length) (hs : ∀ (i : Nat) (v : Value), L2[i]? = some v → v ≠ aU → L[i]? = some v) : a_ls w nL L2 ls :=
  ⟨hl.trans h.1, h.2.1, h.2.2.1, fun q hq => by
    obtain ⟨i, u⟩ := q
    obtain ⟨v, h1, h2, rfl⟩ := a_lv_mem.mp hq
    exact h.2.2.2 _ (a_lv_mem.mpr ⟨v, hs i v h1 h2, h2, rfl⟩)⟩
theorem a_ls_kill {w : aO} {nL : Nat} {ls : Array Slot} : ∀ (ks : List Nat) {L : List Value}, a_ls w nL L ls → a_ls w nL (a_kill L ks) ls
  | [], _, h => h
  | k :: ks, L, h => a_ls_kill ks (L := L.set k aU) (a_ls_less h (List.length_set ..) (fun i v h1 h2 => by
      by_cases e : k = i
      · subst e
        by_cases hk : k < L.length
        · rw [List.getElem?_set_self hk] at h1
          cases h1
          exact absurd rfl h2
        · rw [List.getElem?_eq_none (by rw [List.length_set]; omega)] at h1
          cases h1
      · rwa [List.getElem?_set_ne e] at h1))
theorem a_ls_set1 {w : aO} {nL : Nat} {L : List Value} {ls ls2 : Array Slot} {i : Nat} {v : Value} (h : a_ls w nL L ls) (hn : a_nl L i = true) (h2 : lv_has ls2 nL ((i, acv w v) :: (a_lv w L).filter (fun q => !(q.1 == i) && !(q.1 + 1 == i && q.2.category == 2)))) : a_ls w nL (L.set i v) ls2 := by
  refine ⟨(List.length_set ..).trans h.1, h2.1, h2.2.1, fun q hq => h2.2.2 q ?_⟩
  obtain ⟨j, u⟩ := q
  obtain ⟨x, h3, h4, rfl⟩ := a_lv_mem.mp hq
  by_cases e : i = j
  · subst e
    by_cases hi : i < L.length
    · rw [List.getElem?_set_self hi] at h3
      cases h3
      exact List.mem_cons_self
    · rw [List.getElem?_eq_none (by rw [List.length_set]; omega)] at h3
      cases h3
  · rw [List.getElem?_set_ne e] at h3
    refine List.mem_cons_of_mem _ (List.mem_filter.mpr ⟨a_lv_mem.mpr ⟨x, h3, h4, rfl⟩, ?_⟩)
    have e1 : (j == i) = false := by simp; exact fun q => e q.symm
    simp only [e1, Bool.not_false, Bool.true_and, acv_cat]
    by_cases e2 : j + 1 = i
    · subst e2
      have h5 : (L.getD j aU).category = 1 := Nat.eq_of_beq_eq_true hn
      rw [List.getD_eq_getElem?_getD, h3] at h5
      simp only [Option.getD_some] at h5
      simp [h5]
    · simp [e2]
theorem a_ls_set2 {w : aO} {nL : Nat} {L : List Value} {ls ls2 : Array Slot} {i : Nat} {v : Value} (h : a_ls w nL L ls) (hn : a_nl L i = true) (h2 : lv_has ls2 nL ((i, acv w v) :: (a_lv w L).filter (fun q => !(q.1 == i) && (!(q.1 == i + 1) && !(q.1 + 1 == i && q.2.category == 2))))) : a_ls w nL ((L.set i v).set (i + 1) aU) ls2 := by
  refine ⟨by rw [List.length_set, List.length_set]; exact h.1, h2.1, h2.2.1, fun q hq => h2.2.2 q ?_⟩
  obtain ⟨j, u⟩ := q
  obtain ⟨x, h3, h4, rfl⟩ := a_lv_mem.mp hq
  by_cases e0 : i + 1 = j
  · subst e0
    by_cases hi : i + 1 < (L.set i v).length
    · rw [List.getElem?_set_self hi] at h3
      cases h3
      exact absurd rfl h4
    · rw [List.getElem?_eq_none (by rw [List.length_set]; omega)] at h3
      cases h3
  · rw [List.getElem?_set_ne e0] at h3
    by_cases e : i = j
    · subst e
      by_cases hi : i < L.length
      · rw [List.getElem?_set_self hi] at h3
        cases h3
        exact List.mem_cons_self
      · rw [List.getElem?_eq_none (by rw [List.length_set]; omega)] at h3
        cases h3
    · rw [List.getElem?_set_ne e] at h3
      refine List.mem_cons_of_mem _ (List.mem_filter.mpr ⟨a_lv_mem.mpr ⟨x, h3, h4, rfl⟩, ?_⟩)
      have e1 : (j == i) = false := by simp; exact fun q => e q.symm
      have e3 : (j == i + 1) = false := by simp; exact fun q => e0 q.symm
      simp only [e1, e3, Bool.not_false, Bool.true_and, acv_cat]
      by_cases e2 : j + 1 = i
      · subst e2
        have h5 : (L.getD j aU).category = 1 := Nat.eq_of_beq_eq_true hn
        rw [List.getD_eq_getElem?_getD, h3] at h5
        simp only [Option.getD_some] at h5
        simp [h5]
      · simp [e2]
def a_fv (w : aO) (h : aH) (a k t : Nat) : Value := if t = 2 then .long (h.2.2 a k) else if t = 3 then acv w (.ref (gR h.1 a k)) else .int (h.2.1 a k)
def a_fl (w : aO) (h : aH) (a : Nat) (r : vw_C) : List Value := (List.range r.2.2).map (fun k => a_fv w h a k (a_fk (r.2.1 k).2.2.1))
def a_ar (w : aO) (h : aH) (a : Nat) : (Nat → Int32) ⊕ (Nat → Int64) ⊕ (Nat → UInt32) ⊕ (Nat → UInt64) ⊕ (Nat → Option Nat) :=
  if gK h.1 a = 13 then .inr (.inl (h.2.2 a)) else if gK h.1 a = 12 ∨ gK h.1 a = 14 then .inl (h.2.1 a) else .inr (.inr (.inr (.inr (fun j => arf w (gR h.1 a j)))))
def a_cell (w : aO) (h : aH) (a : Nat) : va_E := if gK h.1 a < 12 then .inr (gK h.1 a, a_fl w h a (vwCl.getD (gK h.1 a) ("", TX0, 0))) else .inl (w.2.1 (gK h.1 a), gN h.1 a, a_ar w h a)
def a_tys (w : aO) : List (ClassId × FieldType) := [(w.2.1 12, .int), (w.2.1 13, .long), (w.2.1 14, .boolean), (w.2.1 15, .object RX5), (w.2.1 16, .object RX7), (w.2.1 17, .array .int), (w.2.1 18, .array .long)]
/-- the heap H is the abstract heap h: all that was there at the law's entry as it was, then the cells that were made -/
def a_rel (w : aO) (h : aH) (s : State) (H : Heap) : Prop :=
  6 ≤ gx h.1 ∧ H.size = w.2.2.2.1 + (gx h.1 - 6) ∧ (∀ a, gK h.1 a ≤ 18 → 6 ≤ a ∧ a < gx h.1) ∧ (∀ a, 6 ≤ a → a < gx h.1 → gK h.1 a ≤ 18 ∧ va_at w.1 vwCl (w.2.2.2.1 + (a - 6), a_cell w h a) H) ∧
  (∀ a, gK h.1 a = 20 → (1 ≤ a ∧ a ≤ 4) ∧ w.2.2.1 a < w.2.2.2.1 ∧ va_X (w.2.2.1 a) (gN h.1 a) (h.2.1 a) s H ∧ (a = 4 → ∃ cell : Cell, H[w.2.2.1 a]? = some cell ∧ cell.cls = w.2.1 12)) ∧ (∀ q, q < w.2.2.2.1 → H[q]? = w.2.2.2.2[q]?)
theorem a_rel_at {w : aO} {h : aH} {s : State} {H : Heap} (r : a_rel w h s H) {a : Nat} (ha : gK h.1 a ≤ 18) : a ≠ 0 ∧ 6 ≤ a ∧ a < gx h.1 ∧ acv w (.ref a) = .ref (w.2.2.2.1 + (a - 6)) ∧ va_at w.1 vwCl (w.2.2.2.1 + (a - 6), a_cell w h a) H := by
  obtain ⟨h1, h2⟩ := r.2.2.1 a ha
  have h0 : a ≠ 0 := by omega
  refine ⟨h0, h1, h2, ?_, (r.2.2.2.1 a h1 h2).2⟩
  rw [acv_ref w h0, aad, if_neg (by omega)]
def a_st (w : aO) (x0 s0 : Nat) (h : aH) (s : State) (H : Heap) (locs : List Loc) (cells slots : Nat) : Prop :=
  a_rel w h s H ∧ (∀ q ∈ locs, w.2.2.2.1 ≤ q.base) ∧ gx h.1 = x0 + cells ∧ gs h.1 = s0 + slots
