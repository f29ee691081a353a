/-! ===== what a text tells: the code of both sides ===== -/
abbrev aV : Type := (Nat → Int) → Option Int
def bd (z : Int) : Option Int := if -1000000000 ≤ z ∧ z ≤ 1000000000 then some z else none
def jr (o : Nat) (x y : Int) : Int := if o = 2 then x + y else if o = 3 then x - y else if o = 4 then x * y else if o = 5 then (if y = 0 then 4611686018427387904 else x.tdiv y) else if o = 6 then (if x < y then 1 else 0) else if o = 7 then (if y < x then 1 else 0) else (if x = y then 1 else 0)
def jn (o : Nat) (x y : Int) : Option Int := bd (jr o x y)
def v2 (o : Nat) (v w : aV) : aV := fun E => match v E with
  | none => none
  | some x => match w E with
    | none => none
    | some y => jn o x y
def vn (v : aV) : aV := fun E => match v E with
  | none => none
  | some x => some (1 - x)
def va (o : Nat) (v w : aV) : aV := fun E => match v E with
  | none => none
  | some x => if decide (x = 1) = decide (o = 10) then some x else w E
abbrev aP : Type := Nat → Nat → Nat → Nat → Nat → Nat → aV → Prop
def DCl (cC cR : Nat → Int32) (P : aP) : Prop :=
  (∀ a a' n, n ≤ 1000 → cR (2 * a) = nI 0 → cR (2 * a + 1) = nI n → cC a' = nI (n * 16 + 0) → P 0 a (a + 1) a' (a' + 1) 1 (fun _ => some (n : Int))) ∧
  (∀ a a' w, w < 8 → cR (2 * a) = nI (w + 1) → cC a' = nI (w * 16 + 1) → P 0 a (a + 1) a' (a' + 1) 1 (fun E => some (E w))) ∧
  (∀ o k a c b a' c' b' m m2 v w, 2 ≤ o → o ≤ 8 → k = (if o ≤ 5 then 0 else 1) → P 0 a c a' c' m v → P 0 c b c' b' m2 w → cR (2 * b) = nI (o + 18) → cC b' = nI o → P k a (b + 1) a' (b' + 1) (m + m2) (v2 o v w)) ∧
  (∀ a b a' b' m v, P 1 a b a' b' m v → cR (2 * b) = nI 27 → cC b' = nI 9 → P 1 a (b + 1) a' (b' + 1) m (vn v)) ∧
  (∀ a b a' b' m v, P 1 a b a' b' m v → cR (2 * b) = nI 27 → cR (2 * (b + 1)) = nI 27 → P 1 a (b + 2) a' b' m v) ∧
  (∀ o a c b a' c' b' m m2 v w, (o = 10 ∨ o = 11) → P 1 a c a' c' m v → P 1 (c + 1) b (c' + 1) b' m2 w → cR (2 * c) = nI (39 - o) → cR (2 * c + 1) = nI b → cC c' = nI (b' * 16 + o) → P 1 a b a' b' (m + m2) (va o v w))
def Der (cC cR : Nat → Int32) : aP := fun k a b a' b' m v => ∀ P : aP, DCl cC cR P → P k a b a' b' m v
def lI (z : Int) : Int64 := Int64.ofInt z
def iI (z : Int) : Int32 := Int32.ofInt z
theorem lI_n (n : Nat) : lI (n : Int) = lN n := Int64.ofInt_eq_ofNat
theorem iI_n (n : Nat) : iI (n : Int) = nI n := Int32.ofInt_eq_ofNat
theorem lI_t {z : Int} (h1 : -9223372036854775808 ≤ z) (h2 : z < 9223372036854775808) : (lI z).toInt = z := Int64.toInt_ofInt_of_le (by omega) (by omega)
theorem lI_of {x : Int64} {z : Int} (h : x.toInt = z) : x = lI z := by rw [← h]; exact (Int64.ofInt_toInt x).symm
theorem iI_t {z : Int} (h1 : -2147483648 ≤ z) (h2 : z < 2147483648) : (iI z).toInt = z := Int32.toInt_ofInt_of_le (by omega) (by omega)
theorem iI_l {z : Int} (h1 : -1000000000 ≤ z) (h2 : z ≤ 1000000000) : (iI z).toInt64 = lI z := by
  apply lI_of
  rw [Int32.toInt_toInt64, iI_t (by omega) (by omega)]
theorem lI_lt {x y : Int} (h1 : -9223372036854775808 ≤ x) (h2 : x < 9223372036854775808) (h3 : -9223372036854775808 ≤ y) (h4 : y < 9223372036854775808) : (lI x < lI y) = (x < y) := by
  apply propext
  rw [fa_lt64, lI_t h1 h2, lI_t h3 h4]
theorem lI_eq {x y : Int} (h1 : -9223372036854775808 ≤ x) (h2 : x < 9223372036854775808) (h3 : -9223372036854775808 ≤ y) (h4 : y < 9223372036854775808) : (lI x = lI y) = (x = y) := by
  apply propext
  rw [fa_eq64, lI_t h1 h2, lI_t h3 h4]
theorem lI_add {x y : Int} (h1 : -1000000000 ≤ x) (h2 : x ≤ 1000000000) (h3 : -1000000000 ≤ y) (h4 : y ≤ 1000000000) : lI x + lI y = lI (x + y) := by
  apply lI_of
  have e1 := lI_t (z := x) (by omega) (by omega)
  have e2 := lI_t (z := y) (by omega) (by omega)
  rw [fb_addL] <;> rw [e1, e2] <;> omega
theorem lI_sub {x y : Int} (h1 : -1000000000 ≤ x) (h2 : x ≤ 1000000000) (h3 : -1000000000 ≤ y) (h4 : y ≤ 1000000000) : lI x - lI y = lI (x - y) := by
  apply lI_of
  have e1 := lI_t (z := x) (by omega) (by omega)
  have e2 := lI_t (z := y) (by omega) (by omega)
  rw [fb_subL] <;> rw [e1, e2] <;> omega
theorem mul_bd {x y : Int} (h1 : -1000000000 ≤ x) (h2 : x ≤ 1000000000) (h3 : -1000000000 ≤ y) (h4 : y ≤ 1000000000) : -1000000000000000000 ≤ x * y ∧ x * y ≤ 1000000000000000000 := by
  have h : (x * y).natAbs ≤ 1000000000 * 1000000000 := by
    rw [Int.natAbs_mul]
    exact Nat.mul_le_mul (by omega) (by omega)
  omega
theorem lI_mul {x y : Int} (h1 : -1000000000 ≤ x) (h2 : x ≤ 1000000000) (h3 : -1000000000 ≤ y) (h4 : y ≤ 1000000000) : lI x * lI y = lI (x * y) := by
  apply lI_of
  have h := mul_bd h1 h2 h3 h4
  have e1 := lI_t (z := x) (by omega) (by omega)
  have e2 := lI_t (z := y) (by omega) (by omega)
  rw [fb_mulL] <;> rw [e1, e2] <;> omega
theorem lI_div {x y : Int} (h1 : -1000000000 ≤ x) (h2 : x ≤ 1000000000) (h3 : -1000000000 ≤ y) (h4 : y ≤ 1000000000) : lI x / lI y = lI (x.tdiv y) := by
  apply lI_of
  have e1 := lI_t (z := x) (by omega) (by omega)
  have e2 := lI_t (z := y) (by omega) (by omega)
  rw [Int64.toInt_div, e1, e2]
  have h := Int.natAbs_tdiv_le_natAbs x y
  exact fb_bmodL (by omega) (by omega)
theorem jr_bd {o : Nat} {x y : Int} (h1 : -1000000000 ≤ x) (h2 : x ≤ 1000000000) (h3 : -1000000000 ≤ y) (h4 : y ≤ 1000000000) : -4611686018427387904 ≤ jr o x y ∧ jr o x y ≤ 4611686018427387904 := by
  have h := mul_bd h1 h2 h3 h4
  have h5 := Int.natAbs_tdiv_le_natAbs x y
  unfold jr
  repeat' split
  all_goals omega
theorem nm1 {a : Nat} (h : 1 ≤ a) : nI a + (-1 : Int32) = nI (a - 1) := by
  obtain ⟨b, rfl⟩ : ∃ b, a = b + 1 := ⟨a - 1, by omega⟩
  rw [← nadd, Int32.add_assoc, show nI 1 + (-1 : Int32) = 0 from by decide, Int32.add_zero, Nat.add_sub_cancel]
theorem st_o {q o : Nat} (hq : q < 100000) (ho : o < 16) : nI (q * 16 + o) &&& nI 15 = nI o := by
  rw [nand]
  congr 1
  have : (q * 16 + o) &&& 15 = (q * 16 + o) % 2 ^ 4 := Nat.and_two_pow_sub_one_eq_mod _ 4
  omega
theorem st_o0 {o : Nat} (ho : o < 16) : nI o &&& nI 15 = nI o := by
  have h := st_o (q := 0) (o := o) (by decide) ho
  rw [Nat.zero_mul, Nat.zero_add] at h
  exact h
theorem st_q {q o : Nat} (hq : q < 100000) (ho : o < 16) : nI (q * 16 + o) >>> (nI 4 &&& 31) = nI q := by
  rw [nshr (by omega) (by decide), Nat.shiftRight_eq_div_pow]
  congr 1
  omega
theorem w7 {w : Nat} (h : w < 8) : nI w &&& nI 7 = nI w := by
  rw [nand]
  congr 1
  have : w &&& 7 = w % 2 ^ 3 := Nat.and_two_pow_sub_one_eq_mod _ 3
  omega
theorem u2_self {α : Type} {f : Nat → Nat → α} {a k : Nat} {v : α} (h : f a k = v) : u2 f a k v = f := by
  funext b j
  unfold u2
  by_cases q : b = a ∧ j = k
  · rw [if_pos q, q.1, q.2, h]
  · rw [if_neg q]
/-- rows that are the same but for one -/
def Xr {α : Type} (r : Nat) (f f2 : Nat → Nat → α) : Prop := ∀ a, a ≠ r → f2 a = f a
theorem Xr_rf {α : Type} {r : Nat} {f : Nat → Nat → α} : Xr r f f := fun _ _ => rfl
theorem Xr_tr {α : Type} {r : Nat} {f f2 f3 : Nat → Nat → α} (h : Xr r f f2) (h2 : Xr r f2 f3) : Xr r f f3 := fun a ha => (h2 a ha).trans (h a ha)
theorem Xr_u {α : Type} {r k : Nat} {f f2 : Nat → Nat → α} {v : α} (h : Xr r f f2) : Xr r f (u2 f2 r k v) := fun a ha => (u2_r ha).trans (h a ha)
def EB (E : Nat → Int) : Prop := ∀ w, -1000000000 ≤ E w ∧ E w ≤ 1000000000
def VB (k : Nat) (v : aV) : Prop := ∀ E, EB E → ∀ x, v E = some x → (-1000000000 ≤ x ∧ x ≤ 1000000000) ∧ (k = 1 → x = 0 ∨ x = 1)
theorem VB_2 {o k : Nat} {v w : aV} (ho : 2 ≤ o) (ho2 : o ≤ 8) (hk : k = (if o ≤ 5 then 0 else 1)) : VB k (v2 o v w) := by
  intro E hE x hx
  unfold v2 at hx
  cases hv : v E with
  | none => rw [hv] at hx; cases hx
  | some a =>
    cases hw : w E with
    | none => rw [hv, hw] at hx; cases hx
    | some b =>
      rw [hv, hw] at hx
      have hx : jn o a b = some x := hx
      unfold jn bd at hx
      by_cases q : -1000000000 ≤ jr o a b ∧ jr o a b ≤ 1000000000
      · rw [if_pos q] at hx
        cases hx
        refine ⟨q, fun e => ?_⟩
        have h6 : ¬ o ≤ 5 := by intro z; rw [if_pos z] at hk; omega
        unfold jr
        rw [if_neg (by omega), if_neg (by omega), if_neg (by omega), if_neg (by omega)]
        repeat' split
        all_goals omega
      · rw [if_neg q] at hx; cases hx
theorem VB_n {v : aV} (h : VB 1 v) : VB 1 (vn v) := by
  intro E hE x hx
  unfold vn at hx
  cases hv : v E with
  | none => rw [hv] at hx; cases hx
  | some a =>
    rw [hv] at hx
    cases hx
    have := (h E hE a hv).2 rfl
    omega
theorem VB_a {o : Nat} {v w : aV} (h : VB 1 v) (h2 : VB 1 w) : VB 1 (va o v w) := by
  intro E hE x hx
  unfold va at hx
  cases hv : v E with
  | none => rw [hv] at hx; cases hx
  | some a =>
    rw [hv] at hx
    by_cases q : decide (a = 1) = decide (o = 10)
    · rw [show (match some a with | none => none | some x => if decide (x = 1) = decide (o = 10) then some x else w E) = some a from if_pos q] at hx
      cases hx
      exact h E hE _ hv
    · rw [show (match some a with | none => none | some x => if decide (x = 1) = decide (o = 10) then some x else w E) = w E from if_neg q] at hx
      exact h2 E hE _ hx
theorem Der_VB {cC cR : Nat → Int32} {k a b a' b' m : Nat} {v : aV} (h : Der cC cR k a b a' b' m v) : VB k v ∧ a < b ∧ a' < b' ∧ 1 ≤ m := by
  refine h (fun k a b a' b' m v => VB k v ∧ a < b ∧ a' < b' ∧ 1 ≤ m) ⟨?_, ?_, ?_, ?_, ?_, ?_⟩
  · intro a a' n hn _ _ _
    refine ⟨fun E hE x hx => ?_, by omega, by omega, by omega⟩
    cases hx
    exact ⟨by omega, fun z => by omega⟩
  · intro a a' w hn _ _
    refine ⟨fun E hE x hx => ?_, by omega, by omega, by omega⟩
    cases hx
    exact ⟨hE w, fun z => by omega⟩
  · intro o k a c b a' c' b' m m2 v w h1 h2 h3 h4 h5 _ _
    exact ⟨VB_2 h1 h2 h3, by omega, by omega, by omega⟩
  · intro a b a' b' m v h1 _ _
    exact ⟨VB_n h1.1, by omega, by omega, h1.2.2.2⟩
  · intro a b a' b' m v h1 _ _
    exact ⟨h1.1, by omega, by omega, h1.2.2.2⟩
  · intro o a c b a' c' b' m m2 v w _ h1 h2 _ _ _
    exact ⟨VB_a h1.1 h2.1, by omega, by omega, by omega⟩
section CE
variable {d : Nat} {g : aG} {I : Nat → Nat → Int32} {E : Nat → Int}
theorem c_join {J : Nat → Nat → Int64} {Q : aQ} {o : Nat} {x y : Int} (ho : 2 ≤ o) (ho2 : o ≤ 8) (h1 : -1000000000 ≤ x) (h2 : x ≤ 1000000000) (h3 : -1000000000 ≤ y) (h4 : y ≤ 1000000000) : a_call aTab aMX (d + 1) m_Asker_join [.int (nI o), .long (lI x), .long (lI y)] (g, I, J) Q = Q (some (.long (lI (jr o x y)))) (g, I, J) := by
  rw [e_Asker_join, b_Asker_join_0]
  have z0 : lN 0 = lI 0 := (lI_n 0).symm
  have z1 : lN 1 = lI 1 := (lI_n 1).symm
  have z2 : lN 4611686018427387904 = lI 4611686018427387904 := (lI_n _).symm
  have hc : o = 2 ∨ o = 3 ∨ o = 4 ∨ o = 5 ∨ o = 6 ∨ o = 7 ∨ o = 8 := by omega
  unfold jr
  rcases hc with rfl | rfl | rfl | rfl | rfl | rfl | rfl
  · simp (disch := omega) only [b_Asker_join_44, b_Asker_join_48, b_Asker_join_52, b_Asker_join_56, b_Asker_join_62, b_Asker_join_68, b_Asker_join_71, b_Asker_join_72, b_Asker_join_78, b_Asker_join_82, b_Asker_join_83, b_Asker_join_84, b_Asker_join_90, b_Asker_join_94, b_Asker_join_95, b_Asker_join_96, b_Asker_join_102, b_Asker_join_106, b_Asker_join_107, b_Asker_join_108, neq, exI, exJ, exV, eq_self, true_and, and_true, true_or, or_true, if_true, if_false, not_true, not_false_eq_true, false_and, and_false, decide_true, decide_false, bi_T, bi_F, bi_0, bi_1, bi_z, bft, n10, n01, Nat.reduceEqDiff, Nat.reduceLT, Nat.reduceAdd, Nat.reduceMul, reduceCtorEq, lI_add]
  · simp (disch := omega) only [b_Asker_join_44, b_Asker_join_48, b_Asker_join_52, b_Asker_join_56, b_Asker_join_62, b_Asker_join_68, b_Asker_join_71, b_Asker_join_72, b_Asker_join_78, b_Asker_join_82, b_Asker_join_83, b_Asker_join_84, b_Asker_join_90, b_Asker_join_94, b_Asker_join_95, b_Asker_join_96, b_Asker_join_102, b_Asker_join_106, b_Asker_join_107, b_Asker_join_108, neq, exI, exJ, exV, eq_self, true_and, and_true, true_or, or_true, if_true, if_false, not_true, not_false_eq_true, false_and, and_false, decide_true, decide_false, bi_T, bi_F, bi_0, bi_1, bi_z, bft, n10, n01, Nat.reduceEqDiff, Nat.reduceLT, Nat.reduceAdd, Nat.reduceMul, reduceCtorEq, lI_sub]
  · simp (disch := omega) only [b_Asker_join_44, b_Asker_join_48, b_Asker_join_52, b_Asker_join_56, b_Asker_join_62, b_Asker_join_68, b_Asker_join_71, b_Asker_join_72, b_Asker_join_78, b_Asker_join_82, b_Asker_join_83, b_Asker_join_84, b_Asker_join_90, b_Asker_join_94, b_Asker_join_95, b_Asker_join_96, b_Asker_join_102, b_Asker_join_106, b_Asker_join_107, b_Asker_join_108, neq, exI, exJ, exV, eq_self, true_and, and_true, true_or, or_true, if_true, if_false, not_true, not_false_eq_true, false_and, and_false, decide_true, decide_false, bi_T, bi_F, bi_0, bi_1, bi_z, bft, n10, n01, Nat.reduceEqDiff, Nat.reduceLT, Nat.reduceAdd, Nat.reduceMul, reduceCtorEq, lI_mul]
  · by_cases q : y = 0
    · simp (disch := omega) only [b_Asker_join_44, b_Asker_join_48, b_Asker_join_52, b_Asker_join_56, b_Asker_join_62, b_Asker_join_68, b_Asker_join_71, b_Asker_join_72, b_Asker_join_78, b_Asker_join_82, b_Asker_join_83, b_Asker_join_84, b_Asker_join_90, b_Asker_join_94, b_Asker_join_95, b_Asker_join_96, b_Asker_join_102, b_Asker_join_106, b_Asker_join_107, b_Asker_join_108, neq, exI, exJ, exV, eq_self, true_and, and_true, true_or, or_true, if_true, if_false, not_true, not_false_eq_true, false_and, and_false, decide_true, decide_false, bi_T, bi_F, bi_0, bi_1, bi_z, bft, n10, n01, Nat.reduceEqDiff, Nat.reduceLT, Nat.reduceAdd, Nat.reduceMul, reduceCtorEq, z0, z2, lI_eq, q]
    · simp (disch := omega) only [b_Asker_join_44, b_Asker_join_48, b_Asker_join_52, b_Asker_join_56, b_Asker_join_62, b_Asker_join_68, b_Asker_join_71, b_Asker_join_72, b_Asker_join_78, b_Asker_join_82, b_Asker_join_83, b_Asker_join_84, b_Asker_join_90, b_Asker_join_94, b_Asker_join_95, b_Asker_join_96, b_Asker_join_102, b_Asker_join_106, b_Asker_join_107, b_Asker_join_108, neq, exI, exJ, exV, eq_self, true_and, and_true, true_or, or_true, if_true, if_false, not_true, not_false_eq_true, false_and, and_false, decide_true, decide_false, bi_T, bi_F, bi_0, bi_1, bi_z, bft, n10, n01, Nat.reduceEqDiff, Nat.reduceLT, Nat.reduceAdd, Nat.reduceMul, reduceCtorEq, z0, z2, lI_eq, q, lI_div]
  · by_cases q : x < y <;> simp (disch := omega) only [b_Asker_join_44, b_Asker_join_48, b_Asker_join_52, b_Asker_join_56, b_Asker_join_62, b_Asker_join_68, b_Asker_join_71, b_Asker_join_72, b_Asker_join_78, b_Asker_join_82, b_Asker_join_83, b_Asker_join_84, b_Asker_join_90, b_Asker_join_94, b_Asker_join_95, b_Asker_join_96, b_Asker_join_102, b_Asker_join_106, b_Asker_join_107, b_Asker_join_108, neq, exI, exJ, exV, eq_self, true_and, and_true, true_or, or_true, if_true, if_false, not_true, not_false_eq_true, false_and, and_false, decide_true, decide_false, bi_T, bi_F, bi_0, bi_1, bi_z, bft, n10, n01, Nat.reduceEqDiff, Nat.reduceLT, Nat.reduceAdd, Nat.reduceMul, reduceCtorEq, z0, z1, lI_lt, q]
  · by_cases q : y < x <;> simp (disch := omega) only [b_Asker_join_44, b_Asker_join_48, b_Asker_join_52, b_Asker_join_56, b_Asker_join_62, b_Asker_join_68, b_Asker_join_71, b_Asker_join_72, b_Asker_join_78, b_Asker_join_82, b_Asker_join_83, b_Asker_join_84, b_Asker_join_90, b_Asker_join_94, b_Asker_join_95, b_Asker_join_96, b_Asker_join_102, b_Asker_join_106, b_Asker_join_107, b_Asker_join_108, neq, exI, exJ, exV, eq_self, true_and, and_true, true_or, or_true, if_true, if_false, not_true, not_false_eq_true, false_and, and_false, decide_true, decide_false, bi_T, bi_F, bi_0, bi_1, bi_z, bft, n10, n01, Nat.reduceEqDiff, Nat.reduceLT, Nat.reduceAdd, Nat.reduceMul, reduceCtorEq, z0, z1, lI_lt, q]
  · by_cases q : x = y <;> simp (disch := omega) only [b_Asker_join_44, b_Asker_join_48, b_Asker_join_52, b_Asker_join_56, b_Asker_join_62, b_Asker_join_68, b_Asker_join_71, b_Asker_join_72, b_Asker_join_78, b_Asker_join_82, b_Asker_join_83, b_Asker_join_84, b_Asker_join_90, b_Asker_join_94, b_Asker_join_95, b_Asker_join_96, b_Asker_join_102, b_Asker_join_106, b_Asker_join_107, b_Asker_join_108, neq, exI, exJ, exV, eq_self, true_and, and_true, true_or, or_true, if_true, if_false, not_true, not_false_eq_true, false_and, and_false, decide_true, decide_false, bi_T, bi_F, bi_0, bi_1, bi_z, bft, n10, n01, Nat.reduceEqDiff, Nat.reduceLT, Nat.reduceAdd, Nat.reduceMul, reduceCtorEq, z0, z1, lI_eq, q]
def vC (d : Nat) (g : aG) (I : Nat → Nat → Int32) (Q : aQ) (to pc t k : Nat) (J : Nat → Nat → Int64) : Prop := ∀ v1 v6 v7 v8, a_wp aTab aMX (d + 1) m_Asker_valueOf 8 [.ref 33, v1, .int (nI to), .int (nI t), .int (nI pc), .int (nI k), v6, v7, v8, aU] [] (g, I, J) Q
def CC (d : Nat) (g : aG) (I : Nat → Nat → Int32) (E : Nat → Int) (a' b' m : Nat) (v : aV) : Prop := ∀ (Q : aQ) (to t kk : Nat) (J : Nat → Nat → Int64), b' ≤ to → to ≤ 400 → t + m ≤ 64 → kk + (b' - a') ≤ 400 →
  (v E = none → ∀ J', Xr 35 J J' → Q (some (.long (lN 4611686018427387904))) (g, I, J')) →
  (∀ x, v E = some x → ∀ J' kk', Xr 35 J J' → (∀ i, i < t → J' 35 i = J 35 i) → J' 35 t = lI x → kk' ≤ kk + (b' - a') → vC d g I Q to b' (t + 1) kk' J') → vC d g I Q to a' t kk J
theorem CC_all (hg : Geo g) (hE : EB E) (hW : ∀ w, w < 8 → I 34 w = iI (E w)) {cR : Nat → Int32} {k a b a' b' m : Nat} {v : aV} (h : Der (I 20) cR k a b a' b' m v) : CC d g I E a' b' m v := by
  have h := h (fun k a b a' b' m v => (VB k v ∧ a' < b' ∧ 1 ≤ m) ∧ CC d g I E a' b' m v) ⟨?_, ?_, ?_, ?_, ?_, ?_⟩
  · exact h.2
  · intro a a' n hn _ _ hc
    refine ⟨⟨fun E hE x hx => ?_, by omega, by omega⟩, ?_⟩
    · cases hx
      exact ⟨by omega, fun z => by omega⟩
    intro Q to t kk J h1 h2 h3 h4 _ h6 v1 v6 v7 v8
    rw [b_Asker_valueOf_8]
    have q1 : kk < 400 := by omega
    have q2 : a' < to := by omega
    have q3 : a' < 400 := by omega
    have q4 : t < 64 := by omega
    simp (disch := omega) only [b_Asker_valueOf_0, b_Asker_valueOf_16, b_Asker_valueOf_21, b_Asker_valueOf_27, b_Asker_valueOf_35 hg, b_Asker_valueOf_72, b_Asker_valueOf_78, b_Asker_valueOf_84, b_Asker_valueOf_88 hg, b_Asker_valueOf_98, b_Asker_valueOf_104 hg, b_Asker_valueOf_115 hg, b_Asker_valueOf_122, b_Asker_valueOf_127, b_Asker_valueOf_131, b_Asker_valueOf_138 hg, b_Asker_valueOf_159, b_Asker_valueOf_166, b_Asker_valueOf_173 hg, b_Asker_valueOf_186, b_Asker_valueOf_190, b_Asker_valueOf_191, b_Asker_valueOf_198, b_Asker_valueOf_202, b_Asker_valueOf_203, b_Asker_valueOf_206, b_Asker_valueOf_210, b_Asker_valueOf_211, b_Asker_valueOf_218, b_Asker_valueOf_223, b_Asker_valueOf_225, b_Asker_valueOf_233, b_Asker_valueOf_237, b_Asker_valueOf_238, b_Asker_valueOf_243, b_Asker_valueOf_248, b_Asker_valueOf_252 hg, b_Asker_valueOf_274, b_Asker_valueOf_285, b_Asker_valueOf_294, b_Asker_valueOf_298 hg, b_Asker_valueOf_308, b_Asker_valueOf_314, b_Asker_valueOf_319 hg, b_Asker_valueOf_328, b_Asker_valueOf_331, ↓reduceIte, neq, nlt, nvi, ncl, nadd, nI_l, exI, exJ, exV, eq_self, true_and, and_true, true_or, or_true, if_true, if_false, not_true, not_false_eq_true, false_and, and_false, decide_true, decide_false, bi_T, bi_F, bi_0, bi_1, bi_z, bft, n10, n01, Nat.reduceEqDiff, Nat.reduceLT, Nat.reduceAdd, Nat.reduceMul, reduceCtorEq, hc, st_o, st_q, q1, q2, q3, q4, Nat.not_lt_zero]
    refine h6 n rfl _ _ (Xr_u Xr_rf) (fun i hi => u2_k (by omega)) ?_ (by omega) _ _ _ _
    rw [u2_s, lI_n]
  · intro a a' w hw _ hc
    refine ⟨⟨fun E hE x hx => ?_, by omega, by omega⟩, ?_⟩
    · cases hx
      exact ⟨hE w, fun z => by omega⟩
    intro Q to t kk J h1 h2 h3 h4 _ h6 v1 v6 v7 v8
    rw [b_Asker_valueOf_8]
    have q1 : kk < 400 := by omega
    have q2 : a' < to := by omega
    have q3 : a' < 400 := by omega
    have q4 : t < 64 := by omega
    simp (disch := omega) only [b_Asker_valueOf_0, b_Asker_valueOf_16, b_Asker_valueOf_21, b_Asker_valueOf_27, b_Asker_valueOf_35 hg, b_Asker_valueOf_72, b_Asker_valueOf_78, b_Asker_valueOf_84, b_Asker_valueOf_88 hg, b_Asker_valueOf_98, b_Asker_valueOf_104 hg, b_Asker_valueOf_115 hg, b_Asker_valueOf_122, b_Asker_valueOf_127, b_Asker_valueOf_131, b_Asker_valueOf_138 hg, b_Asker_valueOf_159, b_Asker_valueOf_166, b_Asker_valueOf_173 hg, b_Asker_valueOf_186, b_Asker_valueOf_190, b_Asker_valueOf_191, b_Asker_valueOf_198, b_Asker_valueOf_202, b_Asker_valueOf_203, b_Asker_valueOf_206, b_Asker_valueOf_210, b_Asker_valueOf_211, b_Asker_valueOf_218, b_Asker_valueOf_223, b_Asker_valueOf_225, b_Asker_valueOf_233, b_Asker_valueOf_237, b_Asker_valueOf_238, b_Asker_valueOf_243, b_Asker_valueOf_248, b_Asker_valueOf_252 hg, b_Asker_valueOf_274, b_Asker_valueOf_285, b_Asker_valueOf_294, b_Asker_valueOf_298 hg, b_Asker_valueOf_308, b_Asker_valueOf_314, b_Asker_valueOf_319 hg, b_Asker_valueOf_328, b_Asker_valueOf_331, ↓reduceIte, neq, nlt, nvi, ncl, nadd, nI_l, exI, exJ, exV, eq_self, true_and, and_true, true_or, or_true, if_true, if_false, not_true, not_false_eq_true, false_and, and_false, decide_true, decide_false, bi_T, bi_F, bi_0, bi_1, bi_z, bft, n10, n01, Nat.reduceEqDiff, Nat.reduceLT, Nat.reduceAdd, Nat.reduceMul, reduceCtorEq, hc, st_o, st_q, w7, q1, q2, q3, q4, Nat.not_lt_zero, hW w hw, Nat.one_ne_zero]
    refine h6 _ rfl _ _ (Xr_u Xr_rf) (fun i hi => u2_k (by omega)) ?_ (by omega) _ _ _ _
    rw [u2_s, iI_l (hE w).1 (hE w).2]
  · intro o k a c b a' c' b' m m2 v w ho ho2 hk h1 h2 _ hc
    refine ⟨⟨VB_2 ho ho2 hk, by omega, by omega⟩, ?_⟩
    intro Q to t kk J g1 g2 g3 g4 g5 g6
    refine h1.2 Q to t kk J (by omega) g2 (by omega) (by omega) (fun e => g5 (by unfold v2; rw [e])) ?_
    intro x hx J1 k1 f1 f2 f3 f4
    refine h2.2 Q to (t + 1) k1 J1 (by omega) g2 (by omega) (by omega) (fun e J' z => g5 (by unfold v2; rw [hx, e]) J' (Xr_tr f1 z)) ?_
    intro y hy J2 k2 r1 r2 r3 r4 v1 v6 v7 v8
    have bx := (h1.1.1 E hE x hx).1
    have bY := (h2.1.1 E hE y hy).1
    have ex : J2 35 t = lI x := (r2 t (by omega)).trans f3
    have hj := jr_bd (o := o) bx.1 bx.2 bY.1 bY.2
    rw [b_Asker_valueOf_8]
    have q1 : k2 < 400 := by omega
    have q2 : b' < to := by omega
    have q3 : b' < 400 := by omega
    have q4 : ¬ t + 1 + 1 < 1 := by omega
    have q5 : ¬ t + 1 + 1 < 2 := by omega
    have q6 : ¬ o = 0 := by omega
    have q7 : ¬ o = 1 := by omega
    have q8 : ¬ o = 9 := by omega
    have q9 : ¬ o = 10 := by omega
    have q10 : ¬ o = 11 := by omega
    have z3 : lN 1000000000 = lI 1000000000 := (lI_n _).symm
    have z4 : (-1000000000 : Int64) = lI (-1000000000) := by decide
    simp (disch := omega) only [b_Asker_valueOf_0, b_Asker_valueOf_16, b_Asker_valueOf_21, b_Asker_valueOf_27, b_Asker_valueOf_35 hg, b_Asker_valueOf_72, b_Asker_valueOf_78, b_Asker_valueOf_84, b_Asker_valueOf_88 hg, b_Asker_valueOf_98, b_Asker_valueOf_104 hg, b_Asker_valueOf_115 hg, b_Asker_valueOf_122, b_Asker_valueOf_127, b_Asker_valueOf_131, b_Asker_valueOf_138 hg, b_Asker_valueOf_159, b_Asker_valueOf_166, b_Asker_valueOf_173 hg, b_Asker_valueOf_186, b_Asker_valueOf_190, b_Asker_valueOf_191, b_Asker_valueOf_198, b_Asker_valueOf_202, b_Asker_valueOf_203, b_Asker_valueOf_206, b_Asker_valueOf_210, b_Asker_valueOf_211, b_Asker_valueOf_218, b_Asker_valueOf_223, b_Asker_valueOf_225, b_Asker_valueOf_233, b_Asker_valueOf_237, b_Asker_valueOf_238, b_Asker_valueOf_243, b_Asker_valueOf_248, b_Asker_valueOf_252 hg, b_Asker_valueOf_274, b_Asker_valueOf_294, b_Asker_valueOf_314, b_Asker_valueOf_319 hg, b_Asker_valueOf_328, b_Asker_valueOf_331, ↓reduceIte, neq, nlt, nvi, ncl, nadd, nsub, nm1, nI_l, exI, exJ, exV, eq_self, true_and, and_true, true_or, or_true, if_true, if_false, not_true, not_false_eq_true, false_and, and_false, decide_true, decide_false, bi_T, bi_F, bi_0, bi_1, bi_z, bft, n10, n01, Nat.reduceEqDiff, Nat.reduceLT, Nat.reduceAdd, Nat.reduceMul, reduceCtorEq, hc, st_o0, q1, q2, q3, q4, q5, q6, q7, q8, q9, q10, Nat.not_lt_zero, Nat.add_sub_cancel, ex, r3, c_join, z3, lI_lt]
    by_cases p1 : 1000000000 < jr o x y
    · simp only [p1, if_true]
      refine g5 ?_ J2 (Xr_tr f1 r1)
      unfold v2
      rw [hx, hy]
      show bd (jr o x y) = none
      exact if_neg (by omega)
    simp only [p1, if_false]
    rw [b_Asker_valueOf_285, z4]
    by_cases p2 : jr o x y < -1000000000
    · simp (disch := omega) only [lI_lt, p2, if_true, b_Asker_valueOf_294]
      refine g5 ?_ J2 (Xr_tr f1 r1)
      unfold v2
      rw [hx, hy]
      show bd (jr o x y) = none
      exact if_neg (by omega)
    simp (disch := omega) only [lI_lt, p2, if_false, b_Asker_valueOf_298 hg, b_Asker_valueOf_308, nsub, nvi, ncl, nadd, Nat.add_sub_cancel, true_and]
    refine g6 (jr o x y) ?_ _ _ (Xr_u (Xr_tr f1 r1)) (fun i hi => (u2_k (by omega)).trans ((r2 i (by omega)).trans (f2 i hi))) u2_s (by omega) _ _ _ _
    unfold v2
    rw [hx, hy]
    show bd (jr o x y) = _
    exact if_pos (by omega)
  · intro a b a' b' m v h1 _ hc
    refine ⟨⟨VB_n h1.1.1, by omega, h1.1.2.2⟩, ?_⟩
    intro Q to t kk J g1 g2 g3 g4 g5 g6
    refine h1.2 Q to t kk J (by omega) g2 (by omega) (by omega) (fun e => g5 (by unfold vn; rw [e])) ?_
    intro x hx J1 k1 f1 f2 f3 f4 v1 v6 v7 v8
    have bx := (h1.1.1 E hE x hx).1
    rw [b_Asker_valueOf_8]
    have q1 : k1 < 400 := by omega
    have q2 : b' < to := by omega
    have q3 : b' < 400 := by omega
    have q4 : ¬ t + 1 < 1 := by omega
    have z1 : lN 1 = lI 1 := (lI_n 1).symm
    simp (disch := omega) only [b_Asker_valueOf_0, b_Asker_valueOf_16, b_Asker_valueOf_21, b_Asker_valueOf_27, b_Asker_valueOf_35 hg, b_Asker_valueOf_72, b_Asker_valueOf_78, b_Asker_valueOf_84, b_Asker_valueOf_88 hg, b_Asker_valueOf_98, b_Asker_valueOf_104 hg, b_Asker_valueOf_115 hg, b_Asker_valueOf_122, b_Asker_valueOf_127, b_Asker_valueOf_131, b_Asker_valueOf_138 hg, b_Asker_valueOf_159, b_Asker_valueOf_166, b_Asker_valueOf_173 hg, b_Asker_valueOf_186, b_Asker_valueOf_190, b_Asker_valueOf_191, b_Asker_valueOf_198, b_Asker_valueOf_202, b_Asker_valueOf_203, b_Asker_valueOf_206, b_Asker_valueOf_210, b_Asker_valueOf_211, b_Asker_valueOf_218, b_Asker_valueOf_223, b_Asker_valueOf_225, b_Asker_valueOf_233, b_Asker_valueOf_237, b_Asker_valueOf_238, b_Asker_valueOf_243, b_Asker_valueOf_248, b_Asker_valueOf_252 hg, b_Asker_valueOf_274, b_Asker_valueOf_285, b_Asker_valueOf_294, b_Asker_valueOf_298 hg, b_Asker_valueOf_308, b_Asker_valueOf_314, b_Asker_valueOf_319 hg, b_Asker_valueOf_328, b_Asker_valueOf_331, ↓reduceIte, neq, nlt, nvi, ncl, nadd, nsub, nI_l, exI, exJ, exV, eq_self, true_and, and_true, true_or, or_true, if_true, if_false, not_true, not_false_eq_true, false_and, and_false, decide_true, decide_false, bi_T, bi_F, bi_0, bi_1, bi_z, bft, n10, n01, Nat.reduceEqDiff, Nat.reduceLT, Nat.reduceAdd, Nat.reduceMul, reduceCtorEq, hc, st_o0, q1, q2, q3, q4, Nat.not_lt_zero, Nat.add_sub_cancel, f3, z1, lI_sub]
    refine g6 (1 - x) (by unfold vn; rw [hx]) _ _ (Xr_u f1) (fun i hi => (u2_k (by omega)).trans (f2 i hi)) u2_s (by omega) _ _ _ _
  · intro a b a' b' m v h1 _ _
    exact h1
  · intro o a c b a' c' b' m m2 v w ho h1 h2 _ _ hc
    refine ⟨⟨VB_a h1.1.1 h2.1.1, by omega, by omega⟩, ?_⟩
    intro Q to t kk J g1 g2 g3 g4 g5 g6
    refine h1.2 Q to t kk J (by omega) g2 (by omega) (by omega) (fun e => g5 (by unfold va; rw [e])) ?_
    intro x hx J1 k1 f1 f2 f3 f4 v1 v6 v7 v8
    have bx := (h1.1.1 E hE x hx)
    have bx2 := bx.2 rfl
    rw [b_Asker_valueOf_8]
    have q1 : k1 < 400 := by omega
    have q2 : c' < to := by omega
    have q3 : c' < 400 := by omega
    have q4 : ¬ t + 1 < 1 := by omega
    have z1 : lN 1 = lI 1 := (lI_n 1).symm
    have ev : va o v w E = if decide (x = 1) = decide (o = 10) then some x else w E := by unfold va; rw [hx]
    have e1 : ((1 : Int) = 1) = True := eq_true rfl
    have e0 : ((0 : Int) = 1) = False := eq_false (by decide)
    rcases ho with rfl | rfl <;> rcases bx2 with rfl | rfl
    · simp (disch := omega) only [b_Asker_valueOf_0, b_Asker_valueOf_16, b_Asker_valueOf_21, b_Asker_valueOf_27, b_Asker_valueOf_35 hg, b_Asker_valueOf_72, b_Asker_valueOf_78, b_Asker_valueOf_84, b_Asker_valueOf_88 hg, b_Asker_valueOf_98, b_Asker_valueOf_104 hg, b_Asker_valueOf_115 hg, b_Asker_valueOf_122, b_Asker_valueOf_127, b_Asker_valueOf_131, b_Asker_valueOf_138 hg, b_Asker_valueOf_159, b_Asker_valueOf_166, b_Asker_valueOf_173 hg, b_Asker_valueOf_186, b_Asker_valueOf_190, b_Asker_valueOf_191, b_Asker_valueOf_198, b_Asker_valueOf_202, b_Asker_valueOf_203, b_Asker_valueOf_206, b_Asker_valueOf_210, b_Asker_valueOf_211, b_Asker_valueOf_218, b_Asker_valueOf_223, b_Asker_valueOf_225, b_Asker_valueOf_233, b_Asker_valueOf_237, b_Asker_valueOf_238, b_Asker_valueOf_243, b_Asker_valueOf_248, b_Asker_valueOf_252 hg, b_Asker_valueOf_274, b_Asker_valueOf_285, b_Asker_valueOf_294, b_Asker_valueOf_298 hg, b_Asker_valueOf_308, b_Asker_valueOf_314, b_Asker_valueOf_319 hg, b_Asker_valueOf_328, b_Asker_valueOf_331, ↓reduceIte, neq, nlt, nvi, ncl, nadd, nsub, nI_l, exI, exJ, exV, eq_self, true_and, and_true, true_or, or_true, if_true, if_false, not_true, not_false_eq_true, false_and, and_false, decide_true, decide_false, bi_T, bi_F, bi_0, bi_1, bi_z, bft, n10, n01, Nat.reduceEqDiff, Nat.reduceLT, Nat.reduceAdd, Nat.reduceMul, reduceCtorEq, hc, st_o, st_q, q1, q2, q3, q4, Nat.not_lt_zero, Nat.add_sub_cancel, f3, z1, lI_eq, e0]
      rw [if_neg (by decide)] at ev
      refine h2.2 Q to t (k1 + 1) J1 g1 g2 (by omega) (by omega) (fun e J' z => g5 (ev.trans e) J' (Xr_tr f1 z)) ?_ _ _ _ _
      intro y hy J2 k2 r1 r2 r3 r4
      exact g6 y (ev.trans hy) J2 k2 (Xr_tr f1 r1) (fun i hi => (r2 i hi).trans (f2 i hi)) r3 (by omega)
    · simp (disch := omega) only [b_Asker_valueOf_0, b_Asker_valueOf_16, b_Asker_valueOf_21, b_Asker_valueOf_27, b_Asker_valueOf_35 hg, b_Asker_valueOf_72, b_Asker_valueOf_78, b_Asker_valueOf_84, b_Asker_valueOf_88 hg, b_Asker_valueOf_98, b_Asker_valueOf_104 hg, b_Asker_valueOf_115 hg, b_Asker_valueOf_122, b_Asker_valueOf_127, b_Asker_valueOf_131, b_Asker_valueOf_138 hg, b_Asker_valueOf_159, b_Asker_valueOf_166, b_Asker_valueOf_173 hg, b_Asker_valueOf_186, b_Asker_valueOf_190, b_Asker_valueOf_191, b_Asker_valueOf_198, b_Asker_valueOf_202, b_Asker_valueOf_203, b_Asker_valueOf_206, b_Asker_valueOf_210, b_Asker_valueOf_211, b_Asker_valueOf_218, b_Asker_valueOf_223, b_Asker_valueOf_225, b_Asker_valueOf_233, b_Asker_valueOf_237, b_Asker_valueOf_238, b_Asker_valueOf_243, b_Asker_valueOf_248, b_Asker_valueOf_252 hg, b_Asker_valueOf_274, b_Asker_valueOf_285, b_Asker_valueOf_294, b_Asker_valueOf_298 hg, b_Asker_valueOf_308, b_Asker_valueOf_314, b_Asker_valueOf_319 hg, b_Asker_valueOf_328, b_Asker_valueOf_331, ↓reduceIte, neq, nlt, nvi, ncl, nadd, nsub, nI_l, exI, exJ, exV, eq_self, true_and, and_true, true_or, or_true, if_true, if_false, not_true, not_false_eq_true, false_and, and_false, decide_true, decide_false, bi_T, bi_F, bi_0, bi_1, bi_z, bft, n10, n01, Nat.reduceEqDiff, Nat.reduceLT, Nat.reduceAdd, Nat.reduceMul, reduceCtorEq, hc, st_o, st_q, q1, q2, q3, q4, Nat.not_lt_zero, Nat.add_sub_cancel, f3, z1, lI_eq, e1, Nat.sub_zero]
      rw [if_pos (by decide)] at ev
      exact g6 1 ev J1 (k1 + 1) f1 f2 f3 (by omega) _ _ _ _
    · simp (disch := omega) only [b_Asker_valueOf_0, b_Asker_valueOf_16, b_Asker_valueOf_21, b_Asker_valueOf_27, b_Asker_valueOf_35 hg, b_Asker_valueOf_72, b_Asker_valueOf_78, b_Asker_valueOf_84, b_Asker_valueOf_88 hg, b_Asker_valueOf_98, b_Asker_valueOf_104 hg, b_Asker_valueOf_115 hg, b_Asker_valueOf_122, b_Asker_valueOf_127, b_Asker_valueOf_131, b_Asker_valueOf_138 hg, b_Asker_valueOf_159, b_Asker_valueOf_166, b_Asker_valueOf_173 hg, b_Asker_valueOf_186, b_Asker_valueOf_190, b_Asker_valueOf_191, b_Asker_valueOf_198, b_Asker_valueOf_202, b_Asker_valueOf_203, b_Asker_valueOf_206, b_Asker_valueOf_210, b_Asker_valueOf_211, b_Asker_valueOf_218, b_Asker_valueOf_223, b_Asker_valueOf_225, b_Asker_valueOf_233, b_Asker_valueOf_237, b_Asker_valueOf_238, b_Asker_valueOf_243, b_Asker_valueOf_248, b_Asker_valueOf_252 hg, b_Asker_valueOf_274, b_Asker_valueOf_285, b_Asker_valueOf_294, b_Asker_valueOf_298 hg, b_Asker_valueOf_308, b_Asker_valueOf_314, b_Asker_valueOf_319 hg, b_Asker_valueOf_328, b_Asker_valueOf_331, ↓reduceIte, neq, nlt, nvi, ncl, nadd, nsub, nI_l, exI, exJ, exV, eq_self, true_and, and_true, true_or, or_true, if_true, if_false, not_true, not_false_eq_true, false_and, and_false, decide_true, decide_false, bi_T, bi_F, bi_0, bi_1, bi_z, bft, n10, n01, Nat.reduceEqDiff, Nat.reduceLT, Nat.reduceAdd, Nat.reduceMul, reduceCtorEq, hc, st_o, st_q, q1, q2, q3, q4, Nat.not_lt_zero, Nat.add_sub_cancel, f3, z1, lI_eq, e0, Nat.sub_zero]
      rw [if_pos (by decide)] at ev
      exact g6 0 ev J1 (k1 + 1) f1 f2 f3 (by omega) _ _ _ _
    · simp (disch := omega) only [b_Asker_valueOf_0, b_Asker_valueOf_16, b_Asker_valueOf_21, b_Asker_valueOf_27, b_Asker_valueOf_35 hg, b_Asker_valueOf_72, b_Asker_valueOf_78, b_Asker_valueOf_84, b_Asker_valueOf_88 hg, b_Asker_valueOf_98, b_Asker_valueOf_104 hg, b_Asker_valueOf_115 hg, b_Asker_valueOf_122, b_Asker_valueOf_127, b_Asker_valueOf_131, b_Asker_valueOf_138 hg, b_Asker_valueOf_159, b_Asker_valueOf_166, b_Asker_valueOf_173 hg, b_Asker_valueOf_186, b_Asker_valueOf_190, b_Asker_valueOf_191, b_Asker_valueOf_198, b_Asker_valueOf_202, b_Asker_valueOf_203, b_Asker_valueOf_206, b_Asker_valueOf_210, b_Asker_valueOf_211, b_Asker_valueOf_218, b_Asker_valueOf_223, b_Asker_valueOf_225, b_Asker_valueOf_233, b_Asker_valueOf_237, b_Asker_valueOf_238, b_Asker_valueOf_243, b_Asker_valueOf_248, b_Asker_valueOf_252 hg, b_Asker_valueOf_274, b_Asker_valueOf_285, b_Asker_valueOf_294, b_Asker_valueOf_298 hg, b_Asker_valueOf_308, b_Asker_valueOf_314, b_Asker_valueOf_319 hg, b_Asker_valueOf_328, b_Asker_valueOf_331, ↓reduceIte, neq, nlt, nvi, ncl, nadd, nsub, nI_l, exI, exJ, exV, eq_self, true_and, and_true, true_or, or_true, if_true, if_false, not_true, not_false_eq_true, false_and, and_false, decide_true, decide_false, bi_T, bi_F, bi_0, bi_1, bi_z, bft, n10, n01, Nat.reduceEqDiff, Nat.reduceLT, Nat.reduceAdd, Nat.reduceMul, reduceCtorEq, hc, st_o, st_q, q1, q2, q3, q4, Nat.not_lt_zero, Nat.add_sub_cancel, f3, z1, lI_eq, e1]
      rw [if_neg (by decide)] at ev
      refine h2.2 Q to t (k1 + 1) J1 g1 g2 (by omega) (by omega) (fun e J' z => g5 (ev.trans e) J' (Xr_tr f1 z)) ?_ _ _ _ _
      intro y hy J2 k2 r1 r2 r3 r4
      exact g6 y (ev.trans hy) J2 k2 (Xr_tr f1 r1) (fun i hi => (r2 i hi).trans (f2 i hi)) r3 (by omega)
/-- a value, or the sign that it is broken -/
def oL (v : Option Int) : Int64 := match v with
  | none => lN 4611686018427387904
  | some x => lI x
theorem c_valueOf (hg : Geo g) (hE : EB E) (hW : ∀ w, w < 8 → I 34 w = iI (E w)) {cR : Nat → Int32} {k a b a' b' m : Nat} {v : aV} (h : Der (I 20) cR k a b a' b' m v) (hb : b' ≤ 400) (hm : m ≤ 64) {J : Nat → Nat → Int64} {Q : aQ} (hQ : ∀ J', Xr 35 J J' → Q (some (.long (oL (v E)))) (g, I, J')) : a_call aTab aMX (d + 2) m_Asker_valueOf [.ref 33, .int (nI a'), .int (nI b')] (g, I, J) Q := by
  have hab := (Der_VB h).2
  rw [e_Asker_valueOf, b_Asker_valueOf_0]
  refine CC_all hg hE hW h Q b' 0 0 J (Nat.le_refl _) hb (by omega) (by omega) ?_ ?_ _ _ _ _
  · intro e J' hJ
    have := hQ J' hJ
    rw [e] at this
    exact this
  · intro x hx J' kk' f1 f2 f3 f4 v1 v6 v7 v8
    have := hQ J' f1
    rw [hx] at this
    rw [b_Asker_valueOf_8]
    have q : ¬ b' < b' := Nat.lt_irrefl _
    by_cases q1 : kk' < 400
    · simp (disch := omega) only [b_Asker_valueOf_0, b_Asker_valueOf_16, b_Asker_valueOf_21, b_Asker_valueOf_27, b_Asker_valueOf_35 hg, b_Asker_valueOf_72, b_Asker_valueOf_78, b_Asker_valueOf_84, b_Asker_valueOf_88 hg, b_Asker_valueOf_98, b_Asker_valueOf_104 hg, b_Asker_valueOf_115 hg, b_Asker_valueOf_122, b_Asker_valueOf_127, b_Asker_valueOf_131, b_Asker_valueOf_138 hg, b_Asker_valueOf_159, b_Asker_valueOf_166, b_Asker_valueOf_173 hg, b_Asker_valueOf_186, b_Asker_valueOf_190, b_Asker_valueOf_191, b_Asker_valueOf_198, b_Asker_valueOf_202, b_Asker_valueOf_203, b_Asker_valueOf_206, b_Asker_valueOf_210, b_Asker_valueOf_211, b_Asker_valueOf_218, b_Asker_valueOf_223, b_Asker_valueOf_225, b_Asker_valueOf_233, b_Asker_valueOf_237, b_Asker_valueOf_238, b_Asker_valueOf_243, b_Asker_valueOf_248, b_Asker_valueOf_252 hg, b_Asker_valueOf_274, b_Asker_valueOf_285, b_Asker_valueOf_294, b_Asker_valueOf_298 hg, b_Asker_valueOf_308, b_Asker_valueOf_314, b_Asker_valueOf_319 hg, b_Asker_valueOf_328, b_Asker_valueOf_331, ↓reduceIte, neq, nlt, ncl, exI, exJ, exV, eq_self, true_and, and_true, true_or, or_true, if_true, if_false, not_true, not_false_eq_true, false_and, and_false, decide_true, decide_false, bi_T, bi_F, bi_0, bi_1, bi_z, bft, n10, n01, Nat.reduceEqDiff, Nat.reduceLT, Nat.reduceAdd, Nat.reduceMul, reduceCtorEq, q, q1, Nat.not_lt_zero, f3]
      exact this
    · simp (disch := omega) only [b_Asker_valueOf_0, b_Asker_valueOf_16, b_Asker_valueOf_21, b_Asker_valueOf_27, b_Asker_valueOf_35 hg, b_Asker_valueOf_72, b_Asker_valueOf_78, b_Asker_valueOf_84, b_Asker_valueOf_88 hg, b_Asker_valueOf_98, b_Asker_valueOf_104 hg, b_Asker_valueOf_115 hg, b_Asker_valueOf_122, b_Asker_valueOf_127, b_Asker_valueOf_131, b_Asker_valueOf_138 hg, b_Asker_valueOf_159, b_Asker_valueOf_166, b_Asker_valueOf_173 hg, b_Asker_valueOf_186, b_Asker_valueOf_190, b_Asker_valueOf_191, b_Asker_valueOf_198, b_Asker_valueOf_202, b_Asker_valueOf_203, b_Asker_valueOf_206, b_Asker_valueOf_210, b_Asker_valueOf_211, b_Asker_valueOf_218, b_Asker_valueOf_223, b_Asker_valueOf_225, b_Asker_valueOf_233, b_Asker_valueOf_237, b_Asker_valueOf_238, b_Asker_valueOf_243, b_Asker_valueOf_248, b_Asker_valueOf_252 hg, b_Asker_valueOf_274, b_Asker_valueOf_285, b_Asker_valueOf_294, b_Asker_valueOf_298 hg, b_Asker_valueOf_308, b_Asker_valueOf_314, b_Asker_valueOf_319 hg, b_Asker_valueOf_328, b_Asker_valueOf_331, ↓reduceIte, neq, nlt, ncl, exI, exJ, exV, eq_self, true_and, and_true, true_or, or_true, if_true, if_false, not_true, not_false_eq_true, false_and, and_false, decide_true, decide_false, bi_T, bi_F, bi_0, bi_1, bi_z, bft, n10, n01, Nat.reduceEqDiff, Nat.reduceLT, Nat.reduceAdd, Nat.reduceMul, reduceCtorEq, q, q1, Nat.not_lt_zero, f3]
      exact this
end CE
