/-! ===== the start: what the constructors lay (laid by wip/whole/gen_start.py) ===== -/
def lk {α : Type} (z : α) : List (Nat × Nat × α) → Nat → Nat → α
  | [], _, _ => z
  | u :: r, a, j => if a = u.1 ∧ j = u.2.1 then u.2.2 else lk z r a j
theorem lk_c {α : Type} {z v : α} {r : List (Nat × Nat × α)} {a f b j : Nat} : lk z ((a, f, v) :: r) b j = if b = a ∧ j = f then v else lk z r b j := rfl
theorem lk_0 {α : Type} {z : α} {a j : Nat} : ∀ U : List (Nat × Nat × α), (∀ u ∈ U, u.1 = a → u.2.1 = j → u.2.2 = z) → lk z U a j = z
  | [], _ => rfl
  | (b, f, v) :: r, h => by
    rw [lk_c]
    by_cases q : a = b ∧ j = f
    · rw [if_pos q]
      exact h _ List.mem_cons_self q.1.symm q.2.symm
    · rw [if_neg q]
      exact lk_0 r (fun u hu => h u (List.mem_cons_of_mem _ hu))
def mrow (x : Nat) : Nat → List (Nat × Nat × Nat)
  | 0 => []
  | n + 1 => (x, n, x + 1 + n) :: mrow x n
theorem lk_m {x : Nat} {R : List (Nat × Nat × Nat)} {a j : Nat} : ∀ n, lk 0 (mrow x n ++ R) a j = if a = x ∧ j < n then x + 1 + j else lk 0 R a j
  | 0 => by
    rw [if_neg (by omega)]
    rfl
  | n + 1 => by
    show (if a = x ∧ j = n then x + 1 + n else lk 0 (mrow x n ++ R) a j) = _
    rw [lk_m n]
    by_cases h1 : a = x ∧ j = n
    · rw [if_pos h1, if_pos (by omega)]; omega
    · rw [if_neg h1]
      by_cases h2 : a = x ∧ j < n
      · rw [if_pos h2, if_pos (by omega)]
      · rw [if_neg h2, if_neg (by omega)]
theorem n0 {n : Nat} (h : n < 2147483648) : ¬ nI n < nI 0 := by
  rw [nlt h (by decide)]
  exact Nat.not_lt_zero n
def ST (L : Nat) (X : Nat → Int32) (x s : Nat) (R : List (Nat × Nat × Nat)) (U : List (Nat × Nat × Int32)) (g : aG) (I : Nat → Nat → Int32) (J : Nat → Nat → Int64) : Prop :=
  (gx g = x ∧ gs g = s ∧ 6 ≤ x) ∧ ((∀ a, 1 ≤ a → a < x → gK g a = kT.getD a 0) ∧ (∀ a, 2 ≤ a → a < x → gN g a = nT.getD a 0) ∧ gN g 1 = L) ∧
  ((∀ a j, 6 ≤ a → a < x → gR g a j = lk 0 R a j) ∧ ∀ a j, x ≤ a → lk 0 R a j = 0) ∧
  ((∀ a j, 6 ≤ a → a < x → I a j = lk 0 U a j) ∧ (∀ a j, x ≤ a → lk 0 U a j = 0) ∧ ∀ a, a < 6 → I a = (h0 L X).2.1 a) ∧
  (100 < x → ∀ k, k < 8 → J 100 k = lN (wh k))
section STR
variable {L : Nat} {X : Nat → Int32} {x s : Nat} {R : List (Nat × Nat × Nat)} {U : List (Nat × Nat × Int32)} {g : aG} {I : Nat → Nat → Int32} {J : Nat → Nat → Int64} {Q : aQ} {d : Nat}
theorem ST_x (hs : ST L X x s R U g I J) : gx g = x := hs.1.1
theorem ST_e {s2 : Nat} (hs : ST L X x s R U g I J) (e : s = s2) : ST L X x s2 R U g I J := e ▸ hs
theorem SK {a k : Nat} (hs : ST L X x s R U g I J) (h1 : 1 ≤ a) (h2 : a < x) (hk : kT.getD a 0 = k) : gK g a = k := by rw [hs.2.1.1 a h1 h2]; exact hk
theorem SK11 {a : Nat} (hs : ST L X x s R U g I J) (h1 : 1 ≤ a) (h2 : a < x) (hk : kT.getD a 0 ≤ 11) : gK g a ≤ 11 := by rw [hs.2.1.1 a h1 h2]; exact hk
theorem SKn {a k kd n : Nat} (hs : ST L X x s R U g I J) (h1 : 1 ≤ a) (h2 : a < x) (hk : kT.getD a 0 = k) : gK (gnew g kd n) a = k := by
  rw [gK_new, hs.1.1, if_neg (by omega)]
  exact SK hs h1 h2 hk
theorem SKx {kd n : Nat} (hs : ST L X x s R U g I J) : gK (gnew g kd n) x = kd := by rw [gK_new, if_pos hs.1.1.symm]
theorem SKm {a k kd ki n m : Nat} (hs : ST L X x s R U g I J) (h1 : 1 ≤ a) (h2 : a < x) (hk : kT.getD a 0 = k) : gK (gmul g kd ki n m) a = k := by
  show (if a = gx g then kd else if gx g < a ∧ a ≤ gx g + n then ki else gK g a) = k
  rw [hs.1.1, if_neg (by omega), if_neg (by omega)]
  exact SK hs h1 h2 hk
theorem SN {a n : Nat} (hs : ST L X x s R U g I J) (h1 : 2 ≤ a) (h2 : a < x) (hk : nT.getD a 0 = n) : gN g a = n := by rw [hs.2.1.2.1 a h1 h2]; exact hk
theorem ST_r {a j v : Nat} (hs : ST L X x s R U g I J) (h1 : 6 ≤ a) (h2 : a < x) (hv : lk 0 R a j = v) : gR g a j = v := by rw [hs.2.2.1.1 a j h1 h2]; exact hv
theorem ST_rn {a j v kd n : Nat} (hs : ST L X x s R U g I J) (h1 : 6 ≤ a) (h2 : a < x) (hv : lk 0 R a j = v) : gR (gnew g kd n) a j = v := by
  rw [gR_new, hs.1.1, if_neg (by omega)]
  exact ST_r hs h1 h2 hv
theorem ST_nj {kd n : Nat} {J' : Nat → Nat → Int64} (hs : ST L X x s R U g I J) (hk : kT.getD x 0 = kd) (hn : nT.getD x 0 = n) (hJ : 100 < x + 1 → ∀ k, k < 8 → J' 100 k = lN (wh k)) : ST L X (x + 1) (s + n) R U (gnew g kd n) (z2 I x 0) J' := by
  obtain ⟨⟨a1, a2, a3⟩, ⟨b1, b2, b3⟩, ⟨c1, c2⟩, ⟨d1, d2, d3⟩, e1⟩ := hs
  refine ⟨⟨?_, ?_, by omega⟩, ⟨fun a y1 y2 => ?_, fun a y1 y2 => ?_, ?_⟩, ⟨fun a j y1 y2 => ?_, fun a j y => c2 a j (by omega)⟩, ⟨fun a j y1 y2 => ?_, fun a j y => d2 a j (by omega), fun a y => ?_⟩, hJ⟩
  · rw [gx_new, a1]
  · rw [gs_new, a2]
  · rw [gK_new, a1]
    by_cases q : a = x
    · rw [if_pos q, q, hk]
    · rw [if_neg q]; exact b1 a y1 (by omega)
  · rw [gN_new, a1]
    by_cases q : a = x
    · rw [if_pos q, q, hn]
    · rw [if_neg q]; exact b2 a y1 (by omega)
  · rw [gN_new, a1, if_neg (by omega)]; exact b3
  · rw [gR_new, a1]
    by_cases q : a = x
    · rw [if_pos q, c2 a j (by omega)]
    · rw [if_neg q]; exact c1 a j y1 (by omega)
  · by_cases q : a = x
    · rw [d2 a j (by omega)]; exact if_pos q
    · rw [z2_r q]; exact d1 a j y1 (by omega)
  · rw [z2_r (by omega)]; exact d3 a y
theorem ST_n {kd n : Nat} (hs : ST L X x s R U g I J) (hk : kT.getD x 0 = kd) (hn : nT.getD x 0 = n) (h1 : x ≠ 100) : ST L X (x + 1) (s + n) R U (gnew g kd n) (z2 I x 0) (z2 J x 0) :=
  ST_nj hs hk hn (fun y k hk => by rw [z2_r (by omega)]; exact hs.2.2.2.2 (by omega) k hk)
theorem ST_p {a f v : Nat} (hs : ST L X x s R U g I J) (h6 : 6 ≤ a) (ha : a < x) : ST L X x s ((a, f, v) :: R) U (gput g a f v) I J := by
  obtain ⟨a1, b1, ⟨c1, c2⟩, d1, e1⟩ := hs
  refine ⟨a1, b1, ⟨fun b j y1 y2 => ?_, fun b j y => ?_⟩, d1, e1⟩
  · rw [gR_put, lk_c, c1 b j y1 y2]
  · rw [lk_c, if_neg (by omega)]; exact c2 b j y
theorem ST_u {a f : Nat} {v : Int32} (hs : ST L X x s R U g I J) (h6 : 6 ≤ a) (ha : a < x) : ST L X x s R ((a, f, v) :: U) g (u2 I a f v) J := by
  obtain ⟨a1, b1, c1, ⟨d1, d2, d3⟩, e1⟩ := hs
  refine ⟨a1, b1, c1, ⟨fun b j y1 y2 => ?_, fun b j y => ?_, fun b y => ?_⟩, e1⟩
  · unfold u2
    rw [lk_c, d1 b j y1 y2]
  · rw [lk_c, if_neg (by omega)]; exact d2 b j y
  · rw [u2_r (by omega)]; exact d3 b y
theorem ST_j {a f : Nat} {v : Int64} (hs : ST L X x s R U g I J) (ha : a ≠ 100) : ST L X x s R U g I (u2 J a f v) := by
  obtain ⟨a1, b1, c1, d1, e1⟩ := hs
  exact ⟨a1, b1, c1, d1, fun y k hk => by rw [u2_r (by omega)]; exact e1 y k hk⟩
theorem ST_m {kd ki n m : Nat} (hs : ST L X x s R U g I J) (hk : kT.getD x 0 = kd) (hk2 : ∀ i, i < n → kT.getD (x + 1 + i) 0 = ki) (hn : nT.getD x 0 = n) (hn2 : ∀ i, i < n → nT.getD (x + 1 + i) 0 = m) (h1 : x + n < 100) : ST L X (x + 1 + n) (s + n + n * m) (mrow x n ++ R) U (gmul g kd ki n m) (zm I x n 0) (zm J x n 0) := by
  obtain ⟨⟨a1, a2, a3⟩, ⟨b1, b2, b3⟩, ⟨c1, c2⟩, ⟨d1, d2, d3⟩, e1⟩ := hs
  have eK : ∀ a, gK (gmul g kd ki n m) a = if a = x then kd else if x < a ∧ a ≤ x + n then ki else gK g a := fun a => by rw [← a1]; rfl
  have eN : ∀ a, gN (gmul g kd ki n m) a = if a = x then n else if x < a ∧ a ≤ x + n then m else gN g a := fun a => by rw [← a1]; rfl
  have eR : ∀ a j, gR (gmul g kd ki n m) a j = if a = x then (if j < n then x + 1 + j else 0) else if x < a ∧ a ≤ x + n then 0 else gR g a j := fun a j => by rw [← a1]; rfl
  have zI : ∀ a j, ¬ (x ≤ a ∧ a ≤ x + n) → zm I x n 0 a j = I a j := fun a j q => if_neg q
  refine ⟨⟨?_, ?_, by omega⟩, ⟨fun a y1 y2 => ?_, fun a y1 y2 => ?_, ?_⟩, ⟨fun a j y1 y2 => ?_, fun a j y => ?_⟩, ⟨fun a j y1 y2 => ?_, fun a j y => d2 a j (by omega), fun a y => ?_⟩, fun y => by omega⟩
  · show gx g + 1 + n = x + 1 + n
    rw [a1]
  · show gs g + n + n * m = s + n + n * m
    rw [a2]
  · rw [eK]
    by_cases q : a = x
    · rw [if_pos q, q, hk]
    · rw [if_neg q]
      by_cases q2 : x < a ∧ a ≤ x + n
      · rw [if_pos q2]
        have := hk2 (a - x - 1) (by omega)
        rw [show x + 1 + (a - x - 1) = a by omega] at this
        exact this.symm
      · rw [if_neg q2]; exact b1 a y1 (by omega)
  · rw [eN]
    by_cases q : a = x
    · rw [if_pos q, q, hn]
    · rw [if_neg q]
      by_cases q2 : x < a ∧ a ≤ x + n
      · rw [if_pos q2]
        have := hn2 (a - x - 1) (by omega)
        rw [show x + 1 + (a - x - 1) = a by omega] at this
        exact this.symm
      · rw [if_neg q2]; exact b2 a y1 (by omega)
  · rw [eN, if_neg (by omega), if_neg (by omega)]; exact b3
  · rw [eR, lk_m]
    by_cases q : a = x
    · rw [if_pos q]
      by_cases q3 : j < n
      · rw [if_pos q3, if_pos ⟨q, q3⟩]
      · rw [if_neg q3, if_neg (by omega), c2 a j (by omega)]
    · rw [if_neg q, if_neg (show ¬ (a = x ∧ j < n) by omega)]
      by_cases q2 : x < a ∧ a ≤ x + n
      · rw [if_pos q2, c2 a j (by omega)]
      · rw [if_neg q2]; exact c1 a j y1 (by omega)
  · rw [lk_m, if_neg (by omega)]; exact c2 a j (by omega)
  · by_cases q : x ≤ a ∧ a ≤ x + n
    · rw [d2 a j (by omega)]; exact if_pos q
    · rw [zI a j q]; exact d1 a j y1 (by omega)
  · funext j
    rw [zI a j (by omega)]; exact congrFun (d3 a y) j
/-- the terms are cloned of AT_FIRST -/
theorem ST_c (hs : ST L X 10 s R U g I J) : ST L X 11 (s + 7) R ((10, 0, nI 8) :: ((10, 1, nI 1) :: ((10, 2, nI 3) :: ((10, 3, nI 0) :: ((10, 4, nI 0) :: ((10, 5, nI 8) :: ((10, 6, nI 8) :: U))))))) (gnew g 12 7) (row2 I 10 4 7) (z2 J 10 0) := by
  have e4 : I 4 = aFi := hs.2.2.2.1.2.2 4 (by decide)
  obtain ⟨a1, b1, c1, ⟨d1, d2, d3⟩, e1⟩ := ST_n hs (by rfl : kT.getD 10 0 = 12) (by rfl : nT.getD 10 0 = 7) (by decide)
  have dU := hs.2.2.2.1.2.1
  have rI : ∀ a j, a ≠ 10 → row2 I 10 4 7 a j = I a j := fun a j q => if_neg q
  have sk : ∀ a j, a ≠ 10 ∨ 7 ≤ j → lk 0 ((10, 0, nI 8) :: ((10, 1, nI 1) :: ((10, 2, nI 3) :: ((10, 3, nI 0) :: ((10, 4, nI 0) :: ((10, 5, nI 8) :: ((10, 6, nI 8) :: U))))))) a j = lk 0 U a j := fun a j q => by
    rw [lk_c, if_neg (by omega), lk_c, if_neg (by omega), lk_c, if_neg (by omega), lk_c, if_neg (by omega), lk_c, if_neg (by omega), lk_c, if_neg (by omega), lk_c, if_neg (by omega)]
  refine ⟨a1, b1, c1, ⟨fun a j y1 y2 => ?_, fun a j y => ?_, fun a y => ?_⟩, e1⟩
  · by_cases q : a = 10
    · rw [q]
      by_cases q2 : j < 7
      · have e : row2 I 10 4 7 10 j = aFi j := by rw [← e4]; exact (if_pos rfl).trans (if_pos q2)
        rw [e]
        match j, q2 with
        | 0, _ => rfl
        | 1, _ => rfl
        | 2, _ => rfl
        | 3, _ => rfl
        | 4, _ => rfl
        | 5, _ => rfl
        | 6, _ => rfl
        | n + 7, h => omega
      · have e : row2 I 10 4 7 10 j = 0 := (if_pos rfl).trans (if_neg q2)
        rw [e, sk 10 j (by omega), dU 10 j (by decide)]
    · rw [rI a j q, sk a j (by omega)]
      have := d1 a j y1 y2
      rw [z2_r q] at this
      exact this
  · rw [sk a j (by omega)]; exact d2 a j y
  · have := d3 a y
    rw [z2_r (by omega)] at this
    rw [← this]
    exact funext (fun j => rI a j (by omega))
theorem wh_v : wh 0 = 211015237 ∧ wh 1 = 70708 ∧ wh 2 = 274088114 ∧ wh 3 = 16392370 ∧ wh 4 = 24 ∧ wh 5 = 25 ∧ wh 6 = 136368 ∧ wh 7 = 658804083 := by decide +kernel
/-- the words' numbers -/
theorem ST_w (hs : ST L X 100 s R U g I J) : ST L X 101 (s + 8) R U (gnew g 13 8) (z2 I 100 0) (u2 (u2 (u2 (u2 (u2 (u2 (u2 (u2 (z2 J 100 0) 100 0 (lN 211015237)) 100 1 (lN 70708)) 100 2 (lN 274088114)) 100 3 (lN 16392370)) 100 4 (lN 24)) 100 5 (lN 25)) 100 6 (lN 136368)) 100 7 (lN 658804083)) := by
  obtain ⟨w0, w1, w2, w3, w4, w5, w6, w7⟩ := wh_v
  refine ST_nj hs (by rfl) (by rfl) (fun _ k hk => ?_)
  match k, hk with
  | 0, _ => rw [w0, u2_k (by decide), u2_k (by decide), u2_k (by decide), u2_k (by decide), u2_k (by decide), u2_k (by decide), u2_k (by decide), u2_s]
  | 1, _ => rw [w1, u2_k (by decide), u2_k (by decide), u2_k (by decide), u2_k (by decide), u2_k (by decide), u2_k (by decide), u2_s]
  | 2, _ => rw [w2, u2_k (by decide), u2_k (by decide), u2_k (by decide), u2_k (by decide), u2_k (by decide), u2_s]
  | 3, _ => rw [w3, u2_k (by decide), u2_k (by decide), u2_k (by decide), u2_k (by decide), u2_s]
  | 4, _ => rw [w4, u2_k (by decide), u2_k (by decide), u2_k (by decide), u2_s]
  | 5, _ => rw [w5, u2_k (by decide), u2_k (by decide), u2_s]
  | 6, _ => rw [w6, u2_k (by decide), u2_s]
  | 7, _ => rw [w7, u2_s]
  | n + 8, h => omega
theorem W_g {m pc : Nat} {l st : List Value} (hs : ST L X x s R U g I J) (hF : ∀ g I J, ST L X x s R U g I J → a_wp aTab aMX d m pc l st (g, I, J) Q) : a_wp aTab aMX d m pc l st (g, I, J) Q := hF _ _ _ hs
set_option maxHeartbeats 4000000 in
theorem c_Script_15 (hs : ST L X 16 s R U g I J) (hQ : ∀ g I J, ST L X 21 (s + 496) ((15, 7, 20) :: ((15, 6, 19) :: ((15, 5, 18) :: ((15, 4, 17) :: ((15, 3, 16) :: R))))) ((15, 2, (nI 0)) :: ((15, 1, (nI 0)) :: ((15, 0, (nI 0)) :: U))) g I J → Q none (g, I, J)) : a_call aTab aMX (d + 1) m_Script_init [.ref 15] (g, I, J) Q := by
  rw [e_Script_init]
  rw [b_Script_init_0]
  refine ⟨SK11 hs (by decide) (by decide) (by decide), SK hs (by decide) (by decide) (by rfl), ?_⟩
  refine W_g (x := 16) (ST_u hs (by decide) (by decide)) (fun g I J hs => ?_)
  rw [b_Script_init_9]
  refine ⟨SK hs (by decide) (by decide) (by rfl), ?_⟩
  refine W_g (x := 16) (ST_u hs (by decide) (by decide)) (fun g I J hs => ?_)
  rw [b_Script_init_14]
  refine ⟨SK hs (by decide) (by decide) (by rfl), ?_⟩
  refine W_g (x := 16) (ST_u hs (by decide) (by decide)) (fun g I J hs => ?_)
  rw [b_Script_init_19, ST_x hs, ncl (a := 24) (by decide)]
  refine ⟨n0 (by decide), (by decide), SKn hs (by decide) (by decide) (by rfl), ?_⟩
  refine W_g (x := 17) (ST_p (ST_n (x := 16) hs (by rfl) (by rfl) (by decide)) (by decide) (by decide)) (fun g I J hs => ?_)
  rw [b_Script_init_27, ST_x hs, ncl (a := 24) (by decide)]
  refine ⟨n0 (by decide), (by decide), SKn hs (by decide) (by decide) (by rfl), ?_⟩
  refine W_g (x := 18) (ST_p (ST_n (x := 17) hs (by rfl) (by rfl) (by decide)) (by decide) (by decide)) (fun g I J hs => ?_)
  rw [b_Script_init_35, ST_x hs, ncl (a := 24) (by decide)]
  refine ⟨n0 (by decide), (by decide), SKn hs (by decide) (by decide) (by rfl), ?_⟩
  refine W_g (x := 19) (ST_p (ST_n (x := 18) hs (by rfl) (by rfl) (by decide)) (by decide) (by decide)) (fun g I J hs => ?_)
  rw [b_Script_init_43, ST_x hs, ncl (a := 24) (by decide)]
  refine ⟨n0 (by decide), (by decide), SKn hs (by decide) (by decide) (by rfl), ?_⟩
  refine W_g (x := 20) (ST_p (ST_n (x := 19) hs (by rfl) (by rfl) (by decide)) (by decide) (by decide)) (fun g I J hs => ?_)
  rw [b_Script_init_51, ST_x hs, ncl (a := 400) (by decide)]
  refine ⟨n0 (by decide), (by decide), SKn hs (by decide) (by decide) (by rfl), ?_⟩
  refine W_g (x := 21) (ST_p (ST_n (x := 20) hs (by rfl) (by rfl) (by decide)) (by decide) (by decide)) (fun g I J hs => ?_)
  rw [b_Script_init_60]
  exact hQ _ _ _ (ST_e hs (by omega))
set_option maxHeartbeats 4000000 in
theorem c_Script_24 (hs : ST L X 25 s R U g I J) (hQ : ∀ g I J, ST L X 30 (s + 496) ((24, 7, 29) :: ((24, 6, 28) :: ((24, 5, 27) :: ((24, 4, 26) :: ((24, 3, 25) :: R))))) ((24, 2, (nI 0)) :: ((24, 1, (nI 0)) :: ((24, 0, (nI 0)) :: U))) g I J → Q none (g, I, J)) : a_call aTab aMX (d + 1) m_Script_init [.ref 24] (g, I, J) Q := by
  rw [e_Script_init]
  rw [b_Script_init_0]
  refine ⟨SK11 hs (by decide) (by decide) (by decide), SK hs (by decide) (by decide) (by rfl), ?_⟩
  refine W_g (x := 25) (ST_u hs (by decide) (by decide)) (fun g I J hs => ?_)
  rw [b_Script_init_9]
  refine ⟨SK hs (by decide) (by decide) (by rfl), ?_⟩
  refine W_g (x := 25) (ST_u hs (by decide) (by decide)) (fun g I J hs => ?_)
  rw [b_Script_init_14]
  refine ⟨SK hs (by decide) (by decide) (by rfl), ?_⟩
  refine W_g (x := 25) (ST_u hs (by decide) (by decide)) (fun g I J hs => ?_)
  rw [b_Script_init_19, ST_x hs, ncl (a := 24) (by decide)]
  refine ⟨n0 (by decide), (by decide), SKn hs (by decide) (by decide) (by rfl), ?_⟩
  refine W_g (x := 26) (ST_p (ST_n (x := 25) hs (by rfl) (by rfl) (by decide)) (by decide) (by decide)) (fun g I J hs => ?_)
  rw [b_Script_init_27, ST_x hs, ncl (a := 24) (by decide)]
  refine ⟨n0 (by decide), (by decide), SKn hs (by decide) (by decide) (by rfl), ?_⟩
  refine W_g (x := 27) (ST_p (ST_n (x := 26) hs (by rfl) (by rfl) (by decide)) (by decide) (by decide)) (fun g I J hs => ?_)
  rw [b_Script_init_35, ST_x hs, ncl (a := 24) (by decide)]
  refine ⟨n0 (by decide), (by decide), SKn hs (by decide) (by decide) (by rfl), ?_⟩
  refine W_g (x := 28) (ST_p (ST_n (x := 27) hs (by rfl) (by rfl) (by decide)) (by decide) (by decide)) (fun g I J hs => ?_)
  rw [b_Script_init_43, ST_x hs, ncl (a := 24) (by decide)]
  refine ⟨n0 (by decide), (by decide), SKn hs (by decide) (by decide) (by rfl), ?_⟩
  refine W_g (x := 29) (ST_p (ST_n (x := 28) hs (by rfl) (by rfl) (by decide)) (by decide) (by decide)) (fun g I J hs => ?_)
  rw [b_Script_init_51, ST_x hs, ncl (a := 400) (by decide)]
  refine ⟨n0 (by decide), (by decide), SKn hs (by decide) (by decide) (by rfl), ?_⟩
  refine W_g (x := 30) (ST_p (ST_n (x := 29) hs (by rfl) (by rfl) (by decide)) (by decide) (by decide)) (fun g I J hs => ?_)
  rw [b_Script_init_60]
  exact hQ _ _ _ (ST_e hs (by omega))
set_option maxHeartbeats 4000000 in
theorem c_Scene (hs : ST L X 8 s R U g I J) (hQ : ∀ g I J, ST L X 21 (s + 797) ((7, 8, 15) :: ((15, 7, 20) :: ((15, 6, 19) :: ((15, 5, 18) :: ((15, 4, 17) :: ((15, 3, 16) :: ((7, 7, 14) :: ((7, 6, 13) :: ((7, 5, 12) :: ((7, 4, 11) :: ((7, 3, 10) :: ((7, 2, 9) :: ((7, 1, 8) :: R))))))))))))) ((15, 2, (nI 0)) :: ((15, 1, (nI 0)) :: ((15, 0, (nI 0)) :: ((10, 0, (nI 8)) :: ((10, 1, (nI 1)) :: ((10, 2, (nI 3)) :: ((10, 3, (nI 0)) :: ((10, 4, (nI 0)) :: ((10, 5, (nI 8)) :: ((10, 6, (nI 8)) :: ((7, 0, (nI 0)) :: U))))))))))) g I J → Q none (g, I, J)) : a_call aTab aMX (d + 2) m_Scene_init [.ref 7] (g, I, J) Q := by
  rw [e_Scene_init]
  rw [b_Scene_init_0]
  refine ⟨SK11 hs (by decide) (by decide) (by decide), SK hs (by decide) (by decide) (by rfl), ?_⟩
  refine W_g (x := 8) (ST_u hs (by decide) (by decide)) (fun g I J hs => ?_)
  rw [b_Scene_init_9, ST_x hs, ncl (a := 48) (by decide)]
  refine ⟨n0 (by decide), (by decide), SKn hs (by decide) (by decide) (by rfl), ?_⟩
  refine W_g (x := 9) (ST_p (ST_n (x := 8) hs (by rfl) (by rfl) (by decide)) (by decide) (by decide)) (fun g I J hs => ?_)
  rw [b_Scene_init_17, ST_x hs, ncl (a := 6) (by decide)]
  refine ⟨n0 (by decide), (by decide), SKn hs (by decide) (by decide) (by rfl), ?_⟩
  refine W_g (x := 10) (ST_p (ST_n (x := 9) hs (by rfl) (by rfl) (by decide)) (by decide) (by decide)) (fun g I J hs => ?_)
  rw [b_Scene_init_25, ST_x hs, SN hs (a := 4) (n := 7) (by decide) (by decide) (by rfl)]
  refine ⟨⟨SK hs (by decide) (by decide) (by rfl), rfl⟩, SKx hs, SKn hs (by decide) (by decide) (by rfl), ?_⟩
  refine W_g (x := 11) (ST_p (ST_c hs) (by decide) (by decide)) (fun g I J hs => ?_)
  rw [b_Scene_init_38, ST_x hs, ncl (a := 72) (by decide)]
  refine ⟨n0 (by decide), (by decide), SKn hs (by decide) (by decide) (by rfl), ?_⟩
  refine W_g (x := 12) (ST_p (ST_n (x := 11) hs (by rfl) (by rfl) (by decide)) (by decide) (by decide)) (fun g I J hs => ?_)
  rw [b_Scene_init_46, ST_x hs, ncl (a := 72) (by decide)]
  refine ⟨n0 (by decide), (by decide), SKn hs (by decide) (by decide) (by rfl), ?_⟩
  refine W_g (x := 13) (ST_p (ST_n (x := 12) hs (by rfl) (by rfl) (by decide)) (by decide) (by decide)) (fun g I J hs => ?_)
  rw [b_Scene_init_54, ST_x hs, ncl (a := 72) (by decide)]
  refine ⟨n0 (by decide), (by decide), SKn hs (by decide) (by decide) (by rfl), ?_⟩
  refine W_g (x := 14) (ST_p (ST_n (x := 13) hs (by rfl) (by rfl) (by decide)) (by decide) (by decide)) (fun g I J hs => ?_)
  rw [b_Scene_init_62, ST_x hs, ncl (a := 16) (by decide)]
  refine ⟨n0 (by decide), (by decide), SKn hs (by decide) (by decide) (by rfl), ?_⟩
  refine W_g (x := 15) (ST_p (ST_n (x := 14) hs (by rfl) (by rfl) (by decide)) (by decide) (by decide)) (fun g I J hs => ?_)
  rw [b_Scene_init_70, ST_x hs]
  refine ⟨SKx hs, ?_⟩
  refine c_Script_15 (ST_n (x := 15) hs (by rfl) (by rfl) (by decide)) (fun g I J hs => ⟨rfl, ?_⟩)
  rw [b_Scene_init_78]
  refine ⟨SK hs (by decide) (by decide) (by rfl), ?_⟩
  refine W_g (x := 21) (ST_p hs (by decide) (by decide)) (fun g I J hs => ?_)
  rw [b_Scene_init_81]
  exact hQ _ _ _ (ST_e hs (by omega))
set_option maxHeartbeats 4000000 in
theorem c_Reader (hs : ST L X 24 s R U g I J) (hQ : ∀ g I J, ST L X 32 (s + 1048) ((23, 3, 31) :: ((23, 2, 30) :: ((23, 0, 24) :: ((24, 7, 29) :: ((24, 6, 28) :: ((24, 5, 27) :: ((24, 4, 26) :: ((24, 3, 25) :: R)))))))) ((23, 10, (nI 0)) :: ((23, 9, (nI 0)) :: ((23, 8, (nI 0)) :: ((23, 7, (nI 0)) :: ((23, 6, (nI 256)) :: ((23, 5, (nI 0)) :: ((23, 4, (nI 0)) :: ((23, 1, (-1 : Int32)) :: ((24, 2, (nI 0)) :: ((24, 1, (nI 0)) :: ((24, 0, (nI 0)) :: U))))))))))) g I J → Q none (g, I, J)) : a_call aTab aMX (d + 2) m_Reader_init [.ref 23] (g, I, J) Q := by
  rw [e_Reader_init]
  rw [b_Reader_init_0, ST_x hs]
  refine ⟨SK11 hs (by decide) (by decide) (by decide), SKx hs, ?_⟩
  refine c_Script_24 (ST_n (x := 24) hs (by rfl) (by rfl) (by decide)) (fun g I J hs => ⟨rfl, ?_⟩)
  rw [b_Reader_init_12]
  refine ⟨SK hs (by decide) (by decide) (by rfl), ?_⟩
  refine W_g (x := 30) (ST_p hs (by decide) (by decide)) (fun g I J hs => ?_)
  rw [b_Reader_init_15]
  refine ⟨SK hs (by decide) (by decide) (by rfl), ?_⟩
  refine W_g (x := 30) (ST_u hs (by decide) (by decide)) (fun g I J hs => ?_)
  rw [b_Reader_init_20, ST_x hs, ncl (a := 400) (by decide)]
  refine ⟨n0 (by decide), (by decide), SKn hs (by decide) (by decide) (by rfl), ?_⟩
  refine W_g (x := 31) (ST_p (ST_n (x := 30) hs (by rfl) (by rfl) (by decide)) (by decide) (by decide)) (fun g I J hs => ?_)
  rw [b_Reader_init_29, ST_x hs, ncl (a := 144) (by decide)]
  refine ⟨n0 (by decide), (by decide), SKn hs (by decide) (by decide) (by rfl), ?_⟩
  refine W_g (x := 32) (ST_p (ST_n (x := 31) hs (by rfl) (by rfl) (by decide)) (by decide) (by decide)) (fun g I J hs => ?_)
  rw [b_Reader_init_38]
  refine ⟨SK hs (by decide) (by decide) (by rfl), ?_⟩
  refine W_g (x := 32) (ST_u hs (by decide) (by decide)) (fun g I J hs => ?_)
  rw [b_Reader_init_43]
  refine ⟨SK hs (by decide) (by decide) (by rfl), ?_⟩
  refine W_g (x := 32) (ST_u hs (by decide) (by decide)) (fun g I J hs => ?_)
  rw [b_Reader_init_48]
  refine ⟨SK hs (by decide) (by decide) (by rfl), ?_⟩
  refine W_g (x := 32) (ST_u hs (by decide) (by decide)) (fun g I J hs => ?_)
  rw [b_Reader_init_55]
  refine ⟨SK hs (by decide) (by decide) (by rfl), ?_⟩
  refine W_g (x := 32) (ST_u hs (by decide) (by decide)) (fun g I J hs => ?_)
  rw [b_Reader_init_60]
  refine ⟨SK hs (by decide) (by decide) (by rfl), ?_⟩
  refine W_g (x := 32) (ST_u hs (by decide) (by decide)) (fun g I J hs => ?_)
  rw [b_Reader_init_65]
  refine ⟨SK hs (by decide) (by decide) (by rfl), ?_⟩
  refine W_g (x := 32) (ST_u hs (by decide) (by decide)) (fun g I J hs => ?_)
  rw [b_Reader_init_70]
  refine ⟨SK hs (by decide) (by decide) (by rfl), ?_⟩
  refine W_g (x := 32) (ST_u hs (by decide) (by decide)) (fun g I J hs => ?_)
  rw [b_Reader_init_75]
  exact hQ _ _ _ (ST_e hs (by omega))
set_option maxHeartbeats 4000000 in
theorem c_Light (hs : ST L X 33 s R U g I J) (hQ : ∀ g I J, ST L X 33 (s + 0) ((32, 0, 7) :: R) U g I J → Q none (g, I, J)) : a_call aTab aMX (d + 1) m_Light_init [.ref 32, .ref 7] (g, I, J) Q := by
  rw [e_Light_init]
  rw [b_Light_init_0]
  refine ⟨SK11 hs (by decide) (by decide) (by decide), SK hs (by decide) (by decide) (by rfl), ?_⟩
  refine W_g (x := 33) (ST_p hs (by decide) (by decide)) (fun g I J hs => ?_)
  rw [b_Light_init_9]
  exact hQ _ _ _ (ST_e hs (by omega))
set_option maxHeartbeats 4000000 in
theorem c_Asker (hs : ST L X 34 s R U g I J) (h7_8 : lk 0 R 7 8 = 15) (hQ : ∀ g I J, ST L X 36 (s + 72) ((33, 1, 15) :: ((33, 0, 7) :: ((33, 3, 35) :: ((33, 2, 34) :: R)))) U g I J → Q none (g, I, J)) : a_call aTab aMX (d + 1) m_Asker_init [.ref 33, .ref 7] (g, I, J) Q := by
  rw [e_Asker_init]
  rw [b_Asker_init_0, ST_x hs, ncl (a := 8) (by decide)]
  refine ⟨SK11 hs (by decide) (by decide) (by decide), n0 (by decide), (by decide), SKn hs (by decide) (by decide) (by rfl), ?_⟩
  refine W_g (x := 35) (ST_p (ST_n (x := 34) hs (by rfl) (by rfl) (by decide)) (by decide) (by decide)) (fun g I J hs => ?_)
  rw [b_Asker_init_12, ST_x hs, ncl (a := 64) (by decide)]
  refine ⟨n0 (by decide), (by decide), SKn hs (by decide) (by decide) (by rfl), ?_⟩
  refine W_g (x := 36) (ST_p (ST_n (x := 35) hs (by rfl) (by rfl) (by decide)) (by decide) (by decide)) (fun g I J hs => ?_)
  rw [b_Asker_init_20]
  refine ⟨SK hs (by decide) (by decide) (by rfl), ?_⟩
  refine W_g (x := 36) (ST_p hs (by decide) (by decide)) (fun g I J hs => ?_)
  rw [b_Asker_init_25, ST_r hs (a := 7) (j := 8) (v := 15) (by decide) (by decide) h7_8]
  refine ⟨SK hs (by decide) (by decide) (by rfl), SK hs (by decide) (by decide) (by rfl), ?_⟩
  refine W_g (x := 36) (ST_p hs (by decide) (by decide)) (fun g I J hs => ?_)
  rw [b_Asker_init_33]
  exact hQ _ _ _ (ST_e hs (by omega))
set_option maxHeartbeats 4000000 in
theorem c_Hands (hs : ST L X 37 s R U g I J) (hQ : ∀ g I J, ST L X 44 (s + 208) ((36, 1, 33) :: ((36, 0, 7) :: ((36, 6, 41) :: (mrow 41 2 ++ ((36, 5, 40) :: ((36, 4, 39) :: ((36, 3, 38) :: ((36, 2, 37) :: R)))))))) ((36, 7, (nI 0)) :: U) g I J → Q none (g, I, J)) : a_call aTab aMX (d + 1) m_Hands_init [.ref 36, .ref 7, .ref 33] (g, I, J) Q := by
  rw [e_Hands_init]
  rw [b_Hands_init_0, ST_x hs, ncl (a := 48) (by decide)]
  refine ⟨SK11 hs (by decide) (by decide) (by decide), n0 (by decide), (by decide), SKn hs (by decide) (by decide) (by rfl), ?_⟩
  refine W_g (x := 38) (ST_p (ST_n (x := 37) hs (by rfl) (by rfl) (by decide)) (by decide) (by decide)) (fun g I J hs => ?_)
  rw [b_Hands_init_12, ST_x hs, ncl (a := 12) (by decide)]
  refine ⟨n0 (by decide), (by decide), SKn hs (by decide) (by decide) (by rfl), ?_⟩
  refine W_g (x := 39) (ST_p (ST_n (x := 38) hs (by rfl) (by rfl) (by decide)) (by decide) (by decide)) (fun g I J hs => ?_)
  rw [b_Hands_init_20, ST_x hs, ncl (a := 12) (by decide)]
  refine ⟨n0 (by decide), (by decide), SKn hs (by decide) (by decide) (by rfl), ?_⟩
  refine W_g (x := 40) (ST_p (ST_n (x := 39) hs (by rfl) (by rfl) (by decide)) (by decide) (by decide)) (fun g I J hs => ?_)
  rw [b_Hands_init_28, ST_x hs, ncl (a := 6) (by decide)]
  refine ⟨n0 (by decide), (by decide), SKn hs (by decide) (by decide) (by rfl), ?_⟩
  refine W_g (x := 41) (ST_p (ST_n (x := 40) hs (by rfl) (by rfl) (by decide)) (by decide) (by decide)) (fun g I J hs => ?_)
  rw [b_Hands_init_36, ST_x hs, ncl (a := 2) (by decide), ncl (a := 64) (by decide)]
  refine ⟨⟨n0 (by decide), n0 (by decide)⟩, ⟨(by decide), (by decide)⟩, SKm hs (by decide) (by decide) (by rfl), ?_⟩
  refine W_g (x := 44) (ST_p (ST_m (x := 41) hs (by rfl) (by decide) (by rfl) (by decide) (by decide)) (by decide) (by decide)) (fun g I J hs => ?_)
  rw [b_Hands_init_47]
  refine ⟨SK hs (by decide) (by decide) (by rfl), ?_⟩
  refine W_g (x := 44) (ST_u hs (by decide) (by decide)) (fun g I J hs => ?_)
  rw [b_Hands_init_52]
  refine ⟨SK hs (by decide) (by decide) (by rfl), ?_⟩
  refine W_g (x := 44) (ST_p hs (by decide) (by decide)) (fun g I J hs => ?_)
  rw [b_Hands_init_57]
  refine ⟨SK hs (by decide) (by decide) (by rfl), ?_⟩
  refine W_g (x := 44) (ST_p hs (by decide) (by decide)) (fun g I J hs => ?_)
  rw [b_Hands_init_62]
  exact hQ _ _ _ (ST_e hs (by omega))
set_option maxHeartbeats 4000000 in
theorem c_Planner (hs : ST L X 45 s R U g I J) (hQ : ∀ g I J, ST L X 49 (s + 1241) ((44, 5, 36) :: ((44, 4, 33) :: ((44, 3, 7) :: ((44, 12, 48) :: ((44, 11, 47) :: ((44, 10, 46) :: ((44, 9, 45) :: ((44, 7, 0) :: ((44, 6, 0) :: R))))))))) ((44, 14, (nI 0)) :: ((44, 13, (nI 0)) :: ((44, 8, (nI 0)) :: ((44, 2, (nI 0)) :: ((44, 1, (nI 0)) :: ((44, 0, (nI 0)) :: U)))))) g I J → Q none (g, I, J)) : a_call aTab aMX (d + 1) m_Planner_init [.ref 44, .ref 7, .ref 33, .ref 36] (g, I, J) Q := by
  rw [e_Planner_init]
  rw [b_Planner_init_0]
  refine ⟨SK11 hs (by decide) (by decide) (by decide), SK hs (by decide) (by decide) (by rfl), Or.inl rfl, ?_⟩
  refine W_g (x := 45) (ST_u hs (by decide) (by decide)) (fun g I J hs => ?_)
  rw [b_Planner_init_9]
  refine ⟨SK hs (by decide) (by decide) (by rfl), ?_⟩
  refine W_g (x := 45) (ST_u hs (by decide) (by decide)) (fun g I J hs => ?_)
  rw [b_Planner_init_14]
  refine ⟨SK hs (by decide) (by decide) (by rfl), ?_⟩
  refine W_g (x := 45) (ST_u hs (by decide) (by decide)) (fun g I J hs => ?_)
  rw [b_Planner_init_19]
  refine ⟨SK hs (by decide) (by decide) (by rfl), ?_⟩
  refine W_g (x := 45) (ST_p hs (by decide) (by decide)) (fun g I J hs => ?_)
  rw [b_Planner_init_24]
  refine ⟨SK hs (by decide) (by decide) (by rfl), ?_⟩
  refine W_g (x := 45) (ST_p hs (by decide) (by decide)) (fun g I J hs => ?_)
  rw [b_Planner_init_29]
  refine ⟨SK hs (by decide) (by decide) (by rfl), Or.inl rfl, ?_⟩
  refine W_g (x := 45) (ST_u hs (by decide) (by decide)) (fun g I J hs => ?_)
  rw [b_Planner_init_34, ST_x hs, ncl (a := 1152) (by decide)]
  refine ⟨n0 (by decide), (by decide), SKn hs (by decide) (by decide) (by rfl), ?_⟩
  refine W_g (x := 46) (ST_p (ST_n (x := 45) hs (by rfl) (by rfl) (by decide)) (by decide) (by decide)) (fun g I J hs => ?_)
  rw [b_Planner_init_43, ST_x hs, ncl (a := 13) (by decide)]
  refine ⟨n0 (by decide), (by decide), SKn hs (by decide) (by decide) (by rfl), ?_⟩
  refine W_g (x := 47) (ST_p (ST_n (x := 46) hs (by rfl) (by rfl) (by decide)) (by decide) (by decide)) (fun g I J hs => ?_)
  rw [b_Planner_init_51, ST_x hs, ncl (a := 72) (by decide)]
  refine ⟨n0 (by decide), (by decide), SKn hs (by decide) (by decide) (by rfl), ?_⟩
  refine W_g (x := 48) (ST_p (ST_n (x := 47) hs (by rfl) (by rfl) (by decide)) (by decide) (by decide)) (fun g I J hs => ?_)
  rw [b_Planner_init_59, ST_x hs, ncl (a := 4) (by decide)]
  refine ⟨n0 (by decide), (by decide), SKn hs (by decide) (by decide) (by rfl), ?_⟩
  refine W_g (x := 49) (ST_p (ST_n (x := 48) hs (by rfl) (by rfl) (by decide)) (by decide) (by decide)) (fun g I J hs => ?_)
  rw [b_Planner_init_66]
  refine ⟨SK hs (by decide) (by decide) (by rfl), ?_⟩
  refine W_g (x := 49) (ST_u hs (by decide) (by decide)) (fun g I J hs => ?_)
  rw [b_Planner_init_71]
  refine ⟨SK hs (by decide) (by decide) (by rfl), ?_⟩
  refine W_g (x := 49) (ST_u hs (by decide) (by decide)) (fun g I J hs => ?_)
  rw [b_Planner_init_76]
  refine ⟨SK hs (by decide) (by decide) (by rfl), ?_⟩
  refine W_g (x := 49) (ST_p hs (by decide) (by decide)) (fun g I J hs => ?_)
  rw [b_Planner_init_81]
  refine ⟨SK hs (by decide) (by decide) (by rfl), ?_⟩
  refine W_g (x := 49) (ST_p hs (by decide) (by decide)) (fun g I J hs => ?_)
  rw [b_Planner_init_86]
  refine ⟨SK hs (by decide) (by decide) (by rfl), ?_⟩
  refine W_g (x := 49) (ST_p hs (by decide) (by decide)) (fun g I J hs => ?_)
  rw [b_Planner_init_91]
  exact hQ _ _ _ (ST_e hs (by omega))
set_option maxHeartbeats 4000000 in
theorem c_Target (hs : ST L X 51 s R U g I J) (hQ : ∀ g I J, ST L X 83 (s + 731) ((50, 7, 73) :: (mrow 73 9 ++ ((50, 6, 63) :: (mrow 63 9 ++ ((50, 5, 53) :: (mrow 53 9 ++ ((50, 4, 52) :: ((50, 3, 51) :: R)))))))) ((50, 2, (nI 0)) :: ((50, 0, (nI 0)) :: U)) g I J → Q none (g, I, J)) : a_call aTab aMX (d + 1) m_Target_init [.ref 50] (g, I, J) Q := by
  rw [e_Target_init]
  rw [b_Target_init_0]
  refine ⟨SK11 hs (by decide) (by decide) (by decide), SK hs (by decide) (by decide) (by rfl), ?_⟩
  refine W_g (x := 51) (ST_u hs (by decide) (by decide)) (fun g I J hs => ?_)
  rw [b_Target_init_9]
  refine ⟨SK hs (by decide) (by decide) (by rfl), ?_⟩
  refine W_g (x := 51) (ST_j hs (by decide)) (fun g I J hs => ?_)
  rw [b_Target_init_14]
  refine ⟨SK hs (by decide) (by decide) (by rfl), ?_⟩
  refine W_g (x := 51) (ST_u hs (by decide) (by decide)) (fun g I J hs => ?_)
  rw [b_Target_init_19, ST_x hs, ncl (a := 64) (by decide)]
  refine ⟨n0 (by decide), (by decide), SKn hs (by decide) (by decide) (by rfl), ?_⟩
  refine W_g (x := 52) (ST_p (ST_n (x := 51) hs (by rfl) (by rfl) (by decide)) (by decide) (by decide)) (fun g I J hs => ?_)
  rw [b_Target_init_27, ST_x hs, ncl (a := 64) (by decide)]
  refine ⟨n0 (by decide), (by decide), SKn hs (by decide) (by decide) (by rfl), ?_⟩
  refine W_g (x := 53) (ST_p (ST_n (x := 52) hs (by rfl) (by rfl) (by decide)) (by decide) (by decide)) (fun g I J hs => ?_)
  rw [b_Target_init_35, ST_x hs, ncl (a := 9) (by decide), ncl (a := 32) (by decide)]
  refine ⟨⟨n0 (by decide), n0 (by decide)⟩, ⟨(by decide), (by decide)⟩, SKm hs (by decide) (by decide) (by rfl), ?_⟩
  refine W_g (x := 63) (ST_p (ST_m (x := 53) hs (by rfl) (by decide) (by rfl) (by decide) (by decide)) (by decide) (by decide)) (fun g I J hs => ?_)
  rw [b_Target_init_47, ST_x hs, ncl (a := 9) (by decide), ncl (a := 16) (by decide)]
  refine ⟨⟨n0 (by decide), n0 (by decide)⟩, ⟨(by decide), (by decide)⟩, SKm hs (by decide) (by decide) (by rfl), ?_⟩
  refine W_g (x := 73) (ST_p (ST_m (x := 63) hs (by rfl) (by decide) (by rfl) (by decide) (by decide)) (by decide) (by decide)) (fun g I J hs => ?_)
  rw [b_Target_init_59, ST_x hs, ncl (a := 9) (by decide), ncl (a := 16) (by decide)]
  refine ⟨⟨n0 (by decide), n0 (by decide)⟩, ⟨(by decide), (by decide)⟩, SKm hs (by decide) (by decide) (by rfl), ?_⟩
  refine W_g (x := 83) (ST_p (ST_m (x := 73) hs (by rfl) (by decide) (by rfl) (by decide) (by decide)) (by decide) (by decide)) (fun g I J hs => ?_)
  rw [b_Target_init_71]
  exact hQ _ _ _ (ST_e hs (by omega))
set_option maxHeartbeats 4000000 in
theorem c_Maker (hs : ST L X 50 s R U g I J) (hQ : ∀ g I J, ST L X 87 (s + 760) ((49, 1, 7) :: ((49, 6, 86) :: ((49, 5, 85) :: ((49, 4, 84) :: ((49, 3, 83) :: ((49, 2, 50) :: ((50, 7, 73) :: (mrow 73 9 ++ ((50, 6, 63) :: (mrow 63 9 ++ ((50, 5, 53) :: (mrow 53 9 ++ ((50, 4, 52) :: ((50, 3, 51) :: R)))))))))))))) ((49, 13, (nI 0)) :: ((49, 12, (nI 0)) :: ((49, 11, (nI 0)) :: ((49, 10, (nI 0)) :: ((49, 8, (nI 0)) :: ((49, 7, (-1 : Int32)) :: ((50, 2, (nI 0)) :: ((50, 0, (nI 0)) :: ((49, 0, (-1 : Int32)) :: U))))))))) g I J → Q none (g, I, J)) : a_call aTab aMX (d + 2) m_Maker_init [.ref 49, .ref 7] (g, I, J) Q := by
  rw [e_Maker_init]
  rw [b_Maker_init_0]
  refine ⟨SK11 hs (by decide) (by decide) (by decide), SK hs (by decide) (by decide) (by rfl), ?_⟩
  refine W_g (x := 50) (ST_u hs (by decide) (by decide)) (fun g I J hs => ?_)
  rw [b_Maker_init_9, ST_x hs]
  refine ⟨SKx hs, ?_⟩
  refine c_Target (ST_n (x := 50) hs (by rfl) (by rfl) (by decide)) (fun g I J hs => ⟨rfl, ?_⟩)
  rw [b_Maker_init_17]
  refine ⟨SK hs (by decide) (by decide) (by rfl), ?_⟩
  refine W_g (x := 83) (ST_p hs (by decide) (by decide)) (fun g I J hs => ?_)
  rw [b_Maker_init_20, ST_x hs, ncl (a := 6) (by decide)]
  refine ⟨n0 (by decide), (by decide), SKn hs (by decide) (by decide) (by rfl), ?_⟩
  refine W_g (x := 84) (ST_p (ST_n (x := 83) hs (by rfl) (by rfl) (by decide)) (by decide) (by decide)) (fun g I J hs => ?_)
  rw [b_Maker_init_29, ST_x hs, ncl (a := 6) (by decide)]
  refine ⟨n0 (by decide), (by decide), SKn hs (by decide) (by decide) (by rfl), ?_⟩
  refine W_g (x := 85) (ST_p (ST_n (x := 84) hs (by rfl) (by rfl) (by decide)) (by decide) (by decide)) (fun g I J hs => ?_)
  rw [b_Maker_init_37, ST_x hs, ncl (a := 6) (by decide)]
  refine ⟨n0 (by decide), (by decide), SKn hs (by decide) (by decide) (by rfl), ?_⟩
  refine W_g (x := 86) (ST_p (ST_n (x := 85) hs (by rfl) (by rfl) (by decide)) (by decide) (by decide)) (fun g I J hs => ?_)
  rw [b_Maker_init_45, ST_x hs, ncl (a := 3) (by decide)]
  refine ⟨n0 (by decide), (by decide), SKn hs (by decide) (by decide) (by rfl), ?_⟩
  refine W_g (x := 87) (ST_p (ST_n (x := 86) hs (by rfl) (by rfl) (by decide)) (by decide) (by decide)) (fun g I J hs => ?_)
  rw [b_Maker_init_52]
  refine ⟨SK hs (by decide) (by decide) (by rfl), ?_⟩
  refine W_g (x := 87) (ST_u hs (by decide) (by decide)) (fun g I J hs => ?_)
  rw [b_Maker_init_57]
  refine ⟨SK hs (by decide) (by decide) (by rfl), Or.inl rfl, ?_⟩
  refine W_g (x := 87) (ST_u hs (by decide) (by decide)) (fun g I J hs => ?_)
  rw [b_Maker_init_62]
  refine ⟨SK hs (by decide) (by decide) (by rfl), ?_⟩
  refine W_g (x := 87) (ST_j hs (by decide)) (fun g I J hs => ?_)
  rw [b_Maker_init_67]
  refine ⟨SK hs (by decide) (by decide) (by rfl), ?_⟩
  refine W_g (x := 87) (ST_u hs (by decide) (by decide)) (fun g I J hs => ?_)
  rw [b_Maker_init_72]
  refine ⟨SK hs (by decide) (by decide) (by rfl), ?_⟩
  refine W_g (x := 87) (ST_u hs (by decide) (by decide)) (fun g I J hs => ?_)
  rw [b_Maker_init_77]
  refine ⟨SK hs (by decide) (by decide) (by rfl), ?_⟩
  refine W_g (x := 87) (ST_u hs (by decide) (by decide)) (fun g I J hs => ?_)
  rw [b_Maker_init_82]
  refine ⟨SK hs (by decide) (by decide) (by rfl), ?_⟩
  refine W_g (x := 87) (ST_u hs (by decide) (by decide)) (fun g I J hs => ?_)
  rw [b_Maker_init_87]
  refine ⟨SK hs (by decide) (by decide) (by rfl), ?_⟩
  refine W_g (x := 87) (ST_p hs (by decide) (by decide)) (fun g I J hs => ?_)
  rw [b_Maker_init_92]
  exact hQ _ _ _ (ST_e hs (by omega))
set_option maxHeartbeats 4000000 in
theorem c_Cp (hs : ST L X 7 s R U g I J) (hQ : ∀ g I J, ST L X 89 (s + 4609) ((6, 10, 88) :: ((6, 9, 87) :: ((6, 8, 49) :: ((49, 1, 7) :: ((49, 6, 86) :: ((49, 5, 85) :: ((49, 4, 84) :: ((49, 3, 83) :: ((49, 2, 50) :: ((50, 7, 73) :: (mrow 73 9 ++ ((50, 6, 63) :: (mrow 63 9 ++ ((50, 5, 53) :: (mrow 53 9 ++ ((50, 4, 52) :: ((50, 3, 51) :: ((6, 7, 44) :: ((44, 5, 36) :: ((44, 4, 33) :: ((44, 3, 7) :: ((44, 12, 48) :: ((44, 11, 47) :: ((44, 10, 46) :: ((44, 9, 45) :: ((44, 7, 0) :: ((44, 6, 0) :: ((6, 6, 36) :: ((36, 1, 33) :: ((36, 0, 7) :: ((36, 6, 41) :: (mrow 41 2 ++ ((36, 5, 40) :: ((36, 4, 39) :: ((36, 3, 38) :: ((36, 2, 37) :: ((6, 5, 33) :: ((33, 1, 15) :: ((33, 0, 7) :: ((33, 3, 35) :: ((33, 2, 34) :: ((6, 4, 32) :: ((32, 0, 7) :: ((6, 3, 23) :: ((23, 3, 31) :: ((23, 2, 30) :: ((23, 0, 24) :: ((24, 7, 29) :: ((24, 6, 28) :: ((24, 5, 27) :: ((24, 4, 26) :: ((24, 3, 25) :: ((6, 2, 22) :: ((6, 1, 21) :: ((6, 0, 7) :: ((7, 8, 15) :: ((15, 7, 20) :: ((15, 6, 19) :: ((15, 5, 18) :: ((15, 4, 17) :: ((15, 3, 16) :: ((7, 7, 14) :: ((7, 6, 13) :: ((7, 5, 12) :: ((7, 4, 11) :: ((7, 3, 10) :: ((7, 2, 9) :: ((7, 1, 8) :: R)))))))))))))))))))))))))))))))))))))))))))))))))))))))))))))))))))) ((6, 15, (nI 0)) :: ((6, 14, (nI 0)) :: ((6, 13, (-1 : Int32)) :: ((6, 12, (nI 0)) :: ((6, 11, (nI 0)) :: ((49, 13, (nI 0)) :: ((49, 12, (nI 0)) :: ((49, 11, (nI 0)) :: ((49, 10, (nI 0)) :: ((49, 8, (nI 0)) :: ((49, 7, (-1 : Int32)) :: ((50, 2, (nI 0)) :: ((50, 0, (nI 0)) :: ((49, 0, (-1 : Int32)) :: ((44, 14, (nI 0)) :: ((44, 13, (nI 0)) :: ((44, 8, (nI 0)) :: ((44, 2, (nI 0)) :: ((44, 1, (nI 0)) :: ((44, 0, (nI 0)) :: ((36, 7, (nI 0)) :: ((23, 10, (nI 0)) :: ((23, 9, (nI 0)) :: ((23, 8, (nI 0)) :: ((23, 7, (nI 0)) :: ((23, 6, (nI 256)) :: ((23, 5, (nI 0)) :: ((23, 4, (nI 0)) :: ((23, 1, (-1 : Int32)) :: ((24, 2, (nI 0)) :: ((24, 1, (nI 0)) :: ((24, 0, (nI 0)) :: ((15, 2, (nI 0)) :: ((15, 1, (nI 0)) :: ((15, 0, (nI 0)) :: ((10, 0, (nI 8)) :: ((10, 1, (nI 1)) :: ((10, 2, (nI 3)) :: ((10, 3, (nI 0)) :: ((10, 4, (nI 0)) :: ((10, 5, (nI 8)) :: ((10, 6, (nI 8)) :: ((7, 0, (nI 0)) :: U))))))))))))))))))))))))))))))))))))))))))) g I J → Q none (g, I, J)) : a_call aTab aMX (d + 3) m_Cp_init [.ref 6] (g, I, J) Q := by
  rw [e_Cp_init]
  rw [b_Cp_init_0, ST_x hs]
  refine ⟨SK11 hs (by decide) (by decide) (by decide), SKx hs, ?_⟩
  refine c_Scene (ST_n (x := 7) hs (by rfl) (by rfl) (by decide)) (fun g I J hs => ⟨rfl, ?_⟩)
  rw [b_Cp_init_12]
  refine ⟨SK hs (by decide) (by decide) (by rfl), ?_⟩
  refine W_g (x := 21) (ST_p hs (by decide) (by decide)) (fun g I J hs => ?_)
  rw [b_Cp_init_15, ST_x hs, ncl (a := 2) (by decide)]
  refine ⟨n0 (by decide), (by decide), SKn hs (by decide) (by decide) (by rfl), ?_⟩
  refine W_g (x := 22) (ST_p (ST_n (x := 21) hs (by rfl) (by rfl) (by decide)) (by decide) (by decide)) (fun g I J hs => ?_)
  rw [b_Cp_init_23, ST_x hs, ncl (a := 400) (by decide)]
  refine ⟨n0 (by decide), (by decide), SKn hs (by decide) (by decide) (by rfl), ?_⟩
  refine W_g (x := 23) (ST_p (ST_n (x := 22) hs (by rfl) (by rfl) (by decide)) (by decide) (by decide)) (fun g I J hs => ?_)
  rw [b_Cp_init_32, ST_x hs]
  refine ⟨SKx hs, ?_⟩
  refine c_Reader (ST_n (x := 23) hs (by rfl) (by rfl) (by decide)) (fun g I J hs => ⟨rfl, ?_⟩)
  rw [b_Cp_init_40]
  refine ⟨SK hs (by decide) (by decide) (by rfl), ?_⟩
  refine W_g (x := 32) (ST_p hs (by decide) (by decide)) (fun g I J hs => ?_)
  rw [b_Cp_init_43, ST_x hs, ST_rn hs (a := 6) (j := 0) (v := 7) (by decide) (by decide) rfl]
  refine ⟨SKn hs (by decide) (by decide) (by rfl), SKx hs, ?_⟩
  refine c_Light (ST_n (x := 32) hs (by rfl) (by rfl) (by decide)) (fun g I J hs => ⟨rfl, ?_⟩)
  rw [b_Cp_init_55]
  refine ⟨SK hs (by decide) (by decide) (by rfl), ?_⟩
  refine W_g (x := 33) (ST_p hs (by decide) (by decide)) (fun g I J hs => ?_)
  rw [b_Cp_init_58, ST_x hs, ST_rn hs (a := 6) (j := 0) (v := 7) (by decide) (by decide) rfl]
  refine ⟨SKn hs (by decide) (by decide) (by rfl), SKx hs, ?_⟩
  refine c_Asker (ST_n (x := 33) hs (by rfl) (by rfl) (by decide)) rfl (fun g I J hs => ⟨rfl, ?_⟩)
  rw [b_Cp_init_70]
  refine ⟨SK hs (by decide) (by decide) (by rfl), ?_⟩
  refine W_g (x := 36) (ST_p hs (by decide) (by decide)) (fun g I J hs => ?_)
  rw [b_Cp_init_73, ST_x hs, ST_rn hs (a := 6) (j := 0) (v := 7) (by decide) (by decide) rfl, ST_rn hs (a := 6) (j := 5) (v := 33) (by decide) (by decide) rfl]
  refine ⟨SKn hs (by decide) (by decide) (by rfl), SKn hs (by decide) (by decide) (by rfl), SKx hs, ?_⟩
  refine c_Hands (ST_n (x := 36) hs (by rfl) (by rfl) (by decide)) (fun g I J hs => ⟨rfl, ?_⟩)
  rw [b_Cp_init_89]
  refine ⟨SK hs (by decide) (by decide) (by rfl), ?_⟩
  refine W_g (x := 44) (ST_p hs (by decide) (by decide)) (fun g I J hs => ?_)
  rw [b_Cp_init_92, ST_x hs, ST_rn hs (a := 6) (j := 0) (v := 7) (by decide) (by decide) rfl, ST_rn hs (a := 6) (j := 5) (v := 33) (by decide) (by decide) rfl, ST_rn hs (a := 6) (j := 6) (v := 36) (by decide) (by decide) rfl]
  refine ⟨SKn hs (by decide) (by decide) (by rfl), SKn hs (by decide) (by decide) (by rfl), SKn hs (by decide) (by decide) (by rfl), SKx hs, ?_⟩
  refine c_Planner (ST_n (x := 44) hs (by rfl) (by rfl) (by decide)) (fun g I J hs => ⟨rfl, ?_⟩)
  rw [b_Cp_init_112]
  refine ⟨SK hs (by decide) (by decide) (by rfl), ?_⟩
  refine W_g (x := 49) (ST_p hs (by decide) (by decide)) (fun g I J hs => ?_)
  rw [b_Cp_init_115, ST_x hs, ST_rn hs (a := 6) (j := 0) (v := 7) (by decide) (by decide) rfl]
  refine ⟨SKn hs (by decide) (by decide) (by rfl), SKx hs, ?_⟩
  refine c_Maker (ST_n (x := 49) hs (by rfl) (by rfl) (by decide)) (fun g I J hs => ⟨rfl, ?_⟩)
  rw [b_Cp_init_127]
  refine ⟨SK hs (by decide) (by decide) (by rfl), ?_⟩
  refine W_g (x := 87) (ST_p hs (by decide) (by decide)) (fun g I J hs => ?_)
  rw [b_Cp_init_130, ST_x hs, ncl (a := 12) (by decide)]
  refine ⟨n0 (by decide), (by decide), SKn hs (by decide) (by decide) (by rfl), ?_⟩
  refine W_g (x := 88) (ST_p (ST_n (x := 87) hs (by rfl) (by rfl) (by decide)) (by decide) (by decide)) (fun g I J hs => ?_)
  rw [b_Cp_init_138, ST_x hs, ncl (a := 7) (by decide)]
  refine ⟨n0 (by decide), (by decide), SKn hs (by decide) (by decide) (by rfl), ?_⟩
  refine W_g (x := 89) (ST_p (ST_n (x := 88) hs (by rfl) (by rfl) (by decide)) (by decide) (by decide)) (fun g I J hs => ?_)
  rw [b_Cp_init_146]
  refine ⟨SK hs (by decide) (by decide) (by rfl), ?_⟩
  refine W_g (x := 89) (ST_u hs (by decide) (by decide)) (fun g I J hs => ?_)
  rw [b_Cp_init_151]
  refine ⟨SK hs (by decide) (by decide) (by rfl), ?_⟩
  refine W_g (x := 89) (ST_u hs (by decide) (by decide)) (fun g I J hs => ?_)
  rw [b_Cp_init_156]
  refine ⟨SK hs (by decide) (by decide) (by rfl), ?_⟩
  refine W_g (x := 89) (ST_u hs (by decide) (by decide)) (fun g I J hs => ?_)
  rw [b_Cp_init_161]
  refine ⟨SK hs (by decide) (by decide) (by rfl), ?_⟩
  refine W_g (x := 89) (ST_u hs (by decide) (by decide)) (fun g I J hs => ?_)
  rw [b_Cp_init_166]
  refine ⟨SK hs (by decide) (by decide) (by rfl), Or.inl rfl, ?_⟩
  refine W_g (x := 89) (ST_u hs (by decide) (by decide)) (fun g I J hs => ?_)
  rw [b_Cp_init_171]
  exact hQ _ _ _ (ST_e hs (by omega))
set_option maxHeartbeats 4000000 in
theorem c_Mo (hs : ST L X 90 s R U g I J) (hQ : ∀ g I J, ST L X 123 (s + 171587) ((89, 60, 122) :: ((89, 59, 121) :: ((89, 57, 120) :: ((89, 54, 119) :: ((89, 53, 118) :: ((89, 52, 117) :: ((89, 51, 116) :: ((89, 50, 115) :: ((89, 48, 114) :: ((89, 47, 113) :: ((89, 46, 112) :: ((89, 43, 111) :: ((89, 42, 110) :: ((89, 41, 109) :: ((89, 40, 108) :: ((89, 39, 107) :: ((89, 38, 106) :: ((89, 37, 105) :: ((89, 35, 104) :: ((89, 30, 103) :: ((89, 29, 102) :: ((89, 26, 101) :: ((89, 25, 100) :: ((89, 22, 99) :: ((89, 21, 98) :: ((89, 19, 97) :: ((89, 18, 96) :: ((89, 16, 95) :: ((89, 7, 94) :: ((89, 5, 93) :: ((89, 4, 92) :: ((89, 3, 91) :: ((89, 2, 90) :: R))))))))))))))))))))))))))))))))) ((91, 8, (nI 8)) :: ((91, 7, (nI 8)) :: ((91, 4, (nI 3)) :: ((91, 3, (nI 1)) :: ((91, 2, (nI 8)) :: ((89, 13, (-1 : Int32)) :: U)))))) g I J → Q none (g, I, J)) : a_call aTab aMX (d + 1) m_Mo_init [.ref 89] (g, I, J) Q := by
  rw [e_Mo_init]
  rw [b_Mo_init_0, ST_x hs, ncl (a := 7) (by decide)]
  refine ⟨SK11 hs (by decide) (by decide) (by decide), n0 (by decide), (by decide), SKn hs (by decide) (by decide) (by rfl), ?_⟩
  refine W_g (x := 91) (ST_p (ST_n (x := 90) hs (by rfl) (by rfl) (by decide)) (by decide) (by decide)) (fun g I J hs => ?_)
  rw [b_Mo_init_12, ST_x hs, ncl (a := 1470) (by decide)]
  refine ⟨n0 (by decide), (by decide), SKn hs (by decide) (by decide) (by rfl), ?_⟩
  refine W_g (x := 92) (ST_p (ST_n (x := 91) hs (by rfl) (by rfl) (by decide)) (by decide) (by decide)) (fun g I J hs => ?_)
  rw [b_Mo_init_21, ST_x hs, ncl (a := 2940) (by decide)]
  refine ⟨n0 (by decide), (by decide), SKn hs (by decide) (by decide) (by rfl), ?_⟩
  refine W_g (x := 93) (ST_p (ST_n (x := 92) hs (by rfl) (by rfl) (by decide)) (by decide) (by decide)) (fun g I J hs => ?_)
  rw [b_Mo_init_30, ST_x hs, ncl (a := 2) (by decide)]
  refine ⟨n0 (by decide), (by decide), SKn hs (by decide) (by decide) (by rfl), ?_⟩
  refine W_g (x := 94) (ST_p (ST_n (x := 93) hs (by rfl) (by rfl) (by decide)) (by decide) (by decide)) (fun g I J hs => ?_)
  rw [b_Mo_init_37, ST_x hs, ncl (a := 400) (by decide)]
  refine ⟨n0 (by decide), (by decide), SKn hs (by decide) (by decide) (by rfl), ?_⟩
  refine W_g (x := 95) (ST_p (ST_n (x := 94) hs (by rfl) (by rfl) (by decide)) (by decide) (by decide)) (fun g I J hs => ?_)
  rw [b_Mo_init_46]
  refine ⟨SK hs (by decide) (by decide) (by rfl), ?_⟩
  refine W_g (x := 95) (ST_u hs (by decide) (by decide)) (fun g I J hs => ?_)
  rw [b_Mo_init_51, ST_x hs, ncl (a := 192) (by decide)]
  refine ⟨n0 (by decide), (by decide), SKn hs (by decide) (by decide) (by rfl), ?_⟩
  refine W_g (x := 96) (ST_p (ST_n (x := 95) hs (by rfl) (by rfl) (by decide)) (by decide) (by decide)) (fun g I J hs => ?_)
  rw [b_Mo_init_60, ST_x hs, ncl (a := 400) (by decide)]
  refine ⟨n0 (by decide), (by decide), SKn hs (by decide) (by decide) (by rfl), ?_⟩
  refine W_g (x := 97) (ST_p (ST_n (x := 96) hs (by rfl) (by rfl) (by decide)) (by decide) (by decide)) (fun g I J hs => ?_)
  rw [b_Mo_init_69, ST_x hs, ncl (a := 400) (by decide)]
  refine ⟨n0 (by decide), (by decide), SKn hs (by decide) (by decide) (by rfl), ?_⟩
  refine W_g (x := 98) (ST_p (ST_n (x := 97) hs (by rfl) (by rfl) (by decide)) (by decide) (by decide)) (fun g I J hs => ?_)
  rw [b_Mo_init_78, ST_x hs, ncl (a := 400) (by decide)]
  refine ⟨n0 (by decide), (by decide), SKn hs (by decide) (by decide) (by rfl), ?_⟩
  refine W_g (x := 99) (ST_p (ST_n (x := 98) hs (by rfl) (by rfl) (by decide)) (by decide) (by decide)) (fun g I J hs => ?_)
  rw [b_Mo_init_87, ST_x hs, ncl (a := 400) (by decide)]
  refine ⟨n0 (by decide), (by decide), SKn hs (by decide) (by decide) (by rfl), ?_⟩
  refine W_g (x := 100) (ST_p (ST_n (x := 99) hs (by rfl) (by rfl) (by decide)) (by decide) (by decide)) (fun g I J hs => ?_)
  rw [b_Mo_init_96, ST_x hs, ncl (a := 8) (by decide), ncl (a := 0) (by decide), ncl (a := 1) (by decide), ncl (a := 2) (by decide), ncl (a := 3) (by decide), ncl (a := 4) (by decide), ncl (a := 5) (by decide), ncl (a := 6) (by decide), ncl (a := 7) (by decide)]
  refine ⟨n0 (by decide), (by decide), SKx hs, (by rw [gN_new, if_pos (ST_x hs).symm]; exact vp_in_nI (by decide) (by decide)), SKx hs, (by rw [gN_new, if_pos (ST_x hs).symm]; exact vp_in_nI (by decide) (by decide)), SKx hs, (by rw [gN_new, if_pos (ST_x hs).symm]; exact vp_in_nI (by decide) (by decide)), SKx hs, (by rw [gN_new, if_pos (ST_x hs).symm]; exact vp_in_nI (by decide) (by decide)), SKx hs, (by rw [gN_new, if_pos (ST_x hs).symm]; exact vp_in_nI (by decide) (by decide)), SKx hs, (by rw [gN_new, if_pos (ST_x hs).symm]; exact vp_in_nI (by decide) (by decide)), SKx hs, (by rw [gN_new, if_pos (ST_x hs).symm]; exact vp_in_nI (by decide) (by decide)), SKx hs, (by rw [gN_new, if_pos (ST_x hs).symm]; exact vp_in_nI (by decide) (by decide)), SKn hs (by decide) (by decide) (by rfl), ?_⟩
  refine W_g (x := 101) (ST_p (ST_w hs) (by decide) (by decide)) (fun g I J hs => ?_)
  rw [b_Mo_init_154, ST_x hs, ncl (a := 168) (by decide)]
  refine ⟨n0 (by decide), (by decide), SKn hs (by decide) (by decide) (by rfl), ?_⟩
  refine W_g (x := 102) (ST_p (ST_n (x := 101) hs (by rfl) (by rfl) (by decide)) (by decide) (by decide)) (fun g I J hs => ?_)
  rw [b_Mo_init_163, ST_x hs, ncl (a := 13) (by decide)]
  refine ⟨n0 (by decide), (by decide), SKn hs (by decide) (by decide) (by rfl), ?_⟩
  refine W_g (x := 103) (ST_p (ST_n (x := 102) hs (by rfl) (by rfl) (by decide)) (by decide) (by decide)) (fun g I J hs => ?_)
  rw [b_Mo_init_171, ST_x hs, ncl (a := 400) (by decide)]
  refine ⟨n0 (by decide), (by decide), SKn hs (by decide) (by decide) (by rfl), ?_⟩
  refine W_g (x := 104) (ST_p (ST_n (x := 103) hs (by rfl) (by rfl) (by decide)) (by decide) (by decide)) (fun g I J hs => ?_)
  rw [b_Mo_init_180, ST_x hs, ncl (a := 256) (by decide)]
  refine ⟨n0 (by decide), (by decide), SKn hs (by decide) (by decide) (by rfl), ?_⟩
  refine W_g (x := 105) (ST_p (ST_n (x := 104) hs (by rfl) (by rfl) (by decide)) (by decide) (by decide)) (fun g I J hs => ?_)
  rw [b_Mo_init_189, ST_x hs, ncl (a := 49152) (by decide)]
  refine ⟨n0 (by decide), (by decide), SKn hs (by decide) (by decide) (by rfl), ?_⟩
  refine W_g (x := 106) (ST_p (ST_n (x := 105) hs (by rfl) (by rfl) (by decide)) (by decide) (by decide)) (fun g I J hs => ?_)
  rw [b_Mo_init_197, ST_x hs, ncl (a := 49152) (by decide)]
  refine ⟨n0 (by decide), (by decide), SKn hs (by decide) (by decide) (by rfl), ?_⟩
  refine W_g (x := 107) (ST_p (ST_n (x := 106) hs (by rfl) (by rfl) (by decide)) (by decide) (by decide)) (fun g I J hs => ?_)
  rw [b_Mo_init_205, ST_x hs, ncl (a := 4096) (by decide)]
  refine ⟨n0 (by decide), (by decide), SKn hs (by decide) (by decide) (by rfl), ?_⟩
  refine W_g (x := 108) (ST_p (ST_n (x := 107) hs (by rfl) (by rfl) (by decide)) (by decide) (by decide)) (fun g I J hs => ?_)
  rw [b_Mo_init_214, ST_x hs, ncl (a := 4096) (by decide)]
  refine ⟨n0 (by decide), (by decide), SKn hs (by decide) (by decide) (by rfl), ?_⟩
  refine W_g (x := 109) (ST_p (ST_n (x := 108) hs (by rfl) (by rfl) (by decide)) (by decide) (by decide)) (fun g I J hs => ?_)
  rw [b_Mo_init_223, ST_x hs, ncl (a := 4096) (by decide)]
  refine ⟨n0 (by decide), (by decide), SKn hs (by decide) (by decide) (by rfl), ?_⟩
  refine W_g (x := 110) (ST_p (ST_n (x := 109) hs (by rfl) (by rfl) (by decide)) (by decide) (by decide)) (fun g I J hs => ?_)
  rw [b_Mo_init_232, ST_x hs, ncl (a := 4096) (by decide)]
  refine ⟨n0 (by decide), (by decide), SKn hs (by decide) (by decide) (by rfl), ?_⟩
  refine W_g (x := 111) (ST_p (ST_n (x := 110) hs (by rfl) (by rfl) (by decide)) (by decide) (by decide)) (fun g I J hs => ?_)
  rw [b_Mo_init_241, ST_x hs, ncl (a := 16) (by decide)]
  refine ⟨n0 (by decide), (by decide), SKn hs (by decide) (by decide) (by rfl), ?_⟩
  refine W_g (x := 112) (ST_p (ST_n (x := 111) hs (by rfl) (by rfl) (by decide)) (by decide) (by decide)) (fun g I J hs => ?_)
  rw [b_Mo_init_249, ST_x hs, ncl (a := 72) (by decide)]
  refine ⟨n0 (by decide), (by decide), SKn hs (by decide) (by decide) (by rfl), ?_⟩
  refine W_g (x := 113) (ST_p (ST_n (x := 112) hs (by rfl) (by rfl) (by decide)) (by decide) (by decide)) (fun g I J hs => ?_)
  rw [b_Mo_init_257, ST_x hs, ncl (a := 64) (by decide)]
  refine ⟨n0 (by decide), (by decide), SKn hs (by decide) (by decide) (by rfl), ?_⟩
  refine W_g (x := 114) (ST_p (ST_n (x := 113) hs (by rfl) (by rfl) (by decide)) (by decide) (by decide)) (fun g I J hs => ?_)
  rw [b_Mo_init_265, ST_x hs, ncl (a := 64) (by decide)]
  refine ⟨n0 (by decide), (by decide), SKn hs (by decide) (by decide) (by rfl), ?_⟩
  refine W_g (x := 115) (ST_p (ST_n (x := 114) hs (by rfl) (by rfl) (by decide)) (by decide) (by decide)) (fun g I J hs => ?_)
  rw [b_Mo_init_273, ST_x hs, ncl (a := 24576) (by decide)]
  refine ⟨n0 (by decide), (by decide), SKn hs (by decide) (by decide) (by rfl), ?_⟩
  refine W_g (x := 116) (ST_p (ST_n (x := 115) hs (by rfl) (by rfl) (by decide)) (by decide) (by decide)) (fun g I J hs => ?_)
  rw [b_Mo_init_282, ST_x hs, ncl (a := 24576) (by decide)]
  refine ⟨n0 (by decide), (by decide), SKn hs (by decide) (by decide) (by rfl), ?_⟩
  refine W_g (x := 117) (ST_p (ST_n (x := 116) hs (by rfl) (by rfl) (by decide)) (by decide) (by decide)) (fun g I J hs => ?_)
  rw [b_Mo_init_291, ST_x hs, ncl (a := 6) (by decide)]
  refine ⟨n0 (by decide), (by decide), SKn hs (by decide) (by decide) (by rfl), ?_⟩
  refine W_g (x := 118) (ST_p (ST_n (x := 117) hs (by rfl) (by rfl) (by decide)) (by decide) (by decide)) (fun g I J hs => ?_)
  rw [b_Mo_init_299, ST_x hs, ncl (a := 32) (by decide)]
  refine ⟨n0 (by decide), (by decide), SKn hs (by decide) (by decide) (by rfl), ?_⟩
  refine W_g (x := 119) (ST_p (ST_n (x := 118) hs (by rfl) (by rfl) (by decide)) (by decide) (by decide)) (fun g I J hs => ?_)
  rw [b_Mo_init_307, ST_x hs, ncl (a := 16) (by decide)]
  refine ⟨n0 (by decide), (by decide), SKn hs (by decide) (by decide) (by rfl), ?_⟩
  refine W_g (x := 120) (ST_p (ST_n (x := 119) hs (by rfl) (by rfl) (by decide)) (by decide) (by decide)) (fun g I J hs => ?_)
  rw [b_Mo_init_315, ST_x hs, ncl (a := 6) (by decide)]
  refine ⟨n0 (by decide), (by decide), SKn hs (by decide) (by decide) (by rfl), ?_⟩
  refine W_g (x := 121) (ST_p (ST_n (x := 120) hs (by rfl) (by rfl) (by decide)) (by decide) (by decide)) (fun g I J hs => ?_)
  rw [b_Mo_init_323, ST_x hs, ncl (a := 3) (by decide)]
  refine ⟨n0 (by decide), (by decide), SKn hs (by decide) (by decide) (by rfl), ?_⟩
  refine W_g (x := 122) (ST_p (ST_n (x := 121) hs (by rfl) (by rfl) (by decide)) (by decide) (by decide)) (fun g I J hs => ?_)
  rw [b_Mo_init_330, ST_x hs, ncl (a := 12) (by decide)]
  refine ⟨n0 (by decide), (by decide), SKn hs (by decide) (by decide) (by rfl), ?_⟩
  refine W_g (x := 123) (ST_p (ST_n (x := 122) hs (by rfl) (by rfl) (by decide)) (by decide) (by decide)) (fun g I J hs => ?_)
  rw [b_Mo_init_338, ncl (a := 2) (by decide), ST_r hs (a := 89) (j := 3) (v := 91) (by decide) (by decide) rfl]
  refine ⟨SK hs (by decide) (by decide) (by rfl), SK hs (by decide) (by decide) (by rfl), (by rw [SN hs (a := 91) (n := 1470) (by decide) (by decide) (by rfl)]; exact vp_in_nI (by decide) (by decide)), ?_⟩
  refine W_g (x := 123) (ST_u hs (by decide) (by decide)) (fun g I J hs => ?_)
  rw [b_Mo_init_346, ncl (a := 3) (by decide), ST_r hs (a := 89) (j := 3) (v := 91) (by decide) (by decide) rfl]
  refine ⟨SK hs (by decide) (by decide) (by rfl), SK hs (by decide) (by decide) (by rfl), (by rw [SN hs (a := 91) (n := 1470) (by decide) (by decide) (by rfl)]; exact vp_in_nI (by decide) (by decide)), ?_⟩
  refine W_g (x := 123) (ST_u hs (by decide) (by decide)) (fun g I J hs => ?_)
  rw [b_Mo_init_353, ncl (a := 4) (by decide), ST_r hs (a := 89) (j := 3) (v := 91) (by decide) (by decide) rfl]
  refine ⟨SK hs (by decide) (by decide) (by rfl), SK hs (by decide) (by decide) (by rfl), (by rw [SN hs (a := 91) (n := 1470) (by decide) (by decide) (by rfl)]; exact vp_in_nI (by decide) (by decide)), ?_⟩
  refine W_g (x := 123) (ST_u hs (by decide) (by decide)) (fun g I J hs => ?_)
  rw [b_Mo_init_360, ncl (a := 7) (by decide), ST_r hs (a := 89) (j := 3) (v := 91) (by decide) (by decide) rfl]
  refine ⟨SK hs (by decide) (by decide) (by rfl), SK hs (by decide) (by decide) (by rfl), (by rw [SN hs (a := 91) (n := 1470) (by decide) (by decide) (by rfl)]; exact vp_in_nI (by decide) (by decide)), ?_⟩
  refine W_g (x := 123) (ST_u hs (by decide) (by decide)) (fun g I J hs => ?_)
  rw [b_Mo_init_369, ncl (a := 8) (by decide), ST_r hs (a := 89) (j := 3) (v := 91) (by decide) (by decide) rfl]
  refine ⟨SK hs (by decide) (by decide) (by rfl), SK hs (by decide) (by decide) (by rfl), (by rw [SN hs (a := 91) (n := 1470) (by decide) (by decide) (by rfl)]; exact vp_in_nI (by decide) (by decide)), ?_⟩
  refine W_g (x := 123) (ST_u hs (by decide) (by decide)) (fun g I J hs => ?_)
  rw [b_Mo_init_378]
  exact hQ _ _ _ (ST_e hs (by omega))
end STR
