/-! ===== how many bits: what the JDK reckons ===== -/
def p_K (m : Nat) : Nat → Nat
  | 0 => 0
  | n + 1 => m + 256 * p_K m n
def p_dg (f : Nat → Nat) : Nat → Nat → Nat
  | 0, _ => 0
  | n + 1, x => f (x % 256) + 256 * p_dg f n (x / 256)
theorem p_and {r m q M : Nat} (hr : r < 256) (hm : m < 256) : (r + 256 * q) &&& (m + 256 * M) = (r &&& m) + 256 * (q &&& M) := by
  have h1 : ((r + 256 * q) &&& (m + 256 * M)) % 2 ^ 8 = r &&& m := by
    rw [Nat.and_mod_two_pow]
    congr 1 <;> omega
  have h2 : ((r + 256 * q) &&& (m + 256 * M)) / 2 ^ 8 = q &&& M := by
    rw [Nat.and_div_two_pow]
    congr 1 <;> omega
  omega
def p_1 (r : Nat) : Nat := r - (r / 2 &&& 85)
def p_2 (r : Nat) : Nat := (r &&& 51) + (r / 4 &&& 51)
def p_3 (r : Nat) : Nat := (r + r / 16) &&& 15
theorem p_d1 : ∀ r : Fin 256, ∀ c : Fin 2, ((r.1 / 2 + 128 * c.1) &&& 85) = (r.1 / 2 &&& 85) ∧ (r.1 / 2 &&& 85) ≤ r.1 := by decide +kernel
theorem p_d2 : ∀ r : Fin 256, ∀ c : Fin 4, ((r.1 / 4 + 64 * c.1) &&& 51) = (r.1 / 4 &&& 51) := by decide +kernel
theorem p_d3 : ∀ r : Fin 69, ∀ c : Fin 5, ((r.1 + (r.1 / 16 + 16 * c.1)) &&& 15) = p_3 r.1 := by decide +kernel
theorem p_d4 : ∀ r : Fin 256, p_2 (p_1 r.1) % 16 ≤ 4 ∧ p_2 (p_1 r.1) ≤ 68 ∧ p_1 r.1 < 256 := by decide +kernel
theorem p_d5 : ∀ r : Fin 256, p_3 (p_2 (p_1 r.1)) = fb_ct (fun k => r.1.testBit k) 8 := by decide +kernel
theorem p_A : ∀ (n x : Nat), x < 256 ^ n → x - (x / 2 &&& p_K 85 n) = p_dg p_1 n x ∧ (x / 2 &&& p_K 85 n) ≤ x
  | 0, x, h => by
    have : x = 0 := by simpa using h
    subst this
    exact ⟨rfl, Nat.le_refl _⟩
  | n + 1, x, h => by
    have hq : x / 256 < 256 ^ n := by
      rw [Nat.pow_succ] at h
      exact Nat.div_lt_of_lt_mul (by rw [Nat.mul_comm]; exact h)
    obtain ⟨i1, i2⟩ := p_A n (x / 256) hq
    have e : x / 2 = (x % 256 / 2 + 128 * (x / 256 % 2)) + 256 * (x / 256 / 2) := by omega
    have d := p_d1 ⟨x % 256, by omega⟩ ⟨x / 256 % 2, by omega⟩
    simp only at d
    have e2 : (x / 2 &&& p_K 85 (n + 1)) = (x % 256 / 2 &&& 85) + 256 * (x / 256 / 2 &&& p_K 85 n) := by
      rw [e]
      show _ &&& (85 + 256 * p_K 85 n) = _
      rw [p_and (by omega) (by decide), d.1]
    have d2 := d.2
    rw [e2]
    show _ = p_1 (x % 256) + 256 * p_dg p_1 n (x / 256) ∧ _
    rw [← i1]
    unfold p_1
    generalize (x % 256 / 2 &&& 85) = A at *
    generalize (x / 256 / 2 &&& p_K 85 n) = B at *
    omega
theorem p_dg_lt {f : Nat → Nat} (hf : ∀ r, r < 256 → f r < 256) : ∀ n x, p_dg f n x < 256 ^ n
  | 0, x => Nat.zero_lt_one
  | n + 1, x => by
    have h1 := p_dg_lt hf n (x / 256)
    have h2 := hf (x % 256) (by omega)
    show f (x % 256) + 256 * p_dg f n (x / 256) < 256 ^ (n + 1)
    rw [Nat.pow_succ]
    omega
theorem p_B {f : Nat → Nat} (hf : ∀ r, r < 256 → f r < 256) : ∀ n x, (p_dg f n x &&& p_K 51 n) + (p_dg f n x / 4 &&& p_K 51 n) = p_dg (fun r => p_2 (f r)) n x
  | 0, x => by show (0 &&& 0) + (0 / 4 &&& 0) = 0; decide
  | n + 1, x => by
    have ih := p_B hf n (x / 256)
    have h2 := hf (x % 256) (by omega)
    show ((f (x % 256) + 256 * p_dg f n (x / 256)) &&& (51 + 256 * p_K 51 n)) + ((f (x % 256) + 256 * p_dg f n (x / 256)) / 4 &&& (51 + 256 * p_K 51 n)) = p_2 (f (x % 256)) + 256 * p_dg (fun r => p_2 (f r)) n (x / 256)
    generalize f (x % 256) = r at *
    rw [← ih]
    generalize p_dg f n (x / 256) = q at *
    have e : (r + 256 * q) / 4 = (r / 4 + 64 * (q % 4)) + 256 * (q / 4) := by omega
    have d := p_d2 ⟨r, h2⟩ ⟨q % 4, by omega⟩
    simp only at d
    rw [e, p_and h2 (by decide), p_and (by omega) (by decide), d]
    unfold p_2
    omega
theorem p_C {f : Nat → Nat} (hf : ∀ r, r < 256 → f r % 16 ≤ 4 ∧ f r ≤ 68) : ∀ n x, (p_dg f n x + p_dg f n x / 16) &&& p_K 15 n = p_dg (fun r => p_3 (f r)) n x ∧ p_dg f n x % 16 ≤ 4
  | 0, x => ⟨by show ((0 + 0 / 16) &&& 0) = 0; decide, by show 0 % 16 ≤ 4; omega⟩
  | n + 1, x => by
    obtain ⟨ih, ih2⟩ := p_C hf n (x / 256)
    have h2 := hf (x % 256) (by omega)
    show ((f (x % 256) + 256 * p_dg f n (x / 256)) + (f (x % 256) + 256 * p_dg f n (x / 256)) / 16) &&& (15 + 256 * p_K 15 n) = p_3 (f (x % 256)) + 256 * p_dg (fun r => p_3 (f r)) n (x / 256) ∧ (f (x % 256) + 256 * p_dg f n (x / 256)) % 16 ≤ 4
    generalize f (x % 256) = r at *
    rw [← ih]
    generalize p_dg f n (x / 256) = q at *
    have e : (r + 256 * q) + (r + 256 * q) / 16 = (r + (r / 16 + 16 * (q % 16))) + 256 * (q + q / 16) := by omega
    have d := p_d3 ⟨r, by omega⟩ ⟨q % 16, by omega⟩
    simp only at d
    rw [e, p_and (by omega) (by decide), d]
    exact ⟨rfl, by omega⟩
theorem p_bit : ∀ (n x : Nat), x < 256 ^ n → ∀ (P : Nat → Nat) , (∀ r, r < 256 → P r = fb_ct (fun k => r.testBit k) 8) → fb_ct (fun k => x.testBit k) (8 * n) = fb_sm (fun i => P (x / 256 ^ i % 256)) n
  | 0, x, h, P, hP => rfl
  | n + 1, x, h, P, hP => by
    have hq : x / 256 < 256 ^ n := by
      rw [Nat.pow_succ] at h
      exact Nat.div_lt_of_lt_mul (by rw [Nat.mul_comm]; exact h)
    rw [show 8 * (n + 1) = 8 + 8 * n by omega, fb_ct_split, show n + 1 = 1 + n by omega, fb_sm_split]
    have e1 : fb_ct (fun k => x.testBit (8 + k)) (8 * n) = fb_ct (fun k => (x / 256).testBit k) (8 * n) := by
      apply fb_ct_cong
      intro k _
      rw [show x / 256 = x / 2 ^ 8 from rfl, Nat.testBit_div_two_pow, Nat.add_comm]
    rw [e1, p_bit n (x / 256) hq P hP]
    have e2 : fb_ct (fun k => x.testBit k) 8 = P (x % 256) := by
      rw [hP _ (by omega)]
      apply fb_ct_cong
      intro k hk
      rw [show x % 256 = x % 2 ^ 8 from rfl, Nat.testBit_mod_two_pow]
      simp only [hk, decide_true, Bool.true_and]
    have e3 : fb_sm (fun i => P (x / 256 ^ i % 256)) 1 = P (x % 256) := by
      show 0 + P (x / 256 ^ 0 % 256) = _
      rw [Nat.pow_zero, Nat.div_one, Nat.zero_add]
    rw [e2, e3]
    congr 1
    apply fb_sm_cong
    intro k _
    rw [Nat.div_div_eq_div_mul, Nat.pow_add, Nat.pow_one]
/-- all but the last sum -/
theorem p_all {n x : Nat} (h : x < 256 ^ n) : (fun a b c => (c &&& p_K 15 n) = p_dg (fun r => p_3 (p_2 (p_1 r))) n x ∧ a < 256 ^ n ∧ b < 256 ^ n ∧ b + b / 16 < 2 * 256 ^ n) (x - (x / 2 &&& p_K 85 n)) (((x - (x / 2 &&& p_K 85 n)) &&& p_K 51 n) + ((x - (x / 2 &&& p_K 85 n)) / 4 &&& p_K 51 n)) ((((x - (x / 2 &&& p_K 85 n)) &&& p_K 51 n) + ((x - (x / 2 &&& p_K 85 n)) / 4 &&& p_K 51 n)) + (((x - (x / 2 &&& p_K 85 n)) &&& p_K 51 n) + ((x - (x / 2 &&& p_K 85 n)) / 4 &&& p_K 51 n)) / 16) := by
  have f1 : ∀ r, r < 256 → p_1 r < 256 := fun r hr => (p_d4 ⟨r, hr⟩).2.2
  have f2 : ∀ r, r < 256 → p_2 (p_1 r) % 16 ≤ 4 ∧ p_2 (p_1 r) ≤ 68 := fun r hr => ⟨(p_d4 ⟨r, hr⟩).1, (p_d4 ⟨r, hr⟩).2.1⟩
  simp only
  rw [(p_A n x h).1, p_B f1, (p_C f2 n x).1]
  have l1 := p_dg_lt f1 n x
  have l2 := p_dg_lt (f := fun r => p_2 (p_1 r)) (fun r hr => by have := (f2 r hr).2; omega) n x
  refine ⟨rfl, l1, l2, ?_⟩
  generalize p_dg (fun r => p_2 (p_1 r)) n x = y at *
  omega

def j_u (x : Int32) (k : Nat) : Int32 := (x.toUInt32 >>> ((nI k).toUInt32 &&& Int32.toUInt32 31)).toInt32
def j_1 (x : Int32) : Int32 := x - (j_u x 1 &&& nI 1431655765)
def j_2 (x : Int32) : Int32 := (x &&& nI 858993459) + (j_u x 2 &&& nI 858993459)
def j_3 (x : Int32) : Int32 := (x + j_u x 4) &&& nI 252645135
def j_4 (x : Int32) : Int32 := x + j_u x 8
def j_5 (x : Int32) : Int32 := x + j_u x 16
def j_bit (x : Int32) : Int32 := j_5 (j_4 (j_3 (j_2 (j_1 x)))) &&& nI 63
theorem j_uN {n k : Nat} (hn : n < 2 ^ 32) (hk : k < 32) : j_u (nI n) k = nI (n / 2 ^ k) := pk_ushrN hn (nI k) k (nf_sl k hk)
/-- how many bits an int has, and a long -/
def pcI (x : Int32) : Nat := fb_ct (bt x) 32
def bL (x : Int64) (i : Nat) : Bool := x.toBitVec.getLsbD i
def pcL (x : Int64) : Nat := fb_ct (bL x) 64
theorem p_pl (r : Nat) (h : r < 256) : p_3 (p_2 (p_1 r)) ≤ 8 := by rw [p_d5 ⟨r, h⟩]; exact fb_ct_le _ 8
theorem j_bit_pc (x : Int32) : j_bit x = nI (pcI x) := by
  obtain ⟨n, hn, rfl⟩ := wb_of32 x
  have hn2 : n < 256 ^ 4 := hn
  obtain ⟨a1, a2, a3, -⟩ := p_all hn2
  have e1 : j_1 (nI n) = nI (n - (n / 2 &&& p_K 85 4)) := by
    unfold j_1
    rw [j_uN hn (by decide), nand]
    exact nsub (p_A 4 n hn2).2
  generalize hA : n - (n / 2 &&& p_K 85 4) = A at *
  have e2 : j_2 (nI A) = nI ((A &&& p_K 51 4) + (A / 4 &&& p_K 51 4)) := by
    unfold j_2
    rw [j_uN a2 (by decide), nand, nand, nadd]
    rfl
  generalize hB : (A &&& p_K 51 4) + (A / 4 &&& p_K 51 4) = B at *
  have e3 : j_3 (nI B) = nI ((B + B / 16) &&& p_K 15 4) := by
    unfold j_3
    rw [j_uN a3 (by decide), nadd, nand]
    rfl
  rw [a1] at e3
  have hz : p_dg (fun r => p_3 (p_2 (p_1 r))) 4 n = p_3 (p_2 (p_1 (n % 256))) + 256 * (p_3 (p_2 (p_1 (n / 256 % 256))) + 256 * (p_3 (p_2 (p_1 (n / 256 / 256 % 256))) + 256 * (p_3 (p_2 (p_1 (n / 256 / 256 / 256 % 256))) + 256 * 0))) := rfl
  have hp : pcI (nI n) = p_3 (p_2 (p_1 (n % 256))) + p_3 (p_2 (p_1 (n / 256 % 256))) + p_3 (p_2 (p_1 (n / 256 / 256 % 256))) + p_3 (p_2 (p_1 (n / 256 / 256 / 256 % 256))) := by
    have h1 : pcI (nI n) = fb_ct (fun k => n.testBit k) (8 * 4) := by
      apply fb_ct_cong
      intro k hk
      show (BitVec.ofNat 32 n).getLsbD k = n.testBit k
      rw [BitVec.getLsbD_ofNat]
      have hk : k < 32 := hk
      simp only [hk, decide_true, Bool.true_and]
    rw [h1, p_bit 4 n hn2 (fun r => p_3 (p_2 (p_1 r))) (fun r hr => p_d5 ⟨r, hr⟩)]
    show 0 + p_3 (p_2 (p_1 (n / 256 ^ 0 % 256))) + p_3 (p_2 (p_1 (n / 256 ^ 1 % 256))) + p_3 (p_2 (p_1 (n / 256 ^ 2 % 256))) + p_3 (p_2 (p_1 (n / 256 ^ 3 % 256))) = _
    rw [show n / 256 ^ 0 = n from Nat.div_one n, show n / 256 ^ 1 = n / 256 from rfl, show n / 256 ^ 2 = n / 256 / 256 by omega, show n / 256 ^ 3 = n / 256 / 256 / 256 by omega, Nat.zero_add]
  rw [hz] at e3
  rw [hp]
  have q0 := p_pl (n % 256) (by omega)
  have q1 := p_pl (n / 256 % 256) (by omega)
  have q2 := p_pl (n / 256 / 256 % 256) (by omega)
  have q3 := p_pl (n / 256 / 256 / 256 % 256) (by omega)
  unfold j_bit
  rw [e1, e2, e3]
  generalize p_3 (p_2 (p_1 (n % 256))) = P0 at *
  generalize p_3 (p_2 (p_1 (n / 256 % 256))) = P1 at *
  generalize p_3 (p_2 (p_1 (n / 256 / 256 % 256))) = P2 at *
  generalize p_3 (p_2 (p_1 (n / 256 / 256 / 256 % 256))) = P3 at *
  clear e1 e2 e3 hA hB hz hp a1 a2 a3
  unfold j_4
  rw [j_uN (by omega) (by decide), nadd]
  unfold j_5
  rw [j_uN (by omega) (by decide), nadd, nand]
  rw [Nat.and_two_pow_sub_one_eq_mod _ 6]
  congr 1
  have t1 : (P0 + 256 * (P1 + 256 * (P2 + 256 * (P3 + 256 * 0)))) / 2 ^ 8 = P1 + 256 * (P2 + 256 * (P3 + 256 * 0)) := by omega
  rw [t1]
  have t2 : (P0 + 256 * (P1 + 256 * (P2 + 256 * (P3 + 256 * 0))) + (P1 + 256 * (P2 + 256 * (P3 + 256 * 0)))) / 2 ^ 16 = (P2 + P3) + 256 * P3 := by omega
  rw [t2]
  omega
theorem p_dv {z a b m : Nat} (h : z = a + m * b) (ha : a < m) : z / m = b := by
  rw [h, Nat.add_mul_div_left _ _ (by omega), Nat.div_eq_of_lt ha, Nat.zero_add]
theorem p_md {z a b m : Nat} (h : z = a + m * b) (ha : a < m) : z % m = a := by
  rw [h, Nat.add_mul_mod_self_left, Nat.mod_eq_of_lt ha]
def l_u (x : Int64) (k : Nat) : Int64 := (x.toUInt64 >>> ((nI k).toInt64.toUInt64 &&& Int64.toUInt64 63)).toInt64
def l_1 (x : Int64) : Int64 := x - (l_u x 1 &&& lN 6148914691236517205)
def l_2 (x : Int64) : Int64 := (x &&& lN 3689348814741910323) + (l_u x 2 &&& lN 3689348814741910323)
def l_3 (x : Int64) : Int64 := (x + l_u x 4) &&& lN 1085102592571150095
def l_4 (x : Int64) : Int64 := x + l_u x 8
def l_5 (x : Int64) : Int64 := x + l_u x 16
def l_6 (x : Int64) : Int64 := x + l_u x 32
def l_bit (x : Int64) : Int32 := (l_6 (l_5 (l_4 (l_3 (l_2 (l_1 x)))))).toInt32 &&& nI 127
theorem l_uN {n k : Nat} (hn : n < 2 ^ 64) (hk : k < 64) : l_u (lN n) k = lN (n / 2 ^ k) := wb_shr hn hk
theorem l_bit_pc (x : Int64) : l_bit x = nI (pcL x) := by
  obtain ⟨n, hn, rfl⟩ := wb_of x
  have hn2 : n < 256 ^ 8 := hn
  obtain ⟨a1, a2, a3, -⟩ := p_all hn2
  have e1 : l_1 (lN n) = lN (n - (n / 2 &&& p_K 85 8)) := by
    unfold l_1
    rw [l_uN hn (by decide), fb_andL]
    exact lN_sub (p_A 8 n hn2).2
  generalize hA : n - (n / 2 &&& p_K 85 8) = A at *
  have e2 : l_2 (lN A) = lN ((A &&& p_K 51 8) + (A / 4 &&& p_K 51 8)) := by
    unfold l_2
    rw [l_uN a2 (by decide), fb_andL, fb_andL, lN_add]
    rfl
  generalize hB : (A &&& p_K 51 8) + (A / 4 &&& p_K 51 8) = B at *
  have e3 : l_3 (lN B) = lN ((B + B / 16) &&& p_K 15 8) := by
    unfold l_3
    rw [l_uN a3 (by decide), lN_add, fb_andL]
    rfl
  rw [a1] at e3
  have hz : p_dg (fun r => p_3 (p_2 (p_1 r))) 8 n = p_3 (p_2 (p_1 (n % 256))) + 256 * (p_3 (p_2 (p_1 (n / 256 % 256))) + 256 * (p_3 (p_2 (p_1 (n / 256 / 256 % 256))) + 256 * (p_3 (p_2 (p_1 (n / 256 / 256 / 256 % 256))) + 256 * (p_3 (p_2 (p_1 (n / 256 / 256 / 256 / 256 % 256))) + 256 * (p_3 (p_2 (p_1 (n / 256 / 256 / 256 / 256 / 256 % 256))) + 256 * (p_3 (p_2 (p_1 (n / 256 / 256 / 256 / 256 / 256 / 256 % 256))) + 256 * (p_3 (p_2 (p_1 (n / 256 / 256 / 256 / 256 / 256 / 256 / 256 % 256))) + 256 * 0))))))) := rfl
  have hp : pcL (lN n) = p_3 (p_2 (p_1 (n % 256))) + p_3 (p_2 (p_1 (n / 256 % 256))) + p_3 (p_2 (p_1 (n / 256 / 256 % 256))) + p_3 (p_2 (p_1 (n / 256 / 256 / 256 % 256))) + p_3 (p_2 (p_1 (n / 256 / 256 / 256 / 256 % 256))) + p_3 (p_2 (p_1 (n / 256 / 256 / 256 / 256 / 256 % 256))) + p_3 (p_2 (p_1 (n / 256 / 256 / 256 / 256 / 256 / 256 % 256))) + p_3 (p_2 (p_1 (n / 256 / 256 / 256 / 256 / 256 / 256 / 256 % 256))) := by
    have h1 : pcL (lN n) = fb_ct (fun k => n.testBit k) (8 * 8) := by
      apply fb_ct_cong
      intro k hk
      show (BitVec.ofNat 64 n).getLsbD k = n.testBit k
      rw [BitVec.getLsbD_ofNat]
      have hk : k < 64 := hk
      simp only [hk, decide_true, Bool.true_and]
    rw [h1, p_bit 8 n hn2 (fun r => p_3 (p_2 (p_1 r))) (fun r hr => p_d5 ⟨r, hr⟩)]
    show 0 + p_3 (p_2 (p_1 (n / 256 ^ 0 % 256))) + p_3 (p_2 (p_1 (n / 256 ^ 1 % 256))) + p_3 (p_2 (p_1 (n / 256 ^ 2 % 256))) + p_3 (p_2 (p_1 (n / 256 ^ 3 % 256))) + p_3 (p_2 (p_1 (n / 256 ^ 4 % 256))) + p_3 (p_2 (p_1 (n / 256 ^ 5 % 256))) + p_3 (p_2 (p_1 (n / 256 ^ 6 % 256))) + p_3 (p_2 (p_1 (n / 256 ^ 7 % 256))) = _
    simp only [Nat.div_div_eq_div_mul]
    rw [show n / 256 ^ 0 = n from Nat.div_one n, Nat.zero_add]
  rw [hz] at e3
  rw [hp]
  have q0 := p_pl (n % 256) (by omega)
  have q1 := p_pl (n / 256 % 256) (by omega)
  have q2 := p_pl (n / 256 / 256 % 256) (by omega)
  have q3 := p_pl (n / 256 / 256 / 256 % 256) (by omega)
  have q4 := p_pl (n / 256 / 256 / 256 / 256 % 256) (by omega)
  have q5 := p_pl (n / 256 / 256 / 256 / 256 / 256 % 256) (by omega)
  have q6 := p_pl (n / 256 / 256 / 256 / 256 / 256 / 256 % 256) (by omega)
  have q7 := p_pl (n / 256 / 256 / 256 / 256 / 256 / 256 / 256 % 256) (by omega)
  unfold l_bit
  rw [e1, e2, e3]
  generalize p_3 (p_2 (p_1 (n % 256))) = P0 at *
  generalize p_3 (p_2 (p_1 (n / 256 % 256))) = P1 at *
  generalize p_3 (p_2 (p_1 (n / 256 / 256 % 256))) = P2 at *
  generalize p_3 (p_2 (p_1 (n / 256 / 256 / 256 % 256))) = P3 at *
  generalize p_3 (p_2 (p_1 (n / 256 / 256 / 256 / 256 % 256))) = P4 at *
  generalize p_3 (p_2 (p_1 (n / 256 / 256 / 256 / 256 / 256 % 256))) = P5 at *
  generalize p_3 (p_2 (p_1 (n / 256 / 256 / 256 / 256 / 256 / 256 % 256))) = P6 at *
  generalize p_3 (p_2 (p_1 (n / 256 / 256 / 256 / 256 / 256 / 256 / 256 % 256))) = P7 at *
  clear e1 e2 e3 hA hB hz hp a1 a2 a3 hn hn2
  unfold l_4
  rw [l_uN (by omega) (by decide), lN_add]
  unfold l_5
  rw [l_uN (by omega) (by decide), lN_add]
  unfold l_6
  rw [l_uN (by omega) (by decide), lN_add, lN_i, nand]
  rw [Nat.and_two_pow_sub_one_eq_mod _ 7]
  congr 1
  rw [p_dv (m := 2 ^ 8) (a := P0) (b := P1 + 256 * (P2 + 256 * (P3 + 256 * (P4 + 256 * (P5 + 256 * (P6 + 256 * (P7 + 256 * 0))))))) (by omega) (by omega)]
  rw [p_dv (m := 2 ^ 16) (a := (P0 + P1) + 256 * (P1 + P2)) (b := (P2 + P3) + 256 * ((P3 + P4) + 256 * ((P4 + P5) + 256 * ((P5 + P6) + 256 * ((P6 + P7) + 256 * ((P7) + 256 * 0)))))) (by omega) (by omega)]
  rw [p_dv (m := 2 ^ 32) (a := (P0 + P1 + P2 + P3) + 256 * ((P1 + P2 + P3 + P4) + 256 * ((P2 + P3 + P4 + P5) + 256 * ((P3 + P4 + P5 + P6) + 256 * 0)))) (b := (P4 + P5 + P6 + P7) + 256 * ((P5 + P6 + P7) + 256 * ((P6 + P7) + 256 * ((P7) + 256 * 0)))) (by omega) (by omega)]
  rw [p_md (m := 2 ^ 7) (a := (P0 + P1 + P2 + P3 + P4 + P5 + P6 + P7)) (b := 2 * ((P1 + P2 + P3 + P4 + P5 + P6 + P7) + 256 * ((P2 + P3 + P4 + P5 + P6 + P7) + 256 * ((P3 + P4 + P5 + P6 + P7) + 256 * ((P4 + P5 + P6 + P7) + 256 * ((P5 + P6 + P7) + 256 * ((P6 + P7) + 256 * ((P7) + 256 * 0)))))))) (by omega) (by omega)]
section PJ
variable {d : Nat} {g : aG} {I : Nat → Nat → Int32} {J : Nat → Nat → Int64} {Q : aQ}
set_option maxRecDepth 100000 in
theorem c_bitI (x : Int32) : a_call aTab aMX (d + 1) m_J_bitI [.int x] (g, I, J) Q = Q (some (.int (nI (pcI x)))) (g, I, J) := by
  rw [← j_bit_pc, e_J_bitI, b_J_bitI_0]
  rfl
set_option maxRecDepth 100000 in
theorem c_bitL (x : Int64) : a_call aTab aMX (d + 1) m_J_bitL [.long x] (g, I, J) Q = Q (some (.int (nI (pcL x)))) (g, I, J) := by
  rw [← l_bit_pc, e_J_bitL, b_J_bitL_0]
  rfl
end PJ
