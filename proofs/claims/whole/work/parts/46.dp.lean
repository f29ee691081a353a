/-! ===== numbers of holders, in two ways of writing ===== -/
/-- who holds: the digit of a holder, the holder of a digit -/
def dO (hp h : Nat) : Nat := if h < hp then h else hp
def hO (hp x : Nat) : Nat := if x < hp then x else 3
def vh (hp hk h : Nat) : Bool := decide (h < hp) || (decide (h = 3) && decide (0 < hk))
def bas (hp hk : Nat) : Nat := hp + if 0 < hk then 1 else 0
theorem vh_iff {hp hk h : Nat} : vh hp hk h = true ↔ h < hp ∨ (h = 3 ∧ 0 < hk) := by
  unfold vh
  rw [Bool.or_eq_true, Bool.and_eq_true, decide_eq_true_iff, decide_eq_true_iff, decide_eq_true_iff]
theorem hO_dO {hp hk h : Nat} (hh : hp ≤ 3) (hv : vh hp hk h = true) : hO hp (dO hp h) = h := by
  rw [vh_iff] at hv
  unfold hO dO
  by_cases q : h < hp
  · rw [if_pos q, if_pos q]
  · rw [if_neg q, if_neg (by omega)]; omega
theorem dO_hO {hp hk x : Nat} (hh : hp ≤ 3) (hx : x < bas hp hk) : dO hp (hO hp x) = x := by
  unfold bas at hx
  unfold hO dO
  by_cases q : x < hp
  · rw [if_pos q, if_pos q]
  · rw [if_neg q, if_neg (by omega)]
    split at hx <;> omega
theorem vh_hO {hp hk x : Nat} (hx : x < bas hp hk) : vh hp hk (hO hp x) = true := by
  rw [vh_iff]
  unfold bas at hx
  unfold hO
  by_cases q : x < hp
  · rw [if_pos q]; exact Or.inl q
  · rw [if_neg q]
    right
    split at hx <;> omega
theorem hO_lt {hp x : Nat} (hh : hp ≤ 3) : hO hp x < 4 := by
  unfold hO
  split <;> omega
theorem dO_lt {hp hk h : Nat} (hv : vh hp hk h = true) : dO hp h < bas hp hk := by
  rw [vh_iff] at hv
  unfold dO bas
  by_cases q : h < hp
  · rw [if_pos q]; omega
  · rw [if_neg q, if_pos (by omega)]; omega
theorem dO_mono {hp hk a b : Nat} (hh : hp ≤ 3) (ha : vh hp hk a = true) (hb : vh hp hk b = true) : dO hp a < dO hp b ↔ a < b := by
  rw [vh_iff] at ha hb
  unfold dO
  by_cases q : a < hp <;> by_cases q2 : b < hp
  · rw [if_pos q, if_pos q2]
  · rw [if_pos q, if_neg q2]; omega
  · rw [if_neg q, if_pos q2]; omega
  · rw [if_neg q, if_neg q2]; omega
theorem dO_inj {hp hk a b : Nat} (hh : hp ≤ 3) (ha : vh hp hk a = true) (hb : vh hp hk b = true) (h : dO hp a = dO hp b) : a = b := by
  rw [← hO_dO hh ha, ← hO_dO hh hb, h]
section IX
variable (hp hk : Nat)
/-- the class's number of a code of m digits -/
def ixm (p : Nat → Bool) : Nat → Nat → Nat
  | 0, _ => 0
  | m + 1, c => if p m then ixm p m (c / 4) * bas hp hk + dO hp (c % 4) else ixm p m (c / 4)
def vdm (p : Nat → Bool) : Nat → Nat → Bool
  | 0, _ => true
  | m + 1, c => vdm p m (c / 4) && (if p m then vh hp hk (c % 4) else decide (c % 4 = 0))
def pwm (p : Nat → Bool) : Nat → Nat
  | 0 => 1
  | m + 1 => if p m then pwm p m * bas hp hk else pwm p m
def cdm (p : Nat → Bool) : Nat → Nat → Nat
  | 0, _ => 0
  | m + 1, n => if p m then 4 * cdm p m (n / bas hp hk) + hO hp (n % bas hp hk) else 4 * cdm p m n
variable {hp hk : Nat}
theorem ixm_lt (p : Nat → Bool) : ∀ m c, vdm hp hk p m c = true → ixm hp hk p m c < pwm hp hk p m
  | 0, _, _ => Nat.zero_lt_one
  | m + 1, c, h => by
    unfold vdm at h
    rw [Bool.and_eq_true] at h
    have ih := ixm_lt p m (c / 4) h.1
    unfold ixm pwm
    cases q : p m
    · exact ih
    · rw [q] at h
      have h2 := dO_lt h.2
      show ixm hp hk p m (c / 4) * bas hp hk + dO hp (c % 4) < pwm hp hk p m * bas hp hk
      have : (ixm hp hk p m (c / 4) + 1) * bas hp hk ≤ pwm hp hk p m * bas hp hk := Nat.mul_le_mul_right _ ih
      rw [Nat.add_mul, Nat.one_mul] at this
      omega
theorem cdm_ixm (hh : hp ≤ 3) (p : Nat → Bool) : ∀ m c, c < 4 ^ m → vdm hp hk p m c = true → cdm hp hk p m (ixm hp hk p m c) = c
  | 0, c, hc, _ => by
    have : c = 0 := by omega
    rw [this]; rfl
  | m + 1, c, hc, h => by
    unfold vdm at h
    rw [Bool.and_eq_true] at h
    have hc4 : c / 4 < 4 ^ m := by rw [Nat.pow_succ] at hc; omega
    have ih := cdm_ixm hh p m (c / 4) hc4 h.1
    unfold ixm cdm
    cases q : p m
    · rw [q] at h
      have h2 := of_decide_eq_true h.2
      show 4 * cdm hp hk p m (ixm hp hk p m (c / 4)) = c
      rw [ih]; omega
    · rw [q] at h
      have h2 := dO_lt h.2
      show 4 * cdm hp hk p m ((ixm hp hk p m (c / 4) * bas hp hk + dO hp (c % 4)) / bas hp hk) + hO hp ((ixm hp hk p m (c / 4) * bas hp hk + dO hp (c % 4)) % bas hp hk) = c
      rw [Nat.add_comm (ixm hp hk p m (c / 4) * bas hp hk), Nat.add_mul_div_right _ _ (by omega), Nat.add_mul_mod_self_right, Nat.div_eq_of_lt h2, Nat.mod_eq_of_lt h2, Nat.zero_add, ih, hO_dO hh h.2]
      omega
theorem cdm_ok (hh : hp ≤ 3) (p : Nat → Bool) : ∀ m n, n < pwm hp hk p m → cdm hp hk p m n < 4 ^ m ∧ vdm hp hk p m (cdm hp hk p m n) = true ∧ ixm hp hk p m (cdm hp hk p m n) = n
  | 0, n, hn => by
    have : n = 0 := by unfold pwm at hn; omega
    rw [this]
    exact ⟨Nat.zero_lt_one, rfl, rfl⟩
  | m + 1, n, hn => by
    unfold pwm at hn
    unfold vdm ixm cdm
    have e4 : 4 ^ (m + 1) = 4 ^ m * 4 := Nat.pow_succ 4 m
    rw [e4]
    cases q : p m
    · rw [q] at hn
      have hn : n < pwm hp hk p m := hn
      obtain ⟨a, b, c⟩ := cdm_ok hh p m n hn
      show 4 * cdm hp hk p m n < _ ∧ (vdm hp hk p m (4 * cdm hp hk p m n / 4) && decide (4 * cdm hp hk p m n % 4 = 0)) = true ∧ ixm hp hk p m (4 * cdm hp hk p m n / 4) = n
      rw [show 4 * cdm hp hk p m n / 4 = cdm hp hk p m n by omega, show 4 * cdm hp hk p m n % 4 = 0 by omega, b]
      exact ⟨by omega, rfl, c⟩
    · rw [q] at hn
      have hn : n < pwm hp hk p m * bas hp hk := hn
      have hb : 0 < bas hp hk := by
        apply Classical.byContradiction
        intro z
        rw [show bas hp hk = 0 by omega, Nat.mul_zero] at hn
        omega
      have hdv : n / bas hp hk < pwm hp hk p m := Nat.div_lt_of_lt_mul (by rw [Nat.mul_comm]; exact hn)
      have hmd : n % bas hp hk < bas hp hk := Nat.mod_lt _ hb
      obtain ⟨a, b, c⟩ := cdm_ok hh p m _ hdv
      have h4 := hO_lt (x := n % bas hp hk) hh
      show 4 * cdm hp hk p m (n / bas hp hk) + hO hp (n % bas hp hk) < _ ∧ (vdm hp hk p m ((4 * cdm hp hk p m (n / bas hp hk) + hO hp (n % bas hp hk)) / 4) && vh hp hk ((4 * cdm hp hk p m (n / bas hp hk) + hO hp (n % bas hp hk)) % 4)) = true ∧ ixm hp hk p m ((4 * cdm hp hk p m (n / bas hp hk) + hO hp (n % bas hp hk)) / 4) * bas hp hk + dO hp ((4 * cdm hp hk p m (n / bas hp hk) + hO hp (n % bas hp hk)) % 4) = n
      rw [show (4 * cdm hp hk p m (n / bas hp hk) + hO hp (n % bas hp hk)) / 4 = cdm hp hk p m (n / bas hp hk) by omega, show (4 * cdm hp hk p m (n / bas hp hk) + hO hp (n % bas hp hk)) % 4 = hO hp (n % bas hp hk) by omega, b, c, vh_hO hmd, dO_hO hh hmd]
      refine ⟨by omega, rfl, ?_⟩
      rw [Nat.mul_comm]
      exact Nat.div_add_mod n _
theorem ixm_mono (hh : hp ≤ 3) (p : Nat → Bool) : ∀ m c e, c < 4 ^ m → e < 4 ^ m → vdm hp hk p m c = true → vdm hp hk p m e = true → c < e → ixm hp hk p m c < ixm hp hk p m e
  | 0, c, e, hc, he, _, _, h => by
    have h1 : c < 1 := hc
    have h2 : e < 1 := he
    omega
  | m + 1, c, e, hc, he, vc, ve, h => by
    have e4 : 4 ^ (m + 1) = 4 ^ m * 4 := Nat.pow_succ 4 m
    rw [e4] at hc he
    unfold vdm at vc ve
    rw [Bool.and_eq_true] at vc ve
    unfold ixm
    cases q : p m
    · rw [q] at vc ve
      have h2 := of_decide_eq_true vc.2
      have h3 := of_decide_eq_true ve.2
      exact ixm_mono hh p m (c / 4) (e / 4) (by omega) (by omega) vc.1 ve.1 (by omega)
    · rw [q] at vc ve
      show ixm hp hk p m (c / 4) * bas hp hk + dO hp (c % 4) < ixm hp hk p m (e / 4) * bas hp hk + dO hp (e % 4)
      have l1 := dO_lt vc.2
      by_cases q2 : c / 4 < e / 4
      · have ih := ixm_mono hh p m (c / 4) (e / 4) (by omega) (by omega) vc.1 ve.1 q2
        have : (ixm hp hk p m (c / 4) + 1) * bas hp hk ≤ ixm hp hk p m (e / 4) * bas hp hk := Nat.mul_le_mul_right _ ih
        rw [Nat.add_mul, Nat.one_mul] at this
        omega
      · have e1 : c / 4 = e / 4 := by omega
        rw [e1]
        have := (dO_mono hh vc.2 ve.2).2 (by omega)
        omega
theorem ixm_inj (hh : hp ≤ 3) (p : Nat → Bool) {m c e : Nat} (hc : c < 4 ^ m) (he : e < 4 ^ m) (vc : vdm hp hk p m c = true) (ve : vdm hp hk p m e = true) (h : ixm hp hk p m c = ixm hp hk p m e) : c = e := by
  rw [← cdm_ixm hh p m c hc vc, ← cdm_ixm hh p m e he ve, h]
theorem pwm_le (hh : hp ≤ 3) (p : Nat → Bool) : ∀ m, pwm hp hk p m ≤ 4 ^ m
  | 0 => Nat.le_refl 1
  | m + 1 => by
    have ih := pwm_le hh p m
    have hb : bas hp hk ≤ 4 := by unfold bas; split <;> omega
    have : pwm hp hk p m * bas hp hk ≤ 4 ^ m * 4 := Nat.mul_le_mul ih hb
    unfold pwm
    rw [Nat.pow_succ]
    split
    · exact this
    · omega
/-- sums over both are the same -/
theorem sm_blk (F : Nat → Nat) (b : Nat) : ∀ n, fb_sm F (n * b) = fb_sm (fun c => fb_sm (fun x => F (c * b + x)) b) n
  | 0 => by rw [Nat.zero_mul]; rfl
  | n + 1 => by
    rw [Nat.add_mul, Nat.one_mul, fb_sm_split, fb_sm_succ, sm_blk F b n]
theorem sm_hol (hh : hp ≤ 3) (F : Nat → Nat) : fb_sm (fun x => F (hO hp x)) (bas hp hk) = fb_sm (fun d => if vh hp hk d then F d else 0) 4 := by
  have : hp = 0 ∨ hp = 1 ∨ hp = 2 ∨ hp = 3 := by omega
  by_cases q : 0 < hk
  · rcases this with rfl | rfl | rfl | rfl <;> simp [bas, q, fb_sm, hO, vh]
  · rcases this with rfl | rfl | rfl | rfl <;> simp [bas, q, fb_sm, hO, vh]
theorem sm_cdm (hh : hp ≤ 3) (p : Nat → Bool) : ∀ m (F : Nat → Nat), fb_sm (fun n => F (cdm hp hk p m n)) (pwm hp hk p m) = fb_sm (fun c => if vdm hp hk p m c then F c else 0) (4 ^ m)
  | 0, F => by
    show 0 + F 0 = 0 + (if true = true then F 0 else 0)
    rw [if_pos rfl]
  | m + 1, F => by
    rw [Nat.pow_succ, sm_blk]
    unfold pwm
    cases q : p m
    · show fb_sm (fun n => F (cdm hp hk p (m + 1) n)) (pwm hp hk p m) = _
      have e1 : ∀ n, cdm hp hk p (m + 1) n = 4 * cdm hp hk p m n := fun n => by
        show (if p m then _ else _) = _
        rw [q]; rfl
      rw [fb_sm_cong (fun n _ => by rw [e1 n] : ∀ n, n < pwm hp hk p m → F (cdm hp hk p (m + 1) n) = (fun c => F (4 * c)) (cdm hp hk p m n)), sm_cdm hh p m (fun c => F (4 * c))]
      apply fb_sm_cong
      intro c _
      have e2 : ∀ x, x < 4 → vdm hp hk p (m + 1) (c * 4 + x) = (vdm hp hk p m c && decide (x = 0)) := fun x hx => by
        show (vdm hp hk p m ((c * 4 + x) / 4) && (if p m then _ else decide ((c * 4 + x) % 4 = 0))) = _
        rw [q, show (c * 4 + x) / 4 = c by omega, show (c * 4 + x) % 4 = x by omega]; rfl
      rw [sm_one (i := 0) (by decide)]
      · rw [e2 0 (by decide), Nat.mul_comm]
        simp
      · intro k hk2 hk3
        rw [e2 k hk2, decide_eq_false hk3, Bool.and_false]
        rfl
    · show fb_sm (fun n => F (cdm hp hk p (m + 1) n)) (pwm hp hk p m * bas hp hk) = _
      rw [sm_blk]
      have e1 : ∀ n x, x < bas hp hk → cdm hp hk p (m + 1) (n * bas hp hk + x) = 4 * cdm hp hk p m n + hO hp x := fun n x hx => by
        show (if p m then _ else _) = _
        rw [q]
        show 4 * cdm hp hk p m ((n * bas hp hk + x) / bas hp hk) + hO hp ((n * bas hp hk + x) % bas hp hk) = _
        rw [Nat.add_comm (n * bas hp hk), Nat.add_mul_div_right _ _ (by omega), Nat.add_mul_mod_self_right, Nat.div_eq_of_lt hx, Nat.mod_eq_of_lt hx, Nat.zero_add]
      rw [fb_sm_cong (fun n _ => (fb_sm_cong (fun x hx => by rw [e1 n x hx])).trans (sm_hol hh (fun d => F (4 * cdm hp hk p m n + d))) : ∀ n, n < pwm hp hk p m → fb_sm (fun x => F (cdm hp hk p (m + 1) (n * bas hp hk + x))) (bas hp hk) = (fun c => fb_sm (fun d => if vh hp hk d then F (4 * c + d) else 0) 4) (cdm hp hk p m n))]
      rw [sm_cdm hh p m (fun c => fb_sm (fun d => if vh hp hk d then F (4 * c + d) else 0) 4)]
      apply fb_sm_cong
      intro c _
      have e2 : ∀ x, x < 4 → vdm hp hk p (m + 1) (c * 4 + x) = (vdm hp hk p m c && vh hp hk x) := fun x hx => by
        show (vdm hp hk p m ((c * 4 + x) / 4) && (if p m then vh hp hk ((c * 4 + x) % 4) else _)) = _
        rw [q, show (c * 4 + x) / 4 = c by omega, show (c * 4 + x) % 4 = x by omega]; rfl
      cases qv : vdm hp hk p m c
      · rw [if_neg (by decide)]
        refine (sm_0 (fun x hx => ?_)).symm
        rw [e2 x hx, qv, Bool.false_and]
        rfl
      · rw [if_pos rfl]
        apply fb_sm_cong
        intro x hx
        rw [e2 x hx, qv, Bool.true_and, Nat.mul_comm]
end IX
