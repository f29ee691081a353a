/-! ===== what the abstract machine comes to, as an equation ===== -/
section EQ
variable (tab : Nat → Nat → Option aI) (mx : Nat → Nat)
theorem a_run_add {cf : aCF} (mi m : Nat) (k : aK) (Q : aQ) : ∀ (n pc : Nat) (L st : List Value) (h : aH), a_run tab cf mi (n + m) pc L st h k Q = a_run tab cf mi n pc L st h (fun pc L st h => a_run tab cf mi m pc L st h k Q) Q
  | 0, pc, L, st, h => by rw [Nat.zero_add]; rfl
  | n + 1, pc, L, st, h => by
    rw [Nat.succ_add_eq_add_succ, Nat.add_succ]
    show (match tab mi pc with
      | none => False
      | some x => a_ins cf x (a_kill L x.2.2.2.2.2.2.2.1) st h (fun pc2 L2 st2 h2 => a_run tab cf mi (n + m) pc2 L2 st2 h2 k Q) Q) = _
    have e : (fun pc2 L2 st2 h2 => a_run tab cf mi (n + m) pc2 L2 st2 h2 k Q) = (fun pc2 L2 st2 h2 => a_run tab cf mi n pc2 L2 st2 h2 (fun pc L st h => a_run tab cf mi m pc L st h k Q) Q) := by
      funext pc2 L2 st2 h2
      exact a_run_add mi m k Q n pc2 L2 st2 h2
    rw [e]
    rfl
theorem a_run_km {cf : aCF} (hc : a_CE cf) {mi n pc : Nat} {L st : List Value} {h : aH} {k k2 : aK} {Q : aQ} (hk : ∀ pc L st h, k pc L st h → k2 pc L st h) (hr : a_run tab cf mi n pc L st h k Q) : a_run tab cf mi n pc L st h k2 Q := by
  rcases a_run_ex tab hc mi n pc L st h k Q hr with ⟨pc2, L2, st2, h2, a, b, c⟩ | ⟨r, h2, a, b, c⟩
  · exact c k2 Q (hk _ _ _ _ a)
  · exact c k2 Q a
theorem wp_eq (n : Nat) (d mi pc : Nat) (L st : List Value) (h : aH) (Q : aQ) : a_wp tab mx d mi pc L st h Q = a_run tab (a_call tab mx d) mi n pc L st h (fun pc L st h => a_wp tab mx d mi pc L st h Q) Q := by
  refine propext ⟨fun ⟨m, hm⟩ => ?_, wp_run tab mx n⟩
  have h1 : a_run tab (a_call tab mx d) mi (m + n) pc L st h (fun _ _ _ _ => False) Q := by
    rw [a_run_add]
    exact a_run_km tab (a_call_ex tab mx d) (fun _ _ _ _ h => h.elim) hm
  rw [Nat.add_comm, a_run_add] at h1
  exact a_run_km tab (a_call_ex tab mx d) (fun _ _ _ _ h => ⟨m, h⟩) h1
theorem call_eq {d mi : Nat} {as : List Value} {h : aH} {Q : aQ} (hle : a_fit2 (mx mi) as = true) : a_call tab mx (d + 1) mi as h Q = a_wp tab mx d mi 0 (a_entry mx mi as) [] h Q := propext ⟨fun h => h.2, fun h => ⟨hle, h⟩⟩
end EQ
