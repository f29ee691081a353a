/-! ===== every method meets what the abstract machine says of it ===== -/
section SND
variable {yy : Nat → MethodName} {bb : Nat → ByteArray} {mx : Nat → Nat} {rr : Nat → Option FieldType} {tab : Nat → Nat → Option aI} {l : Launch} {w : aO}
theorem a_fit_spec {n : Nat} {as : List Value} (h : a_fit2 n as = true) : (a_sl as).length ≤ n ∧ ∀ u ∈ as, u.category = 2 → ∃ z, u = .long z := by
  unfold a_fit2 at h
  rw [Bool.and_eq_true] at h
  refine ⟨Nat.le_of_ble_eq_true h.1, fun u hu hc => ?_⟩
  have h2 := List.all_eq_true.mp h.2 u hu
  cases u with
  | long z => exact ⟨z, rfl⟩
  | double z => cases h2
  | _ => cases hc
theorem a_entry_ls {n : Nat} {as : List Value} (h : a_fit2 n as = true) : a_ls w n (a_sl as ++ List.replicate (n - (a_sl as).length) aU) ((lg_sl (as.map (acv w)) ++ List.replicate (n - (lg_sl (as.map (acv w))).length) Slot.unset).toArray) := by
  obtain ⟨h1, h2⟩ := a_fit_spec h
  have h3 := lv_entry (as.map (acv w)) (n := n) (by rw [a_sl_len w as h2]; exact h1)
  refine ⟨by simp; omega, h3.1, h3.2.1, fun q hq => h3.2.2 q ?_⟩
  obtain ⟨i, u⟩ := q
  obtain ⟨v, q1, q2, rfl⟩ := a_lv_mem.mp hq
  by_cases hi : i < (a_sl as).length
  · rw [List.getElem?_append_left hi] at q1
    have := a_lv_args w as 0 i v q1 q2 h2
    rw [Nat.zero_add] at this
    exact this
  · rw [List.getElem?_append_right (by omega)] at q1
    have := List.eq_of_mem_replicate (List.mem_of_getElem? q1)
    exact absurd this q2
set_option maxRecDepth 100000 in
theorem a_sound (hfix : a_fix) (hSL : a_SL l w) (hSC : a_SC l w) (hprog : ∀ mi pc x, tab mi pc = some x → a_ok yy bb mx rr mi pc x) : ∀ d, a_IH yy bb mx rr tab l w d
  | 0 => fun _ _ _ _ _ _ h => h.elim
  | d + 1 => by
    intro mi as h r h2 hcal ⟨hfit, n, hrun⟩
    have IH := a_sound hfix hSL hSC hprog d
    have hlee : a_le h h2 := by
      rcases a_run_ex tab (a_call_ex tab mx d) mi n _ _ _ _ _ _ hrun with ⟨_, _, _, _, z, -⟩ | ⟨r', g, ⟨-, rfl⟩, z2, -⟩
      · exact z.elim
      · exact z2
    refine Met.ofW (cc := bb mi) (maxL := mx mi) (ret := rr mi) hcal.2.2.2.2 rfl ?_
    intro p e s m args below meth c s₁ B hml hv
    obtain ⟨rfl, hrel, henv⟩ := hv
    have hx := B.exec
    have hb := B.bytes
    have hret := B.returns
    have hts0 := atoms_spec (ws := wsM (yy mi) (bb mi) (mx mi) (rr mi)) B.pre
    have hts : ∀ w ∈ aW, w.before _ s = true := fun w hw => hts0 w (List.mem_cons_of_mem _ hw)
    have hown : s.vm.findClass (yy mi).cls = some m.cls := findClass_of_methodNamed B.named
    have hlocks := B.notSynchronized
    have hnm : meth.name = (yy mi).name := (name_of_methodNamed B.named B.method).1
    have r1 := hrel.1
    have r2 := hrel.2.1
    have e1 := hlee.1
    have e2 := hlee.2
    rw [lg_entry_eq]
    have hst0 : a_st w (gx h.1) (gs h.1) h s s.heap [] 0 0 := ⟨hrel, fun _ hq => absurd hq List.not_mem_nil, rfl, rfl⟩
    refine a_run_sound (x0 := gx h.1) (s0 := gs h.1) (Q := fun r2 g => r2 = r ∧ g = h2) hfix hSL hSC hprog IH ⟨⟨hx, hb, hml, hown, hts⟩, ⟨henv, hrel.2.2.2.2.2⟩, ⟨hret, hlocks, fun z => hnm.trans z⟩, ?_, ?_⟩ ⟨?_, ?_, ?_⟩ ?_ ?_ n 0 _ [] h s.heap [] 0 0 _ hrun hst0 (a_entry_ls hfit)
    · show d + 9 ≤ d + 1 + 8
      omega
    · show 60 * d + 660 ≤ 60 * (d + 1) + 600
      omega
    · rintro pc v h' H locs cells slots ls ⟨hv, rfl⟩ hs hd hrr
      subst hv
      obtain rfl : cells = gx h'.1 - gx h.1 := by have := hs.2.2.1; omega
      obtain rfl : slots = gs h'.1 - gs h.1 := by have := hs.2.2.2; omega
      have hq : ∀ t : State, t.heap = H → s.WarmedH t.vm → aQc w (some (.int v)) h' (as.map (acv w)).toArray s (.returned (some (.int v))) t := fun t ht hW => ⟨rfl, by rw [ht]; exact a_rel_moved hW.alike hs.1⟩
      rcases hrr with hrr | ⟨hrr, hv⟩
      · exact W.iret hx hb (hret.trans hrr) hq hs.2.1 hd
      · exact W.zret (ty := .boolean) hx hb (hret.trans hrr) (by rcases hv with rfl | rfl <;> rfl) hq hs.2.1 hd
    · rintro pc v h' H locs cells slots ls ⟨hv, rfl⟩ hs hd hrr
      subst hv
      obtain rfl : cells = gx h'.1 - gx h.1 := by have := hs.2.2.1; omega
      obtain rfl : slots = gs h'.1 - gs h.1 := by have := hs.2.2.2; omega
      exact W.lret hx hb (hret.trans hrr) (fun t ht hW => ⟨rfl, by rw [ht]; exact a_rel_moved hW.alike hs.1⟩) hs.2.1 hd
    · rintro pc h' H locs cells slots ls ⟨hv, rfl⟩ hs hd hrr
      subst hv
      obtain rfl : cells = gx h'.1 - gx h.1 := by have := hs.2.2.1; omega
      obtain rfl : slots = gs h'.1 - gs h.1 := by have := hs.2.2.2; omega
      exact W.vret hx hb (hret.trans hrr) (fun t ht hW => ⟨rfl, by rw [ht]; exact a_rel_moved hW.alike hs.1⟩) hs.2.1 hd
    · rintro r' g ⟨-, rfl⟩
      refine ⟨?_, ?_⟩
      · show gx g.1 ≤ gx h.1 + (gx g.1 - gx h.1)
        omega
      · show gs g.1 ≤ gs h.1 + (gs g.1 - gs h.1)
        omega
    · rw [r2]
      exact Nat.le_refl _
end SND
