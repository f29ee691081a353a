/-! ===== a step, a run, a call ===== -/
section SNZ
variable {yy : Nat → MethodName} {bb : Nat → ByteArray} {mx : Nat → Nat} {rr : Nat → Option FieldType} {tab : Nat → Nat → Option aI}
variable {p : Program} {l : Launch} {e : Env} {R : Room} {s : State} {m : MethodId} {args : Array Value} {below : List Frame} {meth : Method} {c : Code} {w : aO} {x0 s0 : Nat}
variable {mi pc : Nat} {L st : List Value} {h : aH} {H : Heap} {locs : List Loc} {cells slots : Nat} {ls : Array Slot}
/-- what is known within a method -/
def a_cx (yy : Nat → MethodName) (bb : Nat → ByteArray) (mx : Nat → Nat) (rr : Nat → Option FieldType) (p : Program) (R : Room) (s : State) (m : MethodId) (args : Array Value) (meth : Method) (c : Code) (w : aO) (d mi : Nat) : Prop :=
  (p.tables.exec = Jvm.exec ∧ c.code = bb mi ∧ c.maxLocals = mx mi ∧ s.vm.findClass (yy mi).cls = some m.cls ∧ (∀ w ∈ aW, w.before args s = true)) ∧ (a_env w s s.heap ∧ (∀ q, q < w.2.2.2.1 → s.heap[q]? = w.2.2.2.2[q]?)) ∧ (meth.sig.returnType = rr mi ∧ meth.locks = false ∧ ((yy mi).name = "<init>" → meth.name = "<init>")) ∧ (d + 9 ≤ R.frames ∧ 60 * d + 660 ≤ R.locals)
/-- contracts of depth d -/
def a_IH (yy : Nat → MethodName) (bb : Nat → ByteArray) (mx : Nat → Nat) (rr : Nat → Option FieldType) (tab : Nat → Nat → Option aI) (l : Launch) (w : aO) (d : Nat) : Prop :=
  ∀ (mi : Nat) (as : List Value) (h : aH) (r : Option Value) (h2 : aH), a_callee yy bb mx rr mi → a_call tab mx d mi as h (fun r2 g => r2 = r ∧ g = h2) → Met l (yy mi) (wsM (yy mi) (bb mi) (mx mi) (rr mi)) (rmM d (gx h2.1 - gx h.1) (gs h2.1 - gs h.1)) (aPc w as h) (aQc w r h2) (gx h2.1 - gx h.1) (gs h2.1 - gs h.1) (fun q => w.2.2.2.1 ≤ q)
theorem a_retk {t : Nat} {v : Option Value} {kk : List Value → Prop} (h : a_ret t v kk) : kk v.toList := by
  unfold a_ret at h
  split at h
  · obtain ⟨rfl, h⟩ := h; exact h
  · obtain ⟨i, rfl, h⟩ := h; exact h
  · obtain ⟨i, rfl, h⟩ := h; exact h
theorem a_take1 {α : Type} {st : List α} {n : Nat} {x : α} {r : List α} (hn : 1 ≤ n) (h : st.drop (n - 1) = x :: r) : st.take n = st.take (n - 1) ++ [x] ∧ st.drop n = r := by
  have e : n = (n - 1) + 1 := by omega
  have hx : st[n - 1]? = some x := by
    have := congrArg (fun l => l[0]?) h
    simpa using this
  refine ⟨?_, ?_⟩
  · rw [e, List.take_add_one]
    simp [hx]
  · rw [e, ← List.drop_drop, h]
    rfl
set_option maxRecDepth 100000 in
set_option maxHeartbeats 4000000 in
theorem a_inv_sound {d : Nat} (hfix : a_fix) (hSL : a_SL l w) (hSC : a_SC l w) (IH : a_IH yy bb mx rr tab l w d) (cx : a_cx yy bb mx rr p R s m args meth c w d mi) (hs : a_st w x0 s0 h s H locs cells slots) (hl : a_ls w (mx mi) L ls) (hle : s.heap.size ≤ H.size) (hrm0 : cells ≤ R.cells ∧ slots ≤ R.slots) {k : aK} {Qf : State → Prop} (hk : a_Wk p l e R s m args below meth c Qf w x0 s0 (mx mi) k) (hrm : a_rm R x0 s0 k)
    {x : aI} {i : Instr} {nx p' q t : Nat} {ci : Int32} {cl : Int64} {ks : List Nat} {sw : List (Int32 × Nat)} (hxe : x = (i, nx, p', q, t, ci, cl, ks, sw)) {ix : Nat} {nr : Bool} (hi : (i = .invokevirtual ix ∧ nr = false) ∨ (i = .invokespecial ix ∧ nr = false) ∨ (i = .invokestatic ix ∧ nr = true)) (hok : a_ok yy bb mx rr mi pc x)
    (hr : a_inv (a_call tab mx d) x nr st h (fun st2 h2 => k nx L st2 h2)) : W p l e R s m args below meth c H locs cells slots Qf (F0 m pc ls (st.map (acv w))) := by
  subst hxe
  obtain ⟨⟨hx, hb, hml, ho, hts⟩, ⟨hev, hold⟩, -, hfr, hlo⟩ := cx
  obtain ⟨fw, f1, f2, f3, f4, f5, f6, f7, f8, ⟨f9, f10, f11⟩, ⟨f12, f13, f14⟩, f15, g0, ⟨g1, g2⟩, ⟨g3, g4⟩, ⟨g5, g6⟩, ⟨g7, g8⟩, ⟨g9, g10⟩⟩ := hfix
  simp only [a_inv] at hr
  split at hr
  · exact hr.elim
  rename_i h8
  have h8 : ((st.drop (q / 100)).map Value.category).sum ≤ 8 := Nat.le_of_ble_eq_true h8
  by_cases ht : t ≤ 2
  · have hc : a_call1 (a_call tab mx d) (i, nx, p', q, t, ci, cl, ks, sw) nr st h (fun st2 h2 => k nx L st2 h2) := by
      have : t = 0 ∨ t = 1 ∨ t = 2 := by omega
      rcases this with rfl | rfl | rfl <;> exact hr
    clear hr
    have key : ∀ as : List Value, a_call tab mx d p' as h (fun v h2 => a_ret t v (fun w => k nx L (w ++ st.drop (q / 100)) h2)) → ∃ (r : Option Value) (h2 : aH), a_call tab mx d p' as h (fun r2 g => r2 = r ∧ g = h2) ∧ k nx L (r.toList ++ st.drop (q / 100)) h2 ∧ gx h2.1 = gx h.1 + (gx h2.1 - gx h.1) ∧ gs h2.1 = gs h.1 + (gs h2.1 - gs h.1) ∧ cells + (gx h2.1 - gx h.1) ≤ R.cells ∧ slots + (gs h2.1 - gs h.1) ≤ R.slots := by
      intro as hcf
      obtain ⟨r, h2, hq, hle2, hex⟩ := a_call_ex tab mx d p' as h _ hcf
      have hq := a_retk hq
      have hroom := hrm _ _ _ _ hq
      have e3 := hs.2.2
      have e4 := hle2.1
      have e5 := hle2.2
      exact ⟨r, h2, hex _ ⟨rfl, rfl⟩, hq, by omega, by omega, by omega, by omega⟩
    rcases hi with ⟨rfl, rfl⟩ | ⟨rfl, rfl⟩ | ⟨rfl, rfl⟩
    · obtain ⟨⟨hd, rfl⟩, hv, -⟩ := hok
      obtain ⟨⟨k1, k2, k3, k4⟩, hlk, hin, hq1, hpar, rc, hrc, hsel⟩ := hv ht
      simp only [a_call1] at hc
      split at hc
      · rename_i a rest0 hdr
        obtain ⟨hka, hcf⟩ := hc
        split at hcf
        rotate_left
        · exact hcf.elim
        rename_i hlen
        have hlen := Nat.le_of_ble_eq_true hlen
        obtain ⟨t1, t2⟩ := a_take1 hq1 hdr
        obtain ⟨r, h2, hcx, hkk, g1, g2, g3, g4⟩ := key _ hcf
        rw [t1, List.reverse_append] at hcx
        have hM := IH p' _ h r h2 ⟨k1, k2, k3, k4⟩ hcx
        have hst : st = (st.take (q / 100 - 1)).reverse.reverse ++ .ref a :: st.drop (q / 100) := by
          rw [List.reverse_reverse, t2, ← hdr, List.take_append_drop]
        rw [hst]
        exact sn_callV hx hb hk hs hl hml ho hts hev hold hM g1 g2 ⟨g3, g4⟩ hfr hlo k4.1 (hts _ hlk) k1 k2 hin hsel k3 (by rw [List.length_reverse, List.length_take, Nat.min_eq_left (by omega)]; exact hpar) hka hrc h8 hd hkk
      · exact hc.elim
    · obtain ⟨⟨hd, rfl⟩, hv, -⟩ := hok
      obtain ⟨⟨k1, k2, k3, k4⟩, hrn, hlk, hin, hnm, hq1, hpar, h11⟩ := hv ht
      simp only [a_call1] at hc
      split at hc
      · rename_i a rest0 hdr
        obtain ⟨hka, hcf⟩ := hc
        split at hcf
        rotate_left
        · exact hcf.elim
        rename_i hlen
        have hlen := Nat.le_of_ble_eq_true hlen
        obtain ⟨t1, t2⟩ := a_take1 hq1 hdr
        obtain ⟨r, h2, hcx, hkk, g1, g2, g3, g4⟩ := key _ hcf
        rw [t1, List.reverse_append] at hcx
        have hM := IH p' _ h r h2 ⟨k1, k2, k3, k4⟩ hcx
        rw [hrn] at hM k1
        have hst : st = (st.take (q / 100 - 1)).reverse.reverse ++ .ref a :: st.drop (q / 100) := by
          rw [List.reverse_reverse, t2, ← hdr, List.take_append_drop]
        rw [hst]
        exact sn_callI hx hb hk hs hl hml ho hts hev hold hM g1 g2 ⟨g3, g4⟩ hfr hlo k4.1 (by rcases hlk with q1 | ⟨hh, q1⟩; exact Or.inl (hts _ q1); exact Or.inr ⟨hh, hts _ q1⟩) k1 k2 hin hnm k3 (by rw [List.length_reverse, List.length_take, Nat.min_eq_left (by omega)]; exact hpar) (by omega) h8 hd hkk
      · exact hc.elim
    · obtain ⟨⟨hd, rfl⟩, hv, -⟩ := hok
      obtain ⟨⟨k1, k2, k3, k4⟩, hlk, hstc, hpar⟩ := hv ht
      simp only [a_call1] at hc
      split at hc
      rotate_left
      · exact hc.elim
      rename_i hlen
      have hlen := Nat.le_of_ble_eq_true hlen
      have hcf := hc
      obtain ⟨r, h2, hcx, hkk, g1, g2, g3, g4⟩ := key _ hcf
      have hM := IH p' _ h r h2 ⟨k1, k2, k3, k4⟩ hcx
      have hst : st = (st.take (q / 100)).reverse.reverse ++ st.drop (q / 100) := by rw [List.reverse_reverse, List.take_append_drop]
      rw [hst]
      exact sn_callS hx hb hk hs hl hml ho hts hev hold hM g1 g2 ⟨g3, g4⟩ hfr hlo k4.1 (by rcases hlk with q1 | ⟨hh, q1⟩; exact Or.inl (hts _ q1); exact Or.inr ⟨hh, hts _ q1⟩) k1 k2 hstc k3 (by rw [List.length_reverse, List.length_take, Nat.min_eq_left hlen]; exact hpar) h8 hd hkk
  · have hc : a_prim t st h (fun st2 h2 => k nx L st2 h2) := by
      obtain ⟨n, rfl⟩ : ∃ n, t = n + 3 := ⟨t - 3, by omega⟩
      exact hr
    clear hr
    have hK := hev.1
    simp only [a_prim] at hc
    split at hc
    · rcases hi with ⟨rfl, rfl⟩ | ⟨rfl, rfl⟩ | ⟨rfl, rfl⟩
      · exfalso; obtain ⟨_, _, _, _, _, hz⟩ := hok; omega
      · obtain ⟨⟨hd, rfl⟩, -, hv, -⟩ := hok
        obtain ⟨rfl, q1, q2, q3⟩ := hv rfl
        exact sn_objinit hx hb hk hs hl hml ho (hts _ q1) (hts _ q2) (hts _ q3) hd (by omega) (by omega) hc h8
      · exfalso; obtain ⟨_, _, _, _, _, _, _, _, hz⟩ := hok; omega
    · rcases hi with ⟨rfl, rfl⟩ | ⟨rfl, rfl⟩ | ⟨rfl, rfl⟩
      · exfalso; obtain ⟨_, _, _, _, _, hz⟩ := hok; omega
      · exfalso; obtain ⟨_, _, _, hz⟩ := hok; omega
      · obtain ⟨⟨hd, rfl⟩, -, hv, -⟩ := hok
        obtain ⟨rfl, q1⟩ := hv rfl
        exact sn_arraycopy hx hb hk hs hl hml ho hK (hts _ q1) (hts _ f1) (hts _ f2) (hts _ f3) hd (by omega) (by omega) hc h8
    · rcases hi with ⟨rfl, rfl⟩ | ⟨rfl, rfl⟩ | ⟨rfl, rfl⟩
      · obtain ⟨⟨hd, rfl⟩, -, hv, -⟩ := hok
        obtain ⟨rfl, q1⟩ := hv rfl
        exact sn_clone hx hb hk hrm hs hl hml ho hK (hts _ q1) (hts _ f4) (hts _ f5) (hts _ f6) (hts _ f7) (hts _ f8) hd (by omega) (by omega) hc h8
      · exfalso; obtain ⟨_, _, _, hz⟩ := hok; omega
      · exfalso; obtain ⟨_, _, _, _, _, _, _, _, hz⟩ := hok; omega
    · rcases hi with ⟨rfl, rfl⟩ | ⟨rfl, rfl⟩ | ⟨rfl, rfl⟩
      · obtain ⟨⟨hd, rfl⟩, -, -, hv, -⟩ := hok
        obtain ⟨rfl, q1⟩ := hv rfl
        split at hc
        · rename_i a r h8
          obtain ⟨rfl, hc⟩ := hc
          exact sn_text (as := []) hx hb hk hs hl hml ho hts hev hle hold hSL rfl (by omega) (by omega) (by decide) hrm0 (hts _ q1) f9 f10 f11 f15 rfl (by show _ = some 0; decide +kernel) (by simp only [Nat.zero_div, List.drop_zero, List.map_cons, List.sum_cons] at h8; omega) hd hc
        · exact hc.elim
      · exfalso; obtain ⟨_, _, _, hz⟩ := hok; omega
      · exfalso; obtain ⟨_, _, _, _, _, _, _, _, hz⟩ := hok; omega
    · rcases hi with ⟨rfl, rfl⟩ | ⟨rfl, rfl⟩ | ⟨rfl, rfl⟩
      · obtain ⟨⟨hd, rfl⟩, -, -, -, hv, -⟩ := hok
        obtain ⟨rfl, q1⟩ := hv rfl
        split at hc
        · rename_i j a r h8
          obtain ⟨rfl, hj, hc⟩ := hc
          exact sn_text (as := [.int j]) hx hb hk hs hl hml ho hts hev hle hold (hSC j hj) rfl (by omega) (by omega) (by decide) hrm0 (hts _ q1) f12 f13 f14 f15 rfl (by show _ = some 1; decide +kernel) (by simp only [Nat.zero_div, List.drop_zero, List.map_cons, List.sum_cons] at h8; omega) hd hc
        · exact hc.elim
      · exfalso; obtain ⟨_, _, _, hz⟩ := hok; omega
      · exfalso; obtain ⟨_, _, _, _, _, _, _, _, hz⟩ := hok; omega
    · rcases hi with ⟨rfl, rfl⟩ | ⟨rfl, rfl⟩ | ⟨rfl, rfl⟩
      · exfalso; obtain ⟨_, _, _, _, _, hz⟩ := hok; omega
      · exfalso; obtain ⟨_, _, _, hz⟩ := hok; omega
      · obtain ⟨⟨hd, rfl⟩, -, -, hv, -⟩ := hok
        obtain ⟨rfl, q1⟩ := hv rfl
        exact sn_mmin hx hb hk hs hl hml ho (hts _ q1) (hts _ g1) (hts _ g0) (hts _ g2) hd (by omega) (by omega) hrm0 hc h8
    · rcases hi with ⟨rfl, rfl⟩ | ⟨rfl, rfl⟩ | ⟨rfl, rfl⟩
      · exfalso; obtain ⟨_, _, _, _, _, hz⟩ := hok; omega
      · exfalso; obtain ⟨_, _, _, hz⟩ := hok; omega
      · obtain ⟨⟨hd, rfl⟩, -, -, -, hv, -⟩ := hok
        obtain ⟨rfl, q1⟩ := hv rfl
        exact sn_mmax hx hb hk hs hl hml ho (hts _ q1) (hts _ g3) (hts _ g0) (hts _ g4) hd (by omega) (by omega) hrm0 hc h8
    · rcases hi with ⟨rfl, rfl⟩ | ⟨rfl, rfl⟩ | ⟨rfl, rfl⟩
      · exfalso; obtain ⟨_, _, _, _, _, hz⟩ := hok; omega
      · exfalso; obtain ⟨_, _, _, hz⟩ := hok; omega
      · obtain ⟨⟨hd, rfl⟩, -, -, -, -, hv, -⟩ := hok
        obtain ⟨rfl, q1⟩ := hv rfl
        exact sn_mminL hx hb hk hs hl hml ho (hts _ q1) (hts _ g5) (hts _ g0) (hts _ g6) hd (by omega) (by omega) hrm0 hc h8
    · rcases hi with ⟨rfl, rfl⟩ | ⟨rfl, rfl⟩ | ⟨rfl, rfl⟩
      · exfalso; obtain ⟨_, _, _, _, _, hz⟩ := hok; omega
      · exfalso; obtain ⟨_, _, _, hz⟩ := hok; omega
      · obtain ⟨⟨hd, rfl⟩, -, -, -, -, -, hv, -⟩ := hok
        obtain ⟨rfl, q1⟩ := hv rfl
        exact sn_mmaxL hx hb hk hs hl hml ho (hts _ q1) (hts _ g7) (hts _ g0) (hts _ g8) hd (by omega) (by omega) hrm0 hc h8
    · rcases hi with ⟨rfl, rfl⟩ | ⟨rfl, rfl⟩ | ⟨rfl, rfl⟩
      · exfalso; obtain ⟨_, _, _, _, _, hz⟩ := hok; omega
      · exfalso; obtain ⟨_, _, _, hz⟩ := hok; omega
      · obtain ⟨⟨hd, rfl⟩, -, -, -, -, -, -, hv, -⟩ := hok
        obtain ⟨rfl, q1⟩ := hv rfl
        exact sn_mabs hx hb hk hs hl hml ho (hts _ q1) (hts _ g9) (hts _ g0) (hts _ g10) hd (by omega) (by omega) hrm0 hc h8
    · exact hc.elim
end SNZ
