/-! ===== length and charAt of the words' text (JDK code), by the kit's rows ===== -/
section TXT
variable {p : Program} {l : Launch} {e : Env} {R : Room} {s : State} {m : MethodId} {args : Array Value} {below : List Frame} {meth : Method} {c : Code} {H : Heap} {locs : List Loc} {cells slots : Nat} {Q : State → Prop} {w : aO}
/-- a method that only answers -/
theorem a_pure {pc : Nat} {ls : Array Slot} {stk rest : List Value} {v : Int32} {a' : Array Value} (hrun : va_Run p l e R s m args below meth c H locs cells slots 0 0 (F0 m pc ls stk) rest (aQs v a') (fun _ => False)) (kk : W p l e R s m args below meth c H locs cells slots Q (F0 m (pc + 3) ls (.int v :: rest))) : W p l e R s m args below meth c H locs cells slots Q (F0 m pc ls stk) := by
  intro T hT X
  obtain ⟨v', st₀, t, T', Lo, e0, X', hL, e1, e2, hq, go⟩ := hrun T hT X
  have hv := hq.1
  cases hv
  have hheap : T'.heap = H := by rw [e1, hq.2, e0]
  have hLo : Lo = [] := by
    cases Lo with
    | nil => rfl
    | cons a b => exact (hL a List.mem_cons_self).elim
  subst hLo
  rw [List.append_nil] at X'
  obtain ⟨t2, a1, b1⟩ := kk T' hheap X'
  exact ⟨t2, go t2 a1, b1⟩
def aQn : Array Value → State → Outcome → State → Prop := fun _ st o t => o = .returned none ∧ t.heap = st.heap
theorem a_pureN {pc : Nat} {ls : Array Slot} {stk rest : List Value} {a' : Array Value} (hrun : va_Run p l e R s m args below meth c H locs cells slots 0 0 (F0 m pc ls stk) rest (aQn a') (fun _ => False)) (kk : W p l e R s m args below meth c H locs cells slots Q (F0 m (pc + 3) ls rest)) : W p l e R s m args below meth c H locs cells slots Q (F0 m pc ls stk) := by
  intro T hT X
  obtain ⟨v', st₀, t, T', Lo, e0, X', hL, e1, e2, hq, go⟩ := hrun T hT X
  have hv := hq.1
  cases hv
  have hheap : T'.heap = H := by rw [e1, hq.2, e0]
  have hLo : Lo = [] := by
    cases Lo with
    | nil => rfl
    | cons a b => exact (hL a List.mem_cons_self).elim
  subst hLo
  rw [List.append_nil] at X'
  obtain ⟨t2, a1, b1⟩ := kk T' hheap X'
  exact ⟨t2, go t2 a1, b1⟩
end TXT
def rmT (d : Nat) : Room := { frames := d, cells := 0, slots := 0, locals := 60 * d }
section TXT2
variable (l : Launch) (w : aO)
set_option maxRecDepth 100000 in
theorem t_coder : Met l yJ0_coder_7d493 (wsM yJ0_coder_7d493 cJ0_coder_7d493 1 (some .byte)) (rmT 0) (aPs w [.ref (w.2.2.1 5)]) (aQs 0) 0 0 (fun _ => False) := by
  refine Met.ofW (cc := cJ0_coder_7d493) (maxL := 1) (ret := some .byte) (by decide) rfl ?_
  intro p e s m args below meth c s₁ B hml hv
  obtain ⟨rfl, hev⟩ := hv
  have hx := B.exec
  have hb := B.bytes
  have hr := B.returns
  have hts0 := atoms_spec (ws := wsM yJ0_coder_7d493 cJ0_coder_7d493 1 (some .byte)) B.pre
  have hts : ∀ w ∈ aW, w.before _ s = true := fun w hw => hts0 w (List.mem_cons_of_mem _ hw)
  have hown : s.vm.findClass RJ0 = some m.cls := findClass_of_methodNamed B.named
  have hlocks := B.notSynchronized
  have hS : va_S (fun q => w.2.2.2.1 ≤ q) s.heap s.heap [] := va_S.rf
  obtain ⟨-, -, -, ⟨adV, hsS⟩, hcs, -⟩ := hev
  have hl := lv_entry ([.ref (w.2.2.1 5)]) (n := 1) (Nat.le_of_ble_eq_true rfl)
  rw [lg_entry_eq]
  generalize (lg_sl ([.ref (w.2.2.1 5)]) ++ List.replicate (1 - (lg_sl ([.ref (w.2.2.1 5)])).length) Slot.unset).toArray = ls at hl ⊢
  have hl : lv_has ls 1 [(0, .ref (w.2.2.1 5))] := hl
  refine va_gets hx hb hcs hS hown (hts _ kw_cs) (fun _ h9 => h9) (show decode cJ0_coder_7d493 0 = .ok (.getstatic 38, 3) by decide +kernel) ?_
  refine lv_if_eq (tgt := 13) hx hb (show decode cJ0_coder_7d493 3 = .ok (.ifCond .eq 10, 3) by decide +kernel) (by decide) (fun h => absurd h (by decide)) (fun _ => ?_)
  refine lv_aload_n hx hb (show decode cJ0_coder_7d493 6 = .ok (.aload_n 0, 1) by decide +kernel) rfl (lv_at hl 0 rfl) ?_
  refine vk_getf hx hb (hsS.1 0 (by decide)).2.1 hS hown (hts _ kw_co) (fun _ h9 => h9) (show decode cJ0_coder_7d493 7 = .ok (.getfield 15, 3) by decide +kernel) ?_
  refine lv_goto (tgt := 14) hx hb (show decode cJ0_coder_7d493 10 = .ok (.goto 4, 3) by decide +kernel) (by decide) ?_
  exact W.zret (ty := .byte) hx hb hr rfl (fun t ht hW => ⟨rfl, ht⟩) (fun _ h => absurd h List.not_mem_nil) (show decode cJ0_coder_7d493 14 = .ok (.ireturn, 1) by decide +kernel)
set_option maxRecDepth 100000 in
theorem t_isLatin1 : Met l yJ0_isLatin1_aae02 (wsM yJ0_isLatin1_aae02 cJ0_isLatin1_aae02 1 (some .boolean)) (rmT 0) (aPs w [.ref (w.2.2.1 5)]) (aQs 1) 0 0 (fun _ => False) := by
  refine Met.ofW (cc := cJ0_isLatin1_aae02) (maxL := 1) (ret := some .boolean) (by decide) rfl ?_
  intro p e s m args below meth c s₁ B hml hv
  obtain ⟨rfl, hev⟩ := hv
  have hx := B.exec
  have hb := B.bytes
  have hr := B.returns
  have hts0 := atoms_spec (ws := wsM yJ0_isLatin1_aae02 cJ0_isLatin1_aae02 1 (some .boolean)) B.pre
  have hts : ∀ w ∈ aW, w.before _ s = true := fun w hw => hts0 w (List.mem_cons_of_mem _ hw)
  have hown : s.vm.findClass RJ0 = some m.cls := findClass_of_methodNamed B.named
  have hlocks := B.notSynchronized
  have hS : va_S (fun q => w.2.2.2.1 ≤ q) s.heap s.heap [] := va_S.rf
  obtain ⟨-, -, -, ⟨adV, hsS⟩, hcs, -⟩ := hev
  have hl := lv_entry ([.ref (w.2.2.1 5)]) (n := 1) (Nat.le_of_ble_eq_true rfl)
  rw [lg_entry_eq]
  generalize (lg_sl ([.ref (w.2.2.1 5)]) ++ List.replicate (1 - (lg_sl ([.ref (w.2.2.1 5)])).length) Slot.unset).toArray = ls at hl ⊢
  have hl : lv_has ls 1 [(0, .ref (w.2.2.1 5))] := hl
  refine va_gets hx hb hcs hS hown (hts _ kw_cs) (fun _ h9 => h9) (show decode cJ0_isLatin1_aae02 0 = .ok (.getstatic 38, 3) by decide +kernel) ?_
  refine lv_if_eq (tgt := 17) hx hb (show decode cJ0_isLatin1_aae02 3 = .ok (.ifCond .eq 14, 3) by decide +kernel) (by decide) (fun h => absurd h (by decide)) (fun _ => ?_)
  refine lv_aload_n hx hb (show decode cJ0_isLatin1_aae02 6 = .ok (.aload_n 0, 1) by decide +kernel) rfl (lv_at hl 0 rfl) ?_
  refine vk_getf hx hb (hsS.1 0 (by decide)).2.1 hS hown (hts _ kw_co) (fun _ h9 => h9) (show decode cJ0_isLatin1_aae02 7 = .ok (.getfield 15, 3) by decide +kernel) ?_
  refine lv_if_ne (tgt := 17) hx hb (show decode cJ0_isLatin1_aae02 10 = .ok (.ifCond .ne 7, 3) by decide +kernel) (by decide) (fun h => absurd rfl h) (fun _ => ?_)
  refine lv_iconst (v := 1) hx hb (show decode cJ0_isLatin1_aae02 13 = .ok (.iconst 1, 1) by decide +kernel) (by decide) ?_
  refine lv_goto (tgt := 18) hx hb (show decode cJ0_isLatin1_aae02 14 = .ok (.goto 4, 3) by decide +kernel) (by decide) ?_
  exact W.zret (ty := .boolean) hx hb hr rfl (fun t ht hW => ⟨rfl, ht⟩) (fun _ h => absurd h List.not_mem_nil) (show decode cJ0_isLatin1_aae02 18 = .ok (.ireturn, 1) by decide +kernel)
set_option maxRecDepth 100000 in
theorem t_length : a_SL l w := by
  refine Met.ofW (cc := cJ0_length_8abf5) (maxL := 1) (ret := some .int) (by decide) rfl ?_
  intro p e s m args below meth c s₁ B hml hv
  obtain ⟨rfl, hev0⟩ := hv
  have hev := hev0
  have hx := B.exec
  have hb := B.bytes
  have hr := B.returns
  have hts0 := atoms_spec (ws := wsM yJ0_length_8abf5 cJ0_length_8abf5 1 (some .int)) B.pre
  have hts : ∀ w ∈ aW, w.before _ s = true := fun w hw => hts0 w (List.mem_cons_of_mem _ hw)
  have hown : s.vm.findClass RJ0 = some m.cls := findClass_of_methodNamed B.named
  have hlocks := B.notSynchronized
  have hS : va_S (fun q => w.2.2.2.1 ≤ q) s.heap s.heap [] := va_S.rf
  obtain ⟨-, -, -, ⟨adV, hsS⟩, hcs, -⟩ := hev
  have hl := lv_entry ([.ref (w.2.2.1 5)]) (n := 1) (Nat.le_of_ble_eq_true rfl)
  rw [lg_entry_eq]
  generalize (lg_sl ([.ref (w.2.2.1 5)]) ++ List.replicate (1 - (lg_sl ([.ref (w.2.2.1 5)])).length) Slot.unset).toArray = ls at hl ⊢
  have hl : lv_has ls 1 [(0, .ref (w.2.2.1 5))] := hl
  refine lv_aload_n hx hb (show decode cJ0_length_8abf5 0 = .ok (.aload_n 0, 1) by decide +kernel) rfl (lv_at hl 0 rfl) ?_
  refine vk_getf hx hb (hsS.1 0 (by decide)).2.2.1 hS hown (hts _ kw_va) (fun _ h9 => h9) (show decode cJ0_length_8abf5 1 = .ok (.getfield 9, 3) by decide +kernel) ?_
  refine va_tlen hx hb (hsS.1 0 (by decide)).2.2.2 hS rfl (show decode cJ0_length_8abf5 4 = .ok (.arraylength, 1) by decide +kernel) ?_
  refine lv_aload_n hx hb (show decode cJ0_length_8abf5 5 = .ok (.aload_n 0, 1) by decide +kernel) rfl (lv_at hl 0 rfl) ?_
  refine a_pure (va_runV (g := F0 m 6 ls [.ref (w.2.2.1 5), .int (Int32.ofNat a_words.length)]) (As := []) (rest := [.int (Int32.ofNat a_words.length)]) (own := RJ0) (C := RJ0) (n := 0) ⟨hx, hb, hml, hown, hts⟩ (t_coder l w) ⟨⟨rfl, rfl, by decide, by decide, a_words_ok hts kw_c1, List.mem_cons_self, hts _ kw_c1, hts _ a_fixed.2.2.2.2.2.2.2.2.2.2.2.1, by decide, fun sig h => by cases h; rfl, hts _ kw_l1⟩, hts _ kw_i1, hts _ kw_s1⟩ ⟨aPs_blind w _, vk_recv (i := 0) hsS (by decide) hS, fun U hU hW => ⟨rfl, a_env_to hev0 hW (fun q h1 h3 => by rw [hU])⟩⟩ rfl rfl hl.1 rfl (by show 2 * 0 + 1 ≤ 8; decide) (show decode cJ0_length_8abf5 6 = .ok (.invokevirtual 335, 3) by decide +kernel) ⟨Nat.le_refl _, Nat.le_refl _⟩) ?_
  refine lv_ishr hx hb (show decode cJ0_length_8abf5 9 = .ok (.ishr, 1) by decide +kernel) ?_
  refine W.eq (g2 := F0 m 10 ls [.int (Int32.ofNat a_words.length)]) (by rw [show Int32.ofNat a_words.length >>> ((0 : Int32) &&& 31) = Int32.ofNat a_words.length by decide +kernel]) ?_
  exact W.iret hx hb hr (fun t ht hW => ⟨rfl, ht⟩) (fun _ h => absurd h List.not_mem_nil) (show decode cJ0_length_8abf5 10 = .ok (.ireturn, 1) by decide +kernel)
-- Preconditions.checkIndex, within the bounds
set_option maxRecDepth 100000 in
theorem t_pre (i n : Int32) (z : Value) (hz : z = .null ∨ ∃ a, z = .ref a) (h0 : ¬ i < 0) (h1 : i < n) : Met l yJ3_checkIndex_8e157 (wsM yJ3_checkIndex_8e157 cJ3_checkIndex_8e157 3 (some .int)) (rmT 0) (fun a _ => a = #[.int i, .int n, z]) (aQs i) 0 0 (fun _ => False) := by
  refine Met.ofW (cc := cJ3_checkIndex_8e157) (maxL := 3) (ret := some .int) (by decide) rfl ?_
  intro p e s m args below meth c s₁ B hml hv
  obtain rfl := hv
  have hx := B.exec
  have hb := B.bytes
  have hr := B.returns
  have hts0 := atoms_spec (ws := wsM yJ3_checkIndex_8e157 cJ3_checkIndex_8e157 3 (some .int)) B.pre
  have hts : ∀ w ∈ aW, w.before _ s = true := fun w hw => hts0 w (List.mem_cons_of_mem _ hw)
  have hown : s.vm.findClass RJ3 = some m.cls := findClass_of_methodNamed B.named
  have hlocks := B.notSynchronized
  have hzc : z.category = 1 := by rcases hz with rfl | ⟨a, rfl⟩ <;> rfl
  have hl := lv_entry ([.int i, .int n, z]) (n := 3) (by rcases hz with rfl | ⟨a, rfl⟩ <;> exact Nat.le_of_ble_eq_true rfl)
  have he := lg_entry_eq m ([.int i, .int n, z]) 3
  rw [show (#[.int i, .int n, z] : Array Value) = ([.int i, .int n, z] : List Value).toArray from rfl, he]
  generalize (lg_sl ([.int i, .int n, z]) ++ List.replicate (3 - (lg_sl ([.int i, .int n, z])).length) Slot.unset).toArray = ls at hl ⊢
  have hl : lv_has ls 3 [(0, .int i), (1, .int n), (2, z)] := hl
  refine lv_iload_n hx hb (show decode cJ3_checkIndex_8e157 0 = .ok (.iload_n 0, 1) by decide +kernel) rfl (lv_at hl 0 rfl) ?_
  refine lv_if_lt (tgt := 9) hx hb (show decode cJ3_checkIndex_8e157 1 = .ok (.ifCond .lt 8, 3) by decide +kernel) (by decide) (fun h => absurd h h0) (fun _ => ?_)
  refine lv_iload_n hx hb (show decode cJ3_checkIndex_8e157 4 = .ok (.iload_n 0, 1) by decide +kernel) rfl (lv_at hl 0 rfl) ?_
  refine lv_iload_n hx hb (show decode cJ3_checkIndex_8e157 5 = .ok (.iload_n 1, 1) by decide +kernel) rfl (lv_at hl 1 rfl) ?_
  refine lv_icmp_lt (tgt := 16) hx hb (show decode cJ3_checkIndex_8e157 6 = .ok (.if_icmp .lt 10, 3) by decide +kernel) (by decide) (fun _ => ?_) (fun h => absurd h1 h)
  refine lv_iload_n hx hb (show decode cJ3_checkIndex_8e157 16 = .ok (.iload_n 0, 1) by decide +kernel) rfl (lv_at hl 0 rfl) ?_
  exact W.iret hx hb hr (fun t ht hW => ⟨rfl, ht⟩) (fun _ h => absurd h List.not_mem_nil) (show decode cJ3_checkIndex_8e157 17 = .ok (.ireturn, 1) by decide +kernel)
-- String.checkIndex, within the bounds
set_option maxRecDepth 100000 in
theorem t_chk (i n : Int32) (h0 : ¬ i < 0) (h1 : i < n) : Met l yJ0_checkIndex_df160 (wsM yJ0_checkIndex_df160 cJ0_checkIndex_df160 2 none) (rmT 1) (aPs w [.int i, .int n]) aQn 0 0 (fun _ => False) := by
  refine Met.ofW (cc := cJ0_checkIndex_df160) (maxL := 2) (ret := none) (by decide) rfl ?_
  intro p e s m args below meth c s₁ B hml hv
  obtain ⟨rfl, hev⟩ := hv
  have hx := B.exec
  have hb := B.bytes
  have hr := B.returns
  have hts0 := atoms_spec (ws := wsM yJ0_checkIndex_df160 cJ0_checkIndex_df160 2 none) B.pre
  have hts : ∀ w ∈ aW, w.before _ s = true := fun w hw => hts0 w (List.mem_cons_of_mem _ hw)
  have hown : s.vm.findClass RJ0 = some m.cls := findClass_of_methodNamed B.named
  have hlocks := B.notSynchronized
  have hS : va_S (fun q => w.2.2.2.1 ≤ q) s.heap s.heap [] := va_S.rf
  have hl := lv_entry ([.int i, .int n]) (n := 2) (Nat.le_of_ble_eq_true rfl)
  rw [lg_entry_eq]
  generalize (lg_sl ([.int i, .int n]) ++ List.replicate (2 - (lg_sl ([.int i, .int n])).length) Slot.unset).toArray = ls at hl ⊢
  have hl : lv_has ls 2 [(0, .int i), (1, .int n)] := hl
  refine lv_iload_n hx hb (show decode cJ0_checkIndex_df160 0 = .ok (.iload_n 0, 1) by decide +kernel) rfl (lv_at hl 0 rfl) ?_
  refine lv_iload_n hx hb (show decode cJ0_checkIndex_df160 1 = .ok (.iload_n 1, 1) by decide +kernel) rfl (lv_at hl 1 rfl) ?_
  obtain ⟨z, hz, hZ⟩ : ∃ z : Value, (z = .null ∨ ∃ a, z = .ref a) ∧ va_Z RJ3 "SIOOBE_FORMATTER" "Ljava/util/function/BiFunction;" z (fun q => w.2.2.2.1 ≤ q) s s.heap := by
    rcases hev.2.2.2.2.2 with h | ⟨t, h⟩
    · exact ⟨_, Or.inl rfl, h⟩
    · exact ⟨_, Or.inr ⟨t, rfl⟩, h⟩
  have hzc : z.category = 1 := by rcases hz with rfl | ⟨a, rfl⟩ <;> rfl
  refine va_gets hx hb hZ hS hown (hts _ kw_fm) (fun _ h9 => h9) (show decode cJ0_checkIndex_df160 2 = .ok (.getstatic 1053, 3) by decide +kernel) ?_
  refine a_pure (va_runS (g := F0 m 5 ls [z, .int n, .int i]) (As := [.int i, .int n, z]) (rest := []) (own := RJ0) (n := 3) ⟨hx, hb, hml, hown, hts⟩ (t_pre l i n z hz h0 h1) ⟨⟨rfl, rfl, by decide, by decide, a_words_ok hts kw_c5, List.mem_cons_self, hts _ kw_c5, hts _ kw_n5, by decide, fun sig h => by cases h; rfl, hts _ kw_l5⟩, hts _ kw_t5⟩ ⟨fun a U g mk q => q, fun U hU hW => rfl⟩ rfl rfl hl.1 rfl (by show 2 * 0 + 0 ≤ 8; decide) (show decode cJ0_checkIndex_df160 5 = .ok (.invokestatic 1059, 3) by decide +kernel) ⟨Nat.le_refl _, Nat.le_refl _⟩) ?_
  refine lv_pop hx hb (show decode cJ0_checkIndex_df160 8 = .ok (.pop, 1) by decide +kernel) rfl ?_
  exact W.vret hx hb hr (fun t ht hW => ⟨rfl, ht⟩) (fun _ h => absurd h List.not_mem_nil) (show decode cJ0_checkIndex_df160 9 = .ok (.return_, 1) by decide +kernel)
theorem t_ch : ∀ j, j < a_words.length → (((aBy.getD j 0) &&& 255).toUInt32 % 65536).toInt32 = Int32.ofNat (a_words.getD j 0) ∧ narrow .char (.int (Int32.ofNat (a_words.getD j 0))) = .int (Int32.ofNat (a_words.getD j 0)) := by decide +kernel
-- StringLatin1.charAt of the words
set_option maxRecDepth 100000 in
theorem t_lat (i : Int32) (hi : vp_in i a_words.length) (b : Nat) : Met l yJ1_charAt_3b067 (wsM yJ1_charAt_3b067 cJ1_charAt_3b067 2 (some .char)) (rmT 2) (fun a U => aPs w [.ref b, .int i] a U ∧ va_T .byte b a_words.length (fun j => .int (aBy.getD j 0)) (fun q => w.2.2.2.1 ≤ q) U U.heap) (aQs (Int32.ofNat (a_words.getD i.toNatClampNeg 0))) 0 0 (fun _ => False) := by
  have hlt : i.toNatClampNeg < a_words.length := Nat.not_le.mp fun q => hi (Or.inr q)
  have h0 : ¬ i < 0 := fun q => hi (Or.inl q)
  have h1 : i < Int32.ofNat a_words.length := by
    obtain ⟨j, hj, rfl⟩ := vp_in_of hi (by decide)
    exact nI_lt hj (by decide)
  refine Met.ofW (cc := cJ1_charAt_3b067) (maxL := 2) (ret := some .char) (by decide) rfl ?_
  intro p e s m args below meth c s₁ B hml hv
  obtain ⟨⟨rfl, hev⟩, hT⟩ := hv
  have hx := B.exec
  have hb := B.bytes
  have hr := B.returns
  have hts0 := atoms_spec (ws := wsM yJ1_charAt_3b067 cJ1_charAt_3b067 2 (some .char)) B.pre
  have hts : ∀ w ∈ aW, w.before _ s = true := fun w hw => hts0 w (List.mem_cons_of_mem _ hw)
  have hown : s.vm.findClass RJ1 = some m.cls := findClass_of_methodNamed B.named
  have hlocks := B.notSynchronized
  have hS : va_S (fun q => w.2.2.2.1 ≤ q) s.heap s.heap [] := va_S.rf
  have hl := lv_entry ([.ref b, .int i]) (n := 2) (Nat.le_of_ble_eq_true rfl)
  rw [lg_entry_eq]
  generalize (lg_sl ([.ref b, .int i]) ++ List.replicate (2 - (lg_sl ([.ref b, .int i])).length) Slot.unset).toArray = ls at hl ⊢
  have hl : lv_has ls 2 [(0, .ref b), (1, .int i)] := hl
  refine lv_iload_n hx hb (show decode cJ1_charAt_3b067 0 = .ok (.iload_n 1, 1) by decide +kernel) rfl (lv_at hl 1 rfl) ?_
  refine lv_aload_n hx hb (show decode cJ1_charAt_3b067 1 = .ok (.aload_n 0, 1) by decide +kernel) rfl (lv_at hl 0 rfl) ?_
  refine va_tlen hx hb hT hS rfl (show decode cJ1_charAt_3b067 2 = .ok (.arraylength, 1) by decide +kernel) ?_
  refine a_pureN (va_runS (g := F0 m 3 ls [.int (Int32.ofNat a_words.length), .int i]) (As := [.int i, .int (Int32.ofNat a_words.length)]) (rest := []) (own := RJ1) (n := 2) ⟨hx, hb, hml, hown, hts⟩ (t_chk l w i (Int32.ofNat a_words.length) h0 h1) ⟨⟨rfl, rfl, by decide, by decide, a_words_ok hts kw_c4, List.mem_cons_self, hts _ kw_c4, hts _ a_fixed.2.2.2.2.2.2.2.2.2.2.2.1, by decide, fun sig h => by cases h; rfl, hts _ kw_l4⟩, hts _ kw_t4⟩ ⟨aPs_blind w _, fun U hU hW => ⟨rfl, a_env_to hev hW (fun q h1 h3 => by rw [hU])⟩⟩ rfl rfl hl.1 rfl (by show 2 * 0 + 0 ≤ 8; decide) (show decode cJ1_charAt_3b067 3 = .ok (.invokestatic 9, 3) by decide +kernel) ⟨Nat.le_refl _, Nat.le_refl _⟩) ?_
  refine lv_aload_n hx hb (show decode cJ1_charAt_3b067 6 = .ok (.aload_n 0, 1) by decide +kernel) rfl (lv_at hl 0 rfl) ?_
  refine lv_iload_n hx hb (show decode cJ1_charAt_3b067 7 = .ok (.iload_n 1, 1) by decide +kernel) rfl (lv_at hl 1 rfl) ?_
  refine va_tb hx hb hT hS hi rfl (show decode cJ1_charAt_3b067 8 = .ok (.baload, 1) by decide +kernel) ?_
  refine lv_sipush (v := 255) hx hb (show decode cJ1_charAt_3b067 9 = .ok (.sipush 255, 3) by decide +kernel) (by decide) ?_
  refine lv_iand hx hb (show decode cJ1_charAt_3b067 12 = .ok (.iand, 1) by decide +kernel) ?_
  refine lv_i2c hx hb (show decode cJ1_charAt_3b067 13 = .ok (.i2c, 1) by decide +kernel) (t_ch _ hlt).1 ?_
  exact W.zret (ty := .char) hx hb hr (t_ch _ hlt).2 (fun t ht hW => ⟨rfl, ht⟩) (fun _ h => absurd h List.not_mem_nil) (show decode cJ1_charAt_3b067 14 = .ok (.ireturn, 1) by decide +kernel)
set_option maxRecDepth 100000 in
theorem t_charAt : a_SC l w := by
  intro i hi
  have hlt : i.toNatClampNeg < a_words.length := Nat.not_le.mp fun q => hi (Or.inr q)
  refine Met.ofW (cc := cJ0_charAt_5068e) (maxL := 2) (ret := some .char) (by decide) rfl ?_
  intro p e s m args below meth c s₁ B hml hv
  obtain ⟨rfl, hev⟩ := hv
  have hx := B.exec
  have hb := B.bytes
  have hr := B.returns
  have hts0 := atoms_spec (ws := wsM yJ0_charAt_5068e cJ0_charAt_5068e 2 (some .char)) B.pre
  have hts : ∀ w ∈ aW, w.before _ s = true := fun w hw => hts0 w (List.mem_cons_of_mem _ hw)
  have hown : s.vm.findClass RJ0 = some m.cls := findClass_of_methodNamed B.named
  have hlocks := B.notSynchronized
  have hS : va_S (fun q => w.2.2.2.1 ≤ q) s.heap s.heap [] := va_S.rf
  obtain ⟨adV, hsS⟩ := hev.2.2.2.1
  have hl := lv_entry ([.ref (w.2.2.1 5), .int i]) (n := 2) (Nat.le_of_ble_eq_true rfl)
  rw [lg_entry_eq]
  generalize (lg_sl ([.ref (w.2.2.1 5), .int i]) ++ List.replicate (2 - (lg_sl ([.ref (w.2.2.1 5), .int i])).length) Slot.unset).toArray = ls at hl ⊢
  have hl : lv_has ls 2 [(0, .ref (w.2.2.1 5)), (1, .int i)] := hl
  refine lv_aload_n hx hb (show decode cJ0_charAt_5068e 0 = .ok (.aload_n 0, 1) by decide +kernel) rfl (lv_at hl 0 rfl) ?_
  refine a_pure (va_runV (g := F0 m 1 ls [.ref (w.2.2.1 5)]) (As := []) (rest := []) (own := RJ0) (C := RJ0) (n := 0) ⟨hx, hb, hml, hown, hts⟩ (t_isLatin1 l w) ⟨⟨rfl, rfl, by decide, by decide, a_words_ok hts kw_c2, List.mem_cons_self, hts _ kw_c2, hts _ a_fixed.2.2.2.2.2.2.2.2.2.2.2.1, by decide, fun sig h => by cases h; rfl, hts _ kw_l2⟩, hts _ kw_i2, hts _ kw_s2⟩ ⟨aPs_blind w _, vk_recv (i := 0) hsS (by decide) hS, fun U hU hW => ⟨rfl, a_env_to hev hW (fun q h1 h3 => by rw [hU])⟩⟩ rfl rfl hl.1 rfl (by show 2 * 0 + 0 ≤ 8; decide) (show decode cJ0_charAt_5068e 1 = .ok (.invokevirtual 492, 3) by decide +kernel) ⟨Nat.le_refl _, Nat.le_refl _⟩) ?_
  refine lv_if_eq (tgt := 16) hx hb (show decode cJ0_charAt_5068e 4 = .ok (.ifCond .eq 12, 3) by decide +kernel) (by decide) (fun h => absurd h (by decide)) (fun _ => ?_)
  refine lv_aload_n hx hb (show decode cJ0_charAt_5068e 7 = .ok (.aload_n 0, 1) by decide +kernel) rfl (lv_at hl 0 rfl) ?_
  refine vk_getf hx hb (hsS.1 0 (by decide)).2.2.1 hS hown (hts _ kw_va) (fun _ h9 => h9) (show decode cJ0_charAt_5068e 8 = .ok (.getfield 9, 3) by decide +kernel) ?_
  refine lv_iload_n hx hb (show decode cJ0_charAt_5068e 11 = .ok (.iload_n 1, 1) by decide +kernel) rfl (lv_at hl 1 rfl) ?_
  refine a_pure (va_runS (g := F0 m 12 ls [.int i, .ref (adV 0)]) (As := [.ref (adV 0), .int i]) (rest := []) (own := RJ0) (n := 2) ⟨hx, hb, hml, hown, hts⟩ (t_lat l w i hi (adV 0)) ⟨⟨rfl, rfl, by decide, by decide, a_words_ok hts kw_c3, List.mem_cons_self, hts _ kw_c3, hts _ kw_n3, by decide, fun sig h => by cases h; rfl, hts _ kw_l3⟩, hts _ kw_t3⟩ ⟨fun a U g mk q => ⟨aPs_blind w _ a U g mk q.1, va_T.moved (u := U) (U := U.calling g mk a) (Vm.Alike.refl U.vm) q.2⟩, fun U hU hW => ⟨⟨rfl, a_env_to hev hW (fun q h1 h3 => by rw [hU])⟩, by rw [hU]; exact va_T.moved hW.alike (hsS.1 0 (by decide)).2.2.2⟩⟩ rfl rfl hl.1 rfl (by show 2 * 0 + 0 ≤ 8; decide) (show decode cJ0_charAt_5068e 12 = .ok (.invokestatic 495, 3) by decide +kernel) ⟨Nat.le_refl _, Nat.le_refl _⟩) ?_
  exact W.zret (ty := .char) hx hb hr (t_ch _ hlt).2 (fun t ht hW => ⟨rfl, ht⟩) (fun _ h => absurd h List.not_mem_nil) (show decode cJ0_charAt_5068e 15 = .ok (.ireturn, 1) by decide +kernel)
end TXT2
