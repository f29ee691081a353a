/-! ===== length and charAt of the words' text (JDK code), by the kit's rows ===== -/
section TXT
variable {p : Program} {l : Launch} {e : Env} {R : Room} {s : State} {m : MethodId} {args : Array Value} {below : List Frame} {meth : Method} {c : Code} {H : Heap} {locs : List Loc} {cells slots : Nat} {Q : State → Prop} {w : aO}
/-- a method that only answers -/
theorem a_pure {pc : Nat} {ls : Array Slot} {stk rest : List Value} {v : Int32} {a' : Array Value} (hrun : va_Run p l e R s m args below meth c H locs cells slots 0 0 (F0 m pc ls stk) rest (aQs v a') (fun _ => False)) (kk : W p l e R s m args below meth c H locs cells slots Q (F0 m (pc + 3) ls (.int v :: rest))) : W p l e R s m args below meth c H locs cells slots Q (F0 m pc ls stk) := by
  intro T hT X
  obtain ⟨v', st₀, t, T', Lo, e0, X', hL, e1, e2, hq, go⟩ := hrun T hT X
  have hv := hq.1
  cases hv
  have hheap : T'.heap = H := by rw [e1, hq.2, e0]
  have hLo : Lo = [] := by
    cases Lo with
    | nil => rfl
    | cons a b => exact (hL a List.mem_cons_self).elim
  subst hLo
  rw [List.append_nil] at X'
  obtain ⟨t2, a1, b1⟩ := kk T' hheap X'
  exact ⟨t2, go t2 a1, b1⟩
def aQn : Array Value → State → Outcome → State → Prop := fun _ st o t => o = .returned none ∧ t.heap = st.heap
theorem a_pureN {pc : Nat} {ls : Array Slot} {stk rest : List Value} {a' : Array Value} (hrun : va_Run p l e R s m args below meth c H locs cells slots 0 0 (F0 m pc ls stk) rest (aQn a') (fun _ => False)) (kk : W p l e R s m args below meth c H locs cells slots Q (F0 m (pc + 3) ls rest)) : W p l e R s m args below meth c H locs cells slots Q (F0 m pc ls stk) := by
  intro T hT X
  obtain ⟨v', st₀, t, T', Lo, e0, X', hL, e1, e2, hq, go⟩ := hrun T hT X
  have hv := hq.1
  cases hv
  have hheap : T'.heap = H := by rw [e1, hq.2, e0]
  have hLo : Lo = [] := by
    cases Lo with
    | nil => rfl
    | cons a b => exact (hL a List.mem_cons_self).elim
  subst hLo
  rw [List.append_nil] at X'
  obtain ⟨t2, a1, b1⟩ := kk T' hheap X'
  exact ⟨t2, go t2 a1, b1⟩
end TXT
def rmT (d : Nat) : Room := { frames := d, cells := 0, slots := 0, locals := 60 * d }
section TXT2
variable (l : Launch) (w : aO)
set_option maxRecDepth 100000 in
theorem t_coder : Met l yJ0_coder_7d493 (wsM yJ0_coder_7d493 cJ0_coder_7d493 1 (some .byte)) (rmT 0) (aPs w [.ref (w.2.2.1 5)]) (aQs 0) 0 0 (fun _ => False) := by
  refine Met.ofW (cc := cJ0_coder_7d493) (maxL := 1) (ret := some .byte) (by decide) rfl ?_
  intro p e s m args below meth c s₁ B hml hv
  obtain ⟨rfl, hev⟩ := hv
  have hx := B.exec
  have hb := B.bytes
  have hr := B.returns
  have hts0 := atoms_spec (ws := wsM yJ0_coder_7d493 cJ0_coder_7d493 1 (some .byte)) B.pre
  have hts : ∀ w ∈ aW, w.before _ s = true := fun w hw => hts0 w (List.mem_cons_of_mem _ hw)
  have hown : s.vm.findClass RJ0 = some m.cls := findClass_of_methodNamed B.named
  have hlocks := B.notSynchronized
  have hS : va_S (fun q => w.2.2.2.1 ≤ q) s.heap s.heap [] := va_S.rf
  obtain ⟨-, -, -, ⟨adV, hsS⟩, hcs, -⟩ := hev
  have hl := lv_entry ([.ref (w.2.2.1 5)]) (n := 1) (Nat.le_of_ble_eq_true rfl)
  rw [lg_entry_eq]
  generalize (lg_sl ([.ref (w.2.2.1 5)]) ++ List.replicate (1 - (lg_sl ([.ref (w.2.2.1 5)])).length) Slot.unset).toArray = ls at hl ⊢
  have hl : lv_has ls 1 [(0, .ref (w.2.2.1 5))] := hl
  refine va_gets hx hb hcs hS hown (hts _ kw_cs) (fun _ h9 => h9) (show decode cJ0_coder_7d493 0 = .ok (.getstatic 38, 3) by decide +kernel) ?_
  refine lv_if_eq (tgt := 13) hx hb (show decode cJ0_coder_7d493 3 = .ok (.ifCond .eq 10, 3) by decide +kernel) (by decide) (fun h => absurd h (by decide)) (fun _ => ?_)
  refine lv_aload_n hx hb (show decode cJ0_coder_7d493 6 = .ok (.aload_n 0, 1) by decide +kernel) rfl (lv_at hl 0 rfl) ?_
  refine vk_getf hx hb (hsS.1 0 (by decide)).2.1 hS hown (hts _ kw_co) (fun _ h9 => h9) (show decode cJ0_coder_7d493 7 = .ok (.getfield 15, 3) by decide +kernel) ?_
  refine lv_goto (tgt := 14) hx hb (show decode cJ0_coder_7d493 10 = .ok (.goto 4, 3) by decide +kernel) (by decide) ?_
  exact W.zret (ty := .byte) hx hb hr rfl (fun t ht hW => ⟨rfl, ht⟩) (fun _ h => absurd h List.not_mem_nil) (show decode cJ0_coder_7d493 14 = .ok (.ireturn, 1) by decide +kernel)
set_option maxRecDepth 100000 in
theorem t_isLatin1 : Met l yJ0_isLatin1_aae02 (wsM yJ0_isLatin1_aae02 cJ0_isLatin1_aae02 1 (some .boolean)) (rmT 0) (aPs w [.ref (w.2.2.1 5)]) (aQs 1) 0 0 (fun _ => False) := by
  refine Met.ofW (cc := cJ0_isLatin1_aae02) (maxL := 1) (ret := some .boolean) (by decide) rfl ?_
  intro p e s m args below meth c s₁ B hml hv
  obtain ⟨rfl, hev⟩ := hv
  have hx := B.exec
  have hb := B.bytes
  have hr := B.returns
  have hts0 := atoms_spec (ws := wsM yJ0_isLatin1_aae02 cJ0_isLatin1_aae02 1 (some .boolean)) B.pre
  have hts : ∀ w ∈ aW, w.before _ s = true := fun w hw => hts0 w (List.mem_cons_of_mem _ hw)
  have hown : s.vm.findClass RJ0 = some m.cls := findClass_of_methodNamed B.named
  have hlocks := B.notSynchronized
  have hS : va_S (fun q => w.2.2.2.1 ≤ q) s.heap s.heap [] := va_S.rf
  obtain ⟨-, -, -, ⟨adV, hsS⟩, hcs, -⟩ := hev
  have hl := lv_entry ([.ref (w.2.2.1 5)]) (n := 1) (Nat.le_of_ble_eq_true rfl)
  rw [lg_entry_eq]
  generalize (lg_sl ([.ref (w.2.2.1 5)]) ++ List.replicate (1 - (lg_sl ([.ref (w.2.2.1 5)])).length) Slot.unset).toArray = ls at hl ⊢
  have hl : lv_has ls 1 [(0, .ref (w.2.2.1 5))] := hl
  refine va_gets hx hb hcs hS hown (hts _ kw_cs) (fun _ h9 => h9) (show decode cJ0_isLatin1_aae02 0 = .ok (.getstatic 38, 3) by decide +kernel) ?_
  refine lv_if_eq (tgt := 17) hx hb (show decode cJ0_isLatin1_aae02 3 = .ok (.ifCond .eq 14, 3) by decide +kernel) (by decide) (fun h => absurd h (by decide)) (fun _ => ?_)
  refine lv_aload_n hx hb (show decode cJ0_isLatin1_aae02 6 = .ok (.aload_n 0, 1) by decide +kernel) rfl (lv_at hl 0 rfl) ?_
  refine vk_getf hx hb (hsS.1 0 (by decide)).2.1 hS hown (hts _ kw_co) (fun _ h9 => h9) (show decode cJ0_isLatin1_aae02 7 = .ok (.getfield 15, 3) by decide +kernel) ?_
  refine lv_if_ne (tgt := 17) hx hb (show decode cJ0_isLatin1_aae02 10 = .ok (.ifCond .ne 7, 3) by decide +kernel) (by decide) (fun h => absurd rfl h) (fun _ => ?_)
  refine lv_iconst (v := 1) hx hb (show decode cJ0_isLatin1_aae02 13 = .ok (.iconst 1, 1) by decide +kernel) (by decide) ?_
  refine lv_goto (tgt := 18) hx hb (show decode cJ0_isLatin1_aae02 14 = .ok (.goto 4, 3) by decide +kernel) (by decide) ?_
  exact W.zret (ty := .boolean) hx hb hr rfl (fun t ht hW => ⟨rfl, ht⟩) (fun _ h => absurd h List.not_mem_nil) (show decode cJ0_isLatin1_aae02 18 = .ok (.ireturn, 1) by decide +kernel)
set_option maxRecDepth 100000 in
theorem t_length : a_SL l w := by
  refine Met.ofW (cc := cJ0_length_8abf5) (maxL := 1) (ret := some .int) (by decide) rfl ?_
  intro p e s m args below meth c s₁ B hml hv
  obtain ⟨rfl, hev0⟩ := hv
  have hev := hev0
  have hx := B.exec
  have hb := B.bytes
  have hr := B.returns
  have hts0 := atoms_spec (ws := wsM yJ0_length_8abf5 cJ0_length_8abf5 1 (some .int)) B.pre
  have hts : ∀ w ∈ aW, w.before _ s = true := fun w hw => hts0 w (List.mem_cons_of_mem _ hw)
  have hown : s.vm.findClass RJ0 = some m.cls := findClass_of_methodNamed B.named
  have hlocks := B.notSynchronized
  have hS : va_S (fun q => w.2.2.2.1 ≤ q) s.heap s.heap [] := va_S.rf
  obtain ⟨-, -, -, ⟨adV, hsS⟩, hcs, -⟩ := hev
  have hl := lv_entry ([.ref (w.2.2.1 5)]) (n := 1) (Nat.le_of_ble_eq_true rfl)
  rw [lg_entry_eq]
  generalize (lg_sl ([.ref (w.2.2.1 5)]) ++ List.replicate (1 - (lg_sl ([.ref (w.2.2.1 5)])).length) Slot.unset).toArray = ls at hl ⊢
  have hl : lv_has ls 1 [(0, .ref (w.2.2.1 5))] := hl
  refine lv_aload_n hx hb (show decode cJ0_length_8abf5 0 = .ok (.aload_n 0, 1) by decide +kernel) rfl (lv_at hl 0 rfl) ?_
  refine vk_getf hx hb (hsS.1 0 (by decide)).2.2.1 hS hown (hts _ kw_va) (fun _ h9 => h9) (show decode cJ0_length_8abf5 1 = .ok (.getfield 9, 3) by decide +kernel) ?_
  refine va_tlen hx hb (hsS.1 0 (by decide)).2.2.2 hS rfl (show decode cJ0_length_8abf5 4 = .ok (.arraylength, 1) by decide +kernel) ?_
  refine lv_aload_n hx hb (show decode cJ0_length_8abf5 5 = .ok (.aload_n 0, 1) by decide +kernel) rfl (lv_at hl 0 rfl) ?_
  refine a_pure (va_runV (g := F0 m 6 ls [.ref (w.2.2.1 5), .int (Int32.ofNat a_words.length)]) (As := []) (rest := [.int (Int32.ofNat a_words.length)]) (own := RJ0) (C := RJ0) (n := 0) ⟨hx, hb, hml, hown, hts⟩ (t_coder l w) ⟨⟨rfl, rfl, by decide, by decide, a_words_ok hts kw_c1, List.mem_cons_self, hts _ kw_c1, hts _ a_fixed.2.2.2.2.2.2.2.2.2.2.2.1, by decide, fun sig h => by cases h; rfl, hts _ kw_l1⟩, hts _ kw_i1, hts _ kw_s1⟩ ⟨aPs_blind w _, vk_recv (i := 0) hsS (by decide) hS, fun U hU hW => ⟨rfl, a_env_to hev0 hW (fun q h1 h3 => by rw [hU])⟩⟩ rfl rfl hl.1 rfl (by decide) (show decode cJ0_length_8abf5 6 = .ok (.invokevirtual 335, 3) by decide +kernel) ⟨Nat.le_refl _, Nat.le_refl _⟩) ?_
  refine lv_ishr hx hb (show decode cJ0_length_8abf5 9 = .ok (.ishr, 1) by decide +kernel) ?_
  refine W.eq (g2 := F0 m 10 ls [.int (Int32.ofNat a_words.length)]) (by rw [show Int32.ofNat a_words.length >>> ((0 : Int32) &&& 31) = Int32.ofNat a_words.length by decide +kernel]) ?_
  exact W.iret hx hb hr (fun t ht hW => ⟨rfl, ht⟩) (fun _ h => absurd h List.not_mem_nil) (show decode cJ0_length_8abf5 10 = .ok (.ireturn, 1) by decide +kernel)
end TXT2
