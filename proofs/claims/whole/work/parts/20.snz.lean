/-! ===== all instructions; runs; contracts of every depth ===== -/
section SNW2
variable {yy : Nat → MethodName} {bb : Nat → ByteArray} {mx : Nat → Nat} {rr : Nat → Option FieldType} {tab : Nat → Nat → Option aI}
variable {p : Program} {l : Launch} {e : Env} {R : Room} {s : State} {m : MethodId} {args : Array Value} {below : List Frame} {meth : Method} {c : Code} {w : aO} {x0 s0 : Nat}
variable {mi pc d : Nat} {L st : List Value} {h : aH} {H : Heap} {locs : List Loc} {cells slots : Nat} {ls : Array Slot}
/-- the three ways to return -/
def a_Ret (rr : Nat → Option FieldType) (bb : Nat → ByteArray) (mi : Nat) (p : Program) (l : Launch) (e : Env) (R : Room) (s : State) (m : MethodId) (args : Array Value) (below : List Frame) (meth : Method) (c : Code) (Qf : State → Prop) (w : aO) (x0 s0 : Nat) (Q : aQ) : Prop :=
  (∀ (pc : Nat) (v : Int32) (h : aH) (H : Heap) (locs : List Loc) (cells slots : Nat) (ls : Array Slot), Q (some (.int v)) h → a_st w x0 s0 h s H locs cells slots → decode (bb mi) pc = .ok (.ireturn, 1) → (rr mi = some .int ∨ (rr mi = some .boolean ∧ (v = 0 ∨ v = 1))) → W p l e R s m args below meth c H locs cells slots Qf (F0 m pc ls [.int v])) ∧
  (∀ (pc : Nat) (v : Int64) (h : aH) (H : Heap) (locs : List Loc) (cells slots : Nat) (ls : Array Slot), Q (some (.long v)) h → a_st w x0 s0 h s H locs cells slots → decode (bb mi) pc = .ok (.lreturn, 1) → rr mi = some .long → W p l e R s m args below meth c H locs cells slots Qf (F0 m pc ls [.long v])) ∧
  (∀ (pc : Nat) (h : aH) (H : Heap) (locs : List Loc) (cells slots : Nat) (ls : Array Slot), Q none h → a_st w x0 s0 h s H locs cells slots → decode (bb mi) pc = .ok (.return_, 1) → rr mi = none → W p l e R s m args below meth c H locs cells slots Qf (F0 m pc ls []))
set_option maxRecDepth 100000 in
set_option maxHeartbeats 8000000 in
theorem a_step (hfix : a_fix) (hSL : a_SL l w) (hSC : a_SC l w) (IH : a_IH yy bb mx rr tab l w d) (cx : a_cx yy bb mx rr p R s m args meth c w d mi) (hs : a_st w x0 s0 h s H locs cells slots) (hl : a_ls w (mx mi) L ls) (hle : s.heap.size ≤ H.size) (hrm0 : cells ≤ R.cells ∧ slots ≤ R.slots) {k : aK} {Q : aQ} {Qf : State → Prop} (hk : a_Wk p l e R s m args below meth c Qf w x0 s0 (mx mi) k) (hrm : a_rm R x0 s0 k) (hR : a_Ret rr bb mi p l e R s m args below meth c Qf w x0 s0 Q)
    {x : aI} (hok : a_ok yy bb mx rr mi pc x) (hr : a_ins (a_call tab mx d) x L st h k Q) : W p l e R s m args below meth c H locs cells slots Qf (F0 m pc ls (st.map (acv w))) := by
  obtain ⟨i, nx, p', q, t, ci, cl, ks, sw⟩ := x
  have cx0 := cx
  obtain ⟨⟨hx, hb, hml, ho, hts⟩, ⟨hev, hold⟩, ⟨hret, hlk, hnm⟩, hfr, hlo⟩ := cx
  have fw := hfix.1
  have hK := hev.1
  cases i
  case iconst n => obtain ⟨⟨hd, rfl⟩, hv⟩ := hok; exact sn_iconst hx hb hk hs hl hd hv hr
  case bipush n => obtain ⟨⟨hd, rfl⟩, hv⟩ := hok; exact sn_bipush hx hb hk hs hl hd hv hr
  case sipush n => obtain ⟨⟨hd, rfl⟩, hv⟩ := hok; exact sn_sipush hx hb hk hs hl hd hv hr
  case lconst n => obtain ⟨⟨hd, rfl⟩, hv⟩ := hok; exact sn_lconst hx hb hk hs hl hd hv hr
  case ldc ix =>
    obtain ⟨⟨hd, rfl⟩, hv⟩ := hok
    match t, hv, hr with
    | 0, hv, hr => exact sn_ldc hx hb hk hs hl ho (hts _ hv) hd hr
    | t + 1, hv, hr =>
      obtain ⟨h1, rfl⟩ := hv
      have h2 := hk _ _ _ _ _ _ _ _ _ hr hs hl
      rw [List.map_cons, acv_ref w (by decide), aad, if_pos (by decide)] at h2
      exact va_ldcS hx hb ho (by rw [h1]; exact hev.2.2.1) hd h2
  case ldc_w ix => obtain ⟨⟨hd, rfl⟩, hv⟩ := hok; exact sn_ldc_w hx hb hk hs hl ho (hts _ hv) hd hr
  case ldc2_w ix => obtain ⟨⟨hd, rfl⟩, hv⟩ := hok; exact sn_ldc2_w hx hb hk hs hl ho (hts _ hv) hd hr
  case aconst_null => obtain ⟨hd, rfl⟩ := hok; exact sn_aconst hx hb hk hs hl hd hr
  case iload ix => obtain ⟨⟨hd, rfl⟩, rfl⟩ := hok; exact sn_iload hx hb hk hs hl hd hr
  case lload ix => obtain ⟨⟨hd, rfl⟩, rfl⟩ := hok; exact sn_lload hx hb hk hs hl hd hr
  case aload ix => obtain ⟨⟨hd, rfl⟩, rfl⟩ := hok; exact sn_aload hx hb hk hs hl hd hr
  case iload_n n => obtain ⟨⟨hd, rfl⟩, hn⟩ := hok; exact sn_iload_n hx hb hk hs hl hn hd hr
  case lload_n n => obtain ⟨⟨hd, rfl⟩, hn⟩ := hok; exact sn_lload_n hx hb hk hs hl hn hd hr
  case aload_n n => obtain ⟨⟨hd, rfl⟩, hn⟩ := hok; exact sn_aload_n hx hb hk hs hl hn hd hr
  case istore ix => obtain ⟨⟨hd, rfl⟩, rfl, h1⟩ := hok; exact sn_istore hx hb hk hs hl h1 hd hr
  case lstore ix => obtain ⟨⟨hd, rfl⟩, rfl, h1⟩ := hok; exact sn_lstore hx hb hk hs hl h1 hd hr
  case astore ix => obtain ⟨⟨hd, rfl⟩, rfl, h1⟩ := hok; exact sn_astore hx hb hk hs hl h1 hd hr
  case istore_n n => obtain ⟨⟨hd, rfl⟩, hn, h1⟩ := hok; exact sn_istore_n hx hb hk hs hl hn h1 hd hr
  case lstore_n n => obtain ⟨⟨hd, rfl⟩, hn, h1⟩ := hok; exact sn_lstore_n hx hb hk hs hl hn h1 hd hr
  case astore_n n => obtain ⟨⟨hd, rfl⟩, hn, h1⟩ := hok; exact sn_astore_n hx hb hk hs hl hn h1 hd hr
  case iinc ix n => obtain ⟨⟨hd, rfl⟩, rfl, hv, h1⟩ := hok; exact sn_iinc hx hb hk hs hl hv h1 hd hr
  case dup => obtain ⟨hd, rfl⟩ := hok; exact sn_dup hx hb hk hs hl hd hr
  case dup2 => obtain ⟨hd, rfl⟩ := hok; exact sn_dup2 hx hb hk hs hl hd hr
  case iadd => obtain ⟨hd, rfl⟩ := hok; exact sn_iadd hx hb hk hs hl hd hr
  case isub => obtain ⟨hd, rfl⟩ := hok; exact sn_isub hx hb hk hs hl hd hr
  case imul => obtain ⟨hd, rfl⟩ := hok; exact sn_imul hx hb hk hs hl hd hr
  case iand => obtain ⟨hd, rfl⟩ := hok; exact sn_iand hx hb hk hs hl hd hr
  case ior => obtain ⟨hd, rfl⟩ := hok; exact sn_ior hx hb hk hs hl hd hr
  case ixor => obtain ⟨hd, rfl⟩ := hok; exact sn_ixor hx hb hk hs hl hd hr
  case ishl => obtain ⟨hd, rfl⟩ := hok; exact sn_ishl hx hb hk hs hl hd hr
  case ishr => obtain ⟨hd, rfl⟩ := hok; exact sn_ishr hx hb hk hs hl hd hr
  case iushr => obtain ⟨hd, rfl⟩ := hok; exact sn_iushr hx hb hk hs hl hd hr
  case idiv => obtain ⟨hd, rfl⟩ := hok; exact sn_idiv hx hb hk hs hl hd hr
  case irem => obtain ⟨hd, rfl⟩ := hok; exact sn_irem hx hb hk hs hl hd hr
  case ineg => obtain ⟨hd, rfl⟩ := hok; exact sn_ineg hx hb hk hs hl hd hr
  case ladd => obtain ⟨hd, rfl⟩ := hok; exact sn_ladd hx hb hk hs hl hd hr
  case lsub => obtain ⟨hd, rfl⟩ := hok; exact sn_lsub hx hb hk hs hl hd hr
  case lmul => obtain ⟨hd, rfl⟩ := hok; exact sn_lmul hx hb hk hs hl hd hr
  case land => obtain ⟨hd, rfl⟩ := hok; exact sn_land hx hb hk hs hl hd hr
  case lor => obtain ⟨hd, rfl⟩ := hok; exact sn_lor hx hb hk hs hl hd hr
  case lxor => obtain ⟨hd, rfl⟩ := hok; exact sn_lxor hx hb hk hs hl hd hr
  case ldiv => obtain ⟨hd, rfl⟩ := hok; exact sn_ldiv hx hb hk hs hl hd hr
  case lrem => obtain ⟨hd, rfl⟩ := hok; exact sn_lrem hx hb hk hs hl hd hr
  case lshl => obtain ⟨hd, rfl⟩ := hok; exact sn_lshl hx hb hk hs hl hd hr
  case lshr => obtain ⟨hd, rfl⟩ := hok; exact sn_lshr hx hb hk hs hl hd hr
  case lushr => obtain ⟨hd, rfl⟩ := hok; exact sn_lushr hx hb hk hs hl hd hr
  case lcmp => obtain ⟨hd, rfl⟩ := hok; exact sn_lcmp hx hb hk hs hl hd hr
  case i2l => obtain ⟨hd, rfl⟩ := hok; exact sn_i2l hx hb hk hs hl hd hr
  case l2i => obtain ⟨hd, rfl⟩ := hok; exact sn_l2i hx hb hk hs hl hd hr
  case goto off => obtain ⟨hd, ht⟩ := hok; exact sn_goto hx hb hk hs hl hd ht hr
  case ifCond cn off => obtain ⟨⟨hd, rfl⟩, ht⟩ := hok; exact sn_ifCond hx hb hk hs hl hd ht hr
  case if_icmp cn off => obtain ⟨⟨hd, rfl⟩, ht⟩ := hok; exact sn_if_icmp hx hb hk hs hl hd ht hr
  case ifnull off => obtain ⟨⟨hd, rfl⟩, ht⟩ := hok; exact sn_ifnull hx hb hk hs hl hd ht hr
  case ifnonnull off => obtain ⟨⟨hd, rfl⟩, ht⟩ := hok; exact sn_ifnonnull hx hb hk hs hl hd ht hr
  case tableswitch df lo hi offs => obtain ⟨⟨len, hd⟩, ht, h1, h2⟩ := hok; exact sn_tableswitch hx hb hk hs hl hd ht h1 h2 hr
  case getfield ix => obtain ⟨⟨hd, rfl⟩, r, h1, h2, h3, h4⟩ := hok; exact sn_getfield (x := (.getfield ix, pc + 3, p', q, t, ci, cl, ks, sw)) hx hb hk hs hl ho hts hK rfl h1 h2 (fw _ _ h1) h3 (hts _ h4) hd hr
  case putfield ix => obtain ⟨⟨hd, rfl⟩, r, h1, h2, h3, h4, h5⟩ := hok; exact sn_putfield (x := (.putfield ix, pc + 3, p', q, t, ci, cl, ks, sw)) hx hb hk hs hl ho hts hK rfl h1 h2 (fw _ _ h1) h3 (hts _ h4) (by rcases h5 with q1 | ⟨q1, q2, q3⟩; exact Or.inl q1; exact Or.inr ⟨q1, hnm q2, q3⟩) hd hr
  case getstatic ix =>
    obtain ⟨⟨hd, rfl⟩, n, hn, hf⟩ := hok
    have hf2 : (Jvm.Cond.fieldLink (yy mi).cls ix RX10 n "[I").before args s = true ∨ ∃ host, (Jvm.Cond.fieldLinkNest (yy mi).cls ix RX10 n "[I" host).before args s = true := by
      rcases hf with q1 | ⟨hh, q1⟩
      · exact Or.inl (hts _ q1)
      · exact Or.inr ⟨hh, hts _ q1⟩
    rcases hn with ⟨rfl, rfl⟩ | ⟨rfl, rfl⟩ | ⟨rfl, rfl⟩
    · exact sn_getstatic hx hb hk hs hl ho hold ⟨by decide, by decide⟩ hev.2.1.1 hf2 hle hd hr
    · exact sn_getstatic hx hb hk hs hl ho hold ⟨by decide, by decide⟩ hev.2.1.2.1 hf2 hle hd hr
    · exact sn_getstatic hx hb hk hs hl ho hold ⟨by decide, by decide⟩ hev.2.1.2.2 hf2 hle hd hr
  case iaload => obtain ⟨hd, rfl⟩ := hok; exact sn_iaload hx hb hk hs hl hK hd hr
  case laload => obtain ⟨hd, rfl⟩ := hok; exact sn_laload hx hb hk hs hl hK hd hr
  case baload => obtain ⟨hd, rfl⟩ := hok; exact sn_baload hx hb hk hs hl hK hd hr
  case aaload => obtain ⟨⟨hd, rfl⟩, h1, h2⟩ := hok; exact sn_aaload hx hb hk hs hl hK h1 h2 hd hr
  case iastore => obtain ⟨hd, rfl⟩ := hok; exact sn_iastore hx hb hk hs hl hK hd hr
  case lastore => obtain ⟨hd, rfl⟩ := hok; exact sn_lastore hx hb hk hs hl hK hd hr
  case bastore => obtain ⟨hd, rfl⟩ := hok; exact sn_bastore hx hb hk hs hl hK hd hr
  case aastore => obtain ⟨⟨hd, rfl⟩, h1⟩ := hok; exact sn_aastore hx hb hk hs hl hK h1 hd hr
  case arraylength => obtain ⟨hd, rfl⟩ := hok; exact sn_arraylength hx hb hk hs hl hK hd hr
  case new ix => obtain ⟨⟨hd, rfl⟩, r, h1, rfl, h3, h4, h5⟩ := hok; exact sn_new hx hb hk hrm hs hl ho hts hK h1 (fw _ _ h1) (hts _ h3) (hts _ h4) (hts _ h5) hd hr
  case newarray a => obtain ⟨⟨hd, rfl⟩, h1, h2⟩ := hok; exact sn_newarray hx hb hk hrm hs hl hK h1 (hts _ h2) hd hr
  case anewarray ix => obtain ⟨⟨hd, rfl⟩, C, h1, h2, h3⟩ := hok; exact sn_anewarray hx hb hk hrm hs hl ho hK h1 (hts _ h2) (hts _ h3) hd hr
  case multianewarray ix dm => obtain ⟨⟨hd, rfl⟩, rfl, ty, h1, h2, h3, h4⟩ := hok; exact sn_multianewarray hx hb hk hrm hs hl ho hK h1 (hts _ h2) (hts _ h3) (hts _ h4) hd hr
  case checkcast ix => obtain ⟨⟨hd, rfl⟩, rfl, h1⟩ := hok; exact sn_checkcast hx hb hk hs hl ho hK (hts _ h1) hd hr
  case invokevirtual ix => exact a_inv_sound hfix hSL hSC IH cx0 hs hl hle hrm0 hk hrm rfl (Or.inl ⟨rfl, rfl⟩) hok hr
  case invokespecial ix => exact a_inv_sound hfix hSL hSC IH cx0 hs hl hle hrm0 hk hrm rfl (Or.inr (Or.inl ⟨rfl, rfl⟩)) hok hr
  case invokestatic ix => exact a_inv_sound hfix hSL hSC IH cx0 hs hl hle hrm0 hk hrm rfl (Or.inr (Or.inr ⟨rfl, rfl⟩)) hok hr
  case ireturn =>
    obtain ⟨hd, h1, h2⟩ := hok
    simp only [a_ins] at hr
    split at hr
    · rename_i v
      split at hr
      · exact hR.1 pc v h H locs cells slots ls hr hs hd (Or.inl (h1 rfl))
      · rename_i n0
        exact hR.1 pc v h H locs cells slots ls hr.2 hs hd (Or.inr ⟨h2 (fun z => n0 z), hr.1⟩)
    · exact hr.elim
  case lreturn =>
    obtain ⟨hd, h1⟩ := hok
    simp only [a_ins] at hr
    split at hr
    · rename_i v
      exact hR.2.1 pc v h H locs cells slots ls hr hs hd h1
    · exact hr.elim
  case return_ =>
    simp only [a_ins] at hr
    split at hr
    · exact hR.2.2 pc h H locs cells slots ls hr hs hok.1 hok.2
    · exact hr.elim
  all_goals exact hr.elim
/-- a run within a method -/
theorem a_run_sound (hfix : a_fix) (hSL : a_SL l w) (hSC : a_SC l w) (hprog : ∀ mi pc x, tab mi pc = some x → a_ok yy bb mx rr mi pc x) (IH : a_IH yy bb mx rr tab l w d) (cx : a_cx yy bb mx rr p R s m args meth c w d mi) {Q : aQ} {Qf : State → Prop} (hR : a_Ret rr bb mi p l e R s m args below meth c Qf w x0 s0 Q) (hQ : ∀ r g, Q r g → gx g.1 ≤ x0 + R.cells ∧ gs g.1 ≤ s0 + R.slots) (hsz : s.heap.size ≤ w.2.2.2.1 + (x0 - 6)) :
    ∀ (n pc : Nat) (L st : List Value) (h : aH) (H : Heap) (locs : List Loc) (cells slots : Nat) (ls : Array Slot), a_run tab (a_call tab mx d) mi n pc L st h (fun _ _ _ _ => False) Q → a_st w x0 s0 h s H locs cells slots → a_ls w (mx mi) L ls → W p l e R s m args below meth c H locs cells slots Qf (F0 m pc ls (st.map (acv w)))
  | 0, _, _, _, _, _, _, _, _, _, hr, _, _ => hr.elim
  | n + 1, pc, L, st, h, H, locs, cells, slots, ls, hr, hs, hl => by
    have hend : ∀ (n pc : Nat) (L st : List Value) (h : aH), a_run tab (a_call tab mx d) mi n pc L st h (fun _ _ _ _ => False) Q → gx h.1 ≤ x0 + R.cells ∧ gs h.1 ≤ s0 + R.slots := by
      intro n pc L st h hh
      rcases a_run_ex tab (a_call_ex tab mx d) mi n pc L st h _ Q hh with ⟨_, _, _, _, z, -⟩ | ⟨r, g, z1, z2, -⟩
      · exact z.elim
      · have := hQ r g z1
        have h1 := z2.1
        have h2 := z2.2
        omega
    have h0 := hend _ _ _ _ _ hr
    simp only [a_run] at hr
    split at hr
    · exact hr.elim
    · rename_i x hx
      have e3 := hs.2.2
      have e4 := hs.1.2.1
      exact a_step hfix hSL hSC IH cx hs (a_ls_kill _ hl) (by rw [e4]; omega) (by omega) (fun pc2 L2 st2 h2 H2 locs2 cells2 slots2 ls2 q1 q2 q3 => a_run_sound hfix hSL hSC hprog IH cx hR hQ hsz n pc2 L2 st2 h2 H2 locs2 cells2 slots2 ls2 q1 q2 q3) (fun pc2 L2 st2 h2 q1 => hend _ _ _ _ _ q1) hR (hprog mi pc x hx) hr
theorem a_lv_args (w : aO) : ∀ (as : List Value) (n j : Nat) (v : Value), (a_sl as)[j]? = some v → v ≠ aU → (∀ u ∈ as, u.category = 2 → ∃ z, u = .long z) → (n + j, acv w v) ∈ lv_args n (as.map (acv w))
  | [], _, j, v, h, _, _ => by simp [a_sl] at h
  | a :: as, n, j, v, h, hv, hc => by
    have hc2 : ∀ u ∈ as, u.category = 2 → ∃ z, u = .long z := fun u hu => hc u (List.mem_cons_of_mem _ hu)
    rw [List.map_cons]
    unfold lv_args
    rw [acv_cat]
    by_cases h2 : a.category = 2
    · obtain ⟨z, rfl⟩ := hc a List.mem_cons_self h2
      rw [if_pos (show (Value.long z).category = 2 from rfl)]
      match j, h with
      | 0, h =>
        simp only [a_sl, List.getElem?_cons_zero] at h
        cases h
        exact List.mem_cons_self
      | 1, h =>
        simp only [a_sl, List.getElem?_cons_succ, List.getElem?_cons_zero] at h
        cases h
        exact absurd rfl hv
      | j + 2, h =>
        simp only [a_sl, List.getElem?_cons_succ] at h
        have := a_lv_args w as (n + 2) j v h hv hc2
        rw [show n + (j + 2) = n + 2 + j by omega]
        exact List.mem_cons_of_mem _ this
    · rw [if_neg h2]
      have e : a_sl (a :: as) = a :: a_sl as := by
        cases a <;> first | rfl | exact absurd rfl h2
      rw [e] at h
      match j, h with
      | 0, h =>
        cases h
        exact List.mem_cons_self
      | j + 1, h =>
        have := a_lv_args w as (n + 1) j v h hv hc2
        rw [show n + (j + 1) = n + 1 + j by omega]
        exact List.mem_cons_of_mem _ this
theorem a_sl_len (w : aO) : ∀ (as : List Value), (∀ u ∈ as, u.category = 2 → ∃ z, u = .long z) → (lg_sl (as.map (acv w))).length = (a_sl as).length
  | [], _ => rfl
  | a :: as, hc => by
    have ih := a_sl_len w as (fun u hu => hc u (List.mem_cons_of_mem _ hu))
    unfold lg_sl at ih ⊢
    rw [List.map_cons, List.flatMap_cons, List.length_append, ih, acv_cat]
    by_cases h2 : a.category = 2
    · obtain ⟨z, rfl⟩ := hc a List.mem_cons_self h2
      simp [a_sl, Value.category]
      omega
    · rw [if_neg h2]
      have e : a_sl (a :: as) = a :: a_sl as := by
        cases a <;> first | rfl | exact absurd rfl h2
      rw [e]
      simp
      omega
end SNW2
