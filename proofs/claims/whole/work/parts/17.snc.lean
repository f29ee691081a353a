/-! ===== calls and returns ===== -/
def aTx : String := "figure beat helper other x y deep sticks to at off pass slip bars if or and not "
def aBy : List Int32 := a_words.map Int32.ofNat
/-- what stays of the start: classes, statics, the text of the words -/
def a_env (w : aO) (U : State) (H : Heap) : Prop :=
  va_K w.1 vwCl (a_tys w) U ∧ (va_Z RX10 "LOWEST" "[I" (.ref (w.2.2.1 2)) (fun q => w.2.2.2.1 ≤ q) U H ∧ va_Z RX10 "HIGHEST" "[I" (.ref (w.2.2.1 3)) (fun q => w.2.2.2.1 ≤ q) U H ∧ va_Z RX10 "AT_FIRST" "[I" (.ref (w.2.2.1 4)) (fun q => w.2.2.2.1 ≤ q) U H) ∧
  (vk_R RX6 151 aTx (w.2.2.1 5) U ∧ (∃ adV : Nat → Nat, vk_S 1 [a_words.length] [aBy] (fun _ => w.2.2.1 5) adV (fun q => w.2.2.2.1 ≤ q) U H) ∧ va_Z RJ0 "COMPACT_STRINGS" "Z" (.int 1) (fun q => w.2.2.2.1 ≤ q) U H ∧ va_Zq RJ3 "SIOOBE_FORMATTER" "Ljava/util/function/BiFunction;" (fun q => w.2.2.2.1 ≤ q) U H)
theorem a_env_to {w : aO} {s U : State} {H : Heap} (h : a_env w s s.heap) (hW : s.WarmedH U.vm) (ho : ∀ q, q < s.heap.size → q < w.2.2.2.1 → H[q]? = s.heap[q]?) : a_env w U H := by
  have hq : ∀ a : Nat, a < s.heap.size → ¬ w.2.2.2.1 ≤ a → H[a]? = s.heap[a]? := fun a h1 h2 => ho a h1 (by omega)
  obtain ⟨h1, ⟨h2, h3, h4⟩, h5, ⟨adV, h6⟩, h7, h8⟩ := h
  exact ⟨va_K.moved hW.alike h1, ⟨va_Z.moved hW.alike (h2.kept hq), va_Z.moved hW.alike (h3.kept hq), va_Z.moved hW.alike (h4.kept hq)⟩, vk_R.warm hW h5, ⟨adV, vk_S.moved hW.alike (h6.kept hq)⟩, va_Z.moved hW.alike (h7.kept hq), va_Zq.moved hW.alike (h8.kept hq)⟩
theorem a_rel_moved {w : aO} {h : aH} {s U : State} {H : Heap} (hvm : s.vm.Alike U.vm) (r : a_rel w h s H) : a_rel w h U H := by
  obtain ⟨r1, r2, r3, r4, r5, r6⟩ := r
  refine ⟨r1, r2, r3, r4, fun a ha => ?_, r6⟩
  obtain ⟨h1, h2, ⟨scr, h3, h4, h5⟩, h6⟩ := r5 a ha
  exact ⟨h1, h2, ⟨scr, h3, State.isArrayOf_alike hvm h4, h5⟩, h6⟩
def aPc (w : aO) (as : List Value) (h : aH) : Array Value → State → Prop := fun a U => a = (as.map (acv w)).toArray ∧ a_rel w h U U.heap ∧ a_env w U U.heap
def aQc (w : aO) (r : Option Value) (h2 : aH) : Array Value → State → Outcome → State → Prop := fun _ _ o t => o = .returned (r.map (acv w)) ∧ a_rel w h2 t t.heap
theorem aPc_blind (w : aO) (as : List Value) (h : aH) : FrameBlind (aPc w as h) := fun a U g mk q => by
  obtain ⟨q1, q2, q3⟩ := q
  exact ⟨q1, a_rel_moved (s := U) (U := U.calling g mk a) (Vm.Alike.refl U.vm) q2, by
    obtain ⟨h1, ⟨h2, h3, h4⟩, h5, ⟨adV, h6⟩, h7, h8⟩ := q3
    exact ⟨va_K.moved (u := U) (U := U.calling g mk a) (Vm.Alike.refl U.vm) h1, ⟨va_Z.moved (u := U) (U := U.calling g mk a) (Vm.Alike.refl U.vm) h2, va_Z.moved (u := U) (U := U.calling g mk a) (Vm.Alike.refl U.vm) h3, va_Z.moved (u := U) (U := U.calling g mk a) (Vm.Alike.refl U.vm) h4⟩, vk_R.same rfl h5, ⟨adV, vk_S.moved (u := U) (U := U.calling g mk a) (Vm.Alike.refl U.vm) h6⟩, va_Z.moved (u := U) (U := U.calling g mk a) (Vm.Alike.refl U.vm) h7, va_Zq.moved (u := U) (U := U.calling g mk a) (Vm.Alike.refl U.vm) h8⟩⟩
def rmM (d mc ms : Nat) : Room := { frames := d + 8, cells := mc, slots := ms, locals := 60 * d + 600 }
def wsM (y : MethodName) (b : ByteArray) (n : Nat) (r : Option FieldType) : List Jvm.Cond := .code y b n r :: aW
set_option maxRecDepth 100000 in
theorem a_rml {R : Room} {d mc ms mxl : Nat} (h41 : mxl ≤ 41) (hlo : 60 * d + 660 ≤ R.locals) : 8 + (mxl + 11) + (rmM d mc ms).locals ≤ R.locals := by
  simp only [rmM]
  omega
section SNC
variable {p : Program} {l : Launch} {e : Env} {R : Room} {s : State} {m : MethodId} {args : Array Value} {below : List Frame} {meth : Method} {c : Code} {cc : ByteArray} {Qf : State → Prop} {w : aO} {x0 s0 nL : Nat}
variable {k : aK} {pc tg ix : Nat} {L st : List Value} {h : aH} {H : Heap} {locs : List Loc} {cells slots : Nat} {ls : Array Slot}
theorem sn_run {mc ms : Nat} {Qa : State → Outcome → State → Prop} {free : Addr → Prop} {stk rest : List Value} {r : Option Value} {h2 : aH} (hrun : va_Run p l e R s m args below meth c H locs cells slots mc ms (F0 m pc ls stk) rest Qa free) (hQa : ∀ (st₀ : State) (v : Option Value) (t : State), st₀.heap = H → Qa st₀ (.returned v) t → v = r.map (acv w) ∧ a_rel w h2 t t.heap) (hfree : ∀ q, free q → w.2.2.2.1 ≤ q)
    (hmc : gx h2.1 = gx h.1 + mc) (hms : gs h2.1 = gs h.1 + ms) (hk : a_Wk p l e R s m args below meth c Qf w x0 s0 nL k) (hs : a_st w x0 s0 h s H locs cells slots) (hl : a_ls w nL L ls) {st2 : List Value} (hr : k (pc + 3) L (r.toList ++ st2) h2) (hrest : rest = st2.map (acv w)) : W p l e R s m args below meth c H locs cells slots Qf (F0 m pc ls stk) := by
  intro T hT X
  obtain ⟨v, st₀, t, T', Lo, e0, X', hL, e1, e2, hq, go⟩ := hrun T hT X
  obtain ⟨rfl, hrel⟩ := hQa st₀ v t e0 hq
  have hal : t.vm.Alike s.vm := by rw [← e2]; exact X'.warmed.alike.symm
  have hst : a_st w x0 s0 h2 s T'.heap (locs ++ Lo) (cells + mc) (slots + ms) := by
    refine ⟨by rw [e1]; exact a_rel_moved hal hrel, fun q hq => ?_, by have := hs.2.2.1; omega, by have := hs.2.2.2; omega⟩
    rcases List.mem_append.mp hq with h5 | h5
    · exact hs.2.1 q h5
    · exact hfree _ (hL q h5)
  obtain ⟨t2, a1, b1⟩ := hk _ _ _ _ _ _ _ _ _ hr hst hl T' rfl X'
  refine ⟨t2, go t2 ?_, b1⟩
  rw [List.map_append, ← hrest] at a1
  cases r <;> exact a1
/-- the callee's words, its code among them -/
theorem a_words_ok {y : MethodName} {b : ByteArray} {n : Nat} {rt : Option FieldType} (hts : ∀ w ∈ aW, w.before args s = true) (hc : Jvm.Cond.code y b n rt ∈ aW) : ∀ w ∈ wsM y b n rt, ∀ (a' : Array Value) (U : State), s.WarmedH U.vm → w.before a' U = true := by
  intro w hw a' U hW
  rcases List.mem_cons.mp hw with rfl | hw
  · exact aW_ride hW hts _ hc
  · exact aW_ride hW hts _ hw
variable {d mc ms n : Nat} {y : MethodName} {b : ByteArray} {mxl : Nat} {rt : Option FieldType} {r : Option Value} {h2 : aH} {as st2 : List Value}
theorem sn_callS (hx : p.tables.exec = Jvm.exec) (hb : c.code = cc) (hk : a_Wk p l e R s m args below meth c Qf w x0 s0 nL k) (hs : a_st w x0 s0 h s H locs cells slots) (hl : a_ls w nL L ls) (hml : c.maxLocals = nL) {own : String} (ho : s.vm.findClass own = some m.cls) (hts : ∀ w ∈ aW, w.before args s = true) (hev : a_env w s s.heap) (hold : ∀ q, q < w.2.2.2.1 → s.heap[q]? = w.2.2.2.2[q]?)
    (hM : Met l y (wsM y b mxl rt) (rmM d mc ms) (aPc w as h) (aQc w r h2) mc ms (fun q => w.2.2.2.1 ≤ q)) (hmc : gx h2.1 = gx h.1 + mc) (hms : gs h2.1 = gs h.1 + ms) (hroom : cells + mc ≤ R.cells ∧ slots + ms ≤ R.slots) (hfr : d + 9 ≤ R.frames) (hlo : 60 * d + 660 ≤ R.locals) (h41 : mxl ≤ 41)
    (hlk : (Jvm.Cond.methodLink own ix y).before args s = true ∨ ∃ host, (Jvm.Cond.methodLinkNest own ix y host).before args s = true) (hc : Jvm.Cond.code y b mxl rt ∈ aW) (hini : Jvm.Cond.initialized y.cls ∈ aW) (hst : Jvm.Cond.static y ∈ aW) (hy : y.cls ≠ "java/lang/invoke/MethodHandle" ∧ y.cls ≠ "java/lang/invoke/VarHandle") (hn : (parseMethodDescriptor y.desc).map (fun d => d.parameters.length) = some as.length)
    (h8 : (st2.map Value.category).sum ≤ 8) (hd : decode cc pc = .ok (.invokestatic ix, 3)) (hr : k (pc + 3) L (r.toList ++ st2) h2) : W p l e R s m args below meth c H locs cells slots Qf (F0 m pc ls ((as.reverse ++ st2).map (acv w))) := by
  have hlen : ∀ sig, parseMethodDescriptor y.desc = some sig → as.length = sig.parameters.length := fun sig hsig => by rw [hsig] at hn; exact (Option.some.inj hn).symm
  have hpre : PreS s H (aPc w as h) (as.map (acv w)) := ⟨aPc_blind w as h, fun U hU hW => ⟨rfl, by rw [hU]; exact a_rel_moved hW.alike hs.1, a_env_to hev hW (fun q h1 h3 => by rw [hU, hs.1.2.2.2.2.2 q h3, hold q h3])⟩⟩
  have hstk : (as.reverse ++ st2).map (acv w) = (as.map (acv w)).reverse ++ st2.map (acv w) := by simp
  have hQa : ∀ (st₀ : State) (v : Option Value) (t : State), st₀.heap = H → aQc w r h2 (as.map (acv w)).toArray st₀ (.returned v) t → v = r.map (acv w) ∧ a_rel w h2 t t.heap := fun st₀ v t _ hq => ⟨by have := hq.1; cases this; rfl, hq.2⟩
  rcases hlk with hlk | ⟨host, hlk⟩
  · exact sn_run (va_runS ⟨hx, hb, hml, ho, hts⟩ hM ⟨⟨rfl, rfl, hfr, a_rml h41 hlo, a_words_ok hts hc, List.mem_cons_self, hts _ hc, hts _ hini, hy, hlen, hlk⟩, hts _ hst⟩ hpre rfl (by simp) hl.2.1 hstk (by show 2 * 0 + _ ≤ _; rw [a_cats]; omega) hd hroom) hQa (fun _ h => h) hmc hms hk hs hl hr rfl
  · exact sn_run (va_runSN ⟨hx, hb, hml, ho, hts⟩ hM ⟨⟨⟨rfl, rfl, hfr, a_rml h41 hlo, a_words_ok hts hc, List.mem_cons_self⟩, hts _ hc, hts _ hini, hy, hlen, hlk⟩, hts _ hst, trivial⟩ hpre rfl (by simp) hl.2.1 hstk (by show 2 * 0 + _ ≤ _; rw [a_cats]; omega) hd hroom) hQa (fun _ h => h) hmc hms hk hs hl hr rfl
theorem sn_callI (hx : p.tables.exec = Jvm.exec) (hb : c.code = cc) (hk : a_Wk p l e R s m args below meth c Qf w x0 s0 nL k) (hs : a_st w x0 s0 h s H locs cells slots) (hl : a_ls w nL L ls) (hml : c.maxLocals = nL) {own : String} (ho : s.vm.findClass own = some m.cls) (hts : ∀ w ∈ aW, w.before args s = true) (hev : a_env w s s.heap) (hold : ∀ q, q < w.2.2.2.1 → s.heap[q]? = w.2.2.2.2[q]?) {a : Nat}
    (hM : Met l y (wsM y b mxl none) (rmM d mc ms) (aPc w (.ref a :: as) h) (aQc w r h2) mc ms (fun q => w.2.2.2.1 ≤ q)) (hmc : gx h2.1 = gx h.1 + mc) (hms : gs h2.1 = gs h.1 + ms) (hroom : cells + mc ≤ R.cells ∧ slots + ms ≤ R.slots) (hfr : d + 9 ≤ R.frames) (hlo : 60 * d + 660 ≤ R.locals) (h41 : mxl ≤ 41)
    (hlk : (Jvm.Cond.methodLink own ix y).before args s = true ∨ ∃ host, (Jvm.Cond.methodLinkNest own ix y host).before args s = true) (hc : Jvm.Cond.code y b mxl none ∈ aW) (hini : Jvm.Cond.initialized y.cls ∈ aW) (hin : Jvm.Cond.instanceMethod y ∈ aW) (hnm : y.name = "<init>") (hy : y.cls ≠ "java/lang/invoke/MethodHandle" ∧ y.cls ≠ "java/lang/invoke/VarHandle") (hn : (parseMethodDescriptor y.desc).map (fun d => d.parameters.length) = some as.length)
    (ha : gK h.1 a ≤ 11) (h8 : (st2.map Value.category).sum ≤ 8) (hd : decode cc pc = .ok (.invokespecial ix, 3)) (hr : k (pc + 3) L (r.toList ++ st2) h2) : W p l e R s m args below meth c H locs cells slots Qf (F0 m pc ls ((as.reverse ++ .ref a :: st2).map (acv w))) := by
  have hlen : ∀ sig, parseMethodDescriptor y.desc = some sig → as.length = sig.parameters.length := fun sig hsig => by rw [hsig] at hn; exact (Option.some.inj hn).symm
  obtain ⟨h0, h6, hlt, hcv, hat⟩ := a_rel_at hs.1 (a := a) (by omega)
  have hpre : PreS s H (aPc w (.ref a :: as) h) (.ref (w.2.2.2.1 + (a - 6)) :: as.map (acv w)) := ⟨aPc_blind w _ h, fun U hU hW => ⟨by rw [List.map_cons, hcv], by rw [hU]; exact a_rel_moved hW.alike hs.1, a_env_to hev hW (fun q h1 h3 => by rw [hU, hs.1.2.2.2.2.2 q h3, hold q h3])⟩⟩
  have hstk : (as.reverse ++ .ref a :: st2).map (acv w) = (as.map (acv w)).reverse ++ .ref (w.2.2.2.1 + (a - 6)) :: st2.map (acv w) := by simp [hcv]
  have hQa : ∀ (st₀ : State) (v : Option Value) (t : State), st₀.heap = H → aQc w r h2 (Value.ref (w.2.2.2.1 + (a - 6)) :: as.map (acv w)).toArray st₀ (.returned v) t → v = r.map (acv w) ∧ a_rel w h2 t t.heap := fun st₀ v t _ hq => ⟨by have := hq.1; cases this; rfl, hq.2⟩
  rcases hlk with hlk | ⟨host, hlk⟩
  · exact sn_run (va_runI ⟨hx, hb, hml, ho, hts⟩ hM ⟨⟨rfl, rfl, hfr, a_rml h41 hlo, a_words_ok hts hc, List.mem_cons_self, hts _ hc, hts _ hini, hy, hlen, hlk⟩, hnm, hts _ hin⟩ hpre rfl (by simp) hl.2.1 hstk (by show 2 * 0 + _ ≤ _; rw [a_cats]; omega) hd hroom) hQa (fun _ h => h) hmc hms hk hs hl hr rfl
  · exact sn_run (va_runIN ⟨hx, hb, hml, ho, hts⟩ hM ⟨⟨⟨rfl, rfl, hfr, a_rml h41 hlo, a_words_ok hts hc, List.mem_cons_self⟩, hts _ hc, hts _ hini, hy, hlen, hlk⟩, hnm, hts _ hin⟩ hpre rfl (by simp) hl.2.1 hstk (by show 2 * 0 + _ ≤ _; rw [a_cats]; omega) hd hroom) hQa (fun _ h => h) hmc hms hk hs hl hr rfl
theorem sn_callV (hx : p.tables.exec = Jvm.exec) (hb : c.code = cc) (hk : a_Wk p l e R s m args below meth c Qf w x0 s0 nL k) (hs : a_st w x0 s0 h s H locs cells slots) (hl : a_ls w nL L ls) (hml : c.maxLocals = nL) {own : String} (ho : s.vm.findClass own = some m.cls) (hts : ∀ w ∈ aW, w.before args s = true) (hev : a_env w s s.heap) (hold : ∀ q, q < w.2.2.2.1 → s.heap[q]? = w.2.2.2.2[q]?) {a kc : Nat} {rc : vw_C}
    (hM : Met l y (wsM y b mxl rt) (rmM d mc ms) (aPc w (.ref a :: as) h) (aQc w r h2) mc ms (fun q => w.2.2.2.1 ≤ q)) (hmc : gx h2.1 = gx h.1 + mc) (hms : gs h2.1 = gs h.1 + ms) (hroom : cells + mc ≤ R.cells ∧ slots + ms ≤ R.slots) (hfr : d + 9 ≤ R.frames) (hlo : 60 * d + 660 ≤ R.locals) (h41 : mxl ≤ 41)
    (hlk : (Jvm.Cond.methodLink own ix y).before args s = true) (hc : Jvm.Cond.code y b mxl rt ∈ aW) (hini : Jvm.Cond.initialized y.cls ∈ aW) (hin : Jvm.Cond.instanceMethod y ∈ aW) (hsel : Jvm.Cond.selects rc.1 y y ∈ aW) (hy : y.cls ≠ "java/lang/invoke/MethodHandle" ∧ y.cls ≠ "java/lang/invoke/VarHandle") (hn : (parseMethodDescriptor y.desc).map (fun d => d.parameters.length) = some as.length)
    (ha : gK h.1 a = kc) (hrc : vwCl[kc]? = some rc) (h8 : (st2.map Value.category).sum ≤ 8) (hd : decode cc pc = .ok (.invokevirtual ix, 3)) (hr : k (pc + 3) L (r.toList ++ st2) h2) : W p l e R s m args below meth c H locs cells slots Qf (F0 m pc ls ((as.reverse ++ .ref a :: st2).map (acv w))) := by
  have hlen : ∀ sig, parseMethodDescriptor y.desc = some sig → as.length = sig.parameters.length := fun sig hsig => by rw [hsig] at hn; exact (Option.some.inj hn).symm
  have h12 : kc < 12 := (List.getElem?_eq_some_iff.mp hrc).1
  obtain ⟨h0, h6, hlt, hcv, hat⟩ := a_rel_at hs.1 (a := a) (by omega)
  rw [a_cell_o ha hrc] at hat
  have hpre : PreV s H rc.1 (w.2.2.2.1 + (a - 6)) (aPc w (.ref a :: as) h) (as.map (acv w)) := ⟨aPc_blind w _ h, va_recv hev.1 (a_P1 hat) hrc (q0 := 0) rfl, fun U hU hW => ⟨by rw [List.map_cons, hcv], by rw [hU]; exact a_rel_moved hW.alike hs.1, a_env_to hev hW (fun q h1 h3 => by rw [hU, hs.1.2.2.2.2.2 q h3, hold q h3])⟩⟩
  have hstk : (as.reverse ++ .ref a :: st2).map (acv w) = (as.map (acv w)).reverse ++ .ref (w.2.2.2.1 + (a - 6)) :: st2.map (acv w) := by simp [hcv]
  have hQa : ∀ (st₀ : State) (v : Option Value) (t : State), st₀.heap = H → aQc w r h2 (Value.ref (w.2.2.2.1 + (a - 6)) :: as.map (acv w)).toArray st₀ (.returned v) t → v = r.map (acv w) ∧ a_rel w h2 t t.heap := fun st₀ v t _ hq => ⟨by have := hq.1; cases this; rfl, hq.2⟩
  exact sn_run (va_runV ⟨hx, hb, hml, ho, hts⟩ hM ⟨⟨rfl, rfl, hfr, a_rml h41 hlo, a_words_ok hts hc, List.mem_cons_self, hts _ hc, hts _ hini, hy, hlen, hlk⟩, hts _ hin, hts _ hsel⟩ hpre rfl (by simp) hl.2.1 hstk (by show 2 * 0 + _ ≤ _; rw [a_cats]; omega) hd hroom) hQa (fun _ h => h) hmc hms hk hs hl hr rfl
end SNC
