/-! ===== the abstract machine is the machine ===== -/
/-- the two members of the text: their contracts -/
def aPs (w : aO) (as : List Value) : Array Value → State → Prop := fun a U => a = as.toArray ∧ a_env w U U.heap
def aQs (v : Int32) : Array Value → State → Outcome → State → Prop := fun _ st o t => o = .returned (some (.int v)) ∧ t.heap = st.heap
def a_SL (l : Launch) (w : aO) : Prop := Met l yJ0_length_8abf5 (wsM yJ0_length_8abf5 cJ0_length_8abf5 1 (some .int)) { frames := 5, cells := 0, slots := 0, locals := 400 } (aPs w [.ref (w.2.2.1 5)]) (aQs (Int32.ofNat a_words.length)) 0 0 (fun _ => False)
def a_SC (l : Launch) (w : aO) : Prop := ∀ i : Int32, vp_in i a_words.length → Met l yJ0_charAt_5068e (wsM yJ0_charAt_5068e cJ0_charAt_5068e 2 (some .char)) { frames := 5, cells := 0, slots := 0, locals := 400 } (aPs w [.ref (w.2.2.1 5), .int i]) (aQs (Int32.ofNat (a_words.getD i.toNatClampNeg 0))) 0 0 (fun _ => False)
theorem aPs_blind (w : aO) (as : List Value) : FrameBlind (aPs w as) := fun a U g mk q => ⟨q.1, by
    obtain ⟨h1, ⟨h2, h3, h4⟩, h5, ⟨adV, h6⟩, h7, h8⟩ := q.2
    exact ⟨va_K.moved (u := U) (U := U.calling g mk a) (Vm.Alike.refl U.vm) h1, ⟨va_Z.moved (u := U) (U := U.calling g mk a) (Vm.Alike.refl U.vm) h2, va_Z.moved (u := U) (U := U.calling g mk a) (Vm.Alike.refl U.vm) h3, va_Z.moved (u := U) (U := U.calling g mk a) (Vm.Alike.refl U.vm) h4⟩, vk_R.same rfl h5, ⟨adV, vk_S.moved (u := U) (U := U.calling g mk a) (Vm.Alike.refl U.vm) h6⟩, va_Z.moved (u := U) (U := U.calling g mk a) (Vm.Alike.refl U.vm) h7, va_Zq.moved (u := U) (U := U.calling g mk a) (Vm.Alike.refl U.vm) h8⟩⟩
section SNY
variable {p : Program} {l : Launch} {e : Env} {R : Room} {s : State} {m : MethodId} {args : Array Value} {below : List Frame} {meth : Method} {c : Code} {cc : ByteArray} {Qf : State → Prop} {w : aO} {x0 s0 nL : Nat}
variable {k : aK} {pc tg ix : Nat} {L st : List Value} {h : aH} {H : Heap} {locs : List Loc} {cells slots : Nat} {ls : Array Slot}
/-- a member of the text -/
theorem sn_text (hx : p.tables.exec = Jvm.exec) (hb : c.code = cc) (hk : a_Wk p l e R s m args below meth c Qf w x0 s0 nL k) (hs : a_st w x0 s0 h s H locs cells slots) (hl : a_ls w nL L ls) (hml : c.maxLocals = nL) {own : String} (ho : s.vm.findClass own = some m.cls) (hts : ∀ w ∈ aW, w.before args s = true) (hev : a_env w s s.heap) (hle : s.heap.size ≤ H.size) (hold : ∀ q, q < w.2.2.2.1 → s.heap[q]? = w.2.2.2.2[q]?)
    {y : MethodName} {b : ByteArray} {mxl : Nat} {rt : Option FieldType} {v : Int32} {as st2 : List Value} (hM : Met l y (wsM y b mxl rt) { frames := 5, cells := 0, slots := 0, locals := 400 } (aPs w (.ref (w.2.2.1 5) :: as)) (aQs v) 0 0 (fun _ => False)) (has : as.map (acv w) = as) (hfr : 9 ≤ R.frames) (hlo : 600 ≤ R.locals) (h41 : mxl ≤ 41) (hrm : cells ≤ R.cells ∧ slots ≤ R.slots)
    (hlk : (Jvm.Cond.methodLink own ix y).before args s = true) (hc : Jvm.Cond.code y b mxl rt ∈ aW) (hin : Jvm.Cond.instanceMethod y ∈ aW) (hsel : Jvm.Cond.selects RJ0 y y ∈ aW) (hini : Jvm.Cond.initialized RJ0 ∈ aW) (hyc : y.cls = RJ0) (hn : (parseMethodDescriptor y.desc).map (fun d => d.parameters.length) = some as.length) (h8 : (st2.map Value.category).sum ≤ 8) (hd : decode cc pc = .ok (.invokevirtual ix, 3)) (hr : k (pc + 3) L (.int v :: st2) h) : W p l e R s m args below meth c H locs cells slots Qf (F0 m pc ls ((as.reverse ++ .ref 5 :: st2).map (acv w))) := by
  have hlen : ∀ sig, parseMethodDescriptor y.desc = some sig → as.length = sig.parameters.length := fun sig hsig => by rw [hsig] at hn; exact (Option.some.inj hn).symm
  have hcv : acv w (.ref 5) = .ref (w.2.2.1 5) := by rw [acv_ref w (by decide), aad, if_pos (by decide)]
  obtain ⟨adV, hsS⟩ := hev.2.2.2.1
  have hS : va_S (fun q => w.2.2.2.1 ≤ q) s.heap H locs := ⟨hle, fun q h1 h3 => by rw [hs.1.2.2.2.2.2 q (by omega), hold q (by omega)], hs.2.1⟩
  have hpre : PreV s H RJ0 (w.2.2.1 5) (aPs w (.ref (w.2.2.1 5) :: as)) as := ⟨aPs_blind w _, vk_recv (i := 0) hsS (by decide) hS, fun U hU hW => ⟨rfl, a_env_to hev hW (fun q h1 h3 => by rw [hU, hs.1.2.2.2.2.2 q h3, hold q h3])⟩⟩
  have hstk : (as.reverse ++ .ref 5 :: st2).map (acv w) = as.reverse ++ .ref (w.2.2.1 5) :: st2.map (acv w) := by rw [List.map_append, List.map_reverse, has, List.map_cons, hcv]
  have hrun := va_runV (R := R) (locs := locs) (cells := cells) (slots := slots) (below := below) (meth := meth) (e := e) (g := F0 m pc ls ((as.reverse ++ .ref 5 :: st2).map (acv w))) ⟨hx, hb, hml, ho, hts⟩ hM ⟨⟨rfl, rfl, by show 5 + 1 ≤ _; omega, by show 8 + (mxl + 11) + 400 ≤ _; omega, a_words_ok hts hc, List.mem_cons_self, hts _ hc, hts _ (by rw [hyc]; exact hini), by rw [hyc]; decide, hlen, hlk⟩, hts _ hin, hts _ hsel⟩ hpre rfl rfl hl.2.1 hstk (by show 2 * 0 + _ ≤ _; rw [a_cats]; omega) hd ⟨by omega, by omega⟩
  intro T hT X
  obtain ⟨v', st₀, t, T', Lo, e0, X', hL, e1, e2, hq, go⟩ := hrun T hT X
  have hv := hq.1
  cases hv
  have hheap : T'.heap = H := by rw [e1, hq.2, e0]
  have hLo : ∀ q ∈ locs ++ Lo, w.2.2.2.1 ≤ q.base := fun q hq => by
    rcases List.mem_append.mp hq with h5 | h5
    · exact hs.2.1 q h5
    · exact (hL q h5).elim
  obtain ⟨t2, a1, b1⟩ := hk _ _ _ _ _ _ _ _ _ hr ⟨hs.1, hLo, hs.2.2⟩ hl T' hheap X'
  exact ⟨t2, go t2 a1, b1⟩
end SNY
