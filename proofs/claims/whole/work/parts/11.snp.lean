/-! ===== instructions that leave the heap alone: the abstract machine's step is the machine's (laid by wip/whole/gen_snp.py) ===== -/
section SNP
variable {p : Program} {l : Launch} {e : Env} {R : Room} {s : State} {m : MethodId} {args : Array Value} {below : List Frame} {meth : Method} {c : Code} {cc : ByteArray} {Qf : State → Prop} {w : aO} {x0 s0 nL : Nat}
def a_Wk (p : Program) (l : Launch) (e : Env) (R : Room) (s : State) (m : MethodId) (args : Array Value) (below : List Frame) (meth : Method) (c : Code) (Qf : State → Prop) (w : aO) (x0 s0 nL : Nat) (k : aK) : Prop :=
  ∀ (pc : Nat) (L st : List Value) (h : aH) (H : Heap) (locs : List Loc) (cells slots : Nat) (ls : Array Slot), k pc L st h → a_st w x0 s0 h s H locs cells slots → a_ls w nL L ls → W p l e R s m args below meth c H locs cells slots Qf (F0 m pc ls (st.map (acv w)))
variable {k : aK} {pc tg ix : Nat} {L st : List Value} {h : aH} {H : Heap} {locs : List Loc} {cells slots : Nat} {ls : Array Slot} {ci : Int32} {cl : Int64}
--variable (hx : p.tables.exec = Jvm.exec) (hb : c.code = cc) (hk : a_Wk p l e R s m args below meth c Qf w x0 s0 nL k) (hs : a_st w x0 s0 h s H locs cells slots) (hl : a_ls w nL L ls)
theorem sn_iconst (hx : p.tables.exec = Jvm.exec) (hb : c.code = cc) (hk : a_Wk p l e R s m args below meth c Qf w x0 s0 nL k) (hs : a_st w x0 s0 h s H locs cells slots) (hl : a_ls w nL L ls) {n : Int} (hd : decode cc pc = .ok (.iconst n, 1)) (hv : Int32.ofInt n = ci) (hr : k (pc + 1) L (.int ci :: st) h) : W p l e R s m args below meth c H locs cells slots Qf (F0 m pc ls (st.map (acv w))) := by
  exact lv_iconst hx hb hd hv (hk _ _ _ _ _ _ _ _ _ hr hs hl)
theorem sn_bipush (hx : p.tables.exec = Jvm.exec) (hb : c.code = cc) (hk : a_Wk p l e R s m args below meth c Qf w x0 s0 nL k) (hs : a_st w x0 s0 h s H locs cells slots) (hl : a_ls w nL L ls) {n : Int} (hd : decode cc pc = .ok (.bipush n, 2)) (hv : (Int8.ofInt n).toInt32 = ci) (hr : k (pc + 2) L (.int ci :: st) h) : W p l e R s m args below meth c H locs cells slots Qf (F0 m pc ls (st.map (acv w))) := by
  exact lv_bipush hx hb hd hv (hk _ _ _ _ _ _ _ _ _ hr hs hl)
theorem sn_sipush (hx : p.tables.exec = Jvm.exec) (hb : c.code = cc) (hk : a_Wk p l e R s m args below meth c Qf w x0 s0 nL k) (hs : a_st w x0 s0 h s H locs cells slots) (hl : a_ls w nL L ls) {n : Int} (hd : decode cc pc = .ok (.sipush n, 3)) (hv : (Int16.ofInt n).toInt32 = ci) (hr : k (pc + 3) L (.int ci :: st) h) : W p l e R s m args below meth c H locs cells slots Qf (F0 m pc ls (st.map (acv w))) := by
  exact lv_sipush hx hb hd hv (hk _ _ _ _ _ _ _ _ _ hr hs hl)
theorem sn_lconst (hx : p.tables.exec = Jvm.exec) (hb : c.code = cc) (hk : a_Wk p l e R s m args below meth c Qf w x0 s0 nL k) (hs : a_st w x0 s0 h s H locs cells slots) (hl : a_ls w nL L ls) {n : Fin 2} (hd : decode cc pc = .ok (.lconst n, 1)) (hv : Int64.ofNat (n : Nat) = cl) (hr : k (pc + 1) L (.long cl :: st) h) : W p l e R s m args below meth c H locs cells slots Qf (F0 m pc ls (st.map (acv w))) := by
  exact lv_lconst hx hb hd hv (hk _ _ _ _ _ _ _ _ _ hr hs hl)
theorem sn_ldc (hx : p.tables.exec = Jvm.exec) (hb : c.code = cc) (hk : a_Wk p l e R s m args below meth c Qf w x0 s0 nL k) (hs : a_st w x0 s0 h s H locs cells slots) (hl : a_ls w nL L ls) {own : String} (ho : s.vm.findClass own = some m.cls) (hc : (Jvm.Cond.constant own ix ci).before args s = true) (hd : decode cc pc = .ok (.ldc ix, 2)) (hr : k (pc + 2) L (.int ci :: st) h) : W p l e R s m args below meth c H locs cells slots Qf (F0 m pc ls (st.map (acv w))) := by
  exact lv_ldc hx hb ho hc hd (hk _ _ _ _ _ _ _ _ _ hr hs hl)
theorem sn_ldc_w (hx : p.tables.exec = Jvm.exec) (hb : c.code = cc) (hk : a_Wk p l e R s m args below meth c Qf w x0 s0 nL k) (hs : a_st w x0 s0 h s H locs cells slots) (hl : a_ls w nL L ls) {own : String} (ho : s.vm.findClass own = some m.cls) (hc : (Jvm.Cond.constant own ix ci).before args s = true) (hd : decode cc pc = .ok (.ldc_w ix, 3)) (hr : k (pc + 3) L (.int ci :: st) h) : W p l e R s m args below meth c H locs cells slots Qf (F0 m pc ls (st.map (acv w))) := by
  exact lv_ldcw hx hb ho hc hd (hk _ _ _ _ _ _ _ _ _ hr hs hl)
theorem sn_ldc2_w (hx : p.tables.exec = Jvm.exec) (hb : c.code = cc) (hk : a_Wk p l e R s m args below meth c Qf w x0 s0 nL k) (hs : a_st w x0 s0 h s H locs cells slots) (hl : a_ls w nL L ls) {own : String} (ho : s.vm.findClass own = some m.cls) (hc : (Jvm.Cond.constantLong own ix cl).before args s = true) (hd : decode cc pc = .ok (.ldc2_w ix, 3)) (hr : k (pc + 3) L (.long cl :: st) h) : W p l e R s m args below meth c H locs cells slots Qf (F0 m pc ls (st.map (acv w))) := by
  exact lv_ldc2 hx hb ho hc hd (hk _ _ _ _ _ _ _ _ _ hr hs hl)
theorem sn_aconst (hx : p.tables.exec = Jvm.exec) (hb : c.code = cc) (hk : a_Wk p l e R s m args below meth c Qf w x0 s0 nL k) (hs : a_st w x0 s0 h s H locs cells slots) (hl : a_ls w nL L ls) (hd : decode cc pc = .ok (.aconst_null, 1)) (hr : k (pc + 1) L (.ref 0 :: st) h) : W p l e R s m args below meth c H locs cells slots Qf (F0 m pc ls (st.map (acv w))) := by
  exact lv_null hx hb hd (hk _ _ _ _ _ _ _ _ _ hr hs hl)
theorem sn_iload (hx : p.tables.exec = Jvm.exec) (hb : c.code = cc) (hk : a_Wk p l e R s m args below meth c Qf w x0 s0 nL k) (hs : a_st w x0 s0 h s H locs cells slots) (hl : a_ls w nL L ls) (hd : decode cc pc = .ok (.iload ix, 2)) (hr : a_loadI L st ix (fun st2 => k (pc + 2) L st2 h)) : W p l e R s m args below meth c H locs cells slots Qf (F0 m pc ls (st.map (acv w))) := by
  unfold a_loadI at hr
  split at hr
  · rename_i v hv
    exact lv_iload hx hb hd (a_ls_get hl hv (by simp [aU])) (hk _ _ _ _ _ _ _ _ _ hr hs hl)
  · exact hr.elim
theorem sn_iload_n (hx : p.tables.exec = Jvm.exec) (hb : c.code = cc) (hk : a_Wk p l e R s m args below meth c Qf w x0 s0 nL k) (hs : a_st w x0 s0 h s H locs cells slots) (hl : a_ls w nL L ls) {n : Fin 4} (hn : (n : Nat) = ix) (hd : decode cc pc = .ok (.iload_n n, 1)) (hr : a_loadI L st ix (fun st2 => k (pc + 1) L st2 h)) : W p l e R s m args below meth c H locs cells slots Qf (F0 m pc ls (st.map (acv w))) := by
  unfold a_loadI at hr
  split at hr
  · rename_i v hv
    exact lv_iload_n hx hb hd hn (a_ls_get hl hv (by simp [aU])) (hk _ _ _ _ _ _ _ _ _ hr hs hl)
  · exact hr.elim
theorem sn_lload (hx : p.tables.exec = Jvm.exec) (hb : c.code = cc) (hk : a_Wk p l e R s m args below meth c Qf w x0 s0 nL k) (hs : a_st w x0 s0 h s H locs cells slots) (hl : a_ls w nL L ls) (hd : decode cc pc = .ok (.lload ix, 2)) (hr : a_loadL L st ix (fun st2 => k (pc + 2) L st2 h)) : W p l e R s m args below meth c H locs cells slots Qf (F0 m pc ls (st.map (acv w))) := by
  unfold a_loadL at hr
  split at hr
  · rename_i v hv
    exact lv_lload hx hb hd (a_ls_get hl hv (by simp [aU])) (hk _ _ _ _ _ _ _ _ _ hr hs hl)
  · exact hr.elim
theorem sn_lload_n (hx : p.tables.exec = Jvm.exec) (hb : c.code = cc) (hk : a_Wk p l e R s m args below meth c Qf w x0 s0 nL k) (hs : a_st w x0 s0 h s H locs cells slots) (hl : a_ls w nL L ls) {n : Fin 4} (hn : (n : Nat) = ix) (hd : decode cc pc = .ok (.lload_n n, 1)) (hr : a_loadL L st ix (fun st2 => k (pc + 1) L st2 h)) : W p l e R s m args below meth c H locs cells slots Qf (F0 m pc ls (st.map (acv w))) := by
  unfold a_loadL at hr
  split at hr
  · rename_i v hv
    exact lv_lload_n hx hb hd hn (a_ls_get hl hv (by simp [aU])) (hk _ _ _ _ _ _ _ _ _ hr hs hl)
  · exact hr.elim
theorem sn_aload (hx : p.tables.exec = Jvm.exec) (hb : c.code = cc) (hk : a_Wk p l e R s m args below meth c Qf w x0 s0 nL k) (hs : a_st w x0 s0 h s H locs cells slots) (hl : a_ls w nL L ls) (hd : decode cc pc = .ok (.aload ix, 2)) (hr : a_loadA L st ix (fun st2 => k (pc + 2) L st2 h)) : W p l e R s m args below meth c H locs cells slots Qf (F0 m pc ls (st.map (acv w))) := by
  unfold a_loadA at hr
  split at hr
  · rename_i v hv
    have h1 := a_ls_get hl hv (by simp [aU])
    have h2 := hk _ _ _ _ _ _ _ _ _ hr hs hl
    by_cases h0 : v = 0
    · subst h0
      exact lv_aloadN hx hb hd h1 h2
    · rw [acv_ref w h0] at h1
      rw [List.map_cons, acv_ref w h0] at h2
      exact lv_aload hx hb hd h1 h2
  · exact hr.elim
theorem sn_aload_n (hx : p.tables.exec = Jvm.exec) (hb : c.code = cc) (hk : a_Wk p l e R s m args below meth c Qf w x0 s0 nL k) (hs : a_st w x0 s0 h s H locs cells slots) (hl : a_ls w nL L ls) {n : Fin 4} (hn : (n : Nat) = ix) (hd : decode cc pc = .ok (.aload_n n, 1)) (hr : a_loadA L st ix (fun st2 => k (pc + 1) L st2 h)) : W p l e R s m args below meth c H locs cells slots Qf (F0 m pc ls (st.map (acv w))) := by
  unfold a_loadA at hr
  split at hr
  · rename_i v hv
    have h1 := a_ls_get hl hv (by simp [aU])
    have h2 := hk _ _ _ _ _ _ _ _ _ hr hs hl
    by_cases h0 : v = 0
    · subst h0
      exact lv_aload_nN hx hb hd hn h1 h2
    · rw [acv_ref w h0] at h1
      rw [List.map_cons, acv_ref w h0] at h2
      exact lv_aload_n hx hb hd hn h1 h2
  · exact hr.elim
theorem sn_istore (hx : p.tables.exec = Jvm.exec) (hb : c.code = cc) (hk : a_Wk p l e R s m args below meth c Qf w x0 s0 nL k) (hs : a_st w x0 s0 h s H locs cells slots) (hl : a_ls w nL L ls) (hlt : ix < nL) (hd : decode cc pc = .ok (.istore ix, 2)) (hr : a_stoI L st ix (fun L2 st2 => k (pc + 2) L2 st2 h)) : W p l e R s m args below meth c H locs cells slots Qf (F0 m pc ls (st.map (acv w))) := by
  unfold a_stoI at hr
  split at hr
  · split at hr
    · rename_i hv
      exact lv_istore hx hb hd hl.2 hlt rfl (fun ls2 h2 => hk _ _ _ _ _ _ _ _ _ hr hs (a_ls_set1 hl hv h2))
    · exact hr.elim
  · exact hr.elim
theorem sn_istore_n (hx : p.tables.exec = Jvm.exec) (hb : c.code = cc) (hk : a_Wk p l e R s m args below meth c Qf w x0 s0 nL k) (hs : a_st w x0 s0 h s H locs cells slots) (hl : a_ls w nL L ls) {n : Fin 4} (hn : (n : Nat) = ix) (hlt : ix < nL) (hd : decode cc pc = .ok (.istore_n n, 1)) (hr : a_stoI L st ix (fun L2 st2 => k (pc + 1) L2 st2 h)) : W p l e R s m args below meth c H locs cells slots Qf (F0 m pc ls (st.map (acv w))) := by
  unfold a_stoI at hr
  split at hr
  · split at hr
    · rename_i hv
      exact lv_istore_n hx hb hd hn hl.2 hlt rfl (fun ls2 h2 => hk _ _ _ _ _ _ _ _ _ hr hs (a_ls_set1 hl hv h2))
    · exact hr.elim
  · exact hr.elim
theorem sn_lstore (hx : p.tables.exec = Jvm.exec) (hb : c.code = cc) (hk : a_Wk p l e R s m args below meth c Qf w x0 s0 nL k) (hs : a_st w x0 s0 h s H locs cells slots) (hl : a_ls w nL L ls) (hlt : ix + 1 < nL) (hd : decode cc pc = .ok (.lstore ix, 2)) (hr : a_stoL L st ix (fun L2 st2 => k (pc + 2) L2 st2 h)) : W p l e R s m args below meth c H locs cells slots Qf (F0 m pc ls (st.map (acv w))) := by
  unfold a_stoL at hr
  split at hr
  · split at hr
    · rename_i hv
      exact lv_lstore hx hb hd hl.2 hlt rfl (fun ls2 h2 => hk _ _ _ _ _ _ _ _ _ hr hs (a_ls_set2 hl hv h2))
    · exact hr.elim
  · exact hr.elim
theorem sn_lstore_n (hx : p.tables.exec = Jvm.exec) (hb : c.code = cc) (hk : a_Wk p l e R s m args below meth c Qf w x0 s0 nL k) (hs : a_st w x0 s0 h s H locs cells slots) (hl : a_ls w nL L ls) {n : Fin 4} (hn : (n : Nat) = ix) (hlt : ix + 1 < nL) (hd : decode cc pc = .ok (.lstore_n n, 1)) (hr : a_stoL L st ix (fun L2 st2 => k (pc + 1) L2 st2 h)) : W p l e R s m args below meth c H locs cells slots Qf (F0 m pc ls (st.map (acv w))) := by
  unfold a_stoL at hr
  split at hr
  · split at hr
    · rename_i hv
      exact lv_lstore_n hx hb hd hn hl.2 hlt rfl (fun ls2 h2 => hk _ _ _ _ _ _ _ _ _ hr hs (a_ls_set2 hl hv h2))
    · exact hr.elim
  · exact hr.elim
theorem sn_astore (hx : p.tables.exec = Jvm.exec) (hb : c.code = cc) (hk : a_Wk p l e R s m args below meth c Qf w x0 s0 nL k) (hs : a_st w x0 s0 h s H locs cells slots) (hl : a_ls w nL L ls) (hlt : ix < nL) (hd : decode cc pc = .ok (.astore ix, 2)) (hr : a_stoA L st ix (fun L2 st2 => k (pc + 2) L2 st2 h)) : W p l e R s m args below meth c H locs cells slots Qf (F0 m pc ls (st.map (acv w))) := by
  unfold a_stoA at hr
  split at hr
  · rename_i v r
    split at hr
    · rename_i hv
      by_cases h0 : v = 0
      · subst h0
        exact lv_astoreN hx hb hd hl.2 hlt rfl (fun ls2 h2 => hk _ _ _ _ _ _ _ _ _ hr hs (a_ls_set1 hl hv h2))
      · rw [List.map_cons, acv_ref w h0]
        refine lv_astore hx hb hd hl.2 hlt rfl (fun ls2 h2 => hk _ _ _ _ _ _ _ _ _ hr hs (a_ls_set1 hl hv ?_))
        rw [acv_ref w h0]
        exact h2
    · exact hr.elim
  · exact hr.elim
theorem sn_astore_n (hx : p.tables.exec = Jvm.exec) (hb : c.code = cc) (hk : a_Wk p l e R s m args below meth c Qf w x0 s0 nL k) (hs : a_st w x0 s0 h s H locs cells slots) (hl : a_ls w nL L ls) {n : Fin 4} (hn : (n : Nat) = ix) (hlt : ix < nL) (hd : decode cc pc = .ok (.astore_n n, 1)) (hr : a_stoA L st ix (fun L2 st2 => k (pc + 1) L2 st2 h)) : W p l e R s m args below meth c H locs cells slots Qf (F0 m pc ls (st.map (acv w))) := by
  unfold a_stoA at hr
  split at hr
  · rename_i v r
    split at hr
    · rename_i hv
      by_cases h0 : v = 0
      · subst h0
        exact lv_astore_nN hx hb hd hn hl.2 hlt rfl (fun ls2 h2 => hk _ _ _ _ _ _ _ _ _ hr hs (a_ls_set1 hl hv h2))
      · rw [List.map_cons, acv_ref w h0]
        refine lv_astore_n hx hb hd hn hl.2 hlt rfl (fun ls2 h2 => hk _ _ _ _ _ _ _ _ _ hr hs (a_ls_set1 hl hv ?_))
        rw [acv_ref w h0]
        exact h2
    · exact hr.elim
  · exact hr.elim
theorem sn_iinc (hx : p.tables.exec = Jvm.exec) (hb : c.code = cc) (hk : a_Wk p l e R s m args below meth c Qf w x0 s0 nL k) (hs : a_st w x0 s0 h s H locs cells slots) (hl : a_ls w nL L ls) {n : Int} (hv : Int32.ofInt n = ci) (hlt : ix < nL) (hd : decode cc pc = .ok (.iinc ix n, 3)) (hr : match L.getD ix aU with | .int v => (match a_nl L ix with | true => k (pc + 3) (L.set ix (.int (v + ci))) st h | false => False) | _ => False) : W p l e R s m args below meth c H locs cells slots Qf (F0 m pc ls (st.map (acv w))) := by
  split at hr
  · rename_i v hv2
    split at hr
    · rename_i hv3
      have hm : (ix, Value.int v) ∈ a_lv w L := a_lv_mem.mpr ⟨.int v, by
        rw [List.getD_eq_getElem?_getD] at hv2
        cases hi : L[ix]? with
        | none => rw [hi] at hv2; cases hv2
        | some y => rw [hi] at hv2; cases hv2; rfl, by simp [aU], rfl⟩
      obtain ⟨j, hj⟩ := List.getElem?_of_mem hm
      exact lv_iinc hx hb hd hl.2 hj (by rw [hv]) hlt rfl (fun ls2 h2 => hk _ _ _ _ _ _ _ _ _ hr hs (a_ls_set1 hl hv3 h2))
    · exact hr.elim
  · exact hr.elim
theorem sn_dup (hx : p.tables.exec = Jvm.exec) (hb : c.code = cc) (hk : a_Wk p l e R s m args below meth c Qf w x0 s0 nL k) (hs : a_st w x0 s0 h s H locs cells slots) (hl : a_ls w nL L ls) (hd : decode cc pc = .ok (.dup, 1)) (hr : match st with | .int v :: r => k (pc + 1) L (.int v :: .int v :: r) h | .ref v :: r => k (pc + 1) L (.ref v :: .ref v :: r) h | _ => False) : W p l e R s m args below meth c H locs cells slots Qf (F0 m pc ls (st.map (acv w))) := by
  split at hr
  · exact lv_dup hx hb hd rfl (hk _ _ _ _ _ _ _ _ _ hr hs hl)
  · exact lv_dup hx hb hd (by rw [acv_cat]; rfl) (hk _ _ _ _ _ _ _ _ _ hr hs hl)
  · exact hr.elim
theorem sn_dup2 (hx : p.tables.exec = Jvm.exec) (hb : c.code = cc) (hk : a_Wk p l e R s m args below meth c Qf w x0 s0 nL k) (hs : a_st w x0 s0 h s H locs cells slots) (hl : a_ls w nL L ls) (hd : decode cc pc = .ok (.dup2, 1)) (hr : match st with | .int v :: .ref a :: r => k (pc + 1) L (.int v :: .ref a :: .int v :: .ref a :: r) h | _ => False) : W p l e R s m args below meth c H locs cells slots Qf (F0 m pc ls (st.map (acv w))) := by
  split at hr
  · exact lv_dup2_11 hx hb hd rfl (by rw [acv_cat]; rfl) (hk _ _ _ _ _ _ _ _ _ hr hs hl)
  · exact hr.elim
theorem sn_iadd (hx : p.tables.exec = Jvm.exec) (hb : c.code = cc) (hk : a_Wk p l e R s m args below meth c Qf w x0 s0 nL k) (hs : a_st w x0 s0 h s H locs cells slots) (hl : a_ls w nL L ls) (hd : decode cc pc = .ok (.iadd, 1)) (hr : a_bin st (fun a b => a + b) (fun st2 => k (pc + 1) L st2 h)) : W p l e R s m args below meth c H locs cells slots Qf (F0 m pc ls (st.map (acv w))) := by
  unfold a_bin at hr
  split at hr
  · exact lv_iadd hx hb hd (hk _ _ _ _ _ _ _ _ _ hr hs hl)
  · exact hr.elim
theorem sn_isub (hx : p.tables.exec = Jvm.exec) (hb : c.code = cc) (hk : a_Wk p l e R s m args below meth c Qf w x0 s0 nL k) (hs : a_st w x0 s0 h s H locs cells slots) (hl : a_ls w nL L ls) (hd : decode cc pc = .ok (.isub, 1)) (hr : a_bin st (fun a b => a - b) (fun st2 => k (pc + 1) L st2 h)) : W p l e R s m args below meth c H locs cells slots Qf (F0 m pc ls (st.map (acv w))) := by
  unfold a_bin at hr
  split at hr
  · exact lv_isub hx hb hd (hk _ _ _ _ _ _ _ _ _ hr hs hl)
  · exact hr.elim
theorem sn_imul (hx : p.tables.exec = Jvm.exec) (hb : c.code = cc) (hk : a_Wk p l e R s m args below meth c Qf w x0 s0 nL k) (hs : a_st w x0 s0 h s H locs cells slots) (hl : a_ls w nL L ls) (hd : decode cc pc = .ok (.imul, 1)) (hr : a_bin st (fun a b => a * b) (fun st2 => k (pc + 1) L st2 h)) : W p l e R s m args below meth c H locs cells slots Qf (F0 m pc ls (st.map (acv w))) := by
  unfold a_bin at hr
  split at hr
  · exact lv_imul hx hb hd (hk _ _ _ _ _ _ _ _ _ hr hs hl)
  · exact hr.elim
theorem sn_iand (hx : p.tables.exec = Jvm.exec) (hb : c.code = cc) (hk : a_Wk p l e R s m args below meth c Qf w x0 s0 nL k) (hs : a_st w x0 s0 h s H locs cells slots) (hl : a_ls w nL L ls) (hd : decode cc pc = .ok (.iand, 1)) (hr : a_bin st (fun a b => a &&& b) (fun st2 => k (pc + 1) L st2 h)) : W p l e R s m args below meth c H locs cells slots Qf (F0 m pc ls (st.map (acv w))) := by
  unfold a_bin at hr
  split at hr
  · exact lv_iand hx hb hd (hk _ _ _ _ _ _ _ _ _ hr hs hl)
  · exact hr.elim
theorem sn_ior (hx : p.tables.exec = Jvm.exec) (hb : c.code = cc) (hk : a_Wk p l e R s m args below meth c Qf w x0 s0 nL k) (hs : a_st w x0 s0 h s H locs cells slots) (hl : a_ls w nL L ls) (hd : decode cc pc = .ok (.ior, 1)) (hr : a_bin st (fun a b => a ||| b) (fun st2 => k (pc + 1) L st2 h)) : W p l e R s m args below meth c H locs cells slots Qf (F0 m pc ls (st.map (acv w))) := by
  unfold a_bin at hr
  split at hr
  · exact lv_ior hx hb hd (hk _ _ _ _ _ _ _ _ _ hr hs hl)
  · exact hr.elim
theorem sn_ixor (hx : p.tables.exec = Jvm.exec) (hb : c.code = cc) (hk : a_Wk p l e R s m args below meth c Qf w x0 s0 nL k) (hs : a_st w x0 s0 h s H locs cells slots) (hl : a_ls w nL L ls) (hd : decode cc pc = .ok (.ixor, 1)) (hr : a_bin st (fun a b => a ^^^ b) (fun st2 => k (pc + 1) L st2 h)) : W p l e R s m args below meth c H locs cells slots Qf (F0 m pc ls (st.map (acv w))) := by
  unfold a_bin at hr
  split at hr
  · exact lv_ixor hx hb hd (hk _ _ _ _ _ _ _ _ _ hr hs hl)
  · exact hr.elim
theorem sn_ishl (hx : p.tables.exec = Jvm.exec) (hb : c.code = cc) (hk : a_Wk p l e R s m args below meth c Qf w x0 s0 nL k) (hs : a_st w x0 s0 h s H locs cells slots) (hl : a_ls w nL L ls) (hd : decode cc pc = .ok (.ishl, 1)) (hr : a_bin st (fun a b => a <<< (b &&& 31)) (fun st2 => k (pc + 1) L st2 h)) : W p l e R s m args below meth c H locs cells slots Qf (F0 m pc ls (st.map (acv w))) := by
  unfold a_bin at hr
  split at hr
  · exact lv_ishl hx hb hd (hk _ _ _ _ _ _ _ _ _ hr hs hl)
  · exact hr.elim
theorem sn_ishr (hx : p.tables.exec = Jvm.exec) (hb : c.code = cc) (hk : a_Wk p l e R s m args below meth c Qf w x0 s0 nL k) (hs : a_st w x0 s0 h s H locs cells slots) (hl : a_ls w nL L ls) (hd : decode cc pc = .ok (.ishr, 1)) (hr : a_bin st (fun a b => a >>> (b &&& 31)) (fun st2 => k (pc + 1) L st2 h)) : W p l e R s m args below meth c H locs cells slots Qf (F0 m pc ls (st.map (acv w))) := by
  unfold a_bin at hr
  split at hr
  · exact lv_ishr hx hb hd (hk _ _ _ _ _ _ _ _ _ hr hs hl)
  · exact hr.elim
theorem sn_iushr (hx : p.tables.exec = Jvm.exec) (hb : c.code = cc) (hk : a_Wk p l e R s m args below meth c Qf w x0 s0 nL k) (hs : a_st w x0 s0 h s H locs cells slots) (hl : a_ls w nL L ls) (hd : decode cc pc = .ok (.iushr, 1)) (hr : a_bin st (fun a b => (a.toUInt32 >>> (b.toUInt32 &&& Int32.toUInt32 31)).toInt32) (fun st2 => k (pc + 1) L st2 h)) : W p l e R s m args below meth c H locs cells slots Qf (F0 m pc ls (st.map (acv w))) := by
  unfold a_bin at hr
  split at hr
  · exact lv_iushr hx hb hd rfl (hk _ _ _ _ _ _ _ _ _ hr hs hl)
  · exact hr.elim
theorem sn_ladd (hx : p.tables.exec = Jvm.exec) (hb : c.code = cc) (hk : a_Wk p l e R s m args below meth c Qf w x0 s0 nL k) (hs : a_st w x0 s0 h s H locs cells slots) (hl : a_ls w nL L ls) (hd : decode cc pc = .ok (.ladd, 1)) (hr : a_binL st (fun a b => a + b) (fun st2 => k (pc + 1) L st2 h)) : W p l e R s m args below meth c H locs cells slots Qf (F0 m pc ls (st.map (acv w))) := by
  unfold a_binL at hr
  split at hr
  · exact lv_ladd hx hb hd (hk _ _ _ _ _ _ _ _ _ hr hs hl)
  · exact hr.elim
theorem sn_lsub (hx : p.tables.exec = Jvm.exec) (hb : c.code = cc) (hk : a_Wk p l e R s m args below meth c Qf w x0 s0 nL k) (hs : a_st w x0 s0 h s H locs cells slots) (hl : a_ls w nL L ls) (hd : decode cc pc = .ok (.lsub, 1)) (hr : a_binL st (fun a b => a - b) (fun st2 => k (pc + 1) L st2 h)) : W p l e R s m args below meth c H locs cells slots Qf (F0 m pc ls (st.map (acv w))) := by
  unfold a_binL at hr
  split at hr
  · exact lv_lsub hx hb hd (hk _ _ _ _ _ _ _ _ _ hr hs hl)
  · exact hr.elim
theorem sn_lmul (hx : p.tables.exec = Jvm.exec) (hb : c.code = cc) (hk : a_Wk p l e R s m args below meth c Qf w x0 s0 nL k) (hs : a_st w x0 s0 h s H locs cells slots) (hl : a_ls w nL L ls) (hd : decode cc pc = .ok (.lmul, 1)) (hr : a_binL st (fun a b => a * b) (fun st2 => k (pc + 1) L st2 h)) : W p l e R s m args below meth c H locs cells slots Qf (F0 m pc ls (st.map (acv w))) := by
  unfold a_binL at hr
  split at hr
  · exact lv_lmul hx hb hd (hk _ _ _ _ _ _ _ _ _ hr hs hl)
  · exact hr.elim
theorem sn_land (hx : p.tables.exec = Jvm.exec) (hb : c.code = cc) (hk : a_Wk p l e R s m args below meth c Qf w x0 s0 nL k) (hs : a_st w x0 s0 h s H locs cells slots) (hl : a_ls w nL L ls) (hd : decode cc pc = .ok (.land, 1)) (hr : a_binL st (fun a b => a &&& b) (fun st2 => k (pc + 1) L st2 h)) : W p l e R s m args below meth c H locs cells slots Qf (F0 m pc ls (st.map (acv w))) := by
  unfold a_binL at hr
  split at hr
  · exact lv_land hx hb hd (hk _ _ _ _ _ _ _ _ _ hr hs hl)
  · exact hr.elim
theorem sn_lor (hx : p.tables.exec = Jvm.exec) (hb : c.code = cc) (hk : a_Wk p l e R s m args below meth c Qf w x0 s0 nL k) (hs : a_st w x0 s0 h s H locs cells slots) (hl : a_ls w nL L ls) (hd : decode cc pc = .ok (.lor, 1)) (hr : a_binL st (fun a b => a ||| b) (fun st2 => k (pc + 1) L st2 h)) : W p l e R s m args below meth c H locs cells slots Qf (F0 m pc ls (st.map (acv w))) := by
  unfold a_binL at hr
  split at hr
  · exact lv_lor hx hb hd (hk _ _ _ _ _ _ _ _ _ hr hs hl)
  · exact hr.elim
theorem sn_lxor (hx : p.tables.exec = Jvm.exec) (hb : c.code = cc) (hk : a_Wk p l e R s m args below meth c Qf w x0 s0 nL k) (hs : a_st w x0 s0 h s H locs cells slots) (hl : a_ls w nL L ls) (hd : decode cc pc = .ok (.lxor, 1)) (hr : a_binL st (fun a b => a ^^^ b) (fun st2 => k (pc + 1) L st2 h)) : W p l e R s m args below meth c H locs cells slots Qf (F0 m pc ls (st.map (acv w))) := by
  unfold a_binL at hr
  split at hr
  · exact lv_lxor hx hb hd (hk _ _ _ _ _ _ _ _ _ hr hs hl)
  · exact hr.elim
theorem sn_lshl (hx : p.tables.exec = Jvm.exec) (hb : c.code = cc) (hk : a_Wk p l e R s m args below meth c Qf w x0 s0 nL k) (hs : a_st w x0 s0 h s H locs cells slots) (hl : a_ls w nL L ls) (hd : decode cc pc = .ok (.lshl, 1)) (hr : a_binS st (fun a b => a <<< (b.toInt64 &&& 63)) (fun st2 => k (pc + 1) L st2 h)) : W p l e R s m args below meth c H locs cells slots Qf (F0 m pc ls (st.map (acv w))) := by
  unfold a_binS at hr
  split at hr
  · exact lv_lshl hx hb hd rfl (hk _ _ _ _ _ _ _ _ _ hr hs hl)
  · exact hr.elim
theorem sn_lshr (hx : p.tables.exec = Jvm.exec) (hb : c.code = cc) (hk : a_Wk p l e R s m args below meth c Qf w x0 s0 nL k) (hs : a_st w x0 s0 h s H locs cells slots) (hl : a_ls w nL L ls) (hd : decode cc pc = .ok (.lshr, 1)) (hr : a_binS st (fun a b => a >>> (b.toInt64 &&& 63)) (fun st2 => k (pc + 1) L st2 h)) : W p l e R s m args below meth c H locs cells slots Qf (F0 m pc ls (st.map (acv w))) := by
  unfold a_binS at hr
  split at hr
  · exact lv_lshr hx hb hd rfl (hk _ _ _ _ _ _ _ _ _ hr hs hl)
  · exact hr.elim
theorem sn_lushr (hx : p.tables.exec = Jvm.exec) (hb : c.code = cc) (hk : a_Wk p l e R s m args below meth c Qf w x0 s0 nL k) (hs : a_st w x0 s0 h s H locs cells slots) (hl : a_ls w nL L ls) (hd : decode cc pc = .ok (.lushr, 1)) (hr : a_binS st (fun a b => (a.toUInt64 >>> (b.toInt64.toUInt64 &&& Int64.toUInt64 63)).toInt64) (fun st2 => k (pc + 1) L st2 h)) : W p l e R s m args below meth c H locs cells slots Qf (F0 m pc ls (st.map (acv w))) := by
  unfold a_binS at hr
  split at hr
  · exact lv_lushr hx hb hd rfl (hk _ _ _ _ _ _ _ _ _ hr hs hl)
  · exact hr.elim
theorem sn_idiv (hx : p.tables.exec = Jvm.exec) (hb : c.code = cc) (hk : a_Wk p l e R s m args below meth c Qf w x0 s0 nL k) (hs : a_st w x0 s0 h s H locs cells slots) (hl : a_ls w nL L ls) (hd : decode cc pc = .ok (.idiv, 1)) (hr : match st with | .int b :: .int a :: r => (¬ b = 0) ∧ k (pc + 1) L (.int (a / b) :: r) h | _ => False) : W p l e R s m args below meth c H locs cells slots Qf (F0 m pc ls (st.map (acv w))) := by
  split at hr
  · obtain ⟨h0, hr⟩ := hr
    exact lv_idiv hx hb hd h0 (hk _ _ _ _ _ _ _ _ _ hr hs hl)
  · exact hr.elim
theorem sn_irem (hx : p.tables.exec = Jvm.exec) (hb : c.code = cc) (hk : a_Wk p l e R s m args below meth c Qf w x0 s0 nL k) (hs : a_st w x0 s0 h s H locs cells slots) (hl : a_ls w nL L ls) (hd : decode cc pc = .ok (.irem, 1)) (hr : match st with | .int b :: .int a :: r => (¬ b = 0) ∧ k (pc + 1) L (.int (a - a / b * b) :: r) h | _ => False) : W p l e R s m args below meth c H locs cells slots Qf (F0 m pc ls (st.map (acv w))) := by
  split at hr
  · obtain ⟨h0, hr⟩ := hr
    exact lv_irem hx hb hd h0 (hk _ _ _ _ _ _ _ _ _ hr hs hl)
  · exact hr.elim
theorem sn_ldiv (hx : p.tables.exec = Jvm.exec) (hb : c.code = cc) (hk : a_Wk p l e R s m args below meth c Qf w x0 s0 nL k) (hs : a_st w x0 s0 h s H locs cells slots) (hl : a_ls w nL L ls) (hd : decode cc pc = .ok (.ldiv, 1)) (hr : match st with | .long b :: .long a :: r => (¬ b = 0) ∧ k (pc + 1) L (.long (a / b) :: r) h | _ => False) : W p l e R s m args below meth c H locs cells slots Qf (F0 m pc ls (st.map (acv w))) := by
  split at hr
  · obtain ⟨h0, hr⟩ := hr
    exact lv_ldiv hx hb hd h0 (hk _ _ _ _ _ _ _ _ _ hr hs hl)
  · exact hr.elim
theorem sn_lrem (hx : p.tables.exec = Jvm.exec) (hb : c.code = cc) (hk : a_Wk p l e R s m args below meth c Qf w x0 s0 nL k) (hs : a_st w x0 s0 h s H locs cells slots) (hl : a_ls w nL L ls) (hd : decode cc pc = .ok (.lrem, 1)) (hr : match st with | .long b :: .long a :: r => (¬ b = 0) ∧ k (pc + 1) L (.long (a - a / b * b) :: r) h | _ => False) : W p l e R s m args below meth c H locs cells slots Qf (F0 m pc ls (st.map (acv w))) := by
  split at hr
  · obtain ⟨h0, hr⟩ := hr
    exact lv_lrem hx hb hd h0 (hk _ _ _ _ _ _ _ _ _ hr hs hl)
  · exact hr.elim
theorem sn_ineg (hx : p.tables.exec = Jvm.exec) (hb : c.code = cc) (hk : a_Wk p l e R s m args below meth c Qf w x0 s0 nL k) (hs : a_st w x0 s0 h s H locs cells slots) (hl : a_ls w nL L ls) (hd : decode cc pc = .ok (.ineg, 1)) (hr : match st with | .int a :: r => k (pc + 1) L (.int (-a) :: r) h | _ => False) : W p l e R s m args below meth c H locs cells slots Qf (F0 m pc ls (st.map (acv w))) := by
  split at hr
  · exact lv_ineg hx hb hd (hk _ _ _ _ _ _ _ _ _ hr hs hl)
  · exact hr.elim
theorem sn_lcmp (hx : p.tables.exec = Jvm.exec) (hb : c.code = cc) (hk : a_Wk p l e R s m args below meth c Qf w x0 s0 nL k) (hs : a_st w x0 s0 h s H locs cells slots) (hl : a_ls w nL L ls) (hd : decode cc pc = .ok (.lcmp, 1)) (hr : match st with | .long b :: .long a :: r => k (pc + 1) L (.int (lg_cmp a b) :: r) h | _ => False) : W p l e R s m args below meth c H locs cells slots Qf (F0 m pc ls (st.map (acv w))) := by
  split at hr
  · exact W.lcmp hx hb hd (hk _ _ _ _ _ _ _ _ _ hr hs hl)
  · exact hr.elim
theorem sn_i2l (hx : p.tables.exec = Jvm.exec) (hb : c.code = cc) (hk : a_Wk p l e R s m args below meth c Qf w x0 s0 nL k) (hs : a_st w x0 s0 h s H locs cells slots) (hl : a_ls w nL L ls) (hd : decode cc pc = .ok (.i2l, 1)) (hr : match st with | .int a :: r => k (pc + 1) L (.long a.toInt64 :: r) h | _ => False) : W p l e R s m args below meth c H locs cells slots Qf (F0 m pc ls (st.map (acv w))) := by
  split at hr
  · exact lv_i2l hx hb hd rfl (hk _ _ _ _ _ _ _ _ _ hr hs hl)
  · exact hr.elim
theorem sn_l2i (hx : p.tables.exec = Jvm.exec) (hb : c.code = cc) (hk : a_Wk p l e R s m args below meth c Qf w x0 s0 nL k) (hs : a_st w x0 s0 h s H locs cells slots) (hl : a_ls w nL L ls) (hd : decode cc pc = .ok (.l2i, 1)) (hr : match st with | .long a :: r => k (pc + 1) L (.int a.toInt32 :: r) h | _ => False) : W p l e R s m args below meth c H locs cells slots Qf (F0 m pc ls (st.map (acv w))) := by
  split at hr
  · exact lv_l2i hx hb hd rfl (hk _ _ _ _ _ _ _ _ _ hr hs hl)
  · exact hr.elim
theorem sn_goto (hx : p.tables.exec = Jvm.exec) (hb : c.code = cc) (hk : a_Wk p l e R s m args below meth c Qf w x0 s0 nL k) (hs : a_st w x0 s0 h s H locs cells slots) (hl : a_ls w nL L ls) {off : Int} (hd : decode cc pc = .ok (.goto off, 3)) (ht : (pc : Int) + off = (tg : Int)) (hr : k tg L st h) : W p l e R s m args below meth c H locs cells slots Qf (F0 m pc ls (st.map (acv w))) := by
  exact lv_goto hx hb hd ht (hk _ _ _ _ _ _ _ _ _ hr hs hl)
theorem sn_ifCond (hx : p.tables.exec = Jvm.exec) (hb : c.code = cc) (hk : a_Wk p l e R s m args below meth c Qf w x0 s0 nL k) (hs : a_st w x0 s0 h s H locs cells slots) (hl : a_ls w nL L ls) {cn : ClassFile.Cond} {off : Int} (hd : decode cc pc = .ok (.ifCond cn off, 3)) (ht : (pc : Int) + off = (tg : Int)) (hr : match st with | .int a :: r => a_if cn a 0 (k tg L r h) (k (pc + 3) L r h) | _ => False) : W p l e R s m args below meth c H locs cells slots Qf (F0 m pc ls (st.map (acv w))) := by
  cases cn
  all_goals (split at hr)
  all_goals (try exact hr.elim)
  · simp only [a_if] at hr
    exact lv_if_eq hx hb hd ht (fun q => by rw [if_pos q] at hr; exact hk _ _ _ _ _ _ _ _ _ hr hs hl) (fun q => by rw [if_neg q] at hr; exact hk _ _ _ _ _ _ _ _ _ hr hs hl)
  · simp only [a_if] at hr
    exact lv_if_ne hx hb hd ht (fun q => by rw [if_neg q] at hr; exact hk _ _ _ _ _ _ _ _ _ hr hs hl) (fun q => by rw [if_pos q] at hr; exact hk _ _ _ _ _ _ _ _ _ hr hs hl)
  · simp only [a_if] at hr
    exact lv_if_lt hx hb hd ht (fun q => by rw [if_pos q] at hr; exact hk _ _ _ _ _ _ _ _ _ hr hs hl) (fun q => by rw [if_neg q] at hr; exact hk _ _ _ _ _ _ _ _ _ hr hs hl)
  · simp only [a_if] at hr
    exact lv_if_ge hx hb hd ht (fun q => by rw [if_neg (Int32.not_lt.mpr q)] at hr; exact hk _ _ _ _ _ _ _ _ _ hr hs hl) (fun q => by rw [if_pos (Int32.not_le.mp q)] at hr; exact hk _ _ _ _ _ _ _ _ _ hr hs hl)
  · simp only [a_if] at hr
    exact lv_if_gt hx hb hd ht (fun q => by rw [if_pos q] at hr; exact hk _ _ _ _ _ _ _ _ _ hr hs hl) (fun q => by rw [if_neg q] at hr; exact hk _ _ _ _ _ _ _ _ _ hr hs hl)
  · simp only [a_if] at hr
    exact lv_if_le hx hb hd ht (fun q => by rw [if_neg (Int32.not_lt.mpr q)] at hr; exact hk _ _ _ _ _ _ _ _ _ hr hs hl) (fun q => by rw [if_pos (Int32.not_le.mp q)] at hr; exact hk _ _ _ _ _ _ _ _ _ hr hs hl)
theorem sn_if_icmp (hx : p.tables.exec = Jvm.exec) (hb : c.code = cc) (hk : a_Wk p l e R s m args below meth c Qf w x0 s0 nL k) (hs : a_st w x0 s0 h s H locs cells slots) (hl : a_ls w nL L ls) {cn : ClassFile.Cond} {off : Int} (hd : decode cc pc = .ok (.if_icmp cn off, 3)) (ht : (pc : Int) + off = (tg : Int)) (hr : match st with | .int b :: .int a :: r => a_if cn a b (k tg L r h) (k (pc + 3) L r h) | _ => False) : W p l e R s m args below meth c H locs cells slots Qf (F0 m pc ls (st.map (acv w))) := by
  cases cn
  all_goals (split at hr)
  all_goals (try exact hr.elim)
  · simp only [a_if] at hr
    exact lv_icmp_eq hx hb hd ht (fun q => by rw [if_pos q] at hr; exact hk _ _ _ _ _ _ _ _ _ hr hs hl) (fun q => by rw [if_neg q] at hr; exact hk _ _ _ _ _ _ _ _ _ hr hs hl)
  · simp only [a_if] at hr
    exact lv_icmp_ne hx hb hd ht (fun q => by rw [if_neg q] at hr; exact hk _ _ _ _ _ _ _ _ _ hr hs hl) (fun q => by rw [if_pos q] at hr; exact hk _ _ _ _ _ _ _ _ _ hr hs hl)
  · simp only [a_if] at hr
    exact lv_icmp_lt hx hb hd ht (fun q => by rw [if_pos q] at hr; exact hk _ _ _ _ _ _ _ _ _ hr hs hl) (fun q => by rw [if_neg q] at hr; exact hk _ _ _ _ _ _ _ _ _ hr hs hl)
  · simp only [a_if] at hr
    exact lv_icmp_ge hx hb hd ht (fun q => by rw [if_neg (Int32.not_lt.mpr q)] at hr; exact hk _ _ _ _ _ _ _ _ _ hr hs hl) (fun q => by rw [if_pos (Int32.not_le.mp q)] at hr; exact hk _ _ _ _ _ _ _ _ _ hr hs hl)
  · simp only [a_if] at hr
    exact lv_icmp_gt hx hb hd ht (fun q => by rw [if_pos q] at hr; exact hk _ _ _ _ _ _ _ _ _ hr hs hl) (fun q => by rw [if_neg q] at hr; exact hk _ _ _ _ _ _ _ _ _ hr hs hl)
  · simp only [a_if] at hr
    exact lv_icmp_le hx hb hd ht (fun q => by rw [if_neg (Int32.not_lt.mpr q)] at hr; exact hk _ _ _ _ _ _ _ _ _ hr hs hl) (fun q => by rw [if_pos (Int32.not_le.mp q)] at hr; exact hk _ _ _ _ _ _ _ _ _ hr hs hl)
theorem sn_ifnull (hx : p.tables.exec = Jvm.exec) (hb : c.code = cc) (hk : a_Wk p l e R s m args below meth c Qf w x0 s0 nL k) (hs : a_st w x0 s0 h s H locs cells slots) (hl : a_ls w nL L ls) {off : Int} (hd : decode cc pc = .ok (.ifnull off, 3)) (ht : (pc : Int) + off = (tg : Int)) (hr : match st with | .ref a :: r => if a = 0 then k tg L r h else k (pc + 3) L r h | _ => False) : W p l e R s m args below meth c H locs cells slots Qf (F0 m pc ls (st.map (acv w))) := by
  split at hr
  · rename_i a r
    by_cases h0 : a = 0
    · subst h0
      rw [if_pos rfl] at hr
      exact lv_ifnullN hx hb hd ht (hk _ _ _ _ _ _ _ _ _ hr hs hl)
    · rw [if_neg h0] at hr
      rw [List.map_cons, acv_ref w h0]
      exact lv_ifnull hx hb hd (hk _ _ _ _ _ _ _ _ _ hr hs hl)
  · exact hr.elim
theorem sn_ifnonnull (hx : p.tables.exec = Jvm.exec) (hb : c.code = cc) (hk : a_Wk p l e R s m args below meth c Qf w x0 s0 nL k) (hs : a_st w x0 s0 h s H locs cells slots) (hl : a_ls w nL L ls) {off : Int} (hd : decode cc pc = .ok (.ifnonnull off, 3)) (ht : (pc : Int) + off = (tg : Int)) (hr : match st with | .ref a :: r => if a = 0 then k (pc + 3) L r h else k tg L r h | _ => False) : W p l e R s m args below meth c H locs cells slots Qf (F0 m pc ls (st.map (acv w))) := by
  split at hr
  · rename_i a r
    by_cases h0 : a = 0
    · subst h0
      rw [if_pos rfl] at hr
      exact lv_ifnonnullN hx hb hd (hk _ _ _ _ _ _ _ _ _ hr hs hl)
    · rw [if_neg h0] at hr
      rw [List.map_cons, acv_ref w h0]
      exact lv_ifnonnull hx hb hd ht (hk _ _ _ _ _ _ _ _ _ hr hs hl)
  · exact hr.elim
end SNP
