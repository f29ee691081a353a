/-! ===== arrays of arrays, statics, switches, what the JDK does by itself ===== -/
section SNM
variable {p : Program} {l : Launch} {e : Env} {R : Room} {s : State} {m : MethodId} {args : Array Value} {below : List Frame} {meth : Method} {c : Code} {cc : ByteArray} {Qf : State → Prop} {w : aO} {x0 s0 nL : Nat}
variable {k : aK} {pc tg ix : Nat} {L st : List Value} {h : aH} {H : Heap} {locs : List Loc} {cells slots : Nat} {ls : Array Slot} {ci : Int32} {cl : Int64}
theorem sn_multianewarray (hx : p.tables.exec = Jvm.exec) (hb : c.code = cc) (hk : a_Wk p l e R s m args below meth c Qf w x0 s0 nL k) (hrm : a_rm R x0 s0 k) (hs : a_st w x0 s0 h s H locs cells slots) (hl : a_ls w nL L ls) {own : String} (ho : s.vm.findClass own = some m.cls) (hK : va_K w.1 vwCl (a_tys w) s)
    {p' q' : Nat} {ty : FieldType} (hp : (p' = 17 ∧ q' = 12 ∧ ty = .int) ∨ (p' = 18 ∧ q' = 13 ∧ ty = .long)) (hcl : (Jvm.Cond.classLink own ix ("[" ++ (FieldType.array ty).toString)).before args s = true) (hov : (Jvm.Cond.arrayOver (.array ty)).before args s = true) (harr : (Jvm.Cond.arrayClass ty).before args s = true) (hd : decode cc pc = .ok (.multianewarray ix 2, 4))
    (hr : match st with | .int mm :: .int n :: r => (¬ n < 0 ∧ ¬ mm < 0) ∧ (n.toNatClampNeg ≤ 1000000 ∧ mm.toNatClampNeg ≤ 1000000) ∧ k (pc + 4) L (.ref (gx h.1) :: r) (a_mul h p' q' n.toNatClampNeg mm.toNatClampNeg) | _ => False) : W p l e R s m args below meth c H locs cells slots Qf (F0 m pc ls (st.map (acv w))) := by
  split at hr
  · rename_i mm n r
    obtain ⟨⟨hn, hmm⟩, ⟨hn1, hm1⟩, hr⟩ := hr
    generalize hNe : n.toNatClampNeg = N at hr hn1
    generalize hMe : mm.toNatClampNeg = M at hr hm1
    have hroom := hrm _ _ _ _ hr
    have e1 : gx (a_mul h p' q' N M).1 = gx h.1 + 1 + N := rfl
    have e2 : gs (a_mul h p' q' N M).1 = gs h.1 + N + N * M := rfl
    obtain ⟨rel, hlocs, e3, e4⟩ := hs
    have r1 := rel.1
    have r2 := rel.2.1
    have hcb : componentBytes ty ≤ 8 := by rcases hp with ⟨-, -, rfl⟩ | ⟨-, -, rfl⟩ <;> decide
    have hbb : mm.toNatClampNeg * componentBytes ty ≤ 536870912 := by
      rw [hMe]
      exact Nat.le_trans (Nat.mul_le_mul hm1 hcb) (by decide)
    intro T hT Xs
    obtain ⟨vm₁, cA, comp, -, fA, fC, hO, -, X', step⟩ := Xs.multianewarray2F hx ho hcl hov harr (g := F0 m pc ls ((.int mm :: .int n :: r : List Value).map (acv w))) rfl (by rw [hb]; exact hd) (n := n) (k := mm) (rest := r.map (acv w)) rfl hn hmm (by rw [hNe]; omega) hbb (by rw [hMe]; omega) (by rcases hp with ⟨-, -, rfl⟩ | ⟨-, -, rfl⟩ <;> rfl) (by rcases hp with ⟨-, -, rfl⟩ | ⟨-, -, rfl⟩ <;> rfl) (by rw [hNe]; omega) (by rw [hNe, hMe]; omega)
    rw [hNe, hMe] at X' step
    have hcA : cA = w.2.1 p' := by
      rcases hp with ⟨rfl, rfl, rfl⟩ | ⟨rfl, rfl, rfl⟩
      · exact Option.some.inj (fA.symm.trans (hK.2 5 _ rfl).2)
      · exact Option.some.inj (fA.symm.trans (hK.2 6 _ rfl).2)
    have hcB : comp = w.2.1 q' := by
      rcases hp with ⟨rfl, rfl, rfl⟩ | ⟨rfl, rfl, rfl⟩
      · exact Option.some.inj (fC.symm.trans (hK.2 0 _ rfl).2)
      · exact Option.some.inj (fC.symm.trans (hK.2 1 _ rfl).2)
    subst hcA
    subst hcB
    generalize hF : Jvm.Free.Multi.fill (T.setVm vm₁) (w.2.1 p') (w.2.1 q') N M (defaultValue ty) N = F at X' step
    have hTh : (T.setVm vm₁).heap = H := hT
    obtain ⟨f1, f2, -, -⟩ := Jvm.Free.Multi.fill_facts (T.setVm vm₁) (w.2.1 p') (w.2.1 q') N M (defaultValue ty) N
    rw [hF, hTh] at f1 f2
    have hold : ∀ x : Nat, x < H.size → F.heap[x]? = H[x]? := fun x hx => by
      have := Jvm.Free.Multi.fill_old (T.setVm vm₁) (w.2.1 p') (w.2.1 q') N M (defaultValue ty) (a := x) (by rw [hTh]; exact hx) N
      rw [hF, hTh] at this
      exact this
    have hrow : ∀ j : Nat, j < N → F.heap[H.size + 1 + j]? = some (Jvm.Free.Multi.innerC (w.2.1 q') M (defaultValue ty)) := fun j hj => by
      have := Jvm.Free.Multi.fill_inner (T.setVm vm₁) (w.2.1 p') (w.2.1 q') N M (defaultValue ty) N j hj
      rw [hF, hTh] at this
      exact this
    rw [vr_outer] at f2
    have h17 : 17 ≤ p' ∧ p' ≤ 18 := by omega
    have hst : a_st w x0 s0 (a_mul h p' q' N M) s F.heap locs (cells + 1 + N) (slots + N + N * M) := by
      refine ⟨a_rel_push (n := 1 + N) rel (by rw [e1]; omega) (fun b hb => ?_) (fun b hb => ?_) (fun b hb => ?_) (fun b hb => ?_) (fun b hb => ?_) (fun b g1 g2 => ?_) (by rw [f1]; omega) hold, hlocs, by omega, by omega⟩
      · show (if b = gx h.1 then _ else if _ then _ else gK h.1 b) = _
        rw [if_neg (by omega), if_neg (by omega)]
      · show (if b = gx h.1 then _ else if _ then _ else gN h.1 b) = _
        rw [if_neg (by omega), if_neg (by omega)]
      · funext j
        show (if b = gx h.1 then _ else if _ then _ else gR h.1 b j) = _
        rw [if_neg (by omega), if_neg (by omega)]
      · funext j
        show (if _ then _ else h.2.1 b j) = _
        rw [if_neg (by omega)]
      · funext j
        show (if _ then _ else h.2.2 b j) = _
        rw [if_neg (by omega)]
      · by_cases e : b = gx h.1
        · subst e
          have hKx : gK (a_mul h p' q' N M).1 (gx h.1) = p' := if_pos rfl
          have hNx : gN (a_mul h p' q' N M).1 (gx h.1) = N := if_pos rfl
          refine ⟨by rw [hKx]; omega, ?_⟩
          rw [a_cell_q hKx (by omega), hNx, ← r2]
          show F.heap[H.size]? = some (vp_cell _ _)
          rw [f2, vp_cell_q]
          congr 2
          funext j
          have hRx : gR (a_mul h p' q' N M).1 (gx h.1) j = if j < N then gx h.1 + 1 + j else 0 := if_pos rfl
          rw [hRx]
          by_cases hj : j < N
          · rw [if_pos hj, if_pos hj]
            unfold arf
            rw [if_neg (by omega), aad, if_neg (by omega)]
            congr 2
            omega
          · rw [if_neg hj, if_neg hj]
            rfl
        · have hc1 : gx h.1 < b ∧ b ≤ gx h.1 + N := by omega
          have hKx : gK (a_mul h p' q' N M).1 b = q' := by
            show (if b = gx h.1 then _ else if _ then _ else _) = _
            rw [if_neg e, if_pos hc1]
          have hNx : gN (a_mul h p' q' N M).1 b = M := by
            show (if b = gx h.1 then _ else if _ then _ else _) = _
            rw [if_neg e, if_pos hc1]
          refine ⟨by rw [hKx]; omega, ?_⟩
          have hr9 := hrow (b - gx h.1 - 1) (by omega)
          rw [show H.size + 1 + (b - gx h.1 - 1) = w.2.2.2.1 + (b - 6) by omega] at hr9
          have hz1 : ∀ j, (a_mul h p' q' N M).2.1 b j = 0 := fun j => if_pos ⟨by omega, hc1.2⟩
          have hz2 : ∀ j, (a_mul h p' q' N M).2.2 b j = 0 := fun j => if_pos ⟨by omega, hc1.2⟩
          rcases hp with ⟨rfl, rfl, rfl⟩ | ⟨rfl, rfl, rfl⟩
          · rw [a_cell_i hKx, hNx]
            show F.heap[_]? = some (vp_cell _ _)
            rw [hr9, vp_cell_i]
            have : (fun j => Value.int ((a_mul h 17 12 N M).2.1 b j)) = fun _ => defaultValue .int := by
              funext j
              rw [hz1]
              rfl
            rw [this, ← arrV_new]
            rfl
          · rw [a_cell_l hKx, hNx]
            show F.heap[_]? = some (vp_cell _ _)
            rw [hr9, vp_cell_l]
            have : (fun j => Value.long ((a_mul h 18 13 N M).2.2 b j)) = fun _ => defaultValue .long := by
              funext j
              rw [hz2]
              rfl
            rw [this, ← arrV_new]
            rfl
    obtain ⟨t, a1, b1⟩ := hk _ _ _ _ _ _ _ _ _ hr hst hl F rfl X'
    refine ⟨t, step t ?_, b1⟩
    rw [List.map_cons, acv_ref w (Nat.ne_of_gt (Nat.lt_of_lt_of_le (by decide) r1)), aad, if_neg (by omega), ← r2] at a1
    have e9 : T.heap.size = H.size := by rw [hT]
    rw [e9]
    exact a1
  · exact hr.elim
theorem a_swAt {v : Int32} {d : Nat} {kk : Nat → Prop} : ∀ {sw : List (Int32 × Nat)}, a_sw v d kk sw → (∃ e ∈ sw, e.1 = v ∧ kk e.2) ∨ ((∀ e ∈ sw, e.1 ≠ v) ∧ kk d)
  | [], h => Or.inr ⟨fun _ h => absurd h List.not_mem_nil, h⟩
  | (c, t) :: r, h => by
    unfold a_sw at h
    split at h
    · rename_i e
      exact Or.inl ⟨(c, t), List.mem_cons_self, e.symm, h⟩
    · rename_i e
      rcases a_swAt h with ⟨x, h1, h2, h3⟩ | ⟨h1, h2⟩
      · exact Or.inl ⟨x, List.mem_cons_of_mem _ h1, h2, h3⟩
      · exact Or.inr ⟨fun x hx => by
          rcases List.mem_cons.mp hx with rfl | hx
          · exact fun q => e q.symm
          · exact h1 x hx, h2⟩
theorem sn_tableswitch (hx : p.tables.exec = Jvm.exec) (hb : c.code = cc) (hk : a_Wk p l e R s m args below meth c Qf w x0 s0 nL k) (hs : a_st w x0 s0 h s H locs cells slots) (hl : a_ls w nL L ls) {df lo hi : Int} {offs : Array Int} {len : Nat} {sw : List (Int32 × Nat)} (hd : decode cc pc = .ok (.tableswitch df lo hi offs, len)) (ht : (pc : Int) + df = (tg : Int))
    (hsw : ∀ e ∈ sw, lo ≤ e.1.toInt ∧ e.1.toInt ≤ hi ∧ (offs[(e.1.toInt - lo).toNat]?).map (fun o => (pc : Int) + o) = some (e.2 : Int)) (hall : sw.map (fun e => e.1.toInt) = (List.range (hi - lo + 1).toNat).map (fun (j : Nat) => lo + (j : Int)))
    (hr : match st with | .int v :: r => a_sw v tg (fun t => k t L r h) sw | _ => False) : W p l e R s m args below meth c H locs cells slots Qf (F0 m pc ls (st.map (acv w))) := by
  split at hr
  · rename_i v r
    rcases a_swAt hr with ⟨x, h1, rfl, h3⟩ | ⟨h1, h2⟩
    · obtain ⟨q1, q2, q3⟩ := hsw x h1
      cases ho : offs[(x.1.toInt - lo).toNat]? with
      | none => rw [ho] at q3; cases q3
      | some off =>
        rw [ho] at q3
        exact lv_tableIn hx hb hd (by omega) (by omega) ho (Option.some.inj q3) (hk _ _ _ _ _ _ _ _ _ h3 hs hl)
    · refine lv_tableOut hx hb hd ?_ ht (hk _ _ _ _ _ _ _ _ _ h2 hs hl)
      by_cases q : v.toInt < lo ∨ hi < v.toInt
      · exact q
      · exfalso
        have hm : v.toInt ∈ (List.range (hi - lo + 1).toNat).map (fun (j : Nat) => lo + (j : Int)) := List.mem_map.mpr ⟨(v.toInt - lo).toNat, List.mem_range.mpr (by omega), by omega⟩
        rw [← hall] at hm
        obtain ⟨y, hy, he⟩ := List.mem_map.mp hm
        exact h1 y hy (Int32.toInt_inj.mp he)
  · exact hr.elim
theorem sn_getstatic (hx : p.tables.exec = Jvm.exec) (hb : c.code = cc) (hk : a_Wk p l e R s m args below meth c Qf w x0 s0 nL k) (hs : a_st w x0 s0 h s H locs cells slots) (hl : a_ls w nL L ls) {own : String} (ho : s.vm.findClass own = some m.cls) (hold : ∀ q, q < w.2.2.2.1 → s.heap[q]? = w.2.2.2.2[q]?) {p' : Nat} (hp : p' ≠ 0 ∧ p' < 6) {n : String}
    (hZ : va_Z RX10 n "[I" (.ref (w.2.2.1 p')) (fun q => w.2.2.2.1 ≤ q) s s.heap) (hlk : (Jvm.Cond.fieldLink own ix RX10 n "[I").before args s = true ∨ ∃ host, (Jvm.Cond.fieldLinkNest own ix RX10 n "[I" host).before args s = true) (hle : s.heap.size ≤ H.size) (hd : decode cc pc = .ok (.getstatic ix, 3))
    (hr : k (pc + 3) L (.ref p' :: st) h) : W p l e R s m args below meth c H locs cells slots Qf (F0 m pc ls (st.map (acv w))) := by
  have h2 := hk _ _ _ _ _ _ _ _ _ hr hs hl
  rw [List.map_cons, acv_ref w hp.1, aad, if_pos hp.2] at h2
  have hS : va_S (fun q => w.2.2.2.1 ≤ q) s.heap H locs := ⟨hle, fun q h1 h3 => by rw [hs.1.2.2.2.2.2 q (by omega), hold q (by omega)], hs.2.1⟩
  rcases hlk with hlk | ⟨host, hlk⟩
  · exact va_gets hx hb hZ hS ho hlk (fun _ h9 => h9) hd h2
  · exact va_getsN hx hb hZ hS ho hlk (fun _ h9 => h9) hd h2
theorem sn_checkcast (hx : p.tables.exec = Jvm.exec) (hb : c.code = cc) (hk : a_Wk p l e R s m args below meth c Qf w x0 s0 nL k) (hs : a_st w x0 s0 h s H locs cells slots) (hl : a_ls w nL L ls) {own : String} (ho : s.vm.findClass own = some m.cls) (hK : va_K w.1 vwCl (a_tys w) s) (hcl : (Jvm.Cond.classLink own ix "[I").before args s = true) (hd : decode cc pc = .ok (.checkcast ix, 3))
    (hr : match st with | .ref a :: r => (gK h.1 a = 12) ∧ k (pc + 3) L (.ref a :: r) h | _ => False) : W p l e R s m args below meth c H locs cells slots Qf (F0 m pc ls (st.map (acv w))) := by
  split at hr
  · rename_i a r
    obtain ⟨hka, hr⟩ := hr
    obtain ⟨h0, h6, hlt, hcv, hat⟩ := a_rel_at hs.1 (a := a) (by omega)
    have h2 := hk _ _ _ _ _ _ _ _ _ hr hs hl
    rw [List.map_cons, hcv] at h2 ⊢
    rw [a_cell_i hka] at hat
    exact va_castA hx hb ho hcl (a_P1 hat) 0 rfl (hK.2 0 _ rfl).2 hd h2
  · exact hr.elim
theorem sn_objinit (hx : p.tables.exec = Jvm.exec) (hb : c.code = cc) (hk : a_Wk p l e R s m args below meth c Qf w x0 s0 nL k) (hs : a_st w x0 s0 h s H locs cells slots) (hl : a_ls w nL L ls) (hml : c.maxLocals = nL) {own : String} (ho : s.vm.findClass own = some m.cls) (hlk : (Jvm.Cond.methodLink own ix Lib.objectInit).before args s = true) (hinst : (Jvm.Cond.instanceMethod Lib.objectInit).before args s = true) (hcode : (Jvm.Cond.code Lib.objectInit ⟨#[0xb1]⟩ 1 none).before args s = true)
    (hd : decode cc pc = .ok (.invokespecial ix, 3)) (hf : 1 ≤ R.frames) (hlo : 20 ≤ R.locals)
    (hr : match st with | .ref a :: r => (gK h.1 a ≤ 11) ∧ k (pc + 3) L r h | _ => False) (h8 : (st.map Value.category).sum ≤ 8) : W p l e R s m args below meth c H locs cells slots Qf (F0 m pc ls (st.map (acv w))) := by
  split at hr
  · rename_i a r
    obtain ⟨hka, hr⟩ := hr
    obtain ⟨h0, h6, hlt, hcv, hat⟩ := a_rel_at hs.1 (a := a) (by omega)
    have h2 := hk _ _ _ _ _ _ _ _ _ hr hs hl
    rw [List.map_cons, hcv]
    have hcat : ((r.map (acv w)).map fun v => v.category).sum ≤ 8 := by
      rw [List.map_map, show ((fun v => v.category) ∘ acv w) = Value.category from funext fun v => acv_cat w v]
      simp only [List.map_cons, List.sum_cons] at h8
      omega
    exact W.objInit hx hb ho hlk hinst hcode rfl (by rw [hml]; exact hl.2.1) rfl hd hf (by show 2 * 0 + _ + 12 ≤ _; omega) h2
  · exact hr.elim
end SNM
