/-! ===== fields and arrays: reads and writes ===== -/
theorem a_P1 {D : va_G} {cl : List vw_C} {q : Nat × va_E} {H : Heap} (h : va_at D cl q H) : va_P D cl [q] H := fun k x hx => by
  have h0 : k < 1 := (List.getElem?_eq_some_iff.mp hx).1
  rw [show k = 0 by omega] at hx
  cases hx
  exact h
theorem a_cell_o {w : aO} {h : aH} {a ci : Nat} {r : vw_C} (hk : gK h.1 a = ci) (hr : vwCl[ci]? = some r) : a_cell w h a = .inr (ci, a_fl w h a r) := by
  have h1 : ci < 12 := (List.getElem?_eq_some_iff.mp hr).1
  unfold a_cell
  rw [hk, if_pos h1, List.getD_eq_getElem?_getD, hr]
  rfl
theorem a_cell_i {w : aO} {h : aH} {a : Nat} (hk : gK h.1 a = 12) : a_cell w h a = .inl (w.2.1 12, gN h.1 a, .inl (h.2.1 a)) := by simp [a_cell, a_ar, hk]
theorem a_cell_l {w : aO} {h : aH} {a : Nat} (hk : gK h.1 a = 13) : a_cell w h a = .inl (w.2.1 13, gN h.1 a, .inr (.inl (h.2.2 a))) := by simp [a_cell, a_ar, hk]
theorem a_cell_z {w : aO} {h : aH} {a : Nat} (hk : gK h.1 a = 14) : a_cell w h a = .inl (w.2.1 14, gN h.1 a, .inl (h.2.1 a)) := by simp [a_cell, a_ar, hk]
theorem a_cell_q {w : aO} {h : aH} {a kd : Nat} (hk : gK h.1 a = kd) (h1 : 15 ≤ kd) : a_cell w h a = .inl (w.2.1 kd, gN h.1 a, .inr (.inr (.inr (.inr (fun j => arf w (gR h.1 a j)))))) := by
  have e1 : ¬ kd < 12 := by omega
  have e2 : ¬ kd = 13 := by omega
  have e3 : ¬ (kd = 12 ∨ kd = 14) := by omega
  simp [a_cell, a_ar, hk, e1, e2, e3]
theorem a_fl_get {w : aO} {h : aH} {a k : Nat} {r : vw_C} (hk : k < r.2.2) : (a_fl w h a r)[k]? = some (a_fv w h a k (a_fk (r.2.1 k).2.2.1)) := by
  unfold a_fl
  rw [List.getElem?_map, List.getElem?_range hk]
  rfl
theorem a_fl_len {w : aO} {h : aH} {a : Nat} {r : vw_C} : (a_fl w h a r).length = r.2.2 := by simp [a_fl]
/-- a field's kind is its type's -/
def a_tk (ty : FieldType) : Nat := match ty with
  | .int => 0
  | .boolean => 1
  | .long => 2
  | .object _ => 3
  | .array _ => 3
  | _ => 9
def a_ty (r : vw_C) (k : Nat) : FieldType := (parseFieldDescriptor (r.2.1 k).2.2.1).getD .int
def a_clok (r : vw_C) : Bool := decide (∀ k, k < r.2.2 → parseFieldDescriptor (r.2.1 k).2.2.1 = some (a_ty r k) ∧ a_tk (a_ty r k) = a_fk (r.2.1 k).2.2.1) && decide (∀ a, a < r.2.2 → ∀ b, b < r.2.2 → a ≠ b → (r.2.1 a).2.1 ≠ (r.2.1 b).2.1)
theorem a_cls_ok : ∀ r ∈ vwCl, a_clok r = true := by decide +kernel
theorem a_cls {ci : Nat} {r : vw_C} (hr : vwCl[ci]? = some r) : (∀ k, k < r.2.2 → parseFieldDescriptor (r.2.1 k).2.2.1 = some (a_ty r k)) ∧ (∀ k, k < r.2.2 → a_tk (a_ty r k) = a_fk (r.2.1 k).2.2.1) ∧ (∀ a, a < r.2.2 → ∀ b, b < r.2.2 → a ≠ b → (r.2.1 a).2.1 ≠ (r.2.1 b).2.1) := by
  have h := a_cls_ok r (List.mem_of_getElem? hr)
  unfold a_clok at h
  rw [Bool.and_eq_true] at h
  have h1 := of_decide_eq_true h.1
  exact ⟨fun k hk => (h1 k hk).1, fun k hk => (h1 k hk).2, of_decide_eq_true h.2⟩
theorem a_fit {w : aO} {v : Value} {ty : FieldType} {t : Nat} (ht : a_tk ty = t) (hv : (t = 0 ∧ ∃ i, v = .int i) ∨ (t = 1 ∧ (v = .int 0 ∨ v = .int 1)) ∨ (t = 2 ∧ ∃ i, v = .long i) ∨ (t = 3 ∧ ∃ b, v = .ref b)) : narrow ty (acv w v) = acv w v ∧ fits ty (acv w v) = true := by
  rcases hv with ⟨rfl, i, rfl⟩ | ⟨rfl, rfl | rfl⟩ | ⟨rfl, i, rfl⟩ | ⟨rfl, b, rfl⟩
  · cases ty <;> first | exact ⟨rfl, rfl⟩ | (simp [a_tk] at ht)
  · cases ty <;> first | exact ⟨rfl, rfl⟩ | (simp [a_tk] at ht)
  · cases ty <;> first | exact ⟨rfl, rfl⟩ | (simp [a_tk] at ht)
  · cases ty <;> first | exact ⟨rfl, rfl⟩ | (simp [a_tk] at ht)
  · by_cases h0 : b = 0
    · subst h0
      cases ty <;> first | exact ⟨rfl, rfl⟩ | (simp [a_tk] at ht)
    · rw [acv_ref w h0]
      cases ty <;> first | exact ⟨rfl, rfl⟩ | (simp [a_tk] at ht)
/-- one cell is another now -/
theorem a_rel_upd {w : aO} {h h2 : aH} {s : State} {H H1 : Heap} {a : Nat} (r : a_rel w h s H) (hK : gK h2.1 = gK h.1) (hN : gN h2.1 = gN h.1) (hX : gx h2.1 = gx h.1) (ha : gK h.1 a ≤ 18) (hc : va_at w.1 vwCl (w.2.2.2.1 + (a - 6), a_cell w h2 a) H1) (hne : ∀ b, b ≠ a → a_cell w h2 b = a_cell w h b) (hI : ∀ b, b ≠ a → h2.2.1 b = h.2.1 b) (hsz : H1.size = H.size) (ho : ∀ q, q ≠ w.2.2.2.1 + (a - 6) → H1[q]? = H[q]?) : a_rel w h2 s H1 := by
  obtain ⟨r1, r2, r3, r4, r5, r6⟩ := r
  have ha2 := r3 a ha
  refine ⟨by rw [hX]; exact r1, by rw [hsz, hX]; exact r2, fun b hb => by rw [hK] at hb; rw [hX]; exact r3 b hb, fun b h1 h2' => ?_, fun b hb => ?_, fun q hq => by rw [ho q (by omega)]; exact r6 q hq⟩
  · rw [hX] at h2'
    refine ⟨by rw [hK]; exact (r4 b h1 h2').1, ?_⟩
    by_cases e : b = a
    · subst e; exact hc
    · rw [hne b e]
      exact (r4 b h1 h2').2.kept (ho _ (by omega))
  · rw [hK] at hb
    obtain ⟨h1, h2', ⟨scr, h3⟩, h4⟩ := r5 b hb
    have e : b ≠ a := fun q => by subst q; omega
    refine ⟨h1, h2', ?_, fun e4 => ?_⟩
    · rw [hN, hI b e]
      exact ⟨scr, by rw [ho _ (by omega)]; exact h3.1, h3.2⟩
    · obtain ⟨cell, q1, q2⟩ := h4 e4
      exact ⟨cell, by rw [ho _ (by omega)]; exact q1, q2⟩
section SNH
variable {p : Program} {l : Launch} {e : Env} {R : Room} {s : State} {m : MethodId} {args : Array Value} {below : List Frame} {meth : Method} {c : Code} {cc : ByteArray} {Qf : State → Prop} {w : aO} {x0 s0 nL : Nat}
variable {k : aK} {pc tg ix : Nat} {L st : List Value} {h : aH} {H : Heap} {locs : List Loc} {cells slots : Nat} {ls : Array Slot} {ci : Int32} {cl : Int64}
theorem sn_getfield (hx : p.tables.exec = Jvm.exec) (hb : c.code = cc) (hk : a_Wk p l e R s m args below meth c Qf w x0 s0 nL k) (hs : a_st w x0 s0 h s H locs cells slots) (hl : a_ls w nL L ls) {own : String} (ho : s.vm.findClass own = some m.cls) (hts : ∀ w ∈ aW, w.before args s = true) (hK : va_K w.1 vwCl (a_tys w) s)
    {x : aI} {i : Instr} {nx p' q t : Nat} {ci : Int32} {cl : Int64} {ks : List Nat} {sw : List (Int32 × Nat)} (hxe : x = (i, nx, p', q, t, ci, cl, ks, sw)) {r : vw_C} (hr : vwCl[p']? = some r) (hq : q < r.2.2) (hin : ∀ w ∈ u_ws r.1 r.2.1 r.2.2, w ∈ aW) (ht : a_fk (r.2.1 q).2.2.1 = t) (hlk : (Jvm.Cond.fieldLink own ix (r.2.1 q).1 (r.2.1 q).2.1 (r.2.1 q).2.2.1).before args s = true)
    (hd : decode cc pc = .ok (.getfield ix, 3)) (hr' : a_get x st h (fun st2 => k (pc + 3) L st2 h)) : W p l e R s m args below meth c H locs cells slots Qf (F0 m pc ls (st.map (acv w))) := by
  subst hxe
  simp only [a_get] at hr'
  split at hr'
  · rename_i a rest
    obtain ⟨hka, hr'⟩ := hr'
    have h12 : p' < 12 := (List.getElem?_eq_some_iff.mp hr).1
    obtain ⟨h0, h6, hlt, hcv, hat⟩ := a_rel_at hs.1 (a := a) (by omega)
    rw [List.map_cons, hcv]
    rw [a_cell_o hka hr] at hat
    have hkk : k (pc + 3) L (((if t = 2 then Value.long (h.2.2 a q) else if t = 3 then .ref (gR h.1 a q) else .int (h.2.1 a q))) :: rest) h := by
      subst ht
      unfold a_fk at hr' ⊢
      split at hr' <;> simp_all <;> (try split at hr') <;> simp_all <;> (try split at hr') <;> simp_all
    refine va_get (ws := [(w.2.2.2.1 + (a - 6), .inr (p', a_fl w h a r))]) (C := r.1) (T := r.2.1) (N := r.2.2) hx hb hts hin ho hK (a_P1 hat) 0 rfl hr q hq hlk (fun _ h9 => h9) (a_fl_get hq) hd ?_
    have h2 := hk _ _ _ _ _ _ _ _ _ hkk hs hl
    have e : a_fv w h a q (a_fk (r.2.1 q).2.2.1) = acv w (if t = 2 then Value.long (h.2.2 a q) else if t = 3 then .ref (gR h.1 a q) else .int (h.2.1 a q)) := by
      rw [ht]
      unfold a_fv
      split
      · rfl
      · split <;> rfl
    rw [e]
    exact h2
  · exact hr'.elim
/-- a write to a field, final or not, with what it leaves -/
theorem a_pw (hx : p.tables.exec = Jvm.exec) (hb : c.code = cc) {own : String} (ho : s.vm.findClass own = some m.cls) {Ts : List Jvm.Cond} (hts : ∀ w ∈ Ts, w.before args s = true) {D : va_G} {tys : List (ClassId × FieldType)} (hK : va_K D vwCl tys s) {C : String} {T : u_T} {N ci index a q : Nat} {fs : List Value} {v : Value} {rest : List Value} {ty : FieldType}
    (hin : ∀ w ∈ u_ws C T N, w ∈ Ts) (ty0 : Nat → FieldType) (hty : ∀ k, k < N → parseFieldDescriptor (T k).2.2.1 = some (ty0 k)) (hnm : ∀ a, a < N → ∀ b, b < N → a ≠ b → (T a).2.1 ≠ (T b).2.1) (hat : va_at D vwCl (a, .inr (ci, fs)) H) (hc : vwCl[ci]? = some (C, T, N)) (hk : q < N) (hlink : (Jvm.Cond.fieldLink own index (T q).1 (T q).2.1 (T q).2.2.1).before args s = true)
    (hfin : (T q).2.2.2 = false ∨ ((T q).2.2.2 = true ∧ meth.name = "<init>" ∧ (T q).1 = own)) (hd : parseFieldDescriptor (T q).2.2.1 = some ty) (hn : narrow ty v = v) (hfit : fits ty v = true) (hl : q < fs.length) (hdg : decode cc pc = .ok (.putfield index, 3))
    (kk : ∀ (H1 : Heap) (sl : Nat), H1.size = H.size → (∀ j, j ≠ a → H1[j]? = H[j]?) → va_at D vwCl (a, .inr (ci, fs.set q v)) H1 → W p l e R s m args below meth c H1 (locs ++ [⟨a, sl⟩]) cells slots Qf (F0 m (pc + 3) ls rest)) : W p l e R s m args below meth c H locs cells slots Qf (F0 m pc ls (v :: .ref a :: rest)) := by
  have hap := va_apart (own := own) hts hin ty0 hty hnm hK hc
  obtain ⟨r, h1, cell, q1, q2, q3, q4⟩ := hat
  have hr : r = (C, T, N) := Option.some.inj (h1.symm.trans hc)
  subst hr
  obtain ⟨hS, hfc, kC, hkC, hkind⟩ := hK.1 ci _ hc
  obtain ⟨cf, kf, fi, f, hi, hsl⟩ := hS q hk
  have hlay := hts _ (hin _ (u_in_lay hk))
  have hst := (u_facts hfc hkC (u_lays hts hin hk) hi).1
  rcases hfin with hfin | ⟨hfin, hin2, hdecl⟩
  · unfold u_lay at hlay
    rw [if_neg (by rw [hfin]; decide)] at hlay
    have h6 := u_store hfc hkC hkind hlay hi hd hn hfit
    refine W.putK hx hb (f := f) ⟨ho, hlink, ⟨_, _, _, hi⟩, hst⟩ (by rw [q2]; exact h6) q1 q3 (by rw [hsl]; exact k2_hasslot (q4 q hk)) rfl rfl hdg fun H' e1 e2 e3 => ?_
    rw [hsl] at e1 ⊢
    exact kk H' _ e2 e3 ⟨_, hc, t_OB.to (V := updV (vp_V fs) q v) ⟨_, e1, q2, q3, t_set q4 hap hk v⟩ (fun j _ => vp_updV_set hl v j)⟩
  · unfold u_lay at hlay
    rw [if_pos hfin] at hlay
    have hcf : m.cls = cf := by
      obtain ⟨_, _, c', _, _, _, -, -, hf', -, -, -, hown2, -⟩ := Cond.laysFinal_spec hlay
      have e1 : c' = cf := by have := hi.symm.trans hf'; simp at this; exact this.1.symm
      rw [hdecl] at hown2
      rw [← e1]; exact Option.some.inj (ho.symm.trans hown2)
    have h6 := u_fits hfc hkC hkind (Or.inr hlay) hi hd hn hfit
    refine W.putFinK hx hb ho hlink hi hst hcf hin2 (by rw [q2]; exact h6) q1 q3 (by rw [hsl]; exact k2_hasslot (q4 q hk)) rfl rfl hdg fun H' e1 e2 e3 => ?_
    rw [hsl] at e1 ⊢
    exact kk H' _ e2 e3 ⟨_, hc, t_OB.to (V := updV (vp_V fs) q v) ⟨_, e1, q2, q3, t_set q4 hap hk v⟩ (fun j _ => vp_updV_set hl v j)⟩
end SNH
