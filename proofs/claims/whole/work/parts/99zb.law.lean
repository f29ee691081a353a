/-! ===== the law, call by call (laid by wip/whole/gen_law.py) ===== -/
set_option maxRecDepth 100000 in
theorem r_law_189 {d : Nat} {g : aG} {I : Nat → Nat → Int32} {J : Nat → Nat → Int64} {Q : aQ} {i3 : Int32} {si0 : Int32} (k1 : gK g 1 = 20) (k89 : gK g 89 = 11) : a_wp aTab aMX d m_law 189 [.ref 1, .ref 6, .ref 89, .int i3] [.int si0] (g, I, J) Q = ((vp_in (i3 + (nI 1)) (gN g 1)) ∧ (a_call aTab aMX d m_Mo_figure [.ref 89, .int (I 1 (i3 + (nI 1)).toNatClampNeg)] (g, I, J) (fun v h2 => ∃ i : Int32, v = some (.int i) ∧ a_wp aTab aMX d m_law 198 [.ref 1, .ref 6, .ref 89, .int i3] [.int i, .int si0] h2 Q))) := by
  refine Eq.trans (b := ((gK g 1 = 12 ∨ gK g 1 = 20) ∧ ((vp_in (i3 + (nI 1)) (gN g 1)) ∧ ((gK g 89 = 11) ∧ (a_call aTab aMX d m_Mo_figure [.ref 89, .int (I 1 (i3 + (nI 1)).toNatClampNeg)] (g, I, J) (fun v h2 => ∃ i : Int32, v = some (.int i) ∧ a_wp aTab aMX d m_law 198 [.ref 1, .ref 6, .ref 89, .int i3] [.int i, .int si0] h2 Q)))))) (wp_eq aTab aMX 7 _ _ _ _ _ _ Q) ?_
  simp only [k1, k89, true_and, eq_self, true_or, or_true]
set_option maxRecDepth 100000 in
theorem r_law_217 {d : Nat} {g : aG} {I : Nat → Nat → Int32} {J : Nat → Nat → Int64} {Q : aQ} {i3 : Int32} {si0 : Int32} (k1 : gK g 1 = 20) (k89 : gK g 89 = 11) : a_wp aTab aMX d m_law 217 [.ref 1, .ref 6, .ref 89, .int i3] [.int si0] (g, I, J) Q = ((vp_in (i3 + (nI 1)) (gN g 1)) ∧ ((vp_in (i3 + (nI 2)) (gN g 1)) ∧ (a_call aTab aMX d m_Mo_sticks [.ref 89, .int (I 1 (i3 + (nI 1)).toNatClampNeg), .int (I 1 (i3 + (nI 2)).toNatClampNeg)] (g, I, J) (fun v h2 => ∃ i : Int32, v = some (.int i) ∧ a_wp aTab aMX d m_law 231 [.ref 1, .ref 6, .ref 89, .int i3] [.int i, .int si0] h2 Q)))) := by
  refine Eq.trans (b := ((gK g 1 = 12 ∨ gK g 1 = 20) ∧ ((vp_in (i3 + (nI 1)) (gN g 1)) ∧ ((gK g 1 = 12 ∨ gK g 1 = 20) ∧ ((vp_in (i3 + (nI 2)) (gN g 1)) ∧ ((gK g 89 = 11) ∧ (a_call aTab aMX d m_Mo_sticks [.ref 89, .int (I 1 (i3 + (nI 1)).toNatClampNeg), .int (I 1 (i3 + (nI 2)).toNatClampNeg)] (g, I, J) (fun v h2 => ∃ i : Int32, v = some (.int i) ∧ a_wp aTab aMX d m_law 231 [.ref 1, .ref 6, .ref 89, .int i3] [.int i, .int si0] h2 Q)))))))) (wp_eq aTab aMX 12 _ _ _ _ _ _ Q) ?_
  simp only [k1, k89, true_and, eq_self, true_or, or_true]
set_option maxRecDepth 100000 in
theorem r_law_250 {d : Nat} {g : aG} {I : Nat → Nat → Int32} {J : Nat → Nat → Int64} {Q : aQ} {i3 : Int32} {si0 : Int32} (k1 : gK g 1 = 20) (k89 : gK g 89 = 11) : a_wp aTab aMX d m_law 250 [.ref 1, .ref 6, .ref 89, .int i3] [.int si0] (g, I, J) Q = ((vp_in (i3 + (nI 1)) (gN g 1)) ∧ ((vp_in (i3 + (nI 2)) (gN g 1)) ∧ (a_call aTab aMX d m_Mo_terms [.ref 89, .int (I 1 (i3 + (nI 1)).toNatClampNeg), .int (I 1 (i3 + (nI 2)).toNatClampNeg)] (g, I, J) (fun v h2 => ∃ i : Int32, v = some (.int i) ∧ a_wp aTab aMX d m_law 264 [.ref 1, .ref 6, .ref 89, .int i3] [.int i, .int si0] h2 Q)))) := by
  refine Eq.trans (b := ((gK g 1 = 12 ∨ gK g 1 = 20) ∧ ((vp_in (i3 + (nI 1)) (gN g 1)) ∧ ((gK g 1 = 12 ∨ gK g 1 = 20) ∧ ((vp_in (i3 + (nI 2)) (gN g 1)) ∧ ((gK g 89 = 11) ∧ (a_call aTab aMX d m_Mo_terms [.ref 89, .int (I 1 (i3 + (nI 1)).toNatClampNeg), .int (I 1 (i3 + (nI 2)).toNatClampNeg)] (g, I, J) (fun v h2 => ∃ i : Int32, v = some (.int i) ∧ a_wp aTab aMX d m_law 264 [.ref 1, .ref 6, .ref 89, .int i3] [.int i, .int si0] h2 Q)))))))) (wp_eq aTab aMX 12 _ _ _ _ _ _ Q) ?_
  simp only [k1, k89, true_and, eq_self, true_or, or_true]
set_option maxRecDepth 100000 in
theorem r_law_298 {d : Nat} {g : aG} {I : Nat → Nat → Int32} {J : Nat → Nat → Int64} {Q : aQ} {i3 : Int32} {si0 : Int32} (k1 : gK g 1 = 20) (k89 : gK g 89 = 11) : a_wp aTab aMX d m_law 298 [.ref 1, .ref 6, .ref 89, .int i3] [.int si0] (g, I, J) Q = ((vp_in (i3 + (nI 1)) (gN g 1)) ∧ ((vp_in (i3 + (nI 2)) (gN g 1)) ∧ ((vp_in (i3 + (nI 3)) (gN g 1)) ∧ ((vp_in (i3 + (nI 4)) (gN g 1)) ∧ ((vp_in (i3 + (nI 5)) (gN g 1)) ∧ (a_call aTab aMX d m_Mo_on [.ref 89, .int (I 1 (i3 + (nI 1)).toNatClampNeg), .int (I 1 (i3 + (nI 2)).toNatClampNeg), .int (I 1 (i3 + (nI 3)).toNatClampNeg), .int (I 1 (i3 + (nI 4)).toNatClampNeg), .int (I 1 (i3 + (nI 5)).toNatClampNeg)] (g, I, J) (fun v h2 => ∃ i : Int32, v = some (.int i) ∧ a_wp aTab aMX d m_law 327 [.ref 1, .ref 6, .ref 89, .int i3] [.int i, .int si0] h2 Q))))))) := by
  refine Eq.trans (b := ((gK g 1 = 12 ∨ gK g 1 = 20) ∧ ((vp_in (i3 + (nI 1)) (gN g 1)) ∧ ((gK g 1 = 12 ∨ gK g 1 = 20) ∧ ((vp_in (i3 + (nI 2)) (gN g 1)) ∧ ((gK g 1 = 12 ∨ gK g 1 = 20) ∧ ((vp_in (i3 + (nI 3)) (gN g 1)) ∧ ((gK g 1 = 12 ∨ gK g 1 = 20) ∧ ((vp_in (i3 + (nI 4)) (gN g 1)) ∧ ((gK g 1 = 12 ∨ gK g 1 = 20) ∧ ((vp_in (i3 + (nI 5)) (gN g 1)) ∧ ((gK g 89 = 11) ∧ (a_call aTab aMX d m_Mo_on [.ref 89, .int (I 1 (i3 + (nI 1)).toNatClampNeg), .int (I 1 (i3 + (nI 2)).toNatClampNeg), .int (I 1 (i3 + (nI 3)).toNatClampNeg), .int (I 1 (i3 + (nI 4)).toNatClampNeg), .int (I 1 (i3 + (nI 5)).toNatClampNeg)] (g, I, J) (fun v h2 => ∃ i : Int32, v = some (.int i) ∧ a_wp aTab aMX d m_law 327 [.ref 1, .ref 6, .ref 89, .int i3] [.int i, .int si0] h2 Q)))))))))))))) (wp_eq aTab aMX 27 _ _ _ _ _ _ Q) ?_
  simp only [k1, k89, true_and, eq_self, true_or, or_true]
set_option maxRecDepth 100000 in
theorem r_law_346 {d : Nat} {g : aG} {I : Nat → Nat → Int32} {J : Nat → Nat → Int64} {Q : aQ} {i3 : Int32} {si0 : Int32} (k1 : gK g 1 = 20) (k89 : gK g 89 = 11) : a_wp aTab aMX d m_law 346 [.ref 1, .ref 6, .ref 89, .int i3] [.int si0] (g, I, J) Q = ((vp_in (i3 + (nI 1)) (gN g 1)) ∧ ((vp_in (i3 + (nI 2)) (gN g 1)) ∧ (a_call aTab aMX d m_Mo_off [.ref 89, .int (I 1 (i3 + (nI 1)).toNatClampNeg), .int (I 1 (i3 + (nI 2)).toNatClampNeg)] (g, I, J) (fun v h2 => ∃ i : Int32, v = some (.int i) ∧ a_wp aTab aMX d m_law 360 [.ref 1, .ref 6, .ref 89, .int i3] [.int i, .int si0] h2 Q)))) := by
  refine Eq.trans (b := ((gK g 1 = 12 ∨ gK g 1 = 20) ∧ ((vp_in (i3 + (nI 1)) (gN g 1)) ∧ ((gK g 1 = 12 ∨ gK g 1 = 20) ∧ ((vp_in (i3 + (nI 2)) (gN g 1)) ∧ ((gK g 89 = 11) ∧ (a_call aTab aMX d m_Mo_off [.ref 89, .int (I 1 (i3 + (nI 1)).toNatClampNeg), .int (I 1 (i3 + (nI 2)).toNatClampNeg)] (g, I, J) (fun v h2 => ∃ i : Int32, v = some (.int i) ∧ a_wp aTab aMX d m_law 360 [.ref 1, .ref 6, .ref 89, .int i3] [.int i, .int si0] h2 Q)))))))) (wp_eq aTab aMX 12 _ _ _ _ _ _ Q) ?_
  simp only [k1, k89, true_and, eq_self, true_or, or_true]
set_option maxRecDepth 100000 in
theorem r_law_384 {d : Nat} {g : aG} {I : Nat → Nat → Int32} {J : Nat → Nat → Int64} {Q : aQ} {i3 : Int32} {si0 : Int32} (k1 : gK g 1 = 20) (k89 : gK g 89 = 11) : a_wp aTab aMX d m_law 384 [.ref 1, .ref 6, .ref 89, .int i3] [.int si0] (g, I, J) Q = ((vp_in (i3 + (nI 1)) (gN g 1)) ∧ ((vp_in (i3 + (nI 2)) (gN g 1)) ∧ ((vp_in (i3 + (nI 3)) (gN g 1)) ∧ (a_call aTab aMX d m_Mo_of [.ref 89, .int (I 1 (i3 + (nI 1)).toNatClampNeg), .int (I 1 (i3 + (nI 2)).toNatClampNeg), .int (I 1 (i3 + (nI 3)).toNatClampNeg)] (g, I, J) (fun v h2 => ∃ i : Int32, v = some (.int i) ∧ a_wp aTab aMX d m_law 403 [.ref 1, .ref 6, .ref 89, .int i3] [.int i, .int si0] h2 Q))))) := by
  refine Eq.trans (b := ((gK g 1 = 12 ∨ gK g 1 = 20) ∧ ((vp_in (i3 + (nI 1)) (gN g 1)) ∧ ((gK g 1 = 12 ∨ gK g 1 = 20) ∧ ((vp_in (i3 + (nI 2)) (gN g 1)) ∧ ((gK g 1 = 12 ∨ gK g 1 = 20) ∧ ((vp_in (i3 + (nI 3)) (gN g 1)) ∧ ((gK g 89 = 11) ∧ (a_call aTab aMX d m_Mo_of [.ref 89, .int (I 1 (i3 + (nI 1)).toNatClampNeg), .int (I 1 (i3 + (nI 2)).toNatClampNeg), .int (I 1 (i3 + (nI 3)).toNatClampNeg)] (g, I, J) (fun v h2 => ∃ i : Int32, v = some (.int i) ∧ a_wp aTab aMX d m_law 403 [.ref 1, .ref 6, .ref 89, .int i3] [.int i, .int si0] h2 Q)))))))))) (wp_eq aTab aMX 17 _ _ _ _ _ _ Q) ?_
  simp only [k1, k89, true_and, eq_self, true_or, or_true]
set_option maxRecDepth 100000 in
theorem r_law_437 {d : Nat} {g : aG} {I : Nat → Nat → Int32} {J : Nat → Nat → Int64} {Q : aQ} {i3 : Int32} {si0 : Int32} (k1 : gK g 1 = 20) (k89 : gK g 89 = 11) : a_wp aTab aMX d m_law 437 [.ref 1, .ref 6, .ref 89, .int i3] [.int si0] (g, I, J) Q = ((vp_in (i3 + (nI 1)) (gN g 1)) ∧ ((vp_in (i3 + (nI 2)) (gN g 1)) ∧ ((vp_in (i3 + (nI 3)) (gN g 1)) ∧ ((vp_in (i3 + (nI 4)) (gN g 1)) ∧ ((vp_in (i3 + (nI 5)) (gN g 1)) ∧ (a_call aTab aMX d m_Mo_feed [.ref 89, .int (I 1 (i3 + (nI 1)).toNatClampNeg), .int (I 1 (i3 + (nI 2)).toNatClampNeg), .int (I 1 (i3 + (nI 3)).toNatClampNeg), .int (I 1 (i3 + (nI 4)).toNatClampNeg), .int (I 1 (i3 + (nI 5)).toNatClampNeg)] (g, I, J) (fun v h2 => ∃ i : Int32, v = some (.int i) ∧ a_wp aTab aMX d m_law 466 [.ref 1, .ref 6, .ref 89, .int i3] [.int i, .int si0] h2 Q))))))) := by
  refine Eq.trans (b := ((gK g 1 = 12 ∨ gK g 1 = 20) ∧ ((vp_in (i3 + (nI 1)) (gN g 1)) ∧ ((gK g 1 = 12 ∨ gK g 1 = 20) ∧ ((vp_in (i3 + (nI 2)) (gN g 1)) ∧ ((gK g 1 = 12 ∨ gK g 1 = 20) ∧ ((vp_in (i3 + (nI 3)) (gN g 1)) ∧ ((gK g 1 = 12 ∨ gK g 1 = 20) ∧ ((vp_in (i3 + (nI 4)) (gN g 1)) ∧ ((gK g 1 = 12 ∨ gK g 1 = 20) ∧ ((vp_in (i3 + (nI 5)) (gN g 1)) ∧ ((gK g 89 = 11) ∧ (a_call aTab aMX d m_Mo_feed [.ref 89, .int (I 1 (i3 + (nI 1)).toNatClampNeg), .int (I 1 (i3 + (nI 2)).toNatClampNeg), .int (I 1 (i3 + (nI 3)).toNatClampNeg), .int (I 1 (i3 + (nI 4)).toNatClampNeg), .int (I 1 (i3 + (nI 5)).toNatClampNeg)] (g, I, J) (fun v h2 => ∃ i : Int32, v = some (.int i) ∧ a_wp aTab aMX d m_law 466 [.ref 1, .ref 6, .ref 89, .int i3] [.int i, .int si0] h2 Q)))))))))))))) (wp_eq aTab aMX 27 _ _ _ _ _ _ Q) ?_
  simp only [k1, k89, true_and, eq_self, true_or, or_true]
set_option maxRecDepth 100000 in
theorem r_law_480 {d : Nat} {g : aG} {I : Nat → Nat → Int32} {J : Nat → Nat → Int64} {Q : aQ} {i3 : Int32} {si0 : Int32} (k1 : gK g 1 = 20) (k89 : gK g 89 = 11) : a_wp aTab aMX d m_law 480 [.ref 1, .ref 6, .ref 89, .int i3] [.int si0] (g, I, J) Q = ((vp_in (i3 + (nI 1)) (gN g 1)) ∧ (a_call aTab aMX d m_Mo_end [.ref 89, .int (I 1 (i3 + (nI 1)).toNatClampNeg)] (g, I, J) (fun v h2 => ∃ i : Int32, v = some (.int i) ∧ a_wp aTab aMX d m_law 489 [.ref 1, .ref 6, .ref 89, .int i3] [.int i, .int si0] h2 Q))) := by
  refine Eq.trans (b := ((gK g 1 = 12 ∨ gK g 1 = 20) ∧ ((vp_in (i3 + (nI 1)) (gN g 1)) ∧ ((gK g 89 = 11) ∧ (a_call aTab aMX d m_Mo_end [.ref 89, .int (I 1 (i3 + (nI 1)).toNatClampNeg)] (g, I, J) (fun v h2 => ∃ i : Int32, v = some (.int i) ∧ a_wp aTab aMX d m_law 489 [.ref 1, .ref 6, .ref 89, .int i3] [.int i, .int si0] h2 Q)))))) (wp_eq aTab aMX 7 _ _ _ _ _ _ Q) ?_
  simp only [k1, k89, true_and, eq_self, true_or, or_true]
set_option maxRecDepth 100000 in
theorem r_law_503 {d : Nat} {g : aG} {I : Nat → Nat → Int32} {J : Nat → Nat → Int64} {Q : aQ} {i3 : Int32} {si0 : Int32} (k1 : gK g 1 = 20) (k89 : gK g 89 = 11) : a_wp aTab aMX d m_law 503 [.ref 1, .ref 6, .ref 89, .int i3] [.int si0] (g, I, J) Q = ((vp_in (i3 + (nI 1)) (gN g 1)) ∧ (a_call aTab aMX d m_Mo_row [.ref 89, .int (I 1 (i3 + (nI 1)).toNatClampNeg)] (g, I, J) (fun v h2 => ∃ i : Int32, v = some (.int i) ∧ a_wp aTab aMX d m_law 512 [.ref 1, .ref 6, .ref 89, .int i3] [.int i, .int si0] h2 Q))) := by
  refine Eq.trans (b := ((gK g 1 = 12 ∨ gK g 1 = 20) ∧ ((vp_in (i3 + (nI 1)) (gN g 1)) ∧ ((gK g 89 = 11) ∧ (a_call aTab aMX d m_Mo_row [.ref 89, .int (I 1 (i3 + (nI 1)).toNatClampNeg)] (g, I, J) (fun v h2 => ∃ i : Int32, v = some (.int i) ∧ a_wp aTab aMX d m_law 512 [.ref 1, .ref 6, .ref 89, .int i3] [.int i, .int si0] h2 Q)))))) (wp_eq aTab aMX 7 _ _ _ _ _ _ Q) ?_
  simp only [k1, k89, true_and, eq_self, true_or, or_true]
set_option maxRecDepth 100000 in
theorem r_law_521 {d : Nat} {g : aG} {I : Nat → Nat → Int32} {J : Nat → Nat → Int64} {Q : aQ} {i3 : Int32} {si0 : Int32} (k1 : gK g 1 = 20) (k89 : gK g 89 = 11) : a_wp aTab aMX d m_law 521 [.ref 1, .ref 6, .ref 89, .int i3] [.int si0] (g, I, J) Q = (a_call aTab aMX d m_Mo_torn [.ref 89] (g, I, J) (fun v h2 => ∃ i : Int32, v = some (.int i) ∧ a_wp aTab aMX d m_law 525 [.ref 1, .ref 6, .ref 89, .int i3] [.int i, .int si0] h2 Q)) := by
  refine Eq.trans (b := ((gK g 89 = 11) ∧ (a_call aTab aMX d m_Mo_torn [.ref 89] (g, I, J) (fun v h2 => ∃ i : Int32, v = some (.int i) ∧ a_wp aTab aMX d m_law 525 [.ref 1, .ref 6, .ref 89, .int i3] [.int i, .int si0] h2 Q)))) (wp_eq aTab aMX 2 _ _ _ _ _ _ Q) ?_
  simp only [k89, true_and, eq_self, true_or, or_true]
set_option maxRecDepth 100000 in
theorem r_law_544 {d : Nat} {g : aG} {I : Nat → Nat → Int32} {J : Nat → Nat → Int64} {Q : aQ} {i3 : Int32} {si0 : Int32} (k1 : gK g 1 = 20) (k89 : gK g 89 = 11) : a_wp aTab aMX d m_law 544 [.ref 1, .ref 6, .ref 89, .int i3] [.int si0] (g, I, J) Q = ((vp_in (i3 + (nI 1)) (gN g 1)) ∧ ((vp_in (i3 + (nI 2)) (gN g 1)) ∧ (a_call aTab aMX d m_Mo_outline [.ref 89, .int (I 1 (i3 + (nI 1)).toNatClampNeg), .int (I 1 (i3 + (nI 2)).toNatClampNeg)] (g, I, J) (fun v h2 => ∃ i : Int32, v = some (.int i) ∧ a_wp aTab aMX d m_law 558 [.ref 1, .ref 6, .ref 89, .int i3] [.int i, .int si0] h2 Q)))) := by
  refine Eq.trans (b := ((gK g 1 = 12 ∨ gK g 1 = 20) ∧ ((vp_in (i3 + (nI 1)) (gN g 1)) ∧ ((gK g 1 = 12 ∨ gK g 1 = 20) ∧ ((vp_in (i3 + (nI 2)) (gN g 1)) ∧ ((gK g 89 = 11) ∧ (a_call aTab aMX d m_Mo_outline [.ref 89, .int (I 1 (i3 + (nI 1)).toNatClampNeg), .int (I 1 (i3 + (nI 2)).toNatClampNeg)] (g, I, J) (fun v h2 => ∃ i : Int32, v = some (.int i) ∧ a_wp aTab aMX d m_law 558 [.ref 1, .ref 6, .ref 89, .int i3] [.int i, .int si0] h2 Q)))))))) (wp_eq aTab aMX 12 _ _ _ _ _ _ Q) ?_
  simp only [k1, k89, true_and, eq_self, true_or, or_true]
set_option maxRecDepth 100000 in
theorem r_law_567 {d : Nat} {g : aG} {I : Nat → Nat → Int32} {J : Nat → Nat → Int64} {Q : aQ} {i3 : Int32} {si0 : Int32} (k1 : gK g 1 = 20) (k89 : gK g 89 = 11) : a_wp aTab aMX d m_law 567 [.ref 1, .ref 6, .ref 89, .int i3] [.int si0] (g, I, J) Q = (a_call aTab aMX d m_Mo_play [.ref 89] (g, I, J) (fun v h2 => ∃ i : Int32, v = some (.int i) ∧ a_wp aTab aMX d m_law 571 [.ref 1, .ref 6, .ref 89, .int i3] [.int i, .int si0] h2 Q)) := by
  refine Eq.trans (b := ((gK g 89 = 11) ∧ (a_call aTab aMX d m_Mo_play [.ref 89] (g, I, J) (fun v h2 => ∃ i : Int32, v = some (.int i) ∧ a_wp aTab aMX d m_law 571 [.ref 1, .ref 6, .ref 89, .int i3] [.int i, .int si0] h2 Q)))) (wp_eq aTab aMX 2 _ _ _ _ _ _ Q) ?_
  simp only [k89, true_and, eq_self, true_or, or_true]
set_option maxRecDepth 100000 in
theorem r_law_580 {d : Nat} {g : aG} {I : Nat → Nat → Int32} {J : Nat → Nat → Int64} {Q : aQ} {i3 : Int32} {si0 : Int32} (k1 : gK g 1 = 20) (k89 : gK g 89 = 11) : a_wp aTab aMX d m_law 580 [.ref 1, .ref 6, .ref 89, .int i3] [.int si0] (g, I, J) Q = (a_call aTab aMX d m_Mo_fault [.ref 89] (g, I, J) (fun v h2 => ∃ i : Int32, v = some (.int i) ∧ a_wp aTab aMX d m_law 584 [.ref 1, .ref 6, .ref 89, .int i3] [.int i, .int si0] h2 Q)) := by
  refine Eq.trans (b := ((gK g 89 = 11) ∧ (a_call aTab aMX d m_Mo_fault [.ref 89] (g, I, J) (fun v h2 => ∃ i : Int32, v = some (.int i) ∧ a_wp aTab aMX d m_law 584 [.ref 1, .ref 6, .ref 89, .int i3] [.int i, .int si0] h2 Q)))) (wp_eq aTab aMX 2 _ _ _ _ _ _ Q) ?_
  simp only [k89, true_and, eq_self, true_or, or_true]
set_option maxRecDepth 100000 in
theorem r_law_608 {d : Nat} {g : aG} {I : Nat → Nat → Int32} {J : Nat → Nat → Int64} {Q : aQ} {i3 : Int32} {si0 : Int32} (k1 : gK g 1 = 20) (k89 : gK g 89 = 11) : a_wp aTab aMX d m_law 608 [.ref 1, .ref 6, .ref 89, .int i3] [.int si0] (g, I, J) Q = ((vp_in (i3 + (nI 1)) (gN g 1)) ∧ ((vp_in (i3 + (nI 2)) (gN g 1)) ∧ ((vp_in (i3 + (nI 3)) (gN g 1)) ∧ (a_call aTab aMX d m_Mo_shadow [.ref 89, .int (I 1 (i3 + (nI 1)).toNatClampNeg), .int (I 1 (i3 + (nI 2)).toNatClampNeg), .int (I 1 (i3 + (nI 3)).toNatClampNeg)] (g, I, J) (fun v h2 => ∃ i : Int32, v = some (.int i) ∧ a_wp aTab aMX d m_law 627 [.ref 1, .ref 6, .ref 89, .int i3] [.int i, .int si0] h2 Q))))) := by
  refine Eq.trans (b := ((gK g 1 = 12 ∨ gK g 1 = 20) ∧ ((vp_in (i3 + (nI 1)) (gN g 1)) ∧ ((gK g 1 = 12 ∨ gK g 1 = 20) ∧ ((vp_in (i3 + (nI 2)) (gN g 1)) ∧ ((gK g 1 = 12 ∨ gK g 1 = 20) ∧ ((vp_in (i3 + (nI 3)) (gN g 1)) ∧ ((gK g 89 = 11) ∧ (a_call aTab aMX d m_Mo_shadow [.ref 89, .int (I 1 (i3 + (nI 1)).toNatClampNeg), .int (I 1 (i3 + (nI 2)).toNatClampNeg), .int (I 1 (i3 + (nI 3)).toNatClampNeg)] (g, I, J) (fun v h2 => ∃ i : Int32, v = some (.int i) ∧ a_wp aTab aMX d m_law 627 [.ref 1, .ref 6, .ref 89, .int i3] [.int i, .int si0] h2 Q)))))))))) (wp_eq aTab aMX 17 _ _ _ _ _ _ Q) ?_
  simp only [k1, k89, true_and, eq_self, true_or, or_true]
set_option maxRecDepth 100000 in
theorem r_law_651 {d : Nat} {g : aG} {I : Nat → Nat → Int32} {J : Nat → Nat → Int64} {Q : aQ} {i3 : Int32} {si0 : Int32} (k1 : gK g 1 = 20) (k89 : gK g 89 = 11) : a_wp aTab aMX d m_law 651 [.ref 1, .ref 6, .ref 89, .int i3] [.int si0] (g, I, J) Q = ((vp_in (i3 + (nI 1)) (gN g 1)) ∧ ((vp_in (i3 + (nI 2)) (gN g 1)) ∧ ((vp_in (i3 + (nI 3)) (gN g 1)) ∧ (a_call aTab aMX d m_Mo_seen [.ref 89, .int (I 1 (i3 + (nI 1)).toNatClampNeg), .int (I 1 (i3 + (nI 2)).toNatClampNeg), .int (I 1 (i3 + (nI 3)).toNatClampNeg)] (g, I, J) (fun v h2 => ∃ i : Int32, v = some (.int i) ∧ a_wp aTab aMX d m_law 670 [.ref 1, .ref 6, .ref 89, .int i3] [.int i, .int si0] h2 Q))))) := by
  refine Eq.trans (b := ((gK g 1 = 12 ∨ gK g 1 = 20) ∧ ((vp_in (i3 + (nI 1)) (gN g 1)) ∧ ((gK g 1 = 12 ∨ gK g 1 = 20) ∧ ((vp_in (i3 + (nI 2)) (gN g 1)) ∧ ((gK g 1 = 12 ∨ gK g 1 = 20) ∧ ((vp_in (i3 + (nI 3)) (gN g 1)) ∧ ((gK g 89 = 11) ∧ (a_call aTab aMX d m_Mo_seen [.ref 89, .int (I 1 (i3 + (nI 1)).toNatClampNeg), .int (I 1 (i3 + (nI 2)).toNatClampNeg), .int (I 1 (i3 + (nI 3)).toNatClampNeg)] (g, I, J) (fun v h2 => ∃ i : Int32, v = some (.int i) ∧ a_wp aTab aMX d m_law 670 [.ref 1, .ref 6, .ref 89, .int i3] [.int i, .int si0] h2 Q)))))))))) (wp_eq aTab aMX 17 _ _ _ _ _ _ Q) ?_
  simp only [k1, k89, true_and, eq_self, true_or, or_true]
set_option maxRecDepth 100000 in
theorem r_law_694 {d : Nat} {g : aG} {I : Nat → Nat → Int32} {J : Nat → Nat → Int64} {Q : aQ} {i3 : Int32} {si0 : Int32} (k1 : gK g 1 = 20) (k89 : gK g 89 = 11) : a_wp aTab aMX d m_law 694 [.ref 1, .ref 6, .ref 89, .int i3] [.int si0] (g, I, J) Q = ((vp_in (i3 + (nI 1)) (gN g 1)) ∧ ((vp_in (i3 + (nI 2)) (gN g 1)) ∧ ((vp_in (i3 + (nI 3)) (gN g 1)) ∧ (a_call aTab aMX d m_Mo_common [.ref 89, .int (I 1 (i3 + (nI 1)).toNatClampNeg), .int (I 1 (i3 + (nI 2)).toNatClampNeg), .int (I 1 (i3 + (nI 3)).toNatClampNeg)] (g, I, J) (fun v h2 => ∃ i : Int32, v = some (.int i) ∧ a_wp aTab aMX d m_law 713 [.ref 1, .ref 6, .ref 89, .int i3] [.int i, .int si0] h2 Q))))) := by
  refine Eq.trans (b := ((gK g 1 = 12 ∨ gK g 1 = 20) ∧ ((vp_in (i3 + (nI 1)) (gN g 1)) ∧ ((gK g 1 = 12 ∨ gK g 1 = 20) ∧ ((vp_in (i3 + (nI 2)) (gN g 1)) ∧ ((gK g 1 = 12 ∨ gK g 1 = 20) ∧ ((vp_in (i3 + (nI 3)) (gN g 1)) ∧ ((gK g 89 = 11) ∧ (a_call aTab aMX d m_Mo_common [.ref 89, .int (I 1 (i3 + (nI 1)).toNatClampNeg), .int (I 1 (i3 + (nI 2)).toNatClampNeg), .int (I 1 (i3 + (nI 3)).toNatClampNeg)] (g, I, J) (fun v h2 => ∃ i : Int32, v = some (.int i) ∧ a_wp aTab aMX d m_law 713 [.ref 1, .ref 6, .ref 89, .int i3] [.int i, .int si0] h2 Q)))))))))) (wp_eq aTab aMX 17 _ _ _ _ _ _ Q) ?_
  simp only [k1, k89, true_and, eq_self, true_or, or_true]
set_option maxRecDepth 100000 in
theorem r_law_737 {d : Nat} {g : aG} {I : Nat → Nat → Int32} {J : Nat → Nat → Int64} {Q : aQ} {i3 : Int32} {si0 : Int32} (k1 : gK g 1 = 20) (k89 : gK g 89 = 11) : a_wp aTab aMX d m_law 737 [.ref 1, .ref 6, .ref 89, .int i3] [.int si0] (g, I, J) Q = ((vp_in (i3 + (nI 1)) (gN g 1)) ∧ ((vp_in (i3 + (nI 2)) (gN g 1)) ∧ ((vp_in (i3 + (nI 3)) (gN g 1)) ∧ (a_call aTab aMX d m_Mo_holds [.ref 89, .int (I 1 (i3 + (nI 1)).toNatClampNeg), .int (I 1 (i3 + (nI 2)).toNatClampNeg), .int (I 1 (i3 + (nI 3)).toNatClampNeg)] (g, I, J) (fun v h2 => ∃ i : Int32, v = some (.int i) ∧ a_wp aTab aMX d m_law 756 [.ref 1, .ref 6, .ref 89, .int i3] [.int i, .int si0] h2 Q))))) := by
  refine Eq.trans (b := ((gK g 1 = 12 ∨ gK g 1 = 20) ∧ ((vp_in (i3 + (nI 1)) (gN g 1)) ∧ ((gK g 1 = 12 ∨ gK g 1 = 20) ∧ ((vp_in (i3 + (nI 2)) (gN g 1)) ∧ ((gK g 1 = 12 ∨ gK g 1 = 20) ∧ ((vp_in (i3 + (nI 3)) (gN g 1)) ∧ ((gK g 89 = 11) ∧ (a_call aTab aMX d m_Mo_holds [.ref 89, .int (I 1 (i3 + (nI 1)).toNatClampNeg), .int (I 1 (i3 + (nI 2)).toNatClampNeg), .int (I 1 (i3 + (nI 3)).toNatClampNeg)] (g, I, J) (fun v h2 => ∃ i : Int32, v = some (.int i) ∧ a_wp aTab aMX d m_law 756 [.ref 1, .ref 6, .ref 89, .int i3] [.int i, .int si0] h2 Q)))))))))) (wp_eq aTab aMX 17 _ _ _ _ _ _ Q) ?_
  simp only [k1, k89, true_and, eq_self, true_or, or_true]
set_option maxRecDepth 100000 in
theorem r_law_770 {d : Nat} {g : aG} {I : Nat → Nat → Int32} {J : Nat → Nat → Int64} {Q : aQ} {i3 : Int32} {si0 : Int32} (k1 : gK g 1 = 20) (k89 : gK g 89 = 11) : a_wp aTab aMX d m_law 770 [.ref 1, .ref 6, .ref 89, .int i3] [.int si0] (g, I, J) Q = ((vp_in (i3 + (nI 1)) (gN g 1)) ∧ (a_call aTab aMX d m_Mo_holdings [.ref 89, .int (I 1 (i3 + (nI 1)).toNatClampNeg)] (g, I, J) (fun v h2 => ∃ i : Int32, v = some (.int i) ∧ a_wp aTab aMX d m_law 779 [.ref 1, .ref 6, .ref 89, .int i3] [.int i, .int si0] h2 Q))) := by
  refine Eq.trans (b := ((gK g 1 = 12 ∨ gK g 1 = 20) ∧ ((vp_in (i3 + (nI 1)) (gN g 1)) ∧ ((gK g 89 = 11) ∧ (a_call aTab aMX d m_Mo_holdings [.ref 89, .int (I 1 (i3 + (nI 1)).toNatClampNeg)] (g, I, J) (fun v h2 => ∃ i : Int32, v = some (.int i) ∧ a_wp aTab aMX d m_law 779 [.ref 1, .ref 6, .ref 89, .int i3] [.int i, .int si0] h2 Q)))))) (wp_eq aTab aMX 7 _ _ _ _ _ _ Q) ?_
  simp only [k1, k89, true_and, eq_self, true_or, or_true]
set_option maxRecDepth 100000 in
theorem r_law_793 {d : Nat} {g : aG} {I : Nat → Nat → Int32} {J : Nat → Nat → Int64} {Q : aQ} {i3 : Int32} {si0 : Int32} (k1 : gK g 1 = 20) (k89 : gK g 89 = 11) : a_wp aTab aMX d m_law 793 [.ref 1, .ref 6, .ref 89, .int i3] [.int si0] (g, I, J) Q = ((vp_in (i3 + (nI 1)) (gN g 1)) ∧ (a_call aTab aMX d m_Mo_least [.ref 89, .int (I 1 (i3 + (nI 1)).toNatClampNeg)] (g, I, J) (fun v h2 => ∃ i : Int32, v = some (.int i) ∧ a_wp aTab aMX d m_law 802 [.ref 1, .ref 6, .ref 89, .int i3] [.int i, .int si0] h2 Q))) := by
  refine Eq.trans (b := ((gK g 1 = 12 ∨ gK g 1 = 20) ∧ ((vp_in (i3 + (nI 1)) (gN g 1)) ∧ ((gK g 89 = 11) ∧ (a_call aTab aMX d m_Mo_least [.ref 89, .int (I 1 (i3 + (nI 1)).toNatClampNeg)] (g, I, J) (fun v h2 => ∃ i : Int32, v = some (.int i) ∧ a_wp aTab aMX d m_law 802 [.ref 1, .ref 6, .ref 89, .int i3] [.int i, .int si0] h2 Q)))))) (wp_eq aTab aMX 7 _ _ _ _ _ _ Q) ?_
  simp only [k1, k89, true_and, eq_self, true_or, or_true]
set_option maxRecDepth 100000 in
theorem r_law_821 {d : Nat} {g : aG} {I : Nat → Nat → Int32} {J : Nat → Nat → Int64} {Q : aQ} {i3 : Int32} {si0 : Int32} (k1 : gK g 1 = 20) (k89 : gK g 89 = 11) : a_wp aTab aMX d m_law 821 [.ref 1, .ref 6, .ref 89, .int i3] [.int si0] (g, I, J) Q = ((vp_in (i3 + (nI 1)) (gN g 1)) ∧ ((vp_in (i3 + (nI 2)) (gN g 1)) ∧ (a_call aTab aMX d m_Mo_holder [.ref 89, .int (I 1 (i3 + (nI 1)).toNatClampNeg), .int (I 1 (i3 + (nI 2)).toNatClampNeg)] (g, I, J) (fun v h2 => ∃ i : Int32, v = some (.int i) ∧ a_wp aTab aMX d m_law 835 [.ref 1, .ref 6, .ref 89, .int i3] [.int i, .int si0] h2 Q)))) := by
  refine Eq.trans (b := ((gK g 1 = 12 ∨ gK g 1 = 20) ∧ ((vp_in (i3 + (nI 1)) (gN g 1)) ∧ ((gK g 1 = 12 ∨ gK g 1 = 20) ∧ ((vp_in (i3 + (nI 2)) (gN g 1)) ∧ ((gK g 89 = 11) ∧ (a_call aTab aMX d m_Mo_holder [.ref 89, .int (I 1 (i3 + (nI 1)).toNatClampNeg), .int (I 1 (i3 + (nI 2)).toNatClampNeg)] (g, I, J) (fun v h2 => ∃ i : Int32, v = some (.int i) ∧ a_wp aTab aMX d m_law 835 [.ref 1, .ref 6, .ref 89, .int i3] [.int i, .int si0] h2 Q)))))))) (wp_eq aTab aMX 12 _ _ _ _ _ _ Q) ?_
  simp only [k1, k89, true_and, eq_self, true_or, or_true]
set_option maxRecDepth 100000 in
theorem r_law_849 {d : Nat} {g : aG} {I : Nat → Nat → Int32} {J : Nat → Nat → Int64} {Q : aQ} {i3 : Int32} {si0 : Int32} (k1 : gK g 1 = 20) (k89 : gK g 89 = 11) : a_wp aTab aMX d m_law 849 [.ref 1, .ref 6, .ref 89, .int i3] [.int si0] (g, I, J) Q = ((vp_in (i3 + (nI 1)) (gN g 1)) ∧ (a_call aTab aMX d m_Mo_passed [.ref 89, .int (I 1 (i3 + (nI 1)).toNatClampNeg)] (g, I, J) (fun v h2 => ∃ i : Int32, v = some (.int i) ∧ a_wp aTab aMX d m_law 858 [.ref 1, .ref 6, .ref 89, .int i3] [.int i, .int si0] h2 Q))) := by
  refine Eq.trans (b := ((gK g 1 = 12 ∨ gK g 1 = 20) ∧ ((vp_in (i3 + (nI 1)) (gN g 1)) ∧ ((gK g 89 = 11) ∧ (a_call aTab aMX d m_Mo_passed [.ref 89, .int (I 1 (i3 + (nI 1)).toNatClampNeg)] (g, I, J) (fun v h2 => ∃ i : Int32, v = some (.int i) ∧ a_wp aTab aMX d m_law 858 [.ref 1, .ref 6, .ref 89, .int i3] [.int i, .int si0] h2 Q)))))) (wp_eq aTab aMX 7 _ _ _ _ _ _ Q) ?_
  simp only [k1, k89, true_and, eq_self, true_or, or_true]
set_option maxRecDepth 100000 in
theorem r_law_867 {d : Nat} {g : aG} {I : Nat → Nat → Int32} {J : Nat → Nat → Int64} {Q : aQ} {i3 : Int32} {si0 : Int32} (k1 : gK g 1 = 20) (k89 : gK g 89 = 11) : a_wp aTab aMX d m_law 867 [.ref 1, .ref 6, .ref 89, .int i3] [.int si0] (g, I, J) Q = (a_call aTab aMX d m_Mo_fewest [.ref 89] (g, I, J) (fun v h2 => ∃ i : Int32, v = some (.int i) ∧ a_wp aTab aMX d m_law 871 [.ref 1, .ref 6, .ref 89, .int i3] [.int i, .int si0] h2 Q)) := by
  refine Eq.trans (b := ((gK g 89 = 11) ∧ (a_call aTab aMX d m_Mo_fewest [.ref 89] (g, I, J) (fun v h2 => ∃ i : Int32, v = some (.int i) ∧ a_wp aTab aMX d m_law 871 [.ref 1, .ref 6, .ref 89, .int i3] [.int i, .int si0] h2 Q)))) (wp_eq aTab aMX 2 _ _ _ _ _ _ Q) ?_
  simp only [k89, true_and, eq_self, true_or, or_true]
set_option maxRecDepth 100000 in
theorem r_law_885 {d : Nat} {g : aG} {I : Nat → Nat → Int32} {J : Nat → Nat → Int64} {Q : aQ} {i3 : Int32} {si0 : Int32} (k1 : gK g 1 = 20) (k89 : gK g 89 = 11) : a_wp aTab aMX d m_law 885 [.ref 1, .ref 6, .ref 89, .int i3] [.int si0] (g, I, J) Q = ((vp_in (i3 + (nI 1)) (gN g 1)) ∧ (a_call aTab aMX d m_Mo_barred [.ref 89, .int (I 1 (i3 + (nI 1)).toNatClampNeg)] (g, I, J) (fun v h2 => ∃ i : Int32, v = some (.int i) ∧ a_wp aTab aMX d m_law 894 [.ref 1, .ref 6, .ref 89, .int i3] [.int i, .int si0] h2 Q))) := by
  refine Eq.trans (b := ((gK g 1 = 12 ∨ gK g 1 = 20) ∧ ((vp_in (i3 + (nI 1)) (gN g 1)) ∧ ((gK g 89 = 11) ∧ (a_call aTab aMX d m_Mo_barred [.ref 89, .int (I 1 (i3 + (nI 1)).toNatClampNeg)] (g, I, J) (fun v h2 => ∃ i : Int32, v = some (.int i) ∧ a_wp aTab aMX d m_law 894 [.ref 1, .ref 6, .ref 89, .int i3] [.int i, .int si0] h2 Q)))))) (wp_eq aTab aMX 7 _ _ _ _ _ _ Q) ?_
  simp only [k1, k89, true_and, eq_self, true_or, or_true]
set_option maxRecDepth 100000 in
theorem r_law_913 {d : Nat} {g : aG} {I : Nat → Nat → Int32} {J : Nat → Nat → Int64} {Q : aQ} {i3 : Int32} {si0 : Int32} (k1 : gK g 1 = 20) (k89 : gK g 89 = 11) : a_wp aTab aMX d m_law 913 [.ref 1, .ref 6, .ref 89, .int i3] [.int si0] (g, I, J) Q = ((vp_in (i3 + (nI 1)) (gN g 1)) ∧ ((vp_in (i3 + (nI 2)) (gN g 1)) ∧ (a_call aTab aMX d m_Mo_made [.ref 89, .int (I 1 (i3 + (nI 1)).toNatClampNeg), .int (I 1 (i3 + (nI 2)).toNatClampNeg)] (g, I, J) (fun v h2 => ∃ i : Int32, v = some (.int i) ∧ a_wp aTab aMX d m_law 927 [.ref 1, .ref 6, .ref 89, .int i3] [.int i, .int si0] h2 Q)))) := by
  refine Eq.trans (b := ((gK g 1 = 12 ∨ gK g 1 = 20) ∧ ((vp_in (i3 + (nI 1)) (gN g 1)) ∧ ((gK g 1 = 12 ∨ gK g 1 = 20) ∧ ((vp_in (i3 + (nI 2)) (gN g 1)) ∧ ((gK g 89 = 11) ∧ (a_call aTab aMX d m_Mo_made [.ref 89, .int (I 1 (i3 + (nI 1)).toNatClampNeg), .int (I 1 (i3 + (nI 2)).toNatClampNeg)] (g, I, J) (fun v h2 => ∃ i : Int32, v = some (.int i) ∧ a_wp aTab aMX d m_law 927 [.ref 1, .ref 6, .ref 89, .int i3] [.int i, .int si0] h2 Q)))))))) (wp_eq aTab aMX 12 _ _ _ _ _ _ Q) ?_
  simp only [k1, k89, true_and, eq_self, true_or, or_true]
set_option maxRecDepth 100000 in
theorem r_law_951 {d : Nat} {g : aG} {I : Nat → Nat → Int32} {J : Nat → Nat → Int64} {Q : aQ} {i3 : Int32} {si0 : Int32} (k1 : gK g 1 = 20) (k89 : gK g 89 = 11) : a_wp aTab aMX d m_law 951 [.ref 1, .ref 6, .ref 89, .int i3] [.int si0] (g, I, J) Q = ((vp_in (i3 + (nI 1)) (gN g 1)) ∧ ((vp_in (i3 + (nI 2)) (gN g 1)) ∧ ((vp_in (i3 + (nI 3)) (gN g 1)) ∧ (a_call aTab aMX d m_Mo_who [.ref 89, .int (I 1 (i3 + (nI 1)).toNatClampNeg), .int (I 1 (i3 + (nI 2)).toNatClampNeg), .int (I 1 (i3 + (nI 3)).toNatClampNeg)] (g, I, J) (fun v h2 => ∃ i : Int32, v = some (.int i) ∧ a_wp aTab aMX d m_law 970 [.ref 1, .ref 6, .ref 89, .int i3] [.int i, .int si0] h2 Q))))) := by
  refine Eq.trans (b := ((gK g 1 = 12 ∨ gK g 1 = 20) ∧ ((vp_in (i3 + (nI 1)) (gN g 1)) ∧ ((gK g 1 = 12 ∨ gK g 1 = 20) ∧ ((vp_in (i3 + (nI 2)) (gN g 1)) ∧ ((gK g 1 = 12 ∨ gK g 1 = 20) ∧ ((vp_in (i3 + (nI 3)) (gN g 1)) ∧ ((gK g 89 = 11) ∧ (a_call aTab aMX d m_Mo_who [.ref 89, .int (I 1 (i3 + (nI 1)).toNatClampNeg), .int (I 1 (i3 + (nI 2)).toNatClampNeg), .int (I 1 (i3 + (nI 3)).toNatClampNeg)] (g, I, J) (fun v h2 => ∃ i : Int32, v = some (.int i) ∧ a_wp aTab aMX d m_law 970 [.ref 1, .ref 6, .ref 89, .int i3] [.int i, .int si0] h2 Q)))))))))) (wp_eq aTab aMX 17 _ _ _ _ _ _ Q) ?_
  simp only [k1, k89, true_and, eq_self, true_or, or_true]
set_option maxRecDepth 100000 in
theorem r_law_984 {d : Nat} {g : aG} {I : Nat → Nat → Int32} {J : Nat → Nat → Int64} {Q : aQ} {i3 : Int32} {si0 : Int32} (k1 : gK g 1 = 20) (k89 : gK g 89 = 11) : a_wp aTab aMX d m_law 984 [.ref 1, .ref 6, .ref 89, .int i3] [.int si0] (g, I, J) Q = ((vp_in (i3 + (nI 1)) (gN g 1)) ∧ (a_call aTab aMX d m_Mo_sheet [.ref 89, .int (I 1 (i3 + (nI 1)).toNatClampNeg)] (g, I, J) (fun v h2 => ∃ i : Int32, v = some (.int i) ∧ a_wp aTab aMX d m_law 993 [.ref 1, .ref 6, .ref 89, .int i3] [.int i, .int si0] h2 Q))) := by
  refine Eq.trans (b := ((gK g 1 = 12 ∨ gK g 1 = 20) ∧ ((vp_in (i3 + (nI 1)) (gN g 1)) ∧ ((gK g 89 = 11) ∧ (a_call aTab aMX d m_Mo_sheet [.ref 89, .int (I 1 (i3 + (nI 1)).toNatClampNeg)] (g, I, J) (fun v h2 => ∃ i : Int32, v = some (.int i) ∧ a_wp aTab aMX d m_law 993 [.ref 1, .ref 6, .ref 89, .int i3] [.int i, .int si0] h2 Q)))))) (wp_eq aTab aMX 7 _ _ _ _ _ _ Q) ?_
  simp only [k1, k89, true_and, eq_self, true_or, or_true]
set_option maxRecDepth 100000 in
theorem r_law_1007 {d : Nat} {g : aG} {I : Nat → Nat → Int32} {J : Nat → Nat → Int64} {Q : aQ} {i3 : Int32} {si0 : Int32} (k1 : gK g 1 = 20) (k89 : gK g 89 = 11) : a_wp aTab aMX d m_law 1007 [.ref 1, .ref 6, .ref 89, .int i3] [.int si0] (g, I, J) Q = ((vp_in (i3 + (nI 1)) (gN g 1)) ∧ (a_call aTab aMX d m_Mo_copy [.ref 89, .int (I 1 (i3 + (nI 1)).toNatClampNeg)] (g, I, J) (fun v h2 => ∃ i : Int32, v = some (.int i) ∧ a_wp aTab aMX d m_law 1016 [.ref 1, .ref 6, .ref 89, .int i3] [.int i, .int si0] h2 Q))) := by
  refine Eq.trans (b := ((gK g 1 = 12 ∨ gK g 1 = 20) ∧ ((vp_in (i3 + (nI 1)) (gN g 1)) ∧ ((gK g 89 = 11) ∧ (a_call aTab aMX d m_Mo_copy [.ref 89, .int (I 1 (i3 + (nI 1)).toNatClampNeg)] (g, I, J) (fun v h2 => ∃ i : Int32, v = some (.int i) ∧ a_wp aTab aMX d m_law 1016 [.ref 1, .ref 6, .ref 89, .int i3] [.int i, .int si0] h2 Q)))))) (wp_eq aTab aMX 7 _ _ _ _ _ _ Q) ?_
  simp only [k1, k89, true_and, eq_self, true_or, or_true]
set_option maxRecDepth 100000 in
theorem r_law_1030 {d : Nat} {g : aG} {I : Nat → Nat → Int32} {J : Nat → Nat → Int64} {Q : aQ} {i3 : Int32} {si0 : Int32} (k1 : gK g 1 = 20) (k89 : gK g 89 = 11) : a_wp aTab aMX d m_law 1030 [.ref 1, .ref 6, .ref 89, .int i3] [.int si0] (g, I, J) Q = ((vp_in (i3 + (nI 1)) (gN g 1)) ∧ (a_call aTab aMX d m_Mo_show [.ref 89, .int (I 1 (i3 + (nI 1)).toNatClampNeg)] (g, I, J) (fun v h2 => ∃ i : Int32, v = some (.int i) ∧ a_wp aTab aMX d m_law 1039 [.ref 1, .ref 6, .ref 89, .int i3] [.int i, .int si0] h2 Q))) := by
  refine Eq.trans (b := ((gK g 1 = 12 ∨ gK g 1 = 20) ∧ ((vp_in (i3 + (nI 1)) (gN g 1)) ∧ ((gK g 89 = 11) ∧ (a_call aTab aMX d m_Mo_show [.ref 89, .int (I 1 (i3 + (nI 1)).toNatClampNeg)] (g, I, J) (fun v h2 => ∃ i : Int32, v = some (.int i) ∧ a_wp aTab aMX d m_law 1039 [.ref 1, .ref 6, .ref 89, .int i3] [.int i, .int si0] h2 Q)))))) (wp_eq aTab aMX 7 _ _ _ _ _ _ Q) ?_
  simp only [k1, k89, true_and, eq_self, true_or, or_true]
set_option maxRecDepth 100000 in
theorem r_law_1053 {d : Nat} {g : aG} {I : Nat → Nat → Int32} {J : Nat → Nat → Int64} {Q : aQ} {i3 : Int32} {si0 : Int32} (k1 : gK g 1 = 20) (k89 : gK g 89 = 11) : a_wp aTab aMX d m_law 1053 [.ref 1, .ref 6, .ref 89, .int i3] [.int si0] (g, I, J) Q = ((vp_in (i3 + (nI 1)) (gN g 1)) ∧ (a_call aTab aMX d m_Mo_slipped [.ref 89, .int (I 1 (i3 + (nI 1)).toNatClampNeg)] (g, I, J) (fun v h2 => ∃ i : Int32, v = some (.int i) ∧ a_wp aTab aMX d m_law 1062 [.ref 1, .ref 6, .ref 89, .int i3] [.int i, .int si0] h2 Q))) := by
  refine Eq.trans (b := ((gK g 1 = 12 ∨ gK g 1 = 20) ∧ ((vp_in (i3 + (nI 1)) (gN g 1)) ∧ ((gK g 89 = 11) ∧ (a_call aTab aMX d m_Mo_slipped [.ref 89, .int (I 1 (i3 + (nI 1)).toNatClampNeg)] (g, I, J) (fun v h2 => ∃ i : Int32, v = some (.int i) ∧ a_wp aTab aMX d m_law 1062 [.ref 1, .ref 6, .ref 89, .int i3] [.int i, .int si0] h2 Q)))))) (wp_eq aTab aMX 7 _ _ _ _ _ _ Q) ?_
  simp only [k1, k89, true_and, eq_self, true_or, or_true]
set_option maxRecDepth 100000 in
theorem r_law_1076 {d : Nat} {g : aG} {I : Nat → Nat → Int32} {J : Nat → Nat → Int64} {Q : aQ} {i3 : Int32} {si0 : Int32} (k1 : gK g 1 = 20) (k89 : gK g 89 = 11) : a_wp aTab aMX d m_law 1076 [.ref 1, .ref 6, .ref 89, .int i3] [.int si0] (g, I, J) Q = ((vp_in (i3 + (nI 1)) (gN g 1)) ∧ (a_call aTab aMX d m_Mo_image [.ref 89, .int (I 1 (i3 + (nI 1)).toNatClampNeg)] (g, I, J) (fun v h2 => ∃ i : Int32, v = some (.int i) ∧ a_wp aTab aMX d m_law 1085 [.ref 1, .ref 6, .ref 89, .int i3] [.int i, .int si0] h2 Q))) := by
  refine Eq.trans (b := ((gK g 1 = 12 ∨ gK g 1 = 20) ∧ ((vp_in (i3 + (nI 1)) (gN g 1)) ∧ ((gK g 89 = 11) ∧ (a_call aTab aMX d m_Mo_image [.ref 89, .int (I 1 (i3 + (nI 1)).toNatClampNeg)] (g, I, J) (fun v h2 => ∃ i : Int32, v = some (.int i) ∧ a_wp aTab aMX d m_law 1085 [.ref 1, .ref 6, .ref 89, .int i3] [.int i, .int si0] h2 Q)))))) (wp_eq aTab aMX 7 _ _ _ _ _ _ Q) ?_
  simp only [k1, k89, true_and, eq_self, true_or, or_true]
set_option maxRecDepth 100000 in
theorem r_law_1099 {d : Nat} {g : aG} {I : Nat → Nat → Int32} {J : Nat → Nat → Int64} {Q : aQ} {i3 : Int32} {si0 : Int32} (k1 : gK g 1 = 20) (k89 : gK g 89 = 11) : a_wp aTab aMX d m_law 1099 [.ref 1, .ref 6, .ref 89, .int i3] [.int si0] (g, I, J) Q = ((vp_in (i3 + (nI 1)) (gN g 1)) ∧ (a_call aTab aMX d m_Mo_back [.ref 89, .int (I 1 (i3 + (nI 1)).toNatClampNeg)] (g, I, J) (fun v h2 => ∃ i : Int32, v = some (.int i) ∧ a_wp aTab aMX d m_law 1108 [.ref 1, .ref 6, .ref 89, .int i3] [.int i, .int si0] h2 Q))) := by
  refine Eq.trans (b := ((gK g 1 = 12 ∨ gK g 1 = 20) ∧ ((vp_in (i3 + (nI 1)) (gN g 1)) ∧ ((gK g 89 = 11) ∧ (a_call aTab aMX d m_Mo_back [.ref 89, .int (I 1 (i3 + (nI 1)).toNatClampNeg)] (g, I, J) (fun v h2 => ∃ i : Int32, v = some (.int i) ∧ a_wp aTab aMX d m_law 1108 [.ref 1, .ref 6, .ref 89, .int i3] [.int i, .int si0] h2 Q)))))) (wp_eq aTab aMX 7 _ _ _ _ _ _ Q) ?_
  simp only [k1, k89, true_and, eq_self, true_or, or_true]
set_option maxRecDepth 100000 in
theorem r_law_1122 {d : Nat} {g : aG} {I : Nat → Nat → Int32} {J : Nat → Nat → Int64} {Q : aQ} {i3 : Int32} {si0 : Int32} (k1 : gK g 1 = 20) (k89 : gK g 89 = 11) : a_wp aTab aMX d m_law 1122 [.ref 1, .ref 6, .ref 89, .int i3] [.int si0] (g, I, J) Q = ((vp_in (i3 + (nI 1)) (gN g 1)) ∧ (a_call aTab aMX d m_Mo_count [.ref 89, .int (I 1 (i3 + (nI 1)).toNatClampNeg)] (g, I, J) (fun v h2 => ∃ i : Int32, v = some (.int i) ∧ a_wp aTab aMX d m_law 1131 [.ref 1, .ref 6, .ref 89, .int i3] [.int i, .int si0] h2 Q))) := by
  refine Eq.trans (b := ((gK g 1 = 12 ∨ gK g 1 = 20) ∧ ((vp_in (i3 + (nI 1)) (gN g 1)) ∧ ((gK g 89 = 11) ∧ (a_call aTab aMX d m_Mo_count [.ref 89, .int (I 1 (i3 + (nI 1)).toNatClampNeg)] (g, I, J) (fun v h2 => ∃ i : Int32, v = some (.int i) ∧ a_wp aTab aMX d m_law 1131 [.ref 1, .ref 6, .ref 89, .int i3] [.int i, .int si0] h2 Q)))))) (wp_eq aTab aMX 7 _ _ _ _ _ _ Q) ?_
  simp only [k1, k89, true_and, eq_self, true_or, or_true]
set_option maxRecDepth 100000 in
theorem r_law_1140 {d : Nat} {g : aG} {I : Nat → Nat → Int32} {J : Nat → Nat → Int64} {Q : aQ} {i3 : Int32} {si0 : Int32} (k1 : gK g 1 = 20) (k89 : gK g 89 = 11) : a_wp aTab aMX d m_law 1140 [.ref 1, .ref 6, .ref 89, .int i3] [.int si0] (g, I, J) Q = (a_call aTab aMX d m_Mo_status [.ref 89] (g, I, J) (fun v h2 => ∃ i : Int32, v = some (.int i) ∧ a_wp aTab aMX d m_law 1144 [.ref 1, .ref 6, .ref 89, .int i3] [.int i, .int si0] h2 Q)) := by
  refine Eq.trans (b := ((gK g 89 = 11) ∧ (a_call aTab aMX d m_Mo_status [.ref 89] (g, I, J) (fun v h2 => ∃ i : Int32, v = some (.int i) ∧ a_wp aTab aMX d m_law 1144 [.ref 1, .ref 6, .ref 89, .int i3] [.int i, .int si0] h2 Q)))) (wp_eq aTab aMX 2 _ _ _ _ _ _ Q) ?_
  simp only [k89, true_and, eq_self, true_or, or_true]
section LCA
variable {N : Nat} {X : Nat → Int32} {ow : Nat → Nat} {S : Nat → Nat → Nat} {LF : aLF} {g : aG} {I : Nat → Nat → Int32} {J : Nat → Nat → Int64} {Q : aQ} {i : Nat}
theorem b_use {m1 m2 : Nat} {as : List Value} (hb : BOTH N X 100 m1 m2 as (g, I, J)) (hg : Geo g) (hx : 123 ≤ gx g) : a_call aTab aMX 100 m1 (.ref 6 :: as) (g, I, J) (fun v h2 => ∃ c : Int32, v = some (.int c) ∧ (h2.2.1 1 = X ∧ gN h2.1 1 = N ∧ gK h2.1 1 = 20 ∧ gK h2.1 89 = 11) ∧ a_call aTab aMX 100 m2 (.ref 89 :: as) h2 (fun v3 h3 => ∃ c3 : Int32, v3 = some (.int c3) ∧ c = c3 ∧ INVx N X h3)) := by
  unfold BOTH at hb
  refine a_call_mono aTab aMX (call_K aTab aMX hb) ?_
  rintro r h2 ⟨⟨c, e1, e2, e3, e4⟩, hl⟩
  exact ⟨c, e1, ⟨e2, e3, (hl.2 1 (by show 1 < gx g; omega)).trans (k_1 hg), (hl.2 89 (by show 89 < gx g; omega)).trans (k_89 hg)⟩, e4⟩
theorem lc_figure (h : INV N X ow S LF g I J) (hi : i + 6 ≤ N) (hN : N ≤ 384) (hk : ∀ h3, INVx N X h3 → a_wp aTab aMX 100 m_law 1149 [.ref 1, .ref 6, .ref 89, .int (nI i)] [] h3 Q) : a_wp aTab aMX 100 m_law 180 [.ref 1, .ref 6, .ref 89, .int (nI i)] [] (g, I, J) Q := by
  have hg := h.1.1
  have v : ∀ k, k < 6 → vp_in (nI (i + k)) N := fun k hk => vp_in_nI (by omega) (by omega)
  rw [b_law_180 hg, h.1.2.2.1, h.2.1, nadd i 1]
  refine ⟨v 1 (by decide), ?_⟩
  refine a_call_mono aTab aMX (b_use (m_figure (d := 97) h) hg h.1.2.1) ?_
  rintro r ⟨g2, I2, J2⟩ ⟨c, e1, ⟨x1, x2, x3, x4⟩, hc⟩
  refine ⟨c, e1, ?_⟩
  have y1 : I2 1 = X := x1
  have y2 : gN g2 1 = N := x2
  have y3 : gK g2 1 = 20 := x3
  have y4 : gK g2 89 = 11 := x4
  rw [r_law_189 y3 y4, y2, y1, nadd i 1]
  refine ⟨v 1 (by decide), ?_⟩
  refine a_call_mono aTab aMX hc ?_
  rintro r3 ⟨g3, I3, J3⟩ ⟨c3, e3, e4, e5⟩
  refine ⟨c3, e3, ?_⟩
  rw [b_law_198, if_pos e4]
  exact hk _ e5
theorem lc_sticks (h : INV N X ow S LF g I J) (hi : i + 6 ≤ N) (hN : N ≤ 384) (hk : ∀ h3, INVx N X h3 → a_wp aTab aMX 100 m_law 1149 [.ref 1, .ref 6, .ref 89, .int (nI i)] [] h3 Q) : a_wp aTab aMX 100 m_law 203 [.ref 1, .ref 6, .ref 89, .int (nI i)] [] (g, I, J) Q := by
  have hg := h.1.1
  have v : ∀ k, k < 6 → vp_in (nI (i + k)) N := fun k hk => vp_in_nI (by omega) (by omega)
  rw [b_law_203 hg, h.1.2.2.1, h.2.1, nadd i 1, nadd i 2]
  refine ⟨v 1 (by decide), v 2 (by decide), ?_⟩
  refine a_call_mono aTab aMX (b_use (m_sticks (d := 97) h) hg h.1.2.1) ?_
  rintro r ⟨g2, I2, J2⟩ ⟨c, e1, ⟨x1, x2, x3, x4⟩, hc⟩
  refine ⟨c, e1, ?_⟩
  have y1 : I2 1 = X := x1
  have y2 : gN g2 1 = N := x2
  have y3 : gK g2 1 = 20 := x3
  have y4 : gK g2 89 = 11 := x4
  rw [r_law_217 y3 y4, y2, y1, nadd i 1, nadd i 2]
  refine ⟨v 1 (by decide), v 2 (by decide), ?_⟩
  refine a_call_mono aTab aMX hc ?_
  rintro r3 ⟨g3, I3, J3⟩ ⟨c3, e3, e4, e5⟩
  refine ⟨c3, e3, ?_⟩
  rw [b_law_231, if_pos e4]
  exact hk _ e5
theorem lc_terms (h : INV N X ow S LF g I J) (hi : i + 6 ≤ N) (hN : N ≤ 384) (hk : ∀ h3, INVx N X h3 → a_wp aTab aMX 100 m_law 1149 [.ref 1, .ref 6, .ref 89, .int (nI i)] [] h3 Q) : a_wp aTab aMX 100 m_law 236 [.ref 1, .ref 6, .ref 89, .int (nI i)] [] (g, I, J) Q := by
  have hg := h.1.1
  have v : ∀ k, k < 6 → vp_in (nI (i + k)) N := fun k hk => vp_in_nI (by omega) (by omega)
  rw [b_law_236 hg, h.1.2.2.1, h.2.1, nadd i 1, nadd i 2]
  refine ⟨v 1 (by decide), v 2 (by decide), ?_⟩
  refine a_call_mono aTab aMX (b_use (m_terms (d := 97) h) hg h.1.2.1) ?_
  rintro r ⟨g2, I2, J2⟩ ⟨c, e1, ⟨x1, x2, x3, x4⟩, hc⟩
  refine ⟨c, e1, ?_⟩
  have y1 : I2 1 = X := x1
  have y2 : gN g2 1 = N := x2
  have y3 : gK g2 1 = 20 := x3
  have y4 : gK g2 89 = 11 := x4
  rw [r_law_250 y3 y4, y2, y1, nadd i 1, nadd i 2]
  refine ⟨v 1 (by decide), v 2 (by decide), ?_⟩
  refine a_call_mono aTab aMX hc ?_
  rintro r3 ⟨g3, I3, J3⟩ ⟨c3, e3, e4, e5⟩
  refine ⟨c3, e3, ?_⟩
  rw [b_law_264, if_pos e4]
  exact hk _ e5
theorem lc_on (h : INV N X ow S LF g I J) (hi : i + 6 ≤ N) (hN : N ≤ 384) (hk : ∀ h3, INVx N X h3 → a_wp aTab aMX 100 m_law 1149 [.ref 1, .ref 6, .ref 89, .int (nI i)] [] h3 Q) : a_wp aTab aMX 100 m_law 269 [.ref 1, .ref 6, .ref 89, .int (nI i)] [] (g, I, J) Q := by
  have hg := h.1.1
  have v : ∀ k, k < 6 → vp_in (nI (i + k)) N := fun k hk => vp_in_nI (by omega) (by omega)
  rw [b_law_269 hg, h.1.2.2.1, h.2.1, nadd i 1, nadd i 2, nadd i 3, nadd i 4, nadd i 5]
  refine ⟨v 1 (by decide), v 2 (by decide), v 3 (by decide), v 4 (by decide), v 5 (by decide), ?_⟩
  refine a_call_mono aTab aMX (b_use (m_on (d := 97) h) hg h.1.2.1) ?_
  rintro r ⟨g2, I2, J2⟩ ⟨c, e1, ⟨x1, x2, x3, x4⟩, hc⟩
  refine ⟨c, e1, ?_⟩
  have y1 : I2 1 = X := x1
  have y2 : gN g2 1 = N := x2
  have y3 : gK g2 1 = 20 := x3
  have y4 : gK g2 89 = 11 := x4
  rw [r_law_298 y3 y4, y2, y1, nadd i 1, nadd i 2, nadd i 3, nadd i 4, nadd i 5]
  refine ⟨v 1 (by decide), v 2 (by decide), v 3 (by decide), v 4 (by decide), v 5 (by decide), ?_⟩
  refine a_call_mono aTab aMX hc ?_
  rintro r3 ⟨g3, I3, J3⟩ ⟨c3, e3, e4, e5⟩
  refine ⟨c3, e3, ?_⟩
  rw [b_law_327, if_pos e4]
  exact hk _ e5
theorem lc_off (h : INV N X ow S LF g I J) (hi : i + 6 ≤ N) (hN : N ≤ 384) (hk : ∀ h3, INVx N X h3 → a_wp aTab aMX 100 m_law 1149 [.ref 1, .ref 6, .ref 89, .int (nI i)] [] h3 Q) : a_wp aTab aMX 100 m_law 332 [.ref 1, .ref 6, .ref 89, .int (nI i)] [] (g, I, J) Q := by
  have hg := h.1.1
  have v : ∀ k, k < 6 → vp_in (nI (i + k)) N := fun k hk => vp_in_nI (by omega) (by omega)
  rw [b_law_332 hg, h.1.2.2.1, h.2.1, nadd i 1, nadd i 2]
  refine ⟨v 1 (by decide), v 2 (by decide), ?_⟩
  refine a_call_mono aTab aMX (b_use (m_off (d := 97) h) hg h.1.2.1) ?_
  rintro r ⟨g2, I2, J2⟩ ⟨c, e1, ⟨x1, x2, x3, x4⟩, hc⟩
  refine ⟨c, e1, ?_⟩
  have y1 : I2 1 = X := x1
  have y2 : gN g2 1 = N := x2
  have y3 : gK g2 1 = 20 := x3
  have y4 : gK g2 89 = 11 := x4
  rw [r_law_346 y3 y4, y2, y1, nadd i 1, nadd i 2]
  refine ⟨v 1 (by decide), v 2 (by decide), ?_⟩
  refine a_call_mono aTab aMX hc ?_
  rintro r3 ⟨g3, I3, J3⟩ ⟨c3, e3, e4, e5⟩
  refine ⟨c3, e3, ?_⟩
  rw [b_law_360, if_pos e4]
  exact hk _ e5
theorem lc_of (h : INV N X ow S LF g I J) (hi : i + 6 ≤ N) (hN : N ≤ 384) (hk : ∀ h3, INVx N X h3 → a_wp aTab aMX 100 m_law 1149 [.ref 1, .ref 6, .ref 89, .int (nI i)] [] h3 Q) : a_wp aTab aMX 100 m_law 365 [.ref 1, .ref 6, .ref 89, .int (nI i)] [] (g, I, J) Q := by
  have hg := h.1.1
  have v : ∀ k, k < 6 → vp_in (nI (i + k)) N := fun k hk => vp_in_nI (by omega) (by omega)
  rw [b_law_365 hg, h.1.2.2.1, h.2.1, nadd i 1, nadd i 2, nadd i 3]
  refine ⟨v 1 (by decide), v 2 (by decide), v 3 (by decide), ?_⟩
  refine a_call_mono aTab aMX (b_use (m_of (d := 96) h) hg h.1.2.1) ?_
  rintro r ⟨g2, I2, J2⟩ ⟨c, e1, ⟨x1, x2, x3, x4⟩, hc⟩
  refine ⟨c, e1, ?_⟩
  have y1 : I2 1 = X := x1
  have y2 : gN g2 1 = N := x2
  have y3 : gK g2 1 = 20 := x3
  have y4 : gK g2 89 = 11 := x4
  rw [r_law_384 y3 y4, y2, y1, nadd i 1, nadd i 2, nadd i 3]
  refine ⟨v 1 (by decide), v 2 (by decide), v 3 (by decide), ?_⟩
  refine a_call_mono aTab aMX hc ?_
  rintro r3 ⟨g3, I3, J3⟩ ⟨c3, e3, e4, e5⟩
  refine ⟨c3, e3, ?_⟩
  rw [b_law_403, if_pos e4]
  exact hk _ e5
theorem lc_feed (h : INV N X ow S LF g I J) (hi : i + 6 ≤ N) (hN : N ≤ 384) (hk : ∀ h3, INVx N X h3 → a_wp aTab aMX 100 m_law 1149 [.ref 1, .ref 6, .ref 89, .int (nI i)] [] h3 Q) : a_wp aTab aMX 100 m_law 408 [.ref 1, .ref 6, .ref 89, .int (nI i)] [] (g, I, J) Q := by
  have hg := h.1.1
  have v : ∀ k, k < 6 → vp_in (nI (i + k)) N := fun k hk => vp_in_nI (by omega) (by omega)
  rw [b_law_408 hg, h.1.2.2.1, h.2.1, nadd i 1, nadd i 2, nadd i 3, nadd i 4, nadd i 5]
  refine ⟨v 1 (by decide), v 2 (by decide), v 3 (by decide), v 4 (by decide), v 5 (by decide), ?_⟩
  refine a_call_mono aTab aMX (b_use (m_feed (d := 98) h) hg h.1.2.1) ?_
  rintro r ⟨g2, I2, J2⟩ ⟨c, e1, ⟨x1, x2, x3, x4⟩, hc⟩
  refine ⟨c, e1, ?_⟩
  have y1 : I2 1 = X := x1
  have y2 : gN g2 1 = N := x2
  have y3 : gK g2 1 = 20 := x3
  have y4 : gK g2 89 = 11 := x4
  rw [r_law_437 y3 y4, y2, y1, nadd i 1, nadd i 2, nadd i 3, nadd i 4, nadd i 5]
  refine ⟨v 1 (by decide), v 2 (by decide), v 3 (by decide), v 4 (by decide), v 5 (by decide), ?_⟩
  refine a_call_mono aTab aMX hc ?_
  rintro r3 ⟨g3, I3, J3⟩ ⟨c3, e3, e4, e5⟩
  refine ⟨c3, e3, ?_⟩
  rw [b_law_466, if_pos e4]
  exact hk _ e5
theorem lc_end (h : INV N X ow S LF g I J) (hi : i + 6 ≤ N) (hN : N ≤ 384) (hk : ∀ h3, INVx N X h3 → a_wp aTab aMX 100 m_law 1149 [.ref 1, .ref 6, .ref 89, .int (nI i)] [] h3 Q) : a_wp aTab aMX 100 m_law 471 [.ref 1, .ref 6, .ref 89, .int (nI i)] [] (g, I, J) Q := by
  have hg := h.1.1
  have v : ∀ k, k < 6 → vp_in (nI (i + k)) N := fun k hk => vp_in_nI (by omega) (by omega)
  rw [b_law_471 hg, h.1.2.2.1, h.2.1, nadd i 1]
  refine ⟨v 1 (by decide), ?_⟩
  refine a_call_mono aTab aMX (b_use (m_end (d := 99) h) hg h.1.2.1) ?_
  rintro r ⟨g2, I2, J2⟩ ⟨c, e1, ⟨x1, x2, x3, x4⟩, hc⟩
  refine ⟨c, e1, ?_⟩
  have y1 : I2 1 = X := x1
  have y2 : gN g2 1 = N := x2
  have y3 : gK g2 1 = 20 := x3
  have y4 : gK g2 89 = 11 := x4
  rw [r_law_480 y3 y4, y2, y1, nadd i 1]
  refine ⟨v 1 (by decide), ?_⟩
  refine a_call_mono aTab aMX hc ?_
  rintro r3 ⟨g3, I3, J3⟩ ⟨c3, e3, e4, e5⟩
  refine ⟨c3, e3, ?_⟩
  rw [b_law_489, if_pos e4]
  exact hk _ e5
theorem lc_row (h : INV N X ow S LF g I J) (hi : i + 6 ≤ N) (hN : N ≤ 384) (hk : ∀ h3, INVx N X h3 → a_wp aTab aMX 100 m_law 1149 [.ref 1, .ref 6, .ref 89, .int (nI i)] [] h3 Q) : a_wp aTab aMX 100 m_law 494 [.ref 1, .ref 6, .ref 89, .int (nI i)] [] (g, I, J) Q := by
  have hg := h.1.1
  have v : ∀ k, k < 6 → vp_in (nI (i + k)) N := fun k hk => vp_in_nI (by omega) (by omega)
  rw [b_law_494 hg, h.1.2.2.1, h.2.1, nadd i 1]
  refine ⟨v 1 (by decide), ?_⟩
  refine a_call_mono aTab aMX (b_use (m_row (d := 96) h) hg h.1.2.1) ?_
  rintro r ⟨g2, I2, J2⟩ ⟨c, e1, ⟨x1, x2, x3, x4⟩, hc⟩
  refine ⟨c, e1, ?_⟩
  have y1 : I2 1 = X := x1
  have y2 : gN g2 1 = N := x2
  have y3 : gK g2 1 = 20 := x3
  have y4 : gK g2 89 = 11 := x4
  rw [r_law_503 y3 y4, y2, y1, nadd i 1]
  refine ⟨v 1 (by decide), ?_⟩
  refine a_call_mono aTab aMX hc ?_
  rintro r3 ⟨g3, I3, J3⟩ ⟨c3, e3, e4, e5⟩
  refine ⟨c3, e3, ?_⟩
  rw [b_law_512, if_pos e4]
  exact hk _ e5
theorem lc_torn (h : INV N X ow S LF g I J) (hi : i + 6 ≤ N) (hN : N ≤ 384) (hk : ∀ h3, INVx N X h3 → a_wp aTab aMX 100 m_law 1149 [.ref 1, .ref 6, .ref 89, .int (nI i)] [] h3 Q) : a_wp aTab aMX 100 m_law 517 [.ref 1, .ref 6, .ref 89, .int (nI i)] [] (g, I, J) Q := by
  have hg := h.1.1
  rw [b_law_517 hg]
  refine a_call_mono aTab aMX (b_use (m_torn (d := 99) h) hg h.1.2.1) ?_
  rintro r ⟨g2, I2, J2⟩ ⟨c, e1, ⟨x1, x2, x3, x4⟩, hc⟩
  refine ⟨c, e1, ?_⟩
  have y1 : I2 1 = X := x1
  have y2 : gN g2 1 = N := x2
  have y3 : gK g2 1 = 20 := x3
  have y4 : gK g2 89 = 11 := x4
  rw [r_law_521 y3 y4]
  refine a_call_mono aTab aMX hc ?_
  rintro r3 ⟨g3, I3, J3⟩ ⟨c3, e3, e4, e5⟩
  refine ⟨c3, e3, ?_⟩
  rw [b_law_525, if_pos e4]
  exact hk _ e5
theorem lc_outline (h : INV N X ow S LF g I J) (hi : i + 6 ≤ N) (hN : N ≤ 384) (hk : ∀ h3, INVx N X h3 → a_wp aTab aMX 100 m_law 1149 [.ref 1, .ref 6, .ref 89, .int (nI i)] [] h3 Q) : a_wp aTab aMX 100 m_law 530 [.ref 1, .ref 6, .ref 89, .int (nI i)] [] (g, I, J) Q := by
  have hg := h.1.1
  have v : ∀ k, k < 6 → vp_in (nI (i + k)) N := fun k hk => vp_in_nI (by omega) (by omega)
  rw [b_law_530 hg, h.1.2.2.1, h.2.1, nadd i 1, nadd i 2]
  refine ⟨v 1 (by decide), v 2 (by decide), ?_⟩
  refine a_call_mono aTab aMX (b_use (m_outline (d := 97) h) hg h.1.2.1) ?_
  rintro r ⟨g2, I2, J2⟩ ⟨c, e1, ⟨x1, x2, x3, x4⟩, hc⟩
  refine ⟨c, e1, ?_⟩
  have y1 : I2 1 = X := x1
  have y2 : gN g2 1 = N := x2
  have y3 : gK g2 1 = 20 := x3
  have y4 : gK g2 89 = 11 := x4
  rw [r_law_544 y3 y4, y2, y1, nadd i 1, nadd i 2]
  refine ⟨v 1 (by decide), v 2 (by decide), ?_⟩
  refine a_call_mono aTab aMX hc ?_
  rintro r3 ⟨g3, I3, J3⟩ ⟨c3, e3, e4, e5⟩
  refine ⟨c3, e3, ?_⟩
  rw [b_law_558, if_pos e4]
  exact hk _ e5
theorem lc_play (h : INV N X ow S LF g I J) (hi : i + 6 ≤ N) (hN : N ≤ 384) (hk : ∀ h3, INVx N X h3 → a_wp aTab aMX 100 m_law 1149 [.ref 1, .ref 6, .ref 89, .int (nI i)] [] h3 Q) : a_wp aTab aMX 100 m_law 563 [.ref 1, .ref 6, .ref 89, .int (nI i)] [] (g, I, J) Q := by
  have hg := h.1.1
  rw [b_law_563 hg]
  refine a_call_mono aTab aMX (b_use (m_play (d := 42) h) hg h.1.2.1) ?_
  rintro r ⟨g2, I2, J2⟩ ⟨c, e1, ⟨x1, x2, x3, x4⟩, hc⟩
  refine ⟨c, e1, ?_⟩
  have y1 : I2 1 = X := x1
  have y2 : gN g2 1 = N := x2
  have y3 : gK g2 1 = 20 := x3
  have y4 : gK g2 89 = 11 := x4
  rw [r_law_567 y3 y4]
  refine a_call_mono aTab aMX hc ?_
  rintro r3 ⟨g3, I3, J3⟩ ⟨c3, e3, e4, e5⟩
  refine ⟨c3, e3, ?_⟩
  rw [b_law_571, if_pos e4]
  exact hk _ e5
theorem lc_fault (h : INV N X ow S LF g I J) (hi : i + 6 ≤ N) (hN : N ≤ 384) (hk : ∀ h3, INVx N X h3 → a_wp aTab aMX 100 m_law 1149 [.ref 1, .ref 6, .ref 89, .int (nI i)] [] h3 Q) : a_wp aTab aMX 100 m_law 576 [.ref 1, .ref 6, .ref 89, .int (nI i)] [] (g, I, J) Q := by
  have hg := h.1.1
  rw [b_law_576 hg]
  refine a_call_mono aTab aMX (b_use (m_fault (d := 99) h) hg h.1.2.1) ?_
  rintro r ⟨g2, I2, J2⟩ ⟨c, e1, ⟨x1, x2, x3, x4⟩, hc⟩
  refine ⟨c, e1, ?_⟩
  have y1 : I2 1 = X := x1
  have y2 : gN g2 1 = N := x2
  have y3 : gK g2 1 = 20 := x3
  have y4 : gK g2 89 = 11 := x4
  rw [r_law_580 y3 y4]
  refine a_call_mono aTab aMX hc ?_
  rintro r3 ⟨g3, I3, J3⟩ ⟨c3, e3, e4, e5⟩
  refine ⟨c3, e3, ?_⟩
  rw [b_law_584, if_pos e4]
  exact hk _ e5
theorem lc_shadow (h : INV N X ow S LF g I J) (hi : i + 6 ≤ N) (hN : N ≤ 384) (hk : ∀ h3, INVx N X h3 → a_wp aTab aMX 100 m_law 1149 [.ref 1, .ref 6, .ref 89, .int (nI i)] [] h3 Q) : a_wp aTab aMX 100 m_law 589 [.ref 1, .ref 6, .ref 89, .int (nI i)] [] (g, I, J) Q := by
  have hg := h.1.1
  have v : ∀ k, k < 6 → vp_in (nI (i + k)) N := fun k hk => vp_in_nI (by omega) (by omega)
  rw [b_law_589 hg, h.1.2.2.1, h.2.1, nadd i 1, nadd i 2, nadd i 3]
  refine ⟨v 1 (by decide), v 2 (by decide), v 3 (by decide), ?_⟩
  refine a_call_mono aTab aMX (b_use (m_shadow (d := 95) h) hg h.1.2.1) ?_
  rintro r ⟨g2, I2, J2⟩ ⟨c, e1, ⟨x1, x2, x3, x4⟩, hc⟩
  refine ⟨c, e1, ?_⟩
  have y1 : I2 1 = X := x1
  have y2 : gN g2 1 = N := x2
  have y3 : gK g2 1 = 20 := x3
  have y4 : gK g2 89 = 11 := x4
  rw [r_law_608 y3 y4, y2, y1, nadd i 1, nadd i 2, nadd i 3]
  refine ⟨v 1 (by decide), v 2 (by decide), v 3 (by decide), ?_⟩
  refine a_call_mono aTab aMX hc ?_
  rintro r3 ⟨g3, I3, J3⟩ ⟨c3, e3, e4, e5⟩
  refine ⟨c3, e3, ?_⟩
  rw [b_law_627, if_pos e4]
  exact hk _ e5
theorem lc_seen (h : INV N X ow S LF g I J) (hi : i + 6 ≤ N) (hN : N ≤ 384) (hk : ∀ h3, INVx N X h3 → a_wp aTab aMX 100 m_law 1149 [.ref 1, .ref 6, .ref 89, .int (nI i)] [] h3 Q) : a_wp aTab aMX 100 m_law 632 [.ref 1, .ref 6, .ref 89, .int (nI i)] [] (g, I, J) Q := by
  have hg := h.1.1
  have v : ∀ k, k < 6 → vp_in (nI (i + k)) N := fun k hk => vp_in_nI (by omega) (by omega)
  rw [b_law_632 hg, h.1.2.2.1, h.2.1, nadd i 1, nadd i 2, nadd i 3]
  refine ⟨v 1 (by decide), v 2 (by decide), v 3 (by decide), ?_⟩
  refine a_call_mono aTab aMX (b_use (m_seen (d := 95) h) hg h.1.2.1) ?_
  rintro r ⟨g2, I2, J2⟩ ⟨c, e1, ⟨x1, x2, x3, x4⟩, hc⟩
  refine ⟨c, e1, ?_⟩
  have y1 : I2 1 = X := x1
  have y2 : gN g2 1 = N := x2
  have y3 : gK g2 1 = 20 := x3
  have y4 : gK g2 89 = 11 := x4
  rw [r_law_651 y3 y4, y2, y1, nadd i 1, nadd i 2, nadd i 3]
  refine ⟨v 1 (by decide), v 2 (by decide), v 3 (by decide), ?_⟩
  refine a_call_mono aTab aMX hc ?_
  rintro r3 ⟨g3, I3, J3⟩ ⟨c3, e3, e4, e5⟩
  refine ⟨c3, e3, ?_⟩
  rw [b_law_670, if_pos e4]
  exact hk _ e5
theorem lc_common (h : INV N X ow S LF g I J) (hi : i + 6 ≤ N) (hN : N ≤ 384) (hk : ∀ h3, INVx N X h3 → a_wp aTab aMX 100 m_law 1149 [.ref 1, .ref 6, .ref 89, .int (nI i)] [] h3 Q) : a_wp aTab aMX 100 m_law 675 [.ref 1, .ref 6, .ref 89, .int (nI i)] [] (g, I, J) Q := by
  have hg := h.1.1
  have v : ∀ k, k < 6 → vp_in (nI (i + k)) N := fun k hk => vp_in_nI (by omega) (by omega)
  rw [b_law_675 hg, h.1.2.2.1, h.2.1, nadd i 1, nadd i 2, nadd i 3]
  refine ⟨v 1 (by decide), v 2 (by decide), v 3 (by decide), ?_⟩
  refine a_call_mono aTab aMX (b_use (m_common (d := 95) h) hg h.1.2.1) ?_
  rintro r ⟨g2, I2, J2⟩ ⟨c, e1, ⟨x1, x2, x3, x4⟩, hc⟩
  refine ⟨c, e1, ?_⟩
  have y1 : I2 1 = X := x1
  have y2 : gN g2 1 = N := x2
  have y3 : gK g2 1 = 20 := x3
  have y4 : gK g2 89 = 11 := x4
  rw [r_law_694 y3 y4, y2, y1, nadd i 1, nadd i 2, nadd i 3]
  refine ⟨v 1 (by decide), v 2 (by decide), v 3 (by decide), ?_⟩
  refine a_call_mono aTab aMX hc ?_
  rintro r3 ⟨g3, I3, J3⟩ ⟨c3, e3, e4, e5⟩
  refine ⟨c3, e3, ?_⟩
  rw [b_law_713, if_pos e4]
  exact hk _ e5
theorem lc_holds (h : INV N X ow S LF g I J) (hi : i + 6 ≤ N) (hN : N ≤ 384) (hk : ∀ h3, INVx N X h3 → a_wp aTab aMX 100 m_law 1149 [.ref 1, .ref 6, .ref 89, .int (nI i)] [] h3 Q) : a_wp aTab aMX 100 m_law 718 [.ref 1, .ref 6, .ref 89, .int (nI i)] [] (g, I, J) Q := by
  have hg := h.1.1
  have v : ∀ k, k < 6 → vp_in (nI (i + k)) N := fun k hk => vp_in_nI (by omega) (by omega)
  rw [b_law_718 hg, h.1.2.2.1, h.2.1, nadd i 1, nadd i 2, nadd i 3]
  refine ⟨v 1 (by decide), v 2 (by decide), v 3 (by decide), ?_⟩
  refine a_call_mono aTab aMX (b_use (m_holds (d := 93) h) hg h.1.2.1) ?_
  rintro r ⟨g2, I2, J2⟩ ⟨c, e1, ⟨x1, x2, x3, x4⟩, hc⟩
  refine ⟨c, e1, ?_⟩
  have y1 : I2 1 = X := x1
  have y2 : gN g2 1 = N := x2
  have y3 : gK g2 1 = 20 := x3
  have y4 : gK g2 89 = 11 := x4
  rw [r_law_737 y3 y4, y2, y1, nadd i 1, nadd i 2, nadd i 3]
  refine ⟨v 1 (by decide), v 2 (by decide), v 3 (by decide), ?_⟩
  refine a_call_mono aTab aMX hc ?_
  rintro r3 ⟨g3, I3, J3⟩ ⟨c3, e3, e4, e5⟩
  refine ⟨c3, e3, ?_⟩
  rw [b_law_756, if_pos e4]
  exact hk _ e5
theorem lc_holdings (h : INV N X ow S LF g I J) (hi : i + 6 ≤ N) (hN : N ≤ 384) (hk : ∀ h3, INVx N X h3 → a_wp aTab aMX 100 m_law 1149 [.ref 1, .ref 6, .ref 89, .int (nI i)] [] h3 Q) : a_wp aTab aMX 100 m_law 761 [.ref 1, .ref 6, .ref 89, .int (nI i)] [] (g, I, J) Q := by
  have hg := h.1.1
  have v : ∀ k, k < 6 → vp_in (nI (i + k)) N := fun k hk => vp_in_nI (by omega) (by omega)
  rw [b_law_761 hg, h.1.2.2.1, h.2.1, nadd i 1]
  refine ⟨v 1 (by decide), ?_⟩
  refine a_call_mono aTab aMX (b_use (m_holdings (d := 92) h) hg h.1.2.1) ?_
  rintro r ⟨g2, I2, J2⟩ ⟨c, e1, ⟨x1, x2, x3, x4⟩, hc⟩
  refine ⟨c, e1, ?_⟩
  have y1 : I2 1 = X := x1
  have y2 : gN g2 1 = N := x2
  have y3 : gK g2 1 = 20 := x3
  have y4 : gK g2 89 = 11 := x4
  rw [r_law_770 y3 y4, y2, y1, nadd i 1]
  refine ⟨v 1 (by decide), ?_⟩
  refine a_call_mono aTab aMX hc ?_
  rintro r3 ⟨g3, I3, J3⟩ ⟨c3, e3, e4, e5⟩
  refine ⟨c3, e3, ?_⟩
  rw [b_law_779, if_pos e4]
  exact hk _ e5
theorem lc_least (h : INV N X ow S LF g I J) (hi : i + 6 ≤ N) (hN : N ≤ 384) (hk : ∀ h3, INVx N X h3 → a_wp aTab aMX 100 m_law 1149 [.ref 1, .ref 6, .ref 89, .int (nI i)] [] h3 Q) : a_wp aTab aMX 100 m_law 784 [.ref 1, .ref 6, .ref 89, .int (nI i)] [] (g, I, J) Q := by
  have hg := h.1.1
  have v : ∀ k, k < 6 → vp_in (nI (i + k)) N := fun k hk => vp_in_nI (by omega) (by omega)
  rw [b_law_784 hg, h.1.2.2.1, h.2.1, nadd i 1]
  refine ⟨v 1 (by decide), ?_⟩
  refine a_call_mono aTab aMX (b_use (m_least (d := 88) h) hg h.1.2.1) ?_
  rintro r ⟨g2, I2, J2⟩ ⟨c, e1, ⟨x1, x2, x3, x4⟩, hc⟩
  refine ⟨c, e1, ?_⟩
  have y1 : I2 1 = X := x1
  have y2 : gN g2 1 = N := x2
  have y3 : gK g2 1 = 20 := x3
  have y4 : gK g2 89 = 11 := x4
  rw [r_law_793 y3 y4, y2, y1, nadd i 1]
  refine ⟨v 1 (by decide), ?_⟩
  refine a_call_mono aTab aMX hc ?_
  rintro r3 ⟨g3, I3, J3⟩ ⟨c3, e3, e4, e5⟩
  refine ⟨c3, e3, ?_⟩
  rw [b_law_802, if_pos e4]
  exact hk _ e5
theorem lc_holder (h : INV N X ow S LF g I J) (hi : i + 6 ≤ N) (hN : N ≤ 384) (hk : ∀ h3, INVx N X h3 → a_wp aTab aMX 100 m_law 1149 [.ref 1, .ref 6, .ref 89, .int (nI i)] [] h3 Q) : a_wp aTab aMX 100 m_law 807 [.ref 1, .ref 6, .ref 89, .int (nI i)] [] (g, I, J) Q := by
  have hg := h.1.1
  have v : ∀ k, k < 6 → vp_in (nI (i + k)) N := fun k hk => vp_in_nI (by omega) (by omega)
  rw [b_law_807 hg, h.1.2.2.1, h.2.1, nadd i 1, nadd i 2]
  refine ⟨v 1 (by decide), v 2 (by decide), ?_⟩
  refine a_call_mono aTab aMX (b_use (m_holder (d := 88) h) hg h.1.2.1) ?_
  rintro r ⟨g2, I2, J2⟩ ⟨c, e1, ⟨x1, x2, x3, x4⟩, hc⟩
  refine ⟨c, e1, ?_⟩
  have y1 : I2 1 = X := x1
  have y2 : gN g2 1 = N := x2
  have y3 : gK g2 1 = 20 := x3
  have y4 : gK g2 89 = 11 := x4
  rw [r_law_821 y3 y4, y2, y1, nadd i 1, nadd i 2]
  refine ⟨v 1 (by decide), v 2 (by decide), ?_⟩
  refine a_call_mono aTab aMX hc ?_
  rintro r3 ⟨g3, I3, J3⟩ ⟨c3, e3, e4, e5⟩
  refine ⟨c3, e3, ?_⟩
  rw [b_law_835, if_pos e4]
  exact hk _ e5
theorem lc_passed (h : INV N X ow S LF g I J) (hi : i + 6 ≤ N) (hN : N ≤ 384) (hk : ∀ h3, INVx N X h3 → a_wp aTab aMX 100 m_law 1149 [.ref 1, .ref 6, .ref 89, .int (nI i)] [] h3 Q) : a_wp aTab aMX 100 m_law 840 [.ref 1, .ref 6, .ref 89, .int (nI i)] [] (g, I, J) Q := by
  have hg := h.1.1
  have v : ∀ k, k < 6 → vp_in (nI (i + k)) N := fun k hk => vp_in_nI (by omega) (by omega)
  rw [b_law_840 hg, h.1.2.2.1, h.2.1, nadd i 1]
  refine ⟨v 1 (by decide), ?_⟩
  refine a_call_mono aTab aMX (b_use (m_passed (d := 88) h) hg h.1.2.1) ?_
  rintro r ⟨g2, I2, J2⟩ ⟨c, e1, ⟨x1, x2, x3, x4⟩, hc⟩
  refine ⟨c, e1, ?_⟩
  have y1 : I2 1 = X := x1
  have y2 : gN g2 1 = N := x2
  have y3 : gK g2 1 = 20 := x3
  have y4 : gK g2 89 = 11 := x4
  rw [r_law_849 y3 y4, y2, y1, nadd i 1]
  refine ⟨v 1 (by decide), ?_⟩
  refine a_call_mono aTab aMX hc ?_
  rintro r3 ⟨g3, I3, J3⟩ ⟨c3, e3, e4, e5⟩
  refine ⟨c3, e3, ?_⟩
  rw [b_law_858, if_pos e4]
  exact hk _ e5
theorem lc_fewest (h : INV N X ow S LF g I J) (hi : i + 6 ≤ N) (hN : N ≤ 384) (hk : ∀ h3, INVx N X h3 → a_wp aTab aMX 100 m_law 1149 [.ref 1, .ref 6, .ref 89, .int (nI i)] [] h3 Q) : a_wp aTab aMX 100 m_law 863 [.ref 1, .ref 6, .ref 89, .int (nI i)] [] (g, I, J) Q := by
  have hg := h.1.1
  rw [b_law_863 hg]
  refine a_call_mono aTab aMX (b_use (m_fewest (d := 92) h) hg h.1.2.1) ?_
  rintro r ⟨g2, I2, J2⟩ ⟨c, e1, ⟨x1, x2, x3, x4⟩, hc⟩
  refine ⟨c, e1, ?_⟩
  have y1 : I2 1 = X := x1
  have y2 : gN g2 1 = N := x2
  have y3 : gK g2 1 = 20 := x3
  have y4 : gK g2 89 = 11 := x4
  rw [r_law_867 y3 y4]
  refine a_call_mono aTab aMX hc ?_
  rintro r3 ⟨g3, I3, J3⟩ ⟨c3, e3, e4, e5⟩
  refine ⟨c3, e3, ?_⟩
  rw [b_law_871, if_pos e4]
  exact hk _ e5
theorem lc_barred (h : INV N X ow S LF g I J) (hi : i + 6 ≤ N) (hN : N ≤ 384) (hk : ∀ h3, INVx N X h3 → a_wp aTab aMX 100 m_law 1149 [.ref 1, .ref 6, .ref 89, .int (nI i)] [] h3 Q) : a_wp aTab aMX 100 m_law 876 [.ref 1, .ref 6, .ref 89, .int (nI i)] [] (g, I, J) Q := by
  have hg := h.1.1
  have v : ∀ k, k < 6 → vp_in (nI (i + k)) N := fun k hk => vp_in_nI (by omega) (by omega)
  rw [b_law_876 hg, h.1.2.2.1, h.2.1, nadd i 1]
  refine ⟨v 1 (by decide), ?_⟩
  refine a_call_mono aTab aMX (b_use (m_barred (d := 91) h) hg h.1.2.1) ?_
  rintro r ⟨g2, I2, J2⟩ ⟨c, e1, ⟨x1, x2, x3, x4⟩, hc⟩
  refine ⟨c, e1, ?_⟩
  have y1 : I2 1 = X := x1
  have y2 : gN g2 1 = N := x2
  have y3 : gK g2 1 = 20 := x3
  have y4 : gK g2 89 = 11 := x4
  rw [r_law_885 y3 y4, y2, y1, nadd i 1]
  refine ⟨v 1 (by decide), ?_⟩
  refine a_call_mono aTab aMX hc ?_
  rintro r3 ⟨g3, I3, J3⟩ ⟨c3, e3, e4, e5⟩
  refine ⟨c3, e3, ?_⟩
  rw [b_law_894, if_pos e4]
  exact hk _ e5
theorem lc_made (h : INV N X ow S LF g I J) (hi : i + 6 ≤ N) (hN : N ≤ 384) (hk : ∀ h3, INVx N X h3 → a_wp aTab aMX 100 m_law 1149 [.ref 1, .ref 6, .ref 89, .int (nI i)] [] h3 Q) : a_wp aTab aMX 100 m_law 899 [.ref 1, .ref 6, .ref 89, .int (nI i)] [] (g, I, J) Q := by
  have hg := h.1.1
  have v : ∀ k, k < 6 → vp_in (nI (i + k)) N := fun k hk => vp_in_nI (by omega) (by omega)
  rw [b_law_899 hg, h.1.2.2.1, h.2.1, nadd i 1, nadd i 2]
  refine ⟨v 1 (by decide), v 2 (by decide), ?_⟩
  refine a_call_mono aTab aMX (b_use (m_made (d := 92) h) hg h.1.2.1) ?_
  rintro r ⟨g2, I2, J2⟩ ⟨c, e1, ⟨x1, x2, x3, x4⟩, hc⟩
  refine ⟨c, e1, ?_⟩
  have y1 : I2 1 = X := x1
  have y2 : gN g2 1 = N := x2
  have y3 : gK g2 1 = 20 := x3
  have y4 : gK g2 89 = 11 := x4
  rw [r_law_913 y3 y4, y2, y1, nadd i 1, nadd i 2]
  refine ⟨v 1 (by decide), v 2 (by decide), ?_⟩
  refine a_call_mono aTab aMX hc ?_
  rintro r3 ⟨g3, I3, J3⟩ ⟨c3, e3, e4, e5⟩
  refine ⟨c3, e3, ?_⟩
  rw [b_law_927, if_pos e4]
  exact hk _ e5
theorem lc_who (h : INV N X ow S LF g I J) (hi : i + 6 ≤ N) (hN : N ≤ 384) (hk : ∀ h3, INVx N X h3 → a_wp aTab aMX 100 m_law 1149 [.ref 1, .ref 6, .ref 89, .int (nI i)] [] h3 Q) : a_wp aTab aMX 100 m_law 932 [.ref 1, .ref 6, .ref 89, .int (nI i)] [] (g, I, J) Q := by
  have hg := h.1.1
  have v : ∀ k, k < 6 → vp_in (nI (i + k)) N := fun k hk => vp_in_nI (by omega) (by omega)
  rw [b_law_932 hg, h.1.2.2.1, h.2.1, nadd i 1, nadd i 2, nadd i 3]
  refine ⟨v 1 (by decide), v 2 (by decide), v 3 (by decide), ?_⟩
  refine a_call_mono aTab aMX (b_use (m_who (d := 92) h) hg h.1.2.1) ?_
  rintro r ⟨g2, I2, J2⟩ ⟨c, e1, ⟨x1, x2, x3, x4⟩, hc⟩
  refine ⟨c, e1, ?_⟩
  have y1 : I2 1 = X := x1
  have y2 : gN g2 1 = N := x2
  have y3 : gK g2 1 = 20 := x3
  have y4 : gK g2 89 = 11 := x4
  rw [r_law_951 y3 y4, y2, y1, nadd i 1, nadd i 2, nadd i 3]
  refine ⟨v 1 (by decide), v 2 (by decide), v 3 (by decide), ?_⟩
  refine a_call_mono aTab aMX hc ?_
  rintro r3 ⟨g3, I3, J3⟩ ⟨c3, e3, e4, e5⟩
  refine ⟨c3, e3, ?_⟩
  rw [b_law_970, if_pos e4]
  exact hk _ e5
theorem lc_sheet (h : INV N X ow S LF g I J) (hi : i + 6 ≤ N) (hN : N ≤ 384) (hk : ∀ h3, INVx N X h3 → a_wp aTab aMX 100 m_law 1149 [.ref 1, .ref 6, .ref 89, .int (nI i)] [] h3 Q) : a_wp aTab aMX 100 m_law 975 [.ref 1, .ref 6, .ref 89, .int (nI i)] [] (g, I, J) Q := by
  have hg := h.1.1
  have v : ∀ k, k < 6 → vp_in (nI (i + k)) N := fun k hk => vp_in_nI (by omega) (by omega)
  rw [b_law_975 hg, h.1.2.2.1, h.2.1, nadd i 1]
  refine ⟨v 1 (by decide), ?_⟩
  refine a_call_mono aTab aMX (b_use (m_sheet (d := 98) h) hg h.1.2.1) ?_
  rintro r ⟨g2, I2, J2⟩ ⟨c, e1, ⟨x1, x2, x3, x4⟩, hc⟩
  refine ⟨c, e1, ?_⟩
  have y1 : I2 1 = X := x1
  have y2 : gN g2 1 = N := x2
  have y3 : gK g2 1 = 20 := x3
  have y4 : gK g2 89 = 11 := x4
  rw [r_law_984 y3 y4, y2, y1, nadd i 1]
  refine ⟨v 1 (by decide), ?_⟩
  refine a_call_mono aTab aMX hc ?_
  rintro r3 ⟨g3, I3, J3⟩ ⟨c3, e3, e4, e5⟩
  refine ⟨c3, e3, ?_⟩
  rw [b_law_993, if_pos e4]
  exact hk _ e5
theorem lc_copy (h : INV N X ow S LF g I J) (hi : i + 6 ≤ N) (hN : N ≤ 384) (hk : ∀ h3, INVx N X h3 → a_wp aTab aMX 100 m_law 1149 [.ref 1, .ref 6, .ref 89, .int (nI i)] [] h3 Q) : a_wp aTab aMX 100 m_law 998 [.ref 1, .ref 6, .ref 89, .int (nI i)] [] (g, I, J) Q := by
  have hg := h.1.1
  have v : ∀ k, k < 6 → vp_in (nI (i + k)) N := fun k hk => vp_in_nI (by omega) (by omega)
  rw [b_law_998 hg, h.1.2.2.1, h.2.1, nadd i 1]
  refine ⟨v 1 (by decide), ?_⟩
  refine a_call_mono aTab aMX (b_use (m_copy (d := 95) h) hg h.1.2.1) ?_
  rintro r ⟨g2, I2, J2⟩ ⟨c, e1, ⟨x1, x2, x3, x4⟩, hc⟩
  refine ⟨c, e1, ?_⟩
  have y1 : I2 1 = X := x1
  have y2 : gN g2 1 = N := x2
  have y3 : gK g2 1 = 20 := x3
  have y4 : gK g2 89 = 11 := x4
  rw [r_law_1007 y3 y4, y2, y1, nadd i 1]
  refine ⟨v 1 (by decide), ?_⟩
  refine a_call_mono aTab aMX hc ?_
  rintro r3 ⟨g3, I3, J3⟩ ⟨c3, e3, e4, e5⟩
  refine ⟨c3, e3, ?_⟩
  rw [b_law_1016, if_pos e4]
  exact hk _ e5
theorem lc_show (h : INV N X ow S LF g I J) (hi : i + 6 ≤ N) (hN : N ≤ 384) (hk : ∀ h3, INVx N X h3 → a_wp aTab aMX 100 m_law 1149 [.ref 1, .ref 6, .ref 89, .int (nI i)] [] h3 Q) : a_wp aTab aMX 100 m_law 1021 [.ref 1, .ref 6, .ref 89, .int (nI i)] [] (g, I, J) Q := by
  have hg := h.1.1
  have v : ∀ k, k < 6 → vp_in (nI (i + k)) N := fun k hk => vp_in_nI (by omega) (by omega)
  rw [b_law_1021 hg, h.1.2.2.1, h.2.1, nadd i 1]
  refine ⟨v 1 (by decide), ?_⟩
  refine a_call_mono aTab aMX (b_use (m_show (d := 88) h) hg h.1.2.1) ?_
  rintro r ⟨g2, I2, J2⟩ ⟨c, e1, ⟨x1, x2, x3, x4⟩, hc⟩
  refine ⟨c, e1, ?_⟩
  have y1 : I2 1 = X := x1
  have y2 : gN g2 1 = N := x2
  have y3 : gK g2 1 = 20 := x3
  have y4 : gK g2 89 = 11 := x4
  rw [r_law_1030 y3 y4, y2, y1, nadd i 1]
  refine ⟨v 1 (by decide), ?_⟩
  refine a_call_mono aTab aMX hc ?_
  rintro r3 ⟨g3, I3, J3⟩ ⟨c3, e3, e4, e5⟩
  refine ⟨c3, e3, ?_⟩
  rw [b_law_1039, if_pos e4]
  exact hk _ e5
theorem lc_slipped (h : INV N X ow S LF g I J) (hi : i + 6 ≤ N) (hN : N ≤ 384) (hk : ∀ h3, INVx N X h3 → a_wp aTab aMX 100 m_law 1149 [.ref 1, .ref 6, .ref 89, .int (nI i)] [] h3 Q) : a_wp aTab aMX 100 m_law 1044 [.ref 1, .ref 6, .ref 89, .int (nI i)] [] (g, I, J) Q := by
  have hg := h.1.1
  have v : ∀ k, k < 6 → vp_in (nI (i + k)) N := fun k hk => vp_in_nI (by omega) (by omega)
  rw [b_law_1044 hg, h.1.2.2.1, h.2.1, nadd i 1]
  refine ⟨v 1 (by decide), ?_⟩
  refine a_call_mono aTab aMX (b_use (m_slipped (d := 97) h) hg h.1.2.1) ?_
  rintro r ⟨g2, I2, J2⟩ ⟨c, e1, ⟨x1, x2, x3, x4⟩, hc⟩
  refine ⟨c, e1, ?_⟩
  have y1 : I2 1 = X := x1
  have y2 : gN g2 1 = N := x2
  have y3 : gK g2 1 = 20 := x3
  have y4 : gK g2 89 = 11 := x4
  rw [r_law_1053 y3 y4, y2, y1, nadd i 1]
  refine ⟨v 1 (by decide), ?_⟩
  refine a_call_mono aTab aMX hc ?_
  rintro r3 ⟨g3, I3, J3⟩ ⟨c3, e3, e4, e5⟩
  refine ⟨c3, e3, ?_⟩
  rw [b_law_1062, if_pos e4]
  exact hk _ e5
theorem lc_image (h : INV N X ow S LF g I J) (hi : i + 6 ≤ N) (hN : N ≤ 384) (hk : ∀ h3, INVx N X h3 → a_wp aTab aMX 100 m_law 1149 [.ref 1, .ref 6, .ref 89, .int (nI i)] [] h3 Q) : a_wp aTab aMX 100 m_law 1067 [.ref 1, .ref 6, .ref 89, .int (nI i)] [] (g, I, J) Q := by
  have hg := h.1.1
  have v : ∀ k, k < 6 → vp_in (nI (i + k)) N := fun k hk => vp_in_nI (by omega) (by omega)
  rw [b_law_1067 hg, h.1.2.2.1, h.2.1, nadd i 1]
  refine ⟨v 1 (by decide), ?_⟩
  refine a_call_mono aTab aMX (b_use (m_image (d := 97) h) hg h.1.2.1) ?_
  rintro r ⟨g2, I2, J2⟩ ⟨c, e1, ⟨x1, x2, x3, x4⟩, hc⟩
  refine ⟨c, e1, ?_⟩
  have y1 : I2 1 = X := x1
  have y2 : gN g2 1 = N := x2
  have y3 : gK g2 1 = 20 := x3
  have y4 : gK g2 89 = 11 := x4
  rw [r_law_1076 y3 y4, y2, y1, nadd i 1]
  refine ⟨v 1 (by decide), ?_⟩
  refine a_call_mono aTab aMX hc ?_
  rintro r3 ⟨g3, I3, J3⟩ ⟨c3, e3, e4, e5⟩
  refine ⟨c3, e3, ?_⟩
  rw [b_law_1085, if_pos e4]
  exact hk _ e5
theorem lc_back (h : INV N X ow S LF g I J) (hi : i + 6 ≤ N) (hN : N ≤ 384) (hk : ∀ h3, INVx N X h3 → a_wp aTab aMX 100 m_law 1149 [.ref 1, .ref 6, .ref 89, .int (nI i)] [] h3 Q) : a_wp aTab aMX 100 m_law 1090 [.ref 1, .ref 6, .ref 89, .int (nI i)] [] (g, I, J) Q := by
  have hg := h.1.1
  have v : ∀ k, k < 6 → vp_in (nI (i + k)) N := fun k hk => vp_in_nI (by omega) (by omega)
  rw [b_law_1090 hg, h.1.2.2.1, h.2.1, nadd i 1]
  refine ⟨v 1 (by decide), ?_⟩
  refine a_call_mono aTab aMX (b_use (m_back (d := 97) h) hg h.1.2.1) ?_
  rintro r ⟨g2, I2, J2⟩ ⟨c, e1, ⟨x1, x2, x3, x4⟩, hc⟩
  refine ⟨c, e1, ?_⟩
  have y1 : I2 1 = X := x1
  have y2 : gN g2 1 = N := x2
  have y3 : gK g2 1 = 20 := x3
  have y4 : gK g2 89 = 11 := x4
  rw [r_law_1099 y3 y4, y2, y1, nadd i 1]
  refine ⟨v 1 (by decide), ?_⟩
  refine a_call_mono aTab aMX hc ?_
  rintro r3 ⟨g3, I3, J3⟩ ⟨c3, e3, e4, e5⟩
  refine ⟨c3, e3, ?_⟩
  rw [b_law_1108, if_pos e4]
  exact hk _ e5
theorem lc_count (h : INV N X ow S LF g I J) (hi : i + 6 ≤ N) (hN : N ≤ 384) (hk : ∀ h3, INVx N X h3 → a_wp aTab aMX 100 m_law 1149 [.ref 1, .ref 6, .ref 89, .int (nI i)] [] h3 Q) : a_wp aTab aMX 100 m_law 1113 [.ref 1, .ref 6, .ref 89, .int (nI i)] [] (g, I, J) Q := by
  have hg := h.1.1
  have v : ∀ k, k < 6 → vp_in (nI (i + k)) N := fun k hk => vp_in_nI (by omega) (by omega)
  rw [b_law_1113 hg, h.1.2.2.1, h.2.1, nadd i 1]
  refine ⟨v 1 (by decide), ?_⟩
  refine a_call_mono aTab aMX (b_use (m_count (d := 95) h) hg h.1.2.1) ?_
  rintro r ⟨g2, I2, J2⟩ ⟨c, e1, ⟨x1, x2, x3, x4⟩, hc⟩
  refine ⟨c, e1, ?_⟩
  have y1 : I2 1 = X := x1
  have y2 : gN g2 1 = N := x2
  have y3 : gK g2 1 = 20 := x3
  have y4 : gK g2 89 = 11 := x4
  rw [r_law_1122 y3 y4, y2, y1, nadd i 1]
  refine ⟨v 1 (by decide), ?_⟩
  refine a_call_mono aTab aMX hc ?_
  rintro r3 ⟨g3, I3, J3⟩ ⟨c3, e3, e4, e5⟩
  refine ⟨c3, e3, ?_⟩
  rw [b_law_1131, if_pos e4]
  exact hk _ e5
theorem lc_status (h : INV N X ow S LF g I J) (hi : i + 6 ≤ N) (hN : N ≤ 384) (hk : ∀ h3, INVx N X h3 → a_wp aTab aMX 100 m_law 1149 [.ref 1, .ref 6, .ref 89, .int (nI i)] [] h3 Q) : a_wp aTab aMX 100 m_law 1136 [.ref 1, .ref 6, .ref 89, .int (nI i)] [] (g, I, J) Q := by
  have hg := h.1.1
  rw [b_law_1136 hg]
  refine a_call_mono aTab aMX (b_use (m_status (d := 99) h) hg h.1.2.1) ?_
  rintro r ⟨g2, I2, J2⟩ ⟨c, e1, ⟨x1, x2, x3, x4⟩, hc⟩
  refine ⟨c, e1, ?_⟩
  have y1 : I2 1 = X := x1
  have y2 : gN g2 1 = N := x2
  have y3 : gK g2 1 = 20 := x3
  have y4 : gK g2 89 = 11 := x4
  rw [r_law_1140 y3 y4]
  refine a_call_mono aTab aMX hc ?_
  rintro r3 ⟨g3, I3, J3⟩ ⟨c3, e3, e4, e5⟩
  refine ⟨c3, e3, ?_⟩
  rw [b_law_1144, if_pos e4]
  exact hk _ e5
end LCA
