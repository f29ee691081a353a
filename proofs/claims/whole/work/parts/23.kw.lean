/-! ===== tables, laid by wip/whole/gen_tab.py out of the decode rows that are printed for the claim ===== -/
set_option maxRecDepth 100000 in
theorem k_inst : ∀ (ci : Nat) (r : vw_C), vwCl[ci]? = some r → Jvm.Cond.instantiable r.1 r.2.2 ∈ aW := fun ci r h => match ci, h with
  | 0, h => by cases h; exact tW1 195 rfl rfl
  | 1, h => by cases h; exact tW1 215 rfl rfl
  | 2, h => by cases h; exact tW1 185 rfl rfl
  | 3, h => by cases h; exact tW2 64 rfl rfl
  | 4, h => by cases h; exact tW2 9 rfl rfl
  | 5, h => by cases h; exact tW5 41 rfl rfl
  | 6, h => by cases h; exact tW1 141 rfl rfl
  | 7, h => by cases h; exact tW1 32 rfl rfl
  | 8, h => by cases h; exact tW1 47 rfl rfl
  | 9, h => by cases h; exact tW2 70 rfl rfl
  | 10, h => by cases h; exact tW1 24 rfl rfl
  | 11, h => by cases h; exact tW5 221 rfl rfl
  | n + 12, h => by cases h
theorem k_ovP : Jvm.Cond.arrayOver (.object RX5) ∈ aW := tW2 111 rfl rfl
theorem k_ovS : Jvm.Cond.arrayOver (.object RX7) ∈ aW := tW1 139 rfl rfl
theorem k_ovI : Jvm.Cond.arrayOver (.array .int) ∈ aW := tW1 221 rfl rfl
theorem k_ovJ : Jvm.Cond.arrayOver (.array .long) ∈ aW := tW4 159 rfl rfl
theorem k_iniC : Jvm.Cond.initialized RX10 ∈ aW := tW1 1 rfl rfl
theorem t0W {w : Jvm.Cond} (h : w ∈ tables_1) : w ∈ lw_tbl := List.mem_append_right _ h
theorem k_lsL : Jvm.Cond.laysStatic RX10 "LOWEST" "[I" ∈ tables_1 := List.mem_of_getElem? (i := 478) (by decide +kernel)
theorem k_lsH : Jvm.Cond.laysStatic RX10 "HIGHEST" "[I" ∈ tables_1 := List.mem_of_getElem? (i := 480) (by decide +kernel)
theorem k_lsF : Jvm.Cond.laysStatic RX10 "AT_FIRST" "[I" ∈ tables_1 := List.mem_of_getElem? (i := 38) (by decide +kernel)
theorem k_lsC : Jvm.Cond.laysStatic RJ0 "COMPACT_STRINGS" "Z" ∈ tables_1 := List.mem_of_getElem? (i := 604) (by decide +kernel)
theorem k_lsQ : Jvm.Cond.laysStatic RJ3 "SIOOBE_FORMATTER" "Ljava/util/function/BiFunction;" ∈ tables_1 := List.mem_of_getElem? (i := 620) (by decide +kernel)
theorem k_str : Jvm.Cond.stringRef RX6 151 "figure beat helper other x y deep sticks to at off pass slip bars if or and not " ∈ tables_1 := List.mem_of_getElem? (i := 594) (by decide +kernel)
