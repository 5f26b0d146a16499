/-! the constants out of the words of the statement (written by gen_cons.py) -/
def z_fl : List Cond := flatC (Jvm.Cond.and given_1 narrow_1)
def z_tV : Term := .field (.string "BarkMoneyModel" 177) "java/lang/String" "value" "[B"
theorem z_fl_key : ∀ j : Nat, j < 129 → z_fl[86 + j]? = some (Cond.eq (.elem z_tV (.int (Int32.ofNat j))) (.int (x_key.getD j 0))) := by decide +kernel
theorem z_fl_wds : ∀ j : Nat, j < 25 → z_fl[7 + j]? = some (Cond.eq (.elem (.static "BarkMoney$TextReader" "WORDS" "[J") (.int (Int32.ofNat j))) (.long (x_wds.getD j 0))) := by decide +kernel
theorem z_fl_si0 : ∀ j : Nat, j < 3 → z_fl[35 + j]? = some (Cond.eq (.elem (.static "BarkMoney" "LEAST_RULE" "[I") (.int (Int32.ofNat j))) (.int (x_si0.getD j 0))) := by decide +kernel
theorem z_fl_si1 : ∀ j : Nat, j < 3 → z_fl[41 + j]? = some (Cond.eq (.elem (.static "BarkMoney" "MOST_RULE" "[I") (.int (Int32.ofNat j))) (.int (x_si1.getD j 0))) := by decide +kernel
theorem z_fl_aW : z_fl[5]? = some (Cond.arrayOf (.static "BarkMoney$TextReader" "WORDS" "[J") .long) := by decide +kernel
theorem z_fl_lW : z_fl[6]? = some (Cond.eq (.length (.static "BarkMoney$TextReader" "WORDS" "[J")) (.int 25)) := by decide +kernel
theorem z_fl_aL : z_fl[33]? = some (Cond.arrayOf (.static "BarkMoney" "LEAST_RULE" "[I") .int) := by decide +kernel
theorem z_fl_lL : z_fl[34]? = some (Cond.eq (.length (.static "BarkMoney" "LEAST_RULE" "[I")) (.int 3)) := by decide +kernel
theorem z_fl_aM : z_fl[39]? = some (Cond.arrayOf (.static "BarkMoney" "MOST_RULE" "[I") .int) := by decide +kernel
theorem z_fl_lM : z_fl[40]? = some (Cond.eq (.length (.static "BarkMoney" "MOST_RULE" "[I")) (.int 3)) := by decide +kernel
theorem z_fl_aV : z_fl[84]? = some (Cond.arrayOf z_tV .byte) := by decide +kernel
theorem z_fl_lV : z_fl[85]? = some (Cond.eq (.length z_tV) (.int 129)) := by decide +kernel
theorem z_fl_ex : z_fl[82]? = some (Cond.exactly (.string "BarkMoneyModel" 177) "java/lang/String") := by decide +kernel
theorem z_fl_co : z_fl[83]? = some (Cond.eq (.field (.string "BarkMoneyModel" 177) "java/lang/String" "coder" "B") (.int 0)) := by decide +kernel
theorem z_fl_cs : z_fl[44]? = some (Cond.eq (.static "java/lang/String" "COMPACT_STRINGS" "Z") (.int 1)) := by decide +kernel
theorem z_fl_sf : z_fl[45]? = some (Cond.isRef (.static "jdk/internal/util/Preconditions" "SIOOBE_FORMATTER" "Ljava/util/function/BiFunction;")) := by decide +kernel
theorem z_tb_lW : Cond.laysStatic "BarkMoney$TextReader" "WORDS" "[J" ∈ lw_tbl := List.mem_append_right _ (List.mem_of_getElem? (i := 463) (by decide +kernel))
theorem z_tb_iW : Cond.initialized "BarkMoney$TextReader" ∈ lw_tbl := List.mem_append_right _ (List.mem_of_getElem? (i := 3) (by decide +kernel))
theorem z_tb_lL : Cond.laysStatic "BarkMoney" "LEAST_RULE" "[I" ∈ lw_tbl := List.mem_append_right _ (List.mem_of_getElem? (i := 500) (by decide +kernel))
theorem z_tb_iL : Cond.initialized "BarkMoney" ∈ lw_tbl := List.mem_append_right _ (List.mem_of_getElem? (i := 1) (by decide +kernel))
theorem z_tb_lM : Cond.laysStatic "BarkMoney" "MOST_RULE" "[I" ∈ lw_tbl := List.mem_append_right _ (List.mem_of_getElem? (i := 502) (by decide +kernel))
theorem z_tb_iM : Cond.initialized "BarkMoney" ∈ lw_tbl := List.mem_append_right _ (List.mem_of_getElem? (i := 1) (by decide +kernel))
theorem z_tb_lC : Cond.laysStatic "java/lang/String" "COMPACT_STRINGS" "Z" ∈ lw_tbl := List.mem_append_right _ (List.mem_of_getElem? (i := 1362) (by decide +kernel))
theorem z_tb_iC : Cond.initialized "java/lang/String" ∈ lw_tbl := List.mem_append_right _ (List.mem_of_getElem? (i := 13) (by decide +kernel))
theorem z_tb_lS : Cond.laysStatic "jdk/internal/util/Preconditions" "SIOOBE_FORMATTER" "Ljava/util/function/BiFunction;" ∈ lw_tbl := List.mem_append_right _ (List.mem_of_getElem? (i := 1378) (by decide +kernel))
theorem z_tb_iS : Cond.initialized "jdk/internal/util/Preconditions" ∈ lw_tbl := List.mem_append_right _ (List.mem_of_getElem? (i := 15) (by decide +kernel))
theorem z_tb_sr : Cond.stringRef "BarkMoneyModel" 177 x_ktx ∈ lw_tbl := List.mem_append_right _ (List.mem_of_getElem? (i := 1348) (by decide +kernel))
theorem z_tb_ao8 : Cond.arrayOver (.object RX8) ∈ lw_tbl := List.mem_append_right _ (List.mem_of_getElem? (i := 27) (by decide +kernel))
theorem z_tb_ao0 : Cond.arrayOver (.object RX0) ∈ lw_tbl := List.mem_append_right _ (List.mem_of_getElem? (i := 247) (by decide +kernel))
theorem z_tb_ao4 : Cond.arrayOver (.object RX4) ∈ lw_tbl := List.mem_append_right _ (List.mem_of_getElem? (i := 248) (by decide +kernel))
