def TB : List Cond := lw_tbl.filter goodWord
theorem tb_of {w : Cond} (h : w ∈ lw_tbl) (hg : goodWord w = true) : w ∈ TB := List.mem_filter.mpr ⟨h, hg⟩
set_option maxRecDepth 20000 in
theorem tq1 : Cond.fieldLink RX9 9 "ZoneCompiler$Zone" "ruleRow" "[I" ∈ TB := tb_of (by decide +kernel) rfl
set_option maxRecDepth 20000 in
theorem tq2 : Cond.code yX9_ruleNumber cX9_ruleNumber 3 (some .int) ∈ TB := tb_of (by decide +kernel) rfl
set_option maxRecDepth 20000 in
theorem tq3 : Cond.selects RX9 yX9_putKey yX9_putKey ∈ TB := tb_of (by decide +kernel) rfl
