theorem dQ_readComparison : kx_dec mQ_readComparison.2.1 tQ_readComparison := by
  unfold kx_dec
  decide +kernel
theorem dQ_readTerm : kx_dec mQ_readTerm.2.1 tQ_readTerm := by
  unfold kx_dec
  decide +kernel
theorem dQ_readItem : kx_dec mQ_readItem.2.1 tQ_readItem := by
  unfold kx_dec
  decide +kernel
theorem dP_isColumn : kx_dec mP_isColumn.2.1 tP_isColumn := by
  unfold kx_dec
  decide +kernel
theorem dP_add : kx_dec mP_add.2.1 tP_add := by
  unfold kx_dec
  decide +kernel
theorem dQ_isDigit : kx_dec mQ_isDigit.2.1 tQ_isDigit := by
  unfold kx_dec
  decide +kernel
theorem dQ_isCalculation : kx_dec mQ_isCalculation.2.1 tQ_isCalculation := by
  unfold kx_dec
  decide +kernel
theorem dQ_isComparison : kx_dec mQ_isComparison.2.1 tQ_isComparison := by
  unfold kx_dec
  decide +kernel
theorem dQ_skip : kx_dec mQ_skip.2.1 tQ_skip := by
  unfold kx_dec
  decide +kernel
theorem dQ_isJoin : kx_dec mQ_isJoin.2.1 tQ_isJoin := by
  unfold kx_dec
  decide +kernel
theorem dV_takeLine : kx_dec mV_takeLine.2.1 tV_takeLine := by
  unfold kx_dec
  decide +kernel
theorem dL_setting : kx_dec mL_setting.2.1 tL_setting := by
  unfold kx_dec
  decide +kernel
theorem dV_setting : kx_dec mV_setting.2.1 tV_setting := by
  unfold kx_dec
  decide +kernel
theorem dQ_readSetting : kx_dec mQ_readSetting.2.1 tQ_readSetting := by
  unfold kx_dec
  decide +kernel
theorem dL_begin : kx_dec mL_begin.2.1 tL_begin := by
  unfold kx_dec
  decide +kernel
theorem dV_begin : kx_dec mV_begin.2.1 tV_begin := by
  unfold kx_dec
  decide +kernel
theorem dT_beginNext : kx_dec mT_beginNext.2.1 tT_beginNext := by
  unfold kx_dec
  decide +kernel
theorem dL_commit : kx_dec mL_commit.2.1 tL_commit := by
  unfold kx_dec
  decide +kernel
theorem dV_commit : kx_dec mV_commit.2.1 tV_commit := by
  unfold kx_dec
  decide +kernel
theorem dV_mustBeOpen : kx_dec mV_mustBeOpen.2.1 tV_mustBeOpen := by
  unfold kx_dec
  decide +kernel
theorem dT_end : kx_dec mT_end.2.1 tT_end := by
  unfold kx_dec
  decide +kernel
theorem dL_abort : kx_dec mL_abort.2.1 tL_abort := by
  unfold kx_dec
  decide +kernel
theorem dV_abort : kx_dec mV_abort.2.1 tV_abort := by
  unfold kx_dec
  decide +kernel
theorem dV_breakOff : kx_dec mV_breakOff.2.1 tV_breakOff := by
  unfold kx_dec
  decide +kernel
theorem dB_dropAllOf : kx_dec mB_dropAllOf.2.1 tB_dropAllOf := by
  unfold kx_dec
  decide +kernel
theorem dL_insert : kx_dec mL_insert.2.1 tL_insert := by
  unfold kx_dec
  decide +kernel
theorem dV_insert : kx_dec mV_insert.2.1 tV_insert := by
  unfold kx_dec
  decide +kernel
theorem dV_tableThere : kx_dec mV_tableThere.2.1 tV_tableThere := by
  unfold kx_dec
  decide +kernel
theorem dV_breakTooLate : kx_dec mV_breakTooLate.2.1 tV_breakTooLate := by
  unfold kx_dec
  decide +kernel
theorem dB_addRow : kx_dec mB_addRow.2.1 tB_addRow := by
  unfold kx_dec
  decide +kernel
theorem dR_write : kx_dec mR_write.2.1 tR_write := by
  unfold kx_dec
  decide +kernel
theorem dN_init : kx_dec mN_init.2.1 tN_init := by
  unfold kx_dec
  decide +kernel
theorem dN_put : kx_dec mN_put.2.1 tN_put := by
  unfold kx_dec
  decide +kernel
theorem dL_select : kx_dec mL_select.2.1 tL_select := by
  unfold kx_dec
  decide +kernel
theorem dV_select : kx_dec mV_select.2.1 tV_select := by
  unfold kx_dec
  decide +kernel
theorem dV_choose : kx_dec mV_choose.2.1 tV_choose := by
  unfold kx_dec
  decide +kernel
