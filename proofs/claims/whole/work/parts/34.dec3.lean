theorem dM_thrown : kx_dec mM_thrown.2.1 tM_thrown := by
  unfold kx_dec
  decide +kernel
theorem dM_create : kx_dec mM_create.2.1 tM_create := by
  unfold kx_dec
  decide +kernel
theorem dM_out : kx_dec mM_out.2.1 tM_out := by
  unfold kx_dec
  decide +kernel
theorem dM_begin : kx_dec mM_begin.2.1 tM_begin := by
  unfold kx_dec
  decide +kernel
theorem dM_fail : kx_dec mM_fail.2.1 tM_fail := by
  unfold kx_dec
  decide +kernel
theorem dM_commit : kx_dec mM_commit.2.1 tM_commit := by
  unfold kx_dec
  decide +kernel
theorem dM_closed : kx_dec mM_closed.2.1 tM_closed := by
  unfold kx_dec
  decide +kernel
theorem dM_abort : kx_dec mM_abort.2.1 tM_abort := by
  unfold kx_dec
  decide +kernel
theorem dM_breakUp : kx_dec mM_breakUp.2.1 tM_breakUp := by
  unfold kx_dec
  decide +kernel
theorem dM_type : kx_dec mM_type.2.1 tM_type := by
  unfold kx_dec
  decide +kernel
theorem dM_where : kx_dec mM_where.2.1 tM_where := by
  unfold kx_dec
  decide +kernel
theorem dM_read : kx_dec mM_read.2.1 tM_read := by
  unfold kx_dec
  decide +kernel
theorem dM_settingText : kx_dec mM_settingText.2.1 tM_settingText := by
  unfold kx_dec
  decide +kernel
theorem dM_term : kx_dec mM_term.2.1 tM_term := by
  unfold kx_dec
  decide +kernel
theorem dM_item : kx_dec mM_item.2.1 tM_item := by
  unfold kx_dec
  decide +kernel
theorem dM_add : kx_dec mM_add.2.1 tM_add := by
  unfold kx_dec
  decide +kernel
theorem dM_arithmetic : kx_dec mM_arithmetic.2.1 tM_arithmetic := by
  unfold kx_dec
  decide +kernel
theorem dM_condition : kx_dec mM_condition.2.1 tM_condition := by
  unfold kx_dec
  decide +kernel
theorem dM_part : kx_dec mM_part.2.1 tM_part := by
  unfold kx_dec
  decide +kernel
theorem dM_push : kx_dec mM_push.2.1 tM_push := by
  unfold kx_dec
  decide +kernel
theorem dM_comparison : kx_dec mM_comparison.2.1 tM_comparison := by
  unfold kx_dec
  decide +kernel
theorem dM_endPart : kx_dec mM_endPart.2.1 tM_endPart := by
  unfold kx_dec
  decide +kernel
