theorem dM_keep : kx_dec mM_keep.2.1 tM_keep := by
  unfold kx_dec
  decide +kernel
theorem dM_setting : kx_dec mM_setting.2.1 tM_setting := by
  unfold kx_dec
  decide +kernel
theorem dM_settings : kx_dec mM_settings.2.1 tM_settings := by
  unfold kx_dec
  decide +kernel
theorem dM_clear : kx_dec mM_clear.2.1 tM_clear := by
  unfold kx_dec
  decide +kernel
theorem dM_errorAt : kx_dec mM_errorAt.2.1 tM_errorAt := by
  unfold kx_dec
  decide +kernel
theorem dM_select : kx_dec mM_select.2.1 tM_select := by
  unfold kx_dec
  decide +kernel
theorem dM_noTable : kx_dec mM_noTable.2.1 tM_noTable := by
  unfold kx_dec
  decide +kernel
theorem dM_look : kx_dec mM_look.2.1 tM_look := by
  unfold kx_dec
  decide +kernel
theorem dM_held : kx_dec mM_held.2.1 tM_held := by
  unfold kx_dec
  decide +kernel
theorem dM_gone : kx_dec mM_gone.2.1 tM_gone := by
  unfold kx_dec
  decide +kernel
theorem dM_worked : kx_dec mM_worked.2.1 tM_worked := by
  unfold kx_dec
  decide +kernel
theorem dM_done : kx_dec mM_done.2.1 tM_done := by
  unfold kx_dec
  decide +kernel
theorem dM_mark : kx_dec mM_mark.2.1 tM_mark := by
  unfold kx_dec
  decide +kernel
theorem dM_update : kx_dec mM_update.2.1 tM_update := by
  unfold kx_dec
  decide +kernel
theorem dM_workSettings : kx_dec mM_workSettings.2.1 tM_workSettings := by
  unfold kx_dec
  decide +kernel
theorem dM_writeAll : kx_dec mM_writeAll.2.1 tM_writeAll := by
  unfold kx_dec
  decide +kernel
