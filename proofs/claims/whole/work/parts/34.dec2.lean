theorem dR_holding : kx_dec mR_holding.2.1 tR_holding := by
  unfold kx_dec
  decide +kernel
theorem dP_holds : kx_dec mP_holds.2.1 tP_holds := by
  unfold kx_dec
  decide +kernel
theorem dP_work : kx_dec mP_work.2.1 tP_work := by
  unfold kx_dec
  decide +kernel
theorem dP_workStep : kx_dec mP_workStep.2.1 tP_workStep := by
  unfold kx_dec
  decide +kernel
theorem dP_pop : kx_dec mP_pop.2.1 tP_pop := by
  unfold kx_dec
  decide +kernel
theorem dP_truth : kx_dec mP_truth.2.1 tP_truth := by
  unfold kx_dec
  decide +kernel
theorem dP_combine : kx_dec mP_combine.2.1 tP_combine := by
  unfold kx_dec
  decide +kernel
theorem dP_divide : kx_dec mP_divide.2.1 tP_divide := by
  unfold kx_dec
  decide +kernel
theorem dP_push : kx_dec mP_push.2.1 tP_push := by
  unfold kx_dec
  decide +kernel
theorem dS_add : kx_dec mS_add.2.1 tS_add := by
  unfold kx_dec
  decide +kernel
theorem dB_markRead : kx_dec mB_markRead.2.1 tB_markRead := by
  unfold kx_dec
  decide +kernel
theorem dL_update : kx_dec mL_update.2.1 tL_update := by
  unfold kx_dec
  decide +kernel
theorem dV_update : kx_dec mV_update.2.1 tV_update := by
  unfold kx_dec
  decide +kernel
theorem dV_refuseSettingsBeyond : kx_dec mV_refuseSettingsBeyond.2.1 tV_refuseSettingsBeyond := by
  unfold kx_dec
  decide +kernel
theorem dV_workOutSettings : kx_dec mV_workOutSettings.2.1 tV_workOutSettings := by
  unfold kx_dec
  decide +kernel
theorem dV_write : kx_dec mV_write.2.1 tV_write := by
  unfold kx_dec
  decide +kernel
theorem dV_isTooLate : kx_dec mV_isTooLate.2.1 tV_isTooLate := by
  unfold kx_dec
  decide +kernel
theorem dL_delete : kx_dec mL_delete.2.1 tL_delete := by
  unfold kx_dec
  decide +kernel
theorem dV_delete : kx_dec mV_delete.2.1 tV_delete := by
  unfold kx_dec
  decide +kernel
theorem dL_result : kx_dec mL_result.2.1 tL_result := by
  unfold kx_dec
  decide +kernel
theorem dV_result : kx_dec mV_result.2.1 tV_result := by
  unfold kx_dec
  decide +kernel
theorem dV_mustBeColumn : kx_dec mV_mustBeColumn.2.1 tV_mustBeColumn := by
  unfold kx_dec
  decide +kernel
theorem dL_mean : kx_dec mL_mean.2.1 tL_mean := by
  unfold kx_dec
  decide +kernel
theorem dV_mean : kx_dec mV_mean.2.1 tV_mean := by
  unfold kx_dec
  decide +kernel
theorem dS_sum : kx_dec mS_sum.2.1 tS_sum := by
  unfold kx_dec
  decide +kernel
theorem dL_versions : kx_dec mL_versions.2.1 tL_versions := by
  unfold kx_dec
  decide +kernel
theorem dV_versions : kx_dec mV_versions.2.1 tV_versions := by
  unfold kx_dec
  decide +kernel
theorem dM_init : kx_dec mM_init.2.1 tM_init := by
  unfold kx_dec
  decide +kernel
