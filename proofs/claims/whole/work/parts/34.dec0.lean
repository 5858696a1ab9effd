theorem dV_init : kx_dec mV_init.2.1 tV_init := by
  unfold kx_dec
  decide +kernel
theorem dT_init : kx_dec mT_init.2.1 tT_init := by
  unfold kx_dec
  decide +kernel
theorem dP_init : kx_dec mP_init.2.1 tP_init := by
  unfold kx_dec
  decide +kernel
theorem dS_init : kx_dec mS_init.2.1 tS_init := by
  unfold kx_dec
  decide +kernel
theorem dV_clear : kx_dec mV_clear.2.1 tV_clear := by
  unfold kx_dec
  decide +kernel
theorem dV_settingsThere : kx_dec mV_settingsThere.2.1 tV_settingsThere := by
  unfold kx_dec
  decide +kernel
theorem dV_errorAt : kx_dec mV_errorAt.2.1 tV_errorAt := by
  unfold kx_dec
  decide +kernel
theorem dV_vacuum : kx_dec mV_vacuum.2.1 tV_vacuum := by
  unfold kx_dec
  decide +kernel
theorem dT_leastOpen : kx_dec mT_leastOpen.2.1 tT_leastOpen := by
  unfold kx_dec
  decide +kernel
theorem dV_sweep : kx_dec mV_sweep.2.1 tV_sweep := by
  unfold kx_dec
  decide +kernel
theorem dV_sweepRow : kx_dec mV_sweepRow.2.1 tV_sweepRow := by
  unfold kx_dec
  decide +kernel
theorem dR_has : kx_dec mR_has.2.1 tR_has := by
  unfold kx_dec
  decide +kernel
theorem dT_is : kx_dec mT_is.2.1 tT_is := by
  unfold kx_dec
  decide +kernel
theorem dR_drop : kx_dec mR_drop.2.1 tR_drop := by
  unfold kx_dec
  decide +kernel
theorem dV_count : kx_dec mV_count.2.1 tV_count := by
  unfold kx_dec
  decide +kernel
theorem dT_howMany : kx_dec mT_howMany.2.1 tT_howMany := by
  unfold kx_dec
  decide +kernel
theorem dV_allVersions : kx_dec mV_allVersions.2.1 tV_allVersions := by
  unfold kx_dec
  decide +kernel
theorem dB_versionsThere : kx_dec mB_versionsThere.2.1 tB_versionsThere := by
  unfold kx_dec
  decide +kernel
theorem dR_size : kx_dec mR_size.2.1 tR_size := by
  unfold kx_dec
  decide +kernel
theorem dV_rowsMade : kx_dec mV_rowsMade.2.1 tV_rowsMade := by
  unfold kx_dec
  decide +kernel
theorem dL_create : kx_dec mL_create.2.1 tL_create := by
  unfold kx_dec
  decide +kernel
theorem dV_create : kx_dec mV_create.2.1 tV_create := by
  unfold kx_dec
  decide +kernel
theorem dB_init : kx_dec mB_init.2.1 tB_init := by
  unfold kx_dec
  decide +kernel
theorem dR_init : kx_dec mR_init.2.1 tR_init := by
  unfold kx_dec
  decide +kernel
theorem dL_type : kx_dec mL_type.2.1 tL_type := by
  unfold kx_dec
  decide +kernel
theorem dV_type : kx_dec mV_type.2.1 tV_type := by
  unfold kx_dec
  decide +kernel
theorem dL_where : kx_dec mL_where.2.1 tL_where := by
  unfold kx_dec
  decide +kernel
theorem dV_where : kx_dec mV_where.2.1 tV_where := by
  unfold kx_dec
  decide +kernel
theorem dQ_init : kx_dec mQ_init.2.1 tQ_init := by
  unfold kx_dec
  decide +kernel
theorem dQ_readCondition : kx_dec mQ_readCondition.2.1 tQ_readCondition := by
  unfold kx_dec
  decide +kernel
theorem dQ_readAll : kx_dec mQ_readAll.2.1 tQ_readAll := by
  unfold kx_dec
  decide +kernel
theorem dQ_readPart : kx_dec mQ_readPart.2.1 tQ_readPart := by
  unfold kx_dec
  decide +kernel
theorem dQ_next : kx_dec mQ_next.2.1 tQ_next := by
  unfold kx_dec
  decide +kernel
