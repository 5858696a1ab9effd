theorem dM_tooLate : kx_dec mM_tooLate.2.1 tM_tooLate := by
  unfold kx_dec
  decide +kernel
theorem dM_broken : kx_dec mM_broken.2.1 tM_broken := by
  unfold kx_dec
  decide +kernel
theorem dM_write : kx_dec mM_write.2.1 tM_write := by
  unfold kx_dec
  decide +kernel
theorem dM_delete : kx_dec mM_delete.2.1 tM_delete := by
  unfold kx_dec
  decide +kernel
theorem dM_insert : kx_dec mM_insert.2.1 tM_insert := by
  unfold kx_dec
  decide +kernel
theorem dM_result : kx_dec mM_result.2.1 tM_result := by
  unfold kx_dec
  decide +kernel
theorem dM_mean : kx_dec mM_mean.2.1 tM_mean := by
  unfold kx_dec
  decide +kernel
theorem dM_vacuum : kx_dec mM_vacuum.2.1 tM_vacuum := by
  unfold kx_dec
  decide +kernel
theorem dM_versions : kx_dec mM_versions.2.1 tM_versions := by
  unfold kx_dec
  decide +kernel
theorem dM_versionsOf : kx_dec mM_versionsOf.2.1 tM_versionsOf := by
  unfold kx_dec
  decide +kernel
theorem dM_count : kx_dec mM_count.2.1 tM_count := by
  unfold kx_dec
  decide +kernel
theorem dM_inState : kx_dec mM_inState.2.1 tM_inState := by
  unfold kx_dec
  decide +kernel
