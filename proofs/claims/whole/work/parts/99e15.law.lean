def tL_law15 : kx_T := [(1026, .iload 5, 2), (1028, .iconst (1), 1), (1029, .iadd, 1), (1030, .iaload, 1), (1031, .invokevirtual 144, 3), (1034, .if_icmp .eq (5), 3), (1037, .iconst (0), 1), (1038, .ireturn, 1), (1039, .iinc 5 (7), 3), (1042, .goto (-1014), 3), (1045, .iconst (1), 1), (1046, .ireturn, 1)]
theorem dL_law15 : kx_dec mL_law.2.1 tL_law15 := by
  unfold kx_dec
  decide +kernel
