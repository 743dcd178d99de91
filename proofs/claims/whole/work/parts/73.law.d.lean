/-! THE LAW, 4: the law's small methods -/
/-- CycleKernelLaw.cell([II)I -/
def tb_119 : wm_T := [(0, .iload_n 1, 0, 0, 0, 0), (1, .aload_n 0, 0, 0, 0, 0), (2, .arraylength, 1, 0, 0, 0), (3, .if_icmp .ge (9), 12, 0, 0, 0), (6, .aload_n 0, 0, 0, 0, 0), (7, .iload_n 1, 0, 0, 0, 0), (8, .iaload, 1, 0, 0, 0), (9, .goto (4), 13, 0, 0, 0), (12, .iconst 0, 0, 0, 0, 0), (13, .ireturn, 0, 0, 0, 0)]
abbrev ci_119 : List Nat := []
theorem tk_119 : wm_tb (wm_mr 119) (wm_my 119).cls (wm_my 119).name (wm_mrt 119) ci_119 (wm_mb 119) tb_119 = true := by decide +kernel
theorem oi_119 : ci_119.all (wm_oib (wm_mr 119)) = true := by decide +kernel
/-- CycleKernelLaw.signal(LCycleKernel;II[J)I -/
def tb_120 : wm_T := [(0, .aload_n 3, 0, 0, 0, 0), (1, .iconst 0, 0, 0, 0, 0), (2, .aload_n 0, 0, 0, 0, 0), (3, .iload_n 1, 0, 0, 0, 0), (4, .iload_n 2, 0, 0, 0, 0), (5, .invokevirtual 7, 1, 0, 0, 205), (8, .i2l, 0, 0, 0, 0), (9, .lastore, 28, 0, 0, 0), (10, .goto (11), 21, 0, 0, 0), (13, .astore 4, 0, 0, 0, 0), (15, .iconst 1, 0, 0, 0, 0), (16, .ireturn, 0, 0, 0, 0), (17, .astore 4, 0, 0, 0, 0), (19, .iconst 2, 0, 0, 0, 0), (20, .ireturn, 0, 0, 0, 0), (21, .iconst 0, 0, 0, 0, 0), (22, .ireturn, 0, 0, 0, 0)]
abbrev ci_120 : List Nat := [1]
theorem tk_120 : wL_tb (wm_mr 120) (wm_my 120).cls (wm_my 120).name (wm_mrt 120) ci_120 [] (wm_mb 120) tb_120 = true := by decide +kernel
theorem oi_120 : ci_120.all (wm_oib (wm_mr 120)) = true := by decide +kernel
/-- CycleKernelLaw.process(LCycleKernel;[J)I -/
def tb_121 : wm_T := [(0, .aload_n 1, 0, 0, 0, 0), (1, .iconst 0, 0, 0, 0, 0), (2, .aload_n 0, 0, 0, 0, 0), (3, .invokevirtual 17, 2, 0, 0, 326), (6, .i2l, 0, 0, 0, 0), (7, .lastore, 28, 0, 0, 0), (8, .goto (6), 14, 0, 0, 0), (11, .astore_n 2, 0, 0, 0, 0), (12, .iconst 1, 0, 0, 0, 0), (13, .ireturn, 0, 0, 0, 0), (14, .iconst 0, 0, 0, 0, 0), (15, .ireturn, 0, 0, 0, 0)]
abbrev ci_121 : List Nat := [2]
theorem tk_121 : wL_tb (wm_mr 121) (wm_my 121).cls (wm_my 121).name (wm_mrt 121) ci_121 [] (wm_mb 121) tb_121 = true := by decide +kernel
theorem oi_121 : ci_121.all (wm_oib (wm_mr 121)) = true := by decide +kernel
/-- CycleKernelLaw.drive(LCycleKernel;II)I -/
def tb_122 : wm_T := [(0, .aload_n 0, 0, 0, 0, 0), (1, .iload_n 1, 0, 0, 0, 0), (2, .iload_n 2, 0, 0, 0, 0), (3, .invokevirtual 21, 3, 0, 0, 359), (6, .goto (9), 15, 0, 0, 0), (9, .astore_n 3, 0, 0, 0, 0), (10, .iconst 1, 0, 0, 0, 0), (11, .ireturn, 0, 0, 0, 0), (12, .astore_n 3, 0, 0, 0, 0), (13, .iconst 2, 0, 0, 0, 0), (14, .ireturn, 0, 0, 0, 0), (15, .iconst 0, 0, 0, 0, 0), (16, .ireturn, 0, 0, 0, 0)]
abbrev ci_122 : List Nat := [3]
theorem tk_122 : wL_tb (wm_mr 122) (wm_my 122).cls (wm_my 122).name (wm_mrt 122) ci_122 [] (wm_mb 122) tb_122 = true := by decide +kernel
theorem oi_122 : ci_122.all (wm_oib (wm_mr 122)) = true := by decide +kernel
/-- CycleKernelLaw.first(LCycleKernel;III)I -/
def tb_123 : wm_T := [(0, .aload_n 0, 0, 0, 0, 0), (1, .iload_n 1, 0, 0, 0, 0), (2, .iload_n 2, 0, 0, 0, 0), (3, .iload_n 3, 0, 0, 0, 0), (4, .invokevirtual 27, 4, 0, 0, 436), (7, .goto (15), 22, 0, 0, 0), (10, .astore 4, 0, 0, 0, 0), (12, .iconst 1, 0, 0, 0, 0), (13, .ireturn, 0, 0, 0, 0), (14, .astore 4, 0, 0, 0, 0), (16, .iconst 2, 0, 0, 0, 0), (17, .ireturn, 0, 0, 0, 0), (18, .astore 4, 0, 0, 0, 0), (20, .iconst 3, 0, 0, 0, 0), (21, .ireturn, 0, 0, 0, 0), (22, .iconst 0, 0, 0, 0, 0), (23, .ireturn, 0, 0, 0, 0)]
abbrev ci_123 : List Nat := [4]
theorem tk_123 : wL_tb (wm_mr 123) (wm_my 123).cls (wm_my 123).name (wm_mrt 123) ci_123 [] (wm_mb 123) tb_123 = true := by decide +kernel
theorem oi_123 : ci_123.all (wm_oib (wm_mr 123)) = true := by decide +kernel
/-- CycleKernelLaw.start(LCycleKernel;)I -/
def tb_124 : wm_T := [(0, .aload_n 0, 0, 0, 0, 0), (1, .invokevirtual 31, 5, 0, 0, 452), (4, .goto (6), 10, 0, 0, 0), (7, .astore_n 1, 0, 0, 0, 0), (8, .iconst 1, 0, 0, 0, 0), (9, .ireturn, 0, 0, 0, 0), (10, .iconst 0, 0, 0, 0, 0), (11, .ireturn, 0, 0, 0, 0)]
abbrev ci_124 : List Nat := [5]
theorem tk_124 : wL_tb (wm_mr 124) (wm_my 124).cls (wm_my 124).name (wm_mrt 124) ci_124 [] (wm_mb 124) tb_124 = true := by decide +kernel
theorem oi_124 : ci_124.all (wm_oib (wm_mr 124)) = true := by decide +kernel
/-- CycleKernelLaw.wave(LCycleKernel;J)I -/
def tb_125 : wm_T := [(0, .aload_n 0, 0, 0, 0, 0), (1, .lload_n 1, 0, 0, 0, 0), (2, .invokevirtual 34, 6, 0, 0, 471), (5, .goto (9), 14, 0, 0, 0), (8, .astore_n 3, 0, 0, 0, 0), (9, .iconst 1, 0, 0, 0, 0), (10, .ireturn, 0, 0, 0, 0), (11, .astore_n 3, 0, 0, 0, 0), (12, .iconst 2, 0, 0, 0, 0), (13, .ireturn, 0, 0, 0, 0), (14, .iconst 0, 0, 0, 0, 0), (15, .ireturn, 0, 0, 0, 0)]
abbrev ci_125 : List Nat := [6]
theorem tk_125 : wL_tb (wm_mr 125) (wm_my 125).cls (wm_my 125).name (wm_mrt 125) ci_125 [] (wm_mb 125) tb_125 = true := by decide +kernel
theorem oi_125 : ci_125.all (wm_oib (wm_mr 125)) = true := by decide +kernel
/-- CycleKernelLaw.put(LCycleKernel;II)I -/
def tb_126 : wm_T := [(0, .aload_n 0, 0, 0, 0, 0), (1, .iload_n 1, 0, 0, 0, 0), (2, .iload_n 2, 0, 0, 0, 0), (3, .invokevirtual 38, 7, 0, 0, 485), (6, .goto (9), 15, 0, 0, 0), (9, .astore_n 3, 0, 0, 0, 0), (10, .iconst 1, 0, 0, 0, 0), (11, .ireturn, 0, 0, 0, 0), (12, .astore_n 3, 0, 0, 0, 0), (13, .iconst 2, 0, 0, 0, 0), (14, .ireturn, 0, 0, 0, 0), (15, .iconst 0, 0, 0, 0, 0), (16, .ireturn, 0, 0, 0, 0)]
abbrev ci_126 : List Nat := [7]
theorem tk_126 : wL_tb (wm_mr 126) (wm_my 126).cls (wm_my 126).name (wm_mrt 126) ci_126 [] (wm_mb 126) tb_126 = true := by decide +kernel
theorem oi_126 : ci_126.all (wm_oib (wm_mr 126)) = true := by decide +kernel
/-- CycleKernelLaw.assign(LCycleKernel;IIIIIJ[J)I -/
def tb_127 : wm_T := [(0, .aload 8, 0, 0, 0, 0), (2, .iconst 0, 0, 0, 0, 0), (3, .aload_n 0, 0, 0, 0, 0), (4, .iload_n 1, 0, 0, 0, 0), (5, .iload_n 2, 0, 0, 0, 0), (6, .iload_n 3, 0, 0, 0, 0), (7, .iload 4, 0, 0, 0, 0), (9, .iload 5, 0, 0, 0, 0), (11, .lload 6, 0, 0, 0, 0), (13, .invokevirtual 41, 9, 0, 0, 497), (16, .i2l, 0, 0, 0, 0), (17, .lastore, 28, 0, 0, 0), (18, .goto (15), 33, 0, 0, 0), (21, .astore 9, 0, 0, 0, 0), (23, .iconst 1, 0, 0, 0, 0), (24, .ireturn, 0, 0, 0, 0), (25, .astore 9, 0, 0, 0, 0), (27, .iconst 2, 0, 0, 0, 0), (28, .ireturn, 0, 0, 0, 0), (29, .astore 9, 0, 0, 0, 0), (31, .iconst 3, 0, 0, 0, 0), (32, .ireturn, 0, 0, 0, 0), (33, .iconst 0, 0, 0, 0, 0), (34, .ireturn, 0, 0, 0, 0)]
abbrev ci_127 : List Nat := [9]
theorem tk_127 : wL_tb (wm_mr 127) (wm_my 127).cls (wm_my 127).name (wm_mrt 127) ci_127 [] (wm_mb 127) tb_127 = true := by decide +kernel
theorem oi_127 : ci_127.all (wm_oib (wm_mr 127)) = true := by decide +kernel
/-- CycleKernelLaw.on(LCycleKernel;I)I -/
def tb_128 : wm_T := [(0, .aload_n 0, 0, 0, 0, 0), (1, .iload_n 1, 0, 0, 0, 0), (2, .invokevirtual 45, 10, 0, 0, 589), (5, .goto (6), 11, 0, 0, 0), (8, .astore_n 2, 0, 0, 0, 0), (9, .iconst 1, 0, 0, 0, 0), (10, .ireturn, 0, 0, 0, 0), (11, .iconst 0, 0, 0, 0, 0), (12, .ireturn, 0, 0, 0, 0)]
abbrev ci_128 : List Nat := [10]
theorem tk_128 : wL_tb (wm_mr 128) (wm_my 128).cls (wm_my 128).name (wm_mrt 128) ci_128 [] (wm_mb 128) tb_128 = true := by decide +kernel
theorem oi_128 : ci_128.all (wm_oib (wm_mr 128)) = true := by decide +kernel
/-- CycleKernelLaw.suspend(LCycleKernel;IZJ)I -/
def tb_129 : wm_T := [(0, .aload_n 0, 0, 0, 0, 0), (1, .iload_n 1, 0, 0, 0, 0), (2, .iload_n 2, 0, 0, 0, 0), (3, .lload_n 3, 0, 0, 0, 0), (4, .invokevirtual 49, 11, 0, 0, 600), (7, .goto (15), 22, 0, 0, 0), (10, .astore 5, 0, 0, 0, 0), (12, .iconst 1, 0, 0, 0, 0), (13, .ireturn, 0, 0, 0, 0), (14, .astore 5, 0, 0, 0, 0), (16, .iconst 2, 0, 0, 0, 0), (17, .ireturn, 0, 0, 0, 0), (18, .astore 5, 0, 0, 0, 0), (20, .iconst 3, 0, 0, 0, 0), (21, .ireturn, 0, 0, 0, 0), (22, .iconst 0, 0, 0, 0, 0), (23, .ireturn, 0, 0, 0, 0)]
abbrev ci_129 : List Nat := [11]
theorem tk_129 : wL_tb (wm_mr 129) (wm_my 129).cls (wm_my 129).name (wm_mrt 129) ci_129 [] (wm_mb 129) tb_129 = true := by decide +kernel
theorem oi_129 : ci_129.all (wm_oib (wm_mr 129)) = true := by decide +kernel
/-- CycleKernelLaw.end(LCycleKernel;I)I -/
def tb_130 : wm_T := [(0, .aload_n 0, 0, 0, 0, 0), (1, .iload_n 1, 0, 0, 0, 0), (2, .invokevirtual 53, 12, 0, 0, 612), (5, .goto (9), 14, 0, 0, 0), (8, .astore_n 2, 0, 0, 0, 0), (9, .iconst 1, 0, 0, 0, 0), (10, .ireturn, 0, 0, 0, 0), (11, .astore_n 2, 0, 0, 0, 0), (12, .iconst 2, 0, 0, 0, 0), (13, .ireturn, 0, 0, 0, 0), (14, .iconst 0, 0, 0, 0, 0), (15, .ireturn, 0, 0, 0, 0)]
abbrev ci_130 : List Nat := [12]
theorem tk_130 : wL_tb (wm_mr 130) (wm_my 130).cls (wm_my 130).name (wm_mrt 130) ci_130 [] (wm_mb 130) tb_130 = true := by decide +kernel
theorem oi_130 : ci_130.all (wm_oib (wm_mr 130)) = true := by decide +kernel
/-- CycleKernelLaw.answer(LCycleKernel;IZ)I -/
def tb_131 : wm_T := [(0, .aload_n 0, 0, 0, 0, 0), (1, .iload_n 1, 0, 0, 0, 0), (2, .iload_n 2, 0, 0, 0, 0), (3, .invokevirtual 56, 13, 0, 0, 624), (6, .goto (9), 15, 0, 0, 0), (9, .astore_n 3, 0, 0, 0, 0), (10, .iconst 1, 0, 0, 0, 0), (11, .ireturn, 0, 0, 0, 0), (12, .astore_n 3, 0, 0, 0, 0), (13, .iconst 2, 0, 0, 0, 0), (14, .ireturn, 0, 0, 0, 0), (15, .iconst 0, 0, 0, 0, 0), (16, .ireturn, 0, 0, 0, 0)]
abbrev ci_131 : List Nat := [13]
theorem tk_131 : wL_tb (wm_mr 131) (wm_my 131).cls (wm_my 131).name (wm_mrt 131) ci_131 [] (wm_mb 131) tb_131 = true := by decide +kernel
theorem oi_131 : ci_131.all (wm_oib (wm_mr 131)) = true := by decide +kernel
/-- CycleKernelLaw.cycle(LCycleKernel;[J)I -/
def tb_132 : wm_T := [(0, .aload_n 1, 0, 0, 0, 0), (1, .iconst 0, 0, 0, 0, 0), (2, .aload_n 0, 0, 0, 0, 0), (3, .invokevirtual 60, 14, 0, 0, 632), (6, .i2l, 0, 0, 0, 0), (7, .lastore, 28, 0, 0, 0), (8, .goto (6), 14, 0, 0, 0), (11, .astore_n 2, 0, 0, 0, 0), (12, .iconst 1, 0, 0, 0, 0), (13, .ireturn, 0, 0, 0, 0), (14, .iconst 0, 0, 0, 0, 0), (15, .ireturn, 0, 0, 0, 0)]
abbrev ci_132 : List Nat := [14]
theorem tk_132 : wL_tb (wm_mr 132) (wm_my 132).cls (wm_my 132).name (wm_mrt 132) ci_132 [] (wm_mb 132) tb_132 = true := by decide +kernel
theorem oi_132 : ci_132.all (wm_oib (wm_mr 132)) = true := by decide +kernel
/-- CycleKernelLaw.state(LCycleKernel;I[J)I -/
def tb_133 : wm_T := [(0, .aload_n 2, 0, 0, 0, 0), (1, .iconst 0, 0, 0, 0, 0), (2, .aload_n 0, 0, 0, 0, 0), (3, .iload_n 1, 0, 0, 0, 0), (4, .invokevirtual 63, 15, 0, 0, 676), (7, .i2l, 0, 0, 0, 0), (8, .lastore, 28, 0, 0, 0), (9, .goto (6), 15, 0, 0, 0), (12, .astore_n 3, 0, 0, 0, 0), (13, .iconst 1, 0, 0, 0, 0), (14, .ireturn, 0, 0, 0, 0), (15, .iconst 0, 0, 0, 0, 0), (16, .ireturn, 0, 0, 0, 0)]
abbrev ci_133 : List Nat := [15]
theorem tk_133 : wL_tb (wm_mr 133) (wm_my 133).cls (wm_my 133).name (wm_mrt 133) ci_133 [] (wm_mb 133) tb_133 = true := by decide +kernel
theorem oi_133 : ci_133.all (wm_oib (wm_mr 133)) = true := by decide +kernel
/-- CycleKernelLaw.which(LCycleKernel;II[J)I -/
def tb_134 : wm_T := [(0, .aload_n 3, 0, 0, 0, 0), (1, .iconst 0, 0, 0, 0, 0), (2, .aload_n 0, 0, 0, 0, 0), (3, .iload_n 1, 0, 0, 0, 0), (4, .iload_n 2, 0, 0, 0, 0), (5, .invokevirtual 67, 16, 0, 0, 683), (8, .i2l, 0, 0, 0, 0), (9, .lastore, 28, 0, 0, 0), (10, .goto (7), 17, 0, 0, 0), (13, .astore 4, 0, 0, 0, 0), (15, .iconst 1, 0, 0, 0, 0), (16, .ireturn, 0, 0, 0, 0), (17, .iconst 0, 0, 0, 0, 0), (18, .ireturn, 0, 0, 0, 0)]
abbrev ci_134 : List Nat := [16]
theorem tk_134 : wL_tb (wm_mr 134) (wm_my 134).cls (wm_my 134).name (wm_mrt 134) ci_134 [] (wm_mb 134) tb_134 = true := by decide +kernel
theorem oi_134 : ci_134.all (wm_oib (wm_mr 134)) = true := by decide +kernel
/-- CycleKernelLaw.value(LCycleKernel;IIZ[J)I -/
def tb_135 : wm_T := [(0, .aload 4, 0, 0, 0, 0), (2, .iconst 0, 0, 0, 0, 0), (3, .aload_n 0, 0, 0, 0, 0), (4, .iload_n 1, 0, 0, 0, 0), (5, .iload_n 2, 0, 0, 0, 0), (6, .iload_n 3, 0, 0, 0, 0), (7, .invokevirtual 70, 17, 0, 0, 691), (10, .i2l, 0, 0, 0, 0), (11, .lastore, 28, 0, 0, 0), (12, .goto (7), 19, 0, 0, 0), (15, .astore 5, 0, 0, 0, 0), (17, .iconst 1, 0, 0, 0, 0), (18, .ireturn, 0, 0, 0, 0), (19, .iconst 0, 0, 0, 0, 0), (20, .ireturn, 0, 0, 0, 0)]
abbrev ci_135 : List Nat := [17]
theorem tk_135 : wL_tb (wm_mr 135) (wm_my 135).cls (wm_my 135).name (wm_mrt 135) ci_135 [] (wm_mb 135) tb_135 = true := by decide +kernel
theorem oi_135 : ci_135.all (wm_oib (wm_mr 135)) = true := by decide +kernel
/-- CycleKernelLaw.marks(LCycleKernel;I[J)I -/
def tb_136 : wm_T := [(0, .aload_n 2, 0, 0, 0, 0), (1, .iconst 0, 0, 0, 0, 0), (2, .aload_n 0, 0, 0, 0, 0), (3, .iload_n 1, 0, 0, 0, 0), (4, .invokevirtual 74, 18, 0, 0, 698), (7, .i2l, 0, 0, 0, 0), (8, .lastore, 28, 0, 0, 0), (9, .goto (6), 15, 0, 0, 0), (12, .astore_n 3, 0, 0, 0, 0), (13, .iconst 1, 0, 0, 0, 0), (14, .ireturn, 0, 0, 0, 0), (15, .iconst 0, 0, 0, 0, 0), (16, .ireturn, 0, 0, 0, 0)]
abbrev ci_136 : List Nat := [18]
theorem tk_136 : wL_tb (wm_mr 136) (wm_my 136).cls (wm_my 136).name (wm_mrt 136) ci_136 [] (wm_mb 136) tb_136 = true := by decide +kernel
theorem oi_136 : ci_136.all (wm_oib (wm_mr 136)) = true := by decide +kernel
/-- CycleKernelLaw.pending(LCycleKernel;III[J)I -/
def tb_137 : wm_T := [(0, .aload 4, 0, 0, 0, 0), (2, .iconst 0, 0, 0, 0, 0), (3, .aload_n 0, 0, 0, 0, 0), (4, .iload_n 1, 0, 0, 0, 0), (5, .iload_n 2, 0, 0, 0, 0), (6, .iload_n 3, 0, 0, 0, 0), (7, .invokevirtual 77, 23, 0, 0, 705), (10, .i2l, 0, 0, 0, 0), (11, .lastore, 28, 0, 0, 0), (12, .goto (7), 19, 0, 0, 0), (15, .astore 5, 0, 0, 0, 0), (17, .iconst 1, 0, 0, 0, 0), (18, .ireturn, 0, 0, 0, 0), (19, .iconst 0, 0, 0, 0, 0), (20, .ireturn, 0, 0, 0, 0)]
abbrev ci_137 : List Nat := [23]
theorem tk_137 : wL_tb (wm_mr 137) (wm_my 137).cls (wm_my 137).name (wm_mrt 137) ci_137 [] (wm_mb 137) tb_137 = true := by decide +kernel
theorem oi_137 : ci_137.all (wm_oib (wm_mr 137)) = true := by decide +kernel
/-- CycleKernelLaw.projected(LCycleKernel;IIIJ[J)I -/
def tb_138 : wm_T := [(0, .aload 6, 0, 0, 0, 0), (2, .iconst 0, 0, 0, 0, 0), (3, .aload_n 0, 0, 0, 0, 0), (4, .iload_n 1, 0, 0, 0, 0), (5, .iload_n 2, 0, 0, 0, 0), (6, .iload_n 3, 0, 0, 0, 0), (7, .lload 4, 0, 0, 0, 0), (9, .invokevirtual 81, 24, 0, 0, 716), (12, .i2l, 0, 0, 0, 0), (13, .lastore, 28, 0, 0, 0), (14, .goto (11), 25, 0, 0, 0), (17, .astore 7, 0, 0, 0, 0), (19, .iconst 1, 0, 0, 0, 0), (20, .ireturn, 0, 0, 0, 0), (21, .astore 7, 0, 0, 0, 0), (23, .iconst 2, 0, 0, 0, 0), (24, .ireturn, 0, 0, 0, 0), (25, .iconst 0, 0, 0, 0, 0), (26, .ireturn, 0, 0, 0, 0)]
abbrev ci_138 : List Nat := [24]
theorem tk_138 : wL_tb (wm_mr 138) (wm_my 138).cls (wm_my 138).name (wm_mrt 138) ci_138 [] (wm_mb 138) tb_138 = true := by decide +kernel
theorem oi_138 : ci_138.all (wm_oib (wm_mr 138)) = true := by decide +kernel
theorem wk_J_x {h : wc_H} {x : Nat} {M : mq_H} (k : wk_J h x M) : h.1 x = 2 ∧ wc_hn h := by
  obtain ⟨tg, ln, I, L, R, n⟩ := h
  obtain ⟨cd, lm, st, sg, el, dr, sz, pr, wc, sp, nw, A, B, rfl, g, gd, ct, hK, hM⟩ := mq_f_e k
  obtain ⟨hn, kN, kB, -⟩ := hK
  exact ⟨kB.1.1, hn⟩
/-- what a small method answers: the model's code, and in out what the class answered -/
def wl_hI (sm : List wi_V → mq_H → wi_Q1 mq_H → wi_Q2 mq_H → Prop) (ms : List wi_V) (ex : List (Nat × Int)) (x out : Nat) (h : wc_H) (q : wi_Q1 wc_H) : Prop :=
  (h.1 out = 28 ∧ h.2.1 out = 1) ∧ ∃ M, wk_J h x M ∧ (∀ (r : Int) h', wk_Z sm ms M h' x 0 (fun b => b = some (.inl r)) → wc_G wc_ok h h' → q (some (.inl 0)) (h'.1, h'.2.1, h'.2.2.1, wm_up h'.2.2.2.1 28 0 out r, h'.2.2.2.2.1, h'.2.2.2.2.2)) ∧ ∀ y ∈ ex, ∀ h', wk_Z sm ms M h' x y.2 (fun b => ∃ v, b = some (.inl v)) → wc_G wc_ok h h' → q (some (.inl y.2)) h'
def wl_hV (sm : List wi_V → mq_H → wi_Q1 mq_H → wi_Q2 mq_H → Prop) (ms : List wi_V) (ex : List (Nat × Int)) (x : Nat) (h : wc_H) (q : wi_Q1 wc_H) : Prop :=
  ∃ M, wk_J h x M ∧ (∀ h', wk_Z sm ms M h' x 0 (fun b => b = none) → wc_G wc_ok h h' → q (some (.inl 0)) h') ∧ ∀ y ∈ ex, ∀ h', wk_Z sm ms M h' x y.2 (fun b => b = none) → wc_G wc_ok h h' → q (some (.inl y.2)) h'
def sh_119 (as : List wi_V) (h : wc_H) (q : wi_Q1 wc_H) (_ : wi_Q2 wc_H) : Prop := ∃ s k, as = [wi_rf (some s), .inl k] ∧ h.1 s = 1 ∧ h.2.1 s < 2147483648 ∧ 0 ≤ k ∧ q (some (.inl (if k < h.2.1 s then h.2.2.1 1 k.toNat s else 0))) h
theorem ch_119 {l : Launch} {D : va_G} {aC : wm_Y} {b0 : Nat} (hl0 : l.stackTraces = false) : wm_sp l D aC b0 119 (wi_lf (wc_Rl wc_ok3) sh_119) := by
  refine wi_method (wc_lw wc_ok3) 119 (cx := fun _ _ _ _ _ => False) (ids := ci_119) (tb := tb_119) (by decide +kernel) hl0 wm_cx0 (wm_tb_ok tk_119) (by decide +kernel) [] 40 (fun as h q qt hs => ?_)
  obtain ⟨s, k, rfl, h1, h2, h3, h4⟩ := hs
  obtain ⟨tg, ln, I, L, R, n⟩ := h
  simp only at h1 h2 h4
  refine ⟨rfl, fun _ _ _ _ _ _ _ => False, mq_nc, ?_⟩
  refine Exists.intro s (And.intro rfl (And.intro h1 (And.intro h2 (And.intro (fun e => ?_) (fun e => ?_)))))
  · refine And.intro (Nat.le_of_ble_eq_true rfl) (And.intro (Nat.le_of_ble_eq_true rfl) ?_)
    rw [if_neg (by omega)] at h4
    exact h4
  · refine Exists.intro s (And.intro rfl (And.intro h1 (And.intro h3 (And.intro e ?_))))
    refine And.intro (Nat.le_of_ble_eq_true rfl) (And.intro (Nat.le_of_ble_eq_true rfl) ?_)
    rw [if_pos e] at h4
    exact h4
def sh_120 (as : List wi_V) (h : wc_H) (q : wi_Q1 wc_H) (_ : wi_Q2 wc_H) : Prop := ∃ x p0 p1 out, as = [wi_rf (some x), .inl p0, .inl p1, wi_rf (some out)] ∧ wl_hI sm_83 [wi_rf (some 11), .inl p0, .inl p1] (wh_ex 120) x out h q
theorem ch_120 {l : Launch} {D : va_G} {aC : wm_Y} {b0 : Nat} (hl0 : l.stackTraces = false) : wh_sp l D aC b0 120 (wi_lf (wc_Rl wc_ok3) sh_120) := by
  refine wh_method (wc_lw wc_ok3) 120 (cx := fun id => if id = 1 then wc_fr wc_ok sc_1 else fun _ _ _ _ => False) (ids := ci_120) (tb := tb_120) ⟨rfl, rfl⟩ hl0 (wm_cxc (wl_cl (cm_1 hl0)) oi_120 (fun h => wm_cxn h)) tk_120 (by decide +kernel) (by decide +kernel) 40 (fun as h q qt hs => ?_)
  obtain ⟨x, p0, p1, out, rfl, ⟨ho1, ho2⟩, M, hJ, f0, f1⟩ := hs
  obtain ⟨tg, ln, I, L, R, n⟩ := h
  obtain ⟨hx, hn⟩ := wk_J_x hJ
  have hon : out < n := hn out (fun z => by simp only at ho1 z; omega)
  refine ⟨rfl, fun _ _ _ _ _ _ _ => False, mq_nc, ?_⟩
  refine And.intro (Nat.le_of_ble_eq_true rfl) (And.intro (Nat.le_of_ble_eq_true rfl) (Exists.intro x (And.intro rfl (And.intro hx (fun _ => ?_)))))
  refine Exists.intro M (And.intro hJ (And.intro (fun r h' z g => ?_) (And.intro (fun h' z g => ?_) (fun h' z g => ?_))))
  · obtain ⟨tg', ln', I', L', R', n'⟩ := h'
    have g1 := g.2.2.1 out hon
    refine Exists.intro out (And.intro rfl (And.intro (g1.1.trans ho1) (And.intro (Int.le_refl 0) (And.intro ?_ (fun L2 e2 => ?_)))))
    · have e9 : ln' out = 1 := g1.2.trans ho2
      rw [e9]
      decide
    · refine And.intro (Nat.le_of_ble_eq_true rfl) (And.intro (Nat.le_of_ble_eq_true rfl) ?_)
      subst e2
      exact f0 r _ z g
  · exact ⟨Nat.le_of_ble_eq_true rfl, Nat.le_of_ble_eq_true rfl, 1, by decide, f1 (1, 1) (by decide) _ z g⟩
  · exact ⟨Nat.le_of_ble_eq_true rfl, Nat.le_of_ble_eq_true rfl, 2, by decide, f1 (2, 2) (by decide) _ z g⟩
def sh_121 (as : List wi_V) (h : wc_H) (q : wi_Q1 wc_H) (_ : wi_Q2 wc_H) : Prop := ∃ x out, as = [wi_rf (some x), wi_rf (some out)] ∧ wl_hI sm_84 [wi_rf (some 11)] (wh_ex 121) x out h q
theorem ch_121 {l : Launch} {D : va_G} {aC : wm_Y} {b0 : Nat} (hl0 : l.stackTraces = false) : wh_sp l D aC b0 121 (wi_lf (wc_Rl wc_ok3) sh_121) := by
  refine wh_method (wc_lw wc_ok3) 121 (cx := fun id => if id = 2 then wc_fr wc_ok sc_2 else fun _ _ _ _ => False) (ids := ci_121) (tb := tb_121) ⟨rfl, rfl⟩ hl0 (wm_cxc (wl_cl (cm_2 hl0)) oi_121 (fun h => wm_cxn h)) tk_121 (by decide +kernel) (by decide +kernel) 40 (fun as h q qt hs => ?_)
  obtain ⟨x, out, rfl, ⟨ho1, ho2⟩, M, hJ, f0, f1⟩ := hs
  obtain ⟨tg, ln, I, L, R, n⟩ := h
  obtain ⟨hx, hn⟩ := wk_J_x hJ
  have hon : out < n := hn out (fun z => by simp only at ho1 z; omega)
  refine ⟨rfl, fun _ _ _ _ _ _ _ => False, mq_nc, ?_⟩
  refine And.intro (Nat.le_of_ble_eq_true rfl) (And.intro (Nat.le_of_ble_eq_true rfl) (Exists.intro x (And.intro rfl (And.intro hx (fun _ => ?_)))))
  refine Exists.intro M (And.intro hJ (And.intro (fun r h' z g => ?_) (fun h' z g => ?_)))
  · obtain ⟨tg', ln', I', L', R', n'⟩ := h'
    have g1 := g.2.2.1 out hon
    refine Exists.intro out (And.intro rfl (And.intro (g1.1.trans ho1) (And.intro (Int.le_refl 0) (And.intro ?_ (fun L2 e2 => ?_)))))
    · have e9 : ln' out = 1 := g1.2.trans ho2
      rw [e9]
      decide
    · refine And.intro (Nat.le_of_ble_eq_true rfl) (And.intro (Nat.le_of_ble_eq_true rfl) ?_)
      subst e2
      exact f0 r _ z g
  · exact ⟨Nat.le_of_ble_eq_true rfl, Nat.le_of_ble_eq_true rfl, 1, by decide, f1 (2, 1) (by decide) _ z g⟩
def sh_122 (as : List wi_V) (h : wc_H) (q : wi_Q1 wc_H) (_ : wi_Q2 wc_H) : Prop := ∃ x p0 p1, as = [wi_rf (some x), .inl p0, .inl p1] ∧ wl_hV sm_87 [wi_rf (some 11), .inl p0, .inl p1] (wh_ex 122) x h q
theorem ch_122 {l : Launch} {D : va_G} {aC : wm_Y} {b0 : Nat} (hl0 : l.stackTraces = false) : wh_sp l D aC b0 122 (wi_lf (wc_Rl wc_ok3) sh_122) := by
  refine wh_method (wc_lw wc_ok3) 122 (cx := fun id => if id = 3 then wc_fr wc_ok sc_3 else fun _ _ _ _ => False) (ids := ci_122) (tb := tb_122) ⟨rfl, rfl⟩ hl0 (wm_cxc (wl_cl (cm_3 hl0)) oi_122 (fun h => wm_cxn h)) tk_122 (by decide +kernel) (by decide +kernel) 40 (fun as h q qt hs => ?_)
  obtain ⟨x, p0, p1, rfl, M, hJ, f0, f1⟩ := hs
  obtain ⟨tg, ln, I, L, R, n⟩ := h
  obtain ⟨hx, hn⟩ := wk_J_x hJ
  refine ⟨rfl, fun _ _ _ _ _ _ _ => False, mq_nc, ?_⟩
  refine And.intro (Nat.le_of_ble_eq_true rfl) (And.intro (Nat.le_of_ble_eq_true rfl) (Exists.intro x (And.intro rfl (And.intro hx (fun _ => ?_)))))
  refine Exists.intro M (And.intro hJ (And.intro (fun h' z g => ?_) (And.intro (fun h' z g => ?_) (fun h' z g => ?_))))
  · exact And.intro (Nat.le_of_ble_eq_true rfl) (And.intro (Nat.le_of_ble_eq_true rfl) (f0 _ z g))
  · exact ⟨Nat.le_of_ble_eq_true rfl, Nat.le_of_ble_eq_true rfl, 1, by decide, f1 (3, 1) (by decide) _ z g⟩
  · exact ⟨Nat.le_of_ble_eq_true rfl, Nat.le_of_ble_eq_true rfl, 2, by decide, f1 (2, 2) (by decide) _ z g⟩
def sh_123 (as : List wi_V) (h : wc_H) (q : wi_Q1 wc_H) (_ : wi_Q2 wc_H) : Prop := ∃ x p0 p1 p2, as = [wi_rf (some x), .inl p0, .inl p1, .inl p2] ∧ wl_hV sm_89 [wi_rf (some 11), .inl p0, .inl p1, .inl p2] (wh_ex 123) x h q
theorem ch_123 {l : Launch} {D : va_G} {aC : wm_Y} {b0 : Nat} (hl0 : l.stackTraces = false) : wh_sp l D aC b0 123 (wi_lf (wc_Rl wc_ok3) sh_123) := by
  refine wh_method (wc_lw wc_ok3) 123 (cx := fun id => if id = 4 then wc_fr wc_ok sc_4 else fun _ _ _ _ => False) (ids := ci_123) (tb := tb_123) ⟨rfl, rfl⟩ hl0 (wm_cxc (wl_cl (cm_4 hl0)) oi_123 (fun h => wm_cxn h)) tk_123 (by decide +kernel) (by decide +kernel) 40 (fun as h q qt hs => ?_)
  obtain ⟨x, p0, p1, p2, rfl, M, hJ, f0, f1⟩ := hs
  obtain ⟨tg, ln, I, L, R, n⟩ := h
  obtain ⟨hx, hn⟩ := wk_J_x hJ
  refine ⟨rfl, fun _ _ _ _ _ _ _ => False, mq_nc, ?_⟩
  refine And.intro (Nat.le_of_ble_eq_true rfl) (And.intro (Nat.le_of_ble_eq_true rfl) (Exists.intro x (And.intro rfl (And.intro hx (fun _ => ?_)))))
  refine Exists.intro M (And.intro hJ (And.intro (fun h' z g => ?_) (And.intro (fun h' z g => ?_) (And.intro (fun h' z g => ?_) (fun h' z g => ?_)))))
  · exact And.intro (Nat.le_of_ble_eq_true rfl) (And.intro (Nat.le_of_ble_eq_true rfl) (f0 _ z g))
  · exact ⟨Nat.le_of_ble_eq_true rfl, Nat.le_of_ble_eq_true rfl, 1, by decide, f1 (3, 1) (by decide) _ z g⟩
  · exact ⟨Nat.le_of_ble_eq_true rfl, Nat.le_of_ble_eq_true rfl, 2, by decide, f1 (1, 2) (by decide) _ z g⟩
  · exact ⟨Nat.le_of_ble_eq_true rfl, Nat.le_of_ble_eq_true rfl, 3, by decide, f1 (2, 3) (by decide) _ z g⟩
def sh_124 (as : List wi_V) (h : wc_H) (q : wi_Q1 wc_H) (_ : wi_Q2 wc_H) : Prop := ∃ x, as = [wi_rf (some x)] ∧ wl_hV sm_90 [wi_rf (some 11)] (wh_ex 124) x h q
theorem ch_124 {l : Launch} {D : va_G} {aC : wm_Y} {b0 : Nat} (hl0 : l.stackTraces = false) : wh_sp l D aC b0 124 (wi_lf (wc_Rl wc_ok3) sh_124) := by
  refine wh_method (wc_lw wc_ok3) 124 (cx := fun id => if id = 5 then wc_fr wc_ok sc_5 else fun _ _ _ _ => False) (ids := ci_124) (tb := tb_124) ⟨rfl, rfl⟩ hl0 (wm_cxc (wl_cl (cm_5 hl0)) oi_124 (fun h => wm_cxn h)) tk_124 (by decide +kernel) (by decide +kernel) 40 (fun as h q qt hs => ?_)
  obtain ⟨x, rfl, M, hJ, f0, f1⟩ := hs
  obtain ⟨tg, ln, I, L, R, n⟩ := h
  obtain ⟨hx, hn⟩ := wk_J_x hJ
  refine ⟨rfl, fun _ _ _ _ _ _ _ => False, mq_nc, ?_⟩
  refine And.intro (Nat.le_of_ble_eq_true rfl) (And.intro (Nat.le_of_ble_eq_true rfl) (Exists.intro x (And.intro rfl (And.intro hx (fun _ => ?_)))))
  refine Exists.intro M (And.intro hJ (And.intro (fun h' z g => ?_) (fun h' z g => ?_)))
  · exact And.intro (Nat.le_of_ble_eq_true rfl) (And.intro (Nat.le_of_ble_eq_true rfl) (f0 _ z g))
  · exact ⟨Nat.le_of_ble_eq_true rfl, Nat.le_of_ble_eq_true rfl, 1, by decide, f1 (2, 1) (by decide) _ z g⟩
def sh_125 (as : List wi_V) (h : wc_H) (q : wi_Q1 wc_H) (_ : wi_Q2 wc_H) : Prop := ∃ x p0, as = [wi_rf (some x), .inr (.inl p0)] ∧ wl_hV sm_93 [wi_rf (some 11), .inr (.inl p0)] (wh_ex 125) x h q
theorem ch_125 {l : Launch} {D : va_G} {aC : wm_Y} {b0 : Nat} (hl0 : l.stackTraces = false) : wh_sp l D aC b0 125 (wi_lf (wc_Rl wc_ok3) sh_125) := by
  refine wh_method (wc_lw wc_ok3) 125 (cx := fun id => if id = 6 then wc_fr wc_ok sc_6 else fun _ _ _ _ => False) (ids := ci_125) (tb := tb_125) ⟨rfl, rfl⟩ hl0 (wm_cxc (wl_cl (cm_6 hl0)) oi_125 (fun h => wm_cxn h)) tk_125 (by decide +kernel) (by decide +kernel) 40 (fun as h q qt hs => ?_)
  obtain ⟨x, p0, rfl, M, hJ, f0, f1⟩ := hs
  obtain ⟨tg, ln, I, L, R, n⟩ := h
  obtain ⟨hx, hn⟩ := wk_J_x hJ
  refine ⟨rfl, fun _ _ _ _ _ _ _ => False, mq_nc, ?_⟩
  refine And.intro (Nat.le_of_ble_eq_true rfl) (And.intro (Nat.le_of_ble_eq_true rfl) (Exists.intro x (And.intro rfl (And.intro hx (fun _ => ?_)))))
  refine Exists.intro M (And.intro hJ (And.intro (fun h' z g => ?_) (And.intro (fun h' z g => ?_) (fun h' z g => ?_))))
  · exact And.intro (Nat.le_of_ble_eq_true rfl) (And.intro (Nat.le_of_ble_eq_true rfl) (f0 _ z g))
  · exact ⟨Nat.le_of_ble_eq_true rfl, Nat.le_of_ble_eq_true rfl, 1, by decide, f1 (1, 1) (by decide) _ z g⟩
  · exact ⟨Nat.le_of_ble_eq_true rfl, Nat.le_of_ble_eq_true rfl, 2, by decide, f1 (2, 2) (by decide) _ z g⟩
def sh_126 (as : List wi_V) (h : wc_H) (q : wi_Q1 wc_H) (_ : wi_Q2 wc_H) : Prop := ∃ x p0 p1, as = [wi_rf (some x), .inl p0, .inl p1] ∧ wl_hV sm_94 [wi_rf (some 11), .inl p0, .inl p1] (wh_ex 126) x h q
theorem ch_126 {l : Launch} {D : va_G} {aC : wm_Y} {b0 : Nat} (hl0 : l.stackTraces = false) : wh_sp l D aC b0 126 (wi_lf (wc_Rl wc_ok3) sh_126) := by
  refine wh_method (wc_lw wc_ok3) 126 (cx := fun id => if id = 7 then wc_fr wc_ok sc_7 else fun _ _ _ _ => False) (ids := ci_126) (tb := tb_126) ⟨rfl, rfl⟩ hl0 (wm_cxc (wl_cl (cm_7 hl0)) oi_126 (fun h => wm_cxn h)) tk_126 (by decide +kernel) (by decide +kernel) 40 (fun as h q qt hs => ?_)
  obtain ⟨x, p0, p1, rfl, M, hJ, f0, f1⟩ := hs
  obtain ⟨tg, ln, I, L, R, n⟩ := h
  obtain ⟨hx, hn⟩ := wk_J_x hJ
  refine ⟨rfl, fun _ _ _ _ _ _ _ => False, mq_nc, ?_⟩
  refine And.intro (Nat.le_of_ble_eq_true rfl) (And.intro (Nat.le_of_ble_eq_true rfl) (Exists.intro x (And.intro rfl (And.intro hx (fun _ => ?_)))))
  refine Exists.intro M (And.intro hJ (And.intro (fun h' z g => ?_) (And.intro (fun h' z g => ?_) (fun h' z g => ?_))))
  · exact And.intro (Nat.le_of_ble_eq_true rfl) (And.intro (Nat.le_of_ble_eq_true rfl) (f0 _ z g))
  · exact ⟨Nat.le_of_ble_eq_true rfl, Nat.le_of_ble_eq_true rfl, 1, by decide, f1 (3, 1) (by decide) _ z g⟩
  · exact ⟨Nat.le_of_ble_eq_true rfl, Nat.le_of_ble_eq_true rfl, 2, by decide, f1 (2, 2) (by decide) _ z g⟩
def sh_127 (as : List wi_V) (h : wc_H) (q : wi_Q1 wc_H) (_ : wi_Q2 wc_H) : Prop := ∃ x p0 p1 p2 p3 p4 p5 out, as = [wi_rf (some x), .inl p0, .inl p1, .inl p2, .inl p3, .inl p4, .inr (.inl p5), wi_rf (some out)] ∧ wl_hI sm_97 [wi_rf (some 11), .inl p0, .inl p1, .inl p2, .inl p3, .inl p4, .inr (.inl p5)] (wh_ex 127) x out h q
theorem ch_127 {l : Launch} {D : va_G} {aC : wm_Y} {b0 : Nat} (hl0 : l.stackTraces = false) : wh_sp l D aC b0 127 (wi_lf (wc_Rl wc_ok3) sh_127) := by
  refine wh_method (wc_lw wc_ok3) 127 (cx := fun id => if id = 9 then wc_fr wc_ok sc_9 else fun _ _ _ _ => False) (ids := ci_127) (tb := tb_127) ⟨rfl, rfl⟩ hl0 (wm_cxc (wl_cl (cm_9 hl0)) oi_127 (fun h => wm_cxn h)) tk_127 (by decide +kernel) (by decide +kernel) 40 (fun as h q qt hs => ?_)
  obtain ⟨x, p0, p1, p2, p3, p4, p5, out, rfl, ⟨ho1, ho2⟩, M, hJ, f0, f1⟩ := hs
  obtain ⟨tg, ln, I, L, R, n⟩ := h
  obtain ⟨hx, hn⟩ := wk_J_x hJ
  have hon : out < n := hn out (fun z => by simp only at ho1 z; omega)
  refine ⟨rfl, fun _ _ _ _ _ _ _ => False, mq_nc, ?_⟩
  refine And.intro (Nat.le_of_ble_eq_true rfl) (And.intro (Nat.le_of_ble_eq_true rfl) (Exists.intro x (And.intro rfl (And.intro hx (fun _ => ?_)))))
  refine Exists.intro M (And.intro hJ (And.intro (fun r h' z g => ?_) (And.intro (fun h' z g => ?_) (And.intro (fun h' z g => ?_) (fun h' z g => ?_)))))
  · obtain ⟨tg', ln', I', L', R', n'⟩ := h'
    have g1 := g.2.2.1 out hon
    refine Exists.intro out (And.intro rfl (And.intro (g1.1.trans ho1) (And.intro (Int.le_refl 0) (And.intro ?_ (fun L2 e2 => ?_)))))
    · have e9 : ln' out = 1 := g1.2.trans ho2
      rw [e9]
      decide
    · refine And.intro (Nat.le_of_ble_eq_true rfl) (And.intro (Nat.le_of_ble_eq_true rfl) ?_)
      subst e2
      exact f0 r _ z g
  · exact ⟨Nat.le_of_ble_eq_true rfl, Nat.le_of_ble_eq_true rfl, 1, by decide, f1 (3, 1) (by decide) _ z g⟩
  · exact ⟨Nat.le_of_ble_eq_true rfl, Nat.le_of_ble_eq_true rfl, 2, by decide, f1 (2, 2) (by decide) _ z g⟩
  · exact ⟨Nat.le_of_ble_eq_true rfl, Nat.le_of_ble_eq_true rfl, 3, by decide, f1 (1, 3) (by decide) _ z g⟩
def sh_128 (as : List wi_V) (h : wc_H) (q : wi_Q1 wc_H) (_ : wi_Q2 wc_H) : Prop := ∃ x p0, as = [wi_rf (some x), .inl p0] ∧ wl_hV sm_100 [wi_rf (some 11), .inl p0] (wh_ex 128) x h q
theorem ch_128 {l : Launch} {D : va_G} {aC : wm_Y} {b0 : Nat} (hl0 : l.stackTraces = false) : wh_sp l D aC b0 128 (wi_lf (wc_Rl wc_ok3) sh_128) := by
  refine wh_method (wc_lw wc_ok3) 128 (cx := fun id => if id = 10 then wc_fr wc_ok sc_10 else fun _ _ _ _ => False) (ids := ci_128) (tb := tb_128) ⟨rfl, rfl⟩ hl0 (wm_cxc (wl_cl (cm_10 hl0)) oi_128 (fun h => wm_cxn h)) tk_128 (by decide +kernel) (by decide +kernel) 40 (fun as h q qt hs => ?_)
  obtain ⟨x, p0, rfl, M, hJ, f0, f1⟩ := hs
  obtain ⟨tg, ln, I, L, R, n⟩ := h
  obtain ⟨hx, hn⟩ := wk_J_x hJ
  refine ⟨rfl, fun _ _ _ _ _ _ _ => False, mq_nc, ?_⟩
  refine And.intro (Nat.le_of_ble_eq_true rfl) (And.intro (Nat.le_of_ble_eq_true rfl) (Exists.intro x (And.intro rfl (And.intro hx (fun _ => ?_)))))
  refine Exists.intro M (And.intro hJ (And.intro (fun h' z g => ?_) (fun h' z g => ?_)))
  · exact And.intro (Nat.le_of_ble_eq_true rfl) (And.intro (Nat.le_of_ble_eq_true rfl) (f0 _ z g))
  · exact ⟨Nat.le_of_ble_eq_true rfl, Nat.le_of_ble_eq_true rfl, 1, by decide, f1 (3, 1) (by decide) _ z g⟩
def sh_129 (as : List wi_V) (h : wc_H) (q : wi_Q1 wc_H) (_ : wi_Q2 wc_H) : Prop := ∃ x p0 p1 p2, as = [wi_rf (some x), .inl p0, .inl p1, .inr (.inl p2)] ∧ (p1 = 0 ∨ p1 = 1) ∧ wl_hV sm_101 [wi_rf (some 11), .inl p0, .inl p1, .inr (.inl p2)] (wh_ex 129) x h q
theorem ch_129 {l : Launch} {D : va_G} {aC : wm_Y} {b0 : Nat} (hl0 : l.stackTraces = false) : wh_sp l D aC b0 129 (wi_lf (wc_Rl wc_ok3) sh_129) := by
  refine wh_method (wc_lw wc_ok3) 129 (cx := fun id => if id = 11 then wc_fr wc_ok sc_11 else fun _ _ _ _ => False) (ids := ci_129) (tb := tb_129) ⟨rfl, rfl⟩ hl0 (wm_cxc (wl_cl (cm_11 hl0)) oi_129 (fun h => wm_cxn h)) tk_129 (by decide +kernel) (by decide +kernel) 40 (fun as h q qt hs => ?_)
  obtain ⟨x, p0, p1, p2, rfl, hz, M, hJ, f0, f1⟩ := hs
  obtain ⟨tg, ln, I, L, R, n⟩ := h
  obtain ⟨hx, hn⟩ := wk_J_x hJ
  refine ⟨rfl, fun _ _ _ _ _ _ _ => False, mq_nc, ?_⟩
  refine And.intro (Nat.le_of_ble_eq_true rfl) (And.intro (Nat.le_of_ble_eq_true rfl) (Exists.intro x (And.intro rfl (And.intro hx (fun _ => ?_)))))
  refine And.intro hz (Exists.intro M (And.intro hJ (And.intro (fun h' z g => ?_) (And.intro (fun h' z g => ?_) (And.intro (fun h' z g => ?_) (fun h' z g => ?_))))))
  · exact And.intro (Nat.le_of_ble_eq_true rfl) (And.intro (Nat.le_of_ble_eq_true rfl) (f0 _ z g))
  · exact ⟨Nat.le_of_ble_eq_true rfl, Nat.le_of_ble_eq_true rfl, 1, by decide, f1 (3, 1) (by decide) _ z g⟩
  · exact ⟨Nat.le_of_ble_eq_true rfl, Nat.le_of_ble_eq_true rfl, 2, by decide, f1 (1, 2) (by decide) _ z g⟩
  · exact ⟨Nat.le_of_ble_eq_true rfl, Nat.le_of_ble_eq_true rfl, 3, by decide, f1 (2, 3) (by decide) _ z g⟩
def sh_130 (as : List wi_V) (h : wc_H) (q : wi_Q1 wc_H) (_ : wi_Q2 wc_H) : Prop := ∃ x p0, as = [wi_rf (some x), .inl p0] ∧ wl_hV sm_102 [wi_rf (some 11), .inl p0] (wh_ex 130) x h q
theorem ch_130 {l : Launch} {D : va_G} {aC : wm_Y} {b0 : Nat} (hl0 : l.stackTraces = false) : wh_sp l D aC b0 130 (wi_lf (wc_Rl wc_ok3) sh_130) := by
  refine wh_method (wc_lw wc_ok3) 130 (cx := fun id => if id = 12 then wc_fr wc_ok sc_12 else fun _ _ _ _ => False) (ids := ci_130) (tb := tb_130) ⟨rfl, rfl⟩ hl0 (wm_cxc (wl_cl (cm_12 hl0)) oi_130 (fun h => wm_cxn h)) tk_130 (by decide +kernel) (by decide +kernel) 40 (fun as h q qt hs => ?_)
  obtain ⟨x, p0, rfl, M, hJ, f0, f1⟩ := hs
  obtain ⟨tg, ln, I, L, R, n⟩ := h
  obtain ⟨hx, hn⟩ := wk_J_x hJ
  refine ⟨rfl, fun _ _ _ _ _ _ _ => False, mq_nc, ?_⟩
  refine And.intro (Nat.le_of_ble_eq_true rfl) (And.intro (Nat.le_of_ble_eq_true rfl) (Exists.intro x (And.intro rfl (And.intro hx (fun _ => ?_)))))
  refine Exists.intro M (And.intro hJ (And.intro (fun h' z g => ?_) (And.intro (fun h' z g => ?_) (fun h' z g => ?_))))
  · exact And.intro (Nat.le_of_ble_eq_true rfl) (And.intro (Nat.le_of_ble_eq_true rfl) (f0 _ z g))
  · exact ⟨Nat.le_of_ble_eq_true rfl, Nat.le_of_ble_eq_true rfl, 1, by decide, f1 (3, 1) (by decide) _ z g⟩
  · exact ⟨Nat.le_of_ble_eq_true rfl, Nat.le_of_ble_eq_true rfl, 2, by decide, f1 (2, 2) (by decide) _ z g⟩
def sh_131 (as : List wi_V) (h : wc_H) (q : wi_Q1 wc_H) (_ : wi_Q2 wc_H) : Prop := ∃ x p0 p1, as = [wi_rf (some x), .inl p0, .inl p1] ∧ wl_hV sm_103 [wi_rf (some 11), .inl p0, .inl p1] (wh_ex 131) x h q
theorem ch_131 {l : Launch} {D : va_G} {aC : wm_Y} {b0 : Nat} (hl0 : l.stackTraces = false) : wh_sp l D aC b0 131 (wi_lf (wc_Rl wc_ok3) sh_131) := by
  refine wh_method (wc_lw wc_ok3) 131 (cx := fun id => if id = 13 then wc_fr wc_ok sc_13 else fun _ _ _ _ => False) (ids := ci_131) (tb := tb_131) ⟨rfl, rfl⟩ hl0 (wm_cxc (wl_cl (cm_13 hl0)) oi_131 (fun h => wm_cxn h)) tk_131 (by decide +kernel) (by decide +kernel) 40 (fun as h q qt hs => ?_)
  obtain ⟨x, p0, p1, rfl, M, hJ, f0, f1⟩ := hs
  obtain ⟨tg, ln, I, L, R, n⟩ := h
  obtain ⟨hx, hn⟩ := wk_J_x hJ
  refine ⟨rfl, fun _ _ _ _ _ _ _ => False, mq_nc, ?_⟩
  refine And.intro (Nat.le_of_ble_eq_true rfl) (And.intro (Nat.le_of_ble_eq_true rfl) (Exists.intro x (And.intro rfl (And.intro hx (fun _ => ?_)))))
  refine Exists.intro M (And.intro hJ (And.intro (fun h' z g => ?_) (And.intro (fun h' z g => ?_) (fun h' z g => ?_))))
  · exact And.intro (Nat.le_of_ble_eq_true rfl) (And.intro (Nat.le_of_ble_eq_true rfl) (f0 _ z g))
  · exact ⟨Nat.le_of_ble_eq_true rfl, Nat.le_of_ble_eq_true rfl, 1, by decide, f1 (3, 1) (by decide) _ z g⟩
  · exact ⟨Nat.le_of_ble_eq_true rfl, Nat.le_of_ble_eq_true rfl, 2, by decide, f1 (2, 2) (by decide) _ z g⟩
def sh_132 (as : List wi_V) (h : wc_H) (q : wi_Q1 wc_H) (_ : wi_Q2 wc_H) : Prop := ∃ x out, as = [wi_rf (some x), wi_rf (some out)] ∧ wl_hI sm_106 [wi_rf (some 11)] (wh_ex 132) x out h q
theorem ch_132 {l : Launch} {D : va_G} {aC : wm_Y} {b0 : Nat} (hl0 : l.stackTraces = false) : wh_sp l D aC b0 132 (wi_lf (wc_Rl wc_ok3) sh_132) := by
  refine wh_method (wc_lw wc_ok3) 132 (cx := fun id => if id = 14 then wc_fr wc_ok sc_14 else fun _ _ _ _ => False) (ids := ci_132) (tb := tb_132) ⟨rfl, rfl⟩ hl0 (wm_cxc (wl_cl (cm_14 hl0)) oi_132 (fun h => wm_cxn h)) tk_132 (by decide +kernel) (by decide +kernel) 40 (fun as h q qt hs => ?_)
  obtain ⟨x, out, rfl, ⟨ho1, ho2⟩, M, hJ, f0, f1⟩ := hs
  obtain ⟨tg, ln, I, L, R, n⟩ := h
  obtain ⟨hx, hn⟩ := wk_J_x hJ
  have hon : out < n := hn out (fun z => by simp only at ho1 z; omega)
  refine ⟨rfl, fun _ _ _ _ _ _ _ => False, mq_nc, ?_⟩
  refine And.intro (Nat.le_of_ble_eq_true rfl) (And.intro (Nat.le_of_ble_eq_true rfl) (Exists.intro x (And.intro rfl (And.intro hx (fun _ => ?_)))))
  refine Exists.intro M (And.intro hJ (And.intro (fun r h' z g => ?_) (fun h' z g => ?_)))
  · obtain ⟨tg', ln', I', L', R', n'⟩ := h'
    have g1 := g.2.2.1 out hon
    refine Exists.intro out (And.intro rfl (And.intro (g1.1.trans ho1) (And.intro (Int.le_refl 0) (And.intro ?_ (fun L2 e2 => ?_)))))
    · have e9 : ln' out = 1 := g1.2.trans ho2
      rw [e9]
      decide
    · refine And.intro (Nat.le_of_ble_eq_true rfl) (And.intro (Nat.le_of_ble_eq_true rfl) ?_)
      subst e2
      exact f0 r _ z g
  · exact ⟨Nat.le_of_ble_eq_true rfl, Nat.le_of_ble_eq_true rfl, 1, by decide, f1 (2, 1) (by decide) _ z g⟩
def sh_133 (as : List wi_V) (h : wc_H) (q : wi_Q1 wc_H) (_ : wi_Q2 wc_H) : Prop := ∃ x p0 out, as = [wi_rf (some x), .inl p0, wi_rf (some out)] ∧ wl_hI sm_110 [wi_rf (some 11), .inl p0] (wh_ex 133) x out h q
theorem ch_133 {l : Launch} {D : va_G} {aC : wm_Y} {b0 : Nat} (hl0 : l.stackTraces = false) : wh_sp l D aC b0 133 (wi_lf (wc_Rl wc_ok3) sh_133) := by
  refine wh_method (wc_lw wc_ok3) 133 (cx := fun id => if id = 15 then wc_fr wc_ok sc_15 else fun _ _ _ _ => False) (ids := ci_133) (tb := tb_133) ⟨rfl, rfl⟩ hl0 (wm_cxc (wl_cl (cm_15 hl0)) oi_133 (fun h => wm_cxn h)) tk_133 (by decide +kernel) (by decide +kernel) 40 (fun as h q qt hs => ?_)
  obtain ⟨x, p0, out, rfl, ⟨ho1, ho2⟩, M, hJ, f0, f1⟩ := hs
  obtain ⟨tg, ln, I, L, R, n⟩ := h
  obtain ⟨hx, hn⟩ := wk_J_x hJ
  have hon : out < n := hn out (fun z => by simp only at ho1 z; omega)
  refine ⟨rfl, fun _ _ _ _ _ _ _ => False, mq_nc, ?_⟩
  refine And.intro (Nat.le_of_ble_eq_true rfl) (And.intro (Nat.le_of_ble_eq_true rfl) (Exists.intro x (And.intro rfl (And.intro hx (fun _ => ?_)))))
  refine Exists.intro M (And.intro hJ (And.intro (fun r h' z g => ?_) (fun h' z g => ?_)))
  · obtain ⟨tg', ln', I', L', R', n'⟩ := h'
    have g1 := g.2.2.1 out hon
    refine Exists.intro out (And.intro rfl (And.intro (g1.1.trans ho1) (And.intro (Int.le_refl 0) (And.intro ?_ (fun L2 e2 => ?_)))))
    · have e9 : ln' out = 1 := g1.2.trans ho2
      rw [e9]
      decide
    · refine And.intro (Nat.le_of_ble_eq_true rfl) (And.intro (Nat.le_of_ble_eq_true rfl) ?_)
      subst e2
      exact f0 r _ z g
  · exact ⟨Nat.le_of_ble_eq_true rfl, Nat.le_of_ble_eq_true rfl, 1, by decide, f1 (3, 1) (by decide) _ z g⟩
def sh_134 (as : List wi_V) (h : wc_H) (q : wi_Q1 wc_H) (_ : wi_Q2 wc_H) : Prop := ∃ x p0 p1 out, as = [wi_rf (some x), .inl p0, .inl p1, wi_rf (some out)] ∧ wl_hI sm_111 [wi_rf (some 11), .inl p0, .inl p1] (wh_ex 134) x out h q
theorem ch_134 {l : Launch} {D : va_G} {aC : wm_Y} {b0 : Nat} (hl0 : l.stackTraces = false) : wh_sp l D aC b0 134 (wi_lf (wc_Rl wc_ok3) sh_134) := by
  refine wh_method (wc_lw wc_ok3) 134 (cx := fun id => if id = 16 then wc_fr wc_ok sc_16 else fun _ _ _ _ => False) (ids := ci_134) (tb := tb_134) ⟨rfl, rfl⟩ hl0 (wm_cxc (wl_cl (cm_16 hl0)) oi_134 (fun h => wm_cxn h)) tk_134 (by decide +kernel) (by decide +kernel) 40 (fun as h q qt hs => ?_)
  obtain ⟨x, p0, p1, out, rfl, ⟨ho1, ho2⟩, M, hJ, f0, f1⟩ := hs
  obtain ⟨tg, ln, I, L, R, n⟩ := h
  obtain ⟨hx, hn⟩ := wk_J_x hJ
  have hon : out < n := hn out (fun z => by simp only at ho1 z; omega)
  refine ⟨rfl, fun _ _ _ _ _ _ _ => False, mq_nc, ?_⟩
  refine And.intro (Nat.le_of_ble_eq_true rfl) (And.intro (Nat.le_of_ble_eq_true rfl) (Exists.intro x (And.intro rfl (And.intro hx (fun _ => ?_)))))
  refine Exists.intro M (And.intro hJ (And.intro (fun r h' z g => ?_) (fun h' z g => ?_)))
  · obtain ⟨tg', ln', I', L', R', n'⟩ := h'
    have g1 := g.2.2.1 out hon
    refine Exists.intro out (And.intro rfl (And.intro (g1.1.trans ho1) (And.intro (Int.le_refl 0) (And.intro ?_ (fun L2 e2 => ?_)))))
    · have e9 : ln' out = 1 := g1.2.trans ho2
      rw [e9]
      decide
    · refine And.intro (Nat.le_of_ble_eq_true rfl) (And.intro (Nat.le_of_ble_eq_true rfl) ?_)
      subst e2
      exact f0 r _ z g
  · exact ⟨Nat.le_of_ble_eq_true rfl, Nat.le_of_ble_eq_true rfl, 1, by decide, f1 (1, 1) (by decide) _ z g⟩
def sh_135 (as : List wi_V) (h : wc_H) (q : wi_Q1 wc_H) (_ : wi_Q2 wc_H) : Prop := ∃ x p0 p1 p2 out, as = [wi_rf (some x), .inl p0, .inl p1, .inl p2, wi_rf (some out)] ∧ wl_hI sm_112 [wi_rf (some 11), .inl p0, .inl p1, .inl p2] (wh_ex 135) x out h q
theorem ch_135 {l : Launch} {D : va_G} {aC : wm_Y} {b0 : Nat} (hl0 : l.stackTraces = false) : wh_sp l D aC b0 135 (wi_lf (wc_Rl wc_ok3) sh_135) := by
  refine wh_method (wc_lw wc_ok3) 135 (cx := fun id => if id = 17 then wc_fr wc_ok sc_17 else fun _ _ _ _ => False) (ids := ci_135) (tb := tb_135) ⟨rfl, rfl⟩ hl0 (wm_cxc (wl_cl (cm_17 hl0)) oi_135 (fun h => wm_cxn h)) tk_135 (by decide +kernel) (by decide +kernel) 40 (fun as h q qt hs => ?_)
  obtain ⟨x, p0, p1, p2, out, rfl, ⟨ho1, ho2⟩, M, hJ, f0, f1⟩ := hs
  obtain ⟨tg, ln, I, L, R, n⟩ := h
  obtain ⟨hx, hn⟩ := wk_J_x hJ
  have hon : out < n := hn out (fun z => by simp only at ho1 z; omega)
  refine ⟨rfl, fun _ _ _ _ _ _ _ => False, mq_nc, ?_⟩
  refine And.intro (Nat.le_of_ble_eq_true rfl) (And.intro (Nat.le_of_ble_eq_true rfl) (Exists.intro x (And.intro rfl (And.intro hx (fun _ => ?_)))))
  refine Exists.intro M (And.intro hJ (And.intro (fun r h' z g => ?_) (fun h' z g => ?_)))
  · obtain ⟨tg', ln', I', L', R', n'⟩ := h'
    have g1 := g.2.2.1 out hon
    refine Exists.intro out (And.intro rfl (And.intro (g1.1.trans ho1) (And.intro (Int.le_refl 0) (And.intro ?_ (fun L2 e2 => ?_)))))
    · have e9 : ln' out = 1 := g1.2.trans ho2
      rw [e9]
      decide
    · refine And.intro (Nat.le_of_ble_eq_true rfl) (And.intro (Nat.le_of_ble_eq_true rfl) ?_)
      subst e2
      exact f0 r _ z g
  · exact ⟨Nat.le_of_ble_eq_true rfl, Nat.le_of_ble_eq_true rfl, 1, by decide, f1 (3, 1) (by decide) _ z g⟩
def sh_136 (as : List wi_V) (h : wc_H) (q : wi_Q1 wc_H) (_ : wi_Q2 wc_H) : Prop := ∃ x p0 out, as = [wi_rf (some x), .inl p0, wi_rf (some out)] ∧ wl_hI sm_113 [wi_rf (some 11), .inl p0] (wh_ex 136) x out h q
theorem ch_136 {l : Launch} {D : va_G} {aC : wm_Y} {b0 : Nat} (hl0 : l.stackTraces = false) : wh_sp l D aC b0 136 (wi_lf (wc_Rl wc_ok3) sh_136) := by
  refine wh_method (wc_lw wc_ok3) 136 (cx := fun id => if id = 18 then wc_fr wc_ok sc_18 else fun _ _ _ _ => False) (ids := ci_136) (tb := tb_136) ⟨rfl, rfl⟩ hl0 (wm_cxc (wl_cl (cm_18 hl0)) oi_136 (fun h => wm_cxn h)) tk_136 (by decide +kernel) (by decide +kernel) 40 (fun as h q qt hs => ?_)
  obtain ⟨x, p0, out, rfl, ⟨ho1, ho2⟩, M, hJ, f0, f1⟩ := hs
  obtain ⟨tg, ln, I, L, R, n⟩ := h
  obtain ⟨hx, hn⟩ := wk_J_x hJ
  have hon : out < n := hn out (fun z => by simp only at ho1 z; omega)
  refine ⟨rfl, fun _ _ _ _ _ _ _ => False, mq_nc, ?_⟩
  refine And.intro (Nat.le_of_ble_eq_true rfl) (And.intro (Nat.le_of_ble_eq_true rfl) (Exists.intro x (And.intro rfl (And.intro hx (fun _ => ?_)))))
  refine Exists.intro M (And.intro hJ (And.intro (fun r h' z g => ?_) (fun h' z g => ?_)))
  · obtain ⟨tg', ln', I', L', R', n'⟩ := h'
    have g1 := g.2.2.1 out hon
    refine Exists.intro out (And.intro rfl (And.intro (g1.1.trans ho1) (And.intro (Int.le_refl 0) (And.intro ?_ (fun L2 e2 => ?_)))))
    · have e9 : ln' out = 1 := g1.2.trans ho2
      rw [e9]
      decide
    · refine And.intro (Nat.le_of_ble_eq_true rfl) (And.intro (Nat.le_of_ble_eq_true rfl) ?_)
      subst e2
      exact f0 r _ z g
  · exact ⟨Nat.le_of_ble_eq_true rfl, Nat.le_of_ble_eq_true rfl, 1, by decide, f1 (3, 1) (by decide) _ z g⟩
def sh_137 (as : List wi_V) (h : wc_H) (q : wi_Q1 wc_H) (_ : wi_Q2 wc_H) : Prop := ∃ x p0 p1 p2 out, as = [wi_rf (some x), .inl p0, .inl p1, .inl p2, wi_rf (some out)] ∧ wl_hI sm_117 [wi_rf (some 11), .inl p0, .inl p1, .inl p2] (wh_ex 137) x out h q
theorem ch_137 {l : Launch} {D : va_G} {aC : wm_Y} {b0 : Nat} (hl0 : l.stackTraces = false) : wh_sp l D aC b0 137 (wi_lf (wc_Rl wc_ok3) sh_137) := by
  refine wh_method (wc_lw wc_ok3) 137 (cx := fun id => if id = 23 then wc_fr wc_ok sc_23 else fun _ _ _ _ => False) (ids := ci_137) (tb := tb_137) ⟨rfl, rfl⟩ hl0 (wm_cxc (wl_cl (cm_23 hl0)) oi_137 (fun h => wm_cxn h)) tk_137 (by decide +kernel) (by decide +kernel) 40 (fun as h q qt hs => ?_)
  obtain ⟨x, p0, p1, p2, out, rfl, ⟨ho1, ho2⟩, M, hJ, f0, f1⟩ := hs
  obtain ⟨tg, ln, I, L, R, n⟩ := h
  obtain ⟨hx, hn⟩ := wk_J_x hJ
  have hon : out < n := hn out (fun z => by simp only at ho1 z; omega)
  refine ⟨rfl, fun _ _ _ _ _ _ _ => False, mq_nc, ?_⟩
  refine And.intro (Nat.le_of_ble_eq_true rfl) (And.intro (Nat.le_of_ble_eq_true rfl) (Exists.intro x (And.intro rfl (And.intro hx (fun _ => ?_)))))
  refine Exists.intro M (And.intro hJ (And.intro (fun r h' z g => ?_) (fun h' z g => ?_)))
  · obtain ⟨tg', ln', I', L', R', n'⟩ := h'
    have g1 := g.2.2.1 out hon
    refine Exists.intro out (And.intro rfl (And.intro (g1.1.trans ho1) (And.intro (Int.le_refl 0) (And.intro ?_ (fun L2 e2 => ?_)))))
    · have e9 : ln' out = 1 := g1.2.trans ho2
      rw [e9]
      decide
    · refine And.intro (Nat.le_of_ble_eq_true rfl) (And.intro (Nat.le_of_ble_eq_true rfl) ?_)
      subst e2
      exact f0 r _ z g
  · exact ⟨Nat.le_of_ble_eq_true rfl, Nat.le_of_ble_eq_true rfl, 1, by decide, f1 (3, 1) (by decide) _ z g⟩
def sh_138 (as : List wi_V) (h : wc_H) (q : wi_Q1 wc_H) (_ : wi_Q2 wc_H) : Prop := ∃ x p0 p1 p2 p3 out, as = [wi_rf (some x), .inl p0, .inl p1, .inl p2, .inr (.inl p3), wi_rf (some out)] ∧ wl_hI sm_118 [wi_rf (some 11), .inl p0, .inl p1, .inl p2, .inr (.inl p3)] (wh_ex 138) x out h q
theorem ch_138 {l : Launch} {D : va_G} {aC : wm_Y} {b0 : Nat} (hl0 : l.stackTraces = false) : wh_sp l D aC b0 138 (wi_lf (wc_Rl wc_ok3) sh_138) := by
  refine wh_method (wc_lw wc_ok3) 138 (cx := fun id => if id = 24 then wc_fr wc_ok sc_24 else fun _ _ _ _ => False) (ids := ci_138) (tb := tb_138) ⟨rfl, rfl⟩ hl0 (wm_cxc (wl_cl (cm_24 hl0)) oi_138 (fun h => wm_cxn h)) tk_138 (by decide +kernel) (by decide +kernel) 40 (fun as h q qt hs => ?_)
  obtain ⟨x, p0, p1, p2, p3, out, rfl, ⟨ho1, ho2⟩, M, hJ, f0, f1⟩ := hs
  obtain ⟨tg, ln, I, L, R, n⟩ := h
  obtain ⟨hx, hn⟩ := wk_J_x hJ
  have hon : out < n := hn out (fun z => by simp only at ho1 z; omega)
  refine ⟨rfl, fun _ _ _ _ _ _ _ => False, mq_nc, ?_⟩
  refine And.intro (Nat.le_of_ble_eq_true rfl) (And.intro (Nat.le_of_ble_eq_true rfl) (Exists.intro x (And.intro rfl (And.intro hx (fun _ => ?_)))))
  refine Exists.intro M (And.intro hJ (And.intro (fun r h' z g => ?_) (And.intro (fun h' z g => ?_) (fun h' z g => ?_))))
  · obtain ⟨tg', ln', I', L', R', n'⟩ := h'
    have g1 := g.2.2.1 out hon
    refine Exists.intro out (And.intro rfl (And.intro (g1.1.trans ho1) (And.intro (Int.le_refl 0) (And.intro ?_ (fun L2 e2 => ?_)))))
    · have e9 : ln' out = 1 := g1.2.trans ho2
      rw [e9]
      decide
    · refine And.intro (Nat.le_of_ble_eq_true rfl) (And.intro (Nat.le_of_ble_eq_true rfl) ?_)
      subst e2
      exact f0 r _ z g
  · exact ⟨Nat.le_of_ble_eq_true rfl, Nat.le_of_ble_eq_true rfl, 1, by decide, f1 (3, 1) (by decide) _ z g⟩
  · exact ⟨Nat.le_of_ble_eq_true rfl, Nat.le_of_ble_eq_true rfl, 2, by decide, f1 (1, 2) (by decide) _ z g⟩
