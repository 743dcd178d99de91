/-! by program (wip/whole/gen_tabs.py): the methods of inner, instruction by instruction -/
/-- CycleKernel$Driver.<init>(IILCycleKernel$Store;LCycleKernel$Driver;)V -/
def tb_36 : wm_T := [(0, .aload_n 0, 0, 0, 0, 0), (1, .invokespecial 1, 0, 0, 9, 400), (4, .aload_n 0, 0, 0, 0, 0), (5, .iload_n 1, 0, 0, 0, 0), (6, .putfield 7, 3, 0, 0, 419), (9, .aload_n 0, 0, 0, 0, 0), (10, .aload 4, 0, 0, 0, 0), (12, .putfield 13, 3, 2, 2, 424), (15, .aload_n 0, 0, 0, 0, 0), (16, .iload_n 2, 0, 0, 0, 0), (17, .anewarray 17, 22, 0, 0, 401), (20, .putfield 19, 3, 1, 2, 421), (23, .iconst 0, 0, 0, 0, 0), (24, .istore 5, 0, 0, 0, 0), (26, .iload 5, 0, 0, 0, 0), (28, .iload_n 2, 0, 0, 0, 0), (29, .if_icmp .ge (24), 53, 0, 0, 0), (32, .aload_n 0, 0, 0, 0, 0), (33, .getfield 19, 3, 1, 2, 421), (36, .iload 5, 0, 0, 0, 0), (38, .new 17, 4, 3, 0, 401), (41, .dup, 0, 0, 0, 0), (42, .aload_n 3, 0, 0, 0, 0), (43, .invokespecial 23, 37, 2, 0, 404), (46, .aastore, 22, 2, 0, 0), (47, .iinc 5 1, 0, 0, 0, 0), (50, .goto (-24), 26, 0, 0, 0), (53, .return_, 0, 0, 0, 0)]
abbrev ci_36 : List Nat := [37]
theorem tk_36 : wm_tb (wm_mr 36) (wm_my 36).cls (wm_my 36).name (wm_mrt 36) ci_36 (wm_mb 36) tb_36 = true := by decide +kernel
theorem oi_36 : ci_36.all (wm_oib (wm_mr 36)) = true := by decide +kernel
/-- CycleKernel$Row.<init>(LCycleKernel$Store;)V -/
def tb_37 : wm_T := [(0, .aload_n 0, 0, 0, 0, 0), (1, .invokespecial 3, 0, 0, 9, 407), (4, .aload_n 0, 0, 0, 0, 0), (5, .aload_n 1, 0, 0, 0, 0), (6, .putfield 9, 4, 0, 2, 408), (9, .return_, 0, 0, 0, 0)]
abbrev ci_37 : List Nat := []
theorem tk_37 : wm_tb (wm_mr 37) (wm_my 37).cls (wm_my 37).name (wm_mrt 37) ci_37 (wm_mb 37) tb_37 = true := by decide +kernel
theorem oi_37 : ci_37.all (wm_oib (wm_mr 37)) = true := by decide +kernel
/-- CycleKernel$Row.length()I -/
def tb_38 : wm_T := [(0, .iconst 0, 0, 0, 0, 0), (1, .istore_n 1, 0, 0, 0, 0), (2, .aload_n 0, 0, 0, 0, 0), (3, .getfield 15, 4, 1, 2, 409), (6, .astore_n 2, 0, 0, 0, 0), (7, .aload_n 2, 0, 0, 0, 0), (8, .ifnull (14), 22, 0, 0, 0), (11, .iinc 1 1, 0, 0, 0, 0), (14, .aload_n 2, 0, 0, 0, 0), (15, .getfield 19, 9, 2, 2, 577), (18, .astore_n 2, 0, 0, 0, 0), (19, .goto (-12), 7, 0, 0, 0), (22, .iload_n 1, 0, 0, 0, 0), (23, .ireturn, 0, 0, 0, 0)]
abbrev ci_38 : List Nat := []
theorem tk_38 : wm_tb (wm_mr 38) (wm_my 38).cls (wm_my 38).name (wm_mrt 38) ci_38 (wm_mb 38) tb_38 = true := by decide +kernel
theorem oi_38 : ci_38.all (wm_oib (wm_mr 38)) = true := by decide +kernel
/-- CycleKernel$Row.soonest()J -/
def tb_39 : wm_T := [(0, .aload_n 0, 0, 0, 0, 0), (1, .getfield 15, 4, 1, 2, 409), (4, .ifnonnull (9), 13, 0, 0, 0), (7, .ldc2_w 24, 18446744073709551615, 0, 0, 187), (10, .goto (10), 20, 0, 0, 0), (13, .aload_n 0, 0, 0, 0, 0), (14, .getfield 15, 4, 1, 2, 409), (17, .getfield 26, 9, 0, 1, 574), (20, .lreturn, 0, 0, 0, 0)]
abbrev ci_39 : List Nat := []
theorem tk_39 : wm_tb (wm_mr 39) (wm_my 39).cls (wm_my 39).name (wm_mrt 39) ci_39 (wm_mb 39) tb_39 = true := by decide +kernel
theorem oi_39 : ci_39.all (wm_oib (wm_mr 39)) = true := by decide +kernel
/-- CycleKernel$Row.valueAt(J)I -/
def tb_40 : wm_T := [(0, .aload_n 0, 0, 0, 0, 0), (1, .getfield 30, 4, 2, 0, 410), (4, .istore_n 3, 0, 0, 0, 0), (5, .aload_n 0, 0, 0, 0, 0), (6, .getfield 15, 4, 1, 2, 409), (9, .astore 4, 0, 0, 0, 0), (11, .aload 4, 0, 0, 0, 0), (13, .ifnull (29), 42, 0, 0, 0), (16, .aload 4, 0, 0, 0, 0), (18, .getfield 26, 9, 0, 1, 574), (21, .lload_n 1, 0, 0, 0, 0), (22, .lcmp, 0, 0, 0, 0), (23, .ifCond .gt (19), 42, 0, 0, 0), (26, .aload 4, 0, 0, 0, 0), (28, .getfield 34, 9, 1, 0, 576), (31, .istore_n 3, 0, 0, 0, 0), (32, .aload 4, 0, 0, 0, 0), (34, .getfield 19, 9, 2, 2, 577), (37, .astore 4, 0, 0, 0, 0), (39, .goto (-28), 11, 0, 0, 0), (42, .iload_n 3, 0, 0, 0, 0), (43, .ireturn, 0, 0, 0, 0)]
abbrev ci_40 : List Nat := []
theorem tk_40 : wm_tb (wm_mr 40) (wm_my 40).cls (wm_my 40).name (wm_mrt 40) ci_40 (wm_mb 40) tb_40 = true := by decide +kernel
theorem oi_40 : ci_40.all (wm_oib (wm_mr 40)) = true := by decide +kernel
/-- CycleKernel$Row.takeDue(J)Z -/
def tb_41 : wm_T := [(0, .aload_n 0, 0, 0, 0, 0), (1, .aload_n 0, 0, 0, 0, 0), (2, .lload_n 1, 0, 0, 0, 0), (3, .invokevirtual 35, 40, 2, 0, 653), (6, .putfield 30, 4, 2, 0, 410), (9, .aload_n 0, 0, 0, 0, 0), (10, .getfield 15, 4, 1, 2, 409), (13, .astore_n 3, 0, 0, 0, 0), (14, .aload_n 3, 0, 0, 0, 0), (15, .ifnull (20), 35, 0, 0, 0), (18, .aload_n 3, 0, 0, 0, 0), (19, .getfield 26, 9, 0, 1, 574), (22, .lload_n 1, 0, 0, 0, 0), (23, .lcmp, 0, 0, 0, 0), (24, .ifCond .gt (11), 35, 0, 0, 0), (27, .aload_n 3, 0, 0, 0, 0), (28, .getfield 19, 9, 2, 2, 577), (31, .astore_n 3, 0, 0, 0, 0), (32, .goto (-18), 14, 0, 0, 0), (35, .aload_n 0, 0, 0, 0, 0), (36, .aconst_null, 0, 0, 0, 0), (37, .aload_n 3, 0, 0, 0, 0), (38, .invokevirtual 39, 46, 2, 0, 541), (41, .ifCond .le (7), 48, 0, 0, 0), (44, .iconst 1, 0, 0, 0, 0), (45, .goto (4), 49, 0, 0, 0), (48, .iconst 0, 0, 0, 0, 0), (49, .ireturn, 1, 0, 0, 0)]
abbrev ci_41 : List Nat := [40, 46]
theorem tk_41 : wm_tb (wm_mr 41) (wm_my 41).cls (wm_my 41).name (wm_mrt 41) ci_41 (wm_mb 41) tb_41 = true := by decide +kernel
theorem oi_41 : ci_41.all (wm_oib (wm_mr 41)) = true := by decide +kernel
/-- CycleKernel$Row.lastBefore(J)LCycleKernel$Transaction; -/
def tb_42 : wm_T := [(0, .aconst_null, 0, 0, 0, 0), (1, .astore_n 3, 0, 0, 0, 0), (2, .aload_n 0, 0, 0, 0, 0), (3, .getfield 15, 4, 1, 2, 409), (6, .astore 4, 0, 0, 0, 0), (8, .aload 4, 0, 0, 0, 0), (10, .ifnull (26), 36, 0, 0, 0), (13, .aload 4, 0, 0, 0, 0), (15, .getfield 26, 9, 0, 1, 574), (18, .lload_n 1, 0, 0, 0, 0), (19, .lcmp, 0, 0, 0, 0), (20, .ifCond .ge (16), 36, 0, 0, 0), (23, .aload 4, 0, 0, 0, 0), (25, .astore_n 3, 0, 0, 0, 0), (26, .aload 4, 0, 0, 0, 0), (28, .getfield 19, 9, 2, 2, 577), (31, .astore 4, 0, 0, 0, 0), (33, .goto (-25), 8, 0, 0, 0), (36, .aload_n 3, 0, 0, 0, 0), (37, .areturn, 0, 0, 0, 0)]
abbrev ci_42 : List Nat := []
theorem tk_42 : wm_tb (wm_mr 42) (wm_my 42).cls (wm_my 42).name (wm_mrt 42) ci_42 (wm_mb 42) tb_42 = true := by decide +kernel
theorem oi_42 : ci_42.all (wm_oib (wm_mr 42)) = true := by decide +kernel
/-- CycleKernel$Row.deleteFrom(J)I -/
def tb_43 : wm_T := [(0, .aload_n 0, 0, 0, 0, 0), (1, .aload_n 0, 0, 0, 0, 0), (2, .lload_n 1, 0, 0, 0, 0), (3, .invokevirtual 43, 42, 2, 0, 537), (6, .aconst_null, 0, 0, 0, 0), (7, .invokevirtual 39, 46, 2, 0, 541), (10, .ireturn, 0, 0, 0, 0)]
abbrev ci_43 : List Nat := [42, 46]
theorem tk_43 : wm_tb (wm_mr 43) (wm_my 43).cls (wm_my 43).name (wm_mrt 43) ci_43 (wm_mb 43) tb_43 = true := by decide +kernel
theorem oi_43 : ci_43.all (wm_oib (wm_mr 43)) = true := by decide +kernel
/-- CycleKernel$Row.deleteOthers(JI)I -/
def tb_44 : wm_T := [(0, .aload_n 0, 0, 0, 0, 0), (1, .lload_n 1, 0, 0, 0, 0), (2, .invokevirtual 43, 42, 2, 0, 537), (5, .astore 4, 0, 0, 0, 0), (7, .aload 4, 0, 0, 0, 0), (9, .ifnonnull (10), 19, 0, 0, 0), (12, .aload_n 0, 0, 0, 0, 0), (13, .getfield 15, 4, 1, 2, 409), (16, .goto (8), 24, 0, 0, 0), (19, .aload 4, 0, 0, 0, 0), (21, .getfield 19, 9, 2, 2, 577), (24, .astore 5, 0, 0, 0, 0), (26, .aload 5, 0, 0, 0, 0), (28, .astore 6, 0, 0, 0, 0), (30, .aload 6, 0, 0, 0, 0), (32, .ifnull (29), 61, 0, 0, 0), (35, .aload 6, 0, 0, 0, 0), (37, .getfield 34, 9, 1, 0, 576), (40, .iload_n 3, 0, 0, 0, 0), (41, .if_icmp .eq (10), 51, 0, 0, 0), (44, .aload 6, 0, 0, 0, 0), (46, .getfield 19, 9, 2, 2, 577), (49, .astore 5, 0, 0, 0, 0), (51, .aload 6, 0, 0, 0, 0), (53, .getfield 19, 9, 2, 2, 577), (56, .astore 6, 0, 0, 0, 0), (58, .goto (-28), 30, 0, 0, 0), (61, .aload_n 0, 0, 0, 0, 0), (62, .aload 4, 0, 0, 0, 0), (64, .aload 5, 0, 0, 0, 0), (66, .invokevirtual 39, 46, 2, 0, 541), (69, .ireturn, 0, 0, 0, 0)]
abbrev ci_44 : List Nat := [42, 46]
theorem tk_44 : wm_tb (wm_mr 44) (wm_my 44).cls (wm_my 44).name (wm_mrt 44) ci_44 (wm_mb 44) tb_44 = true := by decide +kernel
theorem oi_44 : ci_44.all (wm_oib (wm_mr 44)) = true := by decide +kernel
/-- CycleKernel$Row.addBehind(LCycleKernel$Transaction;JI)LCycleKernel$Transaction; -/
def tb_45 : wm_T := [(0, .aload_n 0, 0, 0, 0, 0), (1, .getfield 9, 4, 0, 2, 408), (4, .lload_n 2, 0, 0, 0, 0), (5, .iload 4, 0, 0, 0, 0), (7, .invokevirtual 47, 64, 5, 0, 563), (10, .astore 5, 0, 0, 0, 0), (12, .aload_n 0, 0, 0, 0, 0), (13, .aload_n 1, 0, 0, 0, 0), (14, .aload 5, 0, 0, 0, 0), (16, .invokevirtual 53, 47, 2, 0, 549), (19, .aload 5, 0, 0, 0, 0), (21, .areturn, 0, 0, 0, 0)]
abbrev ci_45 : List Nat := [47, 64]
theorem tk_45 : wm_tb (wm_mr 45) (wm_my 45).cls (wm_my 45).name (wm_mrt 45) ci_45 (wm_mb 45) tb_45 = true := by decide +kernel
theorem oi_45 : ci_45.all (wm_oib (wm_mr 45)) = true := by decide +kernel
/-- CycleKernel$Row.deleteBetween(LCycleKernel$Transaction;LCycleKernel$Transaction;)I -/
def tb_46 : wm_T := [(0, .iconst 0, 0, 0, 0, 0), (1, .istore_n 3, 0, 0, 0, 0), (2, .aload_n 1, 0, 0, 0, 0), (3, .ifnonnull (10), 13, 0, 0, 0), (6, .aload_n 0, 0, 0, 0, 0), (7, .getfield 15, 4, 1, 2, 409), (10, .goto (7), 17, 0, 0, 0), (13, .aload_n 1, 0, 0, 0, 0), (14, .getfield 19, 9, 2, 2, 577), (17, .astore 4, 0, 0, 0, 0), (19, .aload 4, 0, 0, 0, 0), (21, .ifnull (35), 56, 0, 0, 0), (24, .aload 4, 0, 0, 0, 0), (26, .aload_n 2, 0, 0, 0, 0), (27, .if_acmp .eq (29), 56, 0, 0, 0), (30, .aload 4, 0, 0, 0, 0), (32, .getfield 19, 9, 2, 2, 577), (35, .astore 5, 0, 0, 0, 0), (37, .aload_n 0, 0, 0, 0, 0), (38, .getfield 9, 4, 0, 2, 408), (41, .aload 4, 0, 0, 0, 0), (43, .invokevirtual 57, 65, 5, 0, 545), (46, .aload 5, 0, 0, 0, 0), (48, .astore 4, 0, 0, 0, 0), (50, .iinc 3 1, 0, 0, 0, 0), (53, .goto (-34), 19, 0, 0, 0), (56, .aload_n 0, 0, 0, 0, 0), (57, .aload_n 1, 0, 0, 0, 0), (58, .aload 4, 0, 0, 0, 0), (60, .invokevirtual 53, 47, 2, 0, 549), (63, .iload_n 3, 0, 0, 0, 0), (64, .ireturn, 0, 0, 0, 0)]
abbrev ci_46 : List Nat := [47, 65]
theorem tk_46 : wm_tb (wm_mr 46) (wm_my 46).cls (wm_my 46).name (wm_mrt 46) ci_46 (wm_mb 46) tb_46 = true := by decide +kernel
theorem oi_46 : ci_46.all (wm_oib (wm_mr 46)) = true := by decide +kernel
/-- CycleKernel$Row.join(LCycleKernel$Transaction;LCycleKernel$Transaction;)V -/
def tb_47 : wm_T := [(0, .aload_n 1, 0, 0, 0, 0), (1, .ifnonnull (11), 12, 0, 0, 0), (4, .aload_n 0, 0, 0, 0, 0), (5, .aload_n 2, 0, 0, 0, 0), (6, .putfield 15, 4, 1, 2, 409), (9, .goto (8), 17, 0, 0, 0), (12, .aload_n 1, 0, 0, 0, 0), (13, .aload_n 2, 0, 0, 0, 0), (14, .putfield 19, 9, 2, 2, 577), (17, .return_, 0, 0, 0, 0)]
abbrev ci_47 : List Nat := []
theorem tk_47 : wm_tb (wm_mr 47) (wm_my 47).cls (wm_my 47).name (wm_mrt 47) ci_47 (wm_mb 47) tb_47 = true := by decide +kernel
theorem oi_47 : ci_47.all (wm_oib (wm_mr 47)) = true := by decide +kernel
/-- CycleKernel$Signal.<init>(II)V -/
def tb_48 : wm_T := [(0, .aload_n 0, 0, 0, 0, 0), (1, .invokespecial 3, 0, 0, 9, 298), (4, .aload_n 0, 0, 0, 0, 0), (5, .iload_n 1, 0, 0, 0, 0), (6, .putfield 9, 5, 0, 0, 299), (9, .aload_n 0, 0, 0, 0, 0), (10, .iload_n 2, 0, 0, 0, 0), (11, .putfield 15, 5, 1, 0, 301), (14, .aload_n 0, 0, 0, 0, 0), (15, .iload_n 2, 0, 0, 0, 0), (16, .newarray .int, 26, 0, 0, 0), (18, .putfield 18, 5, 2, 2, 303), (21, .aload_n 0, 0, 0, 0, 0), (22, .iload_n 2, 0, 0, 0, 0), (23, .newarray .int, 27, 0, 0, 0), (25, .putfield 22, 5, 3, 2, 305), (28, .return_, 0, 0, 0, 0)]
abbrev ci_48 : List Nat := []
theorem tk_48 : wm_tb (wm_mr 48) (wm_my 48).cls (wm_my 48).name (wm_mrt 48) ci_48 (wm_mb 48) tb_48 = true := by decide +kernel
theorem oi_48 : ci_48.all (wm_oib (wm_mr 48)) = true := by decide +kernel
/-- CycleKernel$Signal.canHave(I)Z -/
def tb_49 : wm_T := [(0, .aload_n 0, 0, 0, 0, 0), (1, .getfield 9, 5, 0, 0, 299), (4, .iconst 2, 0, 0, 0, 0), (5, .if_icmp .eq (13), 18, 0, 0, 0), (8, .iload_n 1, 0, 0, 0, 0), (9, .ifCond .lt (13), 22, 0, 0, 0), (12, .iload_n 1, 0, 0, 0, 0), (13, .bipush 8, 0, 0, 0, 0), (15, .if_icmp .gt (7), 22, 0, 0, 0), (18, .iconst 1, 0, 0, 0, 0), (19, .goto (4), 23, 0, 0, 0), (22, .iconst 0, 0, 0, 0, 0), (23, .ireturn, 1, 0, 0, 0)]
abbrev ci_49 : List Nat := []
theorem tk_49 : wm_tb (wm_mr 49) (wm_my 49).cls (wm_my 49).name (wm_mrt 49) ci_49 (wm_mb 49) tb_49 = true := by decide +kernel
theorem oi_49 : ci_49.all (wm_oib (wm_mr 49)) = true := by decide +kernel
/-- CycleKernel$Signal.driverOf(I)LCycleKernel$Driver; -/
def tb_50 : wm_T := [(0, .aload_n 0, 0, 0, 0, 0), (1, .getfield 25, 5, 4, 2, 307), (4, .astore_n 2, 0, 0, 0, 0), (5, .aload_n 2, 0, 0, 0, 0), (6, .ifnull (21), 27, 0, 0, 0), (9, .aload_n 2, 0, 0, 0, 0), (10, .getfield 29, 3, 0, 0, 420), (13, .iload_n 1, 0, 0, 0, 0), (14, .if_icmp .ne (5), 19, 0, 0, 0), (17, .aload_n 2, 0, 0, 0, 0), (18, .areturn, 0, 0, 0, 0), (19, .aload_n 2, 0, 0, 0, 0), (20, .getfield 34, 3, 2, 2, 425), (23, .astore_n 2, 0, 0, 0, 0), (24, .goto (-19), 5, 0, 0, 0), (27, .aconst_null, 0, 0, 0, 0), (28, .areturn, 0, 0, 0, 0)]
abbrev ci_50 : List Nat := []
theorem tk_50 : wm_tb (wm_mr 50) (wm_my 50).cls (wm_my 50).name (wm_mrt 50) ci_50 (wm_mb 50) tb_50 = true := by decide +kernel
theorem oi_50 : ci_50.all (wm_oib (wm_mr 50)) = true := by decide +kernel
/-- CycleKernel$Signal.begin()V -/
def tb_51 : wm_T := [(0, .iconst 0, 0, 0, 0, 0), (1, .istore_n 1, 0, 0, 0, 0), (2, .iload_n 1, 0, 0, 0, 0), (3, .aload_n 0, 0, 0, 0, 0), (4, .getfield 15, 5, 1, 0, 301), (7, .if_icmp .ge (64), 71, 0, 0, 0), (10, .aload_n 0, 0, 0, 0, 0), (11, .getfield 25, 5, 4, 2, 307), (14, .astore_n 2, 0, 0, 0, 0), (15, .aload_n 2, 0, 0, 0, 0), (16, .ifnull (26), 42, 0, 0, 0), (19, .aload_n 2, 0, 0, 0, 0), (20, .getfield 37, 3, 1, 2, 422), (23, .iload_n 1, 0, 0, 0, 0), (24, .aaload, 22, 0, 0, 0), (25, .aload_n 0, 0, 0, 0, 0), (26, .getfield 18, 5, 2, 2, 303), (29, .iload_n 1, 0, 0, 0, 0), (30, .iaload, 26, 0, 0, 0), (31, .putfield 41, 4, 2, 0, 411), (34, .aload_n 2, 0, 0, 0, 0), (35, .getfield 34, 3, 2, 2, 425), (38, .astore_n 2, 0, 0, 0, 0), (39, .goto (-24), 15, 0, 0, 0), (42, .aload_n 0, 0, 0, 0, 0), (43, .getfield 18, 5, 2, 2, 303), (46, .iload_n 1, 0, 0, 0, 0), (47, .aload_n 0, 0, 0, 0, 0), (48, .iload_n 1, 0, 0, 0, 0), (49, .invokevirtual 46, 55, 3, 0, 460), (52, .iastore, 26, 0, 0, 0), (53, .aload_n 0, 0, 0, 0, 0), (54, .getfield 22, 5, 3, 2, 305), (57, .iload_n 1, 0, 0, 0, 0), (58, .aload_n 0, 0, 0, 0, 0), (59, .getfield 18, 5, 2, 2, 303), (62, .iload_n 1, 0, 0, 0, 0), (63, .iaload, 26, 0, 0, 0), (64, .iastore, 27, 0, 0, 0), (65, .iinc 1 1, 0, 0, 0, 0), (68, .goto (-66), 2, 0, 0, 0), (71, .return_, 0, 0, 0, 0)]
abbrev ci_51 : List Nat := [55]
theorem tk_51 : wm_tb (wm_mr 51) (wm_my 51).cls (wm_my 51).name (wm_mrt 51) ci_51 (wm_mb 51) tb_51 = true := by decide +kernel
theorem oi_51 : ci_51.all (wm_oib (wm_mr 51)) = true := by decide +kernel
/-- CycleKernel$Signal.soonest()J -/
def tb_52 : wm_T := [(0, .ldc2_w 50, 18446744073709551615, 0, 0, 182), (3, .lstore_n 1, 0, 0, 0, 0), (4, .aload_n 0, 0, 0, 0, 0), (5, .getfield 25, 5, 4, 2, 307), (8, .astore_n 3, 0, 0, 0, 0), (9, .aload_n 3, 0, 0, 0, 0), (10, .ifnull (44), 54, 0, 0, 0), (13, .iconst 0, 0, 0, 0, 0), (14, .istore 4, 0, 0, 0, 0), (16, .iload 4, 0, 0, 0, 0), (18, .aload_n 0, 0, 0, 0, 0), (19, .getfield 15, 5, 1, 0, 301), (22, .if_icmp .ge (24), 46, 0, 0, 0), (25, .lload_n 1, 0, 0, 0, 0), (26, .aload_n 3, 0, 0, 0, 0), (27, .getfield 37, 3, 1, 2, 422), (30, .iload 4, 0, 0, 0, 0), (32, .aaload, 22, 0, 0, 0), (33, .invokevirtual 52, 39, 2, 0, 183), (36, .invokestatic 56, 33, 0, 0, 9999), (39, .lstore_n 1, 0, 0, 0, 0), (40, .iinc 4 1, 0, 0, 0, 0), (43, .goto (-27), 16, 0, 0, 0), (46, .aload_n 3, 0, 0, 0, 0), (47, .getfield 34, 3, 2, 2, 425), (50, .astore_n 3, 0, 0, 0, 0), (51, .goto (-42), 9, 0, 0, 0), (54, .lload_n 1, 0, 0, 0, 0), (55, .lreturn, 0, 0, 0, 0)]
abbrev ci_52 : List Nat := [33, 39]
theorem tk_52 : wm_tb (wm_mr 52) (wm_my 52).cls (wm_my 52).name (wm_mrt 52) ci_52 (wm_mb 52) tb_52 = true := by decide +kernel
theorem oi_52 : ci_52.all (wm_oib (wm_mr 52)) = true := by decide +kernel
/-- CycleKernel$Signal.takeDue(J)Z -/
def tb_53 : wm_T := [(0, .iconst 0, 0, 0, 0, 0), (1, .istore_n 3, 0, 0, 0, 0), (2, .aload_n 0, 0, 0, 0, 0), (3, .getfield 25, 5, 4, 2, 307), (6, .astore 4, 0, 0, 0, 0), (8, .aload 4, 0, 0, 0, 0), (10, .ifnull (48), 58, 0, 0, 0), (13, .iconst 0, 0, 0, 0, 0), (14, .istore 5, 0, 0, 0, 0), (16, .iload 5, 0, 0, 0, 0), (18, .aload_n 0, 0, 0, 0, 0), (19, .getfield 15, 5, 1, 0, 301), (22, .if_icmp .ge (26), 48, 0, 0, 0), (25, .aload 4, 0, 0, 0, 0), (27, .getfield 37, 3, 1, 2, 422), (30, .iload 5, 0, 0, 0, 0), (32, .aaload, 22, 0, 0, 0), (33, .lload_n 1, 0, 0, 0, 0), (34, .invokevirtual 60, 41, 2, 0, 649), (37, .ifCond .eq (5), 42, 0, 0, 0), (40, .iconst 1, 0, 0, 0, 0), (41, .istore_n 3, 0, 0, 0, 0), (42, .iinc 5 1, 0, 0, 0, 0), (45, .goto (-29), 16, 0, 0, 0), (48, .aload 4, 0, 0, 0, 0), (50, .getfield 34, 3, 2, 2, 425), (53, .astore 4, 0, 0, 0, 0), (55, .goto (-47), 8, 0, 0, 0), (58, .iload_n 3, 0, 0, 0, 0), (59, .ireturn, 1, 0, 0, 0)]
abbrev ci_53 : List Nat := [41]
theorem tk_53 : wm_tb (wm_mr 53) (wm_my 53).cls (wm_my 53).name (wm_mrt 53) ci_53 (wm_mb 53) tb_53 = true := by decide +kernel
theorem oi_53 : ci_53.all (wm_oib (wm_mr 53)) = true := by decide +kernel
/-- CycleKernel$Signal.update()Z -/
def tb_54 : wm_T := [(0, .iconst 0, 0, 0, 0, 0), (1, .istore_n 1, 0, 0, 0, 0), (2, .iconst 0, 0, 0, 0, 0), (3, .istore_n 2, 0, 0, 0, 0), (4, .iload_n 2, 0, 0, 0, 0), (5, .aload_n 0, 0, 0, 0, 0), (6, .getfield 15, 5, 1, 0, 301), (9, .if_icmp .ge (25), 34, 0, 0, 0), (12, .aload_n 0, 0, 0, 0, 0), (13, .iload_n 2, 0, 0, 0, 0), (14, .invokevirtual 46, 55, 3, 0, 460), (17, .aload_n 0, 0, 0, 0, 0), (18, .getfield 18, 5, 2, 2, 303), (21, .iload_n 2, 0, 0, 0, 0), (22, .iaload, 26, 0, 0, 0), (23, .if_icmp .eq (5), 28, 0, 0, 0), (26, .iconst 1, 0, 0, 0, 0), (27, .istore_n 1, 0, 0, 0, 0), (28, .iinc 2 1, 0, 0, 0, 0), (31, .goto (-27), 4, 0, 0, 0), (34, .iload_n 1, 0, 0, 0, 0), (35, .ifCond .eq (42), 77, 0, 0, 0), (38, .iconst 0, 0, 0, 0, 0), (39, .istore_n 2, 0, 0, 0, 0), (40, .iload_n 2, 0, 0, 0, 0), (41, .aload_n 0, 0, 0, 0, 0), (42, .getfield 15, 5, 1, 0, 301), (45, .if_icmp .ge (32), 77, 0, 0, 0), (48, .aload_n 0, 0, 0, 0, 0), (49, .getfield 22, 5, 3, 2, 305), (52, .iload_n 2, 0, 0, 0, 0), (53, .aload_n 0, 0, 0, 0, 0), (54, .getfield 18, 5, 2, 2, 303), (57, .iload_n 2, 0, 0, 0, 0), (58, .iaload, 26, 0, 0, 0), (59, .iastore, 27, 0, 0, 0), (60, .aload_n 0, 0, 0, 0, 0), (61, .getfield 18, 5, 2, 2, 303), (64, .iload_n 2, 0, 0, 0, 0), (65, .aload_n 0, 0, 0, 0, 0), (66, .iload_n 2, 0, 0, 0, 0), (67, .invokevirtual 46, 55, 3, 0, 460), (70, .iastore, 26, 0, 0, 0), (71, .iinc 2 1, 0, 0, 0, 0), (74, .goto (-34), 40, 0, 0, 0), (77, .iload_n 1, 0, 0, 0, 0), (78, .ireturn, 1, 0, 0, 0)]
abbrev ci_54 : List Nat := [55]
theorem tk_54 : wm_tb (wm_mr 54) (wm_my 54).cls (wm_my 54).name (wm_mrt 54) ci_54 (wm_mb 54) tb_54 = true := by decide +kernel
theorem oi_54 : ci_54.all (wm_oib (wm_mr 54)) = true := by decide +kernel
/-- CycleKernel$Signal.together(I)I -/
def tb_55 : wm_T := [(0, .aload_n 0, 0, 0, 0, 0), (1, .getfield 25, 5, 4, 2, 307), (4, .ifnonnull (10), 14, 0, 0, 0), (7, .aload_n 0, 0, 0, 0, 0), (8, .getfield 18, 5, 2, 2, 303), (11, .iload_n 1, 0, 0, 0, 0), (12, .iaload, 26, 0, 0, 0), (13, .ireturn, 0, 0, 0, 0), (14, .aload_n 0, 0, 0, 0, 0), (15, .getfield 9, 5, 0, 0, 299), (18, .iconst 2, 0, 0, 0, 0), (19, .if_icmp .ne (18), 37, 0, 0, 0), (22, .aload_n 0, 0, 0, 0, 0), (23, .getfield 25, 5, 4, 2, 307), (26, .getfield 37, 3, 1, 2, 422), (29, .iload_n 1, 0, 0, 0, 0), (30, .aaload, 22, 0, 0, 0), (31, .getfield 41, 4, 2, 0, 411), (34, .goto (8), 42, 0, 0, 0), (37, .aload_n 0, 0, 0, 0, 0), (38, .iload_n 1, 0, 0, 0, 0), (39, .invokevirtual 64, 56, 3, 0, 464), (42, .ireturn, 0, 0, 0, 0)]
abbrev ci_55 : List Nat := [56]
theorem tk_55 : wm_tb (wm_mr 55) (wm_my 55).cls (wm_my 55).name (wm_mrt 55) ci_55 (wm_mb 55) tb_55 = true := by decide +kernel
theorem oi_55 : ci_55.all (wm_oib (wm_mr 55)) = true := by decide +kernel
/-- CycleKernel$Signal.logicTogether(I)I -/
def tb_56 : wm_T := [(0, .iconst 0, 0, 0, 0, 0), (1, .istore_n 2, 0, 0, 0, 0), (2, .iconst 0, 0, 0, 0, 0), (3, .istore_n 3, 0, 0, 0, 0), (4, .iconst 0, 0, 0, 0, 0), (5, .istore 4, 0, 0, 0, 0), (7, .iconst 0, 0, 0, 0, 0), (8, .istore 5, 0, 0, 0, 0), (10, .iconst 4, 0, 0, 0, 0), (11, .istore 6, 0, 0, 0, 0), (13, .aload_n 0, 0, 0, 0, 0), (14, .getfield 25, 5, 4, 2, 307), (17, .astore 7, 0, 0, 0, 0), (19, .aload 7, 0, 0, 0, 0), (21, .ifnull (126), 147, 0, 0, 0), (24, .aload 7, 0, 0, 0, 0), (26, .getfield 37, 3, 1, 2, 422), (29, .iload_n 1, 0, 0, 0, 0), (30, .aaload, 22, 0, 0, 0), (31, .getfield 41, 4, 2, 0, 411), (34, .istore 8, 0, 0, 0, 0), (36, .iload_n 2, 0, 0, 0, 0), (37, .ifCond .ne (8), 45, 0, 0, 0), (40, .iload 8, 0, 0, 0, 0), (42, .ifCond .ne (7), 49, 0, 0, 0), (45, .iconst 1, 0, 0, 0, 0), (46, .goto (4), 50, 0, 0, 0), (49, .iconst 0, 0, 0, 0, 0), (50, .istore_n 2, 0, 0, 0, 0), (51, .iload_n 3, 0, 0, 0, 0), (52, .ifCond .ne (16), 68, 0, 0, 0), (55, .iload 8, 0, 0, 0, 0), (57, .iconst 1, 0, 0, 0, 0), (58, .if_icmp .eq (10), 68, 0, 0, 0), (61, .iload 8, 0, 0, 0, 0), (63, .bipush 8, 0, 0, 0, 0), (65, .if_icmp .ne (7), 72, 0, 0, 0), (68, .iconst 1, 0, 0, 0, 0), (69, .goto (4), 73, 0, 0, 0), (72, .iconst 0, 0, 0, 0, 0), (73, .istore_n 3, 0, 0, 0, 0), (74, .iload 4, 0, 0, 0, 0), (76, .ifCond .ne (9), 85, 0, 0, 0), (79, .iload 8, 0, 0, 0, 0), (81, .iconst 2, 0, 0, 0, 0), (82, .if_icmp .ne (7), 89, 0, 0, 0), (85, .iconst 1, 0, 0, 0, 0), (86, .goto (4), 90, 0, 0, 0), (89, .iconst 0, 0, 0, 0, 0), (90, .istore 4, 0, 0, 0, 0), (92, .iload 5, 0, 0, 0, 0), (94, .ifCond .ne (9), 103, 0, 0, 0), (97, .iload 8, 0, 0, 0, 0), (99, .iconst 3, 0, 0, 0, 0), (100, .if_icmp .ne (7), 107, 0, 0, 0), (103, .iconst 1, 0, 0, 0, 0), (104, .goto (4), 108, 0, 0, 0), (107, .iconst 0, 0, 0, 0, 0), (108, .istore 5, 0, 0, 0, 0), (110, .iload 8, 0, 0, 0, 0), (112, .iconst 4, 0, 0, 0, 0), (113, .if_icmp .eq (24), 137, 0, 0, 0), (116, .iload 6, 0, 0, 0, 0), (118, .iconst 4, 0, 0, 0, 0), (119, .if_icmp .eq (10), 129, 0, 0, 0), (122, .iload 6, 0, 0, 0, 0), (124, .iload 8, 0, 0, 0, 0), (126, .if_icmp .ne (8), 134, 0, 0, 0), (129, .iload 8, 0, 0, 0, 0), (131, .goto (4), 135, 0, 0, 0), (134, .iconst 5, 0, 0, 0, 0), (135, .istore 6, 0, 0, 0, 0), (137, .aload 7, 0, 0, 0, 0), (139, .getfield 34, 3, 2, 2, 425), (142, .astore 7, 0, 0, 0, 0), (144, .goto (-125), 19, 0, 0, 0), (147, .iload_n 2, 0, 0, 0, 0), (148, .ifCond .eq (5), 153, 0, 0, 0), (151, .iconst 0, 0, 0, 0, 0), (152, .ireturn, 0, 0, 0, 0), (153, .iload_n 3, 0, 0, 0, 0), (154, .ifCond .ne (13), 167, 0, 0, 0), (157, .iload 4, 0, 0, 0, 0), (159, .ifCond .eq (10), 169, 0, 0, 0), (162, .iload 5, 0, 0, 0, 0), (164, .ifCond .eq (5), 169, 0, 0, 0), (167, .iconst 1, 0, 0, 0, 0), (168, .ireturn, 0, 0, 0, 0), (169, .iload 4, 0, 0, 0, 0), (171, .ifCond .eq (5), 176, 0, 0, 0), (174, .iconst 2, 0, 0, 0, 0), (175, .ireturn, 0, 0, 0, 0), (176, .iload 5, 0, 0, 0, 0), (178, .ifCond .eq (7), 185, 0, 0, 0), (181, .iconst 3, 0, 0, 0, 0), (182, .goto (5), 187, 0, 0, 0), (185, .iload 6, 0, 0, 0, 0), (187, .ireturn, 0, 0, 0, 0)]
abbrev ci_56 : List Nat := []
theorem tk_56 : wm_tb (wm_mr 56) (wm_my 56).cls (wm_my 56).name (wm_mrt 56) ci_56 (wm_mb 56) tb_56 = true := by decide +kernel
theorem oi_56 : ci_56.all (wm_oib (wm_mr 56)) = true := by decide +kernel
/-- CycleKernel$SignalSet.<init>()V -/
def tb_57 : wm_T := [(0, .aload_n 0, 0, 0, 0, 0), (1, .invokespecial 3, 0, 0, 9, 96), (4, .aload_n 0, 0, 0, 0, 0), (5, .iconst 4, 0, 0, 0, 0), (6, .newarray .long, 25, 0, 0, 0), (8, .putfield 9, 6, 0, 2, 97), (11, .return_, 0, 0, 0, 0)]
abbrev ci_57 : List Nat := []
theorem tk_57 : wm_tb (wm_mr 57) (wm_my 57).cls (wm_my 57).name (wm_mrt 57) ci_57 (wm_mb 57) tb_57 = true := by decide +kernel
theorem oi_57 : ci_57.all (wm_oib (wm_mr 57)) = true := by decide +kernel
/-- CycleKernel$SignalSet.add(I)V -/
def tb_58 : wm_T := [(0, .aload_n 0, 0, 0, 0, 0), (1, .getfield 9, 6, 0, 2, 97), (4, .iload_n 1, 0, 0, 0, 0), (5, .bipush 6, 0, 0, 0, 0), (7, .ishr, 0, 0, 0, 0), (8, .dup2, 0, 0, 0, 0), (9, .laload, 25, 0, 0, 0), (10, .lconst 1, 0, 0, 0, 0), (11, .iload_n 1, 0, 0, 0, 0), (12, .bipush 63, 0, 0, 0, 0), (14, .iand, 0, 0, 0, 0), (15, .lshl, 0, 0, 0, 0), (16, .lor, 0, 0, 0, 0), (17, .lastore, 25, 0, 0, 0), (18, .return_, 0, 0, 0, 0)]
abbrev ci_58 : List Nat := []
theorem tk_58 : wm_tb (wm_mr 58) (wm_my 58).cls (wm_my 58).name (wm_mrt 58) ci_58 (wm_mb 58) tb_58 = true := by decide +kernel
theorem oi_58 : ci_58.all (wm_oib (wm_mr 58)) = true := by decide +kernel
/-- CycleKernel$SignalSet.has(I)Z -/
def tb_59 : wm_T := [(0, .aload_n 0, 0, 0, 0, 0), (1, .getfield 9, 6, 0, 2, 97), (4, .iload_n 1, 0, 0, 0, 0), (5, .bipush 6, 0, 0, 0, 0), (7, .ishr, 0, 0, 0, 0), (8, .laload, 25, 0, 0, 0), (9, .iload_n 1, 0, 0, 0, 0), (10, .bipush 63, 0, 0, 0, 0), (12, .iand, 0, 0, 0, 0), (13, .lshr, 0, 0, 0, 0), (14, .lconst 1, 0, 0, 0, 0), (15, .land, 0, 0, 0, 0), (16, .lconst 0, 0, 0, 0, 0), (17, .lcmp, 0, 0, 0, 0), (18, .ifCond .eq (7), 25, 0, 0, 0), (21, .iconst 1, 0, 0, 0, 0), (22, .goto (4), 26, 0, 0, 0), (25, .iconst 0, 0, 0, 0, 0), (26, .ireturn, 1, 0, 0, 0)]
abbrev ci_59 : List Nat := []
theorem tk_59 : wm_tb (wm_mr 59) (wm_my 59).cls (wm_my 59).name (wm_mrt 59) ci_59 (wm_mb 59) tb_59 = true := by decide +kernel
theorem oi_59 : ci_59.all (wm_oib (wm_mr 59)) = true := by decide +kernel
/-- CycleKernel$SignalSet.meets(LCycleKernel$SignalSet;)Z -/
def tb_60 : wm_T := [(0, .iconst 0, 0, 0, 0, 0), (1, .istore_n 2, 0, 0, 0, 0), (2, .iload_n 2, 0, 0, 0, 0), (3, .aload_n 0, 0, 0, 0, 0), (4, .getfield 9, 6, 0, 2, 97), (7, .arraylength, 25, 0, 0, 0), (8, .if_icmp .ge (29), 37, 0, 0, 0), (11, .aload_n 0, 0, 0, 0, 0), (12, .getfield 9, 6, 0, 2, 97), (15, .iload_n 2, 0, 0, 0, 0), (16, .laload, 25, 0, 0, 0), (17, .aload_n 1, 0, 0, 0, 0), (18, .getfield 9, 6, 0, 2, 97), (21, .iload_n 2, 0, 0, 0, 0), (22, .laload, 25, 0, 0, 0), (23, .land, 0, 0, 0, 0), (24, .lconst 0, 0, 0, 0, 0), (25, .lcmp, 0, 0, 0, 0), (26, .ifCond .eq (5), 31, 0, 0, 0), (29, .iconst 1, 0, 0, 0, 0), (30, .ireturn, 1, 0, 0, 0), (31, .iinc 2 1, 0, 0, 0, 0), (34, .goto (-32), 2, 0, 0, 0), (37, .iconst 0, 0, 0, 0, 0), (38, .ireturn, 1, 0, 0, 0)]
abbrev ci_60 : List Nat := []
theorem tk_60 : wm_tb (wm_mr 60) (wm_my 60).cls (wm_my 60).name (wm_mrt 60) ci_60 (wm_mb 60) tb_60 = true := by decide +kernel
theorem oi_60 : ci_60.all (wm_oib (wm_mr 60)) = true := by decide +kernel
/-- CycleKernel$SignalSet.copy(LCycleKernel$SignalSet;)V -/
def tb_61 : wm_T := [(0, .iconst 0, 0, 0, 0, 0), (1, .istore_n 2, 0, 0, 0, 0), (2, .iload_n 2, 0, 0, 0, 0), (3, .aload_n 0, 0, 0, 0, 0), (4, .getfield 9, 6, 0, 2, 97), (7, .arraylength, 25, 0, 0, 0), (8, .if_icmp .ge (21), 29, 0, 0, 0), (11, .aload_n 0, 0, 0, 0, 0), (12, .getfield 9, 6, 0, 2, 97), (15, .iload_n 2, 0, 0, 0, 0), (16, .aload_n 1, 0, 0, 0, 0), (17, .getfield 9, 6, 0, 2, 97), (20, .iload_n 2, 0, 0, 0, 0), (21, .laload, 25, 0, 0, 0), (22, .lastore, 25, 0, 0, 0), (23, .iinc 2 1, 0, 0, 0, 0), (26, .goto (-24), 2, 0, 0, 0), (29, .return_, 0, 0, 0, 0)]
abbrev ci_61 : List Nat := []
theorem tk_61 : wm_tb (wm_mr 61) (wm_my 61).cls (wm_my 61).name (wm_mrt 61) ci_61 (wm_mb 61) tb_61 = true := by decide +kernel
theorem oi_61 : ci_61.all (wm_oib (wm_mr 61)) = true := by decide +kernel
/-- CycleKernel$SignalSet.clear()V -/
def tb_62 : wm_T := [(0, .iconst 0, 0, 0, 0, 0), (1, .istore_n 1, 0, 0, 0, 0), (2, .iload_n 1, 0, 0, 0, 0), (3, .aload_n 0, 0, 0, 0, 0), (4, .getfield 9, 6, 0, 2, 97), (7, .arraylength, 25, 0, 0, 0), (8, .if_icmp .ge (16), 24, 0, 0, 0), (11, .aload_n 0, 0, 0, 0, 0), (12, .getfield 9, 6, 0, 2, 97), (15, .iload_n 1, 0, 0, 0, 0), (16, .lconst 0, 0, 0, 0, 0), (17, .lastore, 25, 0, 0, 0), (18, .iinc 1 1, 0, 0, 0, 0), (21, .goto (-19), 2, 0, 0, 0), (24, .return_, 0, 0, 0, 0)]
abbrev ci_62 : List Nat := []
theorem tk_62 : wm_tb (wm_mr 62) (wm_my 62).cls (wm_my 62).name (wm_mrt 62) ci_62 (wm_mb 62) tb_62 = true := by decide +kernel
theorem oi_62 : ci_62.all (wm_oib (wm_mr 62)) = true := by decide +kernel
/-- CycleKernel$Store.<init>()V -/
def tb_63 : wm_T := [(0, .aload_n 0, 0, 0, 0, 0), (1, .invokespecial 1, 0, 0, 9, 62), (4, .return_, 0, 0, 0, 0)]
abbrev ci_63 : List Nat := []
theorem tk_63 : wm_tb (wm_mr 63) (wm_my 63).cls (wm_my 63).name (wm_mrt 63) ci_63 (wm_mb 63) tb_63 = true := by decide +kernel
theorem oi_63 : ci_63.all (wm_oib (wm_mr 63)) = true := by decide +kernel
/-- CycleKernel$Store.take(JI)LCycleKernel$Transaction; -/
def tb_64 : wm_T := [(0, .aload_n 0, 0, 0, 0, 0), (1, .getfield 7, 7, 1, 2, 65), (4, .astore 4, 0, 0, 0, 0), (6, .aload 4, 0, 0, 0, 0), (8, .ifnonnull (15), 23, 0, 0, 0), (11, .new 13, 9, 3, 0, 567), (14, .dup, 0, 0, 0, 0), (15, .invokespecial 15, 70, 7, 0, 9999), (18, .astore 4, 0, 0, 0, 0), (20, .goto (12), 32, 0, 0, 0), (23, .aload_n 0, 0, 0, 0, 0), (24, .aload 4, 0, 0, 0, 0), (26, .getfield 16, 9, 2, 2, 578), (29, .putfield 7, 7, 1, 2, 65), (32, .aload 4, 0, 0, 0, 0), (34, .lload_n 1, 0, 0, 0, 0), (35, .putfield 19, 9, 0, 1, 573), (38, .aload 4, 0, 0, 0, 0), (40, .iload_n 3, 0, 0, 0, 0), (41, .putfield 23, 9, 1, 0, 575), (44, .aload 4, 0, 0, 0, 0), (46, .aconst_null, 0, 0, 0, 0), (47, .putfield 16, 9, 2, 2, 578), (50, .aload_n 0, 0, 0, 0, 0), (51, .dup, 0, 0, 0, 0), (52, .getfield 27, 7, 0, 0, 63), (55, .iconst 1, 0, 0, 0, 0), (56, .iadd, 0, 0, 0, 0), (57, .putfield 27, 7, 0, 0, 63), (60, .aload 4, 0, 0, 0, 0), (62, .areturn, 0, 0, 0, 0)]
abbrev ci_64 : List Nat := [70]
theorem tk_64 : wm_tb (wm_mr 64) (wm_my 64).cls (wm_my 64).name (wm_mrt 64) ci_64 (wm_mb 64) tb_64 = true := by decide +kernel
theorem oi_64 : ci_64.all (wm_oib (wm_mr 64)) = true := by decide +kernel
/-- CycleKernel$Store.giveBack(LCycleKernel$Transaction;)V -/
def tb_65 : wm_T := [(0, .aload_n 1, 0, 0, 0, 0), (1, .aload_n 0, 0, 0, 0, 0), (2, .getfield 7, 7, 1, 2, 65), (5, .putfield 16, 9, 2, 2, 578), (8, .aload_n 0, 0, 0, 0, 0), (9, .aload_n 1, 0, 0, 0, 0), (10, .putfield 7, 7, 1, 2, 65), (13, .aload_n 0, 0, 0, 0, 0), (14, .dup, 0, 0, 0, 0), (15, .getfield 27, 7, 0, 0, 63), (18, .iconst 1, 0, 0, 0, 0), (19, .isub, 0, 0, 0, 0), (20, .putfield 27, 7, 0, 0, 63), (23, .return_, 0, 0, 0, 0)]
abbrev ci_65 : List Nat := []
theorem tk_65 : wm_tb (wm_mr 65) (wm_my 65).cls (wm_my 65).name (wm_mrt 65) ci_65 (wm_mb 65) tb_65 = true := by decide +kernel
theorem oi_65 : ci_65.all (wm_oib (wm_mr 65)) = true := by decide +kernel
/-- CycleKernel$Task.<init>()V -/
def tb_66 : wm_T := [(0, .aload_n 0, 0, 0, 0, 0), (1, .invokespecial 3, 0, 0, 9, 335), (4, .aload_n 0, 0, 0, 0, 0), (5, .new 9, 6, 1, 0, 336), (8, .dup, 0, 0, 0, 0), (9, .invokespecial 11, 57, 4, 0, 9999), (12, .putfield 12, 8, 0, 2, 338), (15, .aload_n 0, 0, 0, 0, 0), (16, .iconst 1, 0, 0, 0, 0), (17, .putfield 18, 8, 1, 0, 340), (20, .aload_n 0, 0, 0, 0, 0), (21, .ldc2_w 22, 18446744073709551615, 0, 0, 196), (24, .putfield 24, 8, 3, 1, 344), (27, .return_, 0, 0, 0, 0)]
abbrev ci_66 : List Nat := [57]
theorem tk_66 : wm_tb (wm_mr 66) (wm_my 66).cls (wm_my 66).name (wm_mrt 66) ci_66 (wm_mb 66) tb_66 = true := by decide +kernel
theorem oi_66 : ci_66.all (wm_oib (wm_mr 66)) = true := by decide +kernel
/-- CycleKernel$Task.isBusy()Z -/
def tb_67 : wm_T := [(0, .aload_n 0, 0, 0, 0, 0), (1, .getfield 18, 8, 1, 0, 340), (4, .ifCond .eq (11), 15, 0, 0, 0), (7, .aload_n 0, 0, 0, 0, 0), (8, .getfield 18, 8, 1, 0, 340), (11, .iconst 2, 0, 0, 0, 0), (12, .if_icmp .ne (7), 19, 0, 0, 0), (15, .iconst 1, 0, 0, 0, 0), (16, .goto (4), 20, 0, 0, 0), (19, .iconst 0, 0, 0, 0, 0), (20, .ireturn, 1, 0, 0, 0)]
abbrev ci_67 : List Nat := []
theorem tk_67 : wm_tb (wm_mr 67) (wm_my 67).cls (wm_my 67).name (wm_mrt 67) ci_67 (wm_mb 67) tb_67 = true := by decide +kernel
theorem oi_67 : ci_67.all (wm_oib (wm_mr 67)) = true := by decide +kernel
/-- CycleKernel$Task.waitsUntil()J -/
def tb_68 : wm_T := [(0, .aload_n 0, 0, 0, 0, 0), (1, .getfield 18, 8, 1, 0, 340), (4, .iconst 1, 0, 0, 0, 0), (5, .if_icmp .eq (11), 16, 0, 0, 0), (8, .aload_n 0, 0, 0, 0, 0), (9, .getfield 18, 8, 1, 0, 340), (12, .iconst 2, 0, 0, 0, 0), (13, .if_icmp .ne (10), 23, 0, 0, 0), (16, .aload_n 0, 0, 0, 0, 0), (17, .getfield 24, 8, 3, 1, 344), (20, .goto (6), 26, 0, 0, 0), (23, .ldc2_w 22, 18446744073709551615, 0, 0, 196), (26, .lreturn, 0, 0, 0, 0)]
abbrev ci_68 : List Nat := []
theorem tk_68 : wm_tb (wm_mr 68) (wm_my 68).cls (wm_my 68).name (wm_mrt 68) ci_68 (wm_mb 68) tb_68 = true := by decide +kernel
theorem oi_68 : ci_68.all (wm_oib (wm_mr 68)) = true := by decide +kernel
/-- CycleKernel$Task.wake(JLCycleKernel$SignalSet;)V -/
def tb_69 : wm_T := [(0, .aload_n 0, 0, 0, 0, 0), (1, .getfield 24, 8, 3, 1, 344), (4, .lload_n 1, 0, 0, 0, 0), (5, .lcmp, 0, 0, 0, 0), (6, .ifCond .ne (11), 17, 0, 0, 0), (9, .aload_n 0, 0, 0, 0, 0), (10, .iconst 0, 0, 0, 0, 0), (11, .putfield 18, 8, 1, 0, 340), (14, .goto (30), 44, 0, 0, 0), (17, .aload_n 0, 0, 0, 0, 0), (18, .getfield 12, 8, 0, 2, 338), (21, .aload_n 3, 0, 0, 0, 0), (22, .invokevirtual 28, 60, 4, 0, 669), (25, .ifCond .eq (19), 44, 0, 0, 0), (28, .aload_n 0, 0, 0, 0, 0), (29, .aload_n 0, 0, 0, 0, 0), (30, .getfield 32, 8, 2, 0, 342), (33, .ifCond .eq (7), 40, 0, 0, 0), (36, .iconst 2, 0, 0, 0, 0), (37, .goto (4), 41, 0, 0, 0), (40, .iconst 0, 0, 0, 0, 0), (41, .putfield 18, 8, 1, 0, 340), (44, .return_, 0, 0, 0, 0)]
abbrev ci_69 : List Nat := [60]
theorem tk_69 : wm_tb (wm_mr 69) (wm_my 69).cls (wm_my 69).name (wm_mrt 69) ci_69 (wm_mb 69) tb_69 = true := by decide +kernel
theorem oi_69 : ci_69.all (wm_oib (wm_mr 69)) = true := by decide +kernel
/-- CycleKernel$Transaction.<init>()V -/
def tb_70 : wm_T := [(0, .aload_n 0, 0, 0, 0, 0), (1, .invokespecial 1, 0, 0, 9, 572), (4, .return_, 0, 0, 0, 0)]
abbrev ci_70 : List Nat := []
theorem tk_70 : wm_tb (wm_mr 70) (wm_my 70).cls (wm_my 70).name (wm_mrt 70) ci_70 (wm_mb 70) tb_70 = true := by decide +kernel
theorem oi_70 : ci_70.all (wm_oib (wm_mr 70)) = true := by decide +kernel
/-- CycleKernel$Waves.<init>()V -/
def tb_71 : wm_T := [(0, .aload_n 0, 0, 0, 0, 0), (1, .invokespecial 3, 0, 0, 9, 76), (4, .aload_n 0, 0, 0, 0, 0), (5, .bipush 16, 0, 0, 0, 0), (7, .newarray .long, 23, 0, 0, 0), (9, .putfield 9, 10, 0, 2, 77), (12, .aload_n 0, 0, 0, 0, 0), (13, .sipush 1024, 0, 0, 0, 0), (16, .newarray .int, 24, 0, 0, 0), (18, .putfield 15, 10, 1, 2, 79), (21, .return_, 0, 0, 0, 0)]
abbrev ci_71 : List Nat := []
theorem tk_71 : wm_tb (wm_mr 71) (wm_my 71).cls (wm_my 71).name (wm_mrt 71) ci_71 (wm_mb 71) tb_71 = true := by decide +kernel
theorem oi_71 : ci_71.all (wm_oib (wm_mr 71)) = true := by decide +kernel
/-- CycleKernel$Waves.add(J)V -/
def tb_72 : wm_T := [(0, .aload_n 0, 0, 0, 0, 0), (1, .getfield 9, 10, 0, 2, 77), (4, .aload_n 0, 0, 0, 0, 0), (5, .getfield 19, 10, 2, 0, 80), (8, .lload_n 1, 0, 0, 0, 0), (9, .lastore, 23, 0, 0, 0), (10, .aload_n 0, 0, 0, 0, 0), (11, .getfield 19, 10, 2, 0, 80), (14, .bipush 64, 0, 0, 0, 0), (16, .imul, 0, 0, 0, 0), (17, .istore_n 3, 0, 0, 0, 0), (18, .iconst 0, 0, 0, 0, 0), (19, .istore 4, 0, 0, 0, 0), (21, .iload 4, 0, 0, 0, 0), (23, .bipush 64, 0, 0, 0, 0), (25, .if_icmp .ge (19), 44, 0, 0, 0), (28, .aload_n 0, 0, 0, 0, 0), (29, .getfield 15, 10, 1, 2, 79), (32, .iload_n 3, 0, 0, 0, 0), (33, .iload 4, 0, 0, 0, 0), (35, .iadd, 0, 0, 0, 0), (36, .iconst 0, 0, 0, 0, 0), (37, .iastore, 24, 0, 0, 0), (38, .iinc 4 1, 0, 0, 0, 0), (41, .goto (-20), 21, 0, 0, 0), (44, .aload_n 0, 0, 0, 0, 0), (45, .dup, 0, 0, 0, 0), (46, .getfield 19, 10, 2, 0, 80), (49, .iconst 1, 0, 0, 0, 0), (50, .iadd, 0, 0, 0, 0), (51, .putfield 19, 10, 2, 0, 80), (54, .return_, 0, 0, 0, 0)]
abbrev ci_72 : List Nat := []
theorem tk_72 : wm_tb (wm_mr 72) (wm_my 72).cls (wm_my 72).name (wm_mrt 72) ci_72 (wm_mb 72) tb_72 = true := by decide +kernel
theorem oi_72 : ci_72.all (wm_oib (wm_mr 72)) = true := by decide +kernel
/-- CycleKernel$Waves.setLatest(II)V -/
def tb_73 : wm_T := [(0, .aload_n 0, 0, 0, 0, 0), (1, .getfield 15, 10, 1, 2, 79), (4, .aload_n 0, 0, 0, 0, 0), (5, .getfield 19, 10, 2, 0, 80), (8, .iconst 1, 0, 0, 0, 0), (9, .isub, 0, 0, 0, 0), (10, .bipush 64, 0, 0, 0, 0), (12, .imul, 0, 0, 0, 0), (13, .iload_n 1, 0, 0, 0, 0), (14, .iadd, 0, 0, 0, 0), (15, .iload_n 2, 0, 0, 0, 0), (16, .iastore, 24, 0, 0, 0), (17, .return_, 0, 0, 0, 0)]
abbrev ci_73 : List Nat := []
theorem tk_73 : wm_tb (wm_mr 73) (wm_my 73).cls (wm_my 73).name (wm_mrt 73) ci_73 (wm_mb 73) tb_73 = true := by decide +kernel
theorem oi_73 : ci_73.all (wm_oib (wm_mr 73)) = true := by decide +kernel
/-- CycleKernel$Waves.elementOf(II)I -/
def tb_74 : wm_T := [(0, .aload_n 0, 0, 0, 0, 0), (1, .getfield 15, 10, 1, 2, 79), (4, .iload_n 1, 0, 0, 0, 0), (5, .bipush 64, 0, 0, 0, 0), (7, .imul, 0, 0, 0, 0), (8, .iload_n 2, 0, 0, 0, 0), (9, .iadd, 0, 0, 0, 0), (10, .iaload, 24, 0, 0, 0), (11, .ireturn, 0, 0, 0, 0)]
abbrev ci_74 : List Nat := []
theorem tk_74 : wm_tb (wm_mr 74) (wm_my 74).cls (wm_my 74).name (wm_mrt 74) ci_74 (wm_mb 74) tb_74 = true := by decide +kernel
theorem oi_74 : ci_74.all (wm_oib (wm_mr 74)) = true := by decide +kernel
/-- CycleKernel$Waves.latestDelay()J -/
def tb_75 : wm_T := [(0, .aload_n 0, 0, 0, 0, 0), (1, .getfield 9, 10, 0, 2, 77), (4, .aload_n 0, 0, 0, 0, 0), (5, .getfield 19, 10, 2, 0, 80), (8, .iconst 1, 0, 0, 0, 0), (9, .isub, 0, 0, 0, 0), (10, .laload, 23, 0, 0, 0), (11, .lreturn, 0, 0, 0, 0)]
abbrev ci_75 : List Nat := []
theorem tk_75 : wm_tb (wm_mr 75) (wm_my 75).cls (wm_my 75).name (wm_mrt 75) ci_75 (wm_mb 75) tb_75 = true := by decide +kernel
theorem oi_75 : ci_75.all (wm_oib (wm_mr 75)) = true := by decide +kernel
/-- CycleKernel$Waves.rise()Z -/
def tb_76 : wm_T := [(0, .iconst 1, 0, 0, 0, 0), (1, .istore_n 1, 0, 0, 0, 0), (2, .iload_n 1, 0, 0, 0, 0), (3, .aload_n 0, 0, 0, 0, 0), (4, .getfield 19, 10, 2, 0, 80), (7, .if_icmp .ge (29), 36, 0, 0, 0), (10, .aload_n 0, 0, 0, 0, 0), (11, .getfield 9, 10, 0, 2, 77), (14, .iload_n 1, 0, 0, 0, 0), (15, .laload, 23, 0, 0, 0), (16, .aload_n 0, 0, 0, 0, 0), (17, .getfield 9, 10, 0, 2, 77), (20, .iload_n 1, 0, 0, 0, 0), (21, .iconst 1, 0, 0, 0, 0), (22, .isub, 0, 0, 0, 0), (23, .laload, 23, 0, 0, 0), (24, .lcmp, 0, 0, 0, 0), (25, .ifCond .gt (5), 30, 0, 0, 0), (28, .iconst 0, 0, 0, 0, 0), (29, .ireturn, 1, 0, 0, 0), (30, .iinc 1 1, 0, 0, 0, 0), (33, .goto (-31), 2, 0, 0, 0), (36, .iconst 1, 0, 0, 0, 0), (37, .ireturn, 1, 0, 0, 0)]
abbrev ci_76 : List Nat := []
theorem tk_76 : wm_tb (wm_mr 76) (wm_my 76).cls (wm_my 76).name (wm_mrt 76) ci_76 (wm_mb 76) tb_76 = true := by decide +kernel
theorem oi_76 : ci_76.all (wm_oib (wm_mr 76)) = true := by decide +kernel
/-- CycleKernel$Waves.fit(LCycleKernel$Signal;I)Z -/
def tb_77 : wm_T := [(0, .iconst 0, 0, 0, 0, 0), (1, .istore_n 3, 0, 0, 0, 0), (2, .iload_n 3, 0, 0, 0, 0), (3, .aload_n 0, 0, 0, 0, 0), (4, .getfield 19, 10, 2, 0, 80), (7, .if_icmp .ge (40), 47, 0, 0, 0), (10, .iconst 0, 0, 0, 0, 0), (11, .istore 4, 0, 0, 0, 0), (13, .iload 4, 0, 0, 0, 0), (15, .iload_n 2, 0, 0, 0, 0), (16, .if_icmp .ge (25), 41, 0, 0, 0), (19, .aload_n 1, 0, 0, 0, 0), (20, .aload_n 0, 0, 0, 0, 0), (21, .iload_n 3, 0, 0, 0, 0), (22, .iload 4, 0, 0, 0, 0), (24, .invokevirtual 23, 74, 8, 0, 522), (27, .invokevirtual 27, 49, 3, 0, 526), (30, .ifCond .ne (5), 35, 0, 0, 0), (33, .iconst 0, 0, 0, 0, 0), (34, .ireturn, 1, 0, 0, 0), (35, .iinc 4 1, 0, 0, 0, 0), (38, .goto (-25), 13, 0, 0, 0), (41, .iinc 3 1, 0, 0, 0, 0), (44, .goto (-42), 2, 0, 0, 0), (47, .iconst 1, 0, 0, 0, 0), (48, .ireturn, 1, 0, 0, 0)]
abbrev ci_77 : List Nat := [49, 74]
theorem tk_77 : wm_tb (wm_mr 77) (wm_my 77).cls (wm_my 77).name (wm_mrt 77) ci_77 (wm_mb 77) tb_77 = true := by decide +kernel
theorem oi_77 : ci_77.all (wm_oib (wm_mr 77)) = true := by decide +kernel
