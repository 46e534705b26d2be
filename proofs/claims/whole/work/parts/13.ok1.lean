/-! The instructions of the methods, one by one: written by wip/whole/gen_tables.py. -/
section XkOk1
variable {sc : Nat × (Nat → Int32)}
theorem xd_0_0 : decode prog_2_method_2_code 0 = .ok (.aload_n 0, 1) := by decide +kernel
theorem xd_0_1 : decode prog_2_method_2_code 1 = .ok (.getfield 18, 3) := by decide +kernel
theorem xd_0_4 : decode prog_2_method_2_code 4 = .ok (.iload_n 1, 1) := by decide +kernel
theorem xd_0_5 : decode prog_2_method_2_code 5 = .ok (.baload, 1) := by decide +kernel
theorem xd_0_6 : decode prog_2_method_2_code 6 = .ok (.ireturn, 1) := by decide +kernel
theorem xk_0_0 : xk_OkA xp_F (xp_P sc) xp_cl xp_BW xp_NW xp_SW xp_exn 0 0 (.aload 0) := Or.inr ⟨0, rfl, xd_0_0, rfl⟩
theorem xk_0_1 : xk_OkA xp_F (xp_P sc) xp_cl xp_BW xp_NW xp_SW xp_exn 0 1 (.getfield 2) := ⟨_, xd_0_1, rfl, ⟨_, _, _, rfl, by decide, xu_0, Or.inl xwt_33⟩⟩
theorem xk_0_2 : xk_OkA xp_F (xp_P sc) xp_cl xp_BW xp_NW xp_SW xp_exn 0 2 (.iload 1) := Or.inr ⟨1, rfl, xd_0_4, rfl⟩
theorem xk_0_3 : xk_OkA xp_F (xp_P sc) xp_cl xp_BW xp_NW xp_SW xp_exn 0 3 (.baload) := ⟨xd_0_5, rfl⟩
theorem xk_0_4 : xk_OkA xp_F (xp_P sc) xp_cl xp_BW xp_NW xp_SW xp_exn 0 4 (.freturn) := ⟨xd_0_6, rfl⟩
theorem xl_0 : xk_OkL xp_F (xp_P sc) xp_cl xp_BW xp_NW xp_SW xp_exn 0 0 xc_0 := ⟨xk_0_0, xk_0_1, xk_0_2, xk_0_3, xk_0_4, trivial⟩
theorem xd_1_0 : decode prog_2_method_3_code 0 = .ok (.aload_n 0, 1) := by decide +kernel
theorem xd_1_1 : decode prog_2_method_3_code 1 = .ok (.getfield 18, 3) := by decide +kernel
theorem xd_1_4 : decode prog_2_method_3_code 4 = .ok (.iload_n 1, 1) := by decide +kernel
theorem xd_1_5 : decode prog_2_method_3_code 5 = .ok (.iload_n 2, 1) := by decide +kernel
theorem xd_1_6 : decode prog_2_method_3_code 6 = .ok (.bastore, 1) := by decide +kernel
theorem xd_1_7 : decode prog_2_method_3_code 7 = .ok (.return_, 1) := by decide +kernel
theorem xk_1_0 : xk_OkA xp_F (xp_P sc) xp_cl xp_BW xp_NW xp_SW xp_exn 1 0 (.aload 0) := Or.inr ⟨0, rfl, xd_1_0, rfl⟩
theorem xk_1_1 : xk_OkA xp_F (xp_P sc) xp_cl xp_BW xp_NW xp_SW xp_exn 1 1 (.getfield 2) := ⟨_, xd_1_1, rfl, ⟨_, _, _, rfl, by decide, xu_0, Or.inl xwt_33⟩⟩
theorem xk_1_2 : xk_OkA xp_F (xp_P sc) xp_cl xp_BW xp_NW xp_SW xp_exn 1 2 (.iload 1) := Or.inr ⟨1, rfl, xd_1_4, rfl⟩
theorem xk_1_3 : xk_OkA xp_F (xp_P sc) xp_cl xp_BW xp_NW xp_SW xp_exn 1 3 (.iload 2) := Or.inr ⟨2, rfl, xd_1_5, rfl⟩
theorem xk_1_4 : xk_OkA xp_F (xp_P sc) xp_cl xp_BW xp_NW xp_SW xp_exn 1 4 (.bastore) := ⟨xd_1_6, rfl⟩
theorem xk_1_5 : xk_OkA xp_F (xp_P sc) xp_cl xp_BW xp_NW xp_SW xp_exn 1 5 (.return_) := ⟨xd_1_7, rfl⟩
theorem xl_1 : xk_OkL xp_F (xp_P sc) xp_cl xp_BW xp_NW xp_SW xp_exn 1 0 xc_1 := ⟨xk_1_0, xk_1_1, xk_1_2, xk_1_3, xk_1_4, xk_1_5, trivial⟩
theorem xd_2_0 : decode prog_2_method_4_code 0 = .ok (.iload_n 0, 1) := by decide +kernel
theorem xd_2_1 : decode prog_2_method_4_code 1 = .ok (.iconst 2, 1) := by decide +kernel
theorem xd_2_2 : decode prog_2_method_4_code 2 = .ok (.imul, 1) := by decide +kernel
theorem xd_2_3 : decode prog_2_method_4_code 3 = .ok (.iload_n 1, 1) := by decide +kernel
theorem xd_2_4 : decode prog_2_method_4_code 4 = .ok (.iadd, 1) := by decide +kernel
theorem xd_2_5 : decode prog_2_method_4_code 5 = .ok (.bipush 51, 2) := by decide +kernel
theorem xd_2_7 : decode prog_2_method_4_code 7 = .ok (.imul, 1) := by decide +kernel
theorem xd_2_8 : decode prog_2_method_4_code 8 = .ok (.ireturn, 1) := by decide +kernel
theorem xk_2_0 : xk_OkA xp_F (xp_P sc) xp_cl xp_BW xp_NW xp_SW xp_exn 2 0 (.iload 0) := Or.inr ⟨0, rfl, xd_2_0, rfl⟩
theorem xk_2_1 : xk_OkA xp_F (xp_P sc) xp_cl xp_BW xp_NW xp_SW xp_exn 2 1 (.iconst 2) := Or.inl ⟨xd_2_1, rfl⟩
theorem xk_2_2 : xk_OkA xp_F (xp_P sc) xp_cl xp_BW xp_NW xp_SW xp_exn 2 2 (.imul) := ⟨xd_2_2, rfl⟩
theorem xk_2_3 : xk_OkA xp_F (xp_P sc) xp_cl xp_BW xp_NW xp_SW xp_exn 2 3 (.iload 1) := Or.inr ⟨1, rfl, xd_2_3, rfl⟩
theorem xk_2_4 : xk_OkA xp_F (xp_P sc) xp_cl xp_BW xp_NW xp_SW xp_exn 2 4 (.iadd) := ⟨xd_2_4, rfl⟩
theorem xk_2_5 : xk_OkA xp_F (xp_P sc) xp_cl xp_BW xp_NW xp_SW xp_exn 2 5 (.iconst 51) := Or.inr (Or.inl ⟨xd_2_5, by decide +kernel, rfl⟩)
theorem xk_2_6 : xk_OkA xp_F (xp_P sc) xp_cl xp_BW xp_NW xp_SW xp_exn 2 6 (.imul) := ⟨xd_2_7, rfl⟩
theorem xk_2_7 : xk_OkA xp_F (xp_P sc) xp_cl xp_BW xp_NW xp_SW xp_exn 2 7 (.ireturn) := ⟨xd_2_8, rfl⟩
theorem xl_2 : xk_OkL xp_F (xp_P sc) xp_cl xp_BW xp_NW xp_SW xp_exn 2 0 xc_2 := ⟨xk_2_0, xk_2_1, xk_2_2, xk_2_3, xk_2_4, xk_2_5, xk_2_6, xk_2_7, trivial⟩
theorem xd_3_0 : decode prog_2_method_5_code 0 = .ok (.aload_n 0, 1) := by decide +kernel
theorem xd_3_1 : decode prog_2_method_5_code 1 = .ok (.getfield 9, 3) := by decide +kernel
theorem xd_3_4 : decode prog_2_method_5_code 4 = .ok (.iload_n 1, 1) := by decide +kernel
theorem xd_3_5 : decode prog_2_method_5_code 5 = .ok (.iload_n 2, 1) := by decide +kernel
theorem xd_3_6 : decode prog_2_method_5_code 6 = .ok (.invokestatic 22, 3) := by decide +kernel
theorem xd_3_9 : decode prog_2_method_5_code 9 = .ok (.iload_n 3, 1) := by decide +kernel
theorem xd_3_10 : decode prog_2_method_5_code 10 = .ok (.iadd, 1) := by decide +kernel
theorem xd_3_11 : decode prog_2_method_5_code 11 = .ok (.iaload, 1) := by decide +kernel
theorem xd_3_12 : decode prog_2_method_5_code 12 = .ok (.ireturn, 1) := by decide +kernel
theorem xk_3_0 : xk_OkA xp_F (xp_P sc) xp_cl xp_BW xp_NW xp_SW xp_exn 3 0 (.aload 0) := Or.inr ⟨0, rfl, xd_3_0, rfl⟩
theorem xk_3_1 : xk_OkA xp_F (xp_P sc) xp_cl xp_BW xp_NW xp_SW xp_exn 3 1 (.getfield 0) := ⟨_, xd_3_1, rfl, ⟨_, _, _, rfl, by decide, xu_0, Or.inl xwt_30⟩⟩
theorem xk_3_2 : xk_OkA xp_F (xp_P sc) xp_cl xp_BW xp_NW xp_SW xp_exn 3 2 (.iload 1) := Or.inr ⟨1, rfl, xd_3_4, rfl⟩
theorem xk_3_3 : xk_OkA xp_F (xp_P sc) xp_cl xp_BW xp_NW xp_SW xp_exn 3 3 (.iload 2) := Or.inr ⟨2, rfl, xd_3_5, rfl⟩
theorem xk_3_4 : xk_OkA xp_F (xp_P sc) xp_cl xp_BW xp_NW xp_SW xp_exn 3 4 (.invokeinterface 2 2) := ⟨rfl, Or.inl ⟨xwt_300, rfl⟩, rfl, rfl, xwt_2, by decide +kernel, by decide +kernel, Nat.le_of_ble_eq_true rfl, _, Or.inl xwt_298, Or.inl ⟨xd_3_6, xwt_299, rfl, by decide +kernel⟩⟩
theorem xk_3_5 : xk_OkA xp_F (xp_P sc) xp_cl xp_BW xp_NW xp_SW xp_exn 3 5 (.iload 3) := Or.inr ⟨3, rfl, xd_3_9, rfl⟩
theorem xk_3_6 : xk_OkA xp_F (xp_P sc) xp_cl xp_BW xp_NW xp_SW xp_exn 3 6 (.iadd) := ⟨xd_3_10, rfl⟩
theorem xk_3_7 : xk_OkA xp_F (xp_P sc) xp_cl xp_BW xp_NW xp_SW xp_exn 3 7 (.iaload) := ⟨xd_3_11, rfl⟩
theorem xk_3_8 : xk_OkA xp_F (xp_P sc) xp_cl xp_BW xp_NW xp_SW xp_exn 3 8 (.ireturn) := ⟨xd_3_12, rfl⟩
theorem xl_3 : xk_OkL xp_F (xp_P sc) xp_cl xp_BW xp_NW xp_SW xp_exn 3 0 xc_3 := ⟨xk_3_0, xk_3_1, xk_3_2, xk_3_3, xk_3_4, xk_3_5, xk_3_6, xk_3_7, xk_3_8, trivial⟩
theorem xd_4_0 : decode prog_2_method_6_code 0 = .ok (.aload_n 0, 1) := by decide +kernel
theorem xd_4_1 : decode prog_2_method_6_code 1 = .ok (.getfield 9, 3) := by decide +kernel
theorem xd_4_4 : decode prog_2_method_6_code 4 = .ok (.iload_n 1, 1) := by decide +kernel
theorem xd_4_5 : decode prog_2_method_6_code 5 = .ok (.iload_n 2, 1) := by decide +kernel
theorem xd_4_6 : decode prog_2_method_6_code 6 = .ok (.invokestatic 22, 3) := by decide +kernel
theorem xd_4_9 : decode prog_2_method_6_code 9 = .ok (.iload_n 3, 1) := by decide +kernel
theorem xd_4_10 : decode prog_2_method_6_code 10 = .ok (.iadd, 1) := by decide +kernel
theorem xd_4_11 : decode prog_2_method_6_code 11 = .ok (.iload 4, 2) := by decide +kernel
theorem xd_4_13 : decode prog_2_method_6_code 13 = .ok (.iastore, 1) := by decide +kernel
theorem xd_4_14 : decode prog_2_method_6_code 14 = .ok (.return_, 1) := by decide +kernel
theorem xk_4_0 : xk_OkA xp_F (xp_P sc) xp_cl xp_BW xp_NW xp_SW xp_exn 4 0 (.aload 0) := Or.inr ⟨0, rfl, xd_4_0, rfl⟩
theorem xk_4_1 : xk_OkA xp_F (xp_P sc) xp_cl xp_BW xp_NW xp_SW xp_exn 4 1 (.getfield 0) := ⟨_, xd_4_1, rfl, ⟨_, _, _, rfl, by decide, xu_0, Or.inl xwt_30⟩⟩
theorem xk_4_2 : xk_OkA xp_F (xp_P sc) xp_cl xp_BW xp_NW xp_SW xp_exn 4 2 (.iload 1) := Or.inr ⟨1, rfl, xd_4_4, rfl⟩
theorem xk_4_3 : xk_OkA xp_F (xp_P sc) xp_cl xp_BW xp_NW xp_SW xp_exn 4 3 (.iload 2) := Or.inr ⟨2, rfl, xd_4_5, rfl⟩
theorem xk_4_4 : xk_OkA xp_F (xp_P sc) xp_cl xp_BW xp_NW xp_SW xp_exn 4 4 (.invokeinterface 2 2) := ⟨rfl, Or.inl ⟨xwt_300, rfl⟩, rfl, rfl, xwt_2, by decide +kernel, by decide +kernel, Nat.le_of_ble_eq_true rfl, _, Or.inl xwt_298, Or.inl ⟨xd_4_6, xwt_299, rfl, by decide +kernel⟩⟩
theorem xk_4_5 : xk_OkA xp_F (xp_P sc) xp_cl xp_BW xp_NW xp_SW xp_exn 4 5 (.iload 3) := Or.inr ⟨3, rfl, xd_4_9, rfl⟩
theorem xk_4_6 : xk_OkA xp_F (xp_P sc) xp_cl xp_BW xp_NW xp_SW xp_exn 4 6 (.iadd) := ⟨xd_4_10, rfl⟩
theorem xk_4_7 : xk_OkA xp_F (xp_P sc) xp_cl xp_BW xp_NW xp_SW xp_exn 4 7 (.iload 4) := Or.inl ⟨xd_4_11, rfl⟩
theorem xk_4_8 : xk_OkA xp_F (xp_P sc) xp_cl xp_BW xp_NW xp_SW xp_exn 4 8 (.iastore) := ⟨xd_4_13, rfl⟩
theorem xk_4_9 : xk_OkA xp_F (xp_P sc) xp_cl xp_BW xp_NW xp_SW xp_exn 4 9 (.return_) := ⟨xd_4_14, rfl⟩
theorem xl_4 : xk_OkL xp_F (xp_P sc) xp_cl xp_BW xp_NW xp_SW xp_exn 4 0 xc_4 := ⟨xk_4_0, xk_4_1, xk_4_2, xk_4_3, xk_4_4, xk_4_5, xk_4_6, xk_4_7, xk_4_8, xk_4_9, trivial⟩
theorem xd_5_0 : decode prog_2_method_7_code 0 = .ok (.iload_n 1, 1) := by decide +kernel
theorem xd_5_1 : decode prog_2_method_7_code 1 = .ok (.iload_n 2, 1) := by decide +kernel
theorem xd_5_2 : decode prog_2_method_7_code 2 = .ok (.invokestatic 22, 3) := by decide +kernel
theorem xd_5_5 : decode prog_2_method_7_code 5 = .ok (.istore_n 3, 1) := by decide +kernel
theorem xd_5_6 : decode prog_2_method_7_code 6 = .ok (.aload_n 0, 1) := by decide +kernel
theorem xd_5_7 : decode prog_2_method_7_code 7 = .ok (.getfield 9, 3) := by decide +kernel
theorem xd_5_10 : decode prog_2_method_7_code 10 = .ok (.iload_n 3, 1) := by decide +kernel
theorem xd_5_11 : decode prog_2_method_7_code 11 = .ok (.iaload, 1) := by decide +kernel
theorem xd_5_12 : decode prog_2_method_7_code 12 = .ok (.istore 4, 2) := by decide +kernel
theorem xd_5_14 : decode prog_2_method_7_code 14 = .ok (.aload_n 0, 1) := by decide +kernel
theorem xd_5_15 : decode prog_2_method_7_code 15 = .ok (.getfield 9, 3) := by decide +kernel
theorem xd_5_18 : decode prog_2_method_7_code 18 = .ok (.iload_n 3, 1) := by decide +kernel
theorem xd_5_19 : decode prog_2_method_7_code 19 = .ok (.bipush 50, 2) := by decide +kernel
theorem xd_5_21 : decode prog_2_method_7_code 21 = .ok (.iadd, 1) := by decide +kernel
theorem xd_5_22 : decode prog_2_method_7_code 22 = .ok (.iaload, 1) := by decide +kernel
theorem xd_5_23 : decode prog_2_method_7_code 23 = .ok (.iload 4, 2) := by decide +kernel
theorem xd_5_25 : decode prog_2_method_7_code 25 = .ok (.if_icmp .ne 27, 3) := by decide +kernel
theorem xd_5_28 : decode prog_2_method_7_code 28 = .ok (.aload_n 0, 1) := by decide +kernel
theorem xd_5_29 : decode prog_2_method_7_code 29 = .ok (.getfield 9, 3) := by decide +kernel
theorem xd_5_32 : decode prog_2_method_7_code 32 = .ok (.iload_n 3, 1) := by decide +kernel
theorem xd_5_33 : decode prog_2_method_7_code 33 = .ok (.bipush 49, 2) := by decide +kernel
theorem xd_5_35 : decode prog_2_method_7_code 35 = .ok (.iadd, 1) := by decide +kernel
theorem xd_5_36 : decode prog_2_method_7_code 36 = .ok (.iaload, 1) := by decide +kernel
theorem xd_5_37 : decode prog_2_method_7_code 37 = .ok (.aload_n 0, 1) := by decide +kernel
theorem xd_5_38 : decode prog_2_method_7_code 38 = .ok (.getfield 9, 3) := by decide +kernel
theorem xd_5_41 : decode prog_2_method_7_code 41 = .ok (.iload_n 3, 1) := by decide +kernel
theorem xd_5_42 : decode prog_2_method_7_code 42 = .ok (.invokestatic 28, 3) := by decide +kernel
theorem xd_5_45 : decode prog_2_method_7_code 45 = .ok (.if_icmp .ne 7, 3) := by decide +kernel
theorem xd_5_48 : decode prog_2_method_7_code 48 = .ok (.iconst 1, 1) := by decide +kernel
theorem xd_5_49 : decode prog_2_method_7_code 49 = .ok (.goto 4, 3) := by decide +kernel
theorem xd_5_52 : decode prog_2_method_7_code 52 = .ok (.iconst 0, 1) := by decide +kernel
theorem xd_5_53 : decode prog_2_method_7_code 53 = .ok (.istore 5, 2) := by decide +kernel
theorem xd_5_55 : decode prog_2_method_7_code 55 = .ok (.iload 5, 2) := by decide +kernel
theorem xd_5_57 : decode prog_2_method_7_code 57 = .ok (.ifCond .eq 13, 3) := by decide +kernel
theorem xd_5_60 : decode prog_2_method_7_code 60 = .ok (.iload 4, 2) := by decide +kernel
theorem xd_5_62 : decode prog_2_method_7_code 62 = .ok (.ifCond .le 8, 3) := by decide +kernel
theorem xd_5_65 : decode prog_2_method_7_code 65 = .ok (.iload 4, 2) := by decide +kernel
theorem xd_5_67 : decode prog_2_method_7_code 67 = .ok (.goto 4, 3) := by decide +kernel
theorem xd_5_70 : decode prog_2_method_7_code 70 = .ok (.iconst 0, 1) := by decide +kernel
theorem xd_5_71 : decode prog_2_method_7_code 71 = .ok (.ireturn, 1) := by decide +kernel
theorem xk_5_0 : xk_OkA xp_F (xp_P sc) xp_cl xp_BW xp_NW xp_SW xp_exn 5 0 (.iload 1) := Or.inr ⟨1, rfl, xd_5_0, rfl⟩
theorem xk_5_1 : xk_OkA xp_F (xp_P sc) xp_cl xp_BW xp_NW xp_SW xp_exn 5 1 (.iload 2) := Or.inr ⟨2, rfl, xd_5_1, rfl⟩
theorem xk_5_2 : xk_OkA xp_F (xp_P sc) xp_cl xp_BW xp_NW xp_SW xp_exn 5 2 (.invokeinterface 2 2) := ⟨rfl, Or.inl ⟨xwt_300, rfl⟩, rfl, rfl, xwt_2, by decide +kernel, by decide +kernel, Nat.le_of_ble_eq_true rfl, _, Or.inl xwt_298, Or.inl ⟨xd_5_2, xwt_299, rfl, by decide +kernel⟩⟩
theorem xk_5_3 : xk_OkA xp_F (xp_P sc) xp_cl xp_BW xp_NW xp_SW xp_exn 5 3 (.istore 3) := Or.inr ⟨3, rfl, xd_5_5, rfl⟩
theorem xk_5_4 : xk_OkA xp_F (xp_P sc) xp_cl xp_BW xp_NW xp_SW xp_exn 5 4 (.aload 0) := Or.inr ⟨0, rfl, xd_5_6, rfl⟩
theorem xk_5_5 : xk_OkA xp_F (xp_P sc) xp_cl xp_BW xp_NW xp_SW xp_exn 5 5 (.getfield 0) := ⟨_, xd_5_7, rfl, ⟨_, _, _, rfl, by decide, xu_0, Or.inl xwt_30⟩⟩
theorem xk_5_6 : xk_OkA xp_F (xp_P sc) xp_cl xp_BW xp_NW xp_SW xp_exn 5 6 (.iload 3) := Or.inr ⟨3, rfl, xd_5_10, rfl⟩
theorem xk_5_7 : xk_OkA xp_F (xp_P sc) xp_cl xp_BW xp_NW xp_SW xp_exn 5 7 (.iaload) := ⟨xd_5_11, rfl⟩
theorem xk_5_8 : xk_OkA xp_F (xp_P sc) xp_cl xp_BW xp_NW xp_SW xp_exn 5 8 (.istore 4) := Or.inl ⟨xd_5_12, rfl⟩
theorem xk_5_9 : xk_OkA xp_F (xp_P sc) xp_cl xp_BW xp_NW xp_SW xp_exn 5 9 (.aload 0) := Or.inr ⟨0, rfl, xd_5_14, rfl⟩
theorem xk_5_10 : xk_OkA xp_F (xp_P sc) xp_cl xp_BW xp_NW xp_SW xp_exn 5 10 (.getfield 0) := ⟨_, xd_5_15, rfl, ⟨_, _, _, rfl, by decide, xu_0, Or.inl xwt_30⟩⟩
theorem xk_5_11 : xk_OkA xp_F (xp_P sc) xp_cl xp_BW xp_NW xp_SW xp_exn 5 11 (.iload 3) := Or.inr ⟨3, rfl, xd_5_18, rfl⟩
theorem xk_5_12 : xk_OkA xp_F (xp_P sc) xp_cl xp_BW xp_NW xp_SW xp_exn 5 12 (.iconst 50) := Or.inr (Or.inl ⟨xd_5_19, by decide +kernel, rfl⟩)
theorem xk_5_13 : xk_OkA xp_F (xp_P sc) xp_cl xp_BW xp_NW xp_SW xp_exn 5 13 (.iadd) := ⟨xd_5_21, rfl⟩
theorem xk_5_14 : xk_OkA xp_F (xp_P sc) xp_cl xp_BW xp_NW xp_SW xp_exn 5 14 (.iaload) := ⟨xd_5_22, rfl⟩
theorem xk_5_15 : xk_OkA xp_F (xp_P sc) xp_cl xp_BW xp_NW xp_SW xp_exn 5 15 (.iload 4) := Or.inl ⟨xd_5_23, rfl⟩
theorem xk_5_16 : xk_OkA xp_F (xp_P sc) xp_cl xp_BW xp_NW xp_SW xp_exn 5 16 (.if_icmp .ne 30) := ⟨_, xd_5_25, by unfold xf_to; decide +kernel, rfl⟩
theorem xk_5_17 : xk_OkA xp_F (xp_P sc) xp_cl xp_BW xp_NW xp_SW xp_exn 5 17 (.aload 0) := Or.inr ⟨0, rfl, xd_5_28, rfl⟩
theorem xk_5_18 : xk_OkA xp_F (xp_P sc) xp_cl xp_BW xp_NW xp_SW xp_exn 5 18 (.getfield 0) := ⟨_, xd_5_29, rfl, ⟨_, _, _, rfl, by decide, xu_0, Or.inl xwt_30⟩⟩
theorem xk_5_19 : xk_OkA xp_F (xp_P sc) xp_cl xp_BW xp_NW xp_SW xp_exn 5 19 (.iload 3) := Or.inr ⟨3, rfl, xd_5_32, rfl⟩
theorem xk_5_20 : xk_OkA xp_F (xp_P sc) xp_cl xp_BW xp_NW xp_SW xp_exn 5 20 (.iconst 49) := Or.inr (Or.inl ⟨xd_5_33, by decide +kernel, rfl⟩)
theorem xk_5_21 : xk_OkA xp_F (xp_P sc) xp_cl xp_BW xp_NW xp_SW xp_exn 5 21 (.iadd) := ⟨xd_5_35, rfl⟩
theorem xk_5_22 : xk_OkA xp_F (xp_P sc) xp_cl xp_BW xp_NW xp_SW xp_exn 5 22 (.iaload) := ⟨xd_5_36, rfl⟩
theorem xk_5_23 : xk_OkA xp_F (xp_P sc) xp_cl xp_BW xp_NW xp_SW xp_exn 5 23 (.aload 0) := Or.inr ⟨0, rfl, xd_5_37, rfl⟩
theorem xk_5_24 : xk_OkA xp_F (xp_P sc) xp_cl xp_BW xp_NW xp_SW xp_exn 5 24 (.getfield 0) := ⟨_, xd_5_38, rfl, ⟨_, _, _, rfl, by decide, xu_0, Or.inl xwt_30⟩⟩
theorem xk_5_25 : xk_OkA xp_F (xp_P sc) xp_cl xp_BW xp_NW xp_SW xp_exn 5 25 (.iload 3) := Or.inr ⟨3, rfl, xd_5_41, rfl⟩
theorem xk_5_26 : xk_OkA xp_F (xp_P sc) xp_cl xp_BW xp_NW xp_SW xp_exn 5 26 (.invokeinterface 20 2) := ⟨rfl, Or.inl ⟨xwt_281, rfl⟩, rfl, rfl, xwt_3, by decide +kernel, by decide +kernel, Nat.le_of_ble_eq_true rfl, _, Or.inr ⟨_, xwn_301⟩, Or.inl ⟨xd_5_42, xwt_280, rfl, by decide +kernel⟩⟩
theorem xk_5_27 : xk_OkA xp_F (xp_P sc) xp_cl xp_BW xp_NW xp_SW xp_exn 5 27 (.if_icmp .ne 30) := ⟨_, xd_5_45, by unfold xf_to; decide +kernel, rfl⟩
theorem xk_5_28 : xk_OkA xp_F (xp_P sc) xp_cl xp_BW xp_NW xp_SW xp_exn 5 28 (.iconst 1) := Or.inl ⟨xd_5_48, rfl⟩
theorem xk_5_29 : xk_OkA xp_F (xp_P sc) xp_cl xp_BW xp_NW xp_SW xp_exn 5 29 (.goto 31) := ⟨_, xd_5_49, by unfold xf_to; decide +kernel⟩
theorem xk_5_30 : xk_OkA xp_F (xp_P sc) xp_cl xp_BW xp_NW xp_SW xp_exn 5 30 (.iconst 0) := Or.inl ⟨xd_5_52, rfl⟩
theorem xk_5_31 : xk_OkA xp_F (xp_P sc) xp_cl xp_BW xp_NW xp_SW xp_exn 5 31 (.istore 5) := Or.inl ⟨xd_5_53, rfl⟩
theorem xk_5_32 : xk_OkA xp_F (xp_P sc) xp_cl xp_BW xp_NW xp_SW xp_exn 5 32 (.iload 5) := Or.inl ⟨xd_5_55, rfl⟩
theorem xk_5_33 : xk_OkA xp_F (xp_P sc) xp_cl xp_BW xp_NW xp_SW xp_exn 5 33 (.ifCond .eq 38) := ⟨_, xd_5_57, by unfold xf_to; decide +kernel, rfl⟩
theorem xk_5_34 : xk_OkA xp_F (xp_P sc) xp_cl xp_BW xp_NW xp_SW xp_exn 5 34 (.iload 4) := Or.inl ⟨xd_5_60, rfl⟩
theorem xk_5_35 : xk_OkA xp_F (xp_P sc) xp_cl xp_BW xp_NW xp_SW xp_exn 5 35 (.ifCond .le 38) := ⟨_, xd_5_62, by unfold xf_to; decide +kernel, rfl⟩
theorem xk_5_36 : xk_OkA xp_F (xp_P sc) xp_cl xp_BW xp_NW xp_SW xp_exn 5 36 (.iload 4) := Or.inl ⟨xd_5_65, rfl⟩
theorem xk_5_37 : xk_OkA xp_F (xp_P sc) xp_cl xp_BW xp_NW xp_SW xp_exn 5 37 (.goto 39) := ⟨_, xd_5_67, by unfold xf_to; decide +kernel⟩
theorem xk_5_38 : xk_OkA xp_F (xp_P sc) xp_cl xp_BW xp_NW xp_SW xp_exn 5 38 (.iconst 0) := Or.inl ⟨xd_5_70, rfl⟩
theorem xk_5_39 : xk_OkA xp_F (xp_P sc) xp_cl xp_BW xp_NW xp_SW xp_exn 5 39 (.ireturn) := ⟨xd_5_71, rfl⟩
theorem xl_5 : xk_OkL xp_F (xp_P sc) xp_cl xp_BW xp_NW xp_SW xp_exn 5 0 xc_5 := ⟨xk_5_0, xk_5_1, xk_5_2, xk_5_3, xk_5_4, xk_5_5, xk_5_6, xk_5_7, xk_5_8, xk_5_9, xk_5_10, xk_5_11, xk_5_12, xk_5_13, xk_5_14, xk_5_15, xk_5_16, xk_5_17, xk_5_18, xk_5_19, xk_5_20, xk_5_21, xk_5_22, xk_5_23, xk_5_24, xk_5_25, xk_5_26, xk_5_27, xk_5_28, xk_5_29, xk_5_30, xk_5_31, xk_5_32, xk_5_33, xk_5_34, xk_5_35, xk_5_36, xk_5_37, xk_5_38, xk_5_39, trivial⟩
theorem xd_6_0 : decode prog_2_method_8_code 0 = .ok (.aload_n 0, 1) := by decide +kernel
theorem xd_6_1 : decode prog_2_method_8_code 1 = .ok (.iload_n 1, 1) := by decide +kernel
theorem xd_6_2 : decode prog_2_method_8_code 2 = .ok (.iconst 0, 1) := by decide +kernel
theorem xd_6_3 : decode prog_2_method_8_code 3 = .ok (.invokevirtual 32, 3) := by decide +kernel
theorem xd_6_6 : decode prog_2_method_8_code 6 = .ok (.iload_n 2, 1) := by decide +kernel
theorem xd_6_7 : decode prog_2_method_8_code 7 = .ok (.if_icmp .eq 13, 3) := by decide +kernel
theorem xd_6_10 : decode prog_2_method_8_code 10 = .ok (.aload_n 0, 1) := by decide +kernel
theorem xd_6_11 : decode prog_2_method_8_code 11 = .ok (.iload_n 1, 1) := by decide +kernel
theorem xd_6_12 : decode prog_2_method_8_code 12 = .ok (.iconst 1, 1) := by decide +kernel
theorem xd_6_13 : decode prog_2_method_8_code 13 = .ok (.invokevirtual 32, 3) := by decide +kernel
theorem xd_6_16 : decode prog_2_method_8_code 16 = .ok (.iload_n 2, 1) := by decide +kernel
theorem xd_6_17 : decode prog_2_method_8_code 17 = .ok (.if_icmp .ne 7, 3) := by decide +kernel
theorem xd_6_20 : decode prog_2_method_8_code 20 = .ok (.iconst 1, 1) := by decide +kernel
theorem xd_6_21 : decode prog_2_method_8_code 21 = .ok (.goto 4, 3) := by decide +kernel
theorem xd_6_24 : decode prog_2_method_8_code 24 = .ok (.iconst 0, 1) := by decide +kernel
theorem xd_6_25 : decode prog_2_method_8_code 25 = .ok (.ireturn, 1) := by decide +kernel
theorem xk_6_0 : xk_OkA xp_F (xp_P sc) xp_cl xp_BW xp_NW xp_SW xp_exn 6 0 (.aload 0) := Or.inr ⟨0, rfl, xd_6_0, rfl⟩
theorem xk_6_1 : xk_OkA xp_F (xp_P sc) xp_cl xp_BW xp_NW xp_SW xp_exn 6 1 (.iload 1) := Or.inr ⟨1, rfl, xd_6_1, rfl⟩
theorem xk_6_2 : xk_OkA xp_F (xp_P sc) xp_cl xp_BW xp_NW xp_SW xp_exn 6 2 (.iconst 0) := Or.inl ⟨xd_6_2, rfl⟩
theorem xk_6_3 : xk_OkA xp_F (xp_P sc) xp_cl xp_BW xp_NW xp_SW xp_exn 6 3 (.invokeinterface 5 3) := ⟨rfl, Or.inl ⟨xwt_297, rfl⟩, rfl, rfl, xwt_2, by decide +kernel, by decide +kernel, Nat.le_of_ble_eq_true rfl, _, Or.inl xwt_294, Or.inr ⟨xd_6_3, xwt_296, xws_17, ⟨_, _, _, rfl, rfl⟩, by decide +kernel⟩⟩
theorem xk_6_4 : xk_OkA xp_F (xp_P sc) xp_cl xp_BW xp_NW xp_SW xp_exn 6 4 (.iload 2) := Or.inr ⟨2, rfl, xd_6_6, rfl⟩
theorem xk_6_5 : xk_OkA xp_F (xp_P sc) xp_cl xp_BW xp_NW xp_SW xp_exn 6 5 (.if_icmp .eq 12) := ⟨_, xd_6_7, by unfold xf_to; decide +kernel, rfl⟩
theorem xk_6_6 : xk_OkA xp_F (xp_P sc) xp_cl xp_BW xp_NW xp_SW xp_exn 6 6 (.aload 0) := Or.inr ⟨0, rfl, xd_6_10, rfl⟩
theorem xk_6_7 : xk_OkA xp_F (xp_P sc) xp_cl xp_BW xp_NW xp_SW xp_exn 6 7 (.iload 1) := Or.inr ⟨1, rfl, xd_6_11, rfl⟩
theorem xk_6_8 : xk_OkA xp_F (xp_P sc) xp_cl xp_BW xp_NW xp_SW xp_exn 6 8 (.iconst 1) := Or.inl ⟨xd_6_12, rfl⟩
theorem xk_6_9 : xk_OkA xp_F (xp_P sc) xp_cl xp_BW xp_NW xp_SW xp_exn 6 9 (.invokeinterface 5 3) := ⟨rfl, Or.inl ⟨xwt_297, rfl⟩, rfl, rfl, xwt_2, by decide +kernel, by decide +kernel, Nat.le_of_ble_eq_true rfl, _, Or.inl xwt_294, Or.inr ⟨xd_6_13, xwt_296, xws_17, ⟨_, _, _, rfl, rfl⟩, by decide +kernel⟩⟩
theorem xk_6_10 : xk_OkA xp_F (xp_P sc) xp_cl xp_BW xp_NW xp_SW xp_exn 6 10 (.iload 2) := Or.inr ⟨2, rfl, xd_6_16, rfl⟩
theorem xk_6_11 : xk_OkA xp_F (xp_P sc) xp_cl xp_BW xp_NW xp_SW xp_exn 6 11 (.if_icmp .ne 14) := ⟨_, xd_6_17, by unfold xf_to; decide +kernel, rfl⟩
theorem xk_6_12 : xk_OkA xp_F (xp_P sc) xp_cl xp_BW xp_NW xp_SW xp_exn 6 12 (.iconst 1) := Or.inl ⟨xd_6_20, rfl⟩
theorem xk_6_13 : xk_OkA xp_F (xp_P sc) xp_cl xp_BW xp_NW xp_SW xp_exn 6 13 (.goto 15) := ⟨_, xd_6_21, by unfold xf_to; decide +kernel⟩
theorem xk_6_14 : xk_OkA xp_F (xp_P sc) xp_cl xp_BW xp_NW xp_SW xp_exn 6 14 (.iconst 0) := Or.inl ⟨xd_6_24, rfl⟩
theorem xk_6_15 : xk_OkA xp_F (xp_P sc) xp_cl xp_BW xp_NW xp_SW xp_exn 6 15 (.freturn) := ⟨xd_6_25, rfl⟩
theorem xl_6 : xk_OkL xp_F (xp_P sc) xp_cl xp_BW xp_NW xp_SW xp_exn 6 0 xc_6 := ⟨xk_6_0, xk_6_1, xk_6_2, xk_6_3, xk_6_4, xk_6_5, xk_6_6, xk_6_7, xk_6_8, xk_6_9, xk_6_10, xk_6_11, xk_6_12, xk_6_13, xk_6_14, xk_6_15, trivial⟩
theorem xd_7_0 : decode prog_2_method_9_code 0 = .ok (.aload_n 0, 1) := by decide +kernel
theorem xd_7_1 : decode prog_2_method_9_code 1 = .ok (.iload_n 1, 1) := by decide +kernel
theorem xd_7_2 : decode prog_2_method_9_code 2 = .ok (.iconst 0, 1) := by decide +kernel
theorem xd_7_3 : decode prog_2_method_9_code 3 = .ok (.invokevirtual 32, 3) := by decide +kernel
theorem xd_7_6 : decode prog_2_method_9_code 6 = .ok (.aload_n 0, 1) := by decide +kernel
theorem xd_7_7 : decode prog_2_method_9_code 7 = .ok (.iload_n 1, 1) := by decide +kernel
theorem xd_7_8 : decode prog_2_method_9_code 8 = .ok (.iconst 1, 1) := by decide +kernel
theorem xd_7_9 : decode prog_2_method_9_code 9 = .ok (.invokevirtual 32, 3) := by decide +kernel
theorem xd_7_12 : decode prog_2_method_9_code 12 = .ok (.if_icmp .gt 7, 3) := by decide +kernel
theorem xd_7_15 : decode prog_2_method_9_code 15 = .ok (.iconst 0, 1) := by decide +kernel
theorem xd_7_16 : decode prog_2_method_9_code 16 = .ok (.goto 4, 3) := by decide +kernel
theorem xd_7_19 : decode prog_2_method_9_code 19 = .ok (.iconst 1, 1) := by decide +kernel
theorem xd_7_20 : decode prog_2_method_9_code 20 = .ok (.ireturn, 1) := by decide +kernel
theorem xk_7_0 : xk_OkA xp_F (xp_P sc) xp_cl xp_BW xp_NW xp_SW xp_exn 7 0 (.aload 0) := Or.inr ⟨0, rfl, xd_7_0, rfl⟩
theorem xk_7_1 : xk_OkA xp_F (xp_P sc) xp_cl xp_BW xp_NW xp_SW xp_exn 7 1 (.iload 1) := Or.inr ⟨1, rfl, xd_7_1, rfl⟩
theorem xk_7_2 : xk_OkA xp_F (xp_P sc) xp_cl xp_BW xp_NW xp_SW xp_exn 7 2 (.iconst 0) := Or.inl ⟨xd_7_2, rfl⟩
theorem xk_7_3 : xk_OkA xp_F (xp_P sc) xp_cl xp_BW xp_NW xp_SW xp_exn 7 3 (.invokeinterface 5 3) := ⟨rfl, Or.inl ⟨xwt_297, rfl⟩, rfl, rfl, xwt_2, by decide +kernel, by decide +kernel, Nat.le_of_ble_eq_true rfl, _, Or.inl xwt_294, Or.inr ⟨xd_7_3, xwt_296, xws_17, ⟨_, _, _, rfl, rfl⟩, by decide +kernel⟩⟩
theorem xk_7_4 : xk_OkA xp_F (xp_P sc) xp_cl xp_BW xp_NW xp_SW xp_exn 7 4 (.aload 0) := Or.inr ⟨0, rfl, xd_7_6, rfl⟩
theorem xk_7_5 : xk_OkA xp_F (xp_P sc) xp_cl xp_BW xp_NW xp_SW xp_exn 7 5 (.iload 1) := Or.inr ⟨1, rfl, xd_7_7, rfl⟩
theorem xk_7_6 : xk_OkA xp_F (xp_P sc) xp_cl xp_BW xp_NW xp_SW xp_exn 7 6 (.iconst 1) := Or.inl ⟨xd_7_8, rfl⟩
theorem xk_7_7 : xk_OkA xp_F (xp_P sc) xp_cl xp_BW xp_NW xp_SW xp_exn 7 7 (.invokeinterface 5 3) := ⟨rfl, Or.inl ⟨xwt_297, rfl⟩, rfl, rfl, xwt_2, by decide +kernel, by decide +kernel, Nat.le_of_ble_eq_true rfl, _, Or.inl xwt_294, Or.inr ⟨xd_7_9, xwt_296, xws_17, ⟨_, _, _, rfl, rfl⟩, by decide +kernel⟩⟩
theorem xk_7_8 : xk_OkA xp_F (xp_P sc) xp_cl xp_BW xp_NW xp_SW xp_exn 7 8 (.if_icmp .gt 11) := ⟨_, xd_7_12, by unfold xf_to; decide +kernel, rfl⟩
theorem xk_7_9 : xk_OkA xp_F (xp_P sc) xp_cl xp_BW xp_NW xp_SW xp_exn 7 9 (.iconst 0) := Or.inl ⟨xd_7_15, rfl⟩
theorem xk_7_10 : xk_OkA xp_F (xp_P sc) xp_cl xp_BW xp_NW xp_SW xp_exn 7 10 (.goto 12) := ⟨_, xd_7_16, by unfold xf_to; decide +kernel⟩
theorem xk_7_11 : xk_OkA xp_F (xp_P sc) xp_cl xp_BW xp_NW xp_SW xp_exn 7 11 (.iconst 1) := Or.inl ⟨xd_7_19, rfl⟩
theorem xk_7_12 : xk_OkA xp_F (xp_P sc) xp_cl xp_BW xp_NW xp_SW xp_exn 7 12 (.ireturn) := ⟨xd_7_20, rfl⟩
theorem xl_7 : xk_OkL xp_F (xp_P sc) xp_cl xp_BW xp_NW xp_SW xp_exn 7 0 xc_7 := ⟨xk_7_0, xk_7_1, xk_7_2, xk_7_3, xk_7_4, xk_7_5, xk_7_6, xk_7_7, xk_7_8, xk_7_9, xk_7_10, xk_7_11, xk_7_12, trivial⟩
theorem xd_8_0 : decode prog_2_method_10_code 0 = .ok (.iconst (-1), 1) := by decide +kernel
theorem xd_8_1 : decode prog_2_method_10_code 1 = .ok (.istore_n 1, 1) := by decide +kernel
theorem xd_8_2 : decode prog_2_method_10_code 2 = .ok (.iconst 0, 1) := by decide +kernel
theorem xd_8_3 : decode prog_2_method_10_code 3 = .ok (.istore_n 2, 1) := by decide +kernel
theorem xd_8_4 : decode prog_2_method_10_code 4 = .ok (.iconst 0, 1) := by decide +kernel
theorem xd_8_5 : decode prog_2_method_10_code 5 = .ok (.istore_n 3, 1) := by decide +kernel
theorem xd_8_6 : decode prog_2_method_10_code 6 = .ok (.iload_n 3, 1) := by decide +kernel
theorem xd_8_7 : decode prog_2_method_10_code 7 = .ok (.iconst 4, 1) := by decide +kernel
theorem xd_8_8 : decode prog_2_method_10_code 8 = .ok (.if_icmp .ge 57, 3) := by decide +kernel
theorem xd_8_11 : decode prog_2_method_10_code 11 = .ok (.iconst 0, 1) := by decide +kernel
theorem xd_8_12 : decode prog_2_method_10_code 12 = .ok (.istore 4, 2) := by decide +kernel
theorem xd_8_14 : decode prog_2_method_10_code 14 = .ok (.iload 4, 2) := by decide +kernel
theorem xd_8_16 : decode prog_2_method_10_code 16 = .ok (.iconst 2, 1) := by decide +kernel
theorem xd_8_17 : decode prog_2_method_10_code 17 = .ok (.if_icmp .ge 42, 3) := by decide +kernel
theorem xd_8_20 : decode prog_2_method_10_code 20 = .ok (.aload_n 0, 1) := by decide +kernel
theorem xd_8_21 : decode prog_2_method_10_code 21 = .ok (.iload_n 3, 1) := by decide +kernel
theorem xd_8_22 : decode prog_2_method_10_code 22 = .ok (.iload 4, 2) := by decide +kernel
theorem xd_8_24 : decode prog_2_method_10_code 24 = .ok (.invokevirtual 32, 3) := by decide +kernel
theorem xd_8_27 : decode prog_2_method_10_code 27 = .ok (.istore 5, 2) := by decide +kernel
theorem xd_8_29 : decode prog_2_method_10_code 29 = .ok (.aload_n 0, 1) := by decide +kernel
theorem xd_8_30 : decode prog_2_method_10_code 30 = .ok (.iload_n 3, 1) := by decide +kernel
theorem xd_8_31 : decode prog_2_method_10_code 31 = .ok (.invokevirtual 35, 3) := by decide +kernel
theorem xd_8_34 : decode prog_2_method_10_code 34 = .ok (.ifCond .ne 19, 3) := by decide +kernel
theorem xd_8_37 : decode prog_2_method_10_code 37 = .ok (.iload 5, 2) := by decide +kernel
theorem xd_8_39 : decode prog_2_method_10_code 39 = .ok (.iload_n 2, 1) := by decide +kernel
theorem xd_8_40 : decode prog_2_method_10_code 40 = .ok (.if_icmp .le 13, 3) := by decide +kernel
theorem xd_8_43 : decode prog_2_method_10_code 43 = .ok (.iload_n 3, 1) := by decide +kernel
theorem xd_8_44 : decode prog_2_method_10_code 44 = .ok (.iload 4, 2) := by decide +kernel
theorem xd_8_46 : decode prog_2_method_10_code 46 = .ok (.invokestatic 22, 3) := by decide +kernel
theorem xd_8_49 : decode prog_2_method_10_code 49 = .ok (.istore_n 1, 1) := by decide +kernel
theorem xd_8_50 : decode prog_2_method_10_code 50 = .ok (.iload 5, 2) := by decide +kernel
theorem xd_8_52 : decode prog_2_method_10_code 52 = .ok (.istore_n 2, 1) := by decide +kernel
theorem xd_8_53 : decode prog_2_method_10_code 53 = .ok (.iinc 4 (1), 3) := by decide +kernel
theorem xd_8_56 : decode prog_2_method_10_code 56 = .ok (.goto (-42), 3) := by decide +kernel
theorem xd_8_59 : decode prog_2_method_10_code 59 = .ok (.iinc 3 (1), 3) := by decide +kernel
theorem xd_8_62 : decode prog_2_method_10_code 62 = .ok (.goto (-56), 3) := by decide +kernel
theorem xd_8_65 : decode prog_2_method_10_code 65 = .ok (.iload_n 1, 1) := by decide +kernel
theorem xd_8_66 : decode prog_2_method_10_code 66 = .ok (.ireturn, 1) := by decide +kernel
theorem xk_8_0 : xk_OkA xp_F (xp_P sc) xp_cl xp_BW xp_NW xp_SW xp_exn 8 0 (.iconst (-1)) := Or.inl ⟨xd_8_0, rfl⟩
theorem xk_8_1 : xk_OkA xp_F (xp_P sc) xp_cl xp_BW xp_NW xp_SW xp_exn 8 1 (.istore 1) := Or.inr ⟨1, rfl, xd_8_1, rfl⟩
theorem xk_8_2 : xk_OkA xp_F (xp_P sc) xp_cl xp_BW xp_NW xp_SW xp_exn 8 2 (.iconst 0) := Or.inl ⟨xd_8_2, rfl⟩
theorem xk_8_3 : xk_OkA xp_F (xp_P sc) xp_cl xp_BW xp_NW xp_SW xp_exn 8 3 (.istore 2) := Or.inr ⟨2, rfl, xd_8_3, rfl⟩
theorem xk_8_4 : xk_OkA xp_F (xp_P sc) xp_cl xp_BW xp_NW xp_SW xp_exn 8 4 (.iconst 0) := Or.inl ⟨xd_8_4, rfl⟩
theorem xk_8_5 : xk_OkA xp_F (xp_P sc) xp_cl xp_BW xp_NW xp_SW xp_exn 8 5 (.istore 3) := Or.inr ⟨3, rfl, xd_8_5, rfl⟩
theorem xk_8_6 : xk_OkA xp_F (xp_P sc) xp_cl xp_BW xp_NW xp_SW xp_exn 8 6 (.iload 3) := Or.inr ⟨3, rfl, xd_8_6, rfl⟩
theorem xk_8_7 : xk_OkA xp_F (xp_P sc) xp_cl xp_BW xp_NW xp_SW xp_exn 8 7 (.iconst 4) := Or.inl ⟨xd_8_7, rfl⟩
theorem xk_8_8 : xk_OkA xp_F (xp_P sc) xp_cl xp_BW xp_NW xp_SW xp_exn 8 8 (.if_icmp .ge 36) := ⟨_, xd_8_8, by unfold xf_to; decide +kernel, rfl⟩
theorem xk_8_9 : xk_OkA xp_F (xp_P sc) xp_cl xp_BW xp_NW xp_SW xp_exn 8 9 (.iconst 0) := Or.inl ⟨xd_8_11, rfl⟩
theorem xk_8_10 : xk_OkA xp_F (xp_P sc) xp_cl xp_BW xp_NW xp_SW xp_exn 8 10 (.istore 4) := Or.inl ⟨xd_8_12, rfl⟩
theorem xk_8_11 : xk_OkA xp_F (xp_P sc) xp_cl xp_BW xp_NW xp_SW xp_exn 8 11 (.iload 4) := Or.inl ⟨xd_8_14, rfl⟩
theorem xk_8_12 : xk_OkA xp_F (xp_P sc) xp_cl xp_BW xp_NW xp_SW xp_exn 8 12 (.iconst 2) := Or.inl ⟨xd_8_16, rfl⟩
theorem xk_8_13 : xk_OkA xp_F (xp_P sc) xp_cl xp_BW xp_NW xp_SW xp_exn 8 13 (.if_icmp .ge 34) := ⟨_, xd_8_17, by unfold xf_to; decide +kernel, rfl⟩
theorem xk_8_14 : xk_OkA xp_F (xp_P sc) xp_cl xp_BW xp_NW xp_SW xp_exn 8 14 (.aload 0) := Or.inr ⟨0, rfl, xd_8_20, rfl⟩
theorem xk_8_15 : xk_OkA xp_F (xp_P sc) xp_cl xp_BW xp_NW xp_SW xp_exn 8 15 (.iload 3) := Or.inr ⟨3, rfl, xd_8_21, rfl⟩
theorem xk_8_16 : xk_OkA xp_F (xp_P sc) xp_cl xp_BW xp_NW xp_SW xp_exn 8 16 (.iload 4) := Or.inl ⟨xd_8_22, rfl⟩
theorem xk_8_17 : xk_OkA xp_F (xp_P sc) xp_cl xp_BW xp_NW xp_SW xp_exn 8 17 (.invokeinterface 5 3) := ⟨rfl, Or.inl ⟨xwt_297, rfl⟩, rfl, rfl, xwt_2, by decide +kernel, by decide +kernel, Nat.le_of_ble_eq_true rfl, _, Or.inl xwt_294, Or.inr ⟨xd_8_24, xwt_296, xws_17, ⟨_, _, _, rfl, rfl⟩, by decide +kernel⟩⟩
theorem xk_8_18 : xk_OkA xp_F (xp_P sc) xp_cl xp_BW xp_NW xp_SW xp_exn 8 18 (.istore 5) := Or.inl ⟨xd_8_27, rfl⟩
theorem xk_8_19 : xk_OkA xp_F (xp_P sc) xp_cl xp_BW xp_NW xp_SW xp_exn 8 19 (.aload 0) := Or.inr ⟨0, rfl, xd_8_29, rfl⟩
theorem xk_8_20 : xk_OkA xp_F (xp_P sc) xp_cl xp_BW xp_NW xp_SW xp_exn 8 20 (.iload 3) := Or.inr ⟨3, rfl, xd_8_30, rfl⟩
theorem xk_8_21 : xk_OkA xp_F (xp_P sc) xp_cl xp_BW xp_NW xp_SW xp_exn 8 21 (.invokeinterface 0 2) := ⟨rfl, Or.inl ⟨xwt_226, rfl⟩, rfl, rfl, xwt_2, by decide +kernel, by decide +kernel, Nat.le_of_ble_eq_true rfl, _, Or.inl xwt_724, Or.inr ⟨xd_8_31, xwt_225, xws_5, ⟨_, _, _, rfl, rfl⟩, by decide +kernel⟩⟩
theorem xk_8_22 : xk_OkA xp_F (xp_P sc) xp_cl xp_BW xp_NW xp_SW xp_exn 8 22 (.ifCond .ne 32) := ⟨_, xd_8_34, by unfold xf_to; decide +kernel, rfl⟩
theorem xk_8_23 : xk_OkA xp_F (xp_P sc) xp_cl xp_BW xp_NW xp_SW xp_exn 8 23 (.iload 5) := Or.inl ⟨xd_8_37, rfl⟩
theorem xk_8_24 : xk_OkA xp_F (xp_P sc) xp_cl xp_BW xp_NW xp_SW xp_exn 8 24 (.iload 2) := Or.inr ⟨2, rfl, xd_8_39, rfl⟩
theorem xk_8_25 : xk_OkA xp_F (xp_P sc) xp_cl xp_BW xp_NW xp_SW xp_exn 8 25 (.if_icmp .le 32) := ⟨_, xd_8_40, by unfold xf_to; decide +kernel, rfl⟩
theorem xk_8_26 : xk_OkA xp_F (xp_P sc) xp_cl xp_BW xp_NW xp_SW xp_exn 8 26 (.iload 3) := Or.inr ⟨3, rfl, xd_8_43, rfl⟩
theorem xk_8_27 : xk_OkA xp_F (xp_P sc) xp_cl xp_BW xp_NW xp_SW xp_exn 8 27 (.iload 4) := Or.inl ⟨xd_8_44, rfl⟩
theorem xk_8_28 : xk_OkA xp_F (xp_P sc) xp_cl xp_BW xp_NW xp_SW xp_exn 8 28 (.invokeinterface 2 2) := ⟨rfl, Or.inl ⟨xwt_300, rfl⟩, rfl, rfl, xwt_2, by decide +kernel, by decide +kernel, Nat.le_of_ble_eq_true rfl, _, Or.inl xwt_298, Or.inl ⟨xd_8_46, xwt_299, rfl, by decide +kernel⟩⟩
theorem xk_8_29 : xk_OkA xp_F (xp_P sc) xp_cl xp_BW xp_NW xp_SW xp_exn 8 29 (.istore 1) := Or.inr ⟨1, rfl, xd_8_49, rfl⟩
theorem xk_8_30 : xk_OkA xp_F (xp_P sc) xp_cl xp_BW xp_NW xp_SW xp_exn 8 30 (.iload 5) := Or.inl ⟨xd_8_50, rfl⟩
theorem xk_8_31 : xk_OkA xp_F (xp_P sc) xp_cl xp_BW xp_NW xp_SW xp_exn 8 31 (.istore 2) := Or.inr ⟨2, rfl, xd_8_52, rfl⟩
theorem xk_8_32 : xk_OkA xp_F (xp_P sc) xp_cl xp_BW xp_NW xp_SW xp_exn 8 32 (.iinc 4 (1)) := ⟨xd_8_53, rfl⟩
theorem xk_8_33 : xk_OkA xp_F (xp_P sc) xp_cl xp_BW xp_NW xp_SW xp_exn 8 33 (.goto 11) := ⟨_, xd_8_56, by unfold xf_to; decide +kernel⟩
theorem xk_8_34 : xk_OkA xp_F (xp_P sc) xp_cl xp_BW xp_NW xp_SW xp_exn 8 34 (.iinc 3 (1)) := ⟨xd_8_59, rfl⟩
theorem xk_8_35 : xk_OkA xp_F (xp_P sc) xp_cl xp_BW xp_NW xp_SW xp_exn 8 35 (.goto 6) := ⟨_, xd_8_62, by unfold xf_to; decide +kernel⟩
theorem xk_8_36 : xk_OkA xp_F (xp_P sc) xp_cl xp_BW xp_NW xp_SW xp_exn 8 36 (.iload 1) := Or.inr ⟨1, rfl, xd_8_65, rfl⟩
theorem xk_8_37 : xk_OkA xp_F (xp_P sc) xp_cl xp_BW xp_NW xp_SW xp_exn 8 37 (.ireturn) := ⟨xd_8_66, rfl⟩
theorem xl_8 : xk_OkL xp_F (xp_P sc) xp_cl xp_BW xp_NW xp_SW xp_exn 8 0 xc_8 := ⟨xk_8_0, xk_8_1, xk_8_2, xk_8_3, xk_8_4, xk_8_5, xk_8_6, xk_8_7, xk_8_8, xk_8_9, xk_8_10, xk_8_11, xk_8_12, xk_8_13, xk_8_14, xk_8_15, xk_8_16, xk_8_17, xk_8_18, xk_8_19, xk_8_20, xk_8_21, xk_8_22, xk_8_23, xk_8_24, xk_8_25, xk_8_26, xk_8_27, xk_8_28, xk_8_29, xk_8_30, xk_8_31, xk_8_32, xk_8_33, xk_8_34, xk_8_35, xk_8_36, xk_8_37, trivial⟩
theorem xd_9_0 : decode prog_2_method_11_code 0 = .ok (.aload_n 0, 1) := by decide +kernel
theorem xd_9_1 : decode prog_2_method_11_code 1 = .ok (.getfield 15, 3) := by decide +kernel
theorem xd_9_4 : decode prog_2_method_11_code 4 = .ok (.iload_n 1, 1) := by decide +kernel
theorem xd_9_5 : decode prog_2_method_11_code 5 = .ok (.iconst 4, 1) := by decide +kernel
theorem xd_9_6 : decode prog_2_method_11_code 6 = .ok (.imul, 1) := by decide +kernel
theorem xd_9_7 : decode prog_2_method_11_code 7 = .ok (.iload_n 2, 1) := by decide +kernel
theorem xd_9_8 : decode prog_2_method_11_code 8 = .ok (.iadd, 1) := by decide +kernel
theorem xd_9_9 : decode prog_2_method_11_code 9 = .ok (.iaload, 1) := by decide +kernel
theorem xd_9_10 : decode prog_2_method_11_code 10 = .ok (.ireturn, 1) := by decide +kernel
theorem xk_9_0 : xk_OkA xp_F (xp_P sc) xp_cl xp_BW xp_NW xp_SW xp_exn 9 0 (.aload 0) := Or.inr ⟨0, rfl, xd_9_0, rfl⟩
theorem xk_9_1 : xk_OkA xp_F (xp_P sc) xp_cl xp_BW xp_NW xp_SW xp_exn 9 1 (.getfield 1) := ⟨_, xd_9_1, rfl, ⟨_, _, _, rfl, by decide, xu_0, Or.inl xwt_32⟩⟩
theorem xk_9_2 : xk_OkA xp_F (xp_P sc) xp_cl xp_BW xp_NW xp_SW xp_exn 9 2 (.iload 1) := Or.inr ⟨1, rfl, xd_9_4, rfl⟩
theorem xk_9_3 : xk_OkA xp_F (xp_P sc) xp_cl xp_BW xp_NW xp_SW xp_exn 9 3 (.iconst 4) := Or.inl ⟨xd_9_5, rfl⟩
theorem xk_9_4 : xk_OkA xp_F (xp_P sc) xp_cl xp_BW xp_NW xp_SW xp_exn 9 4 (.imul) := ⟨xd_9_6, rfl⟩
theorem xk_9_5 : xk_OkA xp_F (xp_P sc) xp_cl xp_BW xp_NW xp_SW xp_exn 9 5 (.iload 2) := Or.inr ⟨2, rfl, xd_9_7, rfl⟩
theorem xk_9_6 : xk_OkA xp_F (xp_P sc) xp_cl xp_BW xp_NW xp_SW xp_exn 9 6 (.iadd) := ⟨xd_9_8, rfl⟩
theorem xk_9_7 : xk_OkA xp_F (xp_P sc) xp_cl xp_BW xp_NW xp_SW xp_exn 9 7 (.iaload) := ⟨xd_9_9, rfl⟩
theorem xk_9_8 : xk_OkA xp_F (xp_P sc) xp_cl xp_BW xp_NW xp_SW xp_exn 9 8 (.ireturn) := ⟨xd_9_10, rfl⟩
theorem xl_9 : xk_OkL xp_F (xp_P sc) xp_cl xp_BW xp_NW xp_SW xp_exn 9 0 xc_9 := ⟨xk_9_0, xk_9_1, xk_9_2, xk_9_3, xk_9_4, xk_9_5, xk_9_6, xk_9_7, xk_9_8, trivial⟩
theorem xd_10_0 : decode prog_2_method_12_code 0 = .ok (.aload_n 0, 1) := by decide +kernel
theorem xd_10_1 : decode prog_2_method_12_code 1 = .ok (.getfield 15, 3) := by decide +kernel
theorem xd_10_4 : decode prog_2_method_12_code 4 = .ok (.iload_n 1, 1) := by decide +kernel
theorem xd_10_5 : decode prog_2_method_12_code 5 = .ok (.iconst 4, 1) := by decide +kernel
theorem xd_10_6 : decode prog_2_method_12_code 6 = .ok (.imul, 1) := by decide +kernel
theorem xd_10_7 : decode prog_2_method_12_code 7 = .ok (.iload_n 2, 1) := by decide +kernel
theorem xd_10_8 : decode prog_2_method_12_code 8 = .ok (.iadd, 1) := by decide +kernel
theorem xd_10_9 : decode prog_2_method_12_code 9 = .ok (.iload_n 3, 1) := by decide +kernel
theorem xd_10_10 : decode prog_2_method_12_code 10 = .ok (.iastore, 1) := by decide +kernel
theorem xd_10_11 : decode prog_2_method_12_code 11 = .ok (.return_, 1) := by decide +kernel
theorem xk_10_0 : xk_OkA xp_F (xp_P sc) xp_cl xp_BW xp_NW xp_SW xp_exn 10 0 (.aload 0) := Or.inr ⟨0, rfl, xd_10_0, rfl⟩
theorem xk_10_1 : xk_OkA xp_F (xp_P sc) xp_cl xp_BW xp_NW xp_SW xp_exn 10 1 (.getfield 1) := ⟨_, xd_10_1, rfl, ⟨_, _, _, rfl, by decide, xu_0, Or.inl xwt_32⟩⟩
theorem xk_10_2 : xk_OkA xp_F (xp_P sc) xp_cl xp_BW xp_NW xp_SW xp_exn 10 2 (.iload 1) := Or.inr ⟨1, rfl, xd_10_4, rfl⟩
theorem xk_10_3 : xk_OkA xp_F (xp_P sc) xp_cl xp_BW xp_NW xp_SW xp_exn 10 3 (.iconst 4) := Or.inl ⟨xd_10_5, rfl⟩
theorem xk_10_4 : xk_OkA xp_F (xp_P sc) xp_cl xp_BW xp_NW xp_SW xp_exn 10 4 (.imul) := ⟨xd_10_6, rfl⟩
theorem xk_10_5 : xk_OkA xp_F (xp_P sc) xp_cl xp_BW xp_NW xp_SW xp_exn 10 5 (.iload 2) := Or.inr ⟨2, rfl, xd_10_7, rfl⟩
theorem xk_10_6 : xk_OkA xp_F (xp_P sc) xp_cl xp_BW xp_NW xp_SW xp_exn 10 6 (.iadd) := ⟨xd_10_8, rfl⟩
theorem xk_10_7 : xk_OkA xp_F (xp_P sc) xp_cl xp_BW xp_NW xp_SW xp_exn 10 7 (.iload 3) := Or.inr ⟨3, rfl, xd_10_9, rfl⟩
theorem xk_10_8 : xk_OkA xp_F (xp_P sc) xp_cl xp_BW xp_NW xp_SW xp_exn 10 8 (.iastore) := ⟨xd_10_10, rfl⟩
theorem xk_10_9 : xk_OkA xp_F (xp_P sc) xp_cl xp_BW xp_NW xp_SW xp_exn 10 9 (.return_) := ⟨xd_10_11, rfl⟩
theorem xl_10 : xk_OkL xp_F (xp_P sc) xp_cl xp_BW xp_NW xp_SW xp_exn 10 0 xc_10 := ⟨xk_10_0, xk_10_1, xk_10_2, xk_10_3, xk_10_4, xk_10_5, xk_10_6, xk_10_7, xk_10_8, xk_10_9, trivial⟩
theorem xd_11_0 : decode prog_2_method_13_code 0 = .ok (.iload_n 1, 1) := by decide +kernel
theorem xd_11_1 : decode prog_2_method_13_code 1 = .ok (.bipush 32, 2) := by decide +kernel
theorem xd_11_3 : decode prog_2_method_13_code 3 = .ok (.imul, 1) := by decide +kernel
theorem xd_11_4 : decode prog_2_method_13_code 4 = .ok (.istore_n 2, 1) := by decide +kernel
theorem xd_11_5 : decode prog_2_method_13_code 5 = .ok (.iload_n 2, 1) := by decide +kernel
theorem xd_11_6 : decode prog_2_method_13_code 6 = .ok (.iload_n 1, 1) := by decide +kernel
theorem xd_11_7 : decode prog_2_method_13_code 7 = .ok (.iconst 1, 1) := by decide +kernel
theorem xd_11_8 : decode prog_2_method_13_code 8 = .ok (.iadd, 1) := by decide +kernel
theorem xd_11_9 : decode prog_2_method_13_code 9 = .ok (.bipush 32, 2) := by decide +kernel
theorem xd_11_11 : decode prog_2_method_13_code 11 = .ok (.imul, 1) := by decide +kernel
theorem xd_11_12 : decode prog_2_method_13_code 12 = .ok (.if_icmp .ge 16, 3) := by decide +kernel
theorem xd_11_15 : decode prog_2_method_13_code 15 = .ok (.aload_n 0, 1) := by decide +kernel
theorem xd_11_16 : decode prog_2_method_13_code 16 = .ok (.getfield 15, 3) := by decide +kernel
theorem xd_11_19 : decode prog_2_method_13_code 19 = .ok (.iload_n 2, 1) := by decide +kernel
theorem xd_11_20 : decode prog_2_method_13_code 20 = .ok (.iconst 0, 1) := by decide +kernel
theorem xd_11_21 : decode prog_2_method_13_code 21 = .ok (.iastore, 1) := by decide +kernel
theorem xd_11_22 : decode prog_2_method_13_code 22 = .ok (.iinc 2 (1), 3) := by decide +kernel
theorem xd_11_25 : decode prog_2_method_13_code 25 = .ok (.goto (-20), 3) := by decide +kernel
theorem xd_11_28 : decode prog_2_method_13_code 28 = .ok (.return_, 1) := by decide +kernel
theorem xk_11_0 : xk_OkA xp_F (xp_P sc) xp_cl xp_BW xp_NW xp_SW xp_exn 11 0 (.iload 1) := Or.inr ⟨1, rfl, xd_11_0, rfl⟩
theorem xk_11_1 : xk_OkA xp_F (xp_P sc) xp_cl xp_BW xp_NW xp_SW xp_exn 11 1 (.iconst 32) := Or.inr (Or.inl ⟨xd_11_1, by decide +kernel, rfl⟩)
theorem xk_11_2 : xk_OkA xp_F (xp_P sc) xp_cl xp_BW xp_NW xp_SW xp_exn 11 2 (.imul) := ⟨xd_11_3, rfl⟩
theorem xk_11_3 : xk_OkA xp_F (xp_P sc) xp_cl xp_BW xp_NW xp_SW xp_exn 11 3 (.istore 2) := Or.inr ⟨2, rfl, xd_11_4, rfl⟩
theorem xk_11_4 : xk_OkA xp_F (xp_P sc) xp_cl xp_BW xp_NW xp_SW xp_exn 11 4 (.iload 2) := Or.inr ⟨2, rfl, xd_11_5, rfl⟩
theorem xk_11_5 : xk_OkA xp_F (xp_P sc) xp_cl xp_BW xp_NW xp_SW xp_exn 11 5 (.iload 1) := Or.inr ⟨1, rfl, xd_11_6, rfl⟩
theorem xk_11_6 : xk_OkA xp_F (xp_P sc) xp_cl xp_BW xp_NW xp_SW xp_exn 11 6 (.iconst 1) := Or.inl ⟨xd_11_7, rfl⟩
theorem xk_11_7 : xk_OkA xp_F (xp_P sc) xp_cl xp_BW xp_NW xp_SW xp_exn 11 7 (.iadd) := ⟨xd_11_8, rfl⟩
theorem xk_11_8 : xk_OkA xp_F (xp_P sc) xp_cl xp_BW xp_NW xp_SW xp_exn 11 8 (.iconst 32) := Or.inr (Or.inl ⟨xd_11_9, by decide +kernel, rfl⟩)
theorem xk_11_9 : xk_OkA xp_F (xp_P sc) xp_cl xp_BW xp_NW xp_SW xp_exn 11 9 (.imul) := ⟨xd_11_11, rfl⟩
theorem xk_11_10 : xk_OkA xp_F (xp_P sc) xp_cl xp_BW xp_NW xp_SW xp_exn 11 10 (.if_icmp .ge 18) := ⟨_, xd_11_12, by unfold xf_to; decide +kernel, rfl⟩
theorem xk_11_11 : xk_OkA xp_F (xp_P sc) xp_cl xp_BW xp_NW xp_SW xp_exn 11 11 (.aload 0) := Or.inr ⟨0, rfl, xd_11_15, rfl⟩
theorem xk_11_12 : xk_OkA xp_F (xp_P sc) xp_cl xp_BW xp_NW xp_SW xp_exn 11 12 (.getfield 1) := ⟨_, xd_11_16, rfl, ⟨_, _, _, rfl, by decide, xu_0, Or.inl xwt_32⟩⟩
theorem xk_11_13 : xk_OkA xp_F (xp_P sc) xp_cl xp_BW xp_NW xp_SW xp_exn 11 13 (.iload 2) := Or.inr ⟨2, rfl, xd_11_19, rfl⟩
theorem xk_11_14 : xk_OkA xp_F (xp_P sc) xp_cl xp_BW xp_NW xp_SW xp_exn 11 14 (.iconst 0) := Or.inl ⟨xd_11_20, rfl⟩
theorem xk_11_15 : xk_OkA xp_F (xp_P sc) xp_cl xp_BW xp_NW xp_SW xp_exn 11 15 (.iastore) := ⟨xd_11_21, rfl⟩
theorem xk_11_16 : xk_OkA xp_F (xp_P sc) xp_cl xp_BW xp_NW xp_SW xp_exn 11 16 (.iinc 2 (1)) := ⟨xd_11_22, rfl⟩
theorem xk_11_17 : xk_OkA xp_F (xp_P sc) xp_cl xp_BW xp_NW xp_SW xp_exn 11 17 (.goto 4) := ⟨_, xd_11_25, by unfold xf_to; decide +kernel⟩
theorem xk_11_18 : xk_OkA xp_F (xp_P sc) xp_cl xp_BW xp_NW xp_SW xp_exn 11 18 (.return_) := ⟨xd_11_28, rfl⟩
theorem xl_11 : xk_OkL xp_F (xp_P sc) xp_cl xp_BW xp_NW xp_SW xp_exn 11 0 xc_11 := ⟨xk_11_0, xk_11_1, xk_11_2, xk_11_3, xk_11_4, xk_11_5, xk_11_6, xk_11_7, xk_11_8, xk_11_9, xk_11_10, xk_11_11, xk_11_12, xk_11_13, xk_11_14, xk_11_15, xk_11_16, xk_11_17, xk_11_18, trivial⟩
theorem xd_12_0 : decode prog_3_method_2_code 0 = .ok (.aload_n 0, 1) := by decide +kernel
theorem xd_12_1 : decode prog_3_method_2_code 1 = .ok (.iload_n 1, 1) := by decide +kernel
theorem xd_12_2 : decode prog_3_method_2_code 2 = .ok (.putfield 9, 3) := by decide +kernel
theorem xd_12_5 : decode prog_3_method_2_code 5 = .ok (.return_, 1) := by decide +kernel
theorem xk_12_0 : xk_OkA xp_F (xp_P sc) xp_cl xp_BW xp_NW xp_SW xp_exn 12 0 (.aload 0) := Or.inr ⟨0, rfl, xd_12_0, rfl⟩
theorem xk_12_1 : xk_OkA xp_F (xp_P sc) xp_cl xp_BW xp_NW xp_SW xp_exn 12 1 (.iload 1) := Or.inr ⟨1, rfl, xd_12_1, rfl⟩
theorem xk_12_2 : xk_OkA xp_F (xp_P sc) xp_cl xp_BW xp_NW xp_SW xp_exn 12 2 (.putfield 32) := ⟨_, xd_12_2, rfl, ⟨_, _, _, rfl, by decide, xu_1, Or.inl xwt_60⟩, xf_1_0⟩
theorem xk_12_3 : xk_OkA xp_F (xp_P sc) xp_cl xp_BW xp_NW xp_SW xp_exn 12 3 (.return_) := ⟨xd_12_5, rfl⟩
theorem xl_12 : xk_OkL xp_F (xp_P sc) xp_cl xp_BW xp_NW xp_SW xp_exn 12 0 xc_12 := ⟨xk_12_0, xk_12_1, xk_12_2, xk_12_3, trivial⟩
theorem xd_13_0 : decode prog_3_method_3_code 0 = .ok (.aload_n 0, 1) := by decide +kernel
theorem xd_13_1 : decode prog_3_method_3_code 1 = .ok (.iconst (-1), 1) := by decide +kernel
theorem xd_13_2 : decode prog_3_method_3_code 2 = .ok (.putfield 9, 3) := by decide +kernel
theorem xd_13_5 : decode prog_3_method_3_code 5 = .ok (.aload_n 0, 1) := by decide +kernel
theorem xd_13_6 : decode prog_3_method_3_code 6 = .ok (.iconst (-1), 1) := by decide +kernel
theorem xd_13_7 : decode prog_3_method_3_code 7 = .ok (.putfield 15, 3) := by decide +kernel
theorem xd_13_10 : decode prog_3_method_3_code 10 = .ok (.aload_n 0, 1) := by decide +kernel
theorem xd_13_11 : decode prog_3_method_3_code 11 = .ok (.iconst (-1), 1) := by decide +kernel
theorem xd_13_12 : decode prog_3_method_3_code 12 = .ok (.putfield 18, 3) := by decide +kernel
theorem xd_13_15 : decode prog_3_method_3_code 15 = .ok (.return_, 1) := by decide +kernel
theorem xk_13_0 : xk_OkA xp_F (xp_P sc) xp_cl xp_BW xp_NW xp_SW xp_exn 13 0 (.aload 0) := Or.inr ⟨0, rfl, xd_13_0, rfl⟩
theorem xk_13_1 : xk_OkA xp_F (xp_P sc) xp_cl xp_BW xp_NW xp_SW xp_exn 13 1 (.iconst (-1)) := Or.inl ⟨xd_13_1, rfl⟩
theorem xk_13_2 : xk_OkA xp_F (xp_P sc) xp_cl xp_BW xp_NW xp_SW xp_exn 13 2 (.putfield 32) := ⟨_, xd_13_2, rfl, ⟨_, _, _, rfl, by decide, xu_1, Or.inl xwt_60⟩, xf_1_0⟩
theorem xk_13_3 : xk_OkA xp_F (xp_P sc) xp_cl xp_BW xp_NW xp_SW xp_exn 13 3 (.aload 0) := Or.inr ⟨0, rfl, xd_13_5, rfl⟩
theorem xk_13_4 : xk_OkA xp_F (xp_P sc) xp_cl xp_BW xp_NW xp_SW xp_exn 13 4 (.iconst (-1)) := Or.inl ⟨xd_13_6, rfl⟩
theorem xk_13_5 : xk_OkA xp_F (xp_P sc) xp_cl xp_BW xp_NW xp_SW xp_exn 13 5 (.putfield 33) := ⟨_, xd_13_7, rfl, ⟨_, _, _, rfl, by decide, xu_1, Or.inl xwt_62⟩, xf_1_1⟩
theorem xk_13_6 : xk_OkA xp_F (xp_P sc) xp_cl xp_BW xp_NW xp_SW xp_exn 13 6 (.aload 0) := Or.inr ⟨0, rfl, xd_13_10, rfl⟩
theorem xk_13_7 : xk_OkA xp_F (xp_P sc) xp_cl xp_BW xp_NW xp_SW xp_exn 13 7 (.iconst (-1)) := Or.inl ⟨xd_13_11, rfl⟩
theorem xk_13_8 : xk_OkA xp_F (xp_P sc) xp_cl xp_BW xp_NW xp_SW xp_exn 13 8 (.putfield 34) := ⟨_, xd_13_12, rfl, ⟨_, _, _, rfl, by decide, xu_1, Or.inl xwt_64⟩, xf_1_2⟩
theorem xk_13_9 : xk_OkA xp_F (xp_P sc) xp_cl xp_BW xp_NW xp_SW xp_exn 13 9 (.return_) := ⟨xd_13_15, rfl⟩
theorem xl_13 : xk_OkL xp_F (xp_P sc) xp_cl xp_BW xp_NW xp_SW xp_exn 13 0 xc_13 := ⟨xk_13_0, xk_13_1, xk_13_2, xk_13_3, xk_13_4, xk_13_5, xk_13_6, xk_13_7, xk_13_8, xk_13_9, trivial⟩
theorem xd_14_0 : decode prog_3_method_4_code 0 = .ok (.aload_n 0, 1) := by decide +kernel
theorem xd_14_1 : decode prog_3_method_4_code 1 = .ok (.iload_n 1, 1) := by decide +kernel
theorem xd_14_2 : decode prog_3_method_4_code 2 = .ok (.putfield 15, 3) := by decide +kernel
theorem xd_14_5 : decode prog_3_method_4_code 5 = .ok (.aload_n 0, 1) := by decide +kernel
theorem xd_14_6 : decode prog_3_method_4_code 6 = .ok (.iload_n 2, 1) := by decide +kernel
theorem xd_14_7 : decode prog_3_method_4_code 7 = .ok (.putfield 18, 3) := by decide +kernel
theorem xd_14_10 : decode prog_3_method_4_code 10 = .ok (.aload_n 0, 1) := by decide +kernel
theorem xd_14_11 : decode prog_3_method_4_code 11 = .ok (.iconst 0, 1) := by decide +kernel
theorem xd_14_12 : decode prog_3_method_4_code 12 = .ok (.putfield 21, 3) := by decide +kernel
theorem xd_14_15 : decode prog_3_method_4_code 15 = .ok (.return_, 1) := by decide +kernel
theorem xk_14_0 : xk_OkA xp_F (xp_P sc) xp_cl xp_BW xp_NW xp_SW xp_exn 14 0 (.aload 0) := Or.inr ⟨0, rfl, xd_14_0, rfl⟩
theorem xk_14_1 : xk_OkA xp_F (xp_P sc) xp_cl xp_BW xp_NW xp_SW xp_exn 14 1 (.iload 1) := Or.inr ⟨1, rfl, xd_14_1, rfl⟩
theorem xk_14_2 : xk_OkA xp_F (xp_P sc) xp_cl xp_BW xp_NW xp_SW xp_exn 14 2 (.putfield 33) := ⟨_, xd_14_2, rfl, ⟨_, _, _, rfl, by decide, xu_1, Or.inl xwt_62⟩, xf_1_1⟩
theorem xk_14_3 : xk_OkA xp_F (xp_P sc) xp_cl xp_BW xp_NW xp_SW xp_exn 14 3 (.aload 0) := Or.inr ⟨0, rfl, xd_14_5, rfl⟩
theorem xk_14_4 : xk_OkA xp_F (xp_P sc) xp_cl xp_BW xp_NW xp_SW xp_exn 14 4 (.iload 2) := Or.inr ⟨2, rfl, xd_14_6, rfl⟩
theorem xk_14_5 : xk_OkA xp_F (xp_P sc) xp_cl xp_BW xp_NW xp_SW xp_exn 14 5 (.putfield 34) := ⟨_, xd_14_7, rfl, ⟨_, _, _, rfl, by decide, xu_1, Or.inl xwt_64⟩, xf_1_2⟩
theorem xk_14_6 : xk_OkA xp_F (xp_P sc) xp_cl xp_BW xp_NW xp_SW xp_exn 14 6 (.aload 0) := Or.inr ⟨0, rfl, xd_14_10, rfl⟩
theorem xk_14_7 : xk_OkA xp_F (xp_P sc) xp_cl xp_BW xp_NW xp_SW xp_exn 14 7 (.iconst 0) := Or.inl ⟨xd_14_11, rfl⟩
theorem xk_14_8 : xk_OkA xp_F (xp_P sc) xp_cl xp_BW xp_NW xp_SW xp_exn 14 8 (.putfield 35) := ⟨_, xd_14_12, rfl, ⟨_, _, _, rfl, by decide, xu_1, Or.inl xwt_66⟩, xf_1_3⟩
theorem xk_14_9 : xk_OkA xp_F (xp_P sc) xp_cl xp_BW xp_NW xp_SW xp_exn 14 9 (.return_) := ⟨xd_14_15, rfl⟩
theorem xl_14 : xk_OkL xp_F (xp_P sc) xp_cl xp_BW xp_NW xp_SW xp_exn 14 0 xc_14 := ⟨xk_14_0, xk_14_1, xk_14_2, xk_14_3, xk_14_4, xk_14_5, xk_14_6, xk_14_7, xk_14_8, xk_14_9, trivial⟩
theorem xd_15_0 : decode prog_3_method_5_code 0 = .ok (.aload_n 0, 1) := by decide +kernel
theorem xd_15_1 : decode prog_3_method_5_code 1 = .ok (.iconst (-1), 1) := by decide +kernel
theorem xd_15_2 : decode prog_3_method_5_code 2 = .ok (.putfield 15, 3) := by decide +kernel
theorem xd_15_5 : decode prog_3_method_5_code 5 = .ok (.aload_n 0, 1) := by decide +kernel
theorem xd_15_6 : decode prog_3_method_5_code 6 = .ok (.iconst (-1), 1) := by decide +kernel
theorem xd_15_7 : decode prog_3_method_5_code 7 = .ok (.putfield 18, 3) := by decide +kernel
theorem xd_15_10 : decode prog_3_method_5_code 10 = .ok (.return_, 1) := by decide +kernel
theorem xk_15_0 : xk_OkA xp_F (xp_P sc) xp_cl xp_BW xp_NW xp_SW xp_exn 15 0 (.aload 0) := Or.inr ⟨0, rfl, xd_15_0, rfl⟩
theorem xk_15_1 : xk_OkA xp_F (xp_P sc) xp_cl xp_BW xp_NW xp_SW xp_exn 15 1 (.iconst (-1)) := Or.inl ⟨xd_15_1, rfl⟩
theorem xk_15_2 : xk_OkA xp_F (xp_P sc) xp_cl xp_BW xp_NW xp_SW xp_exn 15 2 (.putfield 33) := ⟨_, xd_15_2, rfl, ⟨_, _, _, rfl, by decide, xu_1, Or.inl xwt_62⟩, xf_1_1⟩
theorem xk_15_3 : xk_OkA xp_F (xp_P sc) xp_cl xp_BW xp_NW xp_SW xp_exn 15 3 (.aload 0) := Or.inr ⟨0, rfl, xd_15_5, rfl⟩
theorem xk_15_4 : xk_OkA xp_F (xp_P sc) xp_cl xp_BW xp_NW xp_SW xp_exn 15 4 (.iconst (-1)) := Or.inl ⟨xd_15_6, rfl⟩
theorem xk_15_5 : xk_OkA xp_F (xp_P sc) xp_cl xp_BW xp_NW xp_SW xp_exn 15 5 (.putfield 34) := ⟨_, xd_15_7, rfl, ⟨_, _, _, rfl, by decide, xu_1, Or.inl xwt_64⟩, xf_1_2⟩
theorem xk_15_6 : xk_OkA xp_F (xp_P sc) xp_cl xp_BW xp_NW xp_SW xp_exn 15 6 (.return_) := ⟨xd_15_10, rfl⟩
theorem xl_15 : xk_OkL xp_F (xp_P sc) xp_cl xp_BW xp_NW xp_SW xp_exn 15 0 xc_15 := ⟨xk_15_0, xk_15_1, xk_15_2, xk_15_3, xk_15_4, xk_15_5, xk_15_6, trivial⟩
theorem xd_16_0 : decode prog_3_method_6_code 0 = .ok (.aload_n 0, 1) := by decide +kernel
theorem xd_16_1 : decode prog_3_method_6_code 1 = .ok (.getfield 15, 3) := by decide +kernel
theorem xd_16_4 : decode prog_3_method_6_code 4 = .ok (.iload_n 1, 1) := by decide +kernel
theorem xd_16_5 : decode prog_3_method_6_code 5 = .ok (.if_icmp .ne 15, 3) := by decide +kernel
theorem xd_16_8 : decode prog_3_method_6_code 8 = .ok (.iload_n 2, 1) := by decide +kernel
theorem xd_16_9 : decode prog_3_method_6_code 9 = .ok (.aload_n 0, 1) := by decide +kernel
theorem xd_16_10 : decode prog_3_method_6_code 10 = .ok (.getfield 21, 3) := by decide +kernel
theorem xd_16_13 : decode prog_3_method_6_code 13 = .ok (.if_icmp .ge 7, 3) := by decide +kernel
theorem xd_16_16 : decode prog_3_method_6_code 16 = .ok (.iconst 1, 1) := by decide +kernel
theorem xd_16_17 : decode prog_3_method_6_code 17 = .ok (.goto 4, 3) := by decide +kernel
theorem xd_16_20 : decode prog_3_method_6_code 20 = .ok (.iconst 0, 1) := by decide +kernel
theorem xd_16_21 : decode prog_3_method_6_code 21 = .ok (.ireturn, 1) := by decide +kernel
theorem xk_16_0 : xk_OkA xp_F (xp_P sc) xp_cl xp_BW xp_NW xp_SW xp_exn 16 0 (.aload 0) := Or.inr ⟨0, rfl, xd_16_0, rfl⟩
theorem xk_16_1 : xk_OkA xp_F (xp_P sc) xp_cl xp_BW xp_NW xp_SW xp_exn 16 1 (.getfield 33) := ⟨_, xd_16_1, rfl, ⟨_, _, _, rfl, by decide, xu_1, Or.inl xwt_62⟩⟩
theorem xk_16_2 : xk_OkA xp_F (xp_P sc) xp_cl xp_BW xp_NW xp_SW xp_exn 16 2 (.iload 1) := Or.inr ⟨1, rfl, xd_16_4, rfl⟩
theorem xk_16_3 : xk_OkA xp_F (xp_P sc) xp_cl xp_BW xp_NW xp_SW xp_exn 16 3 (.if_icmp .ne 10) := ⟨_, xd_16_5, by unfold xf_to; decide +kernel, rfl⟩
theorem xk_16_4 : xk_OkA xp_F (xp_P sc) xp_cl xp_BW xp_NW xp_SW xp_exn 16 4 (.iload 2) := Or.inr ⟨2, rfl, xd_16_8, rfl⟩
theorem xk_16_5 : xk_OkA xp_F (xp_P sc) xp_cl xp_BW xp_NW xp_SW xp_exn 16 5 (.aload 0) := Or.inr ⟨0, rfl, xd_16_9, rfl⟩
theorem xk_16_6 : xk_OkA xp_F (xp_P sc) xp_cl xp_BW xp_NW xp_SW xp_exn 16 6 (.getfield 35) := ⟨_, xd_16_10, rfl, ⟨_, _, _, rfl, by decide, xu_1, Or.inl xwt_66⟩⟩
theorem xk_16_7 : xk_OkA xp_F (xp_P sc) xp_cl xp_BW xp_NW xp_SW xp_exn 16 7 (.if_icmp .ge 10) := ⟨_, xd_16_13, by unfold xf_to; decide +kernel, rfl⟩
theorem xk_16_8 : xk_OkA xp_F (xp_P sc) xp_cl xp_BW xp_NW xp_SW xp_exn 16 8 (.iconst 1) := Or.inl ⟨xd_16_16, rfl⟩
theorem xk_16_9 : xk_OkA xp_F (xp_P sc) xp_cl xp_BW xp_NW xp_SW xp_exn 16 9 (.goto 11) := ⟨_, xd_16_17, by unfold xf_to; decide +kernel⟩
theorem xk_16_10 : xk_OkA xp_F (xp_P sc) xp_cl xp_BW xp_NW xp_SW xp_exn 16 10 (.iconst 0) := Or.inl ⟨xd_16_20, rfl⟩
theorem xk_16_11 : xk_OkA xp_F (xp_P sc) xp_cl xp_BW xp_NW xp_SW xp_exn 16 11 (.freturn) := ⟨xd_16_21, rfl⟩
theorem xl_16 : xk_OkL xp_F (xp_P sc) xp_cl xp_BW xp_NW xp_SW xp_exn 16 0 xc_16 := ⟨xk_16_0, xk_16_1, xk_16_2, xk_16_3, xk_16_4, xk_16_5, xk_16_6, xk_16_7, xk_16_8, xk_16_9, xk_16_10, xk_16_11, trivial⟩
theorem xd_17_0 : decode prog_4_method_2_code 0 = .ok (.aload_n 1, 1) := by decide +kernel
theorem xd_17_1 : decode prog_4_method_2_code 1 = .ok (.iload_n 2, 1) := by decide +kernel
theorem xd_17_2 : decode prog_4_method_2_code 2 = .ok (.aload_n 0, 1) := by decide +kernel
theorem xd_17_3 : decode prog_4_method_2_code 3 = .ok (.getfield 9, 3) := by decide +kernel
theorem xd_17_6 : decode prog_4_method_2_code 6 = .ok (.iconst 0, 1) := by decide +kernel
theorem xd_17_7 : decode prog_4_method_2_code 7 = .ok (.bipush 51, 2) := by decide +kernel
theorem xd_17_9 : decode prog_4_method_2_code 9 = .ok (.invokestatic 15, 3) := by decide +kernel
theorem xd_17_12 : decode prog_4_method_2_code 12 = .ok (.return_, 1) := by decide +kernel
theorem xk_17_0 : xk_OkA xp_F (xp_P sc) xp_cl xp_BW xp_NW xp_SW xp_exn 17 0 (.aload 1) := Or.inr ⟨1, rfl, xd_17_0, rfl⟩
theorem xk_17_1 : xk_OkA xp_F (xp_P sc) xp_cl xp_BW xp_NW xp_SW xp_exn 17 1 (.iload 2) := Or.inr ⟨2, rfl, xd_17_1, rfl⟩
theorem xk_17_2 : xk_OkA xp_F (xp_P sc) xp_cl xp_BW xp_NW xp_SW xp_exn 17 2 (.aload 0) := Or.inr ⟨0, rfl, xd_17_2, rfl⟩
theorem xk_17_3 : xk_OkA xp_F (xp_P sc) xp_cl xp_BW xp_NW xp_SW xp_exn 17 3 (.getfield 64) := ⟨_, xd_17_3, rfl, ⟨_, _, _, rfl, by decide, xu_2, Or.inl xwt_49⟩⟩
theorem xk_17_4 : xk_OkA xp_F (xp_P sc) xp_cl xp_BW xp_NW xp_SW xp_exn 17 4 (.iconst 0) := Or.inl ⟨xd_17_6, rfl⟩
theorem xk_17_5 : xk_OkA xp_F (xp_P sc) xp_cl xp_BW xp_NW xp_SW xp_exn 17 5 (.iconst 51) := Or.inr (Or.inl ⟨xd_17_7, by decide +kernel, rfl⟩)
theorem xk_17_6 : xk_OkA xp_F (xp_P sc) xp_cl xp_BW xp_NW xp_SW xp_exn 17 6 (.invokedynamic 1) := ⟨_, xd_17_9, rfl, by decide, by decide, Or.inr ⟨rfl, xwt_264, xwt_266, xwt_265, xwt_12⟩⟩
theorem xk_17_7 : xk_OkA xp_F (xp_P sc) xp_cl xp_BW xp_NW xp_SW xp_exn 17 7 (.return_) := ⟨xd_17_12, rfl⟩
theorem xl_17 : xk_OkL xp_F (xp_P sc) xp_cl xp_BW xp_NW xp_SW xp_exn 17 0 xc_17 := ⟨xk_17_0, xk_17_1, xk_17_2, xk_17_3, xk_17_4, xk_17_5, xk_17_6, xk_17_7, trivial⟩
theorem xd_18_0 : decode prog_4_method_3_code 0 = .ok (.iconst 0, 1) := by decide +kernel
theorem xd_18_1 : decode prog_4_method_3_code 1 = .ok (.istore_n 1, 1) := by decide +kernel
theorem xd_18_2 : decode prog_4_method_3_code 2 = .ok (.iload_n 1, 1) := by decide +kernel
theorem xd_18_3 : decode prog_4_method_3_code 3 = .ok (.bipush 51, 2) := by decide +kernel
theorem xd_18_5 : decode prog_4_method_3_code 5 = .ok (.if_icmp .ge 16, 3) := by decide +kernel
theorem xd_18_8 : decode prog_4_method_3_code 8 = .ok (.aload_n 0, 1) := by decide +kernel
theorem xd_18_9 : decode prog_4_method_3_code 9 = .ok (.getfield 9, 3) := by decide +kernel
theorem xd_18_12 : decode prog_4_method_3_code 12 = .ok (.iload_n 1, 1) := by decide +kernel
theorem xd_18_13 : decode prog_4_method_3_code 13 = .ok (.iconst 0, 1) := by decide +kernel
theorem xd_18_14 : decode prog_4_method_3_code 14 = .ok (.iastore, 1) := by decide +kernel
theorem xd_18_15 : decode prog_4_method_3_code 15 = .ok (.iinc 1 (1), 3) := by decide +kernel
theorem xd_18_18 : decode prog_4_method_3_code 18 = .ok (.goto (-16), 3) := by decide +kernel
theorem xd_18_21 : decode prog_4_method_3_code 21 = .ok (.return_, 1) := by decide +kernel
theorem xk_18_0 : xk_OkA xp_F (xp_P sc) xp_cl xp_BW xp_NW xp_SW xp_exn 18 0 (.iconst 0) := Or.inl ⟨xd_18_0, rfl⟩
theorem xk_18_1 : xk_OkA xp_F (xp_P sc) xp_cl xp_BW xp_NW xp_SW xp_exn 18 1 (.istore 1) := Or.inr ⟨1, rfl, xd_18_1, rfl⟩
theorem xk_18_2 : xk_OkA xp_F (xp_P sc) xp_cl xp_BW xp_NW xp_SW xp_exn 18 2 (.iload 1) := Or.inr ⟨1, rfl, xd_18_2, rfl⟩
theorem xk_18_3 : xk_OkA xp_F (xp_P sc) xp_cl xp_BW xp_NW xp_SW xp_exn 18 3 (.iconst 51) := Or.inr (Or.inl ⟨xd_18_3, by decide +kernel, rfl⟩)
theorem xk_18_4 : xk_OkA xp_F (xp_P sc) xp_cl xp_BW xp_NW xp_SW xp_exn 18 4 (.if_icmp .ge 12) := ⟨_, xd_18_5, by unfold xf_to; decide +kernel, rfl⟩
theorem xk_18_5 : xk_OkA xp_F (xp_P sc) xp_cl xp_BW xp_NW xp_SW xp_exn 18 5 (.aload 0) := Or.inr ⟨0, rfl, xd_18_8, rfl⟩
theorem xk_18_6 : xk_OkA xp_F (xp_P sc) xp_cl xp_BW xp_NW xp_SW xp_exn 18 6 (.getfield 64) := ⟨_, xd_18_9, rfl, ⟨_, _, _, rfl, by decide, xu_2, Or.inl xwt_49⟩⟩
theorem xk_18_7 : xk_OkA xp_F (xp_P sc) xp_cl xp_BW xp_NW xp_SW xp_exn 18 7 (.iload 1) := Or.inr ⟨1, rfl, xd_18_12, rfl⟩
theorem xk_18_8 : xk_OkA xp_F (xp_P sc) xp_cl xp_BW xp_NW xp_SW xp_exn 18 8 (.iconst 0) := Or.inl ⟨xd_18_13, rfl⟩
theorem xk_18_9 : xk_OkA xp_F (xp_P sc) xp_cl xp_BW xp_NW xp_SW xp_exn 18 9 (.iastore) := ⟨xd_18_14, rfl⟩
theorem xk_18_10 : xk_OkA xp_F (xp_P sc) xp_cl xp_BW xp_NW xp_SW xp_exn 18 10 (.iinc 1 (1)) := ⟨xd_18_15, rfl⟩
theorem xk_18_11 : xk_OkA xp_F (xp_P sc) xp_cl xp_BW xp_NW xp_SW xp_exn 18 11 (.goto 2) := ⟨_, xd_18_18, by unfold xf_to; decide +kernel⟩
theorem xk_18_12 : xk_OkA xp_F (xp_P sc) xp_cl xp_BW xp_NW xp_SW xp_exn 18 12 (.return_) := ⟨xd_18_21, rfl⟩
theorem xl_18 : xk_OkL xp_F (xp_P sc) xp_cl xp_BW xp_NW xp_SW xp_exn 18 0 xc_18 := ⟨xk_18_0, xk_18_1, xk_18_2, xk_18_3, xk_18_4, xk_18_5, xk_18_6, xk_18_7, xk_18_8, xk_18_9, xk_18_10, xk_18_11, xk_18_12, trivial⟩
theorem xd_19_0 : decode prog_4_method_4_code 0 = .ok (.aload_n 0, 1) := by decide +kernel
theorem xd_19_1 : decode prog_4_method_4_code 1 = .ok (.getfield 9, 3) := by decide +kernel
theorem xd_19_4 : decode prog_4_method_4_code 4 = .ok (.iconst 0, 1) := by decide +kernel
theorem xd_19_5 : decode prog_4_method_4_code 5 = .ok (.iload_n 1, 1) := by decide +kernel
theorem xd_19_6 : decode prog_4_method_4_code 6 = .ok (.iastore, 1) := by decide +kernel
theorem xd_19_7 : decode prog_4_method_4_code 7 = .ok (.aload_n 0, 1) := by decide +kernel
theorem xd_19_8 : decode prog_4_method_4_code 8 = .ok (.getfield 9, 3) := by decide +kernel
theorem xd_19_11 : decode prog_4_method_4_code 11 = .ok (.bipush 49, 2) := by decide +kernel
theorem xd_19_13 : decode prog_4_method_4_code 13 = .ok (.aload_n 0, 1) := by decide +kernel
theorem xd_19_14 : decode prog_4_method_4_code 14 = .ok (.getfield 9, 3) := by decide +kernel
theorem xd_19_17 : decode prog_4_method_4_code 17 = .ok (.iconst 0, 1) := by decide +kernel
theorem xd_19_18 : decode prog_4_method_4_code 18 = .ok (.invokestatic 21, 3) := by decide +kernel
theorem xd_19_21 : decode prog_4_method_4_code 21 = .ok (.iastore, 1) := by decide +kernel
theorem xd_19_22 : decode prog_4_method_4_code 22 = .ok (.aload_n 0, 1) := by decide +kernel
theorem xd_19_23 : decode prog_4_method_4_code 23 = .ok (.getfield 9, 3) := by decide +kernel
theorem xd_19_26 : decode prog_4_method_4_code 26 = .ok (.bipush 50, 2) := by decide +kernel
theorem xd_19_28 : decode prog_4_method_4_code 28 = .ok (.iload_n 1, 1) := by decide +kernel
theorem xd_19_29 : decode prog_4_method_4_code 29 = .ok (.iastore, 1) := by decide +kernel
theorem xd_19_30 : decode prog_4_method_4_code 30 = .ok (.return_, 1) := by decide +kernel
theorem xk_19_0 : xk_OkA xp_F (xp_P sc) xp_cl xp_BW xp_NW xp_SW xp_exn 19 0 (.aload 0) := Or.inr ⟨0, rfl, xd_19_0, rfl⟩
theorem xk_19_1 : xk_OkA xp_F (xp_P sc) xp_cl xp_BW xp_NW xp_SW xp_exn 19 1 (.getfield 64) := ⟨_, xd_19_1, rfl, ⟨_, _, _, rfl, by decide, xu_2, Or.inl xwt_49⟩⟩
theorem xk_19_2 : xk_OkA xp_F (xp_P sc) xp_cl xp_BW xp_NW xp_SW xp_exn 19 2 (.iconst 0) := Or.inl ⟨xd_19_4, rfl⟩
theorem xk_19_3 : xk_OkA xp_F (xp_P sc) xp_cl xp_BW xp_NW xp_SW xp_exn 19 3 (.iload 1) := Or.inr ⟨1, rfl, xd_19_5, rfl⟩
theorem xk_19_4 : xk_OkA xp_F (xp_P sc) xp_cl xp_BW xp_NW xp_SW xp_exn 19 4 (.iastore) := ⟨xd_19_6, rfl⟩
theorem xk_19_5 : xk_OkA xp_F (xp_P sc) xp_cl xp_BW xp_NW xp_SW xp_exn 19 5 (.aload 0) := Or.inr ⟨0, rfl, xd_19_7, rfl⟩
theorem xk_19_6 : xk_OkA xp_F (xp_P sc) xp_cl xp_BW xp_NW xp_SW xp_exn 19 6 (.getfield 64) := ⟨_, xd_19_8, rfl, ⟨_, _, _, rfl, by decide, xu_2, Or.inl xwt_49⟩⟩
theorem xk_19_7 : xk_OkA xp_F (xp_P sc) xp_cl xp_BW xp_NW xp_SW xp_exn 19 7 (.iconst 49) := Or.inr (Or.inl ⟨xd_19_11, by decide +kernel, rfl⟩)
theorem xk_19_8 : xk_OkA xp_F (xp_P sc) xp_cl xp_BW xp_NW xp_SW xp_exn 19 8 (.aload 0) := Or.inr ⟨0, rfl, xd_19_13, rfl⟩
theorem xk_19_9 : xk_OkA xp_F (xp_P sc) xp_cl xp_BW xp_NW xp_SW xp_exn 19 9 (.getfield 64) := ⟨_, xd_19_14, rfl, ⟨_, _, _, rfl, by decide, xu_2, Or.inl xwt_49⟩⟩
theorem xk_19_10 : xk_OkA xp_F (xp_P sc) xp_cl xp_BW xp_NW xp_SW xp_exn 19 10 (.iconst 0) := Or.inl ⟨xd_19_17, rfl⟩
theorem xk_19_11 : xk_OkA xp_F (xp_P sc) xp_cl xp_BW xp_NW xp_SW xp_exn 19 11 (.invokeinterface 20 2) := ⟨rfl, Or.inl ⟨xwt_281, rfl⟩, rfl, rfl, xwt_3, by decide +kernel, by decide +kernel, Nat.le_of_ble_eq_true rfl, _, Or.inl xwt_279, Or.inl ⟨xd_19_18, xwt_280, rfl, by decide +kernel⟩⟩
theorem xk_19_12 : xk_OkA xp_F (xp_P sc) xp_cl xp_BW xp_NW xp_SW xp_exn 19 12 (.iastore) := ⟨xd_19_21, rfl⟩
theorem xk_19_13 : xk_OkA xp_F (xp_P sc) xp_cl xp_BW xp_NW xp_SW xp_exn 19 13 (.aload 0) := Or.inr ⟨0, rfl, xd_19_22, rfl⟩
theorem xk_19_14 : xk_OkA xp_F (xp_P sc) xp_cl xp_BW xp_NW xp_SW xp_exn 19 14 (.getfield 64) := ⟨_, xd_19_23, rfl, ⟨_, _, _, rfl, by decide, xu_2, Or.inl xwt_49⟩⟩
theorem xk_19_15 : xk_OkA xp_F (xp_P sc) xp_cl xp_BW xp_NW xp_SW xp_exn 19 15 (.iconst 50) := Or.inr (Or.inl ⟨xd_19_26, by decide +kernel, rfl⟩)
theorem xk_19_16 : xk_OkA xp_F (xp_P sc) xp_cl xp_BW xp_NW xp_SW xp_exn 19 16 (.iload 1) := Or.inr ⟨1, rfl, xd_19_28, rfl⟩
theorem xk_19_17 : xk_OkA xp_F (xp_P sc) xp_cl xp_BW xp_NW xp_SW xp_exn 19 17 (.iastore) := ⟨xd_19_29, rfl⟩
theorem xk_19_18 : xk_OkA xp_F (xp_P sc) xp_cl xp_BW xp_NW xp_SW xp_exn 19 18 (.return_) := ⟨xd_19_30, rfl⟩
theorem xl_19 : xk_OkL xp_F (xp_P sc) xp_cl xp_BW xp_NW xp_SW xp_exn 19 0 xc_19 := ⟨xk_19_0, xk_19_1, xk_19_2, xk_19_3, xk_19_4, xk_19_5, xk_19_6, xk_19_7, xk_19_8, xk_19_9, xk_19_10, xk_19_11, xk_19_12, xk_19_13, xk_19_14, xk_19_15, xk_19_16, xk_19_17, xk_19_18, trivial⟩
theorem xd_20_0 : decode prog_4_method_5_code 0 = .ok (.iconst 0, 1) := by decide +kernel
theorem xd_20_1 : decode prog_4_method_5_code 1 = .ok (.istore_n 2, 1) := by decide +kernel
theorem xd_20_2 : decode prog_4_method_5_code 2 = .ok (.iconst 0, 1) := by decide +kernel
theorem xd_20_3 : decode prog_4_method_5_code 3 = .ok (.istore_n 3, 1) := by decide +kernel
theorem xd_20_4 : decode prog_4_method_5_code 4 = .ok (.iload_n 3, 1) := by decide +kernel
theorem xd_20_5 : decode prog_4_method_5_code 5 = .ok (.bipush 49, 2) := by decide +kernel
theorem xd_20_7 : decode prog_4_method_5_code 7 = .ok (.if_icmp .ge 21, 3) := by decide +kernel
theorem xd_20_10 : decode prog_4_method_5_code 10 = .ok (.iload_n 2, 1) := by decide +kernel
theorem xd_20_11 : decode prog_4_method_5_code 11 = .ok (.aload_n 0, 1) := by decide +kernel
theorem xd_20_12 : decode prog_4_method_5_code 12 = .ok (.iload_n 1, 1) := by decide +kernel
theorem xd_20_13 : decode prog_4_method_5_code 13 = .ok (.iload_n 3, 1) := by decide +kernel
theorem xd_20_14 : decode prog_4_method_5_code 14 = .ok (.iadd, 1) := by decide +kernel
theorem xd_20_15 : decode prog_4_method_5_code 15 = .ok (.iaload, 1) := by decide +kernel
theorem xd_20_16 : decode prog_4_method_5_code 16 = .ok (.iload_n 3, 1) := by decide +kernel
theorem xd_20_17 : decode prog_4_method_5_code 17 = .ok (.iconst 1, 1) := by decide +kernel
theorem xd_20_18 : decode prog_4_method_5_code 18 = .ok (.iadd, 1) := by decide +kernel
theorem xd_20_19 : decode prog_4_method_5_code 19 = .ok (.imul, 1) := by decide +kernel
theorem xd_20_20 : decode prog_4_method_5_code 20 = .ok (.iadd, 1) := by decide +kernel
theorem xd_20_21 : decode prog_4_method_5_code 21 = .ok (.istore_n 2, 1) := by decide +kernel
theorem xd_20_22 : decode prog_4_method_5_code 22 = .ok (.iinc 3 (1), 3) := by decide +kernel
theorem xd_20_25 : decode prog_4_method_5_code 25 = .ok (.goto (-21), 3) := by decide +kernel
theorem xd_20_28 : decode prog_4_method_5_code 28 = .ok (.iload_n 2, 1) := by decide +kernel
theorem xd_20_29 : decode prog_4_method_5_code 29 = .ok (.ireturn, 1) := by decide +kernel
theorem xk_20_0 : xk_OkA xp_F (xp_P sc) xp_cl xp_BW xp_NW xp_SW xp_exn 20 0 (.iconst 0) := Or.inl ⟨xd_20_0, rfl⟩
theorem xk_20_1 : xk_OkA xp_F (xp_P sc) xp_cl xp_BW xp_NW xp_SW xp_exn 20 1 (.istore 2) := Or.inr ⟨2, rfl, xd_20_1, rfl⟩
theorem xk_20_2 : xk_OkA xp_F (xp_P sc) xp_cl xp_BW xp_NW xp_SW xp_exn 20 2 (.iconst 0) := Or.inl ⟨xd_20_2, rfl⟩
theorem xk_20_3 : xk_OkA xp_F (xp_P sc) xp_cl xp_BW xp_NW xp_SW xp_exn 20 3 (.istore 3) := Or.inr ⟨3, rfl, xd_20_3, rfl⟩
theorem xk_20_4 : xk_OkA xp_F (xp_P sc) xp_cl xp_BW xp_NW xp_SW xp_exn 20 4 (.iload 3) := Or.inr ⟨3, rfl, xd_20_4, rfl⟩
theorem xk_20_5 : xk_OkA xp_F (xp_P sc) xp_cl xp_BW xp_NW xp_SW xp_exn 20 5 (.iconst 49) := Or.inr (Or.inl ⟨xd_20_5, by decide +kernel, rfl⟩)
theorem xk_20_6 : xk_OkA xp_F (xp_P sc) xp_cl xp_BW xp_NW xp_SW xp_exn 20 6 (.if_icmp .ge 21) := ⟨_, xd_20_7, by unfold xf_to; decide +kernel, rfl⟩
theorem xk_20_7 : xk_OkA xp_F (xp_P sc) xp_cl xp_BW xp_NW xp_SW xp_exn 20 7 (.iload 2) := Or.inr ⟨2, rfl, xd_20_10, rfl⟩
theorem xk_20_8 : xk_OkA xp_F (xp_P sc) xp_cl xp_BW xp_NW xp_SW xp_exn 20 8 (.aload 0) := Or.inr ⟨0, rfl, xd_20_11, rfl⟩
theorem xk_20_9 : xk_OkA xp_F (xp_P sc) xp_cl xp_BW xp_NW xp_SW xp_exn 20 9 (.iload 1) := Or.inr ⟨1, rfl, xd_20_12, rfl⟩
theorem xk_20_10 : xk_OkA xp_F (xp_P sc) xp_cl xp_BW xp_NW xp_SW xp_exn 20 10 (.iload 3) := Or.inr ⟨3, rfl, xd_20_13, rfl⟩
theorem xk_20_11 : xk_OkA xp_F (xp_P sc) xp_cl xp_BW xp_NW xp_SW xp_exn 20 11 (.iadd) := ⟨xd_20_14, rfl⟩
theorem xk_20_12 : xk_OkA xp_F (xp_P sc) xp_cl xp_BW xp_NW xp_SW xp_exn 20 12 (.iaload) := ⟨xd_20_15, rfl⟩
theorem xk_20_13 : xk_OkA xp_F (xp_P sc) xp_cl xp_BW xp_NW xp_SW xp_exn 20 13 (.iload 3) := Or.inr ⟨3, rfl, xd_20_16, rfl⟩
theorem xk_20_14 : xk_OkA xp_F (xp_P sc) xp_cl xp_BW xp_NW xp_SW xp_exn 20 14 (.iconst 1) := Or.inl ⟨xd_20_17, rfl⟩
theorem xk_20_15 : xk_OkA xp_F (xp_P sc) xp_cl xp_BW xp_NW xp_SW xp_exn 20 15 (.iadd) := ⟨xd_20_18, rfl⟩
theorem xk_20_16 : xk_OkA xp_F (xp_P sc) xp_cl xp_BW xp_NW xp_SW xp_exn 20 16 (.imul) := ⟨xd_20_19, rfl⟩
theorem xk_20_17 : xk_OkA xp_F (xp_P sc) xp_cl xp_BW xp_NW xp_SW xp_exn 20 17 (.iadd) := ⟨xd_20_20, rfl⟩
theorem xk_20_18 : xk_OkA xp_F (xp_P sc) xp_cl xp_BW xp_NW xp_SW xp_exn 20 18 (.istore 2) := Or.inr ⟨2, rfl, xd_20_21, rfl⟩
theorem xk_20_19 : xk_OkA xp_F (xp_P sc) xp_cl xp_BW xp_NW xp_SW xp_exn 20 19 (.iinc 3 (1)) := ⟨xd_20_22, rfl⟩
theorem xk_20_20 : xk_OkA xp_F (xp_P sc) xp_cl xp_BW xp_NW xp_SW xp_exn 20 20 (.goto 4) := ⟨_, xd_20_25, by unfold xf_to; decide +kernel⟩
theorem xk_20_21 : xk_OkA xp_F (xp_P sc) xp_cl xp_BW xp_NW xp_SW xp_exn 20 21 (.iload 2) := Or.inr ⟨2, rfl, xd_20_28, rfl⟩
theorem xk_20_22 : xk_OkA xp_F (xp_P sc) xp_cl xp_BW xp_NW xp_SW xp_exn 20 22 (.ireturn) := ⟨xd_20_29, rfl⟩
theorem xl_20 : xk_OkL xp_F (xp_P sc) xp_cl xp_BW xp_NW xp_SW xp_exn 20 0 xc_20 := ⟨xk_20_0, xk_20_1, xk_20_2, xk_20_3, xk_20_4, xk_20_5, xk_20_6, xk_20_7, xk_20_8, xk_20_9, xk_20_10, xk_20_11, xk_20_12, xk_20_13, xk_20_14, xk_20_15, xk_20_16, xk_20_17, xk_20_18, xk_20_19, xk_20_20, xk_20_21, xk_20_22, trivial⟩
theorem xd_21_0 : decode prog_4_method_6_code 0 = .ok (.aload_n 0, 1) := by decide +kernel
theorem xd_21_1 : decode prog_4_method_6_code 1 = .ok (.getfield 9, 3) := by decide +kernel
theorem xd_21_4 : decode prog_4_method_6_code 4 = .ok (.iconst 0, 1) := by decide +kernel
theorem xd_21_5 : decode prog_4_method_6_code 5 = .ok (.iaload, 1) := by decide +kernel
theorem xd_21_6 : decode prog_4_method_6_code 6 = .ok (.ireturn, 1) := by decide +kernel
theorem xk_21_0 : xk_OkA xp_F (xp_P sc) xp_cl xp_BW xp_NW xp_SW xp_exn 21 0 (.aload 0) := Or.inr ⟨0, rfl, xd_21_0, rfl⟩
theorem xk_21_1 : xk_OkA xp_F (xp_P sc) xp_cl xp_BW xp_NW xp_SW xp_exn 21 1 (.getfield 64) := ⟨_, xd_21_1, rfl, ⟨_, _, _, rfl, by decide, xu_2, Or.inl xwt_49⟩⟩
theorem xk_21_2 : xk_OkA xp_F (xp_P sc) xp_cl xp_BW xp_NW xp_SW xp_exn 21 2 (.iconst 0) := Or.inl ⟨xd_21_4, rfl⟩
theorem xk_21_3 : xk_OkA xp_F (xp_P sc) xp_cl xp_BW xp_NW xp_SW xp_exn 21 3 (.iaload) := ⟨xd_21_5, rfl⟩
theorem xk_21_4 : xk_OkA xp_F (xp_P sc) xp_cl xp_BW xp_NW xp_SW xp_exn 21 4 (.ireturn) := ⟨xd_21_6, rfl⟩
theorem xl_21 : xk_OkL xp_F (xp_P sc) xp_cl xp_BW xp_NW xp_SW xp_exn 21 0 xc_21 := ⟨xk_21_0, xk_21_1, xk_21_2, xk_21_3, xk_21_4, trivial⟩
theorem xd_22_0 : decode prog_4_method_7_code 0 = .ok (.aload_n 0, 1) := by decide +kernel
theorem xd_22_1 : decode prog_4_method_7_code 1 = .ok (.iload_n 1, 1) := by decide +kernel
theorem xd_22_2 : decode prog_4_method_7_code 2 = .ok (.invokevirtual 25, 3) := by decide +kernel
theorem xd_22_5 : decode prog_4_method_7_code 5 = .ok (.ifCond .eq 7, 3) := by decide +kernel
theorem xd_22_8 : decode prog_4_method_7_code 8 = .ok (.iconst 1, 1) := by decide +kernel
theorem xd_22_9 : decode prog_4_method_7_code 9 = .ok (.goto 4, 3) := by decide +kernel
theorem xd_22_12 : decode prog_4_method_7_code 12 = .ok (.iconst 0, 1) := by decide +kernel
theorem xd_22_13 : decode prog_4_method_7_code 13 = .ok (.ireturn, 1) := by decide +kernel
theorem xk_22_0 : xk_OkA xp_F (xp_P sc) xp_cl xp_BW xp_NW xp_SW xp_exn 22 0 (.aload 0) := Or.inr ⟨0, rfl, xd_22_0, rfl⟩
theorem xk_22_1 : xk_OkA xp_F (xp_P sc) xp_cl xp_BW xp_NW xp_SW xp_exn 22 1 (.iload 1) := Or.inr ⟨1, rfl, xd_22_1, rfl⟩
theorem xk_22_2 : xk_OkA xp_F (xp_P sc) xp_cl xp_BW xp_NW xp_SW xp_exn 22 2 (.invokeinterface 23 2) := ⟨rfl, Or.inl ⟨xwt_222, rfl⟩, rfl, rfl, xwt_3, by decide +kernel, by decide +kernel, Nat.le_of_ble_eq_true rfl, _, Or.inl xwt_219, Or.inr ⟨xd_22_2, xwt_221, xws_4, ⟨_, _, _, rfl, rfl⟩, by decide +kernel⟩⟩
theorem xk_22_3 : xk_OkA xp_F (xp_P sc) xp_cl xp_BW xp_NW xp_SW xp_exn 22 3 (.ifCond .eq 6) := ⟨_, xd_22_5, by unfold xf_to; decide +kernel, rfl⟩
theorem xk_22_4 : xk_OkA xp_F (xp_P sc) xp_cl xp_BW xp_NW xp_SW xp_exn 22 4 (.iconst 1) := Or.inl ⟨xd_22_8, rfl⟩
theorem xk_22_5 : xk_OkA xp_F (xp_P sc) xp_cl xp_BW xp_NW xp_SW xp_exn 22 5 (.goto 7) := ⟨_, xd_22_9, by unfold xf_to; decide +kernel⟩
theorem xk_22_6 : xk_OkA xp_F (xp_P sc) xp_cl xp_BW xp_NW xp_SW xp_exn 22 6 (.iconst 0) := Or.inl ⟨xd_22_12, rfl⟩
theorem xk_22_7 : xk_OkA xp_F (xp_P sc) xp_cl xp_BW xp_NW xp_SW xp_exn 22 7 (.freturn) := ⟨xd_22_13, rfl⟩
theorem xl_22 : xk_OkL xp_F (xp_P sc) xp_cl xp_BW xp_NW xp_SW xp_exn 22 0 xc_22 := ⟨xk_22_0, xk_22_1, xk_22_2, xk_22_3, xk_22_4, xk_22_5, xk_22_6, xk_22_7, trivial⟩
theorem xd_23_0 : decode prog_4_method_8_code 0 = .ok (.aload_n 0, 1) := by decide +kernel
theorem xd_23_1 : decode prog_4_method_8_code 1 = .ok (.getfield 9, 3) := by decide +kernel
theorem xd_23_4 : decode prog_4_method_8_code 4 = .ok (.iconst 1, 1) := by decide +kernel
theorem xd_23_5 : decode prog_4_method_8_code 5 = .ok (.iload_n 1, 1) := by decide +kernel
theorem xd_23_6 : decode prog_4_method_8_code 6 = .ok (.iadd, 1) := by decide +kernel
theorem xd_23_7 : decode prog_4_method_8_code 7 = .ok (.iaload, 1) := by decide +kernel
theorem xd_23_8 : decode prog_4_method_8_code 8 = .ok (.ireturn, 1) := by decide +kernel
theorem xk_23_0 : xk_OkA xp_F (xp_P sc) xp_cl xp_BW xp_NW xp_SW xp_exn 23 0 (.aload 0) := Or.inr ⟨0, rfl, xd_23_0, rfl⟩
theorem xk_23_1 : xk_OkA xp_F (xp_P sc) xp_cl xp_BW xp_NW xp_SW xp_exn 23 1 (.getfield 64) := ⟨_, xd_23_1, rfl, ⟨_, _, _, rfl, by decide, xu_2, Or.inl xwt_49⟩⟩
theorem xk_23_2 : xk_OkA xp_F (xp_P sc) xp_cl xp_BW xp_NW xp_SW xp_exn 23 2 (.iconst 1) := Or.inl ⟨xd_23_4, rfl⟩
theorem xk_23_3 : xk_OkA xp_F (xp_P sc) xp_cl xp_BW xp_NW xp_SW xp_exn 23 3 (.iload 1) := Or.inr ⟨1, rfl, xd_23_5, rfl⟩
theorem xk_23_4 : xk_OkA xp_F (xp_P sc) xp_cl xp_BW xp_NW xp_SW xp_exn 23 4 (.iadd) := ⟨xd_23_6, rfl⟩
theorem xk_23_5 : xk_OkA xp_F (xp_P sc) xp_cl xp_BW xp_NW xp_SW xp_exn 23 5 (.iaload) := ⟨xd_23_7, rfl⟩
theorem xk_23_6 : xk_OkA xp_F (xp_P sc) xp_cl xp_BW xp_NW xp_SW xp_exn 23 6 (.ireturn) := ⟨xd_23_8, rfl⟩
theorem xl_23 : xk_OkL xp_F (xp_P sc) xp_cl xp_BW xp_NW xp_SW xp_exn 23 0 xc_23 := ⟨xk_23_0, xk_23_1, xk_23_2, xk_23_3, xk_23_4, xk_23_5, xk_23_6, trivial⟩
theorem xd_24_0 : decode prog_4_method_9_code 0 = .ok (.aload_n 0, 1) := by decide +kernel
theorem xd_24_1 : decode prog_4_method_9_code 1 = .ok (.getfield 9, 3) := by decide +kernel
theorem xd_24_4 : decode prog_4_method_9_code 4 = .ok (.iconst 1, 1) := by decide +kernel
theorem xd_24_5 : decode prog_4_method_9_code 5 = .ok (.iload_n 1, 1) := by decide +kernel
theorem xd_24_6 : decode prog_4_method_9_code 6 = .ok (.iadd, 1) := by decide +kernel
theorem xd_24_7 : decode prog_4_method_9_code 7 = .ok (.iload_n 2, 1) := by decide +kernel
theorem xd_24_8 : decode prog_4_method_9_code 8 = .ok (.iastore, 1) := by decide +kernel
theorem xd_24_9 : decode prog_4_method_9_code 9 = .ok (.return_, 1) := by decide +kernel
theorem xk_24_0 : xk_OkA xp_F (xp_P sc) xp_cl xp_BW xp_NW xp_SW xp_exn 24 0 (.aload 0) := Or.inr ⟨0, rfl, xd_24_0, rfl⟩
theorem xk_24_1 : xk_OkA xp_F (xp_P sc) xp_cl xp_BW xp_NW xp_SW xp_exn 24 1 (.getfield 64) := ⟨_, xd_24_1, rfl, ⟨_, _, _, rfl, by decide, xu_2, Or.inl xwt_49⟩⟩
theorem xk_24_2 : xk_OkA xp_F (xp_P sc) xp_cl xp_BW xp_NW xp_SW xp_exn 24 2 (.iconst 1) := Or.inl ⟨xd_24_4, rfl⟩
theorem xk_24_3 : xk_OkA xp_F (xp_P sc) xp_cl xp_BW xp_NW xp_SW xp_exn 24 3 (.iload 1) := Or.inr ⟨1, rfl, xd_24_5, rfl⟩
theorem xk_24_4 : xk_OkA xp_F (xp_P sc) xp_cl xp_BW xp_NW xp_SW xp_exn 24 4 (.iadd) := ⟨xd_24_6, rfl⟩
theorem xk_24_5 : xk_OkA xp_F (xp_P sc) xp_cl xp_BW xp_NW xp_SW xp_exn 24 5 (.iload 2) := Or.inr ⟨2, rfl, xd_24_7, rfl⟩
theorem xk_24_6 : xk_OkA xp_F (xp_P sc) xp_cl xp_BW xp_NW xp_SW xp_exn 24 6 (.iastore) := ⟨xd_24_8, rfl⟩
theorem xk_24_7 : xk_OkA xp_F (xp_P sc) xp_cl xp_BW xp_NW xp_SW xp_exn 24 7 (.return_) := ⟨xd_24_9, rfl⟩
theorem xl_24 : xk_OkL xp_F (xp_P sc) xp_cl xp_BW xp_NW xp_SW xp_exn 24 0 xc_24 := ⟨xk_24_0, xk_24_1, xk_24_2, xk_24_3, xk_24_4, xk_24_5, xk_24_6, xk_24_7, trivial⟩
theorem xd_25_0 : decode prog_4_method_10_code 0 = .ok (.iconst 0, 1) := by decide +kernel
theorem xd_25_1 : decode prog_4_method_10_code 1 = .ok (.istore_n 1, 1) := by decide +kernel
theorem xd_25_2 : decode prog_4_method_10_code 2 = .ok (.iconst 0, 1) := by decide +kernel
theorem xd_25_3 : decode prog_4_method_10_code 3 = .ok (.istore_n 2, 1) := by decide +kernel
theorem xd_25_4 : decode prog_4_method_10_code 4 = .ok (.iload_n 2, 1) := by decide +kernel
theorem xd_25_5 : decode prog_4_method_10_code 5 = .ok (.iconst 4, 1) := by decide +kernel
theorem xd_25_6 : decode prog_4_method_10_code 6 = .ok (.if_icmp .ge 20, 3) := by decide +kernel
theorem xd_25_9 : decode prog_4_method_10_code 9 = .ok (.aload_n 0, 1) := by decide +kernel
theorem xd_25_10 : decode prog_4_method_10_code 10 = .ok (.iload_n 2, 1) := by decide +kernel
theorem xd_25_11 : decode prog_4_method_10_code 11 = .ok (.invokevirtual 29, 3) := by decide +kernel
theorem xd_25_14 : decode prog_4_method_10_code 14 = .ok (.ifCond .eq 6, 3) := by decide +kernel
theorem xd_25_17 : decode prog_4_method_10_code 17 = .ok (.iinc 1 (1), 3) := by decide +kernel
theorem xd_25_20 : decode prog_4_method_10_code 20 = .ok (.iinc 2 (1), 3) := by decide +kernel
theorem xd_25_23 : decode prog_4_method_10_code 23 = .ok (.goto (-19), 3) := by decide +kernel
theorem xd_25_26 : decode prog_4_method_10_code 26 = .ok (.iload_n 1, 1) := by decide +kernel
theorem xd_25_27 : decode prog_4_method_10_code 27 = .ok (.ireturn, 1) := by decide +kernel
theorem xk_25_0 : xk_OkA xp_F (xp_P sc) xp_cl xp_BW xp_NW xp_SW xp_exn 25 0 (.iconst 0) := Or.inl ⟨xd_25_0, rfl⟩
theorem xk_25_1 : xk_OkA xp_F (xp_P sc) xp_cl xp_BW xp_NW xp_SW xp_exn 25 1 (.istore 1) := Or.inr ⟨1, rfl, xd_25_1, rfl⟩
theorem xk_25_2 : xk_OkA xp_F (xp_P sc) xp_cl xp_BW xp_NW xp_SW xp_exn 25 2 (.iconst 0) := Or.inl ⟨xd_25_2, rfl⟩
theorem xk_25_3 : xk_OkA xp_F (xp_P sc) xp_cl xp_BW xp_NW xp_SW xp_exn 25 3 (.istore 2) := Or.inr ⟨2, rfl, xd_25_3, rfl⟩
theorem xk_25_4 : xk_OkA xp_F (xp_P sc) xp_cl xp_BW xp_NW xp_SW xp_exn 25 4 (.iload 2) := Or.inr ⟨2, rfl, xd_25_4, rfl⟩
theorem xk_25_5 : xk_OkA xp_F (xp_P sc) xp_cl xp_BW xp_NW xp_SW xp_exn 25 5 (.iconst 4) := Or.inl ⟨xd_25_5, rfl⟩
theorem xk_25_6 : xk_OkA xp_F (xp_P sc) xp_cl xp_BW xp_NW xp_SW xp_exn 25 6 (.if_icmp .ge 14) := ⟨_, xd_25_6, by unfold xf_to; decide +kernel, rfl⟩
theorem xk_25_7 : xk_OkA xp_F (xp_P sc) xp_cl xp_BW xp_NW xp_SW xp_exn 25 7 (.aload 0) := Or.inr ⟨0, rfl, xd_25_9, rfl⟩
theorem xk_25_8 : xk_OkA xp_F (xp_P sc) xp_cl xp_BW xp_NW xp_SW xp_exn 25 8 (.iload 2) := Or.inr ⟨2, rfl, xd_25_10, rfl⟩
theorem xk_25_9 : xk_OkA xp_F (xp_P sc) xp_cl xp_BW xp_NW xp_SW xp_exn 25 9 (.invokeinterface 22 2) := ⟨rfl, Or.inl ⟨xwt_218, rfl⟩, rfl, rfl, xwt_3, by decide +kernel, by decide +kernel, Nat.le_of_ble_eq_true rfl, _, Or.inl xwt_353, Or.inr ⟨xd_25_11, xwt_217, xws_3, ⟨_, _, _, rfl, rfl⟩, by decide +kernel⟩⟩
theorem xk_25_10 : xk_OkA xp_F (xp_P sc) xp_cl xp_BW xp_NW xp_SW xp_exn 25 10 (.ifCond .eq 12) := ⟨_, xd_25_14, by unfold xf_to; decide +kernel, rfl⟩
theorem xk_25_11 : xk_OkA xp_F (xp_P sc) xp_cl xp_BW xp_NW xp_SW xp_exn 25 11 (.iinc 1 (1)) := ⟨xd_25_17, rfl⟩
theorem xk_25_12 : xk_OkA xp_F (xp_P sc) xp_cl xp_BW xp_NW xp_SW xp_exn 25 12 (.iinc 2 (1)) := ⟨xd_25_20, rfl⟩
theorem xk_25_13 : xk_OkA xp_F (xp_P sc) xp_cl xp_BW xp_NW xp_SW xp_exn 25 13 (.goto 4) := ⟨_, xd_25_23, by unfold xf_to; decide +kernel⟩
theorem xk_25_14 : xk_OkA xp_F (xp_P sc) xp_cl xp_BW xp_NW xp_SW xp_exn 25 14 (.iload 1) := Or.inr ⟨1, rfl, xd_25_26, rfl⟩
theorem xk_25_15 : xk_OkA xp_F (xp_P sc) xp_cl xp_BW xp_NW xp_SW xp_exn 25 15 (.ireturn) := ⟨xd_25_27, rfl⟩
theorem xl_25 : xk_OkL xp_F (xp_P sc) xp_cl xp_BW xp_NW xp_SW xp_exn 25 0 xc_25 := ⟨xk_25_0, xk_25_1, xk_25_2, xk_25_3, xk_25_4, xk_25_5, xk_25_6, xk_25_7, xk_25_8, xk_25_9, xk_25_10, xk_25_11, xk_25_12, xk_25_13, xk_25_14, xk_25_15, trivial⟩
theorem xd_26_0 : decode prog_4_method_11_code 0 = .ok (.aload_n 0, 1) := by decide +kernel
theorem xd_26_1 : decode prog_4_method_11_code 1 = .ok (.getfield 9, 3) := by decide +kernel
theorem xd_26_4 : decode prog_4_method_11_code 4 = .ok (.iconst 5, 1) := by decide +kernel
theorem xd_26_5 : decode prog_4_method_11_code 5 = .ok (.iload_n 1, 1) := by decide +kernel
theorem xd_26_6 : decode prog_4_method_11_code 6 = .ok (.iadd, 1) := by decide +kernel
theorem xd_26_7 : decode prog_4_method_11_code 7 = .ok (.iaload, 1) := by decide +kernel
theorem xd_26_8 : decode prog_4_method_11_code 8 = .ok (.ifCond .eq 7, 3) := by decide +kernel
theorem xd_26_11 : decode prog_4_method_11_code 11 = .ok (.iconst 1, 1) := by decide +kernel
theorem xd_26_12 : decode prog_4_method_11_code 12 = .ok (.goto 4, 3) := by decide +kernel
theorem xd_26_15 : decode prog_4_method_11_code 15 = .ok (.iconst 0, 1) := by decide +kernel
theorem xd_26_16 : decode prog_4_method_11_code 16 = .ok (.ireturn, 1) := by decide +kernel
theorem xk_26_0 : xk_OkA xp_F (xp_P sc) xp_cl xp_BW xp_NW xp_SW xp_exn 26 0 (.aload 0) := Or.inr ⟨0, rfl, xd_26_0, rfl⟩
theorem xk_26_1 : xk_OkA xp_F (xp_P sc) xp_cl xp_BW xp_NW xp_SW xp_exn 26 1 (.getfield 64) := ⟨_, xd_26_1, rfl, ⟨_, _, _, rfl, by decide, xu_2, Or.inl xwt_49⟩⟩
theorem xk_26_2 : xk_OkA xp_F (xp_P sc) xp_cl xp_BW xp_NW xp_SW xp_exn 26 2 (.iconst 5) := Or.inl ⟨xd_26_4, rfl⟩
theorem xk_26_3 : xk_OkA xp_F (xp_P sc) xp_cl xp_BW xp_NW xp_SW xp_exn 26 3 (.iload 1) := Or.inr ⟨1, rfl, xd_26_5, rfl⟩
theorem xk_26_4 : xk_OkA xp_F (xp_P sc) xp_cl xp_BW xp_NW xp_SW xp_exn 26 4 (.iadd) := ⟨xd_26_6, rfl⟩
theorem xk_26_5 : xk_OkA xp_F (xp_P sc) xp_cl xp_BW xp_NW xp_SW xp_exn 26 5 (.iaload) := ⟨xd_26_7, rfl⟩
theorem xk_26_6 : xk_OkA xp_F (xp_P sc) xp_cl xp_BW xp_NW xp_SW xp_exn 26 6 (.ifCond .eq 9) := ⟨_, xd_26_8, by unfold xf_to; decide +kernel, rfl⟩
theorem xk_26_7 : xk_OkA xp_F (xp_P sc) xp_cl xp_BW xp_NW xp_SW xp_exn 26 7 (.iconst 1) := Or.inl ⟨xd_26_11, rfl⟩
theorem xk_26_8 : xk_OkA xp_F (xp_P sc) xp_cl xp_BW xp_NW xp_SW xp_exn 26 8 (.goto 10) := ⟨_, xd_26_12, by unfold xf_to; decide +kernel⟩
theorem xk_26_9 : xk_OkA xp_F (xp_P sc) xp_cl xp_BW xp_NW xp_SW xp_exn 26 9 (.iconst 0) := Or.inl ⟨xd_26_15, rfl⟩
theorem xk_26_10 : xk_OkA xp_F (xp_P sc) xp_cl xp_BW xp_NW xp_SW xp_exn 26 10 (.freturn) := ⟨xd_26_16, rfl⟩
theorem xl_26 : xk_OkL xp_F (xp_P sc) xp_cl xp_BW xp_NW xp_SW xp_exn 26 0 xc_26 := ⟨xk_26_0, xk_26_1, xk_26_2, xk_26_3, xk_26_4, xk_26_5, xk_26_6, xk_26_7, xk_26_8, xk_26_9, xk_26_10, trivial⟩
theorem xd_27_0 : decode prog_4_method_12_code 0 = .ok (.iconst 0, 1) := by decide +kernel
theorem xd_27_1 : decode prog_4_method_12_code 1 = .ok (.istore_n 1, 1) := by decide +kernel
theorem xd_27_2 : decode prog_4_method_12_code 2 = .ok (.iload_n 1, 1) := by decide +kernel
theorem xd_27_3 : decode prog_4_method_12_code 3 = .ok (.iconst 4, 1) := by decide +kernel
theorem xd_27_4 : decode prog_4_method_12_code 4 = .ok (.if_icmp .ge 19, 3) := by decide +kernel
theorem xd_27_7 : decode prog_4_method_12_code 7 = .ok (.aload_n 0, 1) := by decide +kernel
theorem xd_27_8 : decode prog_4_method_12_code 8 = .ok (.iload_n 1, 1) := by decide +kernel
theorem xd_27_9 : decode prog_4_method_12_code 9 = .ok (.invokevirtual 33, 3) := by decide +kernel
theorem xd_27_12 : decode prog_4_method_12_code 12 = .ok (.ifCond .ne 5, 3) := by decide +kernel
theorem xd_27_15 : decode prog_4_method_12_code 15 = .ok (.iload_n 1, 1) := by decide +kernel
theorem xd_27_16 : decode prog_4_method_12_code 16 = .ok (.ireturn, 1) := by decide +kernel
theorem xd_27_17 : decode prog_4_method_12_code 17 = .ok (.iinc 1 (1), 3) := by decide +kernel
theorem xd_27_20 : decode prog_4_method_12_code 20 = .ok (.goto (-18), 3) := by decide +kernel
theorem xd_27_23 : decode prog_4_method_12_code 23 = .ok (.iconst (-1), 1) := by decide +kernel
theorem xd_27_24 : decode prog_4_method_12_code 24 = .ok (.ireturn, 1) := by decide +kernel
theorem xk_27_0 : xk_OkA xp_F (xp_P sc) xp_cl xp_BW xp_NW xp_SW xp_exn 27 0 (.iconst 0) := Or.inl ⟨xd_27_0, rfl⟩
theorem xk_27_1 : xk_OkA xp_F (xp_P sc) xp_cl xp_BW xp_NW xp_SW xp_exn 27 1 (.istore 1) := Or.inr ⟨1, rfl, xd_27_1, rfl⟩
theorem xk_27_2 : xk_OkA xp_F (xp_P sc) xp_cl xp_BW xp_NW xp_SW xp_exn 27 2 (.iload 1) := Or.inr ⟨1, rfl, xd_27_2, rfl⟩
theorem xk_27_3 : xk_OkA xp_F (xp_P sc) xp_cl xp_BW xp_NW xp_SW xp_exn 27 3 (.iconst 4) := Or.inl ⟨xd_27_3, rfl⟩
theorem xk_27_4 : xk_OkA xp_F (xp_P sc) xp_cl xp_BW xp_NW xp_SW xp_exn 27 4 (.if_icmp .ge 13) := ⟨_, xd_27_4, by unfold xf_to; decide +kernel, rfl⟩
theorem xk_27_5 : xk_OkA xp_F (xp_P sc) xp_cl xp_BW xp_NW xp_SW xp_exn 27 5 (.aload 0) := Or.inr ⟨0, rfl, xd_27_7, rfl⟩
theorem xk_27_6 : xk_OkA xp_F (xp_P sc) xp_cl xp_BW xp_NW xp_SW xp_exn 27 6 (.iload 1) := Or.inr ⟨1, rfl, xd_27_8, rfl⟩
theorem xk_27_7 : xk_OkA xp_F (xp_P sc) xp_cl xp_BW xp_NW xp_SW xp_exn 27 7 (.invokeinterface 26 2) := ⟨rfl, Or.inl ⟨xwt_396, rfl⟩, rfl, rfl, xwt_3, by decide +kernel, by decide +kernel, Nat.le_of_ble_eq_true rfl, _, Or.inl xwt_393, Or.inr ⟨xd_27_9, xwt_395, xws_31, ⟨_, _, _, rfl, rfl⟩, by decide +kernel⟩⟩
theorem xk_27_8 : xk_OkA xp_F (xp_P sc) xp_cl xp_BW xp_NW xp_SW xp_exn 27 8 (.ifCond .ne 11) := ⟨_, xd_27_12, by unfold xf_to; decide +kernel, rfl⟩
theorem xk_27_9 : xk_OkA xp_F (xp_P sc) xp_cl xp_BW xp_NW xp_SW xp_exn 27 9 (.iload 1) := Or.inr ⟨1, rfl, xd_27_15, rfl⟩
theorem xk_27_10 : xk_OkA xp_F (xp_P sc) xp_cl xp_BW xp_NW xp_SW xp_exn 27 10 (.ireturn) := ⟨xd_27_16, rfl⟩
theorem xk_27_11 : xk_OkA xp_F (xp_P sc) xp_cl xp_BW xp_NW xp_SW xp_exn 27 11 (.iinc 1 (1)) := ⟨xd_27_17, rfl⟩
theorem xk_27_12 : xk_OkA xp_F (xp_P sc) xp_cl xp_BW xp_NW xp_SW xp_exn 27 12 (.goto 2) := ⟨_, xd_27_20, by unfold xf_to; decide +kernel⟩
theorem xk_27_13 : xk_OkA xp_F (xp_P sc) xp_cl xp_BW xp_NW xp_SW xp_exn 27 13 (.iconst (-1)) := Or.inl ⟨xd_27_23, rfl⟩
theorem xk_27_14 : xk_OkA xp_F (xp_P sc) xp_cl xp_BW xp_NW xp_SW xp_exn 27 14 (.ireturn) := ⟨xd_27_24, rfl⟩
theorem xl_27 : xk_OkL xp_F (xp_P sc) xp_cl xp_BW xp_NW xp_SW xp_exn 27 0 xc_27 := ⟨xk_27_0, xk_27_1, xk_27_2, xk_27_3, xk_27_4, xk_27_5, xk_27_6, xk_27_7, xk_27_8, xk_27_9, xk_27_10, xk_27_11, xk_27_12, xk_27_13, xk_27_14, trivial⟩
theorem xd_28_0 : decode prog_4_method_13_code 0 = .ok (.aload_n 0, 1) := by decide +kernel
theorem xd_28_1 : decode prog_4_method_13_code 1 = .ok (.getfield 9, 3) := by decide +kernel
theorem xd_28_4 : decode prog_4_method_13_code 4 = .ok (.iconst 5, 1) := by decide +kernel
theorem xd_28_5 : decode prog_4_method_13_code 5 = .ok (.iload_n 1, 1) := by decide +kernel
theorem xd_28_6 : decode prog_4_method_13_code 6 = .ok (.iadd, 1) := by decide +kernel
theorem xd_28_7 : decode prog_4_method_13_code 7 = .ok (.iconst 1, 1) := by decide +kernel
theorem xd_28_8 : decode prog_4_method_13_code 8 = .ok (.iload_n 2, 1) := by decide +kernel
theorem xd_28_9 : decode prog_4_method_13_code 9 = .ok (.iadd, 1) := by decide +kernel
theorem xd_28_10 : decode prog_4_method_13_code 10 = .ok (.iconst 4, 1) := by decide +kernel
theorem xd_28_11 : decode prog_4_method_13_code 11 = .ok (.iload_n 3, 1) := by decide +kernel
theorem xd_28_12 : decode prog_4_method_13_code 12 = .ok (.imul, 1) := by decide +kernel
theorem xd_28_13 : decode prog_4_method_13_code 13 = .ok (.iadd, 1) := by decide +kernel
theorem xd_28_14 : decode prog_4_method_13_code 14 = .ok (.bipush 32, 2) := by decide +kernel
theorem xd_28_16 : decode prog_4_method_13_code 16 = .ok (.iload 4, 2) := by decide +kernel
theorem xd_28_18 : decode prog_4_method_13_code 18 = .ok (.imul, 1) := by decide +kernel
theorem xd_28_19 : decode prog_4_method_13_code 19 = .ok (.iadd, 1) := by decide +kernel
theorem xd_28_20 : decode prog_4_method_13_code 20 = .ok (.iastore, 1) := by decide +kernel
theorem xd_28_21 : decode prog_4_method_13_code 21 = .ok (.return_, 1) := by decide +kernel
theorem xk_28_0 : xk_OkA xp_F (xp_P sc) xp_cl xp_BW xp_NW xp_SW xp_exn 28 0 (.aload 0) := Or.inr ⟨0, rfl, xd_28_0, rfl⟩
theorem xk_28_1 : xk_OkA xp_F (xp_P sc) xp_cl xp_BW xp_NW xp_SW xp_exn 28 1 (.getfield 64) := ⟨_, xd_28_1, rfl, ⟨_, _, _, rfl, by decide, xu_2, Or.inl xwt_49⟩⟩
theorem xk_28_2 : xk_OkA xp_F (xp_P sc) xp_cl xp_BW xp_NW xp_SW xp_exn 28 2 (.iconst 5) := Or.inl ⟨xd_28_4, rfl⟩
theorem xk_28_3 : xk_OkA xp_F (xp_P sc) xp_cl xp_BW xp_NW xp_SW xp_exn 28 3 (.iload 1) := Or.inr ⟨1, rfl, xd_28_5, rfl⟩
theorem xk_28_4 : xk_OkA xp_F (xp_P sc) xp_cl xp_BW xp_NW xp_SW xp_exn 28 4 (.iadd) := ⟨xd_28_6, rfl⟩
theorem xk_28_5 : xk_OkA xp_F (xp_P sc) xp_cl xp_BW xp_NW xp_SW xp_exn 28 5 (.iconst 1) := Or.inl ⟨xd_28_7, rfl⟩
theorem xk_28_6 : xk_OkA xp_F (xp_P sc) xp_cl xp_BW xp_NW xp_SW xp_exn 28 6 (.iload 2) := Or.inr ⟨2, rfl, xd_28_8, rfl⟩
theorem xk_28_7 : xk_OkA xp_F (xp_P sc) xp_cl xp_BW xp_NW xp_SW xp_exn 28 7 (.iadd) := ⟨xd_28_9, rfl⟩
theorem xk_28_8 : xk_OkA xp_F (xp_P sc) xp_cl xp_BW xp_NW xp_SW xp_exn 28 8 (.iconst 4) := Or.inl ⟨xd_28_10, rfl⟩
theorem xk_28_9 : xk_OkA xp_F (xp_P sc) xp_cl xp_BW xp_NW xp_SW xp_exn 28 9 (.iload 3) := Or.inr ⟨3, rfl, xd_28_11, rfl⟩
theorem xk_28_10 : xk_OkA xp_F (xp_P sc) xp_cl xp_BW xp_NW xp_SW xp_exn 28 10 (.imul) := ⟨xd_28_12, rfl⟩
theorem xk_28_11 : xk_OkA xp_F (xp_P sc) xp_cl xp_BW xp_NW xp_SW xp_exn 28 11 (.iadd) := ⟨xd_28_13, rfl⟩
theorem xk_28_12 : xk_OkA xp_F (xp_P sc) xp_cl xp_BW xp_NW xp_SW xp_exn 28 12 (.iconst 32) := Or.inr (Or.inl ⟨xd_28_14, by decide +kernel, rfl⟩)
theorem xk_28_13 : xk_OkA xp_F (xp_P sc) xp_cl xp_BW xp_NW xp_SW xp_exn 28 13 (.iload 4) := Or.inl ⟨xd_28_16, rfl⟩
theorem xk_28_14 : xk_OkA xp_F (xp_P sc) xp_cl xp_BW xp_NW xp_SW xp_exn 28 14 (.imul) := ⟨xd_28_18, rfl⟩
theorem xk_28_15 : xk_OkA xp_F (xp_P sc) xp_cl xp_BW xp_NW xp_SW xp_exn 28 15 (.iadd) := ⟨xd_28_19, rfl⟩
theorem xk_28_16 : xk_OkA xp_F (xp_P sc) xp_cl xp_BW xp_NW xp_SW xp_exn 28 16 (.iastore) := ⟨xd_28_20, rfl⟩
theorem xk_28_17 : xk_OkA xp_F (xp_P sc) xp_cl xp_BW xp_NW xp_SW xp_exn 28 17 (.return_) := ⟨xd_28_21, rfl⟩
theorem xl_28 : xk_OkL xp_F (xp_P sc) xp_cl xp_BW xp_NW xp_SW xp_exn 28 0 xc_28 := ⟨xk_28_0, xk_28_1, xk_28_2, xk_28_3, xk_28_4, xk_28_5, xk_28_6, xk_28_7, xk_28_8, xk_28_9, xk_28_10, xk_28_11, xk_28_12, xk_28_13, xk_28_14, xk_28_15, xk_28_16, xk_28_17, trivial⟩
theorem xd_29_0 : decode prog_4_method_14_code 0 = .ok (.aload_n 0, 1) := by decide +kernel
theorem xd_29_1 : decode prog_4_method_14_code 1 = .ok (.getfield 9, 3) := by decide +kernel
theorem xd_29_4 : decode prog_4_method_14_code 4 = .ok (.iconst 5, 1) := by decide +kernel
theorem xd_29_5 : decode prog_4_method_14_code 5 = .ok (.iload_n 1, 1) := by decide +kernel
theorem xd_29_6 : decode prog_4_method_14_code 6 = .ok (.iadd, 1) := by decide +kernel
theorem xd_29_7 : decode prog_4_method_14_code 7 = .ok (.iaload, 1) := by decide +kernel
theorem xd_29_8 : decode prog_4_method_14_code 8 = .ok (.iconst 4, 1) := by decide +kernel
theorem xd_29_9 : decode prog_4_method_14_code 9 = .ok (.irem, 1) := by decide +kernel
theorem xd_29_10 : decode prog_4_method_14_code 10 = .ok (.iconst 1, 1) := by decide +kernel
theorem xd_29_11 : decode prog_4_method_14_code 11 = .ok (.isub, 1) := by decide +kernel
theorem xd_29_12 : decode prog_4_method_14_code 12 = .ok (.ireturn, 1) := by decide +kernel
theorem xk_29_0 : xk_OkA xp_F (xp_P sc) xp_cl xp_BW xp_NW xp_SW xp_exn 29 0 (.aload 0) := Or.inr ⟨0, rfl, xd_29_0, rfl⟩
theorem xk_29_1 : xk_OkA xp_F (xp_P sc) xp_cl xp_BW xp_NW xp_SW xp_exn 29 1 (.getfield 64) := ⟨_, xd_29_1, rfl, ⟨_, _, _, rfl, by decide, xu_2, Or.inl xwt_49⟩⟩
theorem xk_29_2 : xk_OkA xp_F (xp_P sc) xp_cl xp_BW xp_NW xp_SW xp_exn 29 2 (.iconst 5) := Or.inl ⟨xd_29_4, rfl⟩
theorem xk_29_3 : xk_OkA xp_F (xp_P sc) xp_cl xp_BW xp_NW xp_SW xp_exn 29 3 (.iload 1) := Or.inr ⟨1, rfl, xd_29_5, rfl⟩
theorem xk_29_4 : xk_OkA xp_F (xp_P sc) xp_cl xp_BW xp_NW xp_SW xp_exn 29 4 (.iadd) := ⟨xd_29_6, rfl⟩
theorem xk_29_5 : xk_OkA xp_F (xp_P sc) xp_cl xp_BW xp_NW xp_SW xp_exn 29 5 (.iaload) := ⟨xd_29_7, rfl⟩
theorem xk_29_6 : xk_OkA xp_F (xp_P sc) xp_cl xp_BW xp_NW xp_SW xp_exn 29 6 (.iconst 4) := Or.inl ⟨xd_29_8, rfl⟩
theorem xk_29_7 : xk_OkA xp_F (xp_P sc) xp_cl xp_BW xp_NW xp_SW xp_exn 29 7 (.irem) := ⟨xd_29_9, rfl⟩
theorem xk_29_8 : xk_OkA xp_F (xp_P sc) xp_cl xp_BW xp_NW xp_SW xp_exn 29 8 (.iconst 1) := Or.inl ⟨xd_29_10, rfl⟩
theorem xk_29_9 : xk_OkA xp_F (xp_P sc) xp_cl xp_BW xp_NW xp_SW xp_exn 29 9 (.isub) := ⟨xd_29_11, rfl⟩
theorem xk_29_10 : xk_OkA xp_F (xp_P sc) xp_cl xp_BW xp_NW xp_SW xp_exn 29 10 (.ireturn) := ⟨xd_29_12, rfl⟩
theorem xl_29 : xk_OkL xp_F (xp_P sc) xp_cl xp_BW xp_NW xp_SW xp_exn 29 0 xc_29 := ⟨xk_29_0, xk_29_1, xk_29_2, xk_29_3, xk_29_4, xk_29_5, xk_29_6, xk_29_7, xk_29_8, xk_29_9, xk_29_10, trivial⟩
theorem xd_30_0 : decode prog_4_method_15_code 0 = .ok (.iconst 1, 1) := by decide +kernel
theorem xd_30_1 : decode prog_4_method_15_code 1 = .ok (.aload_n 0, 1) := by decide +kernel
theorem xd_30_2 : decode prog_4_method_15_code 2 = .ok (.getfield 9, 3) := by decide +kernel
theorem xd_30_5 : decode prog_4_method_15_code 5 = .ok (.iconst 5, 1) := by decide +kernel
theorem xd_30_6 : decode prog_4_method_15_code 6 = .ok (.iload_n 1, 1) := by decide +kernel
theorem xd_30_7 : decode prog_4_method_15_code 7 = .ok (.iadd, 1) := by decide +kernel
theorem xd_30_8 : decode prog_4_method_15_code 8 = .ok (.iaload, 1) := by decide +kernel
theorem xd_30_9 : decode prog_4_method_15_code 9 = .ok (.bipush 32, 2) := by decide +kernel
theorem xd_30_11 : decode prog_4_method_15_code 11 = .ok (.irem, 1) := by decide +kernel
theorem xd_30_12 : decode prog_4_method_15_code 12 = .ok (.iconst 4, 1) := by decide +kernel
theorem xd_30_13 : decode prog_4_method_15_code 13 = .ok (.idiv, 1) := by decide +kernel
theorem xd_30_14 : decode prog_4_method_15_code 14 = .ok (.invokestatic 36, 3) := by decide +kernel
theorem xd_30_17 : decode prog_4_method_15_code 17 = .ok (.ireturn, 1) := by decide +kernel
theorem xk_30_0 : xk_OkA xp_F (xp_P sc) xp_cl xp_BW xp_NW xp_SW xp_exn 30 0 (.iconst 1) := Or.inl ⟨xd_30_0, rfl⟩
theorem xk_30_1 : xk_OkA xp_F (xp_P sc) xp_cl xp_BW xp_NW xp_SW xp_exn 30 1 (.aload 0) := Or.inr ⟨0, rfl, xd_30_1, rfl⟩
theorem xk_30_2 : xk_OkA xp_F (xp_P sc) xp_cl xp_BW xp_NW xp_SW xp_exn 30 2 (.getfield 64) := ⟨_, xd_30_2, rfl, ⟨_, _, _, rfl, by decide, xu_2, Or.inl xwt_49⟩⟩
theorem xk_30_3 : xk_OkA xp_F (xp_P sc) xp_cl xp_BW xp_NW xp_SW xp_exn 30 3 (.iconst 5) := Or.inl ⟨xd_30_5, rfl⟩
theorem xk_30_4 : xk_OkA xp_F (xp_P sc) xp_cl xp_BW xp_NW xp_SW xp_exn 30 4 (.iload 1) := Or.inr ⟨1, rfl, xd_30_6, rfl⟩
theorem xk_30_5 : xk_OkA xp_F (xp_P sc) xp_cl xp_BW xp_NW xp_SW xp_exn 30 5 (.iadd) := ⟨xd_30_7, rfl⟩
theorem xk_30_6 : xk_OkA xp_F (xp_P sc) xp_cl xp_BW xp_NW xp_SW xp_exn 30 6 (.iaload) := ⟨xd_30_8, rfl⟩
theorem xk_30_7 : xk_OkA xp_F (xp_P sc) xp_cl xp_BW xp_NW xp_SW xp_exn 30 7 (.iconst 32) := Or.inr (Or.inl ⟨xd_30_9, by decide +kernel, rfl⟩)
theorem xk_30_8 : xk_OkA xp_F (xp_P sc) xp_cl xp_BW xp_NW xp_SW xp_exn 30 8 (.irem) := ⟨xd_30_11, rfl⟩
theorem xk_30_9 : xk_OkA xp_F (xp_P sc) xp_cl xp_BW xp_NW xp_SW xp_exn 30 9 (.iconst 4) := Or.inl ⟨xd_30_12, rfl⟩
theorem xk_30_10 : xk_OkA xp_F (xp_P sc) xp_cl xp_BW xp_NW xp_SW xp_exn 30 10 (.idiv) := ⟨xd_30_13, rfl⟩
theorem xk_30_11 : xk_OkA xp_F (xp_P sc) xp_cl xp_BW xp_NW xp_SW xp_exn 30 11 (.invokedynamic 0) := ⟨_, xd_30_14, rfl, by decide, by decide, Or.inl ⟨rfl, xwt_430, xwt_431, xwt_13, xwt_432⟩⟩
theorem xk_30_12 : xk_OkA xp_F (xp_P sc) xp_cl xp_BW xp_NW xp_SW xp_exn 30 12 (.ireturn) := ⟨xd_30_17, rfl⟩
theorem xl_30 : xk_OkL xp_F (xp_P sc) xp_cl xp_BW xp_NW xp_SW xp_exn 30 0 xc_30 := ⟨xk_30_0, xk_30_1, xk_30_2, xk_30_3, xk_30_4, xk_30_5, xk_30_6, xk_30_7, xk_30_8, xk_30_9, xk_30_10, xk_30_11, xk_30_12, trivial⟩
theorem xd_31_0 : decode prog_4_method_16_code 0 = .ok (.aload_n 0, 1) := by decide +kernel
theorem xd_31_1 : decode prog_4_method_16_code 1 = .ok (.getfield 9, 3) := by decide +kernel
theorem xd_31_4 : decode prog_4_method_16_code 4 = .ok (.iconst 5, 1) := by decide +kernel
theorem xd_31_5 : decode prog_4_method_16_code 5 = .ok (.iload_n 1, 1) := by decide +kernel
theorem xd_31_6 : decode prog_4_method_16_code 6 = .ok (.iadd, 1) := by decide +kernel
theorem xd_31_7 : decode prog_4_method_16_code 7 = .ok (.iaload, 1) := by decide +kernel
theorem xd_31_8 : decode prog_4_method_16_code 8 = .ok (.bipush 32, 2) := by decide +kernel
theorem xd_31_10 : decode prog_4_method_16_code 10 = .ok (.idiv, 1) := by decide +kernel
theorem xd_31_11 : decode prog_4_method_16_code 11 = .ok (.ireturn, 1) := by decide +kernel
theorem xk_31_0 : xk_OkA xp_F (xp_P sc) xp_cl xp_BW xp_NW xp_SW xp_exn 31 0 (.aload 0) := Or.inr ⟨0, rfl, xd_31_0, rfl⟩
theorem xk_31_1 : xk_OkA xp_F (xp_P sc) xp_cl xp_BW xp_NW xp_SW xp_exn 31 1 (.getfield 64) := ⟨_, xd_31_1, rfl, ⟨_, _, _, rfl, by decide, xu_2, Or.inl xwt_49⟩⟩
theorem xk_31_2 : xk_OkA xp_F (xp_P sc) xp_cl xp_BW xp_NW xp_SW xp_exn 31 2 (.iconst 5) := Or.inl ⟨xd_31_4, rfl⟩
theorem xk_31_3 : xk_OkA xp_F (xp_P sc) xp_cl xp_BW xp_NW xp_SW xp_exn 31 3 (.iload 1) := Or.inr ⟨1, rfl, xd_31_5, rfl⟩
theorem xk_31_4 : xk_OkA xp_F (xp_P sc) xp_cl xp_BW xp_NW xp_SW xp_exn 31 4 (.iadd) := ⟨xd_31_6, rfl⟩
theorem xk_31_5 : xk_OkA xp_F (xp_P sc) xp_cl xp_BW xp_NW xp_SW xp_exn 31 5 (.iaload) := ⟨xd_31_7, rfl⟩
theorem xk_31_6 : xk_OkA xp_F (xp_P sc) xp_cl xp_BW xp_NW xp_SW xp_exn 31 6 (.iconst 32) := Or.inr (Or.inl ⟨xd_31_8, by decide +kernel, rfl⟩)
theorem xk_31_7 : xk_OkA xp_F (xp_P sc) xp_cl xp_BW xp_NW xp_SW xp_exn 31 7 (.idiv) := ⟨xd_31_10, rfl⟩
theorem xk_31_8 : xk_OkA xp_F (xp_P sc) xp_cl xp_BW xp_NW xp_SW xp_exn 31 8 (.ireturn) := ⟨xd_31_11, rfl⟩
theorem xl_31 : xk_OkL xp_F (xp_P sc) xp_cl xp_BW xp_NW xp_SW xp_exn 31 0 xc_31 := ⟨xk_31_0, xk_31_1, xk_31_2, xk_31_3, xk_31_4, xk_31_5, xk_31_6, xk_31_7, xk_31_8, trivial⟩
theorem xd_32_0 : decode prog_4_method_17_code 0 = .ok (.aload_n 0, 1) := by decide +kernel
theorem xd_32_1 : decode prog_4_method_17_code 1 = .ok (.getfield 9, 3) := by decide +kernel
theorem xd_32_4 : decode prog_4_method_17_code 4 = .ok (.iconst 5, 1) := by decide +kernel
theorem xd_32_5 : decode prog_4_method_17_code 5 = .ok (.iload_n 1, 1) := by decide +kernel
theorem xd_32_6 : decode prog_4_method_17_code 6 = .ok (.iadd, 1) := by decide +kernel
theorem xd_32_7 : decode prog_4_method_17_code 7 = .ok (.iconst 0, 1) := by decide +kernel
theorem xd_32_8 : decode prog_4_method_17_code 8 = .ok (.iastore, 1) := by decide +kernel
theorem xd_32_9 : decode prog_4_method_17_code 9 = .ok (.aload_n 0, 1) := by decide +kernel
theorem xd_32_10 : decode prog_4_method_17_code 10 = .ok (.iload_n 1, 1) := by decide +kernel
theorem xd_32_11 : decode prog_4_method_17_code 11 = .ok (.iconst 0, 1) := by decide +kernel
theorem xd_32_12 : decode prog_4_method_17_code 12 = .ok (.invokevirtual 42, 3) := by decide +kernel
theorem xd_32_15 : decode prog_4_method_17_code 15 = .ok (.return_, 1) := by decide +kernel
theorem xk_32_0 : xk_OkA xp_F (xp_P sc) xp_cl xp_BW xp_NW xp_SW xp_exn 32 0 (.aload 0) := Or.inr ⟨0, rfl, xd_32_0, rfl⟩
theorem xk_32_1 : xk_OkA xp_F (xp_P sc) xp_cl xp_BW xp_NW xp_SW xp_exn 32 1 (.getfield 64) := ⟨_, xd_32_1, rfl, ⟨_, _, _, rfl, by decide, xu_2, Or.inl xwt_49⟩⟩
theorem xk_32_2 : xk_OkA xp_F (xp_P sc) xp_cl xp_BW xp_NW xp_SW xp_exn 32 2 (.iconst 5) := Or.inl ⟨xd_32_4, rfl⟩
theorem xk_32_3 : xk_OkA xp_F (xp_P sc) xp_cl xp_BW xp_NW xp_SW xp_exn 32 3 (.iload 1) := Or.inr ⟨1, rfl, xd_32_5, rfl⟩
theorem xk_32_4 : xk_OkA xp_F (xp_P sc) xp_cl xp_BW xp_NW xp_SW xp_exn 32 4 (.iadd) := ⟨xd_32_6, rfl⟩
theorem xk_32_5 : xk_OkA xp_F (xp_P sc) xp_cl xp_BW xp_NW xp_SW xp_exn 32 5 (.iconst 0) := Or.inl ⟨xd_32_7, rfl⟩
theorem xk_32_6 : xk_OkA xp_F (xp_P sc) xp_cl xp_BW xp_NW xp_SW xp_exn 32 6 (.iastore) := ⟨xd_32_8, rfl⟩
theorem xk_32_7 : xk_OkA xp_F (xp_P sc) xp_cl xp_BW xp_NW xp_SW xp_exn 32 7 (.aload 0) := Or.inr ⟨0, rfl, xd_32_9, rfl⟩
theorem xk_32_8 : xk_OkA xp_F (xp_P sc) xp_cl xp_BW xp_NW xp_SW xp_exn 32 8 (.iload 1) := Or.inr ⟨1, rfl, xd_32_10, rfl⟩
theorem xk_32_9 : xk_OkA xp_F (xp_P sc) xp_cl xp_BW xp_NW xp_SW xp_exn 32 9 (.iconst 0) := Or.inl ⟨xd_32_11, rfl⟩
theorem xk_32_10 : xk_OkA xp_F (xp_P sc) xp_cl xp_BW xp_NW xp_SW xp_exn 32 10 (.invokeinterface 33 3) := ⟨rfl, Or.inl ⟨xwt_509, rfl⟩, rfl, rfl, xwt_3, by decide +kernel, by decide +kernel, Nat.le_of_ble_eq_true rfl, _, Or.inl xwt_522, Or.inr ⟨xd_32_12, xwt_508, xws_48, ⟨_, _, _, rfl, rfl⟩, by decide +kernel⟩⟩
theorem xk_32_11 : xk_OkA xp_F (xp_P sc) xp_cl xp_BW xp_NW xp_SW xp_exn 32 11 (.return_) := ⟨xd_32_15, rfl⟩
theorem xl_32 : xk_OkL xp_F (xp_P sc) xp_cl xp_BW xp_NW xp_SW xp_exn 32 0 xc_32 := ⟨xk_32_0, xk_32_1, xk_32_2, xk_32_3, xk_32_4, xk_32_5, xk_32_6, xk_32_7, xk_32_8, xk_32_9, xk_32_10, xk_32_11, trivial⟩
theorem xd_33_0 : decode prog_4_method_18_code 0 = .ok (.iload_n 1, 1) := by decide +kernel
theorem xd_33_1 : decode prog_4_method_18_code 1 = .ok (.iload_n 2, 1) := by decide +kernel
theorem xd_33_2 : decode prog_4_method_18_code 2 = .ok (.iconst 0, 1) := by decide +kernel
theorem xd_33_3 : decode prog_4_method_18_code 3 = .ok (.invokestatic 46, 3) := by decide +kernel
theorem xd_33_6 : decode prog_4_method_18_code 6 = .ok (.istore_n 3, 1) := by decide +kernel
theorem xd_33_7 : decode prog_4_method_18_code 7 = .ok (.iload_n 3, 1) := by decide +kernel
theorem xd_33_8 : decode prog_4_method_18_code 8 = .ok (.iload_n 1, 1) := by decide +kernel
theorem xd_33_9 : decode prog_4_method_18_code 9 = .ok (.iconst 1, 1) := by decide +kernel
theorem xd_33_10 : decode prog_4_method_18_code 10 = .ok (.iadd, 1) := by decide +kernel
theorem xd_33_11 : decode prog_4_method_18_code 11 = .ok (.iconst 0, 1) := by decide +kernel
theorem xd_33_12 : decode prog_4_method_18_code 12 = .ok (.iconst 0, 1) := by decide +kernel
theorem xd_33_13 : decode prog_4_method_18_code 13 = .ok (.invokestatic 46, 3) := by decide +kernel
theorem xd_33_16 : decode prog_4_method_18_code 16 = .ok (.if_icmp .ge 15, 3) := by decide +kernel
theorem xd_33_19 : decode prog_4_method_18_code 19 = .ok (.aload_n 0, 1) := by decide +kernel
theorem xd_33_20 : decode prog_4_method_18_code 20 = .ok (.iload_n 3, 1) := by decide +kernel
theorem xd_33_21 : decode prog_4_method_18_code 21 = .ok (.iconst (-1), 1) := by decide +kernel
theorem xd_33_22 : decode prog_4_method_18_code 22 = .ok (.invokevirtual 50, 3) := by decide +kernel
theorem xd_33_25 : decode prog_4_method_18_code 25 = .ok (.iinc 3 (1), 3) := by decide +kernel
theorem xd_33_28 : decode prog_4_method_18_code 28 = .ok (.goto (-21), 3) := by decide +kernel
theorem xd_33_31 : decode prog_4_method_18_code 31 = .ok (.return_, 1) := by decide +kernel
theorem xk_33_0 : xk_OkA xp_F (xp_P sc) xp_cl xp_BW xp_NW xp_SW xp_exn 33 0 (.iload 1) := Or.inr ⟨1, rfl, xd_33_0, rfl⟩
theorem xk_33_1 : xk_OkA xp_F (xp_P sc) xp_cl xp_BW xp_NW xp_SW xp_exn 33 1 (.iload 2) := Or.inr ⟨2, rfl, xd_33_1, rfl⟩
theorem xk_33_2 : xk_OkA xp_F (xp_P sc) xp_cl xp_BW xp_NW xp_SW xp_exn 33 2 (.iconst 0) := Or.inl ⟨xd_33_2, rfl⟩
theorem xk_33_3 : xk_OkA xp_F (xp_P sc) xp_cl xp_BW xp_NW xp_SW xp_exn 33 3 (.invokeinterface 74 3) := ⟨rfl, Or.inl ⟨xwt_435, rfl⟩, rfl, rfl, xwt_1, by decide +kernel, by decide +kernel, Nat.le_of_ble_eq_true rfl, _, Or.inr ⟨_, xwn_510⟩, Or.inl ⟨xd_33_3, xwt_434, rfl, by decide +kernel⟩⟩
theorem xk_33_4 : xk_OkA xp_F (xp_P sc) xp_cl xp_BW xp_NW xp_SW xp_exn 33 4 (.istore 3) := Or.inr ⟨3, rfl, xd_33_6, rfl⟩
theorem xk_33_5 : xk_OkA xp_F (xp_P sc) xp_cl xp_BW xp_NW xp_SW xp_exn 33 5 (.iload 3) := Or.inr ⟨3, rfl, xd_33_7, rfl⟩
theorem xk_33_6 : xk_OkA xp_F (xp_P sc) xp_cl xp_BW xp_NW xp_SW xp_exn 33 6 (.iload 1) := Or.inr ⟨1, rfl, xd_33_8, rfl⟩
theorem xk_33_7 : xk_OkA xp_F (xp_P sc) xp_cl xp_BW xp_NW xp_SW xp_exn 33 7 (.iconst 1) := Or.inl ⟨xd_33_9, rfl⟩
theorem xk_33_8 : xk_OkA xp_F (xp_P sc) xp_cl xp_BW xp_NW xp_SW xp_exn 33 8 (.iadd) := ⟨xd_33_10, rfl⟩
theorem xk_33_9 : xk_OkA xp_F (xp_P sc) xp_cl xp_BW xp_NW xp_SW xp_exn 33 9 (.iconst 0) := Or.inl ⟨xd_33_11, rfl⟩
theorem xk_33_10 : xk_OkA xp_F (xp_P sc) xp_cl xp_BW xp_NW xp_SW xp_exn 33 10 (.iconst 0) := Or.inl ⟨xd_33_12, rfl⟩
theorem xk_33_11 : xk_OkA xp_F (xp_P sc) xp_cl xp_BW xp_NW xp_SW xp_exn 33 11 (.invokeinterface 74 3) := ⟨rfl, Or.inl ⟨xwt_435, rfl⟩, rfl, rfl, xwt_1, by decide +kernel, by decide +kernel, Nat.le_of_ble_eq_true rfl, _, Or.inr ⟨_, xwn_510⟩, Or.inl ⟨xd_33_13, xwt_434, rfl, by decide +kernel⟩⟩
theorem xk_33_12 : xk_OkA xp_F (xp_P sc) xp_cl xp_BW xp_NW xp_SW xp_exn 33 12 (.if_icmp .ge 19) := ⟨_, xd_33_16, by unfold xf_to; decide +kernel, rfl⟩
theorem xk_33_13 : xk_OkA xp_F (xp_P sc) xp_cl xp_BW xp_NW xp_SW xp_exn 33 13 (.aload 0) := Or.inr ⟨0, rfl, xd_33_19, rfl⟩
theorem xk_33_14 : xk_OkA xp_F (xp_P sc) xp_cl xp_BW xp_NW xp_SW xp_exn 33 14 (.iload 3) := Or.inr ⟨3, rfl, xd_33_20, rfl⟩
theorem xk_33_15 : xk_OkA xp_F (xp_P sc) xp_cl xp_BW xp_NW xp_SW xp_exn 33 15 (.iconst (-1)) := Or.inl ⟨xd_33_21, rfl⟩
theorem xk_33_16 : xk_OkA xp_F (xp_P sc) xp_cl xp_BW xp_NW xp_SW xp_exn 33 16 (.invokeinterface 35 3) := ⟨rfl, Or.inl ⟨xwt_374, rfl⟩, rfl, rfl, xwt_3, by decide +kernel, by decide +kernel, Nat.le_of_ble_eq_true rfl, _, Or.inl xwt_371, Or.inr ⟨xd_33_22, xwt_373, xws_29, ⟨_, _, _, rfl, rfl⟩, by decide +kernel⟩⟩
theorem xk_33_17 : xk_OkA xp_F (xp_P sc) xp_cl xp_BW xp_NW xp_SW xp_exn 33 17 (.iinc 3 (1)) := ⟨xd_33_25, rfl⟩
theorem xk_33_18 : xk_OkA xp_F (xp_P sc) xp_cl xp_BW xp_NW xp_SW xp_exn 33 18 (.goto 5) := ⟨_, xd_33_28, by unfold xf_to; decide +kernel⟩
theorem xk_33_19 : xk_OkA xp_F (xp_P sc) xp_cl xp_BW xp_NW xp_SW xp_exn 33 19 (.return_) := ⟨xd_33_31, rfl⟩
theorem xl_33 : xk_OkL xp_F (xp_P sc) xp_cl xp_BW xp_NW xp_SW xp_exn 33 0 xc_33 := ⟨xk_33_0, xk_33_1, xk_33_2, xk_33_3, xk_33_4, xk_33_5, xk_33_6, xk_33_7, xk_33_8, xk_33_9, xk_33_10, xk_33_11, xk_33_12, xk_33_13, xk_33_14, xk_33_15, xk_33_16, xk_33_17, xk_33_18, xk_33_19, trivial⟩
theorem xd_34_0 : decode prog_4_method_19_code 0 = .ok (.aload_n 0, 1) := by decide +kernel
theorem xd_34_1 : decode prog_4_method_19_code 1 = .ok (.getfield 9, 3) := by decide +kernel
theorem xd_34_4 : decode prog_4_method_19_code 4 = .ok (.bipush 9, 2) := by decide +kernel
theorem xd_34_6 : decode prog_4_method_19_code 6 = .ok (.iload_n 1, 1) := by decide +kernel
theorem xd_34_7 : decode prog_4_method_19_code 7 = .ok (.iadd, 1) := by decide +kernel
theorem xd_34_8 : decode prog_4_method_19_code 8 = .ok (.iaload, 1) := by decide +kernel
theorem xd_34_9 : decode prog_4_method_19_code 9 = .ok (.iconst 1, 1) := by decide +kernel
theorem xd_34_10 : decode prog_4_method_19_code 10 = .ok (.isub, 1) := by decide +kernel
theorem xd_34_11 : decode prog_4_method_19_code 11 = .ok (.ireturn, 1) := by decide +kernel
theorem xk_34_0 : xk_OkA xp_F (xp_P sc) xp_cl xp_BW xp_NW xp_SW xp_exn 34 0 (.aload 0) := Or.inr ⟨0, rfl, xd_34_0, rfl⟩
theorem xk_34_1 : xk_OkA xp_F (xp_P sc) xp_cl xp_BW xp_NW xp_SW xp_exn 34 1 (.getfield 64) := ⟨_, xd_34_1, rfl, ⟨_, _, _, rfl, by decide, xu_2, Or.inl xwt_49⟩⟩
theorem xk_34_2 : xk_OkA xp_F (xp_P sc) xp_cl xp_BW xp_NW xp_SW xp_exn 34 2 (.iconst 9) := Or.inr (Or.inl ⟨xd_34_4, by decide +kernel, rfl⟩)
theorem xk_34_3 : xk_OkA xp_F (xp_P sc) xp_cl xp_BW xp_NW xp_SW xp_exn 34 3 (.iload 1) := Or.inr ⟨1, rfl, xd_34_6, rfl⟩
theorem xk_34_4 : xk_OkA xp_F (xp_P sc) xp_cl xp_BW xp_NW xp_SW xp_exn 34 4 (.iadd) := ⟨xd_34_7, rfl⟩
theorem xk_34_5 : xk_OkA xp_F (xp_P sc) xp_cl xp_BW xp_NW xp_SW xp_exn 34 5 (.iaload) := ⟨xd_34_8, rfl⟩
theorem xk_34_6 : xk_OkA xp_F (xp_P sc) xp_cl xp_BW xp_NW xp_SW xp_exn 34 6 (.iconst 1) := Or.inl ⟨xd_34_9, rfl⟩
theorem xk_34_7 : xk_OkA xp_F (xp_P sc) xp_cl xp_BW xp_NW xp_SW xp_exn 34 7 (.isub) := ⟨xd_34_10, rfl⟩
theorem xk_34_8 : xk_OkA xp_F (xp_P sc) xp_cl xp_BW xp_NW xp_SW xp_exn 34 8 (.ireturn) := ⟨xd_34_11, rfl⟩
theorem xl_34 : xk_OkL xp_F (xp_P sc) xp_cl xp_BW xp_NW xp_SW xp_exn 34 0 xc_34 := ⟨xk_34_0, xk_34_1, xk_34_2, xk_34_3, xk_34_4, xk_34_5, xk_34_6, xk_34_7, xk_34_8, trivial⟩
theorem xd_35_0 : decode prog_4_method_20_code 0 = .ok (.aload_n 0, 1) := by decide +kernel
theorem xd_35_1 : decode prog_4_method_20_code 1 = .ok (.getfield 9, 3) := by decide +kernel
theorem xd_35_4 : decode prog_4_method_20_code 4 = .ok (.bipush 9, 2) := by decide +kernel
theorem xd_35_6 : decode prog_4_method_20_code 6 = .ok (.iload_n 1, 1) := by decide +kernel
theorem xd_35_7 : decode prog_4_method_20_code 7 = .ok (.iadd, 1) := by decide +kernel
theorem xd_35_8 : decode prog_4_method_20_code 8 = .ok (.iload_n 2, 1) := by decide +kernel
theorem xd_35_9 : decode prog_4_method_20_code 9 = .ok (.iconst 1, 1) := by decide +kernel
theorem xd_35_10 : decode prog_4_method_20_code 10 = .ok (.iadd, 1) := by decide +kernel
theorem xd_35_11 : decode prog_4_method_20_code 11 = .ok (.iastore, 1) := by decide +kernel
theorem xd_35_12 : decode prog_4_method_20_code 12 = .ok (.return_, 1) := by decide +kernel
theorem xk_35_0 : xk_OkA xp_F (xp_P sc) xp_cl xp_BW xp_NW xp_SW xp_exn 35 0 (.aload 0) := Or.inr ⟨0, rfl, xd_35_0, rfl⟩
theorem xk_35_1 : xk_OkA xp_F (xp_P sc) xp_cl xp_BW xp_NW xp_SW xp_exn 35 1 (.getfield 64) := ⟨_, xd_35_1, rfl, ⟨_, _, _, rfl, by decide, xu_2, Or.inl xwt_49⟩⟩
theorem xk_35_2 : xk_OkA xp_F (xp_P sc) xp_cl xp_BW xp_NW xp_SW xp_exn 35 2 (.iconst 9) := Or.inr (Or.inl ⟨xd_35_4, by decide +kernel, rfl⟩)
theorem xk_35_3 : xk_OkA xp_F (xp_P sc) xp_cl xp_BW xp_NW xp_SW xp_exn 35 3 (.iload 1) := Or.inr ⟨1, rfl, xd_35_6, rfl⟩
theorem xk_35_4 : xk_OkA xp_F (xp_P sc) xp_cl xp_BW xp_NW xp_SW xp_exn 35 4 (.iadd) := ⟨xd_35_7, rfl⟩
theorem xk_35_5 : xk_OkA xp_F (xp_P sc) xp_cl xp_BW xp_NW xp_SW xp_exn 35 5 (.iload 2) := Or.inr ⟨2, rfl, xd_35_8, rfl⟩
theorem xk_35_6 : xk_OkA xp_F (xp_P sc) xp_cl xp_BW xp_NW xp_SW xp_exn 35 6 (.iconst 1) := Or.inl ⟨xd_35_9, rfl⟩
theorem xk_35_7 : xk_OkA xp_F (xp_P sc) xp_cl xp_BW xp_NW xp_SW xp_exn 35 7 (.iadd) := ⟨xd_35_10, rfl⟩
theorem xk_35_8 : xk_OkA xp_F (xp_P sc) xp_cl xp_BW xp_NW xp_SW xp_exn 35 8 (.iastore) := ⟨xd_35_11, rfl⟩
theorem xk_35_9 : xk_OkA xp_F (xp_P sc) xp_cl xp_BW xp_NW xp_SW xp_exn 35 9 (.return_) := ⟨xd_35_12, rfl⟩
theorem xl_35 : xk_OkL xp_F (xp_P sc) xp_cl xp_BW xp_NW xp_SW xp_exn 35 0 xc_35 := ⟨xk_35_0, xk_35_1, xk_35_2, xk_35_3, xk_35_4, xk_35_5, xk_35_6, xk_35_7, xk_35_8, xk_35_9, trivial⟩
theorem xd_36_0 : decode prog_4_method_21_code 0 = .ok (.iconst 0, 1) := by decide +kernel
theorem xd_36_1 : decode prog_4_method_21_code 1 = .ok (.istore_n 2, 1) := by decide +kernel
theorem xd_36_2 : decode prog_4_method_21_code 2 = .ok (.iload_n 2, 1) := by decide +kernel
theorem xd_36_3 : decode prog_4_method_21_code 3 = .ok (.bipush 40, 2) := by decide +kernel
theorem xd_36_5 : decode prog_4_method_21_code 5 = .ok (.if_icmp .ge 20, 3) := by decide +kernel
theorem xd_36_8 : decode prog_4_method_21_code 8 = .ok (.aload_n 0, 1) := by decide +kernel
theorem xd_36_9 : decode prog_4_method_21_code 9 = .ok (.iload_n 2, 1) := by decide +kernel
theorem xd_36_10 : decode prog_4_method_21_code 10 = .ok (.invokevirtual 53, 3) := by decide +kernel
theorem xd_36_13 : decode prog_4_method_21_code 13 = .ok (.iload_n 1, 1) := by decide +kernel
theorem xd_36_14 : decode prog_4_method_21_code 14 = .ok (.if_icmp .ne 5, 3) := by decide +kernel
theorem xd_36_17 : decode prog_4_method_21_code 17 = .ok (.iconst 1, 1) := by decide +kernel
theorem xd_36_18 : decode prog_4_method_21_code 18 = .ok (.ireturn, 1) := by decide +kernel
theorem xd_36_19 : decode prog_4_method_21_code 19 = .ok (.iinc 2 (1), 3) := by decide +kernel
theorem xd_36_22 : decode prog_4_method_21_code 22 = .ok (.goto (-20), 3) := by decide +kernel
theorem xd_36_25 : decode prog_4_method_21_code 25 = .ok (.iconst 0, 1) := by decide +kernel
theorem xd_36_26 : decode prog_4_method_21_code 26 = .ok (.ireturn, 1) := by decide +kernel
theorem xk_36_0 : xk_OkA xp_F (xp_P sc) xp_cl xp_BW xp_NW xp_SW xp_exn 36 0 (.iconst 0) := Or.inl ⟨xd_36_0, rfl⟩
theorem xk_36_1 : xk_OkA xp_F (xp_P sc) xp_cl xp_BW xp_NW xp_SW xp_exn 36 1 (.istore 2) := Or.inr ⟨2, rfl, xd_36_1, rfl⟩
theorem xk_36_2 : xk_OkA xp_F (xp_P sc) xp_cl xp_BW xp_NW xp_SW xp_exn 36 2 (.iload 2) := Or.inr ⟨2, rfl, xd_36_2, rfl⟩
theorem xk_36_3 : xk_OkA xp_F (xp_P sc) xp_cl xp_BW xp_NW xp_SW xp_exn 36 3 (.iconst 40) := Or.inr (Or.inl ⟨xd_36_3, by decide +kernel, rfl⟩)
theorem xk_36_4 : xk_OkA xp_F (xp_P sc) xp_cl xp_BW xp_NW xp_SW xp_exn 36 4 (.if_icmp .ge 14) := ⟨_, xd_36_5, by unfold xf_to; decide +kernel, rfl⟩
theorem xk_36_5 : xk_OkA xp_F (xp_P sc) xp_cl xp_BW xp_NW xp_SW xp_exn 36 5 (.aload 0) := Or.inr ⟨0, rfl, xd_36_8, rfl⟩
theorem xk_36_6 : xk_OkA xp_F (xp_P sc) xp_cl xp_BW xp_NW xp_SW xp_exn 36 6 (.iload 2) := Or.inr ⟨2, rfl, xd_36_9, rfl⟩
theorem xk_36_7 : xk_OkA xp_F (xp_P sc) xp_cl xp_BW xp_NW xp_SW xp_exn 36 7 (.invokeinterface 34 2) := ⟨rfl, Or.inl ⟨xwt_322, rfl⟩, rfl, rfl, xwt_3, by decide +kernel, by decide +kernel, Nat.le_of_ble_eq_true rfl, _, Or.inl xwt_343, Or.inr ⟨xd_36_10, xwt_321, xws_22, ⟨_, _, _, rfl, rfl⟩, by decide +kernel⟩⟩
theorem xk_36_8 : xk_OkA xp_F (xp_P sc) xp_cl xp_BW xp_NW xp_SW xp_exn 36 8 (.iload 1) := Or.inr ⟨1, rfl, xd_36_13, rfl⟩
theorem xk_36_9 : xk_OkA xp_F (xp_P sc) xp_cl xp_BW xp_NW xp_SW xp_exn 36 9 (.if_icmp .ne 12) := ⟨_, xd_36_14, by unfold xf_to; decide +kernel, rfl⟩
theorem xk_36_10 : xk_OkA xp_F (xp_P sc) xp_cl xp_BW xp_NW xp_SW xp_exn 36 10 (.iconst 1) := Or.inl ⟨xd_36_17, rfl⟩
theorem xk_36_11 : xk_OkA xp_F (xp_P sc) xp_cl xp_BW xp_NW xp_SW xp_exn 36 11 (.freturn) := ⟨xd_36_18, rfl⟩
theorem xk_36_12 : xk_OkA xp_F (xp_P sc) xp_cl xp_BW xp_NW xp_SW xp_exn 36 12 (.iinc 2 (1)) := ⟨xd_36_19, rfl⟩
theorem xk_36_13 : xk_OkA xp_F (xp_P sc) xp_cl xp_BW xp_NW xp_SW xp_exn 36 13 (.goto 2) := ⟨_, xd_36_22, by unfold xf_to; decide +kernel⟩
theorem xk_36_14 : xk_OkA xp_F (xp_P sc) xp_cl xp_BW xp_NW xp_SW xp_exn 36 14 (.iconst 0) := Or.inl ⟨xd_36_25, rfl⟩
theorem xk_36_15 : xk_OkA xp_F (xp_P sc) xp_cl xp_BW xp_NW xp_SW xp_exn 36 15 (.freturn) := ⟨xd_36_26, rfl⟩
theorem xl_36 : xk_OkL xp_F (xp_P sc) xp_cl xp_BW xp_NW xp_SW xp_exn 36 0 xc_36 := ⟨xk_36_0, xk_36_1, xk_36_2, xk_36_3, xk_36_4, xk_36_5, xk_36_6, xk_36_7, xk_36_8, xk_36_9, xk_36_10, xk_36_11, xk_36_12, xk_36_13, xk_36_14, xk_36_15, trivial⟩
theorem xd_37_0 : decode prog_4_method_22_code 0 = .ok (.iconst 0, 1) := by decide +kernel
theorem xd_37_1 : decode prog_4_method_22_code 1 = .ok (.istore_n 2, 1) := by decide +kernel
theorem xd_37_2 : decode prog_4_method_22_code 2 = .ok (.iconst 0, 1) := by decide +kernel
theorem xd_37_3 : decode prog_4_method_22_code 3 = .ok (.istore_n 3, 1) := by decide +kernel
theorem xd_37_4 : decode prog_4_method_22_code 4 = .ok (.iload_n 3, 1) := by decide +kernel
theorem xd_37_5 : decode prog_4_method_22_code 5 = .ok (.bipush 40, 2) := by decide +kernel
theorem xd_37_7 : decode prog_4_method_22_code 7 = .ok (.if_icmp .ge 24, 3) := by decide +kernel
theorem xd_37_10 : decode prog_4_method_22_code 10 = .ok (.aload_n 0, 1) := by decide +kernel
theorem xd_37_11 : decode prog_4_method_22_code 11 = .ok (.iload_n 3, 1) := by decide +kernel
theorem xd_37_12 : decode prog_4_method_22_code 12 = .ok (.invokevirtual 53, 3) := by decide +kernel
theorem xd_37_15 : decode prog_4_method_22_code 15 = .ok (.invokestatic 56, 3) := by decide +kernel
theorem xd_37_18 : decode prog_4_method_22_code 18 = .ok (.iload_n 1, 1) := by decide +kernel
theorem xd_37_19 : decode prog_4_method_22_code 19 = .ok (.if_icmp .ne 6, 3) := by decide +kernel
theorem xd_37_22 : decode prog_4_method_22_code 22 = .ok (.iinc 2 (1), 3) := by decide +kernel
theorem xd_37_25 : decode prog_4_method_22_code 25 = .ok (.iinc 3 (1), 3) := by decide +kernel
theorem xd_37_28 : decode prog_4_method_22_code 28 = .ok (.goto (-24), 3) := by decide +kernel
theorem xd_37_31 : decode prog_4_method_22_code 31 = .ok (.iload_n 2, 1) := by decide +kernel
theorem xd_37_32 : decode prog_4_method_22_code 32 = .ok (.ireturn, 1) := by decide +kernel
theorem xk_37_0 : xk_OkA xp_F (xp_P sc) xp_cl xp_BW xp_NW xp_SW xp_exn 37 0 (.iconst 0) := Or.inl ⟨xd_37_0, rfl⟩
theorem xk_37_1 : xk_OkA xp_F (xp_P sc) xp_cl xp_BW xp_NW xp_SW xp_exn 37 1 (.istore 2) := Or.inr ⟨2, rfl, xd_37_1, rfl⟩
theorem xk_37_2 : xk_OkA xp_F (xp_P sc) xp_cl xp_BW xp_NW xp_SW xp_exn 37 2 (.iconst 0) := Or.inl ⟨xd_37_2, rfl⟩
theorem xk_37_3 : xk_OkA xp_F (xp_P sc) xp_cl xp_BW xp_NW xp_SW xp_exn 37 3 (.istore 3) := Or.inr ⟨3, rfl, xd_37_3, rfl⟩
theorem xk_37_4 : xk_OkA xp_F (xp_P sc) xp_cl xp_BW xp_NW xp_SW xp_exn 37 4 (.iload 3) := Or.inr ⟨3, rfl, xd_37_4, rfl⟩
theorem xk_37_5 : xk_OkA xp_F (xp_P sc) xp_cl xp_BW xp_NW xp_SW xp_exn 37 5 (.iconst 40) := Or.inr (Or.inl ⟨xd_37_5, by decide +kernel, rfl⟩)
theorem xk_37_6 : xk_OkA xp_F (xp_P sc) xp_cl xp_BW xp_NW xp_SW xp_exn 37 6 (.if_icmp .ge 16) := ⟨_, xd_37_7, by unfold xf_to; decide +kernel, rfl⟩
theorem xk_37_7 : xk_OkA xp_F (xp_P sc) xp_cl xp_BW xp_NW xp_SW xp_exn 37 7 (.aload 0) := Or.inr ⟨0, rfl, xd_37_10, rfl⟩
theorem xk_37_8 : xk_OkA xp_F (xp_P sc) xp_cl xp_BW xp_NW xp_SW xp_exn 37 8 (.iload 3) := Or.inr ⟨3, rfl, xd_37_11, rfl⟩
theorem xk_37_9 : xk_OkA xp_F (xp_P sc) xp_cl xp_BW xp_NW xp_SW xp_exn 37 9 (.invokeinterface 34 2) := ⟨rfl, Or.inl ⟨xwt_322, rfl⟩, rfl, rfl, xwt_3, by decide +kernel, by decide +kernel, Nat.le_of_ble_eq_true rfl, _, Or.inl xwt_343, Or.inr ⟨xd_37_12, xwt_321, xws_22, ⟨_, _, _, rfl, rfl⟩, by decide +kernel⟩⟩
theorem xk_37_10 : xk_OkA xp_F (xp_P sc) xp_cl xp_BW xp_NW xp_SW xp_exn 37 10 (.invokeinterface 75 1) := ⟨rfl, Or.inl ⟨xwt_346, rfl⟩, rfl, rfl, xwt_1, by decide +kernel, by decide +kernel, Nat.le_of_ble_eq_true rfl, _, Or.inr ⟨_, xwn_344⟩, Or.inl ⟨xd_37_15, xwt_345, rfl, by decide +kernel⟩⟩
theorem xk_37_11 : xk_OkA xp_F (xp_P sc) xp_cl xp_BW xp_NW xp_SW xp_exn 37 11 (.iload 1) := Or.inr ⟨1, rfl, xd_37_18, rfl⟩
theorem xk_37_12 : xk_OkA xp_F (xp_P sc) xp_cl xp_BW xp_NW xp_SW xp_exn 37 12 (.if_icmp .ne 14) := ⟨_, xd_37_19, by unfold xf_to; decide +kernel, rfl⟩
theorem xk_37_13 : xk_OkA xp_F (xp_P sc) xp_cl xp_BW xp_NW xp_SW xp_exn 37 13 (.iinc 2 (1)) := ⟨xd_37_22, rfl⟩
theorem xk_37_14 : xk_OkA xp_F (xp_P sc) xp_cl xp_BW xp_NW xp_SW xp_exn 37 14 (.iinc 3 (1)) := ⟨xd_37_25, rfl⟩
theorem xk_37_15 : xk_OkA xp_F (xp_P sc) xp_cl xp_BW xp_NW xp_SW xp_exn 37 15 (.goto 4) := ⟨_, xd_37_28, by unfold xf_to; decide +kernel⟩
theorem xk_37_16 : xk_OkA xp_F (xp_P sc) xp_cl xp_BW xp_NW xp_SW xp_exn 37 16 (.iload 2) := Or.inr ⟨2, rfl, xd_37_31, rfl⟩
theorem xk_37_17 : xk_OkA xp_F (xp_P sc) xp_cl xp_BW xp_NW xp_SW xp_exn 37 17 (.ireturn) := ⟨xd_37_32, rfl⟩
theorem xl_37 : xk_OkL xp_F (xp_P sc) xp_cl xp_BW xp_NW xp_SW xp_exn 37 0 xc_37 := ⟨xk_37_0, xk_37_1, xk_37_2, xk_37_3, xk_37_4, xk_37_5, xk_37_6, xk_37_7, xk_37_8, xk_37_9, xk_37_10, xk_37_11, xk_37_12, xk_37_13, xk_37_14, xk_37_15, xk_37_16, xk_37_17, trivial⟩
theorem xd_38_0 : decode prog_4_method_23_code 0 = .ok (.iconst 0, 1) := by decide +kernel
theorem xd_38_1 : decode prog_4_method_23_code 1 = .ok (.istore_n 2, 1) := by decide +kernel
theorem xd_38_2 : decode prog_4_method_23_code 2 = .ok (.iload_n 2, 1) := by decide +kernel
theorem xd_38_3 : decode prog_4_method_23_code 3 = .ok (.bipush 40, 2) := by decide +kernel
theorem xd_38_5 : decode prog_4_method_23_code 5 = .ok (.if_icmp .ge 23, 3) := by decide +kernel
theorem xd_38_8 : decode prog_4_method_23_code 8 = .ok (.aload_n 0, 1) := by decide +kernel
theorem xd_38_9 : decode prog_4_method_23_code 9 = .ok (.iload_n 2, 1) := by decide +kernel
theorem xd_38_10 : decode prog_4_method_23_code 10 = .ok (.invokevirtual 53, 3) := by decide +kernel
theorem xd_38_13 : decode prog_4_method_23_code 13 = .ok (.invokestatic 56, 3) := by decide +kernel
theorem xd_38_16 : decode prog_4_method_23_code 16 = .ok (.iload_n 1, 1) := by decide +kernel
theorem xd_38_17 : decode prog_4_method_23_code 17 = .ok (.if_icmp .ne 5, 3) := by decide +kernel
theorem xd_38_20 : decode prog_4_method_23_code 20 = .ok (.iload_n 2, 1) := by decide +kernel
theorem xd_38_21 : decode prog_4_method_23_code 21 = .ok (.ireturn, 1) := by decide +kernel
theorem xd_38_22 : decode prog_4_method_23_code 22 = .ok (.iinc 2 (1), 3) := by decide +kernel
theorem xd_38_25 : decode prog_4_method_23_code 25 = .ok (.goto (-23), 3) := by decide +kernel
theorem xd_38_28 : decode prog_4_method_23_code 28 = .ok (.iconst (-1), 1) := by decide +kernel
theorem xd_38_29 : decode prog_4_method_23_code 29 = .ok (.ireturn, 1) := by decide +kernel
theorem xk_38_0 : xk_OkA xp_F (xp_P sc) xp_cl xp_BW xp_NW xp_SW xp_exn 38 0 (.iconst 0) := Or.inl ⟨xd_38_0, rfl⟩
theorem xk_38_1 : xk_OkA xp_F (xp_P sc) xp_cl xp_BW xp_NW xp_SW xp_exn 38 1 (.istore 2) := Or.inr ⟨2, rfl, xd_38_1, rfl⟩
theorem xk_38_2 : xk_OkA xp_F (xp_P sc) xp_cl xp_BW xp_NW xp_SW xp_exn 38 2 (.iload 2) := Or.inr ⟨2, rfl, xd_38_2, rfl⟩
theorem xk_38_3 : xk_OkA xp_F (xp_P sc) xp_cl xp_BW xp_NW xp_SW xp_exn 38 3 (.iconst 40) := Or.inr (Or.inl ⟨xd_38_3, by decide +kernel, rfl⟩)
theorem xk_38_4 : xk_OkA xp_F (xp_P sc) xp_cl xp_BW xp_NW xp_SW xp_exn 38 4 (.if_icmp .ge 15) := ⟨_, xd_38_5, by unfold xf_to; decide +kernel, rfl⟩
theorem xk_38_5 : xk_OkA xp_F (xp_P sc) xp_cl xp_BW xp_NW xp_SW xp_exn 38 5 (.aload 0) := Or.inr ⟨0, rfl, xd_38_8, rfl⟩
theorem xk_38_6 : xk_OkA xp_F (xp_P sc) xp_cl xp_BW xp_NW xp_SW xp_exn 38 6 (.iload 2) := Or.inr ⟨2, rfl, xd_38_9, rfl⟩
theorem xk_38_7 : xk_OkA xp_F (xp_P sc) xp_cl xp_BW xp_NW xp_SW xp_exn 38 7 (.invokeinterface 34 2) := ⟨rfl, Or.inl ⟨xwt_322, rfl⟩, rfl, rfl, xwt_3, by decide +kernel, by decide +kernel, Nat.le_of_ble_eq_true rfl, _, Or.inl xwt_343, Or.inr ⟨xd_38_10, xwt_321, xws_22, ⟨_, _, _, rfl, rfl⟩, by decide +kernel⟩⟩
theorem xk_38_8 : xk_OkA xp_F (xp_P sc) xp_cl xp_BW xp_NW xp_SW xp_exn 38 8 (.invokeinterface 75 1) := ⟨rfl, Or.inl ⟨xwt_346, rfl⟩, rfl, rfl, xwt_1, by decide +kernel, by decide +kernel, Nat.le_of_ble_eq_true rfl, _, Or.inr ⟨_, xwn_344⟩, Or.inl ⟨xd_38_13, xwt_345, rfl, by decide +kernel⟩⟩
theorem xk_38_9 : xk_OkA xp_F (xp_P sc) xp_cl xp_BW xp_NW xp_SW xp_exn 38 9 (.iload 1) := Or.inr ⟨1, rfl, xd_38_16, rfl⟩
theorem xk_38_10 : xk_OkA xp_F (xp_P sc) xp_cl xp_BW xp_NW xp_SW xp_exn 38 10 (.if_icmp .ne 13) := ⟨_, xd_38_17, by unfold xf_to; decide +kernel, rfl⟩
theorem xk_38_11 : xk_OkA xp_F (xp_P sc) xp_cl xp_BW xp_NW xp_SW xp_exn 38 11 (.iload 2) := Or.inr ⟨2, rfl, xd_38_20, rfl⟩
theorem xk_38_12 : xk_OkA xp_F (xp_P sc) xp_cl xp_BW xp_NW xp_SW xp_exn 38 12 (.ireturn) := ⟨xd_38_21, rfl⟩
theorem xk_38_13 : xk_OkA xp_F (xp_P sc) xp_cl xp_BW xp_NW xp_SW xp_exn 38 13 (.iinc 2 (1)) := ⟨xd_38_22, rfl⟩
theorem xk_38_14 : xk_OkA xp_F (xp_P sc) xp_cl xp_BW xp_NW xp_SW xp_exn 38 14 (.goto 2) := ⟨_, xd_38_25, by unfold xf_to; decide +kernel⟩
theorem xk_38_15 : xk_OkA xp_F (xp_P sc) xp_cl xp_BW xp_NW xp_SW xp_exn 38 15 (.iconst (-1)) := Or.inl ⟨xd_38_28, rfl⟩
theorem xk_38_16 : xk_OkA xp_F (xp_P sc) xp_cl xp_BW xp_NW xp_SW xp_exn 38 16 (.ireturn) := ⟨xd_38_29, rfl⟩
theorem xl_38 : xk_OkL xp_F (xp_P sc) xp_cl xp_BW xp_NW xp_SW xp_exn 38 0 xc_38 := ⟨xk_38_0, xk_38_1, xk_38_2, xk_38_3, xk_38_4, xk_38_5, xk_38_6, xk_38_7, xk_38_8, xk_38_9, xk_38_10, xk_38_11, xk_38_12, xk_38_13, xk_38_14, xk_38_15, xk_38_16, trivial⟩
theorem xd_39_0 : decode prog_4_method_24_code 0 = .ok (.iconst 0, 1) := by decide +kernel
theorem xd_39_1 : decode prog_4_method_24_code 1 = .ok (.istore_n 2, 1) := by decide +kernel
theorem xd_39_2 : decode prog_4_method_24_code 2 = .ok (.iload_n 2, 1) := by decide +kernel
theorem xd_39_3 : decode prog_4_method_24_code 3 = .ok (.bipush 40, 2) := by decide +kernel
theorem xd_39_5 : decode prog_4_method_24_code 5 = .ok (.if_icmp .ge 27, 3) := by decide +kernel
theorem xd_39_8 : decode prog_4_method_24_code 8 = .ok (.aload_n 0, 1) := by decide +kernel
theorem xd_39_9 : decode prog_4_method_24_code 9 = .ok (.iload_n 2, 1) := by decide +kernel
theorem xd_39_10 : decode prog_4_method_24_code 10 = .ok (.invokevirtual 53, 3) := by decide +kernel
theorem xd_39_13 : decode prog_4_method_24_code 13 = .ok (.invokestatic 56, 3) := by decide +kernel
theorem xd_39_16 : decode prog_4_method_24_code 16 = .ok (.iload_n 1, 1) := by decide +kernel
theorem xd_39_17 : decode prog_4_method_24_code 17 = .ok (.if_icmp .ne 9, 3) := by decide +kernel
theorem xd_39_20 : decode prog_4_method_24_code 20 = .ok (.aload_n 0, 1) := by decide +kernel
theorem xd_39_21 : decode prog_4_method_24_code 21 = .ok (.iload_n 2, 1) := by decide +kernel
theorem xd_39_22 : decode prog_4_method_24_code 22 = .ok (.iconst (-1), 1) := by decide +kernel
theorem xd_39_23 : decode prog_4_method_24_code 23 = .ok (.invokevirtual 50, 3) := by decide +kernel
theorem xd_39_26 : decode prog_4_method_24_code 26 = .ok (.iinc 2 (1), 3) := by decide +kernel
theorem xd_39_29 : decode prog_4_method_24_code 29 = .ok (.goto (-27), 3) := by decide +kernel
theorem xd_39_32 : decode prog_4_method_24_code 32 = .ok (.return_, 1) := by decide +kernel
theorem xk_39_0 : xk_OkA xp_F (xp_P sc) xp_cl xp_BW xp_NW xp_SW xp_exn 39 0 (.iconst 0) := Or.inl ⟨xd_39_0, rfl⟩
theorem xk_39_1 : xk_OkA xp_F (xp_P sc) xp_cl xp_BW xp_NW xp_SW xp_exn 39 1 (.istore 2) := Or.inr ⟨2, rfl, xd_39_1, rfl⟩
theorem xk_39_2 : xk_OkA xp_F (xp_P sc) xp_cl xp_BW xp_NW xp_SW xp_exn 39 2 (.iload 2) := Or.inr ⟨2, rfl, xd_39_2, rfl⟩
theorem xk_39_3 : xk_OkA xp_F (xp_P sc) xp_cl xp_BW xp_NW xp_SW xp_exn 39 3 (.iconst 40) := Or.inr (Or.inl ⟨xd_39_3, by decide +kernel, rfl⟩)
theorem xk_39_4 : xk_OkA xp_F (xp_P sc) xp_cl xp_BW xp_NW xp_SW xp_exn 39 4 (.if_icmp .ge 17) := ⟨_, xd_39_5, by unfold xf_to; decide +kernel, rfl⟩
theorem xk_39_5 : xk_OkA xp_F (xp_P sc) xp_cl xp_BW xp_NW xp_SW xp_exn 39 5 (.aload 0) := Or.inr ⟨0, rfl, xd_39_8, rfl⟩
theorem xk_39_6 : xk_OkA xp_F (xp_P sc) xp_cl xp_BW xp_NW xp_SW xp_exn 39 6 (.iload 2) := Or.inr ⟨2, rfl, xd_39_9, rfl⟩
theorem xk_39_7 : xk_OkA xp_F (xp_P sc) xp_cl xp_BW xp_NW xp_SW xp_exn 39 7 (.invokeinterface 34 2) := ⟨rfl, Or.inl ⟨xwt_322, rfl⟩, rfl, rfl, xwt_3, by decide +kernel, by decide +kernel, Nat.le_of_ble_eq_true rfl, _, Or.inl xwt_343, Or.inr ⟨xd_39_10, xwt_321, xws_22, ⟨_, _, _, rfl, rfl⟩, by decide +kernel⟩⟩
theorem xk_39_8 : xk_OkA xp_F (xp_P sc) xp_cl xp_BW xp_NW xp_SW xp_exn 39 8 (.invokeinterface 75 1) := ⟨rfl, Or.inl ⟨xwt_346, rfl⟩, rfl, rfl, xwt_1, by decide +kernel, by decide +kernel, Nat.le_of_ble_eq_true rfl, _, Or.inr ⟨_, xwn_344⟩, Or.inl ⟨xd_39_13, xwt_345, rfl, by decide +kernel⟩⟩
theorem xk_39_9 : xk_OkA xp_F (xp_P sc) xp_cl xp_BW xp_NW xp_SW xp_exn 39 9 (.iload 1) := Or.inr ⟨1, rfl, xd_39_16, rfl⟩
theorem xk_39_10 : xk_OkA xp_F (xp_P sc) xp_cl xp_BW xp_NW xp_SW xp_exn 39 10 (.if_icmp .ne 15) := ⟨_, xd_39_17, by unfold xf_to; decide +kernel, rfl⟩
theorem xk_39_11 : xk_OkA xp_F (xp_P sc) xp_cl xp_BW xp_NW xp_SW xp_exn 39 11 (.aload 0) := Or.inr ⟨0, rfl, xd_39_20, rfl⟩
theorem xk_39_12 : xk_OkA xp_F (xp_P sc) xp_cl xp_BW xp_NW xp_SW xp_exn 39 12 (.iload 2) := Or.inr ⟨2, rfl, xd_39_21, rfl⟩
theorem xk_39_13 : xk_OkA xp_F (xp_P sc) xp_cl xp_BW xp_NW xp_SW xp_exn 39 13 (.iconst (-1)) := Or.inl ⟨xd_39_22, rfl⟩
theorem xk_39_14 : xk_OkA xp_F (xp_P sc) xp_cl xp_BW xp_NW xp_SW xp_exn 39 14 (.invokeinterface 35 3) := ⟨rfl, Or.inl ⟨xwt_374, rfl⟩, rfl, rfl, xwt_3, by decide +kernel, by decide +kernel, Nat.le_of_ble_eq_true rfl, _, Or.inl xwt_371, Or.inr ⟨xd_39_23, xwt_373, xws_29, ⟨_, _, _, rfl, rfl⟩, by decide +kernel⟩⟩
theorem xk_39_15 : xk_OkA xp_F (xp_P sc) xp_cl xp_BW xp_NW xp_SW xp_exn 39 15 (.iinc 2 (1)) := ⟨xd_39_26, rfl⟩
theorem xk_39_16 : xk_OkA xp_F (xp_P sc) xp_cl xp_BW xp_NW xp_SW xp_exn 39 16 (.goto 2) := ⟨_, xd_39_29, by unfold xf_to; decide +kernel⟩
theorem xk_39_17 : xk_OkA xp_F (xp_P sc) xp_cl xp_BW xp_NW xp_SW xp_exn 39 17 (.return_) := ⟨xd_39_32, rfl⟩
theorem xl_39 : xk_OkL xp_F (xp_P sc) xp_cl xp_BW xp_NW xp_SW xp_exn 39 0 xc_39 := ⟨xk_39_0, xk_39_1, xk_39_2, xk_39_3, xk_39_4, xk_39_5, xk_39_6, xk_39_7, xk_39_8, xk_39_9, xk_39_10, xk_39_11, xk_39_12, xk_39_13, xk_39_14, xk_39_15, xk_39_16, xk_39_17, trivial⟩
theorem xd_40_0 : decode prog_1_method_2_code 0 = .ok (.aload_n 0, 1) := by decide +kernel
theorem xd_40_1 : decode prog_1_method_2_code 1 = .ok (.invokevirtual 41, 3) := by decide +kernel
theorem xd_40_4 : decode prog_1_method_2_code 4 = .ok (.iload_n 1, 1) := by decide +kernel
theorem xd_40_5 : decode prog_1_method_2_code 5 = .ok (.invokestatic 44, 3) := by decide +kernel
theorem xd_40_8 : decode prog_1_method_2_code 8 = .ok (.iload_n 2, 1) := by decide +kernel
theorem xd_40_9 : decode prog_1_method_2_code 9 = .ok (.iconst 2, 1) := by decide +kernel
theorem xd_40_10 : decode prog_1_method_2_code 10 = .ok (.if_icmp .lt 9, 3) := by decide +kernel
theorem xd_40_13 : decode prog_1_method_2_code 13 = .ok (.iload_n 2, 1) := by decide +kernel
theorem xd_40_14 : decode prog_1_method_2_code 14 = .ok (.bipush 8, 2) := by decide +kernel
theorem xd_40_16 : decode prog_1_method_2_code 16 = .ok (.if_icmp .le 13, 3) := by decide +kernel
theorem xd_40_19 : decode prog_1_method_2_code 19 = .ok (.new 48, 3) := by decide +kernel
theorem xd_40_22 : decode prog_1_method_2_code 22 = .ok (.dup, 1) := by decide +kernel
theorem xd_40_23 : decode prog_1_method_2_code 23 = .ok (.ldc 50, 2) := by decide +kernel
theorem xd_40_25 : decode prog_1_method_2_code 25 = .ok (.invokespecial 52, 3) := by decide +kernel
theorem xd_40_28 : decode prog_1_method_2_code 28 = .ok (.athrow, 1) := by decide +kernel
theorem xd_40_29 : decode prog_1_method_2_code 29 = .ok (.aload_n 0, 1) := by decide +kernel
theorem xd_40_30 : decode prog_1_method_2_code 30 = .ok (.getfield 19, 3) := by decide +kernel
theorem xd_40_33 : decode prog_1_method_2_code 33 = .ok (.iload_n 1, 1) := by decide +kernel
theorem xd_40_34 : decode prog_1_method_2_code 34 = .ok (.invokevirtual 55, 3) := by decide +kernel
theorem xd_40_37 : decode prog_1_method_2_code 37 = .ok (.ifCond .ne 14, 3) := by decide +kernel
theorem xd_40_40 : decode prog_1_method_2_code 40 = .ok (.aload_n 0, 1) := by decide +kernel
theorem xd_40_41 : decode prog_1_method_2_code 41 = .ok (.getfield 12, 3) := by decide +kernel
theorem xd_40_44 : decode prog_1_method_2_code 44 = .ok (.iload_n 1, 1) := by decide +kernel
theorem xd_40_45 : decode prog_1_method_2_code 45 = .ok (.invokevirtual 59, 3) := by decide +kernel
theorem xd_40_48 : decode prog_1_method_2_code 48 = .ok (.ifCond .eq 13, 3) := by decide +kernel
theorem xd_40_51 : decode prog_1_method_2_code 51 = .ok (.new 62, 3) := by decide +kernel
theorem xd_40_54 : decode prog_1_method_2_code 54 = .ok (.dup, 1) := by decide +kernel
theorem xd_40_55 : decode prog_1_method_2_code 55 = .ok (.ldc 64, 2) := by decide +kernel
theorem xd_40_57 : decode prog_1_method_2_code 57 = .ok (.invokespecial 66, 3) := by decide +kernel
theorem xd_40_60 : decode prog_1_method_2_code 60 = .ok (.athrow, 1) := by decide +kernel
theorem xd_40_61 : decode prog_1_method_2_code 61 = .ok (.aload_n 0, 1) := by decide +kernel
theorem xd_40_62 : decode prog_1_method_2_code 62 = .ok (.invokevirtual 67, 3) := by decide +kernel
theorem xd_40_65 : decode prog_1_method_2_code 65 = .ok (.aload_n 0, 1) := by decide +kernel
theorem xd_40_66 : decode prog_1_method_2_code 66 = .ok (.getfield 12, 3) := by decide +kernel
theorem xd_40_69 : decode prog_1_method_2_code 69 = .ok (.iload_n 1, 1) := by decide +kernel
theorem xd_40_70 : decode prog_1_method_2_code 70 = .ok (.invokevirtual 70, 3) := by decide +kernel
theorem xd_40_73 : decode prog_1_method_2_code 73 = .ok (.aload_n 0, 1) := by decide +kernel
theorem xd_40_74 : decode prog_1_method_2_code 74 = .ok (.invokevirtual 73, 3) := by decide +kernel
theorem xd_40_77 : decode prog_1_method_2_code 77 = .ok (.aload_n 0, 1) := by decide +kernel
theorem xd_40_78 : decode prog_1_method_2_code 78 = .ok (.getfield 23, 3) := by decide +kernel
theorem xd_40_81 : decode prog_1_method_2_code 81 = .ok (.iload_n 1, 1) := by decide +kernel
theorem xd_40_82 : decode prog_1_method_2_code 82 = .ok (.iload_n 2, 1) := by decide +kernel
theorem xd_40_83 : decode prog_1_method_2_code 83 = .ok (.invokevirtual 76, 3) := by decide +kernel
theorem xd_40_86 : decode prog_1_method_2_code 86 = .ok (.aload_n 0, 1) := by decide +kernel
theorem xd_40_87 : decode prog_1_method_2_code 87 = .ok (.invokevirtual 80, 3) := by decide +kernel
theorem xd_40_90 : decode prog_1_method_2_code 90 = .ok (.return_, 1) := by decide +kernel
theorem xk_40_0 : xk_OkA xp_F (xp_P sc) xp_cl xp_BW xp_NW xp_SW xp_exn 40 0 (.aload 0) := Or.inr ⟨0, rfl, xd_40_0, rfl⟩
theorem xk_40_1 : xk_OkA xp_F (xp_P sc) xp_cl xp_BW xp_NW xp_SW xp_exn 40 1 (.invokeinterface 62 1) := ⟨rfl, Or.inl ⟨xwt_121, rfl⟩, rfl, rfl, xwt_1, by decide +kernel, by decide +kernel, Nat.le_of_ble_eq_true rfl, _, Or.inl xwt_118, Or.inr ⟨xd_40_1, xwt_120, xws_1, ⟨_, _, _, rfl, rfl⟩, by decide +kernel⟩⟩
theorem xk_40_2 : xk_OkA xp_F (xp_P sc) xp_cl xp_BW xp_NW xp_SW xp_exn 40 2 (.iload 1) := Or.inr ⟨1, rfl, xd_40_4, rfl⟩
theorem xk_40_3 : xk_OkA xp_F (xp_P sc) xp_cl xp_BW xp_NW xp_SW xp_exn 40 3 (.invokeinterface 65 1) := ⟨rfl, Or.inl ⟨xwt_194, rfl⟩, rfl, rfl, xwt_1, by decide +kernel, by decide +kernel, Nat.le_of_ble_eq_true rfl, _, Or.inl xwt_192, Or.inl ⟨xd_40_5, xwt_193, rfl, by decide +kernel⟩⟩
theorem xk_40_4 : xk_OkA xp_F (xp_P sc) xp_cl xp_BW xp_NW xp_SW xp_exn 40 4 (.iload 2) := Or.inr ⟨2, rfl, xd_40_8, rfl⟩
theorem xk_40_5 : xk_OkA xp_F (xp_P sc) xp_cl xp_BW xp_NW xp_SW xp_exn 40 5 (.iconst 2) := Or.inl ⟨xd_40_9, rfl⟩
theorem xk_40_6 : xk_OkA xp_F (xp_P sc) xp_cl xp_BW xp_NW xp_SW xp_exn 40 6 (.if_icmp .lt 10) := ⟨_, xd_40_10, by unfold xf_to; decide +kernel, rfl⟩
theorem xk_40_7 : xk_OkA xp_F (xp_P sc) xp_cl xp_BW xp_NW xp_SW xp_exn 40 7 (.iload 2) := Or.inr ⟨2, rfl, xd_40_13, rfl⟩
theorem xk_40_8 : xk_OkA xp_F (xp_P sc) xp_cl xp_BW xp_NW xp_SW xp_exn 40 8 (.iconst 8) := Or.inr (Or.inl ⟨xd_40_14, by decide +kernel, rfl⟩)
theorem xk_40_9 : xk_OkA xp_F (xp_P sc) xp_cl xp_BW xp_NW xp_SW xp_exn 40 9 (.if_icmp .le 11) := ⟨_, xd_40_16, by unfold xf_to; decide +kernel, rfl⟩
theorem xk_40_10 : xk_OkA xp_F (xp_P sc) xp_cl xp_BW xp_NW xp_SW xp_exn 40 10 (.new 1) := ⟨48, 50, 52, _, xp_chain, xd_40_19, xd_40_22, List.mem_of_getElem? (i := 2) rfl, xwt_198, xwt_10, by decide +kernel, by decide +kernel, rfl, Or.inl ⟨xa_3_1, xo_3_1, by decide, by decide, Or.inl ⟨xd_40_23, xd_40_25, xd_40_28⟩⟩⟩
theorem xk_40_11 : xk_OkA xp_F (xp_P sc) xp_cl xp_BW xp_NW xp_SW xp_exn 40 11 (.aload 0) := Or.inr ⟨0, rfl, xd_40_29, rfl⟩
theorem xk_40_12 : xk_OkA xp_F (xp_P sc) xp_cl xp_BW xp_NW xp_SW xp_exn 40 12 (.getfield 97) := ⟨_, xd_40_30, rfl, ⟨_, _, _, rfl, by decide, xu_3, Or.inl xwt_78⟩⟩
theorem xk_40_13 : xk_OkA xp_F (xp_P sc) xp_cl xp_BW xp_NW xp_SW xp_exn 40 13 (.iload 1) := Or.inr ⟨1, rfl, xd_40_33, rfl⟩
theorem xk_40_14 : xk_OkA xp_F (xp_P sc) xp_cl xp_BW xp_NW xp_SW xp_exn 40 14 (.invokeinterface 22 2) := ⟨rfl, Or.inl ⟨xwt_218, rfl⟩, rfl, rfl, xwt_3, by decide +kernel, by decide +kernel, Nat.le_of_ble_eq_true rfl, _, Or.inr ⟨_, xwn_215⟩, Or.inr ⟨xd_40_34, xwt_217, xws_3, ⟨_, _, _, rfl, rfl⟩, by decide +kernel⟩⟩
theorem xk_40_15 : xk_OkA xp_F (xp_P sc) xp_cl xp_BW xp_NW xp_SW xp_exn 40 15 (.ifCond .ne 21) := ⟨_, xd_40_37, by unfold xf_to; decide +kernel, rfl⟩
theorem xk_40_16 : xk_OkA xp_F (xp_P sc) xp_cl xp_BW xp_NW xp_SW xp_exn 40 16 (.aload 0) := Or.inr ⟨0, rfl, xd_40_40, rfl⟩
theorem xk_40_17 : xk_OkA xp_F (xp_P sc) xp_cl xp_BW xp_NW xp_SW xp_exn 40 17 (.getfield 96) := ⟨_, xd_40_41, rfl, ⟨_, _, _, rfl, by decide, xu_3, Or.inl xwt_77⟩⟩
theorem xk_40_18 : xk_OkA xp_F (xp_P sc) xp_cl xp_BW xp_NW xp_SW xp_exn 40 18 (.iload 1) := Or.inr ⟨1, rfl, xd_40_44, rfl⟩
theorem xk_40_19 : xk_OkA xp_F (xp_P sc) xp_cl xp_BW xp_NW xp_SW xp_exn 40 19 (.invokeinterface 0 2) := ⟨rfl, Or.inl ⟨xwt_226, rfl⟩, rfl, rfl, xwt_2, by decide +kernel, by decide +kernel, Nat.le_of_ble_eq_true rfl, _, Or.inr ⟨_, xwn_223⟩, Or.inr ⟨xd_40_45, xwt_225, xws_5, ⟨_, _, _, rfl, rfl⟩, by decide +kernel⟩⟩
theorem xk_40_20 : xk_OkA xp_F (xp_P sc) xp_cl xp_BW xp_NW xp_SW xp_exn 40 20 (.ifCond .eq 22) := ⟨_, xd_40_48, by unfold xf_to; decide +kernel, rfl⟩
theorem xk_40_21 : xk_OkA xp_F (xp_P sc) xp_cl xp_BW xp_NW xp_SW xp_exn 40 21 (.new 2) := ⟨62, 64, 66, _, xp_chain, xd_40_51, xd_40_54, List.mem_of_getElem? (i := 3) rfl, xwt_227, xwt_11, by decide +kernel, by decide +kernel, rfl, Or.inl ⟨xa_3_2, xo_3_2, by decide, by decide, Or.inl ⟨xd_40_55, xd_40_57, xd_40_60⟩⟩⟩
theorem xk_40_22 : xk_OkA xp_F (xp_P sc) xp_cl xp_BW xp_NW xp_SW xp_exn 40 22 (.aload 0) := Or.inr ⟨0, rfl, xd_40_61, rfl⟩
theorem xk_40_23 : xk_OkA xp_F (xp_P sc) xp_cl xp_BW xp_NW xp_SW xp_exn 40 23 (.invokeinterface 67 1) := ⟨rfl, Or.inl ⟨xwt_246, rfl⟩, rfl, rfl, xwt_1, by decide +kernel, by decide +kernel, Nat.le_of_ble_eq_true rfl, _, Or.inl xwt_243, Or.inr ⟨xd_40_62, xwt_245, xws_6, ⟨_, _, _, rfl, rfl⟩, by decide +kernel⟩⟩
theorem xk_40_24 : xk_OkA xp_F (xp_P sc) xp_cl xp_BW xp_NW xp_SW xp_exn 40 24 (.aload 0) := Or.inr ⟨0, rfl, xd_40_65, rfl⟩
theorem xk_40_25 : xk_OkA xp_F (xp_P sc) xp_cl xp_BW xp_NW xp_SW xp_exn 40 25 (.getfield 96) := ⟨_, xd_40_66, rfl, ⟨_, _, _, rfl, by decide, xu_3, Or.inl xwt_77⟩⟩
theorem xk_40_26 : xk_OkA xp_F (xp_P sc) xp_cl xp_BW xp_NW xp_SW xp_exn 40 26 (.iload 1) := Or.inr ⟨1, rfl, xd_40_69, rfl⟩
theorem xk_40_27 : xk_OkA xp_F (xp_P sc) xp_cl xp_BW xp_NW xp_SW xp_exn 40 27 (.invokeinterface 11 2) := ⟨rfl, Or.inl ⟨xwt_255, rfl⟩, rfl, rfl, xwt_2, by decide +kernel, by decide +kernel, Nat.le_of_ble_eq_true rfl, _, Or.inr ⟨_, xwn_252⟩, Or.inr ⟨xd_40_70, xwt_254, xws_8, ⟨_, _, _, rfl, rfl⟩, by decide +kernel⟩⟩
theorem xk_40_28 : xk_OkA xp_F (xp_P sc) xp_cl xp_BW xp_NW xp_SW xp_exn 40 28 (.aload 0) := Or.inr ⟨0, rfl, xd_40_73, rfl⟩
theorem xk_40_29 : xk_OkA xp_F (xp_P sc) xp_cl xp_BW xp_NW xp_SW xp_exn 40 29 (.invokeinterface 85 1) := ⟨rfl, Or.inl ⟨xwt_259, rfl⟩, rfl, rfl, xwt_1, by decide +kernel, by decide +kernel, Nat.le_of_ble_eq_true rfl, _, Or.inl xwt_256, Or.inr ⟨xd_40_74, xwt_258, xws_9, ⟨_, _, _, rfl, rfl⟩, by decide +kernel⟩⟩
theorem xk_40_30 : xk_OkA xp_F (xp_P sc) xp_cl xp_BW xp_NW xp_SW xp_exn 40 30 (.aload 0) := Or.inr ⟨0, rfl, xd_40_77, rfl⟩
theorem xk_40_31 : xk_OkA xp_F (xp_P sc) xp_cl xp_BW xp_NW xp_SW xp_exn 40 31 (.getfield 98) := ⟨_, xd_40_78, rfl, ⟨_, _, _, rfl, by decide, xu_3, Or.inl xwt_79⟩⟩
theorem xk_40_32 : xk_OkA xp_F (xp_P sc) xp_cl xp_BW xp_NW xp_SW xp_exn 40 32 (.iload 1) := Or.inr ⟨1, rfl, xd_40_81, rfl⟩
theorem xk_40_33 : xk_OkA xp_F (xp_P sc) xp_cl xp_BW xp_NW xp_SW xp_exn 40 33 (.iload 2) := Or.inr ⟨2, rfl, xd_40_82, rfl⟩
theorem xk_40_34 : xk_OkA xp_F (xp_P sc) xp_cl xp_BW xp_NW xp_SW xp_exn 40 34 (.invokeinterface 24 3) := ⟨rfl, Or.inl ⟨xwt_270, rfl⟩, rfl, rfl, xwt_3, by decide +kernel, by decide +kernel, Nat.le_of_ble_eq_true rfl, _, Or.inr ⟨_, xwn_267⟩, Or.inr ⟨xd_40_83, xwt_269, xws_11, ⟨_, _, _, rfl, rfl⟩, by decide +kernel⟩⟩
theorem xk_40_35 : xk_OkA xp_F (xp_P sc) xp_cl xp_BW xp_NW xp_SW xp_exn 40 35 (.aload 0) := Or.inr ⟨0, rfl, xd_40_86, rfl⟩
theorem xk_40_36 : xk_OkA xp_F (xp_P sc) xp_cl xp_BW xp_NW xp_SW xp_exn 40 36 (.invokeinterface 86 1) := ⟨rfl, Or.inl ⟨xwt_274, rfl⟩, rfl, rfl, xwt_1, by decide +kernel, by decide +kernel, Nat.le_of_ble_eq_true rfl, _, Or.inl xwt_271, Or.inr ⟨xd_40_87, xwt_273, xws_12, ⟨_, _, _, rfl, rfl⟩, by decide +kernel⟩⟩
theorem xk_40_37 : xk_OkA xp_F (xp_P sc) xp_cl xp_BW xp_NW xp_SW xp_exn 40 37 (.return_) := ⟨xd_40_90, rfl⟩
theorem xl_40 : xk_OkL xp_F (xp_P sc) xp_cl xp_BW xp_NW xp_SW xp_exn 40 0 xc_40 := ⟨xk_40_0, xk_40_1, xk_40_2, xk_40_3, xk_40_4, xk_40_5, xk_40_6, xk_40_7, xk_40_8, xk_40_9, xk_40_10, xk_40_11, xk_40_12, xk_40_13, xk_40_14, xk_40_15, xk_40_16, xk_40_17, xk_40_18, xk_40_19, xk_40_20, xk_40_21, xk_40_22, xk_40_23, xk_40_24, xk_40_25, xk_40_26, xk_40_27, xk_40_28, xk_40_29, xk_40_30, xk_40_31, xk_40_32, xk_40_33, xk_40_34, xk_40_35, xk_40_36, xk_40_37, trivial⟩
theorem xd_41_0 : decode prog_1_method_3_code 0 = .ok (.aload_n 0, 1) := by decide +kernel
theorem xd_41_1 : decode prog_1_method_3_code 1 = .ok (.invokevirtual 41, 3) := by decide +kernel
theorem xd_41_4 : decode prog_1_method_3_code 4 = .ok (.iload_n 1, 1) := by decide +kernel
theorem xd_41_5 : decode prog_1_method_3_code 5 = .ok (.invokestatic 44, 3) := by decide +kernel
theorem xd_41_8 : decode prog_1_method_3_code 8 = .ok (.aload_n 0, 1) := by decide +kernel
theorem xd_41_9 : decode prog_1_method_3_code 9 = .ok (.iload_n 1, 1) := by decide +kernel
theorem xd_41_10 : decode prog_1_method_3_code 10 = .ok (.invokevirtual 83, 3) := by decide +kernel
theorem xd_41_13 : decode prog_1_method_3_code 13 = .ok (.aload_n 0, 1) := by decide +kernel
theorem xd_41_14 : decode prog_1_method_3_code 14 = .ok (.getfield 19, 3) := by decide +kernel
theorem xd_41_17 : decode prog_1_method_3_code 17 = .ok (.iload_n 1, 1) := by decide +kernel
theorem xd_41_18 : decode prog_1_method_3_code 18 = .ok (.invokevirtual 86, 3) := by decide +kernel
theorem xd_41_21 : decode prog_1_method_3_code 21 = .ok (.ifCond .gt 17, 3) := by decide +kernel
theorem xd_41_24 : decode prog_1_method_3_code 24 = .ok (.aload_n 0, 1) := by decide +kernel
theorem xd_41_25 : decode prog_1_method_3_code 25 = .ok (.getfield 29, 3) := by decide +kernel
theorem xd_41_28 : decode prog_1_method_3_code 28 = .ok (.getfield 90, 3) := by decide +kernel
theorem xd_41_31 : decode prog_1_method_3_code 31 = .ok (.invokestatic 93, 3) := by decide +kernel
theorem xd_41_34 : decode prog_1_method_3_code 34 = .ok (.iload_n 1, 1) := by decide +kernel
theorem xd_41_35 : decode prog_1_method_3_code 35 = .ok (.if_icmp .ne 13, 3) := by decide +kernel
theorem xd_41_38 : decode prog_1_method_3_code 38 = .ok (.new 62, 3) := by decide +kernel
theorem xd_41_41 : decode prog_1_method_3_code 41 = .ok (.dup, 1) := by decide +kernel
theorem xd_41_42 : decode prog_1_method_3_code 42 = .ok (.ldc 96, 2) := by decide +kernel
theorem xd_41_44 : decode prog_1_method_3_code 44 = .ok (.invokespecial 66, 3) := by decide +kernel
theorem xd_41_47 : decode prog_1_method_3_code 47 = .ok (.athrow, 1) := by decide +kernel
theorem xd_41_48 : decode prog_1_method_3_code 48 = .ok (.aload_n 0, 1) := by decide +kernel
theorem xd_41_49 : decode prog_1_method_3_code 49 = .ok (.getfield 19, 3) := by decide +kernel
theorem xd_41_52 : decode prog_1_method_3_code 52 = .ok (.invokevirtual 98, 3) := by decide +kernel
theorem xd_41_55 : decode prog_1_method_3_code 55 = .ok (.iconst 1, 1) := by decide +kernel
theorem xd_41_56 : decode prog_1_method_3_code 56 = .ok (.if_icmp .ne 13, 3) := by decide +kernel
theorem xd_41_59 : decode prog_1_method_3_code 59 = .ok (.new 62, 3) := by decide +kernel
theorem xd_41_62 : decode prog_1_method_3_code 62 = .ok (.dup, 1) := by decide +kernel
theorem xd_41_63 : decode prog_1_method_3_code 63 = .ok (.ldc 102, 2) := by decide +kernel
theorem xd_41_65 : decode prog_1_method_3_code 65 = .ok (.invokespecial 66, 3) := by decide +kernel
theorem xd_41_68 : decode prog_1_method_3_code 68 = .ok (.athrow, 1) := by decide +kernel
theorem xd_41_69 : decode prog_1_method_3_code 69 = .ok (.aload_n 0, 1) := by decide +kernel
theorem xd_41_70 : decode prog_1_method_3_code 70 = .ok (.invokevirtual 67, 3) := by decide +kernel
theorem xd_41_73 : decode prog_1_method_3_code 73 = .ok (.aload_n 0, 1) := by decide +kernel
theorem xd_41_74 : decode prog_1_method_3_code 74 = .ok (.invokevirtual 73, 3) := by decide +kernel
theorem xd_41_77 : decode prog_1_method_3_code 77 = .ok (.aload_n 0, 1) := by decide +kernel
theorem xd_41_78 : decode prog_1_method_3_code 78 = .ok (.getfield 23, 3) := by decide +kernel
theorem xd_41_81 : decode prog_1_method_3_code 81 = .ok (.iload_n 1, 1) := by decide +kernel
theorem xd_41_82 : decode prog_1_method_3_code 82 = .ok (.iconst 0, 1) := by decide +kernel
theorem xd_41_83 : decode prog_1_method_3_code 83 = .ok (.invokevirtual 76, 3) := by decide +kernel
theorem xd_41_86 : decode prog_1_method_3_code 86 = .ok (.aload_n 0, 1) := by decide +kernel
theorem xd_41_87 : decode prog_1_method_3_code 87 = .ok (.invokevirtual 80, 3) := by decide +kernel
theorem xd_41_90 : decode prog_1_method_3_code 90 = .ok (.aload_n 0, 1) := by decide +kernel
theorem xd_41_91 : decode prog_1_method_3_code 91 = .ok (.getfield 29, 3) := by decide +kernel
theorem xd_41_94 : decode prog_1_method_3_code 94 = .ok (.getfield 104, 3) := by decide +kernel
theorem xd_41_97 : decode prog_1_method_3_code 97 = .ok (.iload_n 1, 1) := by decide +kernel
theorem xd_41_98 : decode prog_1_method_3_code 98 = .ok (.if_icmp .ne 10, 3) := by decide +kernel
theorem xd_41_101 : decode prog_1_method_3_code 101 = .ok (.aload_n 0, 1) := by decide +kernel
theorem xd_41_102 : decode prog_1_method_3_code 102 = .ok (.getfield 29, 3) := by decide +kernel
theorem xd_41_105 : decode prog_1_method_3_code 105 = .ok (.invokevirtual 107, 3) := by decide +kernel
theorem xd_41_108 : decode prog_1_method_3_code 108 = .ok (.return_, 1) := by decide +kernel
theorem xk_41_0 : xk_OkA xp_F (xp_P sc) xp_cl xp_BW xp_NW xp_SW xp_exn 41 0 (.aload 0) := Or.inr ⟨0, rfl, xd_41_0, rfl⟩
theorem xk_41_1 : xk_OkA xp_F (xp_P sc) xp_cl xp_BW xp_NW xp_SW xp_exn 41 1 (.invokeinterface 62 1) := ⟨rfl, Or.inl ⟨xwt_121, rfl⟩, rfl, rfl, xwt_1, by decide +kernel, by decide +kernel, Nat.le_of_ble_eq_true rfl, _, Or.inl xwt_118, Or.inr ⟨xd_41_1, xwt_120, xws_1, ⟨_, _, _, rfl, rfl⟩, by decide +kernel⟩⟩
theorem xk_41_2 : xk_OkA xp_F (xp_P sc) xp_cl xp_BW xp_NW xp_SW xp_exn 41 2 (.iload 1) := Or.inr ⟨1, rfl, xd_41_4, rfl⟩
theorem xk_41_3 : xk_OkA xp_F (xp_P sc) xp_cl xp_BW xp_NW xp_SW xp_exn 41 3 (.invokeinterface 65 1) := ⟨rfl, Or.inl ⟨xwt_194, rfl⟩, rfl, rfl, xwt_1, by decide +kernel, by decide +kernel, Nat.le_of_ble_eq_true rfl, _, Or.inl xwt_192, Or.inl ⟨xd_41_5, xwt_193, rfl, by decide +kernel⟩⟩
theorem xk_41_4 : xk_OkA xp_F (xp_P sc) xp_cl xp_BW xp_NW xp_SW xp_exn 41 4 (.aload 0) := Or.inr ⟨0, rfl, xd_41_8, rfl⟩
theorem xk_41_5 : xk_OkA xp_F (xp_P sc) xp_cl xp_BW xp_NW xp_SW xp_exn 41 5 (.iload 1) := Or.inr ⟨1, rfl, xd_41_9, rfl⟩
theorem xk_41_6 : xk_OkA xp_F (xp_P sc) xp_cl xp_BW xp_NW xp_SW xp_exn 41 6 (.invokeinterface 66 2) := ⟨rfl, Or.inl ⟨xwt_337, rfl⟩, rfl, rfl, xwt_1, by decide +kernel, by decide +kernel, Nat.le_of_ble_eq_true rfl, _, Or.inl xwt_334, Or.inr ⟨xd_41_10, xwt_336, xws_24, ⟨_, _, _, rfl, rfl⟩, by decide +kernel⟩⟩
theorem xk_41_7 : xk_OkA xp_F (xp_P sc) xp_cl xp_BW xp_NW xp_SW xp_exn 41 7 (.aload 0) := Or.inr ⟨0, rfl, xd_41_13, rfl⟩
theorem xk_41_8 : xk_OkA xp_F (xp_P sc) xp_cl xp_BW xp_NW xp_SW xp_exn 41 8 (.getfield 97) := ⟨_, xd_41_14, rfl, ⟨_, _, _, rfl, by decide, xu_3, Or.inl xwt_78⟩⟩
theorem xk_41_9 : xk_OkA xp_F (xp_P sc) xp_cl xp_BW xp_NW xp_SW xp_exn 41 9 (.iload 1) := Or.inr ⟨1, rfl, xd_41_17, rfl⟩
theorem xk_41_10 : xk_OkA xp_F (xp_P sc) xp_cl xp_BW xp_NW xp_SW xp_exn 41 10 (.invokeinterface 37 2) := ⟨rfl, Or.inl ⟨xwt_342, rfl⟩, rfl, rfl, xwt_3, by decide +kernel, by decide +kernel, Nat.le_of_ble_eq_true rfl, _, Or.inr ⟨_, xwn_339⟩, Or.inr ⟨xd_41_18, xwt_341, xws_25, ⟨_, _, _, rfl, rfl⟩, by decide +kernel⟩⟩
theorem xk_41_11 : xk_OkA xp_F (xp_P sc) xp_cl xp_BW xp_NW xp_SW xp_exn 41 11 (.ifCond .gt 18) := ⟨_, xd_41_21, by unfold xf_to; decide +kernel, rfl⟩
theorem xk_41_12 : xk_OkA xp_F (xp_P sc) xp_cl xp_BW xp_NW xp_SW xp_exn 41 12 (.aload 0) := Or.inr ⟨0, rfl, xd_41_24, rfl⟩
theorem xk_41_13 : xk_OkA xp_F (xp_P sc) xp_cl xp_BW xp_NW xp_SW xp_exn 41 13 (.getfield 99) := ⟨_, xd_41_25, rfl, ⟨_, _, _, rfl, by decide, xu_3, Or.inl xwt_80⟩⟩
theorem xk_41_14 : xk_OkA xp_F (xp_P sc) xp_cl xp_BW xp_NW xp_SW xp_exn 41 14 (.getfield 34) := ⟨_, xd_41_28, rfl, ⟨_, _, _, rfl, by decide, xu_1, Or.inr ⟨_, xwn_65⟩⟩⟩
theorem xk_41_15 : xk_OkA xp_F (xp_P sc) xp_cl xp_BW xp_NW xp_SW xp_exn 41 15 (.invokeinterface 75 1) := ⟨rfl, Or.inl ⟨xwt_346, rfl⟩, rfl, rfl, xwt_1, by decide +kernel, by decide +kernel, Nat.le_of_ble_eq_true rfl, _, Or.inl xwt_347, Or.inl ⟨xd_41_31, xwt_345, rfl, by decide +kernel⟩⟩
theorem xk_41_16 : xk_OkA xp_F (xp_P sc) xp_cl xp_BW xp_NW xp_SW xp_exn 41 16 (.iload 1) := Or.inr ⟨1, rfl, xd_41_34, rfl⟩
theorem xk_41_17 : xk_OkA xp_F (xp_P sc) xp_cl xp_BW xp_NW xp_SW xp_exn 41 17 (.if_icmp .ne 19) := ⟨_, xd_41_35, by unfold xf_to; decide +kernel, rfl⟩
theorem xk_41_18 : xk_OkA xp_F (xp_P sc) xp_cl xp_BW xp_NW xp_SW xp_exn 41 18 (.new 2) := ⟨62, 96, 66, _, xp_chain, xd_41_38, xd_41_41, List.mem_of_getElem? (i := 7) rfl, xwt_227, xwt_11, by decide +kernel, by decide +kernel, rfl, Or.inl ⟨xa_3_2, xo_3_2, by decide, by decide, Or.inl ⟨xd_41_42, xd_41_44, xd_41_47⟩⟩⟩
theorem xk_41_19 : xk_OkA xp_F (xp_P sc) xp_cl xp_BW xp_NW xp_SW xp_exn 41 19 (.aload 0) := Or.inr ⟨0, rfl, xd_41_48, rfl⟩
theorem xk_41_20 : xk_OkA xp_F (xp_P sc) xp_cl xp_BW xp_NW xp_SW xp_exn 41 20 (.getfield 97) := ⟨_, xd_41_49, rfl, ⟨_, _, _, rfl, by decide, xu_3, Or.inl xwt_78⟩⟩
theorem xk_41_21 : xk_OkA xp_F (xp_P sc) xp_cl xp_BW xp_NW xp_SW xp_exn 41 21 (.invokeinterface 25 1) := ⟨rfl, Or.inl ⟨xwt_352, rfl⟩, rfl, rfl, xwt_3, by decide +kernel, by decide +kernel, Nat.le_of_ble_eq_true rfl, _, Or.inr ⟨_, xwn_349⟩, Or.inr ⟨xd_41_52, xwt_351, xws_26, ⟨_, _, _, rfl, rfl⟩, by decide +kernel⟩⟩
theorem xk_41_22 : xk_OkA xp_F (xp_P sc) xp_cl xp_BW xp_NW xp_SW xp_exn 41 22 (.iconst 1) := Or.inl ⟨xd_41_55, rfl⟩
theorem xk_41_23 : xk_OkA xp_F (xp_P sc) xp_cl xp_BW xp_NW xp_SW xp_exn 41 23 (.if_icmp .ne 25) := ⟨_, xd_41_56, by unfold xf_to; decide +kernel, rfl⟩
theorem xk_41_24 : xk_OkA xp_F (xp_P sc) xp_cl xp_BW xp_NW xp_SW xp_exn 41 24 (.new 2) := ⟨62, 102, 66, _, xp_chain, xd_41_59, xd_41_62, List.mem_of_getElem? (i := 8) rfl, xwt_227, xwt_11, by decide +kernel, by decide +kernel, rfl, Or.inl ⟨xa_3_2, xo_3_2, by decide, by decide, Or.inl ⟨xd_41_63, xd_41_65, xd_41_68⟩⟩⟩
theorem xk_41_25 : xk_OkA xp_F (xp_P sc) xp_cl xp_BW xp_NW xp_SW xp_exn 41 25 (.aload 0) := Or.inr ⟨0, rfl, xd_41_69, rfl⟩
theorem xk_41_26 : xk_OkA xp_F (xp_P sc) xp_cl xp_BW xp_NW xp_SW xp_exn 41 26 (.invokeinterface 67 1) := ⟨rfl, Or.inl ⟨xwt_246, rfl⟩, rfl, rfl, xwt_1, by decide +kernel, by decide +kernel, Nat.le_of_ble_eq_true rfl, _, Or.inl xwt_243, Or.inr ⟨xd_41_70, xwt_245, xws_6, ⟨_, _, _, rfl, rfl⟩, by decide +kernel⟩⟩
theorem xk_41_27 : xk_OkA xp_F (xp_P sc) xp_cl xp_BW xp_NW xp_SW xp_exn 41 27 (.aload 0) := Or.inr ⟨0, rfl, xd_41_73, rfl⟩
theorem xk_41_28 : xk_OkA xp_F (xp_P sc) xp_cl xp_BW xp_NW xp_SW xp_exn 41 28 (.invokeinterface 85 1) := ⟨rfl, Or.inl ⟨xwt_259, rfl⟩, rfl, rfl, xwt_1, by decide +kernel, by decide +kernel, Nat.le_of_ble_eq_true rfl, _, Or.inl xwt_256, Or.inr ⟨xd_41_74, xwt_258, xws_9, ⟨_, _, _, rfl, rfl⟩, by decide +kernel⟩⟩
theorem xk_41_29 : xk_OkA xp_F (xp_P sc) xp_cl xp_BW xp_NW xp_SW xp_exn 41 29 (.aload 0) := Or.inr ⟨0, rfl, xd_41_77, rfl⟩
theorem xk_41_30 : xk_OkA xp_F (xp_P sc) xp_cl xp_BW xp_NW xp_SW xp_exn 41 30 (.getfield 98) := ⟨_, xd_41_78, rfl, ⟨_, _, _, rfl, by decide, xu_3, Or.inl xwt_79⟩⟩
theorem xk_41_31 : xk_OkA xp_F (xp_P sc) xp_cl xp_BW xp_NW xp_SW xp_exn 41 31 (.iload 1) := Or.inr ⟨1, rfl, xd_41_81, rfl⟩
theorem xk_41_32 : xk_OkA xp_F (xp_P sc) xp_cl xp_BW xp_NW xp_SW xp_exn 41 32 (.iconst 0) := Or.inl ⟨xd_41_82, rfl⟩
theorem xk_41_33 : xk_OkA xp_F (xp_P sc) xp_cl xp_BW xp_NW xp_SW xp_exn 41 33 (.invokeinterface 24 3) := ⟨rfl, Or.inl ⟨xwt_270, rfl⟩, rfl, rfl, xwt_3, by decide +kernel, by decide +kernel, Nat.le_of_ble_eq_true rfl, _, Or.inr ⟨_, xwn_267⟩, Or.inr ⟨xd_41_83, xwt_269, xws_11, ⟨_, _, _, rfl, rfl⟩, by decide +kernel⟩⟩
theorem xk_41_34 : xk_OkA xp_F (xp_P sc) xp_cl xp_BW xp_NW xp_SW xp_exn 41 34 (.aload 0) := Or.inr ⟨0, rfl, xd_41_86, rfl⟩
theorem xk_41_35 : xk_OkA xp_F (xp_P sc) xp_cl xp_BW xp_NW xp_SW xp_exn 41 35 (.invokeinterface 86 1) := ⟨rfl, Or.inl ⟨xwt_274, rfl⟩, rfl, rfl, xwt_1, by decide +kernel, by decide +kernel, Nat.le_of_ble_eq_true rfl, _, Or.inl xwt_271, Or.inr ⟨xd_41_87, xwt_273, xws_12, ⟨_, _, _, rfl, rfl⟩, by decide +kernel⟩⟩
theorem xk_41_36 : xk_OkA xp_F (xp_P sc) xp_cl xp_BW xp_NW xp_SW xp_exn 41 36 (.aload 0) := Or.inr ⟨0, rfl, xd_41_90, rfl⟩
theorem xk_41_37 : xk_OkA xp_F (xp_P sc) xp_cl xp_BW xp_NW xp_SW xp_exn 41 37 (.getfield 99) := ⟨_, xd_41_91, rfl, ⟨_, _, _, rfl, by decide, xu_3, Or.inl xwt_80⟩⟩
theorem xk_41_38 : xk_OkA xp_F (xp_P sc) xp_cl xp_BW xp_NW xp_SW xp_exn 41 38 (.getfield 32) := ⟨_, xd_41_94, rfl, ⟨_, _, _, rfl, by decide, xu_1, Or.inr ⟨_, xwn_61⟩⟩⟩
theorem xk_41_39 : xk_OkA xp_F (xp_P sc) xp_cl xp_BW xp_NW xp_SW xp_exn 41 39 (.iload 1) := Or.inr ⟨1, rfl, xd_41_97, rfl⟩
theorem xk_41_40 : xk_OkA xp_F (xp_P sc) xp_cl xp_BW xp_NW xp_SW xp_exn 41 40 (.if_icmp .ne 44) := ⟨_, xd_41_98, by unfold xf_to; decide +kernel, rfl⟩
theorem xk_41_41 : xk_OkA xp_F (xp_P sc) xp_cl xp_BW xp_NW xp_SW xp_exn 41 41 (.aload 0) := Or.inr ⟨0, rfl, xd_41_101, rfl⟩
theorem xk_41_42 : xk_OkA xp_F (xp_P sc) xp_cl xp_BW xp_NW xp_SW xp_exn 41 42 (.getfield 99) := ⟨_, xd_41_102, rfl, ⟨_, _, _, rfl, by decide, xu_3, Or.inl xwt_80⟩⟩
theorem xk_41_43 : xk_OkA xp_F (xp_P sc) xp_cl xp_BW xp_NW xp_SW xp_exn 41 43 (.invokeinterface 13 1) := ⟨rfl, Or.inl ⟨xwt_313, rfl⟩, rfl, rfl, xwt_4, by decide +kernel, by decide +kernel, Nat.le_of_ble_eq_true rfl, _, Or.inr ⟨_, xwn_310⟩, Or.inr ⟨xd_41_105, xwt_312, xws_20, ⟨_, _, _, rfl, rfl⟩, by decide +kernel⟩⟩
theorem xk_41_44 : xk_OkA xp_F (xp_P sc) xp_cl xp_BW xp_NW xp_SW xp_exn 41 44 (.return_) := ⟨xd_41_108, rfl⟩
theorem xl_41 : xk_OkL xp_F (xp_P sc) xp_cl xp_BW xp_NW xp_SW xp_exn 41 0 xc_41 := ⟨xk_41_0, xk_41_1, xk_41_2, xk_41_3, xk_41_4, xk_41_5, xk_41_6, xk_41_7, xk_41_8, xk_41_9, xk_41_10, xk_41_11, xk_41_12, xk_41_13, xk_41_14, xk_41_15, xk_41_16, xk_41_17, xk_41_18, xk_41_19, xk_41_20, xk_41_21, xk_41_22, xk_41_23, xk_41_24, xk_41_25, xk_41_26, xk_41_27, xk_41_28, xk_41_29, xk_41_30, xk_41_31, xk_41_32, xk_41_33, xk_41_34, xk_41_35, xk_41_36, xk_41_37, xk_41_38, xk_41_39, xk_41_40, xk_41_41, xk_41_42, xk_41_43, xk_41_44, trivial⟩
theorem xd_42_0 : decode prog_1_method_4_code 0 = .ok (.aload_n 0, 1) := by decide +kernel
theorem xd_42_1 : decode prog_1_method_4_code 1 = .ok (.invokevirtual 41, 3) := by decide +kernel
theorem xd_42_4 : decode prog_1_method_4_code 4 = .ok (.iload_n 1, 1) := by decide +kernel
theorem xd_42_5 : decode prog_1_method_4_code 5 = .ok (.invokestatic 44, 3) := by decide +kernel
theorem xd_42_8 : decode prog_1_method_4_code 8 = .ok (.aload_n 0, 1) := by decide +kernel
theorem xd_42_9 : decode prog_1_method_4_code 9 = .ok (.iload_n 1, 1) := by decide +kernel
theorem xd_42_10 : decode prog_1_method_4_code 10 = .ok (.invokevirtual 83, 3) := by decide +kernel
theorem xd_42_13 : decode prog_1_method_4_code 13 = .ok (.aload_n 0, 1) := by decide +kernel
theorem xd_42_14 : decode prog_1_method_4_code 14 = .ok (.getfield 12, 3) := by decide +kernel
theorem xd_42_17 : decode prog_1_method_4_code 17 = .ok (.iload_n 1, 1) := by decide +kernel
theorem xd_42_18 : decode prog_1_method_4_code 18 = .ok (.invokevirtual 59, 3) := by decide +kernel
theorem xd_42_21 : decode prog_1_method_4_code 21 = .ok (.ifCond .eq 10, 3) := by decide +kernel
theorem xd_42_24 : decode prog_1_method_4_code 24 = .ok (.aload_n 0, 1) := by decide +kernel
theorem xd_42_25 : decode prog_1_method_4_code 25 = .ok (.invokevirtual 110, 3) := by decide +kernel
theorem xd_42_28 : decode prog_1_method_4_code 28 = .ok (.ifCond .ne 13, 3) := by decide +kernel
theorem xd_42_31 : decode prog_1_method_4_code 31 = .ok (.new 62, 3) := by decide +kernel
theorem xd_42_34 : decode prog_1_method_4_code 34 = .ok (.dup, 1) := by decide +kernel
theorem xd_42_35 : decode prog_1_method_4_code 35 = .ok (.ldc 114, 2) := by decide +kernel
theorem xd_42_37 : decode prog_1_method_4_code 37 = .ok (.invokespecial 66, 3) := by decide +kernel
theorem xd_42_40 : decode prog_1_method_4_code 40 = .ok (.athrow, 1) := by decide +kernel
theorem xd_42_41 : decode prog_1_method_4_code 41 = .ok (.aload_n 0, 1) := by decide +kernel
theorem xd_42_42 : decode prog_1_method_4_code 42 = .ok (.getfield 19, 3) := by decide +kernel
theorem xd_42_45 : decode prog_1_method_4_code 45 = .ok (.iload_n 1, 1) := by decide +kernel
theorem xd_42_46 : decode prog_1_method_4_code 46 = .ok (.invokevirtual 86, 3) := by decide +kernel
theorem xd_42_49 : decode prog_1_method_4_code 49 = .ok (.istore_n 2, 1) := by decide +kernel
theorem xd_42_50 : decode prog_1_method_4_code 50 = .ok (.aload_n 0, 1) := by decide +kernel
theorem xd_42_51 : decode prog_1_method_4_code 51 = .ok (.invokevirtual 73, 3) := by decide +kernel
theorem xd_42_54 : decode prog_1_method_4_code 54 = .ok (.aload_n 0, 1) := by decide +kernel
theorem xd_42_55 : decode prog_1_method_4_code 55 = .ok (.getfield 23, 3) := by decide +kernel
theorem xd_42_58 : decode prog_1_method_4_code 58 = .ok (.iload_n 1, 1) := by decide +kernel
theorem xd_42_59 : decode prog_1_method_4_code 59 = .ok (.iconst 0, 1) := by decide +kernel
theorem xd_42_60 : decode prog_1_method_4_code 60 = .ok (.invokevirtual 76, 3) := by decide +kernel
theorem xd_42_63 : decode prog_1_method_4_code 63 = .ok (.aload_n 0, 1) := by decide +kernel
theorem xd_42_64 : decode prog_1_method_4_code 64 = .ok (.getfield 23, 3) := by decide +kernel
theorem xd_42_67 : decode prog_1_method_4_code 67 = .ok (.iload_n 1, 1) := by decide +kernel
theorem xd_42_68 : decode prog_1_method_4_code 68 = .ok (.invokevirtual 116, 3) := by decide +kernel
theorem xd_42_71 : decode prog_1_method_4_code 71 = .ok (.aload_n 0, 1) := by decide +kernel
theorem xd_42_72 : decode prog_1_method_4_code 72 = .ok (.invokevirtual 80, 3) := by decide +kernel
theorem xd_42_75 : decode prog_1_method_4_code 75 = .ok (.iload_n 2, 1) := by decide +kernel
theorem xd_42_76 : decode prog_1_method_4_code 76 = .ok (.ireturn, 1) := by decide +kernel
theorem xk_42_0 : xk_OkA xp_F (xp_P sc) xp_cl xp_BW xp_NW xp_SW xp_exn 42 0 (.aload 0) := Or.inr ⟨0, rfl, xd_42_0, rfl⟩
theorem xk_42_1 : xk_OkA xp_F (xp_P sc) xp_cl xp_BW xp_NW xp_SW xp_exn 42 1 (.invokeinterface 62 1) := ⟨rfl, Or.inl ⟨xwt_121, rfl⟩, rfl, rfl, xwt_1, by decide +kernel, by decide +kernel, Nat.le_of_ble_eq_true rfl, _, Or.inl xwt_118, Or.inr ⟨xd_42_1, xwt_120, xws_1, ⟨_, _, _, rfl, rfl⟩, by decide +kernel⟩⟩
theorem xk_42_2 : xk_OkA xp_F (xp_P sc) xp_cl xp_BW xp_NW xp_SW xp_exn 42 2 (.iload 1) := Or.inr ⟨1, rfl, xd_42_4, rfl⟩
theorem xk_42_3 : xk_OkA xp_F (xp_P sc) xp_cl xp_BW xp_NW xp_SW xp_exn 42 3 (.invokeinterface 65 1) := ⟨rfl, Or.inl ⟨xwt_194, rfl⟩, rfl, rfl, xwt_1, by decide +kernel, by decide +kernel, Nat.le_of_ble_eq_true rfl, _, Or.inl xwt_192, Or.inl ⟨xd_42_5, xwt_193, rfl, by decide +kernel⟩⟩
theorem xk_42_4 : xk_OkA xp_F (xp_P sc) xp_cl xp_BW xp_NW xp_SW xp_exn 42 4 (.aload 0) := Or.inr ⟨0, rfl, xd_42_8, rfl⟩
theorem xk_42_5 : xk_OkA xp_F (xp_P sc) xp_cl xp_BW xp_NW xp_SW xp_exn 42 5 (.iload 1) := Or.inr ⟨1, rfl, xd_42_9, rfl⟩
theorem xk_42_6 : xk_OkA xp_F (xp_P sc) xp_cl xp_BW xp_NW xp_SW xp_exn 42 6 (.invokeinterface 66 2) := ⟨rfl, Or.inl ⟨xwt_337, rfl⟩, rfl, rfl, xwt_1, by decide +kernel, by decide +kernel, Nat.le_of_ble_eq_true rfl, _, Or.inl xwt_334, Or.inr ⟨xd_42_10, xwt_336, xws_24, ⟨_, _, _, rfl, rfl⟩, by decide +kernel⟩⟩
theorem xk_42_7 : xk_OkA xp_F (xp_P sc) xp_cl xp_BW xp_NW xp_SW xp_exn 42 7 (.aload 0) := Or.inr ⟨0, rfl, xd_42_13, rfl⟩
theorem xk_42_8 : xk_OkA xp_F (xp_P sc) xp_cl xp_BW xp_NW xp_SW xp_exn 42 8 (.getfield 96) := ⟨_, xd_42_14, rfl, ⟨_, _, _, rfl, by decide, xu_3, Or.inl xwt_77⟩⟩
theorem xk_42_9 : xk_OkA xp_F (xp_P sc) xp_cl xp_BW xp_NW xp_SW xp_exn 42 9 (.iload 1) := Or.inr ⟨1, rfl, xd_42_17, rfl⟩
theorem xk_42_10 : xk_OkA xp_F (xp_P sc) xp_cl xp_BW xp_NW xp_SW xp_exn 42 10 (.invokeinterface 0 2) := ⟨rfl, Or.inl ⟨xwt_226, rfl⟩, rfl, rfl, xwt_2, by decide +kernel, by decide +kernel, Nat.le_of_ble_eq_true rfl, _, Or.inr ⟨_, xwn_223⟩, Or.inr ⟨xd_42_18, xwt_225, xws_5, ⟨_, _, _, rfl, rfl⟩, by decide +kernel⟩⟩
theorem xk_42_11 : xk_OkA xp_F (xp_P sc) xp_cl xp_BW xp_NW xp_SW xp_exn 42 11 (.ifCond .eq 15) := ⟨_, xd_42_21, by unfold xf_to; decide +kernel, rfl⟩
theorem xk_42_12 : xk_OkA xp_F (xp_P sc) xp_cl xp_BW xp_NW xp_SW xp_exn 42 12 (.aload 0) := Or.inr ⟨0, rfl, xd_42_24, rfl⟩
theorem xk_42_13 : xk_OkA xp_F (xp_P sc) xp_cl xp_BW xp_NW xp_SW xp_exn 42 13 (.invokeinterface 71 1) := ⟨rfl, Or.inl ⟨xwt_365, rfl⟩, rfl, rfl, xwt_1, by decide +kernel, by decide +kernel, Nat.le_of_ble_eq_true rfl, _, Or.inl xwt_362, Or.inr ⟨xd_42_25, xwt_364, xws_27, ⟨_, _, _, rfl, rfl⟩, by decide +kernel⟩⟩
theorem xk_42_14 : xk_OkA xp_F (xp_P sc) xp_cl xp_BW xp_NW xp_SW xp_exn 42 14 (.ifCond .ne 16) := ⟨_, xd_42_28, by unfold xf_to; decide +kernel, rfl⟩
theorem xk_42_15 : xk_OkA xp_F (xp_P sc) xp_cl xp_BW xp_NW xp_SW xp_exn 42 15 (.new 2) := ⟨62, 114, 66, _, xp_chain, xd_42_31, xd_42_34, List.mem_of_getElem? (i := 9) rfl, xwt_227, xwt_11, by decide +kernel, by decide +kernel, rfl, Or.inl ⟨xa_3_2, xo_3_2, by decide, by decide, Or.inl ⟨xd_42_35, xd_42_37, xd_42_40⟩⟩⟩
theorem xk_42_16 : xk_OkA xp_F (xp_P sc) xp_cl xp_BW xp_NW xp_SW xp_exn 42 16 (.aload 0) := Or.inr ⟨0, rfl, xd_42_41, rfl⟩
theorem xk_42_17 : xk_OkA xp_F (xp_P sc) xp_cl xp_BW xp_NW xp_SW xp_exn 42 17 (.getfield 97) := ⟨_, xd_42_42, rfl, ⟨_, _, _, rfl, by decide, xu_3, Or.inl xwt_78⟩⟩
theorem xk_42_18 : xk_OkA xp_F (xp_P sc) xp_cl xp_BW xp_NW xp_SW xp_exn 42 18 (.iload 1) := Or.inr ⟨1, rfl, xd_42_45, rfl⟩
theorem xk_42_19 : xk_OkA xp_F (xp_P sc) xp_cl xp_BW xp_NW xp_SW xp_exn 42 19 (.invokeinterface 37 2) := ⟨rfl, Or.inl ⟨xwt_342, rfl⟩, rfl, rfl, xwt_3, by decide +kernel, by decide +kernel, Nat.le_of_ble_eq_true rfl, _, Or.inr ⟨_, xwn_339⟩, Or.inr ⟨xd_42_46, xwt_341, xws_25, ⟨_, _, _, rfl, rfl⟩, by decide +kernel⟩⟩
theorem xk_42_20 : xk_OkA xp_F (xp_P sc) xp_cl xp_BW xp_NW xp_SW xp_exn 42 20 (.istore 2) := Or.inr ⟨2, rfl, xd_42_49, rfl⟩
theorem xk_42_21 : xk_OkA xp_F (xp_P sc) xp_cl xp_BW xp_NW xp_SW xp_exn 42 21 (.aload 0) := Or.inr ⟨0, rfl, xd_42_50, rfl⟩
theorem xk_42_22 : xk_OkA xp_F (xp_P sc) xp_cl xp_BW xp_NW xp_SW xp_exn 42 22 (.invokeinterface 85 1) := ⟨rfl, Or.inl ⟨xwt_259, rfl⟩, rfl, rfl, xwt_1, by decide +kernel, by decide +kernel, Nat.le_of_ble_eq_true rfl, _, Or.inl xwt_256, Or.inr ⟨xd_42_51, xwt_258, xws_9, ⟨_, _, _, rfl, rfl⟩, by decide +kernel⟩⟩
theorem xk_42_23 : xk_OkA xp_F (xp_P sc) xp_cl xp_BW xp_NW xp_SW xp_exn 42 23 (.aload 0) := Or.inr ⟨0, rfl, xd_42_54, rfl⟩
theorem xk_42_24 : xk_OkA xp_F (xp_P sc) xp_cl xp_BW xp_NW xp_SW xp_exn 42 24 (.getfield 98) := ⟨_, xd_42_55, rfl, ⟨_, _, _, rfl, by decide, xu_3, Or.inl xwt_79⟩⟩
theorem xk_42_25 : xk_OkA xp_F (xp_P sc) xp_cl xp_BW xp_NW xp_SW xp_exn 42 25 (.iload 1) := Or.inr ⟨1, rfl, xd_42_58, rfl⟩
theorem xk_42_26 : xk_OkA xp_F (xp_P sc) xp_cl xp_BW xp_NW xp_SW xp_exn 42 26 (.iconst 0) := Or.inl ⟨xd_42_59, rfl⟩
theorem xk_42_27 : xk_OkA xp_F (xp_P sc) xp_cl xp_BW xp_NW xp_SW xp_exn 42 27 (.invokeinterface 24 3) := ⟨rfl, Or.inl ⟨xwt_270, rfl⟩, rfl, rfl, xwt_3, by decide +kernel, by decide +kernel, Nat.le_of_ble_eq_true rfl, _, Or.inr ⟨_, xwn_267⟩, Or.inr ⟨xd_42_60, xwt_269, xws_11, ⟨_, _, _, rfl, rfl⟩, by decide +kernel⟩⟩
theorem xk_42_28 : xk_OkA xp_F (xp_P sc) xp_cl xp_BW xp_NW xp_SW xp_exn 42 28 (.aload 0) := Or.inr ⟨0, rfl, xd_42_63, rfl⟩
theorem xk_42_29 : xk_OkA xp_F (xp_P sc) xp_cl xp_BW xp_NW xp_SW xp_exn 42 29 (.getfield 98) := ⟨_, xd_42_64, rfl, ⟨_, _, _, rfl, by decide, xu_3, Or.inl xwt_79⟩⟩
theorem xk_42_30 : xk_OkA xp_F (xp_P sc) xp_cl xp_BW xp_NW xp_SW xp_exn 42 30 (.iload 1) := Or.inr ⟨1, rfl, xd_42_67, rfl⟩
theorem xk_42_31 : xk_OkA xp_F (xp_P sc) xp_cl xp_BW xp_NW xp_SW xp_exn 42 31 (.invokeinterface 39 2) := ⟨rfl, Or.inl ⟨xwt_370, rfl⟩, rfl, rfl, xwt_3, by decide +kernel, by decide +kernel, Nat.le_of_ble_eq_true rfl, _, Or.inr ⟨_, xwn_367⟩, Or.inr ⟨xd_42_68, xwt_369, xws_28, ⟨_, _, _, rfl, rfl⟩, by decide +kernel⟩⟩
theorem xk_42_32 : xk_OkA xp_F (xp_P sc) xp_cl xp_BW xp_NW xp_SW xp_exn 42 32 (.aload 0) := Or.inr ⟨0, rfl, xd_42_71, rfl⟩
theorem xk_42_33 : xk_OkA xp_F (xp_P sc) xp_cl xp_BW xp_NW xp_SW xp_exn 42 33 (.invokeinterface 86 1) := ⟨rfl, Or.inl ⟨xwt_274, rfl⟩, rfl, rfl, xwt_1, by decide +kernel, by decide +kernel, Nat.le_of_ble_eq_true rfl, _, Or.inl xwt_271, Or.inr ⟨xd_42_72, xwt_273, xws_12, ⟨_, _, _, rfl, rfl⟩, by decide +kernel⟩⟩
theorem xk_42_34 : xk_OkA xp_F (xp_P sc) xp_cl xp_BW xp_NW xp_SW xp_exn 42 34 (.iload 2) := Or.inr ⟨2, rfl, xd_42_75, rfl⟩
theorem xk_42_35 : xk_OkA xp_F (xp_P sc) xp_cl xp_BW xp_NW xp_SW xp_exn 42 35 (.ireturn) := ⟨xd_42_76, rfl⟩
theorem xl_42 : xk_OkL xp_F (xp_P sc) xp_cl xp_BW xp_NW xp_SW xp_exn 42 0 xc_42 := ⟨xk_42_0, xk_42_1, xk_42_2, xk_42_3, xk_42_4, xk_42_5, xk_42_6, xk_42_7, xk_42_8, xk_42_9, xk_42_10, xk_42_11, xk_42_12, xk_42_13, xk_42_14, xk_42_15, xk_42_16, xk_42_17, xk_42_18, xk_42_19, xk_42_20, xk_42_21, xk_42_22, xk_42_23, xk_42_24, xk_42_25, xk_42_26, xk_42_27, xk_42_28, xk_42_29, xk_42_30, xk_42_31, xk_42_32, xk_42_33, xk_42_34, xk_42_35, trivial⟩
theorem xd_43_0 : decode prog_1_method_5_code 0 = .ok (.aload_n 0, 1) := by decide +kernel
theorem xd_43_1 : decode prog_1_method_5_code 1 = .ok (.invokevirtual 41, 3) := by decide +kernel
theorem xd_43_4 : decode prog_1_method_5_code 4 = .ok (.iload_n 1, 1) := by decide +kernel
theorem xd_43_5 : decode prog_1_method_5_code 5 = .ok (.iload_n 2, 1) := by decide +kernel
theorem xd_43_6 : decode prog_1_method_5_code 6 = .ok (.invokestatic 119, 3) := by decide +kernel
theorem xd_43_9 : decode prog_1_method_5_code 9 = .ok (.ifCond .eq 11, 3) := by decide +kernel
theorem xd_43_12 : decode prog_1_method_5_code 12 = .ok (.iload_n 2, 1) := by decide +kernel
theorem xd_43_13 : decode prog_1_method_5_code 13 = .ok (.iload_n 3, 1) := by decide +kernel
theorem xd_43_14 : decode prog_1_method_5_code 14 = .ok (.invokestatic 123, 3) := by decide +kernel
theorem xd_43_17 : decode prog_1_method_5_code 17 = .ok (.ifCond .ne 13, 3) := by decide +kernel
theorem xd_43_20 : decode prog_1_method_5_code 20 = .ok (.new 48, 3) := by decide +kernel
theorem xd_43_23 : decode prog_1_method_5_code 23 = .ok (.dup, 1) := by decide +kernel
theorem xd_43_24 : decode prog_1_method_5_code 24 = .ok (.ldc 126, 2) := by decide +kernel
theorem xd_43_26 : decode prog_1_method_5_code 26 = .ok (.invokespecial 52, 3) := by decide +kernel
theorem xd_43_29 : decode prog_1_method_5_code 29 = .ok (.athrow, 1) := by decide +kernel
theorem xd_43_30 : decode prog_1_method_5_code 30 = .ok (.aload_n 0, 1) := by decide +kernel
theorem xd_43_31 : decode prog_1_method_5_code 31 = .ok (.invokevirtual 67, 3) := by decide +kernel
theorem xd_43_34 : decode prog_1_method_5_code 34 = .ok (.aload_n 0, 1) := by decide +kernel
theorem xd_43_35 : decode prog_1_method_5_code 35 = .ok (.getfield 19, 3) := by decide +kernel
theorem xd_43_38 : decode prog_1_method_5_code 38 = .ok (.invokevirtual 128, 3) := by decide +kernel
theorem xd_43_41 : decode prog_1_method_5_code 41 = .ok (.istore 4, 2) := by decide +kernel
theorem xd_43_43 : decode prog_1_method_5_code 43 = .ok (.iload 4, 2) := by decide +kernel
theorem xd_43_45 : decode prog_1_method_5_code 45 = .ok (.iconst (-1), 1) := by decide +kernel
theorem xd_43_46 : decode prog_1_method_5_code 46 = .ok (.if_icmp .ne 13, 3) := by decide +kernel
theorem xd_43_49 : decode prog_1_method_5_code 49 = .ok (.new 62, 3) := by decide +kernel
theorem xd_43_52 : decode prog_1_method_5_code 52 = .ok (.dup, 1) := by decide +kernel
theorem xd_43_53 : decode prog_1_method_5_code 53 = .ok (.ldc 131, 2) := by decide +kernel
theorem xd_43_55 : decode prog_1_method_5_code 55 = .ok (.invokespecial 66, 3) := by decide +kernel
theorem xd_43_58 : decode prog_1_method_5_code 58 = .ok (.athrow, 1) := by decide +kernel
theorem xd_43_59 : decode prog_1_method_5_code 59 = .ok (.aload_n 0, 1) := by decide +kernel
theorem xd_43_60 : decode prog_1_method_5_code 60 = .ok (.invokevirtual 73, 3) := by decide +kernel
theorem xd_43_63 : decode prog_1_method_5_code 63 = .ok (.aload_n 0, 1) := by decide +kernel
theorem xd_43_64 : decode prog_1_method_5_code 64 = .ok (.getfield 23, 3) := by decide +kernel
theorem xd_43_67 : decode prog_1_method_5_code 67 = .ok (.iload 4, 2) := by decide +kernel
theorem xd_43_69 : decode prog_1_method_5_code 69 = .ok (.iload_n 1, 1) := by decide +kernel
theorem xd_43_70 : decode prog_1_method_5_code 70 = .ok (.iload_n 2, 1) := by decide +kernel
theorem xd_43_71 : decode prog_1_method_5_code 71 = .ok (.iload_n 3, 1) := by decide +kernel
theorem xd_43_72 : decode prog_1_method_5_code 72 = .ok (.invokevirtual 133, 3) := by decide +kernel
theorem xd_43_75 : decode prog_1_method_5_code 75 = .ok (.aload_n 0, 1) := by decide +kernel
theorem xd_43_76 : decode prog_1_method_5_code 76 = .ok (.iload 4, 2) := by decide +kernel
theorem xd_43_78 : decode prog_1_method_5_code 78 = .ok (.iconst 0, 1) := by decide +kernel
theorem xd_43_79 : decode prog_1_method_5_code 79 = .ok (.invokevirtual 137, 3) := by decide +kernel
theorem xd_43_82 : decode prog_1_method_5_code 82 = .ok (.iload 4, 2) := by decide +kernel
theorem xd_43_84 : decode prog_1_method_5_code 84 = .ok (.ireturn, 1) := by decide +kernel
theorem xk_43_0 : xk_OkA xp_F (xp_P sc) xp_cl xp_BW xp_NW xp_SW xp_exn 43 0 (.aload 0) := Or.inr ⟨0, rfl, xd_43_0, rfl⟩
theorem xk_43_1 : xk_OkA xp_F (xp_P sc) xp_cl xp_BW xp_NW xp_SW xp_exn 43 1 (.invokeinterface 62 1) := ⟨rfl, Or.inl ⟨xwt_121, rfl⟩, rfl, rfl, xwt_1, by decide +kernel, by decide +kernel, Nat.le_of_ble_eq_true rfl, _, Or.inl xwt_118, Or.inr ⟨xd_43_1, xwt_120, xws_1, ⟨_, _, _, rfl, rfl⟩, by decide +kernel⟩⟩
theorem xk_43_2 : xk_OkA xp_F (xp_P sc) xp_cl xp_BW xp_NW xp_SW xp_exn 43 2 (.iload 1) := Or.inr ⟨1, rfl, xd_43_4, rfl⟩
theorem xk_43_3 : xk_OkA xp_F (xp_P sc) xp_cl xp_BW xp_NW xp_SW xp_exn 43 3 (.iload 2) := Or.inr ⟨2, rfl, xd_43_5, rfl⟩
theorem xk_43_4 : xk_OkA xp_F (xp_P sc) xp_cl xp_BW xp_NW xp_SW xp_exn 43 4 (.invokeinterface 72 2) := ⟨rfl, Or.inl ⟨xwt_384, rfl⟩, rfl, rfl, xwt_1, by decide +kernel, by decide +kernel, Nat.le_of_ble_eq_true rfl, _, Or.inl xwt_382, Or.inl ⟨xd_43_6, xwt_383, rfl, by decide +kernel⟩⟩
theorem xk_43_5 : xk_OkA xp_F (xp_P sc) xp_cl xp_BW xp_NW xp_SW xp_exn 43 5 (.ifCond .eq 10) := ⟨_, xd_43_9, by unfold xf_to; decide +kernel, rfl⟩
theorem xk_43_6 : xk_OkA xp_F (xp_P sc) xp_cl xp_BW xp_NW xp_SW xp_exn 43 6 (.iload 2) := Or.inr ⟨2, rfl, xd_43_12, rfl⟩
theorem xk_43_7 : xk_OkA xp_F (xp_P sc) xp_cl xp_BW xp_NW xp_SW xp_exn 43 7 (.iload 3) := Or.inr ⟨3, rfl, xd_43_13, rfl⟩
theorem xk_43_8 : xk_OkA xp_F (xp_P sc) xp_cl xp_BW xp_NW xp_SW xp_exn 43 8 (.invokeinterface 73 2) := ⟨rfl, Or.inl ⟨xwt_387, rfl⟩, rfl, rfl, xwt_1, by decide +kernel, by decide +kernel, Nat.le_of_ble_eq_true rfl, _, Or.inl xwt_385, Or.inl ⟨xd_43_14, xwt_386, rfl, by decide +kernel⟩⟩
theorem xk_43_9 : xk_OkA xp_F (xp_P sc) xp_cl xp_BW xp_NW xp_SW xp_exn 43 9 (.ifCond .ne 11) := ⟨_, xd_43_17, by unfold xf_to; decide +kernel, rfl⟩
theorem xk_43_10 : xk_OkA xp_F (xp_P sc) xp_cl xp_BW xp_NW xp_SW xp_exn 43 10 (.new 1) := ⟨48, 126, 52, _, xp_chain, xd_43_20, xd_43_23, List.mem_of_getElem? (i := 10) rfl, xwt_198, xwt_10, by decide +kernel, by decide +kernel, rfl, Or.inl ⟨xa_3_1, xo_3_1, by decide, by decide, Or.inl ⟨xd_43_24, xd_43_26, xd_43_29⟩⟩⟩
theorem xk_43_11 : xk_OkA xp_F (xp_P sc) xp_cl xp_BW xp_NW xp_SW xp_exn 43 11 (.aload 0) := Or.inr ⟨0, rfl, xd_43_30, rfl⟩
theorem xk_43_12 : xk_OkA xp_F (xp_P sc) xp_cl xp_BW xp_NW xp_SW xp_exn 43 12 (.invokeinterface 67 1) := ⟨rfl, Or.inl ⟨xwt_246, rfl⟩, rfl, rfl, xwt_1, by decide +kernel, by decide +kernel, Nat.le_of_ble_eq_true rfl, _, Or.inl xwt_243, Or.inr ⟨xd_43_31, xwt_245, xws_6, ⟨_, _, _, rfl, rfl⟩, by decide +kernel⟩⟩
theorem xk_43_13 : xk_OkA xp_F (xp_P sc) xp_cl xp_BW xp_NW xp_SW xp_exn 43 13 (.aload 0) := Or.inr ⟨0, rfl, xd_43_34, rfl⟩
theorem xk_43_14 : xk_OkA xp_F (xp_P sc) xp_cl xp_BW xp_NW xp_SW xp_exn 43 14 (.getfield 97) := ⟨_, xd_43_35, rfl, ⟨_, _, _, rfl, by decide, xu_3, Or.inl xwt_78⟩⟩
theorem xk_43_15 : xk_OkA xp_F (xp_P sc) xp_cl xp_BW xp_NW xp_SW xp_exn 43 15 (.invokeinterface 27 1) := ⟨rfl, Or.inl ⟨xwt_392, rfl⟩, rfl, rfl, xwt_3, by decide +kernel, by decide +kernel, Nat.le_of_ble_eq_true rfl, _, Or.inr ⟨_, xwn_389⟩, Or.inr ⟨xd_43_38, xwt_391, xws_30, ⟨_, _, _, rfl, rfl⟩, by decide +kernel⟩⟩
theorem xk_43_16 : xk_OkA xp_F (xp_P sc) xp_cl xp_BW xp_NW xp_SW xp_exn 43 16 (.istore 4) := Or.inl ⟨xd_43_41, rfl⟩
theorem xk_43_17 : xk_OkA xp_F (xp_P sc) xp_cl xp_BW xp_NW xp_SW xp_exn 43 17 (.iload 4) := Or.inl ⟨xd_43_43, rfl⟩
theorem xk_43_18 : xk_OkA xp_F (xp_P sc) xp_cl xp_BW xp_NW xp_SW xp_exn 43 18 (.iconst (-1)) := Or.inl ⟨xd_43_45, rfl⟩
theorem xk_43_19 : xk_OkA xp_F (xp_P sc) xp_cl xp_BW xp_NW xp_SW xp_exn 43 19 (.if_icmp .ne 21) := ⟨_, xd_43_46, by unfold xf_to; decide +kernel, rfl⟩
theorem xk_43_20 : xk_OkA xp_F (xp_P sc) xp_cl xp_BW xp_NW xp_SW xp_exn 43 20 (.new 2) := ⟨62, 131, 66, _, xp_chain, xd_43_49, xd_43_52, List.mem_of_getElem? (i := 11) rfl, xwt_227, xwt_11, by decide +kernel, by decide +kernel, rfl, Or.inl ⟨xa_3_2, xo_3_2, by decide, by decide, Or.inl ⟨xd_43_53, xd_43_55, xd_43_58⟩⟩⟩
theorem xk_43_21 : xk_OkA xp_F (xp_P sc) xp_cl xp_BW xp_NW xp_SW xp_exn 43 21 (.aload 0) := Or.inr ⟨0, rfl, xd_43_59, rfl⟩
theorem xk_43_22 : xk_OkA xp_F (xp_P sc) xp_cl xp_BW xp_NW xp_SW xp_exn 43 22 (.invokeinterface 85 1) := ⟨rfl, Or.inl ⟨xwt_259, rfl⟩, rfl, rfl, xwt_1, by decide +kernel, by decide +kernel, Nat.le_of_ble_eq_true rfl, _, Or.inl xwt_256, Or.inr ⟨xd_43_60, xwt_258, xws_9, ⟨_, _, _, rfl, rfl⟩, by decide +kernel⟩⟩
theorem xk_43_23 : xk_OkA xp_F (xp_P sc) xp_cl xp_BW xp_NW xp_SW xp_exn 43 23 (.aload 0) := Or.inr ⟨0, rfl, xd_43_63, rfl⟩
theorem xk_43_24 : xk_OkA xp_F (xp_P sc) xp_cl xp_BW xp_NW xp_SW xp_exn 43 24 (.getfield 98) := ⟨_, xd_43_64, rfl, ⟨_, _, _, rfl, by decide, xu_3, Or.inl xwt_79⟩⟩
theorem xk_43_25 : xk_OkA xp_F (xp_P sc) xp_cl xp_BW xp_NW xp_SW xp_exn 43 25 (.iload 4) := Or.inl ⟨xd_43_67, rfl⟩
theorem xk_43_26 : xk_OkA xp_F (xp_P sc) xp_cl xp_BW xp_NW xp_SW xp_exn 43 26 (.iload 1) := Or.inr ⟨1, rfl, xd_43_69, rfl⟩
theorem xk_43_27 : xk_OkA xp_F (xp_P sc) xp_cl xp_BW xp_NW xp_SW xp_exn 43 27 (.iload 2) := Or.inr ⟨2, rfl, xd_43_70, rfl⟩
theorem xk_43_28 : xk_OkA xp_F (xp_P sc) xp_cl xp_BW xp_NW xp_SW xp_exn 43 28 (.iload 3) := Or.inr ⟨3, rfl, xd_43_71, rfl⟩
theorem xk_43_29 : xk_OkA xp_F (xp_P sc) xp_cl xp_BW xp_NW xp_SW xp_exn 43 29 (.invokeinterface 28 5) := ⟨rfl, Or.inl ⟨xwt_401, rfl⟩, rfl, rfl, xwt_3, by decide +kernel, by decide +kernel, Nat.le_of_ble_eq_true rfl, _, Or.inr ⟨_, xwn_398⟩, Or.inr ⟨xd_43_72, xwt_400, xws_32, ⟨_, _, _, rfl, rfl⟩, by decide +kernel⟩⟩
theorem xk_43_30 : xk_OkA xp_F (xp_P sc) xp_cl xp_BW xp_NW xp_SW xp_exn 43 30 (.aload 0) := Or.inr ⟨0, rfl, xd_43_75, rfl⟩
theorem xk_43_31 : xk_OkA xp_F (xp_P sc) xp_cl xp_BW xp_NW xp_SW xp_exn 43 31 (.iload 4) := Or.inl ⟨xd_43_76, rfl⟩
theorem xk_43_32 : xk_OkA xp_F (xp_P sc) xp_cl xp_BW xp_NW xp_SW xp_exn 43 32 (.iconst 0) := Or.inl ⟨xd_43_78, rfl⟩
theorem xk_43_33 : xk_OkA xp_F (xp_P sc) xp_cl xp_BW xp_NW xp_SW xp_exn 43 33 (.invokeinterface 97 3) := ⟨rfl, Or.inl ⟨xwt_405, rfl⟩, rfl, rfl, xwt_1, by decide +kernel, by decide +kernel, Nat.le_of_ble_eq_true rfl, _, Or.inl xwt_402, Or.inr ⟨xd_43_79, xwt_404, xws_33, ⟨_, _, _, rfl, rfl⟩, by decide +kernel⟩⟩
theorem xk_43_34 : xk_OkA xp_F (xp_P sc) xp_cl xp_BW xp_NW xp_SW xp_exn 43 34 (.iload 4) := Or.inl ⟨xd_43_82, rfl⟩
theorem xk_43_35 : xk_OkA xp_F (xp_P sc) xp_cl xp_BW xp_NW xp_SW xp_exn 43 35 (.ireturn) := ⟨xd_43_84, rfl⟩
theorem xl_43 : xk_OkL xp_F (xp_P sc) xp_cl xp_BW xp_NW xp_SW xp_exn 43 0 xc_43 := ⟨xk_43_0, xk_43_1, xk_43_2, xk_43_3, xk_43_4, xk_43_5, xk_43_6, xk_43_7, xk_43_8, xk_43_9, xk_43_10, xk_43_11, xk_43_12, xk_43_13, xk_43_14, xk_43_15, xk_43_16, xk_43_17, xk_43_18, xk_43_19, xk_43_20, xk_43_21, xk_43_22, xk_43_23, xk_43_24, xk_43_25, xk_43_26, xk_43_27, xk_43_28, xk_43_29, xk_43_30, xk_43_31, xk_43_32, xk_43_33, xk_43_34, xk_43_35, trivial⟩
theorem xd_44_0 : decode prog_1_method_6_code 0 = .ok (.aload_n 0, 1) := by decide +kernel
theorem xd_44_1 : decode prog_1_method_6_code 1 = .ok (.invokevirtual 41, 3) := by decide +kernel
theorem xd_44_4 : decode prog_1_method_6_code 4 = .ok (.aload_n 0, 1) := by decide +kernel
theorem xd_44_5 : decode prog_1_method_6_code 5 = .ok (.iload_n 1, 1) := by decide +kernel
theorem xd_44_6 : decode prog_1_method_6_code 6 = .ok (.invokevirtual 140, 3) := by decide +kernel
theorem xd_44_9 : decode prog_1_method_6_code 9 = .ok (.aload_n 0, 1) := by decide +kernel
theorem xd_44_10 : decode prog_1_method_6_code 10 = .ok (.getfield 19, 3) := by decide +kernel
theorem xd_44_13 : decode prog_1_method_6_code 13 = .ok (.iload_n 1, 1) := by decide +kernel
theorem xd_44_14 : decode prog_1_method_6_code 14 = .ok (.invokevirtual 143, 3) := by decide +kernel
theorem xd_44_17 : decode prog_1_method_6_code 17 = .ok (.istore_n 3, 1) := by decide +kernel
theorem xd_44_18 : decode prog_1_method_6_code 18 = .ok (.iload_n 2, 1) := by decide +kernel
theorem xd_44_19 : decode prog_1_method_6_code 19 = .ok (.iconst 1, 1) := by decide +kernel
theorem xd_44_20 : decode prog_1_method_6_code 20 = .ok (.if_icmp .lt 25, 3) := by decide +kernel
theorem xd_44_23 : decode prog_1_method_6_code 23 = .ok (.iload_n 2, 1) := by decide +kernel
theorem xd_44_24 : decode prog_1_method_6_code 24 = .ok (.iconst 5, 1) := by decide +kernel
theorem xd_44_25 : decode prog_1_method_6_code 25 = .ok (.if_icmp .gt 20, 3) := by decide +kernel
theorem xd_44_28 : decode prog_1_method_6_code 28 = .ok (.aload_n 0, 1) := by decide +kernel
theorem xd_44_29 : decode prog_1_method_6_code 29 = .ok (.getfield 19, 3) := by decide +kernel
theorem xd_44_32 : decode prog_1_method_6_code 32 = .ok (.iload_n 1, 1) := by decide +kernel
theorem xd_44_33 : decode prog_1_method_6_code 33 = .ok (.invokevirtual 146, 3) := by decide +kernel
theorem xd_44_36 : decode prog_1_method_6_code 36 = .ok (.iload_n 3, 1) := by decide +kernel
theorem xd_44_37 : decode prog_1_method_6_code 37 = .ok (.iload_n 2, 1) := by decide +kernel
theorem xd_44_38 : decode prog_1_method_6_code 38 = .ok (.iadd, 1) := by decide +kernel
theorem xd_44_39 : decode prog_1_method_6_code 39 = .ok (.invokestatic 123, 3) := by decide +kernel
theorem xd_44_42 : decode prog_1_method_6_code 42 = .ok (.ifCond .ne 13, 3) := by decide +kernel
theorem xd_44_45 : decode prog_1_method_6_code 45 = .ok (.new 48, 3) := by decide +kernel
theorem xd_44_48 : decode prog_1_method_6_code 48 = .ok (.dup, 1) := by decide +kernel
theorem xd_44_49 : decode prog_1_method_6_code 49 = .ok (.ldc 149, 2) := by decide +kernel
theorem xd_44_51 : decode prog_1_method_6_code 51 = .ok (.invokespecial 52, 3) := by decide +kernel
theorem xd_44_54 : decode prog_1_method_6_code 54 = .ok (.athrow, 1) := by decide +kernel
theorem xd_44_55 : decode prog_1_method_6_code 55 = .ok (.aload_n 0, 1) := by decide +kernel
theorem xd_44_56 : decode prog_1_method_6_code 56 = .ok (.invokevirtual 67, 3) := by decide +kernel
theorem xd_44_59 : decode prog_1_method_6_code 59 = .ok (.aload_n 0, 1) := by decide +kernel
theorem xd_44_60 : decode prog_1_method_6_code 60 = .ok (.invokevirtual 73, 3) := by decide +kernel
theorem xd_44_63 : decode prog_1_method_6_code 63 = .ok (.aload_n 0, 1) := by decide +kernel
theorem xd_44_64 : decode prog_1_method_6_code 64 = .ok (.getfield 23, 3) := by decide +kernel
theorem xd_44_67 : decode prog_1_method_6_code 67 = .ok (.iload_n 1, 1) := by decide +kernel
theorem xd_44_68 : decode prog_1_method_6_code 68 = .ok (.aload_n 0, 1) := by decide +kernel
theorem xd_44_69 : decode prog_1_method_6_code 69 = .ok (.getfield 19, 3) := by decide +kernel
theorem xd_44_72 : decode prog_1_method_6_code 72 = .ok (.iload_n 1, 1) := by decide +kernel
theorem xd_44_73 : decode prog_1_method_6_code 73 = .ok (.invokevirtual 151, 3) := by decide +kernel
theorem xd_44_76 : decode prog_1_method_6_code 76 = .ok (.aload_n 0, 1) := by decide +kernel
theorem xd_44_77 : decode prog_1_method_6_code 77 = .ok (.getfield 19, 3) := by decide +kernel
theorem xd_44_80 : decode prog_1_method_6_code 80 = .ok (.iload_n 1, 1) := by decide +kernel
theorem xd_44_81 : decode prog_1_method_6_code 81 = .ok (.invokevirtual 146, 3) := by decide +kernel
theorem xd_44_84 : decode prog_1_method_6_code 84 = .ok (.iload_n 3, 1) := by decide +kernel
theorem xd_44_85 : decode prog_1_method_6_code 85 = .ok (.iload_n 2, 1) := by decide +kernel
theorem xd_44_86 : decode prog_1_method_6_code 86 = .ok (.iadd, 1) := by decide +kernel
theorem xd_44_87 : decode prog_1_method_6_code 87 = .ok (.invokevirtual 133, 3) := by decide +kernel
theorem xd_44_90 : decode prog_1_method_6_code 90 = .ok (.aload_n 0, 1) := by decide +kernel
theorem xd_44_91 : decode prog_1_method_6_code 91 = .ok (.iload_n 1, 1) := by decide +kernel
theorem xd_44_92 : decode prog_1_method_6_code 92 = .ok (.iload_n 3, 1) := by decide +kernel
theorem xd_44_93 : decode prog_1_method_6_code 93 = .ok (.invokevirtual 137, 3) := by decide +kernel
theorem xd_44_96 : decode prog_1_method_6_code 96 = .ok (.iload_n 3, 1) := by decide +kernel
theorem xd_44_97 : decode prog_1_method_6_code 97 = .ok (.iload_n 2, 1) := by decide +kernel
theorem xd_44_98 : decode prog_1_method_6_code 98 = .ok (.iadd, 1) := by decide +kernel
theorem xd_44_99 : decode prog_1_method_6_code 99 = .ok (.ireturn, 1) := by decide +kernel
theorem xk_44_0 : xk_OkA xp_F (xp_P sc) xp_cl xp_BW xp_NW xp_SW xp_exn 44 0 (.aload 0) := Or.inr ⟨0, rfl, xd_44_0, rfl⟩
theorem xk_44_1 : xk_OkA xp_F (xp_P sc) xp_cl xp_BW xp_NW xp_SW xp_exn 44 1 (.invokeinterface 62 1) := ⟨rfl, Or.inl ⟨xwt_121, rfl⟩, rfl, rfl, xwt_1, by decide +kernel, by decide +kernel, Nat.le_of_ble_eq_true rfl, _, Or.inl xwt_118, Or.inr ⟨xd_44_1, xwt_120, xws_1, ⟨_, _, _, rfl, rfl⟩, by decide +kernel⟩⟩
theorem xk_44_2 : xk_OkA xp_F (xp_P sc) xp_cl xp_BW xp_NW xp_SW xp_exn 44 2 (.aload 0) := Or.inr ⟨0, rfl, xd_44_4, rfl⟩
theorem xk_44_3 : xk_OkA xp_F (xp_P sc) xp_cl xp_BW xp_NW xp_SW xp_exn 44 3 (.iload 1) := Or.inr ⟨1, rfl, xd_44_5, rfl⟩
theorem xk_44_4 : xk_OkA xp_F (xp_P sc) xp_cl xp_BW xp_NW xp_SW xp_exn 44 4 (.invokeinterface 68 2) := ⟨rfl, Or.inl ⟨xwt_481, rfl⟩, rfl, rfl, xwt_1, by decide +kernel, by decide +kernel, Nat.le_of_ble_eq_true rfl, _, Or.inl xwt_478, Or.inr ⟨xd_44_6, xwt_480, xws_47, ⟨_, _, _, rfl, rfl⟩, by decide +kernel⟩⟩
theorem xk_44_5 : xk_OkA xp_F (xp_P sc) xp_cl xp_BW xp_NW xp_SW xp_exn 44 5 (.aload 0) := Or.inr ⟨0, rfl, xd_44_9, rfl⟩
theorem xk_44_6 : xk_OkA xp_F (xp_P sc) xp_cl xp_BW xp_NW xp_SW xp_exn 44 6 (.getfield 97) := ⟨_, xd_44_10, rfl, ⟨_, _, _, rfl, by decide, xu_3, Or.inl xwt_78⟩⟩
theorem xk_44_7 : xk_OkA xp_F (xp_P sc) xp_cl xp_BW xp_NW xp_SW xp_exn 44 7 (.iload 1) := Or.inr ⟨1, rfl, xd_44_13, rfl⟩
theorem xk_44_8 : xk_OkA xp_F (xp_P sc) xp_cl xp_BW xp_NW xp_SW xp_exn 44 8 (.invokeinterface 31 2) := ⟨rfl, Or.inl ⟨xwt_413, rfl⟩, rfl, rfl, xwt_3, by decide +kernel, by decide +kernel, Nat.le_of_ble_eq_true rfl, _, Or.inr ⟨_, xwn_410⟩, Or.inr ⟨xd_44_14, xwt_412, xws_35, ⟨_, _, _, rfl, rfl⟩, by decide +kernel⟩⟩
theorem xk_44_9 : xk_OkA xp_F (xp_P sc) xp_cl xp_BW xp_NW xp_SW xp_exn 44 9 (.istore 3) := Or.inr ⟨3, rfl, xd_44_17, rfl⟩
theorem xk_44_10 : xk_OkA xp_F (xp_P sc) xp_cl xp_BW xp_NW xp_SW xp_exn 44 10 (.iload 2) := Or.inr ⟨2, rfl, xd_44_18, rfl⟩
theorem xk_44_11 : xk_OkA xp_F (xp_P sc) xp_cl xp_BW xp_NW xp_SW xp_exn 44 11 (.iconst 1) := Or.inl ⟨xd_44_19, rfl⟩
theorem xk_44_12 : xk_OkA xp_F (xp_P sc) xp_cl xp_BW xp_NW xp_SW xp_exn 44 12 (.if_icmp .lt 25) := ⟨_, xd_44_20, by unfold xf_to; decide +kernel, rfl⟩
theorem xk_44_13 : xk_OkA xp_F (xp_P sc) xp_cl xp_BW xp_NW xp_SW xp_exn 44 13 (.iload 2) := Or.inr ⟨2, rfl, xd_44_23, rfl⟩
theorem xk_44_14 : xk_OkA xp_F (xp_P sc) xp_cl xp_BW xp_NW xp_SW xp_exn 44 14 (.iconst 5) := Or.inl ⟨xd_44_24, rfl⟩
theorem xk_44_15 : xk_OkA xp_F (xp_P sc) xp_cl xp_BW xp_NW xp_SW xp_exn 44 15 (.if_icmp .gt 25) := ⟨_, xd_44_25, by unfold xf_to; decide +kernel, rfl⟩
theorem xk_44_16 : xk_OkA xp_F (xp_P sc) xp_cl xp_BW xp_NW xp_SW xp_exn 44 16 (.aload 0) := Or.inr ⟨0, rfl, xd_44_28, rfl⟩
theorem xk_44_17 : xk_OkA xp_F (xp_P sc) xp_cl xp_BW xp_NW xp_SW xp_exn 44 17 (.getfield 97) := ⟨_, xd_44_29, rfl, ⟨_, _, _, rfl, by decide, xu_3, Or.inl xwt_78⟩⟩
theorem xk_44_18 : xk_OkA xp_F (xp_P sc) xp_cl xp_BW xp_NW xp_SW xp_exn 44 18 (.iload 1) := Or.inr ⟨1, rfl, xd_44_32, rfl⟩
theorem xk_44_19 : xk_OkA xp_F (xp_P sc) xp_cl xp_BW xp_NW xp_SW xp_exn 44 19 (.invokeinterface 30 2) := ⟨rfl, Or.inl ⟨xwt_429, rfl⟩, rfl, rfl, xwt_3, by decide +kernel, by decide +kernel, Nat.le_of_ble_eq_true rfl, _, Or.inr ⟨_, xwn_426⟩, Or.inr ⟨xd_44_33, xwt_428, xws_39, ⟨_, _, _, rfl, rfl⟩, by decide +kernel⟩⟩
theorem xk_44_20 : xk_OkA xp_F (xp_P sc) xp_cl xp_BW xp_NW xp_SW xp_exn 44 20 (.iload 3) := Or.inr ⟨3, rfl, xd_44_36, rfl⟩
theorem xk_44_21 : xk_OkA xp_F (xp_P sc) xp_cl xp_BW xp_NW xp_SW xp_exn 44 21 (.iload 2) := Or.inr ⟨2, rfl, xd_44_37, rfl⟩
theorem xk_44_22 : xk_OkA xp_F (xp_P sc) xp_cl xp_BW xp_NW xp_SW xp_exn 44 22 (.iadd) := ⟨xd_44_38, rfl⟩
theorem xk_44_23 : xk_OkA xp_F (xp_P sc) xp_cl xp_BW xp_NW xp_SW xp_exn 44 23 (.invokeinterface 73 2) := ⟨rfl, Or.inl ⟨xwt_387, rfl⟩, rfl, rfl, xwt_1, by decide +kernel, by decide +kernel, Nat.le_of_ble_eq_true rfl, _, Or.inl xwt_385, Or.inl ⟨xd_44_39, xwt_386, rfl, by decide +kernel⟩⟩
theorem xk_44_24 : xk_OkA xp_F (xp_P sc) xp_cl xp_BW xp_NW xp_SW xp_exn 44 24 (.ifCond .ne 26) := ⟨_, xd_44_42, by unfold xf_to; decide +kernel, rfl⟩
theorem xk_44_25 : xk_OkA xp_F (xp_P sc) xp_cl xp_BW xp_NW xp_SW xp_exn 44 25 (.new 1) := ⟨48, 149, 52, _, xp_chain, xd_44_45, xd_44_48, List.mem_of_getElem? (i := 13) rfl, xwt_198, xwt_10, by decide +kernel, by decide +kernel, rfl, Or.inl ⟨xa_3_1, xo_3_1, by decide, by decide, Or.inl ⟨xd_44_49, xd_44_51, xd_44_54⟩⟩⟩
theorem xk_44_26 : xk_OkA xp_F (xp_P sc) xp_cl xp_BW xp_NW xp_SW xp_exn 44 26 (.aload 0) := Or.inr ⟨0, rfl, xd_44_55, rfl⟩
theorem xk_44_27 : xk_OkA xp_F (xp_P sc) xp_cl xp_BW xp_NW xp_SW xp_exn 44 27 (.invokeinterface 67 1) := ⟨rfl, Or.inl ⟨xwt_246, rfl⟩, rfl, rfl, xwt_1, by decide +kernel, by decide +kernel, Nat.le_of_ble_eq_true rfl, _, Or.inl xwt_243, Or.inr ⟨xd_44_56, xwt_245, xws_6, ⟨_, _, _, rfl, rfl⟩, by decide +kernel⟩⟩
theorem xk_44_28 : xk_OkA xp_F (xp_P sc) xp_cl xp_BW xp_NW xp_SW xp_exn 44 28 (.aload 0) := Or.inr ⟨0, rfl, xd_44_59, rfl⟩
theorem xk_44_29 : xk_OkA xp_F (xp_P sc) xp_cl xp_BW xp_NW xp_SW xp_exn 44 29 (.invokeinterface 85 1) := ⟨rfl, Or.inl ⟨xwt_259, rfl⟩, rfl, rfl, xwt_1, by decide +kernel, by decide +kernel, Nat.le_of_ble_eq_true rfl, _, Or.inl xwt_256, Or.inr ⟨xd_44_60, xwt_258, xws_9, ⟨_, _, _, rfl, rfl⟩, by decide +kernel⟩⟩
theorem xk_44_30 : xk_OkA xp_F (xp_P sc) xp_cl xp_BW xp_NW xp_SW xp_exn 44 30 (.aload 0) := Or.inr ⟨0, rfl, xd_44_63, rfl⟩
theorem xk_44_31 : xk_OkA xp_F (xp_P sc) xp_cl xp_BW xp_NW xp_SW xp_exn 44 31 (.getfield 98) := ⟨_, xd_44_64, rfl, ⟨_, _, _, rfl, by decide, xu_3, Or.inl xwt_79⟩⟩
theorem xk_44_32 : xk_OkA xp_F (xp_P sc) xp_cl xp_BW xp_NW xp_SW xp_exn 44 32 (.iload 1) := Or.inr ⟨1, rfl, xd_44_67, rfl⟩
theorem xk_44_33 : xk_OkA xp_F (xp_P sc) xp_cl xp_BW xp_NW xp_SW xp_exn 44 33 (.aload 0) := Or.inr ⟨0, rfl, xd_44_68, rfl⟩
theorem xk_44_34 : xk_OkA xp_F (xp_P sc) xp_cl xp_BW xp_NW xp_SW xp_exn 44 34 (.getfield 97) := ⟨_, xd_44_69, rfl, ⟨_, _, _, rfl, by decide, xu_3, Or.inl xwt_78⟩⟩
theorem xk_44_35 : xk_OkA xp_F (xp_P sc) xp_cl xp_BW xp_NW xp_SW xp_exn 44 35 (.iload 1) := Or.inr ⟨1, rfl, xd_44_72, rfl⟩
theorem xk_44_36 : xk_OkA xp_F (xp_P sc) xp_cl xp_BW xp_NW xp_SW xp_exn 44 36 (.invokeinterface 29 2) := ⟨rfl, Or.inl ⟨xwt_409, rfl⟩, rfl, rfl, xwt_3, by decide +kernel, by decide +kernel, Nat.le_of_ble_eq_true rfl, _, Or.inr ⟨_, xwn_406⟩, Or.inr ⟨xd_44_73, xwt_408, xws_34, ⟨_, _, _, rfl, rfl⟩, by decide +kernel⟩⟩
theorem xk_44_37 : xk_OkA xp_F (xp_P sc) xp_cl xp_BW xp_NW xp_SW xp_exn 44 37 (.aload 0) := Or.inr ⟨0, rfl, xd_44_76, rfl⟩
theorem xk_44_38 : xk_OkA xp_F (xp_P sc) xp_cl xp_BW xp_NW xp_SW xp_exn 44 38 (.getfield 97) := ⟨_, xd_44_77, rfl, ⟨_, _, _, rfl, by decide, xu_3, Or.inl xwt_78⟩⟩
theorem xk_44_39 : xk_OkA xp_F (xp_P sc) xp_cl xp_BW xp_NW xp_SW xp_exn 44 39 (.iload 1) := Or.inr ⟨1, rfl, xd_44_80, rfl⟩
theorem xk_44_40 : xk_OkA xp_F (xp_P sc) xp_cl xp_BW xp_NW xp_SW xp_exn 44 40 (.invokeinterface 30 2) := ⟨rfl, Or.inl ⟨xwt_429, rfl⟩, rfl, rfl, xwt_3, by decide +kernel, by decide +kernel, Nat.le_of_ble_eq_true rfl, _, Or.inr ⟨_, xwn_426⟩, Or.inr ⟨xd_44_81, xwt_428, xws_39, ⟨_, _, _, rfl, rfl⟩, by decide +kernel⟩⟩
theorem xk_44_41 : xk_OkA xp_F (xp_P sc) xp_cl xp_BW xp_NW xp_SW xp_exn 44 41 (.iload 3) := Or.inr ⟨3, rfl, xd_44_84, rfl⟩
theorem xk_44_42 : xk_OkA xp_F (xp_P sc) xp_cl xp_BW xp_NW xp_SW xp_exn 44 42 (.iload 2) := Or.inr ⟨2, rfl, xd_44_85, rfl⟩
theorem xk_44_43 : xk_OkA xp_F (xp_P sc) xp_cl xp_BW xp_NW xp_SW xp_exn 44 43 (.iadd) := ⟨xd_44_86, rfl⟩
theorem xk_44_44 : xk_OkA xp_F (xp_P sc) xp_cl xp_BW xp_NW xp_SW xp_exn 44 44 (.invokeinterface 28 5) := ⟨rfl, Or.inl ⟨xwt_401, rfl⟩, rfl, rfl, xwt_3, by decide +kernel, by decide +kernel, Nat.le_of_ble_eq_true rfl, _, Or.inr ⟨_, xwn_398⟩, Or.inr ⟨xd_44_87, xwt_400, xws_32, ⟨_, _, _, rfl, rfl⟩, by decide +kernel⟩⟩
theorem xk_44_45 : xk_OkA xp_F (xp_P sc) xp_cl xp_BW xp_NW xp_SW xp_exn 44 45 (.aload 0) := Or.inr ⟨0, rfl, xd_44_90, rfl⟩
theorem xk_44_46 : xk_OkA xp_F (xp_P sc) xp_cl xp_BW xp_NW xp_SW xp_exn 44 46 (.iload 1) := Or.inr ⟨1, rfl, xd_44_91, rfl⟩
theorem xk_44_47 : xk_OkA xp_F (xp_P sc) xp_cl xp_BW xp_NW xp_SW xp_exn 44 47 (.iload 3) := Or.inr ⟨3, rfl, xd_44_92, rfl⟩
theorem xk_44_48 : xk_OkA xp_F (xp_P sc) xp_cl xp_BW xp_NW xp_SW xp_exn 44 48 (.invokeinterface 97 3) := ⟨rfl, Or.inl ⟨xwt_405, rfl⟩, rfl, rfl, xwt_1, by decide +kernel, by decide +kernel, Nat.le_of_ble_eq_true rfl, _, Or.inl xwt_402, Or.inr ⟨xd_44_93, xwt_404, xws_33, ⟨_, _, _, rfl, rfl⟩, by decide +kernel⟩⟩
theorem xk_44_49 : xk_OkA xp_F (xp_P sc) xp_cl xp_BW xp_NW xp_SW xp_exn 44 49 (.iload 3) := Or.inr ⟨3, rfl, xd_44_96, rfl⟩
theorem xk_44_50 : xk_OkA xp_F (xp_P sc) xp_cl xp_BW xp_NW xp_SW xp_exn 44 50 (.iload 2) := Or.inr ⟨2, rfl, xd_44_97, rfl⟩
theorem xk_44_51 : xk_OkA xp_F (xp_P sc) xp_cl xp_BW xp_NW xp_SW xp_exn 44 51 (.iadd) := ⟨xd_44_98, rfl⟩
theorem xk_44_52 : xk_OkA xp_F (xp_P sc) xp_cl xp_BW xp_NW xp_SW xp_exn 44 52 (.ireturn) := ⟨xd_44_99, rfl⟩
theorem xl_44 : xk_OkL xp_F (xp_P sc) xp_cl xp_BW xp_NW xp_SW xp_exn 44 0 xc_44 := ⟨xk_44_0, xk_44_1, xk_44_2, xk_44_3, xk_44_4, xk_44_5, xk_44_6, xk_44_7, xk_44_8, xk_44_9, xk_44_10, xk_44_11, xk_44_12, xk_44_13, xk_44_14, xk_44_15, xk_44_16, xk_44_17, xk_44_18, xk_44_19, xk_44_20, xk_44_21, xk_44_22, xk_44_23, xk_44_24, xk_44_25, xk_44_26, xk_44_27, xk_44_28, xk_44_29, xk_44_30, xk_44_31, xk_44_32, xk_44_33, xk_44_34, xk_44_35, xk_44_36, xk_44_37, xk_44_38, xk_44_39, xk_44_40, xk_44_41, xk_44_42, xk_44_43, xk_44_44, xk_44_45, xk_44_46, xk_44_47, xk_44_48, xk_44_49, xk_44_50, xk_44_51, xk_44_52, trivial⟩
end XkOk1
