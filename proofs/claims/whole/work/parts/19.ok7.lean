/-! The instructions of the methods, one by one: written by wip/whole/gen_tables.py. -/
section XkOk7
variable {sc : Nat × (Nat → Int32)}
theorem xd_150_0 : decode prog_6_method_45_code 0 = .ok (.aload_n 0, 1) := by decide +kernel
theorem xd_150_1 : decode prog_6_method_45_code 1 = .ok (.iconst 0, 1) := by decide +kernel
theorem xd_150_2 : decode prog_6_method_45_code 2 = .ok (.putfield 37, 3) := by decide +kernel
theorem xd_150_5 : decode prog_6_method_45_code 5 = .ok (.aload_n 0, 1) := by decide +kernel
theorem xd_150_6 : decode prog_6_method_45_code 6 = .ok (.getfield 20, 3) := by decide +kernel
theorem xd_150_9 : decode prog_6_method_45_code 9 = .ok (.ifCond .eq 10, 3) := by decide +kernel
theorem xd_150_12 : decode prog_6_method_45_code 12 = .ok (.aload_n 0, 1) := by decide +kernel
theorem xd_150_13 : decode prog_6_method_45_code 13 = .ok (.getfield 34, 3) := by decide +kernel
theorem xd_150_16 : decode prog_6_method_45_code 16 = .ok (.goto 4, 3) := by decide +kernel
theorem xd_150_19 : decode prog_6_method_45_code 19 = .ok (.iconst (-1), 1) := by decide +kernel
theorem xd_150_20 : decode prog_6_method_45_code 20 = .ok (.ireturn, 1) := by decide +kernel
theorem xk_150_0 : xk_OkA xp_F (xp_P sc) xp_cl xp_BW xp_NW xp_SW xp_exn 150 0 (.aload 0) := Or.inr ⟨0, rfl, xd_150_0, rfl⟩
theorem xk_150_1 : xk_OkA xp_F (xp_P sc) xp_cl xp_BW xp_NW xp_SW xp_exn 150 1 (.iconst 0) := Or.inl ⟨xd_150_1, rfl⟩
theorem xk_150_2 : xk_OkA xp_F (xp_P sc) xp_cl xp_BW xp_NW xp_SW xp_exn 150 2 (.putfield 128) := ⟨_, xd_150_2, rfl, ⟨_, _, _, rfl, by decide, xu_4, Or.inl xwt_754⟩, xf_4_0⟩
theorem xk_150_3 : xk_OkA xp_F (xp_P sc) xp_cl xp_BW xp_NW xp_SW xp_exn 150 3 (.aload 0) := Or.inr ⟨0, rfl, xd_150_5, rfl⟩
theorem xk_150_4 : xk_OkA xp_F (xp_P sc) xp_cl xp_BW xp_NW xp_SW xp_exn 150 4 (.getfield 132) := ⟨_, xd_150_6, rfl, ⟨_, _, _, rfl, by decide, xu_4, Or.inl xwt_758⟩⟩
theorem xk_150_5 : xk_OkA xp_F (xp_P sc) xp_cl xp_BW xp_NW xp_SW xp_exn 150 5 (.ifCond .eq 9) := ⟨_, xd_150_9, by unfold xf_to; decide +kernel, rfl⟩
theorem xk_150_6 : xk_OkA xp_F (xp_P sc) xp_cl xp_BW xp_NW xp_SW xp_exn 150 6 (.aload 0) := Or.inr ⟨0, rfl, xd_150_12, rfl⟩
theorem xk_150_7 : xk_OkA xp_F (xp_P sc) xp_cl xp_BW xp_NW xp_SW xp_exn 150 7 (.getfield 136) := ⟨_, xd_150_13, rfl, ⟨_, _, _, rfl, by decide, xu_4, Or.inl xwt_762⟩⟩
theorem xk_150_8 : xk_OkA xp_F (xp_P sc) xp_cl xp_BW xp_NW xp_SW xp_exn 150 8 (.goto 10) := ⟨_, xd_150_16, by unfold xf_to; decide +kernel⟩
theorem xk_150_9 : xk_OkA xp_F (xp_P sc) xp_cl xp_BW xp_NW xp_SW xp_exn 150 9 (.iconst (-1)) := Or.inl ⟨xd_150_19, rfl⟩
theorem xk_150_10 : xk_OkA xp_F (xp_P sc) xp_cl xp_BW xp_NW xp_SW xp_exn 150 10 (.ireturn) := ⟨xd_150_20, rfl⟩
theorem xl_150 : xk_OkL xp_F (xp_P sc) xp_cl xp_BW xp_NW xp_SW xp_exn 150 0 xc_150 := ⟨xk_150_0, xk_150_1, xk_150_2, xk_150_3, xk_150_4, xk_150_5, xk_150_6, xk_150_7, xk_150_8, xk_150_9, xk_150_10, trivial⟩
theorem xd_151_0 : decode prog_6_method_46_code 0 = .ok (.aload_n 0, 1) := by decide +kernel
theorem xd_151_1 : decode prog_6_method_46_code 1 = .ok (.aload_n 0, 1) := by decide +kernel
theorem xd_151_2 : decode prog_6_method_46_code 2 = .ok (.getfield 20, 3) := by decide +kernel
theorem xd_151_5 : decode prog_6_method_46_code 5 = .ok (.ifCond .ne 7, 3) := by decide +kernel
theorem xd_151_8 : decode prog_6_method_46_code 8 = .ok (.iconst 1, 1) := by decide +kernel
theorem xd_151_9 : decode prog_6_method_46_code 9 = .ok (.goto 29, 3) := by decide +kernel
theorem xd_151_12 : decode prog_6_method_46_code 12 = .ok (.aload_n 0, 1) := by decide +kernel
theorem xd_151_13 : decode prog_6_method_46_code 13 = .ok (.iload_n 1, 1) := by decide +kernel
theorem xd_151_14 : decode prog_6_method_46_code 14 = .ok (.invokevirtual 134, 3) := by decide +kernel
theorem xd_151_17 : decode prog_6_method_46_code 17 = .ok (.ifCond .ne 7, 3) := by decide +kernel
theorem xd_151_20 : decode prog_6_method_46_code 20 = .ok (.iconst 2, 1) := by decide +kernel
theorem xd_151_21 : decode prog_6_method_46_code 21 = .ok (.goto 17, 3) := by decide +kernel
theorem xd_151_24 : decode prog_6_method_46_code 24 = .ok (.iload_n 2, 1) := by decide +kernel
theorem xd_151_25 : decode prog_6_method_46_code 25 = .ok (.ifCond .lt 8, 3) := by decide +kernel
theorem xd_151_28 : decode prog_6_method_46_code 28 = .ok (.iload_n 2, 1) := by decide +kernel
theorem xd_151_29 : decode prog_6_method_46_code 29 = .ok (.iconst 3, 1) := by decide +kernel
theorem xd_151_30 : decode prog_6_method_46_code 30 = .ok (.if_icmp .le 7, 3) := by decide +kernel
theorem xd_151_33 : decode prog_6_method_46_code 33 = .ok (.iconst 3, 1) := by decide +kernel
theorem xd_151_34 : decode prog_6_method_46_code 34 = .ok (.goto 4, 3) := by decide +kernel
theorem xd_151_37 : decode prog_6_method_46_code 37 = .ok (.iconst 0, 1) := by decide +kernel
theorem xd_151_38 : decode prog_6_method_46_code 38 = .ok (.putfield 37, 3) := by decide +kernel
theorem xd_151_41 : decode prog_6_method_46_code 41 = .ok (.aload_n 0, 1) := by decide +kernel
theorem xd_151_42 : decode prog_6_method_46_code 42 = .ok (.getfield 37, 3) := by decide +kernel
theorem xd_151_45 : decode prog_6_method_46_code 45 = .ok (.ifCond .le 5, 3) := by decide +kernel
theorem xd_151_48 : decode prog_6_method_46_code 48 = .ok (.iconst 0, 1) := by decide +kernel
theorem xd_151_49 : decode prog_6_method_46_code 49 = .ok (.ireturn, 1) := by decide +kernel
theorem xd_151_50 : decode prog_6_method_46_code 50 = .ok (.aload_n 0, 1) := by decide +kernel
theorem xd_151_51 : decode prog_6_method_46_code 51 = .ok (.getfield 28, 3) := by decide +kernel
theorem xd_151_54 : decode prog_6_method_46_code 54 = .ok (.iload_n 1, 1) := by decide +kernel
theorem xd_151_55 : decode prog_6_method_46_code 55 = .ok (.invokestatic 86, 3) := by decide +kernel
theorem xd_151_58 : decode prog_6_method_46_code 58 = .ok (.istore_n 3, 1) := by decide +kernel
theorem xd_151_59 : decode prog_6_method_46_code 59 = .ok (.iload_n 2, 1) := by decide +kernel
theorem xd_151_60 : decode prog_6_method_46_code 60 = .ok (.ifCond .ne 14, 3) := by decide +kernel
theorem xd_151_63 : decode prog_6_method_46_code 63 = .ok (.aload_n 0, 1) := by decide +kernel
theorem xd_151_64 : decode prog_6_method_46_code 64 = .ok (.getfield 28, 3) := by decide +kernel
theorem xd_151_67 : decode prog_6_method_46_code 67 = .ok (.iload_n 1, 1) := by decide +kernel
theorem xd_151_68 : decode prog_6_method_46_code 68 = .ok (.invokestatic 75, 3) := by decide +kernel
theorem xd_151_71 : decode prog_6_method_46_code 71 = .ok (.goto 31, 3) := by decide +kernel
theorem xd_151_74 : decode prog_6_method_46_code 74 = .ok (.iload_n 2, 1) := by decide +kernel
theorem xd_151_75 : decode prog_6_method_46_code 75 = .ok (.iconst 1, 1) := by decide +kernel
theorem xd_151_76 : decode prog_6_method_46_code 76 = .ok (.if_icmp .ne 14, 3) := by decide +kernel
theorem xd_151_79 : decode prog_6_method_46_code 79 = .ok (.aload_n 0, 1) := by decide +kernel
theorem xd_151_80 : decode prog_6_method_46_code 80 = .ok (.getfield 28, 3) := by decide +kernel
theorem xd_151_83 : decode prog_6_method_46_code 83 = .ok (.iload_n 1, 1) := by decide +kernel
theorem xd_151_84 : decode prog_6_method_46_code 84 = .ok (.invokestatic 79, 3) := by decide +kernel
theorem xd_151_87 : decode prog_6_method_46_code 87 = .ok (.goto 15, 3) := by decide +kernel
theorem xd_151_90 : decode prog_6_method_46_code 90 = .ok (.iload_n 2, 1) := by decide +kernel
theorem xd_151_91 : decode prog_6_method_46_code 91 = .ok (.iconst 2, 1) := by decide +kernel
theorem xd_151_92 : decode prog_6_method_46_code 92 = .ok (.if_icmp .ne 7, 3) := by decide +kernel
theorem xd_151_95 : decode prog_6_method_46_code 95 = .ok (.iload_n 3, 1) := by decide +kernel
theorem xd_151_96 : decode prog_6_method_46_code 96 = .ok (.goto 6, 3) := by decide +kernel
theorem xd_151_99 : decode prog_6_method_46_code 99 = .ok (.iconst 4, 1) := by decide +kernel
theorem xd_151_100 : decode prog_6_method_46_code 100 = .ok (.iload_n 3, 1) := by decide +kernel
theorem xd_151_101 : decode prog_6_method_46_code 101 = .ok (.imul, 1) := by decide +kernel
theorem xd_151_102 : decode prog_6_method_46_code 102 = .ok (.ireturn, 1) := by decide +kernel
theorem xk_151_0 : xk_OkA xp_F (xp_P sc) xp_cl xp_BW xp_NW xp_SW xp_exn 151 0 (.aload 0) := Or.inr ⟨0, rfl, xd_151_0, rfl⟩
theorem xk_151_1 : xk_OkA xp_F (xp_P sc) xp_cl xp_BW xp_NW xp_SW xp_exn 151 1 (.aload 0) := Or.inr ⟨0, rfl, xd_151_1, rfl⟩
theorem xk_151_2 : xk_OkA xp_F (xp_P sc) xp_cl xp_BW xp_NW xp_SW xp_exn 151 2 (.getfield 132) := ⟨_, xd_151_2, rfl, ⟨_, _, _, rfl, by decide, xu_4, Or.inl xwt_758⟩⟩
theorem xk_151_3 : xk_OkA xp_F (xp_P sc) xp_cl xp_BW xp_NW xp_SW xp_exn 151 3 (.ifCond .ne 6) := ⟨_, xd_151_5, by unfold xf_to; decide +kernel, rfl⟩
theorem xk_151_4 : xk_OkA xp_F (xp_P sc) xp_cl xp_BW xp_NW xp_SW xp_exn 151 4 (.iconst 1) := Or.inl ⟨xd_151_8, rfl⟩
theorem xk_151_5 : xk_OkA xp_F (xp_P sc) xp_cl xp_BW xp_NW xp_SW xp_exn 151 5 (.goto 20) := ⟨_, xd_151_9, by unfold xf_to; decide +kernel⟩
theorem xk_151_6 : xk_OkA xp_F (xp_P sc) xp_cl xp_BW xp_NW xp_SW xp_exn 151 6 (.aload 0) := Or.inr ⟨0, rfl, xd_151_12, rfl⟩
theorem xk_151_7 : xk_OkA xp_F (xp_P sc) xp_cl xp_BW xp_NW xp_SW xp_exn 151 7 (.iload 1) := Or.inr ⟨1, rfl, xd_151_13, rfl⟩
theorem xk_151_8 : xk_OkA xp_F (xp_P sc) xp_cl xp_BW xp_NW xp_SW xp_exn 151 8 (.invokeinterface 115 2) := ⟨rfl, Or.inl ⟨xwt_910, rfl⟩, rfl, rfl, xwt_5, by decide +kernel, by decide +kernel, Nat.le_of_ble_eq_true rfl, _, Or.inl xwt_907, Or.inr ⟨xd_151_14, xwt_909, xws_94, ⟨_, _, _, rfl, rfl⟩, by decide +kernel⟩⟩
theorem xk_151_9 : xk_OkA xp_F (xp_P sc) xp_cl xp_BW xp_NW xp_SW xp_exn 151 9 (.ifCond .ne 12) := ⟨_, xd_151_17, by unfold xf_to; decide +kernel, rfl⟩
theorem xk_151_10 : xk_OkA xp_F (xp_P sc) xp_cl xp_BW xp_NW xp_SW xp_exn 151 10 (.iconst 2) := Or.inl ⟨xd_151_20, rfl⟩
theorem xk_151_11 : xk_OkA xp_F (xp_P sc) xp_cl xp_BW xp_NW xp_SW xp_exn 151 11 (.goto 20) := ⟨_, xd_151_21, by unfold xf_to; decide +kernel⟩
theorem xk_151_12 : xk_OkA xp_F (xp_P sc) xp_cl xp_BW xp_NW xp_SW xp_exn 151 12 (.iload 2) := Or.inr ⟨2, rfl, xd_151_24, rfl⟩
theorem xk_151_13 : xk_OkA xp_F (xp_P sc) xp_cl xp_BW xp_NW xp_SW xp_exn 151 13 (.ifCond .lt 17) := ⟨_, xd_151_25, by unfold xf_to; decide +kernel, rfl⟩
theorem xk_151_14 : xk_OkA xp_F (xp_P sc) xp_cl xp_BW xp_NW xp_SW xp_exn 151 14 (.iload 2) := Or.inr ⟨2, rfl, xd_151_28, rfl⟩
theorem xk_151_15 : xk_OkA xp_F (xp_P sc) xp_cl xp_BW xp_NW xp_SW xp_exn 151 15 (.iconst 3) := Or.inl ⟨xd_151_29, rfl⟩
theorem xk_151_16 : xk_OkA xp_F (xp_P sc) xp_cl xp_BW xp_NW xp_SW xp_exn 151 16 (.if_icmp .le 19) := ⟨_, xd_151_30, by unfold xf_to; decide +kernel, rfl⟩
theorem xk_151_17 : xk_OkA xp_F (xp_P sc) xp_cl xp_BW xp_NW xp_SW xp_exn 151 17 (.iconst 3) := Or.inl ⟨xd_151_33, rfl⟩
theorem xk_151_18 : xk_OkA xp_F (xp_P sc) xp_cl xp_BW xp_NW xp_SW xp_exn 151 18 (.goto 20) := ⟨_, xd_151_34, by unfold xf_to; decide +kernel⟩
theorem xk_151_19 : xk_OkA xp_F (xp_P sc) xp_cl xp_BW xp_NW xp_SW xp_exn 151 19 (.iconst 0) := Or.inl ⟨xd_151_37, rfl⟩
theorem xk_151_20 : xk_OkA xp_F (xp_P sc) xp_cl xp_BW xp_NW xp_SW xp_exn 151 20 (.putfield 128) := ⟨_, xd_151_38, rfl, ⟨_, _, _, rfl, by decide, xu_4, Or.inl xwt_754⟩, xf_4_0⟩
theorem xk_151_21 : xk_OkA xp_F (xp_P sc) xp_cl xp_BW xp_NW xp_SW xp_exn 151 21 (.aload 0) := Or.inr ⟨0, rfl, xd_151_41, rfl⟩
theorem xk_151_22 : xk_OkA xp_F (xp_P sc) xp_cl xp_BW xp_NW xp_SW xp_exn 151 22 (.getfield 128) := ⟨_, xd_151_42, rfl, ⟨_, _, _, rfl, by decide, xu_4, Or.inl xwt_754⟩⟩
theorem xk_151_23 : xk_OkA xp_F (xp_P sc) xp_cl xp_BW xp_NW xp_SW xp_exn 151 23 (.ifCond .le 26) := ⟨_, xd_151_45, by unfold xf_to; decide +kernel, rfl⟩
theorem xk_151_24 : xk_OkA xp_F (xp_P sc) xp_cl xp_BW xp_NW xp_SW xp_exn 151 24 (.iconst 0) := Or.inl ⟨xd_151_48, rfl⟩
theorem xk_151_25 : xk_OkA xp_F (xp_P sc) xp_cl xp_BW xp_NW xp_SW xp_exn 151 25 (.ireturn) := ⟨xd_151_49, rfl⟩
theorem xk_151_26 : xk_OkA xp_F (xp_P sc) xp_cl xp_BW xp_NW xp_SW xp_exn 151 26 (.aload 0) := Or.inr ⟨0, rfl, xd_151_50, rfl⟩
theorem xk_151_27 : xk_OkA xp_F (xp_P sc) xp_cl xp_BW xp_NW xp_SW xp_exn 151 27 (.getfield 134) := ⟨_, xd_151_51, rfl, ⟨_, _, _, rfl, by decide, xu_4, Or.inl xwt_760⟩⟩
theorem xk_151_28 : xk_OkA xp_F (xp_P sc) xp_cl xp_BW xp_NW xp_SW xp_exn 151 28 (.iload 1) := Or.inr ⟨1, rfl, xd_151_54, rfl⟩
theorem xk_151_29 : xk_OkA xp_F (xp_P sc) xp_cl xp_BW xp_NW xp_SW xp_exn 151 29 (.invokeinterface 114 2) := ⟨rfl, Or.inl ⟨xwt_866, rfl⟩, rfl, rfl, xwt_5, by decide +kernel, by decide +kernel, Nat.le_of_ble_eq_true rfl, _, Or.inl xwt_864, Or.inl ⟨xd_151_55, xwt_865, rfl, by decide +kernel⟩⟩
theorem xk_151_30 : xk_OkA xp_F (xp_P sc) xp_cl xp_BW xp_NW xp_SW xp_exn 151 30 (.istore 3) := Or.inr ⟨3, rfl, xd_151_58, rfl⟩
theorem xk_151_31 : xk_OkA xp_F (xp_P sc) xp_cl xp_BW xp_NW xp_SW xp_exn 151 31 (.iload 2) := Or.inr ⟨2, rfl, xd_151_59, rfl⟩
theorem xk_151_32 : xk_OkA xp_F (xp_P sc) xp_cl xp_BW xp_NW xp_SW xp_exn 151 32 (.ifCond .ne 38) := ⟨_, xd_151_60, by unfold xf_to; decide +kernel, rfl⟩
theorem xk_151_33 : xk_OkA xp_F (xp_P sc) xp_cl xp_BW xp_NW xp_SW xp_exn 151 33 (.aload 0) := Or.inr ⟨0, rfl, xd_151_63, rfl⟩
theorem xk_151_34 : xk_OkA xp_F (xp_P sc) xp_cl xp_BW xp_NW xp_SW xp_exn 151 34 (.getfield 134) := ⟨_, xd_151_64, rfl, ⟨_, _, _, rfl, by decide, xu_4, Or.inl xwt_760⟩⟩
theorem xk_151_35 : xk_OkA xp_F (xp_P sc) xp_cl xp_BW xp_NW xp_SW xp_exn 151 35 (.iload 1) := Or.inr ⟨1, rfl, xd_151_67, rfl⟩
theorem xk_151_36 : xk_OkA xp_F (xp_P sc) xp_cl xp_BW xp_NW xp_SW xp_exn 151 36 (.invokeinterface 112 2) := ⟨rfl, Or.inl ⟨xwt_869, rfl⟩, rfl, rfl, xwt_5, by decide +kernel, by decide +kernel, Nat.le_of_ble_eq_true rfl, _, Or.inl xwt_867, Or.inl ⟨xd_151_68, xwt_868, rfl, by decide +kernel⟩⟩
theorem xk_151_37 : xk_OkA xp_F (xp_P sc) xp_cl xp_BW xp_NW xp_SW xp_exn 151 37 (.goto 54) := ⟨_, xd_151_71, by unfold xf_to; decide +kernel⟩
theorem xk_151_38 : xk_OkA xp_F (xp_P sc) xp_cl xp_BW xp_NW xp_SW xp_exn 151 38 (.iload 2) := Or.inr ⟨2, rfl, xd_151_74, rfl⟩
theorem xk_151_39 : xk_OkA xp_F (xp_P sc) xp_cl xp_BW xp_NW xp_SW xp_exn 151 39 (.iconst 1) := Or.inl ⟨xd_151_75, rfl⟩
theorem xk_151_40 : xk_OkA xp_F (xp_P sc) xp_cl xp_BW xp_NW xp_SW xp_exn 151 40 (.if_icmp .ne 46) := ⟨_, xd_151_76, by unfold xf_to; decide +kernel, rfl⟩
theorem xk_151_41 : xk_OkA xp_F (xp_P sc) xp_cl xp_BW xp_NW xp_SW xp_exn 151 41 (.aload 0) := Or.inr ⟨0, rfl, xd_151_79, rfl⟩
theorem xk_151_42 : xk_OkA xp_F (xp_P sc) xp_cl xp_BW xp_NW xp_SW xp_exn 151 42 (.getfield 134) := ⟨_, xd_151_80, rfl, ⟨_, _, _, rfl, by decide, xu_4, Or.inl xwt_760⟩⟩
theorem xk_151_43 : xk_OkA xp_F (xp_P sc) xp_cl xp_BW xp_NW xp_SW xp_exn 151 43 (.iload 1) := Or.inr ⟨1, rfl, xd_151_83, rfl⟩
theorem xk_151_44 : xk_OkA xp_F (xp_P sc) xp_cl xp_BW xp_NW xp_SW xp_exn 151 44 (.invokeinterface 113 2) := ⟨rfl, Or.inl ⟨xwt_883, rfl⟩, rfl, rfl, xwt_5, by decide +kernel, by decide +kernel, Nat.le_of_ble_eq_true rfl, _, Or.inl xwt_881, Or.inl ⟨xd_151_84, xwt_882, rfl, by decide +kernel⟩⟩
theorem xk_151_45 : xk_OkA xp_F (xp_P sc) xp_cl xp_BW xp_NW xp_SW xp_exn 151 45 (.goto 54) := ⟨_, xd_151_87, by unfold xf_to; decide +kernel⟩
theorem xk_151_46 : xk_OkA xp_F (xp_P sc) xp_cl xp_BW xp_NW xp_SW xp_exn 151 46 (.iload 2) := Or.inr ⟨2, rfl, xd_151_90, rfl⟩
theorem xk_151_47 : xk_OkA xp_F (xp_P sc) xp_cl xp_BW xp_NW xp_SW xp_exn 151 47 (.iconst 2) := Or.inl ⟨xd_151_91, rfl⟩
theorem xk_151_48 : xk_OkA xp_F (xp_P sc) xp_cl xp_BW xp_NW xp_SW xp_exn 151 48 (.if_icmp .ne 51) := ⟨_, xd_151_92, by unfold xf_to; decide +kernel, rfl⟩
theorem xk_151_49 : xk_OkA xp_F (xp_P sc) xp_cl xp_BW xp_NW xp_SW xp_exn 151 49 (.iload 3) := Or.inr ⟨3, rfl, xd_151_95, rfl⟩
theorem xk_151_50 : xk_OkA xp_F (xp_P sc) xp_cl xp_BW xp_NW xp_SW xp_exn 151 50 (.goto 54) := ⟨_, xd_151_96, by unfold xf_to; decide +kernel⟩
theorem xk_151_51 : xk_OkA xp_F (xp_P sc) xp_cl xp_BW xp_NW xp_SW xp_exn 151 51 (.iconst 4) := Or.inl ⟨xd_151_99, rfl⟩
theorem xk_151_52 : xk_OkA xp_F (xp_P sc) xp_cl xp_BW xp_NW xp_SW xp_exn 151 52 (.iload 3) := Or.inr ⟨3, rfl, xd_151_100, rfl⟩
theorem xk_151_53 : xk_OkA xp_F (xp_P sc) xp_cl xp_BW xp_NW xp_SW xp_exn 151 53 (.imul) := ⟨xd_151_101, rfl⟩
theorem xk_151_54 : xk_OkA xp_F (xp_P sc) xp_cl xp_BW xp_NW xp_SW xp_exn 151 54 (.ireturn) := ⟨xd_151_102, rfl⟩
theorem xl_151 : xk_OkL xp_F (xp_P sc) xp_cl xp_BW xp_NW xp_SW xp_exn 151 0 xc_151 := ⟨xk_151_0, xk_151_1, xk_151_2, xk_151_3, xk_151_4, xk_151_5, xk_151_6, xk_151_7, xk_151_8, xk_151_9, xk_151_10, xk_151_11, xk_151_12, xk_151_13, xk_151_14, xk_151_15, xk_151_16, xk_151_17, xk_151_18, xk_151_19, xk_151_20, xk_151_21, xk_151_22, xk_151_23, xk_151_24, xk_151_25, xk_151_26, xk_151_27, xk_151_28, xk_151_29, xk_151_30, xk_151_31, xk_151_32, xk_151_33, xk_151_34, xk_151_35, xk_151_36, xk_151_37, xk_151_38, xk_151_39, xk_151_40, xk_151_41, xk_151_42, xk_151_43, xk_151_44, xk_151_45, xk_151_46, xk_151_47, xk_151_48, xk_151_49, xk_151_50, xk_151_51, xk_151_52, xk_151_53, xk_151_54, trivial⟩
theorem xd_152_0 : decode prog_6_method_47_code 0 = .ok (.aload_n 0, 1) := by decide +kernel
theorem xd_152_1 : decode prog_6_method_47_code 1 = .ok (.aload_n 0, 1) := by decide +kernel
theorem xd_152_2 : decode prog_6_method_47_code 2 = .ok (.getfield 20, 3) := by decide +kernel
theorem xd_152_5 : decode prog_6_method_47_code 5 = .ok (.ifCond .ne 7, 3) := by decide +kernel
theorem xd_152_8 : decode prog_6_method_47_code 8 = .ok (.iconst 1, 1) := by decide +kernel
theorem xd_152_9 : decode prog_6_method_47_code 9 = .ok (.goto 16, 3) := by decide +kernel
theorem xd_152_12 : decode prog_6_method_47_code 12 = .ok (.aload_n 0, 1) := by decide +kernel
theorem xd_152_13 : decode prog_6_method_47_code 13 = .ok (.iload_n 1, 1) := by decide +kernel
theorem xd_152_14 : decode prog_6_method_47_code 14 = .ok (.invokevirtual 134, 3) := by decide +kernel
theorem xd_152_17 : decode prog_6_method_47_code 17 = .ok (.ifCond .ne 7, 3) := by decide +kernel
theorem xd_152_20 : decode prog_6_method_47_code 20 = .ok (.iconst 2, 1) := by decide +kernel
theorem xd_152_21 : decode prog_6_method_47_code 21 = .ok (.goto 4, 3) := by decide +kernel
theorem xd_152_24 : decode prog_6_method_47_code 24 = .ok (.iconst 0, 1) := by decide +kernel
theorem xd_152_25 : decode prog_6_method_47_code 25 = .ok (.putfield 37, 3) := by decide +kernel
theorem xd_152_28 : decode prog_6_method_47_code 28 = .ok (.aload_n 0, 1) := by decide +kernel
theorem xd_152_29 : decode prog_6_method_47_code 29 = .ok (.getfield 37, 3) := by decide +kernel
theorem xd_152_32 : decode prog_6_method_47_code 32 = .ok (.ifCond .gt 28, 3) := by decide +kernel
theorem xd_152_35 : decode prog_6_method_47_code 35 = .ok (.iload_n 2, 1) := by decide +kernel
theorem xd_152_36 : decode prog_6_method_47_code 36 = .ok (.ifCond .lt 24, 3) := by decide +kernel
theorem xd_152_39 : decode prog_6_method_47_code 39 = .ok (.iload_n 2, 1) := by decide +kernel
theorem xd_152_40 : decode prog_6_method_47_code 40 = .ok (.aload_n 0, 1) := by decide +kernel
theorem xd_152_41 : decode prog_6_method_47_code 41 = .ok (.getfield 28, 3) := by decide +kernel
theorem xd_152_44 : decode prog_6_method_47_code 44 = .ok (.iload_n 1, 1) := by decide +kernel
theorem xd_152_45 : decode prog_6_method_47_code 45 = .ok (.invokestatic 86, 3) := by decide +kernel
theorem xd_152_48 : decode prog_6_method_47_code 48 = .ok (.if_icmp .ge 12, 3) := by decide +kernel
theorem xd_152_51 : decode prog_6_method_47_code 51 = .ok (.iload_n 3, 1) := by decide +kernel
theorem xd_152_52 : decode prog_6_method_47_code 52 = .ok (.ifCond .lt 8, 3) := by decide +kernel
theorem xd_152_55 : decode prog_6_method_47_code 55 = .ok (.iload_n 3, 1) := by decide +kernel
theorem xd_152_56 : decode prog_6_method_47_code 56 = .ok (.iconst 1, 1) := by decide +kernel
theorem xd_152_57 : decode prog_6_method_47_code 57 = .ok (.if_icmp .le 16, 3) := by decide +kernel
theorem xd_152_60 : decode prog_6_method_47_code 60 = .ok (.aload_n 0, 1) := by decide +kernel
theorem xd_152_61 : decode prog_6_method_47_code 61 = .ok (.getfield 37, 3) := by decide +kernel
theorem xd_152_64 : decode prog_6_method_47_code 64 = .ok (.ifCond .le 7, 3) := by decide +kernel
theorem xd_152_67 : decode prog_6_method_47_code 67 = .ok (.iconst 0, 1) := by decide +kernel
theorem xd_152_68 : decode prog_6_method_47_code 68 = .ok (.goto 4, 3) := by decide +kernel
theorem xd_152_71 : decode prog_6_method_47_code 71 = .ok (.iconst (-1), 1) := by decide +kernel
theorem xd_152_72 : decode prog_6_method_47_code 72 = .ok (.ireturn, 1) := by decide +kernel
theorem xd_152_73 : decode prog_6_method_47_code 73 = .ok (.aload_n 0, 1) := by decide +kernel
theorem xd_152_74 : decode prog_6_method_47_code 74 = .ok (.getfield 28, 3) := by decide +kernel
theorem xd_152_77 : decode prog_6_method_47_code 77 = .ok (.bipush 9, 2) := by decide +kernel
theorem xd_152_79 : decode prog_6_method_47_code 79 = .ok (.bipush 10, 2) := by decide +kernel
theorem xd_152_81 : decode prog_6_method_47_code 81 = .ok (.iload_n 1, 1) := by decide +kernel
theorem xd_152_82 : decode prog_6_method_47_code 82 = .ok (.imul, 1) := by decide +kernel
theorem xd_152_83 : decode prog_6_method_47_code 83 = .ok (.iadd, 1) := by decide +kernel
theorem xd_152_84 : decode prog_6_method_47_code 84 = .ok (.iconst 2, 1) := by decide +kernel
theorem xd_152_85 : decode prog_6_method_47_code 85 = .ok (.iload_n 2, 1) := by decide +kernel
theorem xd_152_86 : decode prog_6_method_47_code 86 = .ok (.imul, 1) := by decide +kernel
theorem xd_152_87 : decode prog_6_method_47_code 87 = .ok (.iadd, 1) := by decide +kernel
theorem xd_152_88 : decode prog_6_method_47_code 88 = .ok (.iload_n 3, 1) := by decide +kernel
theorem xd_152_89 : decode prog_6_method_47_code 89 = .ok (.iadd, 1) := by decide +kernel
theorem xd_152_90 : decode prog_6_method_47_code 90 = .ok (.iaload, 1) := by decide +kernel
theorem xd_152_91 : decode prog_6_method_47_code 91 = .ok (.iconst 1, 1) := by decide +kernel
theorem xd_152_92 : decode prog_6_method_47_code 92 = .ok (.isub, 1) := by decide +kernel
theorem xd_152_93 : decode prog_6_method_47_code 93 = .ok (.ireturn, 1) := by decide +kernel
theorem xk_152_0 : xk_OkA xp_F (xp_P sc) xp_cl xp_BW xp_NW xp_SW xp_exn 152 0 (.aload 0) := Or.inr ⟨0, rfl, xd_152_0, rfl⟩
theorem xk_152_1 : xk_OkA xp_F (xp_P sc) xp_cl xp_BW xp_NW xp_SW xp_exn 152 1 (.aload 0) := Or.inr ⟨0, rfl, xd_152_1, rfl⟩
theorem xk_152_2 : xk_OkA xp_F (xp_P sc) xp_cl xp_BW xp_NW xp_SW xp_exn 152 2 (.getfield 132) := ⟨_, xd_152_2, rfl, ⟨_, _, _, rfl, by decide, xu_4, Or.inl xwt_758⟩⟩
theorem xk_152_3 : xk_OkA xp_F (xp_P sc) xp_cl xp_BW xp_NW xp_SW xp_exn 152 3 (.ifCond .ne 6) := ⟨_, xd_152_5, by unfold xf_to; decide +kernel, rfl⟩
theorem xk_152_4 : xk_OkA xp_F (xp_P sc) xp_cl xp_BW xp_NW xp_SW xp_exn 152 4 (.iconst 1) := Or.inl ⟨xd_152_8, rfl⟩
theorem xk_152_5 : xk_OkA xp_F (xp_P sc) xp_cl xp_BW xp_NW xp_SW xp_exn 152 5 (.goto 13) := ⟨_, xd_152_9, by unfold xf_to; decide +kernel⟩
theorem xk_152_6 : xk_OkA xp_F (xp_P sc) xp_cl xp_BW xp_NW xp_SW xp_exn 152 6 (.aload 0) := Or.inr ⟨0, rfl, xd_152_12, rfl⟩
theorem xk_152_7 : xk_OkA xp_F (xp_P sc) xp_cl xp_BW xp_NW xp_SW xp_exn 152 7 (.iload 1) := Or.inr ⟨1, rfl, xd_152_13, rfl⟩
theorem xk_152_8 : xk_OkA xp_F (xp_P sc) xp_cl xp_BW xp_NW xp_SW xp_exn 152 8 (.invokeinterface 115 2) := ⟨rfl, Or.inl ⟨xwt_910, rfl⟩, rfl, rfl, xwt_5, by decide +kernel, by decide +kernel, Nat.le_of_ble_eq_true rfl, _, Or.inl xwt_907, Or.inr ⟨xd_152_14, xwt_909, xws_94, ⟨_, _, _, rfl, rfl⟩, by decide +kernel⟩⟩
theorem xk_152_9 : xk_OkA xp_F (xp_P sc) xp_cl xp_BW xp_NW xp_SW xp_exn 152 9 (.ifCond .ne 12) := ⟨_, xd_152_17, by unfold xf_to; decide +kernel, rfl⟩
theorem xk_152_10 : xk_OkA xp_F (xp_P sc) xp_cl xp_BW xp_NW xp_SW xp_exn 152 10 (.iconst 2) := Or.inl ⟨xd_152_20, rfl⟩
theorem xk_152_11 : xk_OkA xp_F (xp_P sc) xp_cl xp_BW xp_NW xp_SW xp_exn 152 11 (.goto 13) := ⟨_, xd_152_21, by unfold xf_to; decide +kernel⟩
theorem xk_152_12 : xk_OkA xp_F (xp_P sc) xp_cl xp_BW xp_NW xp_SW xp_exn 152 12 (.iconst 0) := Or.inl ⟨xd_152_24, rfl⟩
theorem xk_152_13 : xk_OkA xp_F (xp_P sc) xp_cl xp_BW xp_NW xp_SW xp_exn 152 13 (.putfield 128) := ⟨_, xd_152_25, rfl, ⟨_, _, _, rfl, by decide, xu_4, Or.inl xwt_754⟩, xf_4_0⟩
theorem xk_152_14 : xk_OkA xp_F (xp_P sc) xp_cl xp_BW xp_NW xp_SW xp_exn 152 14 (.aload 0) := Or.inr ⟨0, rfl, xd_152_28, rfl⟩
theorem xk_152_15 : xk_OkA xp_F (xp_P sc) xp_cl xp_BW xp_NW xp_SW xp_exn 152 15 (.getfield 128) := ⟨_, xd_152_29, rfl, ⟨_, _, _, rfl, by decide, xu_4, Or.inl xwt_754⟩⟩
theorem xk_152_16 : xk_OkA xp_F (xp_P sc) xp_cl xp_BW xp_NW xp_SW xp_exn 152 16 (.ifCond .gt 30) := ⟨_, xd_152_32, by unfold xf_to; decide +kernel, rfl⟩
theorem xk_152_17 : xk_OkA xp_F (xp_P sc) xp_cl xp_BW xp_NW xp_SW xp_exn 152 17 (.iload 2) := Or.inr ⟨2, rfl, xd_152_35, rfl⟩
theorem xk_152_18 : xk_OkA xp_F (xp_P sc) xp_cl xp_BW xp_NW xp_SW xp_exn 152 18 (.ifCond .lt 30) := ⟨_, xd_152_36, by unfold xf_to; decide +kernel, rfl⟩
theorem xk_152_19 : xk_OkA xp_F (xp_P sc) xp_cl xp_BW xp_NW xp_SW xp_exn 152 19 (.iload 2) := Or.inr ⟨2, rfl, xd_152_39, rfl⟩
theorem xk_152_20 : xk_OkA xp_F (xp_P sc) xp_cl xp_BW xp_NW xp_SW xp_exn 152 20 (.aload 0) := Or.inr ⟨0, rfl, xd_152_40, rfl⟩
theorem xk_152_21 : xk_OkA xp_F (xp_P sc) xp_cl xp_BW xp_NW xp_SW xp_exn 152 21 (.getfield 134) := ⟨_, xd_152_41, rfl, ⟨_, _, _, rfl, by decide, xu_4, Or.inl xwt_760⟩⟩
theorem xk_152_22 : xk_OkA xp_F (xp_P sc) xp_cl xp_BW xp_NW xp_SW xp_exn 152 22 (.iload 1) := Or.inr ⟨1, rfl, xd_152_44, rfl⟩
theorem xk_152_23 : xk_OkA xp_F (xp_P sc) xp_cl xp_BW xp_NW xp_SW xp_exn 152 23 (.invokeinterface 114 2) := ⟨rfl, Or.inl ⟨xwt_866, rfl⟩, rfl, rfl, xwt_5, by decide +kernel, by decide +kernel, Nat.le_of_ble_eq_true rfl, _, Or.inl xwt_864, Or.inl ⟨xd_152_45, xwt_865, rfl, by decide +kernel⟩⟩
theorem xk_152_24 : xk_OkA xp_F (xp_P sc) xp_cl xp_BW xp_NW xp_SW xp_exn 152 24 (.if_icmp .ge 30) := ⟨_, xd_152_48, by unfold xf_to; decide +kernel, rfl⟩
theorem xk_152_25 : xk_OkA xp_F (xp_P sc) xp_cl xp_BW xp_NW xp_SW xp_exn 152 25 (.iload 3) := Or.inr ⟨3, rfl, xd_152_51, rfl⟩
theorem xk_152_26 : xk_OkA xp_F (xp_P sc) xp_cl xp_BW xp_NW xp_SW xp_exn 152 26 (.ifCond .lt 30) := ⟨_, xd_152_52, by unfold xf_to; decide +kernel, rfl⟩
theorem xk_152_27 : xk_OkA xp_F (xp_P sc) xp_cl xp_BW xp_NW xp_SW xp_exn 152 27 (.iload 3) := Or.inr ⟨3, rfl, xd_152_55, rfl⟩
theorem xk_152_28 : xk_OkA xp_F (xp_P sc) xp_cl xp_BW xp_NW xp_SW xp_exn 152 28 (.iconst 1) := Or.inl ⟨xd_152_56, rfl⟩
theorem xk_152_29 : xk_OkA xp_F (xp_P sc) xp_cl xp_BW xp_NW xp_SW xp_exn 152 29 (.if_icmp .le 37) := ⟨_, xd_152_57, by unfold xf_to; decide +kernel, rfl⟩
theorem xk_152_30 : xk_OkA xp_F (xp_P sc) xp_cl xp_BW xp_NW xp_SW xp_exn 152 30 (.aload 0) := Or.inr ⟨0, rfl, xd_152_60, rfl⟩
theorem xk_152_31 : xk_OkA xp_F (xp_P sc) xp_cl xp_BW xp_NW xp_SW xp_exn 152 31 (.getfield 128) := ⟨_, xd_152_61, rfl, ⟨_, _, _, rfl, by decide, xu_4, Or.inl xwt_754⟩⟩
theorem xk_152_32 : xk_OkA xp_F (xp_P sc) xp_cl xp_BW xp_NW xp_SW xp_exn 152 32 (.ifCond .le 35) := ⟨_, xd_152_64, by unfold xf_to; decide +kernel, rfl⟩
theorem xk_152_33 : xk_OkA xp_F (xp_P sc) xp_cl xp_BW xp_NW xp_SW xp_exn 152 33 (.iconst 0) := Or.inl ⟨xd_152_67, rfl⟩
theorem xk_152_34 : xk_OkA xp_F (xp_P sc) xp_cl xp_BW xp_NW xp_SW xp_exn 152 34 (.goto 36) := ⟨_, xd_152_68, by unfold xf_to; decide +kernel⟩
theorem xk_152_35 : xk_OkA xp_F (xp_P sc) xp_cl xp_BW xp_NW xp_SW xp_exn 152 35 (.iconst (-1)) := Or.inl ⟨xd_152_71, rfl⟩
theorem xk_152_36 : xk_OkA xp_F (xp_P sc) xp_cl xp_BW xp_NW xp_SW xp_exn 152 36 (.ireturn) := ⟨xd_152_72, rfl⟩
theorem xk_152_37 : xk_OkA xp_F (xp_P sc) xp_cl xp_BW xp_NW xp_SW xp_exn 152 37 (.aload 0) := Or.inr ⟨0, rfl, xd_152_73, rfl⟩
theorem xk_152_38 : xk_OkA xp_F (xp_P sc) xp_cl xp_BW xp_NW xp_SW xp_exn 152 38 (.getfield 134) := ⟨_, xd_152_74, rfl, ⟨_, _, _, rfl, by decide, xu_4, Or.inl xwt_760⟩⟩
theorem xk_152_39 : xk_OkA xp_F (xp_P sc) xp_cl xp_BW xp_NW xp_SW xp_exn 152 39 (.iconst 9) := Or.inr (Or.inl ⟨xd_152_77, by decide +kernel, rfl⟩)
theorem xk_152_40 : xk_OkA xp_F (xp_P sc) xp_cl xp_BW xp_NW xp_SW xp_exn 152 40 (.iconst 10) := Or.inr (Or.inl ⟨xd_152_79, by decide +kernel, rfl⟩)
theorem xk_152_41 : xk_OkA xp_F (xp_P sc) xp_cl xp_BW xp_NW xp_SW xp_exn 152 41 (.iload 1) := Or.inr ⟨1, rfl, xd_152_81, rfl⟩
theorem xk_152_42 : xk_OkA xp_F (xp_P sc) xp_cl xp_BW xp_NW xp_SW xp_exn 152 42 (.imul) := ⟨xd_152_82, rfl⟩
theorem xk_152_43 : xk_OkA xp_F (xp_P sc) xp_cl xp_BW xp_NW xp_SW xp_exn 152 43 (.iadd) := ⟨xd_152_83, rfl⟩
theorem xk_152_44 : xk_OkA xp_F (xp_P sc) xp_cl xp_BW xp_NW xp_SW xp_exn 152 44 (.iconst 2) := Or.inl ⟨xd_152_84, rfl⟩
theorem xk_152_45 : xk_OkA xp_F (xp_P sc) xp_cl xp_BW xp_NW xp_SW xp_exn 152 45 (.iload 2) := Or.inr ⟨2, rfl, xd_152_85, rfl⟩
theorem xk_152_46 : xk_OkA xp_F (xp_P sc) xp_cl xp_BW xp_NW xp_SW xp_exn 152 46 (.imul) := ⟨xd_152_86, rfl⟩
theorem xk_152_47 : xk_OkA xp_F (xp_P sc) xp_cl xp_BW xp_NW xp_SW xp_exn 152 47 (.iadd) := ⟨xd_152_87, rfl⟩
theorem xk_152_48 : xk_OkA xp_F (xp_P sc) xp_cl xp_BW xp_NW xp_SW xp_exn 152 48 (.iload 3) := Or.inr ⟨3, rfl, xd_152_88, rfl⟩
theorem xk_152_49 : xk_OkA xp_F (xp_P sc) xp_cl xp_BW xp_NW xp_SW xp_exn 152 49 (.iadd) := ⟨xd_152_89, rfl⟩
theorem xk_152_50 : xk_OkA xp_F (xp_P sc) xp_cl xp_BW xp_NW xp_SW xp_exn 152 50 (.iaload) := ⟨xd_152_90, rfl⟩
theorem xk_152_51 : xk_OkA xp_F (xp_P sc) xp_cl xp_BW xp_NW xp_SW xp_exn 152 51 (.iconst 1) := Or.inl ⟨xd_152_91, rfl⟩
theorem xk_152_52 : xk_OkA xp_F (xp_P sc) xp_cl xp_BW xp_NW xp_SW xp_exn 152 52 (.isub) := ⟨xd_152_92, rfl⟩
theorem xk_152_53 : xk_OkA xp_F (xp_P sc) xp_cl xp_BW xp_NW xp_SW xp_exn 152 53 (.ireturn) := ⟨xd_152_93, rfl⟩
theorem xl_152 : xk_OkL xp_F (xp_P sc) xp_cl xp_BW xp_NW xp_SW xp_exn 152 0 xc_152 := ⟨xk_152_0, xk_152_1, xk_152_2, xk_152_3, xk_152_4, xk_152_5, xk_152_6, xk_152_7, xk_152_8, xk_152_9, xk_152_10, xk_152_11, xk_152_12, xk_152_13, xk_152_14, xk_152_15, xk_152_16, xk_152_17, xk_152_18, xk_152_19, xk_152_20, xk_152_21, xk_152_22, xk_152_23, xk_152_24, xk_152_25, xk_152_26, xk_152_27, xk_152_28, xk_152_29, xk_152_30, xk_152_31, xk_152_32, xk_152_33, xk_152_34, xk_152_35, xk_152_36, xk_152_37, xk_152_38, xk_152_39, xk_152_40, xk_152_41, xk_152_42, xk_152_43, xk_152_44, xk_152_45, xk_152_46, xk_152_47, xk_152_48, xk_152_49, xk_152_50, xk_152_51, xk_152_52, xk_152_53, trivial⟩
theorem xd_153_0 : decode prog_6_method_48_code 0 = .ok (.aload_n 0, 1) := by decide +kernel
theorem xd_153_1 : decode prog_6_method_48_code 1 = .ok (.aload_n 0, 1) := by decide +kernel
theorem xd_153_2 : decode prog_6_method_48_code 2 = .ok (.getfield 20, 3) := by decide +kernel
theorem xd_153_5 : decode prog_6_method_48_code 5 = .ok (.ifCond .ne 7, 3) := by decide +kernel
theorem xd_153_8 : decode prog_6_method_48_code 8 = .ok (.iconst 1, 1) := by decide +kernel
theorem xd_153_9 : decode prog_6_method_48_code 9 = .ok (.goto 15, 3) := by decide +kernel
theorem xd_153_12 : decode prog_6_method_48_code 12 = .ok (.iload_n 1, 1) := by decide +kernel
theorem xd_153_13 : decode prog_6_method_48_code 13 = .ok (.invokestatic 103, 3) := by decide +kernel
theorem xd_153_16 : decode prog_6_method_48_code 16 = .ok (.ifCond .ne 7, 3) := by decide +kernel
theorem xd_153_19 : decode prog_6_method_48_code 19 = .ok (.iconst 2, 1) := by decide +kernel
theorem xd_153_20 : decode prog_6_method_48_code 20 = .ok (.goto 4, 3) := by decide +kernel
theorem xd_153_23 : decode prog_6_method_48_code 23 = .ok (.iconst 0, 1) := by decide +kernel
theorem xd_153_24 : decode prog_6_method_48_code 24 = .ok (.putfield 37, 3) := by decide +kernel
theorem xd_153_27 : decode prog_6_method_48_code 27 = .ok (.aload_n 0, 1) := by decide +kernel
theorem xd_153_28 : decode prog_6_method_48_code 28 = .ok (.getfield 37, 3) := by decide +kernel
theorem xd_153_31 : decode prog_6_method_48_code 31 = .ok (.ifCond .le 7, 3) := by decide +kernel
theorem xd_153_34 : decode prog_6_method_48_code 34 = .ok (.iconst 0, 1) := by decide +kernel
theorem xd_153_35 : decode prog_6_method_48_code 35 = .ok (.goto 27, 3) := by decide +kernel
theorem xd_153_38 : decode prog_6_method_48_code 38 = .ok (.aload_n 0, 1) := by decide +kernel
theorem xd_153_39 : decode prog_6_method_48_code 39 = .ok (.getfield 28, 3) := by decide +kernel
theorem xd_153_42 : decode prog_6_method_48_code 42 = .ok (.iconst 1, 1) := by decide +kernel
theorem xd_153_43 : decode prog_6_method_48_code 43 = .ok (.iload_n 1, 1) := by decide +kernel
theorem xd_153_44 : decode prog_6_method_48_code 44 = .ok (.iadd, 1) := by decide +kernel
theorem xd_153_45 : decode prog_6_method_48_code 45 = .ok (.iaload, 1) := by decide +kernel
theorem xd_153_46 : decode prog_6_method_48_code 46 = .ok (.ifCond .ne 7, 3) := by decide +kernel
theorem xd_153_49 : decode prog_6_method_48_code 49 = .ok (.iconst (-1), 1) := by decide +kernel
theorem xd_153_50 : decode prog_6_method_48_code 50 = .ok (.goto 12, 3) := by decide +kernel
theorem xd_153_53 : decode prog_6_method_48_code 53 = .ok (.aload_n 0, 1) := by decide +kernel
theorem xd_153_54 : decode prog_6_method_48_code 54 = .ok (.aload_n 0, 1) := by decide +kernel
theorem xd_153_55 : decode prog_6_method_48_code 55 = .ok (.getfield 28, 3) := by decide +kernel
theorem xd_153_58 : decode prog_6_method_48_code 58 = .ok (.iload_n 1, 1) := by decide +kernel
theorem xd_153_59 : decode prog_6_method_48_code 59 = .ok (.invokevirtual 92, 3) := by decide +kernel
theorem xd_153_62 : decode prog_6_method_48_code 62 = .ok (.ireturn, 1) := by decide +kernel
theorem xk_153_0 : xk_OkA xp_F (xp_P sc) xp_cl xp_BW xp_NW xp_SW xp_exn 153 0 (.aload 0) := Or.inr ⟨0, rfl, xd_153_0, rfl⟩
theorem xk_153_1 : xk_OkA xp_F (xp_P sc) xp_cl xp_BW xp_NW xp_SW xp_exn 153 1 (.aload 0) := Or.inr ⟨0, rfl, xd_153_1, rfl⟩
theorem xk_153_2 : xk_OkA xp_F (xp_P sc) xp_cl xp_BW xp_NW xp_SW xp_exn 153 2 (.getfield 132) := ⟨_, xd_153_2, rfl, ⟨_, _, _, rfl, by decide, xu_4, Or.inl xwt_758⟩⟩
theorem xk_153_3 : xk_OkA xp_F (xp_P sc) xp_cl xp_BW xp_NW xp_SW xp_exn 153 3 (.ifCond .ne 6) := ⟨_, xd_153_5, by unfold xf_to; decide +kernel, rfl⟩
theorem xk_153_4 : xk_OkA xp_F (xp_P sc) xp_cl xp_BW xp_NW xp_SW xp_exn 153 4 (.iconst 1) := Or.inl ⟨xd_153_8, rfl⟩
theorem xk_153_5 : xk_OkA xp_F (xp_P sc) xp_cl xp_BW xp_NW xp_SW xp_exn 153 5 (.goto 12) := ⟨_, xd_153_9, by unfold xf_to; decide +kernel⟩
theorem xk_153_6 : xk_OkA xp_F (xp_P sc) xp_cl xp_BW xp_NW xp_SW xp_exn 153 6 (.iload 1) := Or.inr ⟨1, rfl, xd_153_12, rfl⟩
theorem xk_153_7 : xk_OkA xp_F (xp_P sc) xp_cl xp_BW xp_NW xp_SW xp_exn 153 7 (.invokeinterface 108 1) := ⟨rfl, Or.inl ⟨xwt_804, rfl⟩, rfl, rfl, xwt_5, by decide +kernel, by decide +kernel, Nat.le_of_ble_eq_true rfl, _, Or.inl xwt_802, Or.inl ⟨xd_153_13, xwt_803, rfl, by decide +kernel⟩⟩
theorem xk_153_8 : xk_OkA xp_F (xp_P sc) xp_cl xp_BW xp_NW xp_SW xp_exn 153 8 (.ifCond .ne 11) := ⟨_, xd_153_16, by unfold xf_to; decide +kernel, rfl⟩
theorem xk_153_9 : xk_OkA xp_F (xp_P sc) xp_cl xp_BW xp_NW xp_SW xp_exn 153 9 (.iconst 2) := Or.inl ⟨xd_153_19, rfl⟩
theorem xk_153_10 : xk_OkA xp_F (xp_P sc) xp_cl xp_BW xp_NW xp_SW xp_exn 153 10 (.goto 12) := ⟨_, xd_153_20, by unfold xf_to; decide +kernel⟩
theorem xk_153_11 : xk_OkA xp_F (xp_P sc) xp_cl xp_BW xp_NW xp_SW xp_exn 153 11 (.iconst 0) := Or.inl ⟨xd_153_23, rfl⟩
theorem xk_153_12 : xk_OkA xp_F (xp_P sc) xp_cl xp_BW xp_NW xp_SW xp_exn 153 12 (.putfield 128) := ⟨_, xd_153_24, rfl, ⟨_, _, _, rfl, by decide, xu_4, Or.inl xwt_754⟩, xf_4_0⟩
theorem xk_153_13 : xk_OkA xp_F (xp_P sc) xp_cl xp_BW xp_NW xp_SW xp_exn 153 13 (.aload 0) := Or.inr ⟨0, rfl, xd_153_27, rfl⟩
theorem xk_153_14 : xk_OkA xp_F (xp_P sc) xp_cl xp_BW xp_NW xp_SW xp_exn 153 14 (.getfield 128) := ⟨_, xd_153_28, rfl, ⟨_, _, _, rfl, by decide, xu_4, Or.inl xwt_754⟩⟩
theorem xk_153_15 : xk_OkA xp_F (xp_P sc) xp_cl xp_BW xp_NW xp_SW xp_exn 153 15 (.ifCond .le 18) := ⟨_, xd_153_31, by unfold xf_to; decide +kernel, rfl⟩
theorem xk_153_16 : xk_OkA xp_F (xp_P sc) xp_cl xp_BW xp_NW xp_SW xp_exn 153 16 (.iconst 0) := Or.inl ⟨xd_153_34, rfl⟩
theorem xk_153_17 : xk_OkA xp_F (xp_P sc) xp_cl xp_BW xp_NW xp_SW xp_exn 153 17 (.goto 32) := ⟨_, xd_153_35, by unfold xf_to; decide +kernel⟩
theorem xk_153_18 : xk_OkA xp_F (xp_P sc) xp_cl xp_BW xp_NW xp_SW xp_exn 153 18 (.aload 0) := Or.inr ⟨0, rfl, xd_153_38, rfl⟩
theorem xk_153_19 : xk_OkA xp_F (xp_P sc) xp_cl xp_BW xp_NW xp_SW xp_exn 153 19 (.getfield 134) := ⟨_, xd_153_39, rfl, ⟨_, _, _, rfl, by decide, xu_4, Or.inl xwt_760⟩⟩
theorem xk_153_20 : xk_OkA xp_F (xp_P sc) xp_cl xp_BW xp_NW xp_SW xp_exn 153 20 (.iconst 1) := Or.inl ⟨xd_153_42, rfl⟩
theorem xk_153_21 : xk_OkA xp_F (xp_P sc) xp_cl xp_BW xp_NW xp_SW xp_exn 153 21 (.iload 1) := Or.inr ⟨1, rfl, xd_153_43, rfl⟩
theorem xk_153_22 : xk_OkA xp_F (xp_P sc) xp_cl xp_BW xp_NW xp_SW xp_exn 153 22 (.iadd) := ⟨xd_153_44, rfl⟩
theorem xk_153_23 : xk_OkA xp_F (xp_P sc) xp_cl xp_BW xp_NW xp_SW xp_exn 153 23 (.iaload) := ⟨xd_153_45, rfl⟩
theorem xk_153_24 : xk_OkA xp_F (xp_P sc) xp_cl xp_BW xp_NW xp_SW xp_exn 153 24 (.ifCond .ne 27) := ⟨_, xd_153_46, by unfold xf_to; decide +kernel, rfl⟩
theorem xk_153_25 : xk_OkA xp_F (xp_P sc) xp_cl xp_BW xp_NW xp_SW xp_exn 153 25 (.iconst (-1)) := Or.inl ⟨xd_153_49, rfl⟩
theorem xk_153_26 : xk_OkA xp_F (xp_P sc) xp_cl xp_BW xp_NW xp_SW xp_exn 153 26 (.goto 32) := ⟨_, xd_153_50, by unfold xf_to; decide +kernel⟩
theorem xk_153_27 : xk_OkA xp_F (xp_P sc) xp_cl xp_BW xp_NW xp_SW xp_exn 153 27 (.aload 0) := Or.inr ⟨0, rfl, xd_153_53, rfl⟩
theorem xk_153_28 : xk_OkA xp_F (xp_P sc) xp_cl xp_BW xp_NW xp_SW xp_exn 153 28 (.aload 0) := Or.inr ⟨0, rfl, xd_153_54, rfl⟩
theorem xk_153_29 : xk_OkA xp_F (xp_P sc) xp_cl xp_BW xp_NW xp_SW xp_exn 153 29 (.getfield 134) := ⟨_, xd_153_55, rfl, ⟨_, _, _, rfl, by decide, xu_4, Or.inl xwt_760⟩⟩
theorem xk_153_30 : xk_OkA xp_F (xp_P sc) xp_cl xp_BW xp_NW xp_SW xp_exn 153 30 (.iload 1) := Or.inr ⟨1, rfl, xd_153_58, rfl⟩
theorem xk_153_31 : xk_OkA xp_F (xp_P sc) xp_cl xp_BW xp_NW xp_SW xp_exn 153 31 (.invokeinterface 126 3) := ⟨rfl, Or.inl ⟨xwt_887, rfl⟩, rfl, rfl, xwt_5, by decide +kernel, by decide +kernel, Nat.le_of_ble_eq_true rfl, _, Or.inl xwt_884, Or.inr ⟨xd_153_59, xwt_886, xws_90, ⟨_, _, _, rfl, rfl⟩, by decide +kernel⟩⟩
theorem xk_153_32 : xk_OkA xp_F (xp_P sc) xp_cl xp_BW xp_NW xp_SW xp_exn 153 32 (.ireturn) := ⟨xd_153_62, rfl⟩
theorem xl_153 : xk_OkL xp_F (xp_P sc) xp_cl xp_BW xp_NW xp_SW xp_exn 153 0 xc_153 := ⟨xk_153_0, xk_153_1, xk_153_2, xk_153_3, xk_153_4, xk_153_5, xk_153_6, xk_153_7, xk_153_8, xk_153_9, xk_153_10, xk_153_11, xk_153_12, xk_153_13, xk_153_14, xk_153_15, xk_153_16, xk_153_17, xk_153_18, xk_153_19, xk_153_20, xk_153_21, xk_153_22, xk_153_23, xk_153_24, xk_153_25, xk_153_26, xk_153_27, xk_153_28, xk_153_29, xk_153_30, xk_153_31, xk_153_32, trivial⟩
theorem xd_154_0 : decode prog_6_method_49_code 0 = .ok (.aload_n 0, 1) := by decide +kernel
theorem xd_154_1 : decode prog_6_method_49_code 1 = .ok (.iconst 0, 1) := by decide +kernel
theorem xd_154_2 : decode prog_6_method_49_code 2 = .ok (.putfield 37, 3) := by decide +kernel
theorem xd_154_5 : decode prog_6_method_49_code 5 = .ok (.aload_n 0, 1) := by decide +kernel
theorem xd_154_6 : decode prog_6_method_49_code 6 = .ok (.getfield 20, 3) := by decide +kernel
theorem xd_154_9 : decode prog_6_method_49_code 9 = .ok (.ifCond .eq 12, 3) := by decide +kernel
theorem xd_154_12 : decode prog_6_method_49_code 12 = .ok (.aload_n 0, 1) := by decide +kernel
theorem xd_154_13 : decode prog_6_method_49_code 13 = .ok (.getfield 28, 3) := by decide +kernel
theorem xd_154_16 : decode prog_6_method_49_code 16 = .ok (.iconst 0, 1) := by decide +kernel
theorem xd_154_17 : decode prog_6_method_49_code 17 = .ok (.iaload, 1) := by decide +kernel
theorem xd_154_18 : decode prog_6_method_49_code 18 = .ok (.goto 4, 3) := by decide +kernel
theorem xd_154_21 : decode prog_6_method_49_code 21 = .ok (.iconst (-1), 1) := by decide +kernel
theorem xd_154_22 : decode prog_6_method_49_code 22 = .ok (.ireturn, 1) := by decide +kernel
theorem xk_154_0 : xk_OkA xp_F (xp_P sc) xp_cl xp_BW xp_NW xp_SW xp_exn 154 0 (.aload 0) := Or.inr ⟨0, rfl, xd_154_0, rfl⟩
theorem xk_154_1 : xk_OkA xp_F (xp_P sc) xp_cl xp_BW xp_NW xp_SW xp_exn 154 1 (.iconst 0) := Or.inl ⟨xd_154_1, rfl⟩
theorem xk_154_2 : xk_OkA xp_F (xp_P sc) xp_cl xp_BW xp_NW xp_SW xp_exn 154 2 (.putfield 128) := ⟨_, xd_154_2, rfl, ⟨_, _, _, rfl, by decide, xu_4, Or.inl xwt_754⟩, xf_4_0⟩
theorem xk_154_3 : xk_OkA xp_F (xp_P sc) xp_cl xp_BW xp_NW xp_SW xp_exn 154 3 (.aload 0) := Or.inr ⟨0, rfl, xd_154_5, rfl⟩
theorem xk_154_4 : xk_OkA xp_F (xp_P sc) xp_cl xp_BW xp_NW xp_SW xp_exn 154 4 (.getfield 132) := ⟨_, xd_154_6, rfl, ⟨_, _, _, rfl, by decide, xu_4, Or.inl xwt_758⟩⟩
theorem xk_154_5 : xk_OkA xp_F (xp_P sc) xp_cl xp_BW xp_NW xp_SW xp_exn 154 5 (.ifCond .eq 11) := ⟨_, xd_154_9, by unfold xf_to; decide +kernel, rfl⟩
theorem xk_154_6 : xk_OkA xp_F (xp_P sc) xp_cl xp_BW xp_NW xp_SW xp_exn 154 6 (.aload 0) := Or.inr ⟨0, rfl, xd_154_12, rfl⟩
theorem xk_154_7 : xk_OkA xp_F (xp_P sc) xp_cl xp_BW xp_NW xp_SW xp_exn 154 7 (.getfield 134) := ⟨_, xd_154_13, rfl, ⟨_, _, _, rfl, by decide, xu_4, Or.inl xwt_760⟩⟩
theorem xk_154_8 : xk_OkA xp_F (xp_P sc) xp_cl xp_BW xp_NW xp_SW xp_exn 154 8 (.iconst 0) := Or.inl ⟨xd_154_16, rfl⟩
theorem xk_154_9 : xk_OkA xp_F (xp_P sc) xp_cl xp_BW xp_NW xp_SW xp_exn 154 9 (.iaload) := ⟨xd_154_17, rfl⟩
theorem xk_154_10 : xk_OkA xp_F (xp_P sc) xp_cl xp_BW xp_NW xp_SW xp_exn 154 10 (.goto 12) := ⟨_, xd_154_18, by unfold xf_to; decide +kernel⟩
theorem xk_154_11 : xk_OkA xp_F (xp_P sc) xp_cl xp_BW xp_NW xp_SW xp_exn 154 11 (.iconst (-1)) := Or.inl ⟨xd_154_21, rfl⟩
theorem xk_154_12 : xk_OkA xp_F (xp_P sc) xp_cl xp_BW xp_NW xp_SW xp_exn 154 12 (.ireturn) := ⟨xd_154_22, rfl⟩
theorem xl_154 : xk_OkL xp_F (xp_P sc) xp_cl xp_BW xp_NW xp_SW xp_exn 154 0 xc_154 := ⟨xk_154_0, xk_154_1, xk_154_2, xk_154_3, xk_154_4, xk_154_5, xk_154_6, xk_154_7, xk_154_8, xk_154_9, xk_154_10, xk_154_11, xk_154_12, trivial⟩
theorem xd_155_0 : decode prog_6_method_50_code 0 = .ok (.iload_n 1, 1) := by decide +kernel
theorem xd_155_1 : decode prog_6_method_50_code 1 = .ok (.invokestatic 103, 3) := by decide +kernel
theorem xd_155_4 : decode prog_6_method_50_code 4 = .ok (.ifCond .eq 36, 3) := by decide +kernel
theorem xd_155_7 : decode prog_6_method_50_code 7 = .ok (.iload_n 2, 1) := by decide +kernel
theorem xd_155_8 : decode prog_6_method_50_code 8 = .ok (.ifCond .lt 32, 3) := by decide +kernel
theorem xd_155_11 : decode prog_6_method_50_code 11 = .ok (.iload_n 2, 1) := by decide +kernel
theorem xd_155_12 : decode prog_6_method_50_code 12 = .ok (.iconst 3, 1) := by decide +kernel
theorem xd_155_13 : decode prog_6_method_50_code 13 = .ok (.if_icmp .ge 27, 3) := by decide +kernel
theorem xd_155_16 : decode prog_6_method_50_code 16 = .ok (.iload_n 3, 1) := by decide +kernel
theorem xd_155_17 : decode prog_6_method_50_code 17 = .ok (.ifCond .lt 23, 3) := by decide +kernel
theorem xd_155_20 : decode prog_6_method_50_code 20 = .ok (.iload_n 3, 1) := by decide +kernel
theorem xd_155_21 : decode prog_6_method_50_code 21 = .ok (.iload_n 2, 1) := by decide +kernel
theorem xd_155_22 : decode prog_6_method_50_code 22 = .ok (.iconst 2, 1) := by decide +kernel
theorem xd_155_23 : decode prog_6_method_50_code 23 = .ok (.if_icmp .ne 8, 3) := by decide +kernel
theorem xd_155_26 : decode prog_6_method_50_code 26 = .ok (.bipush 32, 2) := by decide +kernel
theorem xd_155_28 : decode prog_6_method_50_code 28 = .ok (.goto 5, 3) := by decide +kernel
theorem xd_155_31 : decode prog_6_method_50_code 31 = .ok (.bipush 51, 2) := by decide +kernel
theorem xd_155_33 : decode prog_6_method_50_code 33 = .ok (.if_icmp .ge 7, 3) := by decide +kernel
theorem xd_155_36 : decode prog_6_method_50_code 36 = .ok (.iconst 1, 1) := by decide +kernel
theorem xd_155_37 : decode prog_6_method_50_code 37 = .ok (.goto 4, 3) := by decide +kernel
theorem xd_155_40 : decode prog_6_method_50_code 40 = .ok (.iconst 0, 1) := by decide +kernel
theorem xd_155_41 : decode prog_6_method_50_code 41 = .ok (.istore 4, 2) := by decide +kernel
theorem xd_155_43 : decode prog_6_method_50_code 43 = .ok (.aload_n 0, 1) := by decide +kernel
theorem xd_155_44 : decode prog_6_method_50_code 44 = .ok (.iload 4, 2) := by decide +kernel
theorem xd_155_46 : decode prog_6_method_50_code 46 = .ok (.ifCond .eq 7, 3) := by decide +kernel
theorem xd_155_49 : decode prog_6_method_50_code 49 = .ok (.iconst 0, 1) := by decide +kernel
theorem xd_155_50 : decode prog_6_method_50_code 50 = .ok (.goto 4, 3) := by decide +kernel
theorem xd_155_53 : decode prog_6_method_50_code 53 = .ok (.iconst 1, 1) := by decide +kernel
theorem xd_155_54 : decode prog_6_method_50_code 54 = .ok (.putfield 37, 3) := by decide +kernel
theorem xd_155_57 : decode prog_6_method_50_code 57 = .ok (.iload 4, 2) := by decide +kernel
theorem xd_155_59 : decode prog_6_method_50_code 59 = .ok (.ifCond .ne 7, 3) := by decide +kernel
theorem xd_155_62 : decode prog_6_method_50_code 62 = .ok (.iconst 0, 1) := by decide +kernel
theorem xd_155_63 : decode prog_6_method_50_code 63 = .ok (.goto 38, 3) := by decide +kernel
theorem xd_155_66 : decode prog_6_method_50_code 66 = .ok (.iload_n 2, 1) := by decide +kernel
theorem xd_155_67 : decode prog_6_method_50_code 67 = .ok (.iconst 2, 1) := by decide +kernel
theorem xd_155_68 : decode prog_6_method_50_code 68 = .ok (.if_icmp .ne 17, 3) := by decide +kernel
theorem xd_155_71 : decode prog_6_method_50_code 71 = .ok (.aload_n 0, 1) := by decide +kernel
theorem xd_155_72 : decode prog_6_method_50_code 72 = .ok (.getfield 17, 3) := by decide +kernel
theorem xd_155_75 : decode prog_6_method_50_code 75 = .ok (.bipush 32, 2) := by decide +kernel
theorem xd_155_77 : decode prog_6_method_50_code 77 = .ok (.iload_n 1, 1) := by decide +kernel
theorem xd_155_78 : decode prog_6_method_50_code 78 = .ok (.imul, 1) := by decide +kernel
theorem xd_155_79 : decode prog_6_method_50_code 79 = .ok (.iload_n 3, 1) := by decide +kernel
theorem xd_155_80 : decode prog_6_method_50_code 80 = .ok (.iadd, 1) := by decide +kernel
theorem xd_155_81 : decode prog_6_method_50_code 81 = .ok (.iaload, 1) := by decide +kernel
theorem xd_155_82 : decode prog_6_method_50_code 82 = .ok (.goto 19, 3) := by decide +kernel
theorem xd_155_85 : decode prog_6_method_50_code 85 = .ok (.aload_n 0, 1) := by decide +kernel
theorem xd_155_86 : decode prog_6_method_50_code 86 = .ok (.getfield 13, 3) := by decide +kernel
theorem xd_155_89 : decode prog_6_method_50_code 89 = .ok (.bipush 102, 2) := by decide +kernel
theorem xd_155_91 : decode prog_6_method_50_code 91 = .ok (.iload_n 1, 1) := by decide +kernel
theorem xd_155_92 : decode prog_6_method_50_code 92 = .ok (.imul, 1) := by decide +kernel
theorem xd_155_93 : decode prog_6_method_50_code 93 = .ok (.bipush 51, 2) := by decide +kernel
theorem xd_155_95 : decode prog_6_method_50_code 95 = .ok (.iload_n 2, 1) := by decide +kernel
theorem xd_155_96 : decode prog_6_method_50_code 96 = .ok (.imul, 1) := by decide +kernel
theorem xd_155_97 : decode prog_6_method_50_code 97 = .ok (.iadd, 1) := by decide +kernel
theorem xd_155_98 : decode prog_6_method_50_code 98 = .ok (.iload_n 3, 1) := by decide +kernel
theorem xd_155_99 : decode prog_6_method_50_code 99 = .ok (.iadd, 1) := by decide +kernel
theorem xd_155_100 : decode prog_6_method_50_code 100 = .ok (.iaload, 1) := by decide +kernel
theorem xd_155_101 : decode prog_6_method_50_code 101 = .ok (.ireturn, 1) := by decide +kernel
theorem xk_155_0 : xk_OkA xp_F (xp_P sc) xp_cl xp_BW xp_NW xp_SW xp_exn 155 0 (.iload 1) := Or.inr ⟨1, rfl, xd_155_0, rfl⟩
theorem xk_155_1 : xk_OkA xp_F (xp_P sc) xp_cl xp_BW xp_NW xp_SW xp_exn 155 1 (.invokeinterface 108 1) := ⟨rfl, Or.inl ⟨xwt_804, rfl⟩, rfl, rfl, xwt_5, by decide +kernel, by decide +kernel, Nat.le_of_ble_eq_true rfl, _, Or.inl xwt_802, Or.inl ⟨xd_155_1, xwt_803, rfl, by decide +kernel⟩⟩
theorem xk_155_2 : xk_OkA xp_F (xp_P sc) xp_cl xp_BW xp_NW xp_SW xp_exn 155 2 (.ifCond .eq 20) := ⟨_, xd_155_4, by unfold xf_to; decide +kernel, rfl⟩
theorem xk_155_3 : xk_OkA xp_F (xp_P sc) xp_cl xp_BW xp_NW xp_SW xp_exn 155 3 (.iload 2) := Or.inr ⟨2, rfl, xd_155_7, rfl⟩
theorem xk_155_4 : xk_OkA xp_F (xp_P sc) xp_cl xp_BW xp_NW xp_SW xp_exn 155 4 (.ifCond .lt 20) := ⟨_, xd_155_8, by unfold xf_to; decide +kernel, rfl⟩
theorem xk_155_5 : xk_OkA xp_F (xp_P sc) xp_cl xp_BW xp_NW xp_SW xp_exn 155 5 (.iload 2) := Or.inr ⟨2, rfl, xd_155_11, rfl⟩
theorem xk_155_6 : xk_OkA xp_F (xp_P sc) xp_cl xp_BW xp_NW xp_SW xp_exn 155 6 (.iconst 3) := Or.inl ⟨xd_155_12, rfl⟩
theorem xk_155_7 : xk_OkA xp_F (xp_P sc) xp_cl xp_BW xp_NW xp_SW xp_exn 155 7 (.if_icmp .ge 20) := ⟨_, xd_155_13, by unfold xf_to; decide +kernel, rfl⟩
theorem xk_155_8 : xk_OkA xp_F (xp_P sc) xp_cl xp_BW xp_NW xp_SW xp_exn 155 8 (.iload 3) := Or.inr ⟨3, rfl, xd_155_16, rfl⟩
theorem xk_155_9 : xk_OkA xp_F (xp_P sc) xp_cl xp_BW xp_NW xp_SW xp_exn 155 9 (.ifCond .lt 20) := ⟨_, xd_155_17, by unfold xf_to; decide +kernel, rfl⟩
theorem xk_155_10 : xk_OkA xp_F (xp_P sc) xp_cl xp_BW xp_NW xp_SW xp_exn 155 10 (.iload 3) := Or.inr ⟨3, rfl, xd_155_20, rfl⟩
theorem xk_155_11 : xk_OkA xp_F (xp_P sc) xp_cl xp_BW xp_NW xp_SW xp_exn 155 11 (.iload 2) := Or.inr ⟨2, rfl, xd_155_21, rfl⟩
theorem xk_155_12 : xk_OkA xp_F (xp_P sc) xp_cl xp_BW xp_NW xp_SW xp_exn 155 12 (.iconst 2) := Or.inl ⟨xd_155_22, rfl⟩
theorem xk_155_13 : xk_OkA xp_F (xp_P sc) xp_cl xp_BW xp_NW xp_SW xp_exn 155 13 (.if_icmp .ne 16) := ⟨_, xd_155_23, by unfold xf_to; decide +kernel, rfl⟩
theorem xk_155_14 : xk_OkA xp_F (xp_P sc) xp_cl xp_BW xp_NW xp_SW xp_exn 155 14 (.iconst 32) := Or.inr (Or.inl ⟨xd_155_26, by decide +kernel, rfl⟩)
theorem xk_155_15 : xk_OkA xp_F (xp_P sc) xp_cl xp_BW xp_NW xp_SW xp_exn 155 15 (.goto 17) := ⟨_, xd_155_28, by unfold xf_to; decide +kernel⟩
theorem xk_155_16 : xk_OkA xp_F (xp_P sc) xp_cl xp_BW xp_NW xp_SW xp_exn 155 16 (.iconst 51) := Or.inr (Or.inl ⟨xd_155_31, by decide +kernel, rfl⟩)
theorem xk_155_17 : xk_OkA xp_F (xp_P sc) xp_cl xp_BW xp_NW xp_SW xp_exn 155 17 (.if_icmp .ge 20) := ⟨_, xd_155_33, by unfold xf_to; decide +kernel, rfl⟩
theorem xk_155_18 : xk_OkA xp_F (xp_P sc) xp_cl xp_BW xp_NW xp_SW xp_exn 155 18 (.iconst 1) := Or.inl ⟨xd_155_36, rfl⟩
theorem xk_155_19 : xk_OkA xp_F (xp_P sc) xp_cl xp_BW xp_NW xp_SW xp_exn 155 19 (.goto 21) := ⟨_, xd_155_37, by unfold xf_to; decide +kernel⟩
theorem xk_155_20 : xk_OkA xp_F (xp_P sc) xp_cl xp_BW xp_NW xp_SW xp_exn 155 20 (.iconst 0) := Or.inl ⟨xd_155_40, rfl⟩
theorem xk_155_21 : xk_OkA xp_F (xp_P sc) xp_cl xp_BW xp_NW xp_SW xp_exn 155 21 (.istore 4) := Or.inl ⟨xd_155_41, rfl⟩
theorem xk_155_22 : xk_OkA xp_F (xp_P sc) xp_cl xp_BW xp_NW xp_SW xp_exn 155 22 (.aload 0) := Or.inr ⟨0, rfl, xd_155_43, rfl⟩
theorem xk_155_23 : xk_OkA xp_F (xp_P sc) xp_cl xp_BW xp_NW xp_SW xp_exn 155 23 (.iload 4) := Or.inl ⟨xd_155_44, rfl⟩
theorem xk_155_24 : xk_OkA xp_F (xp_P sc) xp_cl xp_BW xp_NW xp_SW xp_exn 155 24 (.ifCond .eq 27) := ⟨_, xd_155_46, by unfold xf_to; decide +kernel, rfl⟩
theorem xk_155_25 : xk_OkA xp_F (xp_P sc) xp_cl xp_BW xp_NW xp_SW xp_exn 155 25 (.iconst 0) := Or.inl ⟨xd_155_49, rfl⟩
theorem xk_155_26 : xk_OkA xp_F (xp_P sc) xp_cl xp_BW xp_NW xp_SW xp_exn 155 26 (.goto 28) := ⟨_, xd_155_50, by unfold xf_to; decide +kernel⟩
theorem xk_155_27 : xk_OkA xp_F (xp_P sc) xp_cl xp_BW xp_NW xp_SW xp_exn 155 27 (.iconst 1) := Or.inl ⟨xd_155_53, rfl⟩
theorem xk_155_28 : xk_OkA xp_F (xp_P sc) xp_cl xp_BW xp_NW xp_SW xp_exn 155 28 (.putfield 128) := ⟨_, xd_155_54, rfl, ⟨_, _, _, rfl, by decide, xu_4, Or.inl xwt_754⟩, xf_4_0⟩
theorem xk_155_29 : xk_OkA xp_F (xp_P sc) xp_cl xp_BW xp_NW xp_SW xp_exn 155 29 (.iload 4) := Or.inl ⟨xd_155_57, rfl⟩
theorem xk_155_30 : xk_OkA xp_F (xp_P sc) xp_cl xp_BW xp_NW xp_SW xp_exn 155 30 (.ifCond .ne 33) := ⟨_, xd_155_59, by unfold xf_to; decide +kernel, rfl⟩
theorem xk_155_31 : xk_OkA xp_F (xp_P sc) xp_cl xp_BW xp_NW xp_SW xp_exn 155 31 (.iconst 0) := Or.inl ⟨xd_155_62, rfl⟩
theorem xk_155_32 : xk_OkA xp_F (xp_P sc) xp_cl xp_BW xp_NW xp_SW xp_exn 155 32 (.goto 57) := ⟨_, xd_155_63, by unfold xf_to; decide +kernel⟩
theorem xk_155_33 : xk_OkA xp_F (xp_P sc) xp_cl xp_BW xp_NW xp_SW xp_exn 155 33 (.iload 2) := Or.inr ⟨2, rfl, xd_155_66, rfl⟩
theorem xk_155_34 : xk_OkA xp_F (xp_P sc) xp_cl xp_BW xp_NW xp_SW xp_exn 155 34 (.iconst 2) := Or.inl ⟨xd_155_67, rfl⟩
theorem xk_155_35 : xk_OkA xp_F (xp_P sc) xp_cl xp_BW xp_NW xp_SW xp_exn 155 35 (.if_icmp .ne 45) := ⟨_, xd_155_68, by unfold xf_to; decide +kernel, rfl⟩
theorem xk_155_36 : xk_OkA xp_F (xp_P sc) xp_cl xp_BW xp_NW xp_SW xp_exn 155 36 (.aload 0) := Or.inr ⟨0, rfl, xd_155_71, rfl⟩
theorem xk_155_37 : xk_OkA xp_F (xp_P sc) xp_cl xp_BW xp_NW xp_SW xp_exn 155 37 (.getfield 131) := ⟨_, xd_155_72, rfl, ⟨_, _, _, rfl, by decide, xu_4, Or.inl xwt_757⟩⟩
theorem xk_155_38 : xk_OkA xp_F (xp_P sc) xp_cl xp_BW xp_NW xp_SW xp_exn 155 38 (.iconst 32) := Or.inr (Or.inl ⟨xd_155_75, by decide +kernel, rfl⟩)
theorem xk_155_39 : xk_OkA xp_F (xp_P sc) xp_cl xp_BW xp_NW xp_SW xp_exn 155 39 (.iload 1) := Or.inr ⟨1, rfl, xd_155_77, rfl⟩
theorem xk_155_40 : xk_OkA xp_F (xp_P sc) xp_cl xp_BW xp_NW xp_SW xp_exn 155 40 (.imul) := ⟨xd_155_78, rfl⟩
theorem xk_155_41 : xk_OkA xp_F (xp_P sc) xp_cl xp_BW xp_NW xp_SW xp_exn 155 41 (.iload 3) := Or.inr ⟨3, rfl, xd_155_79, rfl⟩
theorem xk_155_42 : xk_OkA xp_F (xp_P sc) xp_cl xp_BW xp_NW xp_SW xp_exn 155 42 (.iadd) := ⟨xd_155_80, rfl⟩
theorem xk_155_43 : xk_OkA xp_F (xp_P sc) xp_cl xp_BW xp_NW xp_SW xp_exn 155 43 (.iaload) := ⟨xd_155_81, rfl⟩
theorem xk_155_44 : xk_OkA xp_F (xp_P sc) xp_cl xp_BW xp_NW xp_SW xp_exn 155 44 (.goto 57) := ⟨_, xd_155_82, by unfold xf_to; decide +kernel⟩
theorem xk_155_45 : xk_OkA xp_F (xp_P sc) xp_cl xp_BW xp_NW xp_SW xp_exn 155 45 (.aload 0) := Or.inr ⟨0, rfl, xd_155_85, rfl⟩
theorem xk_155_46 : xk_OkA xp_F (xp_P sc) xp_cl xp_BW xp_NW xp_SW xp_exn 155 46 (.getfield 130) := ⟨_, xd_155_86, rfl, ⟨_, _, _, rfl, by decide, xu_4, Or.inl xwt_756⟩⟩
theorem xk_155_47 : xk_OkA xp_F (xp_P sc) xp_cl xp_BW xp_NW xp_SW xp_exn 155 47 (.iconst 102) := Or.inr (Or.inl ⟨xd_155_89, by decide +kernel, rfl⟩)
theorem xk_155_48 : xk_OkA xp_F (xp_P sc) xp_cl xp_BW xp_NW xp_SW xp_exn 155 48 (.iload 1) := Or.inr ⟨1, rfl, xd_155_91, rfl⟩
theorem xk_155_49 : xk_OkA xp_F (xp_P sc) xp_cl xp_BW xp_NW xp_SW xp_exn 155 49 (.imul) := ⟨xd_155_92, rfl⟩
theorem xk_155_50 : xk_OkA xp_F (xp_P sc) xp_cl xp_BW xp_NW xp_SW xp_exn 155 50 (.iconst 51) := Or.inr (Or.inl ⟨xd_155_93, by decide +kernel, rfl⟩)
theorem xk_155_51 : xk_OkA xp_F (xp_P sc) xp_cl xp_BW xp_NW xp_SW xp_exn 155 51 (.iload 2) := Or.inr ⟨2, rfl, xd_155_95, rfl⟩
theorem xk_155_52 : xk_OkA xp_F (xp_P sc) xp_cl xp_BW xp_NW xp_SW xp_exn 155 52 (.imul) := ⟨xd_155_96, rfl⟩
theorem xk_155_53 : xk_OkA xp_F (xp_P sc) xp_cl xp_BW xp_NW xp_SW xp_exn 155 53 (.iadd) := ⟨xd_155_97, rfl⟩
theorem xk_155_54 : xk_OkA xp_F (xp_P sc) xp_cl xp_BW xp_NW xp_SW xp_exn 155 54 (.iload 3) := Or.inr ⟨3, rfl, xd_155_98, rfl⟩
theorem xk_155_55 : xk_OkA xp_F (xp_P sc) xp_cl xp_BW xp_NW xp_SW xp_exn 155 55 (.iadd) := ⟨xd_155_99, rfl⟩
theorem xk_155_56 : xk_OkA xp_F (xp_P sc) xp_cl xp_BW xp_NW xp_SW xp_exn 155 56 (.iaload) := ⟨xd_155_100, rfl⟩
theorem xk_155_57 : xk_OkA xp_F (xp_P sc) xp_cl xp_BW xp_NW xp_SW xp_exn 155 57 (.ireturn) := ⟨xd_155_101, rfl⟩
theorem xl_155 : xk_OkL xp_F (xp_P sc) xp_cl xp_BW xp_NW xp_SW xp_exn 155 0 xc_155 := ⟨xk_155_0, xk_155_1, xk_155_2, xk_155_3, xk_155_4, xk_155_5, xk_155_6, xk_155_7, xk_155_8, xk_155_9, xk_155_10, xk_155_11, xk_155_12, xk_155_13, xk_155_14, xk_155_15, xk_155_16, xk_155_17, xk_155_18, xk_155_19, xk_155_20, xk_155_21, xk_155_22, xk_155_23, xk_155_24, xk_155_25, xk_155_26, xk_155_27, xk_155_28, xk_155_29, xk_155_30, xk_155_31, xk_155_32, xk_155_33, xk_155_34, xk_155_35, xk_155_36, xk_155_37, xk_155_38, xk_155_39, xk_155_40, xk_155_41, xk_155_42, xk_155_43, xk_155_44, xk_155_45, xk_155_46, xk_155_47, xk_155_48, xk_155_49, xk_155_50, xk_155_51, xk_155_52, xk_155_53, xk_155_54, xk_155_55, xk_155_56, xk_155_57, trivial⟩
theorem xd_156_0 : decode prog_6_method_51_code 0 = .ok (.aload_n 0, 1) := by decide +kernel
theorem xd_156_1 : decode prog_6_method_51_code 1 = .ok (.aload_n 0, 1) := by decide +kernel
theorem xd_156_2 : decode prog_6_method_51_code 2 = .ok (.getfield 20, 3) := by decide +kernel
theorem xd_156_5 : decode prog_6_method_51_code 5 = .ok (.ifCond .ne 7, 3) := by decide +kernel
theorem xd_156_8 : decode prog_6_method_51_code 8 = .ok (.iconst 1, 1) := by decide +kernel
theorem xd_156_9 : decode prog_6_method_51_code 9 = .ok (.goto 13, 3) := by decide +kernel
theorem xd_156_12 : decode prog_6_method_51_code 12 = .ok (.iload_n 1, 1) := by decide +kernel
theorem xd_156_13 : decode prog_6_method_51_code 13 = .ok (.iconst (-1), 1) := by decide +kernel
theorem xd_156_14 : decode prog_6_method_51_code 14 = .ok (.if_icmp .ge 7, 3) := by decide +kernel
theorem xd_156_17 : decode prog_6_method_51_code 17 = .ok (.iconst 2, 1) := by decide +kernel
theorem xd_156_18 : decode prog_6_method_51_code 18 = .ok (.goto 4, 3) := by decide +kernel
theorem xd_156_21 : decode prog_6_method_51_code 21 = .ok (.iconst 0, 1) := by decide +kernel
theorem xd_156_22 : decode prog_6_method_51_code 22 = .ok (.putfield 37, 3) := by decide +kernel
theorem xd_156_25 : decode prog_6_method_51_code 25 = .ok (.aload_n 0, 1) := by decide +kernel
theorem xd_156_26 : decode prog_6_method_51_code 26 = .ok (.aload_n 0, 1) := by decide +kernel
theorem xd_156_27 : decode prog_6_method_51_code 27 = .ok (.getfield 37, 3) := by decide +kernel
theorem xd_156_30 : decode prog_6_method_51_code 30 = .ok (.ifCond .le 10, 3) := by decide +kernel
theorem xd_156_33 : decode prog_6_method_51_code 33 = .ok (.aload_n 0, 1) := by decide +kernel
theorem xd_156_34 : decode prog_6_method_51_code 34 = .ok (.getfield 24, 3) := by decide +kernel
theorem xd_156_37 : decode prog_6_method_51_code 37 = .ok (.goto 4, 3) := by decide +kernel
theorem xd_156_40 : decode prog_6_method_51_code 40 = .ok (.iload_n 1, 1) := by decide +kernel
theorem xd_156_41 : decode prog_6_method_51_code 41 = .ok (.putfield 24, 3) := by decide +kernel
theorem xd_156_44 : decode prog_6_method_51_code 44 = .ok (.return_, 1) := by decide +kernel
theorem xk_156_0 : xk_OkA xp_F (xp_P sc) xp_cl xp_BW xp_NW xp_SW xp_exn 156 0 (.aload 0) := Or.inr ⟨0, rfl, xd_156_0, rfl⟩
theorem xk_156_1 : xk_OkA xp_F (xp_P sc) xp_cl xp_BW xp_NW xp_SW xp_exn 156 1 (.aload 0) := Or.inr ⟨0, rfl, xd_156_1, rfl⟩
theorem xk_156_2 : xk_OkA xp_F (xp_P sc) xp_cl xp_BW xp_NW xp_SW xp_exn 156 2 (.getfield 132) := ⟨_, xd_156_2, rfl, ⟨_, _, _, rfl, by decide, xu_4, Or.inl xwt_758⟩⟩
theorem xk_156_3 : xk_OkA xp_F (xp_P sc) xp_cl xp_BW xp_NW xp_SW xp_exn 156 3 (.ifCond .ne 6) := ⟨_, xd_156_5, by unfold xf_to; decide +kernel, rfl⟩
theorem xk_156_4 : xk_OkA xp_F (xp_P sc) xp_cl xp_BW xp_NW xp_SW xp_exn 156 4 (.iconst 1) := Or.inl ⟨xd_156_8, rfl⟩
theorem xk_156_5 : xk_OkA xp_F (xp_P sc) xp_cl xp_BW xp_NW xp_SW xp_exn 156 5 (.goto 12) := ⟨_, xd_156_9, by unfold xf_to; decide +kernel⟩
theorem xk_156_6 : xk_OkA xp_F (xp_P sc) xp_cl xp_BW xp_NW xp_SW xp_exn 156 6 (.iload 1) := Or.inr ⟨1, rfl, xd_156_12, rfl⟩
theorem xk_156_7 : xk_OkA xp_F (xp_P sc) xp_cl xp_BW xp_NW xp_SW xp_exn 156 7 (.iconst (-1)) := Or.inl ⟨xd_156_13, rfl⟩
theorem xk_156_8 : xk_OkA xp_F (xp_P sc) xp_cl xp_BW xp_NW xp_SW xp_exn 156 8 (.if_icmp .ge 11) := ⟨_, xd_156_14, by unfold xf_to; decide +kernel, rfl⟩
theorem xk_156_9 : xk_OkA xp_F (xp_P sc) xp_cl xp_BW xp_NW xp_SW xp_exn 156 9 (.iconst 2) := Or.inl ⟨xd_156_17, rfl⟩
theorem xk_156_10 : xk_OkA xp_F (xp_P sc) xp_cl xp_BW xp_NW xp_SW xp_exn 156 10 (.goto 12) := ⟨_, xd_156_18, by unfold xf_to; decide +kernel⟩
theorem xk_156_11 : xk_OkA xp_F (xp_P sc) xp_cl xp_BW xp_NW xp_SW xp_exn 156 11 (.iconst 0) := Or.inl ⟨xd_156_21, rfl⟩
theorem xk_156_12 : xk_OkA xp_F (xp_P sc) xp_cl xp_BW xp_NW xp_SW xp_exn 156 12 (.putfield 128) := ⟨_, xd_156_22, rfl, ⟨_, _, _, rfl, by decide, xu_4, Or.inl xwt_754⟩, xf_4_0⟩
theorem xk_156_13 : xk_OkA xp_F (xp_P sc) xp_cl xp_BW xp_NW xp_SW xp_exn 156 13 (.aload 0) := Or.inr ⟨0, rfl, xd_156_25, rfl⟩
theorem xk_156_14 : xk_OkA xp_F (xp_P sc) xp_cl xp_BW xp_NW xp_SW xp_exn 156 14 (.aload 0) := Or.inr ⟨0, rfl, xd_156_26, rfl⟩
theorem xk_156_15 : xk_OkA xp_F (xp_P sc) xp_cl xp_BW xp_NW xp_SW xp_exn 156 15 (.getfield 128) := ⟨_, xd_156_27, rfl, ⟨_, _, _, rfl, by decide, xu_4, Or.inl xwt_754⟩⟩
theorem xk_156_16 : xk_OkA xp_F (xp_P sc) xp_cl xp_BW xp_NW xp_SW xp_exn 156 16 (.ifCond .le 20) := ⟨_, xd_156_30, by unfold xf_to; decide +kernel, rfl⟩
theorem xk_156_17 : xk_OkA xp_F (xp_P sc) xp_cl xp_BW xp_NW xp_SW xp_exn 156 17 (.aload 0) := Or.inr ⟨0, rfl, xd_156_33, rfl⟩
theorem xk_156_18 : xk_OkA xp_F (xp_P sc) xp_cl xp_BW xp_NW xp_SW xp_exn 156 18 (.getfield 133) := ⟨_, xd_156_34, rfl, ⟨_, _, _, rfl, by decide, xu_4, Or.inl xwt_759⟩⟩
theorem xk_156_19 : xk_OkA xp_F (xp_P sc) xp_cl xp_BW xp_NW xp_SW xp_exn 156 19 (.goto 21) := ⟨_, xd_156_37, by unfold xf_to; decide +kernel⟩
theorem xk_156_20 : xk_OkA xp_F (xp_P sc) xp_cl xp_BW xp_NW xp_SW xp_exn 156 20 (.iload 1) := Or.inr ⟨1, rfl, xd_156_40, rfl⟩
theorem xk_156_21 : xk_OkA xp_F (xp_P sc) xp_cl xp_BW xp_NW xp_SW xp_exn 156 21 (.putfield 133) := ⟨_, xd_156_41, rfl, ⟨_, _, _, rfl, by decide, xu_4, Or.inl xwt_759⟩, xf_4_5⟩
theorem xk_156_22 : xk_OkA xp_F (xp_P sc) xp_cl xp_BW xp_NW xp_SW xp_exn 156 22 (.return_) := ⟨xd_156_44, rfl⟩
theorem xl_156 : xk_OkL xp_F (xp_P sc) xp_cl xp_BW xp_NW xp_SW xp_exn 156 0 xc_156 := ⟨xk_156_0, xk_156_1, xk_156_2, xk_156_3, xk_156_4, xk_156_5, xk_156_6, xk_156_7, xk_156_8, xk_156_9, xk_156_10, xk_156_11, xk_156_12, xk_156_13, xk_156_14, xk_156_15, xk_156_16, xk_156_17, xk_156_18, xk_156_19, xk_156_20, xk_156_21, xk_156_22, trivial⟩
theorem xd_157_0 : decode prog_6_method_52_code 0 = .ok (.aload_n 0, 1) := by decide +kernel
theorem xd_157_1 : decode prog_6_method_52_code 1 = .ok (.aload_n 0, 1) := by decide +kernel
theorem xd_157_2 : decode prog_6_method_52_code 2 = .ok (.getfield 20, 3) := by decide +kernel
theorem xd_157_5 : decode prog_6_method_52_code 5 = .ok (.ifCond .eq 7, 3) := by decide +kernel
theorem xd_157_8 : decode prog_6_method_52_code 8 = .ok (.iconst 0, 1) := by decide +kernel
theorem xd_157_9 : decode prog_6_method_52_code 9 = .ok (.goto 4, 3) := by decide +kernel
theorem xd_157_12 : decode prog_6_method_52_code 12 = .ok (.iconst 1, 1) := by decide +kernel
theorem xd_157_13 : decode prog_6_method_52_code 13 = .ok (.putfield 37, 3) := by decide +kernel
theorem xd_157_16 : decode prog_6_method_52_code 16 = .ok (.aload_n 0, 1) := by decide +kernel
theorem xd_157_17 : decode prog_6_method_52_code 17 = .ok (.iconst 0, 1) := by decide +kernel
theorem xd_157_18 : decode prog_6_method_52_code 18 = .ok (.putfield 20, 3) := by decide +kernel
theorem xd_157_21 : decode prog_6_method_52_code 21 = .ok (.aload_n 0, 1) := by decide +kernel
theorem xd_157_22 : decode prog_6_method_52_code 22 = .ok (.iconst (-1), 1) := by decide +kernel
theorem xd_157_23 : decode prog_6_method_52_code 23 = .ok (.putfield 24, 3) := by decide +kernel
theorem xd_157_26 : decode prog_6_method_52_code 26 = .ok (.aload_n 0, 1) := by decide +kernel
theorem xd_157_27 : decode prog_6_method_52_code 27 = .ok (.iconst (-1), 1) := by decide +kernel
theorem xd_157_28 : decode prog_6_method_52_code 28 = .ok (.putfield 34, 3) := by decide +kernel
theorem xd_157_31 : decode prog_6_method_52_code 31 = .ok (.return_, 1) := by decide +kernel
theorem xk_157_0 : xk_OkA xp_F (xp_P sc) xp_cl xp_BW xp_NW xp_SW xp_exn 157 0 (.aload 0) := Or.inr ⟨0, rfl, xd_157_0, rfl⟩
theorem xk_157_1 : xk_OkA xp_F (xp_P sc) xp_cl xp_BW xp_NW xp_SW xp_exn 157 1 (.aload 0) := Or.inr ⟨0, rfl, xd_157_1, rfl⟩
theorem xk_157_2 : xk_OkA xp_F (xp_P sc) xp_cl xp_BW xp_NW xp_SW xp_exn 157 2 (.getfield 132) := ⟨_, xd_157_2, rfl, ⟨_, _, _, rfl, by decide, xu_4, Or.inl xwt_758⟩⟩
theorem xk_157_3 : xk_OkA xp_F (xp_P sc) xp_cl xp_BW xp_NW xp_SW xp_exn 157 3 (.ifCond .eq 6) := ⟨_, xd_157_5, by unfold xf_to; decide +kernel, rfl⟩
theorem xk_157_4 : xk_OkA xp_F (xp_P sc) xp_cl xp_BW xp_NW xp_SW xp_exn 157 4 (.iconst 0) := Or.inl ⟨xd_157_8, rfl⟩
theorem xk_157_5 : xk_OkA xp_F (xp_P sc) xp_cl xp_BW xp_NW xp_SW xp_exn 157 5 (.goto 7) := ⟨_, xd_157_9, by unfold xf_to; decide +kernel⟩
theorem xk_157_6 : xk_OkA xp_F (xp_P sc) xp_cl xp_BW xp_NW xp_SW xp_exn 157 6 (.iconst 1) := Or.inl ⟨xd_157_12, rfl⟩
theorem xk_157_7 : xk_OkA xp_F (xp_P sc) xp_cl xp_BW xp_NW xp_SW xp_exn 157 7 (.putfield 128) := ⟨_, xd_157_13, rfl, ⟨_, _, _, rfl, by decide, xu_4, Or.inl xwt_754⟩, xf_4_0⟩
theorem xk_157_8 : xk_OkA xp_F (xp_P sc) xp_cl xp_BW xp_NW xp_SW xp_exn 157 8 (.aload 0) := Or.inr ⟨0, rfl, xd_157_16, rfl⟩
theorem xk_157_9 : xk_OkA xp_F (xp_P sc) xp_cl xp_BW xp_NW xp_SW xp_exn 157 9 (.iconst 0) := Or.inl ⟨xd_157_17, rfl⟩
theorem xk_157_10 : xk_OkA xp_F (xp_P sc) xp_cl xp_BW xp_NW xp_SW xp_exn 157 10 (.putstatic 132) := ⟨_, xd_157_18, rfl, ⟨_, _, _, rfl, by decide, xu_4, Or.inl xwt_758⟩, xf_4_4⟩
theorem xk_157_11 : xk_OkA xp_F (xp_P sc) xp_cl xp_BW xp_NW xp_SW xp_exn 157 11 (.aload 0) := Or.inr ⟨0, rfl, xd_157_21, rfl⟩
theorem xk_157_12 : xk_OkA xp_F (xp_P sc) xp_cl xp_BW xp_NW xp_SW xp_exn 157 12 (.iconst (-1)) := Or.inl ⟨xd_157_22, rfl⟩
theorem xk_157_13 : xk_OkA xp_F (xp_P sc) xp_cl xp_BW xp_NW xp_SW xp_exn 157 13 (.putfield 133) := ⟨_, xd_157_23, rfl, ⟨_, _, _, rfl, by decide, xu_4, Or.inl xwt_759⟩, xf_4_5⟩
theorem xk_157_14 : xk_OkA xp_F (xp_P sc) xp_cl xp_BW xp_NW xp_SW xp_exn 157 14 (.aload 0) := Or.inr ⟨0, rfl, xd_157_26, rfl⟩
theorem xk_157_15 : xk_OkA xp_F (xp_P sc) xp_cl xp_BW xp_NW xp_SW xp_exn 157 15 (.iconst (-1)) := Or.inl ⟨xd_157_27, rfl⟩
theorem xk_157_16 : xk_OkA xp_F (xp_P sc) xp_cl xp_BW xp_NW xp_SW xp_exn 157 16 (.putfield 136) := ⟨_, xd_157_28, rfl, ⟨_, _, _, rfl, by decide, xu_4, Or.inl xwt_762⟩, xf_4_8⟩
theorem xk_157_17 : xk_OkA xp_F (xp_P sc) xp_cl xp_BW xp_NW xp_SW xp_exn 157 17 (.return_) := ⟨xd_157_31, rfl⟩
theorem xl_157 : xk_OkL xp_F (xp_P sc) xp_cl xp_BW xp_NW xp_SW xp_exn 157 0 xc_157 := ⟨xk_157_0, xk_157_1, xk_157_2, xk_157_3, xk_157_4, xk_157_5, xk_157_6, xk_157_7, xk_157_8, xk_157_9, xk_157_10, xk_157_11, xk_157_12, xk_157_13, xk_157_14, xk_157_15, xk_157_16, xk_157_17, trivial⟩
theorem xd_158_0 : decode prog_6_method_53_code 0 = .ok (.aload_n 0, 1) := by decide +kernel
theorem xd_158_1 : decode prog_6_method_53_code 1 = .ok (.aload_n 0, 1) := by decide +kernel
theorem xd_158_2 : decode prog_6_method_53_code 2 = .ok (.getfield 20, 3) := by decide +kernel
theorem xd_158_5 : decode prog_6_method_53_code 5 = .ok (.ifCond .eq 7, 3) := by decide +kernel
theorem xd_158_8 : decode prog_6_method_53_code 8 = .ok (.iconst 1, 1) := by decide +kernel
theorem xd_158_9 : decode prog_6_method_53_code 9 = .ok (.goto 15, 3) := by decide +kernel
theorem xd_158_12 : decode prog_6_method_53_code 12 = .ok (.iload_n 1, 1) := by decide +kernel
theorem xd_158_13 : decode prog_6_method_53_code 13 = .ok (.invokestatic 103, 3) := by decide +kernel
theorem xd_158_16 : decode prog_6_method_53_code 16 = .ok (.ifCond .ne 7, 3) := by decide +kernel
theorem xd_158_19 : decode prog_6_method_53_code 19 = .ok (.iconst 2, 1) := by decide +kernel
theorem xd_158_20 : decode prog_6_method_53_code 20 = .ok (.goto 4, 3) := by decide +kernel
theorem xd_158_23 : decode prog_6_method_53_code 23 = .ok (.iconst 0, 1) := by decide +kernel
theorem xd_158_24 : decode prog_6_method_53_code 24 = .ok (.putfield 37, 3) := by decide +kernel
theorem xd_158_27 : decode prog_6_method_53_code 27 = .ok (.aload_n 0, 1) := by decide +kernel
theorem xd_158_28 : decode prog_6_method_53_code 28 = .ok (.getfield 37, 3) := by decide +kernel
theorem xd_158_31 : decode prog_6_method_53_code 31 = .ok (.ifCond .le 5, 3) := by decide +kernel
theorem xd_158_34 : decode prog_6_method_53_code 34 = .ok (.iconst 0, 1) := by decide +kernel
theorem xd_158_35 : decode prog_6_method_53_code 35 = .ok (.ireturn, 1) := by decide +kernel
theorem xd_158_36 : decode prog_6_method_53_code 36 = .ok (.aload_n 0, 1) := by decide +kernel
theorem xd_158_37 : decode prog_6_method_53_code 37 = .ok (.getfield 7, 3) := by decide +kernel
theorem xd_158_40 : decode prog_6_method_53_code 40 = .ok (.iload_n 1, 1) := by decide +kernel
theorem xd_158_41 : decode prog_6_method_53_code 41 = .ok (.baload, 1) := by decide +kernel
theorem xd_158_42 : decode prog_6_method_53_code 42 = .ok (.iload_n 2, 1) := by decide +kernel
theorem xd_158_43 : decode prog_6_method_53_code 43 = .ok (.if_icmp .eq 7, 3) := by decide +kernel
theorem xd_158_46 : decode prog_6_method_53_code 46 = .ok (.iconst 1, 1) := by decide +kernel
theorem xd_158_47 : decode prog_6_method_53_code 47 = .ok (.goto 4, 3) := by decide +kernel
theorem xd_158_50 : decode prog_6_method_53_code 50 = .ok (.iconst 0, 1) := by decide +kernel
theorem xd_158_51 : decode prog_6_method_53_code 51 = .ok (.istore_n 3, 1) := by decide +kernel
theorem xd_158_52 : decode prog_6_method_53_code 52 = .ok (.aload_n 0, 1) := by decide +kernel
theorem xd_158_53 : decode prog_6_method_53_code 53 = .ok (.getfield 7, 3) := by decide +kernel
theorem xd_158_56 : decode prog_6_method_53_code 56 = .ok (.iload_n 1, 1) := by decide +kernel
theorem xd_158_57 : decode prog_6_method_53_code 57 = .ok (.iload_n 2, 1) := by decide +kernel
theorem xd_158_58 : decode prog_6_method_53_code 58 = .ok (.bastore, 1) := by decide +kernel
theorem xd_158_59 : decode prog_6_method_53_code 59 = .ok (.iload_n 3, 1) := by decide +kernel
theorem xd_158_60 : decode prog_6_method_53_code 60 = .ok (.ireturn, 1) := by decide +kernel
theorem xk_158_0 : xk_OkA xp_F (xp_P sc) xp_cl xp_BW xp_NW xp_SW xp_exn 158 0 (.aload 0) := Or.inr ⟨0, rfl, xd_158_0, rfl⟩
theorem xk_158_1 : xk_OkA xp_F (xp_P sc) xp_cl xp_BW xp_NW xp_SW xp_exn 158 1 (.aload 0) := Or.inr ⟨0, rfl, xd_158_1, rfl⟩
theorem xk_158_2 : xk_OkA xp_F (xp_P sc) xp_cl xp_BW xp_NW xp_SW xp_exn 158 2 (.getfield 132) := ⟨_, xd_158_2, rfl, ⟨_, _, _, rfl, by decide, xu_4, Or.inl xwt_758⟩⟩
theorem xk_158_3 : xk_OkA xp_F (xp_P sc) xp_cl xp_BW xp_NW xp_SW xp_exn 158 3 (.ifCond .eq 6) := ⟨_, xd_158_5, by unfold xf_to; decide +kernel, rfl⟩
theorem xk_158_4 : xk_OkA xp_F (xp_P sc) xp_cl xp_BW xp_NW xp_SW xp_exn 158 4 (.iconst 1) := Or.inl ⟨xd_158_8, rfl⟩
theorem xk_158_5 : xk_OkA xp_F (xp_P sc) xp_cl xp_BW xp_NW xp_SW xp_exn 158 5 (.goto 12) := ⟨_, xd_158_9, by unfold xf_to; decide +kernel⟩
theorem xk_158_6 : xk_OkA xp_F (xp_P sc) xp_cl xp_BW xp_NW xp_SW xp_exn 158 6 (.iload 1) := Or.inr ⟨1, rfl, xd_158_12, rfl⟩
theorem xk_158_7 : xk_OkA xp_F (xp_P sc) xp_cl xp_BW xp_NW xp_SW xp_exn 158 7 (.invokeinterface 108 1) := ⟨rfl, Or.inl ⟨xwt_804, rfl⟩, rfl, rfl, xwt_5, by decide +kernel, by decide +kernel, Nat.le_of_ble_eq_true rfl, _, Or.inl xwt_802, Or.inl ⟨xd_158_13, xwt_803, rfl, by decide +kernel⟩⟩
theorem xk_158_8 : xk_OkA xp_F (xp_P sc) xp_cl xp_BW xp_NW xp_SW xp_exn 158 8 (.ifCond .ne 11) := ⟨_, xd_158_16, by unfold xf_to; decide +kernel, rfl⟩
theorem xk_158_9 : xk_OkA xp_F (xp_P sc) xp_cl xp_BW xp_NW xp_SW xp_exn 158 9 (.iconst 2) := Or.inl ⟨xd_158_19, rfl⟩
theorem xk_158_10 : xk_OkA xp_F (xp_P sc) xp_cl xp_BW xp_NW xp_SW xp_exn 158 10 (.goto 12) := ⟨_, xd_158_20, by unfold xf_to; decide +kernel⟩
theorem xk_158_11 : xk_OkA xp_F (xp_P sc) xp_cl xp_BW xp_NW xp_SW xp_exn 158 11 (.iconst 0) := Or.inl ⟨xd_158_23, rfl⟩
theorem xk_158_12 : xk_OkA xp_F (xp_P sc) xp_cl xp_BW xp_NW xp_SW xp_exn 158 12 (.putfield 128) := ⟨_, xd_158_24, rfl, ⟨_, _, _, rfl, by decide, xu_4, Or.inl xwt_754⟩, xf_4_0⟩
theorem xk_158_13 : xk_OkA xp_F (xp_P sc) xp_cl xp_BW xp_NW xp_SW xp_exn 158 13 (.aload 0) := Or.inr ⟨0, rfl, xd_158_27, rfl⟩
theorem xk_158_14 : xk_OkA xp_F (xp_P sc) xp_cl xp_BW xp_NW xp_SW xp_exn 158 14 (.getfield 128) := ⟨_, xd_158_28, rfl, ⟨_, _, _, rfl, by decide, xu_4, Or.inl xwt_754⟩⟩
theorem xk_158_15 : xk_OkA xp_F (xp_P sc) xp_cl xp_BW xp_NW xp_SW xp_exn 158 15 (.ifCond .le 18) := ⟨_, xd_158_31, by unfold xf_to; decide +kernel, rfl⟩
theorem xk_158_16 : xk_OkA xp_F (xp_P sc) xp_cl xp_BW xp_NW xp_SW xp_exn 158 16 (.iconst 0) := Or.inl ⟨xd_158_34, rfl⟩
theorem xk_158_17 : xk_OkA xp_F (xp_P sc) xp_cl xp_BW xp_NW xp_SW xp_exn 158 17 (.freturn) := ⟨xd_158_35, rfl⟩
theorem xk_158_18 : xk_OkA xp_F (xp_P sc) xp_cl xp_BW xp_NW xp_SW xp_exn 158 18 (.aload 0) := Or.inr ⟨0, rfl, xd_158_36, rfl⟩
theorem xk_158_19 : xk_OkA xp_F (xp_P sc) xp_cl xp_BW xp_NW xp_SW xp_exn 158 19 (.getfield 129) := ⟨_, xd_158_37, rfl, ⟨_, _, _, rfl, by decide, xu_4, Or.inl xwt_755⟩⟩
theorem xk_158_20 : xk_OkA xp_F (xp_P sc) xp_cl xp_BW xp_NW xp_SW xp_exn 158 20 (.iload 1) := Or.inr ⟨1, rfl, xd_158_40, rfl⟩
theorem xk_158_21 : xk_OkA xp_F (xp_P sc) xp_cl xp_BW xp_NW xp_SW xp_exn 158 21 (.baload) := ⟨xd_158_41, rfl⟩
theorem xk_158_22 : xk_OkA xp_F (xp_P sc) xp_cl xp_BW xp_NW xp_SW xp_exn 158 22 (.iload 2) := Or.inr ⟨2, rfl, xd_158_42, rfl⟩
theorem xk_158_23 : xk_OkA xp_F (xp_P sc) xp_cl xp_BW xp_NW xp_SW xp_exn 158 23 (.if_icmp .eq 26) := ⟨_, xd_158_43, by unfold xf_to; decide +kernel, rfl⟩
theorem xk_158_24 : xk_OkA xp_F (xp_P sc) xp_cl xp_BW xp_NW xp_SW xp_exn 158 24 (.iconst 1) := Or.inl ⟨xd_158_46, rfl⟩
theorem xk_158_25 : xk_OkA xp_F (xp_P sc) xp_cl xp_BW xp_NW xp_SW xp_exn 158 25 (.goto 27) := ⟨_, xd_158_47, by unfold xf_to; decide +kernel⟩
theorem xk_158_26 : xk_OkA xp_F (xp_P sc) xp_cl xp_BW xp_NW xp_SW xp_exn 158 26 (.iconst 0) := Or.inl ⟨xd_158_50, rfl⟩
theorem xk_158_27 : xk_OkA xp_F (xp_P sc) xp_cl xp_BW xp_NW xp_SW xp_exn 158 27 (.istore 3) := Or.inr ⟨3, rfl, xd_158_51, rfl⟩
theorem xk_158_28 : xk_OkA xp_F (xp_P sc) xp_cl xp_BW xp_NW xp_SW xp_exn 158 28 (.aload 0) := Or.inr ⟨0, rfl, xd_158_52, rfl⟩
theorem xk_158_29 : xk_OkA xp_F (xp_P sc) xp_cl xp_BW xp_NW xp_SW xp_exn 158 29 (.getfield 129) := ⟨_, xd_158_53, rfl, ⟨_, _, _, rfl, by decide, xu_4, Or.inl xwt_755⟩⟩
theorem xk_158_30 : xk_OkA xp_F (xp_P sc) xp_cl xp_BW xp_NW xp_SW xp_exn 158 30 (.iload 1) := Or.inr ⟨1, rfl, xd_158_56, rfl⟩
theorem xk_158_31 : xk_OkA xp_F (xp_P sc) xp_cl xp_BW xp_NW xp_SW xp_exn 158 31 (.iload 2) := Or.inr ⟨2, rfl, xd_158_57, rfl⟩
theorem xk_158_32 : xk_OkA xp_F (xp_P sc) xp_cl xp_BW xp_NW xp_SW xp_exn 158 32 (.bastore) := ⟨xd_158_58, rfl⟩
theorem xk_158_33 : xk_OkA xp_F (xp_P sc) xp_cl xp_BW xp_NW xp_SW xp_exn 158 33 (.iload 3) := Or.inr ⟨3, rfl, xd_158_59, rfl⟩
theorem xk_158_34 : xk_OkA xp_F (xp_P sc) xp_cl xp_BW xp_NW xp_SW xp_exn 158 34 (.freturn) := ⟨xd_158_60, rfl⟩
theorem xl_158 : xk_OkL xp_F (xp_P sc) xp_cl xp_BW xp_NW xp_SW xp_exn 158 0 xc_158 := ⟨xk_158_0, xk_158_1, xk_158_2, xk_158_3, xk_158_4, xk_158_5, xk_158_6, xk_158_7, xk_158_8, xk_158_9, xk_158_10, xk_158_11, xk_158_12, xk_158_13, xk_158_14, xk_158_15, xk_158_16, xk_158_17, xk_158_18, xk_158_19, xk_158_20, xk_158_21, xk_158_22, xk_158_23, xk_158_24, xk_158_25, xk_158_26, xk_158_27, xk_158_28, xk_158_29, xk_158_30, xk_158_31, xk_158_32, xk_158_33, xk_158_34, trivial⟩
theorem xd_159_0 : decode prog_6_method_54_code 0 = .ok (.aload_n 0, 1) := by decide +kernel
theorem xd_159_1 : decode prog_6_method_54_code 1 = .ok (.aload_n 0, 1) := by decide +kernel
theorem xd_159_2 : decode prog_6_method_54_code 2 = .ok (.getfield 20, 3) := by decide +kernel
theorem xd_159_5 : decode prog_6_method_54_code 5 = .ok (.ifCond .eq 7, 3) := by decide +kernel
theorem xd_159_8 : decode prog_6_method_54_code 8 = .ok (.iconst 1, 1) := by decide +kernel
theorem xd_159_9 : decode prog_6_method_54_code 9 = .ok (.goto 4, 3) := by decide +kernel
theorem xd_159_12 : decode prog_6_method_54_code 12 = .ok (.iconst 0, 1) := by decide +kernel
theorem xd_159_13 : decode prog_6_method_54_code 13 = .ok (.putfield 37, 3) := by decide +kernel
theorem xd_159_16 : decode prog_6_method_54_code 16 = .ok (.aload_n 0, 1) := by decide +kernel
theorem xd_159_17 : decode prog_6_method_54_code 17 = .ok (.getfield 20, 3) := by decide +kernel
theorem xd_159_20 : decode prog_6_method_54_code 20 = .ok (.ifCond .eq 5, 3) := by decide +kernel
theorem xd_159_23 : decode prog_6_method_54_code 23 = .ok (.iconst 0, 1) := by decide +kernel
theorem xd_159_24 : decode prog_6_method_54_code 24 = .ok (.ireturn, 1) := by decide +kernel
theorem xd_159_25 : decode prog_6_method_54_code 25 = .ok (.aload_n 0, 1) := by decide +kernel
theorem xd_159_26 : decode prog_6_method_54_code 26 = .ok (.iconst 1, 1) := by decide +kernel
theorem xd_159_27 : decode prog_6_method_54_code 27 = .ok (.putfield 20, 3) := by decide +kernel
theorem xd_159_30 : decode prog_6_method_54_code 30 = .ok (.aload_n 0, 1) := by decide +kernel
theorem xd_159_31 : decode prog_6_method_54_code 31 = .ok (.iconst (-1), 1) := by decide +kernel
theorem xd_159_32 : decode prog_6_method_54_code 32 = .ok (.putfield 34, 3) := by decide +kernel
theorem xd_159_35 : decode prog_6_method_54_code 35 = .ok (.aload_n 0, 1) := by decide +kernel
theorem xd_159_36 : decode prog_6_method_54_code 36 = .ok (.iconst 0, 1) := by decide +kernel
theorem xd_159_37 : decode prog_6_method_54_code 37 = .ok (.putfield 65, 3) := by decide +kernel
theorem xd_159_40 : decode prog_6_method_54_code 40 = .ok (.iconst 0, 1) := by decide +kernel
theorem xd_159_41 : decode prog_6_method_54_code 41 = .ok (.istore_n 1, 1) := by decide +kernel
theorem xd_159_42 : decode prog_6_method_54_code 42 = .ok (.iconst 0, 1) := by decide +kernel
theorem xd_159_43 : decode prog_6_method_54_code 43 = .ok (.istore_n 2, 1) := by decide +kernel
theorem xd_159_44 : decode prog_6_method_54_code 44 = .ok (.iload_n 2, 1) := by decide +kernel
theorem xd_159_45 : decode prog_6_method_54_code 45 = .ok (.bipush 51, 2) := by decide +kernel
theorem xd_159_47 : decode prog_6_method_54_code 47 = .ok (.if_icmp .ge 16, 3) := by decide +kernel
theorem xd_159_50 : decode prog_6_method_54_code 50 = .ok (.aload_n 0, 1) := by decide +kernel
theorem xd_159_51 : decode prog_6_method_54_code 51 = .ok (.getfield 28, 3) := by decide +kernel
theorem xd_159_54 : decode prog_6_method_54_code 54 = .ok (.iload_n 2, 1) := by decide +kernel
theorem xd_159_55 : decode prog_6_method_54_code 55 = .ok (.iconst 0, 1) := by decide +kernel
theorem xd_159_56 : decode prog_6_method_54_code 56 = .ok (.iastore, 1) := by decide +kernel
theorem xd_159_57 : decode prog_6_method_54_code 57 = .ok (.iinc 2 (1), 3) := by decide +kernel
theorem xd_159_60 : decode prog_6_method_54_code 60 = .ok (.goto (-16), 3) := by decide +kernel
theorem xd_159_63 : decode prog_6_method_54_code 63 = .ok (.iconst 0, 1) := by decide +kernel
theorem xd_159_64 : decode prog_6_method_54_code 64 = .ok (.istore_n 2, 1) := by decide +kernel
theorem xd_159_65 : decode prog_6_method_54_code 65 = .ok (.iload_n 2, 1) := by decide +kernel
theorem xd_159_66 : decode prog_6_method_54_code 66 = .ok (.iconst 4, 1) := by decide +kernel
theorem xd_159_67 : decode prog_6_method_54_code 67 = .ok (.if_icmp .ge 88, 3) := by decide +kernel
theorem xd_159_70 : decode prog_6_method_54_code 70 = .ok (.iconst 0, 1) := by decide +kernel
theorem xd_159_71 : decode prog_6_method_54_code 71 = .ok (.istore_n 3, 1) := by decide +kernel
theorem xd_159_72 : decode prog_6_method_54_code 72 = .ok (.iload_n 3, 1) := by decide +kernel
theorem xd_159_73 : decode prog_6_method_54_code 73 = .ok (.iconst 2, 1) := by decide +kernel
theorem xd_159_74 : decode prog_6_method_54_code 74 = .ok (.if_icmp .ge 75, 3) := by decide +kernel
theorem xd_159_77 : decode prog_6_method_54_code 77 = .ok (.aload_n 0, 1) := by decide +kernel
theorem xd_159_78 : decode prog_6_method_54_code 78 = .ok (.getfield 7, 3) := by decide +kernel
theorem xd_159_81 : decode prog_6_method_54_code 81 = .ok (.iload_n 2, 1) := by decide +kernel
theorem xd_159_82 : decode prog_6_method_54_code 82 = .ok (.baload, 1) := by decide +kernel
theorem xd_159_83 : decode prog_6_method_54_code 83 = .ok (.ifCond .eq 66, 3) := by decide +kernel
theorem xd_159_86 : decode prog_6_method_54_code 86 = .ok (.aload_n 0, 1) := by decide +kernel
theorem xd_159_87 : decode prog_6_method_54_code 87 = .ok (.iload_n 2, 1) := by decide +kernel
theorem xd_159_88 : decode prog_6_method_54_code 88 = .ok (.iload_n 3, 1) := by decide +kernel
theorem xd_159_89 : decode prog_6_method_54_code 89 = .ok (.invokevirtual 44, 3) := by decide +kernel
theorem xd_159_92 : decode prog_6_method_54_code 92 = .ok (.iload_n 1, 1) := by decide +kernel
theorem xd_159_93 : decode prog_6_method_54_code 93 = .ok (.if_icmp .le 50, 3) := by decide +kernel
theorem xd_159_96 : decode prog_6_method_54_code 96 = .ok (.aload_n 0, 1) := by decide +kernel
theorem xd_159_97 : decode prog_6_method_54_code 97 = .ok (.iload_n 2, 1) := by decide +kernel
theorem xd_159_98 : decode prog_6_method_54_code 98 = .ok (.iload_n 3, 1) := by decide +kernel
theorem xd_159_99 : decode prog_6_method_54_code 99 = .ok (.invokevirtual 44, 3) := by decide +kernel
theorem xd_159_102 : decode prog_6_method_54_code 102 = .ok (.istore_n 1, 1) := by decide +kernel
theorem xd_159_103 : decode prog_6_method_54_code 103 = .ok (.iconst 0, 1) := by decide +kernel
theorem xd_159_104 : decode prog_6_method_54_code 104 = .ok (.istore 4, 2) := by decide +kernel
theorem xd_159_106 : decode prog_6_method_54_code 106 = .ok (.iload 4, 2) := by decide +kernel
theorem xd_159_108 : decode prog_6_method_54_code 108 = .ok (.bipush 51, 2) := by decide +kernel
theorem xd_159_110 : decode prog_6_method_54_code 110 = .ok (.if_icmp .ge 33, 3) := by decide +kernel
theorem xd_159_113 : decode prog_6_method_54_code 113 = .ok (.aload_n 0, 1) := by decide +kernel
theorem xd_159_114 : decode prog_6_method_54_code 114 = .ok (.getfield 28, 3) := by decide +kernel
theorem xd_159_117 : decode prog_6_method_54_code 117 = .ok (.iload 4, 2) := by decide +kernel
theorem xd_159_119 : decode prog_6_method_54_code 119 = .ok (.aload_n 0, 1) := by decide +kernel
theorem xd_159_120 : decode prog_6_method_54_code 120 = .ok (.getfield 13, 3) := by decide +kernel
theorem xd_159_123 : decode prog_6_method_54_code 123 = .ok (.bipush 102, 2) := by decide +kernel
theorem xd_159_125 : decode prog_6_method_54_code 125 = .ok (.iload_n 2, 1) := by decide +kernel
theorem xd_159_126 : decode prog_6_method_54_code 126 = .ok (.imul, 1) := by decide +kernel
theorem xd_159_127 : decode prog_6_method_54_code 127 = .ok (.bipush 51, 2) := by decide +kernel
theorem xd_159_129 : decode prog_6_method_54_code 129 = .ok (.iload_n 3, 1) := by decide +kernel
theorem xd_159_130 : decode prog_6_method_54_code 130 = .ok (.imul, 1) := by decide +kernel
theorem xd_159_131 : decode prog_6_method_54_code 131 = .ok (.iadd, 1) := by decide +kernel
theorem xd_159_132 : decode prog_6_method_54_code 132 = .ok (.iload 4, 2) := by decide +kernel
theorem xd_159_134 : decode prog_6_method_54_code 134 = .ok (.iadd, 1) := by decide +kernel
theorem xd_159_135 : decode prog_6_method_54_code 135 = .ok (.iaload, 1) := by decide +kernel
theorem xd_159_136 : decode prog_6_method_54_code 136 = .ok (.iastore, 1) := by decide +kernel
theorem xd_159_137 : decode prog_6_method_54_code 137 = .ok (.iinc 4 (1), 3) := by decide +kernel
theorem xd_159_140 : decode prog_6_method_54_code 140 = .ok (.goto (-34), 3) := by decide +kernel
theorem xd_159_143 : decode prog_6_method_54_code 143 = .ok (.iinc 3 (1), 3) := by decide +kernel
theorem xd_159_146 : decode prog_6_method_54_code 146 = .ok (.goto (-74), 3) := by decide +kernel
theorem xd_159_149 : decode prog_6_method_54_code 149 = .ok (.iinc 2 (1), 3) := by decide +kernel
theorem xd_159_152 : decode prog_6_method_54_code 152 = .ok (.goto (-87), 3) := by decide +kernel
theorem xd_159_155 : decode prog_6_method_54_code 155 = .ok (.iconst 0, 1) := by decide +kernel
theorem xd_159_156 : decode prog_6_method_54_code 156 = .ok (.istore_n 2, 1) := by decide +kernel
theorem xd_159_157 : decode prog_6_method_54_code 157 = .ok (.iload_n 2, 1) := by decide +kernel
theorem xd_159_158 : decode prog_6_method_54_code 158 = .ok (.iconst 4, 1) := by decide +kernel
theorem xd_159_159 : decode prog_6_method_54_code 159 = .ok (.if_icmp .ge 58, 3) := by decide +kernel
theorem xd_159_162 : decode prog_6_method_54_code 162 = .ok (.aload_n 0, 1) := by decide +kernel
theorem xd_159_163 : decode prog_6_method_54_code 163 = .ok (.getfield 28, 3) := by decide +kernel
theorem xd_159_166 : decode prog_6_method_54_code 166 = .ok (.iconst 1, 1) := by decide +kernel
theorem xd_159_167 : decode prog_6_method_54_code 167 = .ok (.iload_n 2, 1) := by decide +kernel
theorem xd_159_168 : decode prog_6_method_54_code 168 = .ok (.iadd, 1) := by decide +kernel
theorem xd_159_169 : decode prog_6_method_54_code 169 = .ok (.iaload, 1) := by decide +kernel
theorem xd_159_170 : decode prog_6_method_54_code 170 = .ok (.ifCond .le 41, 3) := by decide +kernel
theorem xd_159_173 : decode prog_6_method_54_code 173 = .ok (.aload_n 0, 1) := by decide +kernel
theorem xd_159_174 : decode prog_6_method_54_code 174 = .ok (.getfield 7, 3) := by decide +kernel
theorem xd_159_177 : decode prog_6_method_54_code 177 = .ok (.iload_n 2, 1) := by decide +kernel
theorem xd_159_178 : decode prog_6_method_54_code 178 = .ok (.baload, 1) := by decide +kernel
theorem xd_159_179 : decode prog_6_method_54_code 179 = .ok (.ifCond .eq 32, 3) := by decide +kernel
theorem xd_159_182 : decode prog_6_method_54_code 182 = .ok (.aload_n 0, 1) := by decide +kernel
theorem xd_159_183 : decode prog_6_method_54_code 183 = .ok (.iload_n 2, 1) := by decide +kernel
theorem xd_159_184 : decode prog_6_method_54_code 184 = .ok (.iconst 0, 1) := by decide +kernel
theorem xd_159_185 : decode prog_6_method_54_code 185 = .ok (.invokevirtual 44, 3) := by decide +kernel
theorem xd_159_188 : decode prog_6_method_54_code 188 = .ok (.iload_n 1, 1) := by decide +kernel
theorem xd_159_189 : decode prog_6_method_54_code 189 = .ok (.if_icmp .eq 22, 3) := by decide +kernel
theorem xd_159_192 : decode prog_6_method_54_code 192 = .ok (.aload_n 0, 1) := by decide +kernel
theorem xd_159_193 : decode prog_6_method_54_code 193 = .ok (.iload_n 2, 1) := by decide +kernel
theorem xd_159_194 : decode prog_6_method_54_code 194 = .ok (.iconst 1, 1) := by decide +kernel
theorem xd_159_195 : decode prog_6_method_54_code 195 = .ok (.invokevirtual 44, 3) := by decide +kernel
theorem xd_159_198 : decode prog_6_method_54_code 198 = .ok (.iload_n 1, 1) := by decide +kernel
theorem xd_159_199 : decode prog_6_method_54_code 199 = .ok (.if_icmp .eq 12, 3) := by decide +kernel
theorem xd_159_202 : decode prog_6_method_54_code 202 = .ok (.aload_n 0, 1) := by decide +kernel
theorem xd_159_203 : decode prog_6_method_54_code 203 = .ok (.iload_n 2, 1) := by decide +kernel
theorem xd_159_204 : decode prog_6_method_54_code 204 = .ok (.aload_n 0, 1) := by decide +kernel
theorem xd_159_205 : decode prog_6_method_54_code 205 = .ok (.getfield 28, 3) := by decide +kernel
theorem xd_159_208 : decode prog_6_method_54_code 208 = .ok (.invokevirtual 55, 3) := by decide +kernel
theorem xd_159_211 : decode prog_6_method_54_code 211 = .ok (.iinc 2 (1), 3) := by decide +kernel
theorem xd_159_214 : decode prog_6_method_54_code 214 = .ok (.goto (-57), 3) := by decide +kernel
theorem xd_159_217 : decode prog_6_method_54_code 217 = .ok (.bipush 9, 2) := by decide +kernel
theorem xd_159_219 : decode prog_6_method_54_code 219 = .ok (.istore_n 2, 1) := by decide +kernel
theorem xd_159_220 : decode prog_6_method_54_code 220 = .ok (.iload_n 2, 1) := by decide +kernel
theorem xd_159_221 : decode prog_6_method_54_code 221 = .ok (.bipush 49, 2) := by decide +kernel
theorem xd_159_223 : decode prog_6_method_54_code 223 = .ok (.if_icmp .ge 80, 3) := by decide +kernel
theorem xd_159_226 : decode prog_6_method_54_code 226 = .ok (.iconst 0, 1) := by decide +kernel
theorem xd_159_227 : decode prog_6_method_54_code 227 = .ok (.istore_n 3, 1) := by decide +kernel
theorem xd_159_228 : decode prog_6_method_54_code 228 = .ok (.iload_n 3, 1) := by decide +kernel
theorem xd_159_229 : decode prog_6_method_54_code 229 = .ok (.iconst 4, 1) := by decide +kernel
theorem xd_159_230 : decode prog_6_method_54_code 230 = .ok (.if_icmp .ge 67, 3) := by decide +kernel
theorem xd_159_233 : decode prog_6_method_54_code 233 = .ok (.aload_n 0, 1) := by decide +kernel
theorem xd_159_234 : decode prog_6_method_54_code 234 = .ok (.aload_n 0, 1) := by decide +kernel
theorem xd_159_235 : decode prog_6_method_54_code 235 = .ok (.getfield 28, 3) := by decide +kernel
theorem xd_159_238 : decode prog_6_method_54_code 238 = .ok (.iload_n 2, 1) := by decide +kernel
theorem xd_159_239 : decode prog_6_method_54_code 239 = .ok (.iaload, 1) := by decide +kernel
theorem xd_159_240 : decode prog_6_method_54_code 240 = .ok (.invokevirtual 146, 3) := by decide +kernel
theorem xd_159_243 : decode prog_6_method_54_code 243 = .ok (.ifCond .eq 54, 3) := by decide +kernel
theorem xd_159_246 : decode prog_6_method_54_code 246 = .ok (.aload_n 0, 1) := by decide +kernel
theorem xd_159_247 : decode prog_6_method_54_code 247 = .ok (.aload_n 0, 1) := by decide +kernel
theorem xd_159_248 : decode prog_6_method_54_code 248 = .ok (.getfield 28, 3) := by decide +kernel
theorem xd_159_251 : decode prog_6_method_54_code 251 = .ok (.iload_n 2, 1) := by decide +kernel
theorem xd_159_252 : decode prog_6_method_54_code 252 = .ok (.iconst 1, 1) := by decide +kernel
theorem xd_159_253 : decode prog_6_method_54_code 253 = .ok (.iadd, 1) := by decide +kernel
theorem xd_159_254 : decode prog_6_method_54_code 254 = .ok (.iaload, 1) := by decide +kernel
theorem xd_159_255 : decode prog_6_method_54_code 255 = .ok (.invokevirtual 146, 3) := by decide +kernel
theorem xd_159_258 : decode prog_6_method_54_code 258 = .ok (.ifCond .eq 39, 3) := by decide +kernel
theorem xd_159_261 : decode prog_6_method_54_code 261 = .ok (.aload_n 0, 1) := by decide +kernel
theorem xd_159_262 : decode prog_6_method_54_code 262 = .ok (.getfield 17, 3) := by decide +kernel
theorem xd_159_265 : decode prog_6_method_54_code 265 = .ok (.iconst 4, 1) := by decide +kernel
theorem xd_159_266 : decode prog_6_method_54_code 266 = .ok (.aload_n 0, 1) := by decide +kernel
theorem xd_159_267 : decode prog_6_method_54_code 267 = .ok (.getfield 28, 3) := by decide +kernel
theorem xd_159_270 : decode prog_6_method_54_code 270 = .ok (.iload_n 2, 1) := by decide +kernel
theorem xd_159_271 : decode prog_6_method_54_code 271 = .ok (.iconst 1, 1) := by decide +kernel
theorem xd_159_272 : decode prog_6_method_54_code 272 = .ok (.iadd, 1) := by decide +kernel
theorem xd_159_273 : decode prog_6_method_54_code 273 = .ok (.iaload, 1) := by decide +kernel
theorem xd_159_274 : decode prog_6_method_54_code 274 = .ok (.iconst 1, 1) := by decide +kernel
theorem xd_159_275 : decode prog_6_method_54_code 275 = .ok (.isub, 1) := by decide +kernel
theorem xd_159_276 : decode prog_6_method_54_code 276 = .ok (.imul, 1) := by decide +kernel
theorem xd_159_277 : decode prog_6_method_54_code 277 = .ok (.iload_n 3, 1) := by decide +kernel
theorem xd_159_278 : decode prog_6_method_54_code 278 = .ok (.iadd, 1) := by decide +kernel
theorem xd_159_279 : decode prog_6_method_54_code 279 = .ok (.aload_n 0, 1) := by decide +kernel
theorem xd_159_280 : decode prog_6_method_54_code 280 = .ok (.aload_n 0, 1) := by decide +kernel
theorem xd_159_281 : decode prog_6_method_54_code 281 = .ok (.getfield 28, 3) := by decide +kernel
theorem xd_159_284 : decode prog_6_method_54_code 284 = .ok (.iload_n 2, 1) := by decide +kernel
theorem xd_159_285 : decode prog_6_method_54_code 285 = .ok (.iaload, 1) := by decide +kernel
theorem xd_159_286 : decode prog_6_method_54_code 286 = .ok (.iload_n 3, 1) := by decide +kernel
theorem xd_159_287 : decode prog_6_method_54_code 287 = .ok (.invokevirtual 140, 3) := by decide +kernel
theorem xd_159_290 : decode prog_6_method_54_code 290 = .ok (.iastore, 1) := by decide +kernel
theorem xd_159_291 : decode prog_6_method_54_code 291 = .ok (.iinc 3 (1), 3) := by decide +kernel
theorem xd_159_294 : decode prog_6_method_54_code 294 = .ok (.goto (-66), 3) := by decide +kernel
theorem xd_159_297 : decode prog_6_method_54_code 297 = .ok (.iinc 2 (2), 3) := by decide +kernel
theorem xd_159_300 : decode prog_6_method_54_code 300 = .ok (.goto (-80), 3) := by decide +kernel
theorem xd_159_303 : decode prog_6_method_54_code 303 = .ok (.iload_n 1, 1) := by decide +kernel
theorem xd_159_304 : decode prog_6_method_54_code 304 = .ok (.ireturn, 1) := by decide +kernel
theorem xk_159_0 : xk_OkA xp_F (xp_P sc) xp_cl xp_BW xp_NW xp_SW xp_exn 159 0 (.aload 0) := Or.inr ⟨0, rfl, xd_159_0, rfl⟩
theorem xk_159_1 : xk_OkA xp_F (xp_P sc) xp_cl xp_BW xp_NW xp_SW xp_exn 159 1 (.aload 0) := Or.inr ⟨0, rfl, xd_159_1, rfl⟩
theorem xk_159_2 : xk_OkA xp_F (xp_P sc) xp_cl xp_BW xp_NW xp_SW xp_exn 159 2 (.getfield 132) := ⟨_, xd_159_2, rfl, ⟨_, _, _, rfl, by decide, xu_4, Or.inl xwt_758⟩⟩
theorem xk_159_3 : xk_OkA xp_F (xp_P sc) xp_cl xp_BW xp_NW xp_SW xp_exn 159 3 (.ifCond .eq 6) := ⟨_, xd_159_5, by unfold xf_to; decide +kernel, rfl⟩
theorem xk_159_4 : xk_OkA xp_F (xp_P sc) xp_cl xp_BW xp_NW xp_SW xp_exn 159 4 (.iconst 1) := Or.inl ⟨xd_159_8, rfl⟩
theorem xk_159_5 : xk_OkA xp_F (xp_P sc) xp_cl xp_BW xp_NW xp_SW xp_exn 159 5 (.goto 7) := ⟨_, xd_159_9, by unfold xf_to; decide +kernel⟩
theorem xk_159_6 : xk_OkA xp_F (xp_P sc) xp_cl xp_BW xp_NW xp_SW xp_exn 159 6 (.iconst 0) := Or.inl ⟨xd_159_12, rfl⟩
theorem xk_159_7 : xk_OkA xp_F (xp_P sc) xp_cl xp_BW xp_NW xp_SW xp_exn 159 7 (.putfield 128) := ⟨_, xd_159_13, rfl, ⟨_, _, _, rfl, by decide, xu_4, Or.inl xwt_754⟩, xf_4_0⟩
theorem xk_159_8 : xk_OkA xp_F (xp_P sc) xp_cl xp_BW xp_NW xp_SW xp_exn 159 8 (.aload 0) := Or.inr ⟨0, rfl, xd_159_16, rfl⟩
theorem xk_159_9 : xk_OkA xp_F (xp_P sc) xp_cl xp_BW xp_NW xp_SW xp_exn 159 9 (.getfield 132) := ⟨_, xd_159_17, rfl, ⟨_, _, _, rfl, by decide, xu_4, Or.inl xwt_758⟩⟩
theorem xk_159_10 : xk_OkA xp_F (xp_P sc) xp_cl xp_BW xp_NW xp_SW xp_exn 159 10 (.ifCond .eq 13) := ⟨_, xd_159_20, by unfold xf_to; decide +kernel, rfl⟩
theorem xk_159_11 : xk_OkA xp_F (xp_P sc) xp_cl xp_BW xp_NW xp_SW xp_exn 159 11 (.iconst 0) := Or.inl ⟨xd_159_23, rfl⟩
theorem xk_159_12 : xk_OkA xp_F (xp_P sc) xp_cl xp_BW xp_NW xp_SW xp_exn 159 12 (.ireturn) := ⟨xd_159_24, rfl⟩
theorem xk_159_13 : xk_OkA xp_F (xp_P sc) xp_cl xp_BW xp_NW xp_SW xp_exn 159 13 (.aload 0) := Or.inr ⟨0, rfl, xd_159_25, rfl⟩
theorem xk_159_14 : xk_OkA xp_F (xp_P sc) xp_cl xp_BW xp_NW xp_SW xp_exn 159 14 (.iconst 1) := Or.inl ⟨xd_159_26, rfl⟩
theorem xk_159_15 : xk_OkA xp_F (xp_P sc) xp_cl xp_BW xp_NW xp_SW xp_exn 159 15 (.putstatic 132) := ⟨_, xd_159_27, rfl, ⟨_, _, _, rfl, by decide, xu_4, Or.inl xwt_758⟩, xf_4_4⟩
theorem xk_159_16 : xk_OkA xp_F (xp_P sc) xp_cl xp_BW xp_NW xp_SW xp_exn 159 16 (.aload 0) := Or.inr ⟨0, rfl, xd_159_30, rfl⟩
theorem xk_159_17 : xk_OkA xp_F (xp_P sc) xp_cl xp_BW xp_NW xp_SW xp_exn 159 17 (.iconst (-1)) := Or.inl ⟨xd_159_31, rfl⟩
theorem xk_159_18 : xk_OkA xp_F (xp_P sc) xp_cl xp_BW xp_NW xp_SW xp_exn 159 18 (.putfield 136) := ⟨_, xd_159_32, rfl, ⟨_, _, _, rfl, by decide, xu_4, Or.inl xwt_762⟩, xf_4_8⟩
theorem xk_159_19 : xk_OkA xp_F (xp_P sc) xp_cl xp_BW xp_NW xp_SW xp_exn 159 19 (.aload 0) := Or.inr ⟨0, rfl, xd_159_35, rfl⟩
theorem xk_159_20 : xk_OkA xp_F (xp_P sc) xp_cl xp_BW xp_NW xp_SW xp_exn 159 20 (.iconst 0) := Or.inl ⟨xd_159_36, rfl⟩
theorem xk_159_21 : xk_OkA xp_F (xp_P sc) xp_cl xp_BW xp_NW xp_SW xp_exn 159 21 (.putfield 139) := ⟨_, xd_159_37, rfl, ⟨_, _, _, rfl, by decide, xu_4, Or.inl xwt_765⟩, xf_4_11⟩
theorem xk_159_22 : xk_OkA xp_F (xp_P sc) xp_cl xp_BW xp_NW xp_SW xp_exn 159 22 (.iconst 0) := Or.inl ⟨xd_159_40, rfl⟩
theorem xk_159_23 : xk_OkA xp_F (xp_P sc) xp_cl xp_BW xp_NW xp_SW xp_exn 159 23 (.istore 1) := Or.inr ⟨1, rfl, xd_159_41, rfl⟩
theorem xk_159_24 : xk_OkA xp_F (xp_P sc) xp_cl xp_BW xp_NW xp_SW xp_exn 159 24 (.iconst 0) := Or.inl ⟨xd_159_42, rfl⟩
theorem xk_159_25 : xk_OkA xp_F (xp_P sc) xp_cl xp_BW xp_NW xp_SW xp_exn 159 25 (.istore 2) := Or.inr ⟨2, rfl, xd_159_43, rfl⟩
theorem xk_159_26 : xk_OkA xp_F (xp_P sc) xp_cl xp_BW xp_NW xp_SW xp_exn 159 26 (.iload 2) := Or.inr ⟨2, rfl, xd_159_44, rfl⟩
theorem xk_159_27 : xk_OkA xp_F (xp_P sc) xp_cl xp_BW xp_NW xp_SW xp_exn 159 27 (.iconst 51) := Or.inr (Or.inl ⟨xd_159_45, by decide +kernel, rfl⟩)
theorem xk_159_28 : xk_OkA xp_F (xp_P sc) xp_cl xp_BW xp_NW xp_SW xp_exn 159 28 (.if_icmp .ge 36) := ⟨_, xd_159_47, by unfold xf_to; decide +kernel, rfl⟩
theorem xk_159_29 : xk_OkA xp_F (xp_P sc) xp_cl xp_BW xp_NW xp_SW xp_exn 159 29 (.aload 0) := Or.inr ⟨0, rfl, xd_159_50, rfl⟩
theorem xk_159_30 : xk_OkA xp_F (xp_P sc) xp_cl xp_BW xp_NW xp_SW xp_exn 159 30 (.getfield 134) := ⟨_, xd_159_51, rfl, ⟨_, _, _, rfl, by decide, xu_4, Or.inl xwt_760⟩⟩
theorem xk_159_31 : xk_OkA xp_F (xp_P sc) xp_cl xp_BW xp_NW xp_SW xp_exn 159 31 (.iload 2) := Or.inr ⟨2, rfl, xd_159_54, rfl⟩
theorem xk_159_32 : xk_OkA xp_F (xp_P sc) xp_cl xp_BW xp_NW xp_SW xp_exn 159 32 (.iconst 0) := Or.inl ⟨xd_159_55, rfl⟩
theorem xk_159_33 : xk_OkA xp_F (xp_P sc) xp_cl xp_BW xp_NW xp_SW xp_exn 159 33 (.iastore) := ⟨xd_159_56, rfl⟩
theorem xk_159_34 : xk_OkA xp_F (xp_P sc) xp_cl xp_BW xp_NW xp_SW xp_exn 159 34 (.iinc 2 (1)) := ⟨xd_159_57, rfl⟩
theorem xk_159_35 : xk_OkA xp_F (xp_P sc) xp_cl xp_BW xp_NW xp_SW xp_exn 159 35 (.goto 26) := ⟨_, xd_159_60, by unfold xf_to; decide +kernel⟩
theorem xk_159_36 : xk_OkA xp_F (xp_P sc) xp_cl xp_BW xp_NW xp_SW xp_exn 159 36 (.iconst 0) := Or.inl ⟨xd_159_63, rfl⟩
theorem xk_159_37 : xk_OkA xp_F (xp_P sc) xp_cl xp_BW xp_NW xp_SW xp_exn 159 37 (.istore 2) := Or.inr ⟨2, rfl, xd_159_64, rfl⟩
theorem xk_159_38 : xk_OkA xp_F (xp_P sc) xp_cl xp_BW xp_NW xp_SW xp_exn 159 38 (.iload 2) := Or.inr ⟨2, rfl, xd_159_65, rfl⟩
theorem xk_159_39 : xk_OkA xp_F (xp_P sc) xp_cl xp_BW xp_NW xp_SW xp_exn 159 39 (.iconst 4) := Or.inl ⟨xd_159_66, rfl⟩
theorem xk_159_40 : xk_OkA xp_F (xp_P sc) xp_cl xp_BW xp_NW xp_SW xp_exn 159 40 (.if_icmp .ge 89) := ⟨_, xd_159_67, by unfold xf_to; decide +kernel, rfl⟩
theorem xk_159_41 : xk_OkA xp_F (xp_P sc) xp_cl xp_BW xp_NW xp_SW xp_exn 159 41 (.iconst 0) := Or.inl ⟨xd_159_70, rfl⟩
theorem xk_159_42 : xk_OkA xp_F (xp_P sc) xp_cl xp_BW xp_NW xp_SW xp_exn 159 42 (.istore 3) := Or.inr ⟨3, rfl, xd_159_71, rfl⟩
theorem xk_159_43 : xk_OkA xp_F (xp_P sc) xp_cl xp_BW xp_NW xp_SW xp_exn 159 43 (.iload 3) := Or.inr ⟨3, rfl, xd_159_72, rfl⟩
theorem xk_159_44 : xk_OkA xp_F (xp_P sc) xp_cl xp_BW xp_NW xp_SW xp_exn 159 44 (.iconst 2) := Or.inl ⟨xd_159_73, rfl⟩
theorem xk_159_45 : xk_OkA xp_F (xp_P sc) xp_cl xp_BW xp_NW xp_SW xp_exn 159 45 (.if_icmp .ge 87) := ⟨_, xd_159_74, by unfold xf_to; decide +kernel, rfl⟩
theorem xk_159_46 : xk_OkA xp_F (xp_P sc) xp_cl xp_BW xp_NW xp_SW xp_exn 159 46 (.aload 0) := Or.inr ⟨0, rfl, xd_159_77, rfl⟩
theorem xk_159_47 : xk_OkA xp_F (xp_P sc) xp_cl xp_BW xp_NW xp_SW xp_exn 159 47 (.getfield 129) := ⟨_, xd_159_78, rfl, ⟨_, _, _, rfl, by decide, xu_4, Or.inl xwt_755⟩⟩
theorem xk_159_48 : xk_OkA xp_F (xp_P sc) xp_cl xp_BW xp_NW xp_SW xp_exn 159 48 (.iload 2) := Or.inr ⟨2, rfl, xd_159_81, rfl⟩
theorem xk_159_49 : xk_OkA xp_F (xp_P sc) xp_cl xp_BW xp_NW xp_SW xp_exn 159 49 (.baload) := ⟨xd_159_82, rfl⟩
theorem xk_159_50 : xk_OkA xp_F (xp_P sc) xp_cl xp_BW xp_NW xp_SW xp_exn 159 50 (.ifCond .eq 87) := ⟨_, xd_159_83, by unfold xf_to; decide +kernel, rfl⟩
theorem xk_159_51 : xk_OkA xp_F (xp_P sc) xp_cl xp_BW xp_NW xp_SW xp_exn 159 51 (.aload 0) := Or.inr ⟨0, rfl, xd_159_86, rfl⟩
theorem xk_159_52 : xk_OkA xp_F (xp_P sc) xp_cl xp_BW xp_NW xp_SW xp_exn 159 52 (.iload 2) := Or.inr ⟨2, rfl, xd_159_87, rfl⟩
theorem xk_159_53 : xk_OkA xp_F (xp_P sc) xp_cl xp_BW xp_NW xp_SW xp_exn 159 53 (.iload 3) := Or.inr ⟨3, rfl, xd_159_88, rfl⟩
theorem xk_159_54 : xk_OkA xp_F (xp_P sc) xp_cl xp_BW xp_NW xp_SW xp_exn 159 54 (.invokeinterface 120 3) := ⟨rfl, Or.inl ⟨xwt_828, rfl⟩, rfl, rfl, xwt_5, by decide +kernel, by decide +kernel, Nat.le_of_ble_eq_true rfl, _, Or.inl xwt_825, Or.inr ⟨xd_159_89, xwt_827, xws_82, ⟨_, _, _, rfl, rfl⟩, by decide +kernel⟩⟩
theorem xk_159_55 : xk_OkA xp_F (xp_P sc) xp_cl xp_BW xp_NW xp_SW xp_exn 159 55 (.iload 1) := Or.inr ⟨1, rfl, xd_159_92, rfl⟩
theorem xk_159_56 : xk_OkA xp_F (xp_P sc) xp_cl xp_BW xp_NW xp_SW xp_exn 159 56 (.if_icmp .le 85) := ⟨_, xd_159_93, by unfold xf_to; decide +kernel, rfl⟩
theorem xk_159_57 : xk_OkA xp_F (xp_P sc) xp_cl xp_BW xp_NW xp_SW xp_exn 159 57 (.aload 0) := Or.inr ⟨0, rfl, xd_159_96, rfl⟩
theorem xk_159_58 : xk_OkA xp_F (xp_P sc) xp_cl xp_BW xp_NW xp_SW xp_exn 159 58 (.iload 2) := Or.inr ⟨2, rfl, xd_159_97, rfl⟩
theorem xk_159_59 : xk_OkA xp_F (xp_P sc) xp_cl xp_BW xp_NW xp_SW xp_exn 159 59 (.iload 3) := Or.inr ⟨3, rfl, xd_159_98, rfl⟩
theorem xk_159_60 : xk_OkA xp_F (xp_P sc) xp_cl xp_BW xp_NW xp_SW xp_exn 159 60 (.invokeinterface 120 3) := ⟨rfl, Or.inl ⟨xwt_828, rfl⟩, rfl, rfl, xwt_5, by decide +kernel, by decide +kernel, Nat.le_of_ble_eq_true rfl, _, Or.inl xwt_825, Or.inr ⟨xd_159_99, xwt_827, xws_82, ⟨_, _, _, rfl, rfl⟩, by decide +kernel⟩⟩
theorem xk_159_61 : xk_OkA xp_F (xp_P sc) xp_cl xp_BW xp_NW xp_SW xp_exn 159 61 (.istore 1) := Or.inr ⟨1, rfl, xd_159_102, rfl⟩
theorem xk_159_62 : xk_OkA xp_F (xp_P sc) xp_cl xp_BW xp_NW xp_SW xp_exn 159 62 (.iconst 0) := Or.inl ⟨xd_159_103, rfl⟩
theorem xk_159_63 : xk_OkA xp_F (xp_P sc) xp_cl xp_BW xp_NW xp_SW xp_exn 159 63 (.istore 4) := Or.inl ⟨xd_159_104, rfl⟩
theorem xk_159_64 : xk_OkA xp_F (xp_P sc) xp_cl xp_BW xp_NW xp_SW xp_exn 159 64 (.iload 4) := Or.inl ⟨xd_159_106, rfl⟩
theorem xk_159_65 : xk_OkA xp_F (xp_P sc) xp_cl xp_BW xp_NW xp_SW xp_exn 159 65 (.iconst 51) := Or.inr (Or.inl ⟨xd_159_108, by decide +kernel, rfl⟩)
theorem xk_159_66 : xk_OkA xp_F (xp_P sc) xp_cl xp_BW xp_NW xp_SW xp_exn 159 66 (.if_icmp .ge 85) := ⟨_, xd_159_110, by unfold xf_to; decide +kernel, rfl⟩
theorem xk_159_67 : xk_OkA xp_F (xp_P sc) xp_cl xp_BW xp_NW xp_SW xp_exn 159 67 (.aload 0) := Or.inr ⟨0, rfl, xd_159_113, rfl⟩
theorem xk_159_68 : xk_OkA xp_F (xp_P sc) xp_cl xp_BW xp_NW xp_SW xp_exn 159 68 (.getfield 134) := ⟨_, xd_159_114, rfl, ⟨_, _, _, rfl, by decide, xu_4, Or.inl xwt_760⟩⟩
theorem xk_159_69 : xk_OkA xp_F (xp_P sc) xp_cl xp_BW xp_NW xp_SW xp_exn 159 69 (.iload 4) := Or.inl ⟨xd_159_117, rfl⟩
theorem xk_159_70 : xk_OkA xp_F (xp_P sc) xp_cl xp_BW xp_NW xp_SW xp_exn 159 70 (.aload 0) := Or.inr ⟨0, rfl, xd_159_119, rfl⟩
theorem xk_159_71 : xk_OkA xp_F (xp_P sc) xp_cl xp_BW xp_NW xp_SW xp_exn 159 71 (.getfield 130) := ⟨_, xd_159_120, rfl, ⟨_, _, _, rfl, by decide, xu_4, Or.inl xwt_756⟩⟩
theorem xk_159_72 : xk_OkA xp_F (xp_P sc) xp_cl xp_BW xp_NW xp_SW xp_exn 159 72 (.iconst 102) := Or.inr (Or.inl ⟨xd_159_123, by decide +kernel, rfl⟩)
theorem xk_159_73 : xk_OkA xp_F (xp_P sc) xp_cl xp_BW xp_NW xp_SW xp_exn 159 73 (.iload 2) := Or.inr ⟨2, rfl, xd_159_125, rfl⟩
theorem xk_159_74 : xk_OkA xp_F (xp_P sc) xp_cl xp_BW xp_NW xp_SW xp_exn 159 74 (.imul) := ⟨xd_159_126, rfl⟩
theorem xk_159_75 : xk_OkA xp_F (xp_P sc) xp_cl xp_BW xp_NW xp_SW xp_exn 159 75 (.iconst 51) := Or.inr (Or.inl ⟨xd_159_127, by decide +kernel, rfl⟩)
theorem xk_159_76 : xk_OkA xp_F (xp_P sc) xp_cl xp_BW xp_NW xp_SW xp_exn 159 76 (.iload 3) := Or.inr ⟨3, rfl, xd_159_129, rfl⟩
theorem xk_159_77 : xk_OkA xp_F (xp_P sc) xp_cl xp_BW xp_NW xp_SW xp_exn 159 77 (.imul) := ⟨xd_159_130, rfl⟩
theorem xk_159_78 : xk_OkA xp_F (xp_P sc) xp_cl xp_BW xp_NW xp_SW xp_exn 159 78 (.iadd) := ⟨xd_159_131, rfl⟩
theorem xk_159_79 : xk_OkA xp_F (xp_P sc) xp_cl xp_BW xp_NW xp_SW xp_exn 159 79 (.iload 4) := Or.inl ⟨xd_159_132, rfl⟩
theorem xk_159_80 : xk_OkA xp_F (xp_P sc) xp_cl xp_BW xp_NW xp_SW xp_exn 159 80 (.iadd) := ⟨xd_159_134, rfl⟩
theorem xk_159_81 : xk_OkA xp_F (xp_P sc) xp_cl xp_BW xp_NW xp_SW xp_exn 159 81 (.iaload) := ⟨xd_159_135, rfl⟩
theorem xk_159_82 : xk_OkA xp_F (xp_P sc) xp_cl xp_BW xp_NW xp_SW xp_exn 159 82 (.iastore) := ⟨xd_159_136, rfl⟩
theorem xk_159_83 : xk_OkA xp_F (xp_P sc) xp_cl xp_BW xp_NW xp_SW xp_exn 159 83 (.iinc 4 (1)) := ⟨xd_159_137, rfl⟩
theorem xk_159_84 : xk_OkA xp_F (xp_P sc) xp_cl xp_BW xp_NW xp_SW xp_exn 159 84 (.goto 64) := ⟨_, xd_159_140, by unfold xf_to; decide +kernel⟩
theorem xk_159_85 : xk_OkA xp_F (xp_P sc) xp_cl xp_BW xp_NW xp_SW xp_exn 159 85 (.iinc 3 (1)) := ⟨xd_159_143, rfl⟩
theorem xk_159_86 : xk_OkA xp_F (xp_P sc) xp_cl xp_BW xp_NW xp_SW xp_exn 159 86 (.goto 43) := ⟨_, xd_159_146, by unfold xf_to; decide +kernel⟩
theorem xk_159_87 : xk_OkA xp_F (xp_P sc) xp_cl xp_BW xp_NW xp_SW xp_exn 159 87 (.iinc 2 (1)) := ⟨xd_159_149, rfl⟩
theorem xk_159_88 : xk_OkA xp_F (xp_P sc) xp_cl xp_BW xp_NW xp_SW xp_exn 159 88 (.goto 38) := ⟨_, xd_159_152, by unfold xf_to; decide +kernel⟩
theorem xk_159_89 : xk_OkA xp_F (xp_P sc) xp_cl xp_BW xp_NW xp_SW xp_exn 159 89 (.iconst 0) := Or.inl ⟨xd_159_155, rfl⟩
theorem xk_159_90 : xk_OkA xp_F (xp_P sc) xp_cl xp_BW xp_NW xp_SW xp_exn 159 90 (.istore 2) := Or.inr ⟨2, rfl, xd_159_156, rfl⟩
theorem xk_159_91 : xk_OkA xp_F (xp_P sc) xp_cl xp_BW xp_NW xp_SW xp_exn 159 91 (.iload 2) := Or.inr ⟨2, rfl, xd_159_157, rfl⟩
theorem xk_159_92 : xk_OkA xp_F (xp_P sc) xp_cl xp_BW xp_NW xp_SW xp_exn 159 92 (.iconst 4) := Or.inl ⟨xd_159_158, rfl⟩
theorem xk_159_93 : xk_OkA xp_F (xp_P sc) xp_cl xp_BW xp_NW xp_SW xp_exn 159 93 (.if_icmp .ge 125) := ⟨_, xd_159_159, by unfold xf_to; decide +kernel, rfl⟩
theorem xk_159_94 : xk_OkA xp_F (xp_P sc) xp_cl xp_BW xp_NW xp_SW xp_exn 159 94 (.aload 0) := Or.inr ⟨0, rfl, xd_159_162, rfl⟩
theorem xk_159_95 : xk_OkA xp_F (xp_P sc) xp_cl xp_BW xp_NW xp_SW xp_exn 159 95 (.getfield 134) := ⟨_, xd_159_163, rfl, ⟨_, _, _, rfl, by decide, xu_4, Or.inl xwt_760⟩⟩
theorem xk_159_96 : xk_OkA xp_F (xp_P sc) xp_cl xp_BW xp_NW xp_SW xp_exn 159 96 (.iconst 1) := Or.inl ⟨xd_159_166, rfl⟩
theorem xk_159_97 : xk_OkA xp_F (xp_P sc) xp_cl xp_BW xp_NW xp_SW xp_exn 159 97 (.iload 2) := Or.inr ⟨2, rfl, xd_159_167, rfl⟩
theorem xk_159_98 : xk_OkA xp_F (xp_P sc) xp_cl xp_BW xp_NW xp_SW xp_exn 159 98 (.iadd) := ⟨xd_159_168, rfl⟩
theorem xk_159_99 : xk_OkA xp_F (xp_P sc) xp_cl xp_BW xp_NW xp_SW xp_exn 159 99 (.iaload) := ⟨xd_159_169, rfl⟩
theorem xk_159_100 : xk_OkA xp_F (xp_P sc) xp_cl xp_BW xp_NW xp_SW xp_exn 159 100 (.ifCond .le 123) := ⟨_, xd_159_170, by unfold xf_to; decide +kernel, rfl⟩
theorem xk_159_101 : xk_OkA xp_F (xp_P sc) xp_cl xp_BW xp_NW xp_SW xp_exn 159 101 (.aload 0) := Or.inr ⟨0, rfl, xd_159_173, rfl⟩
theorem xk_159_102 : xk_OkA xp_F (xp_P sc) xp_cl xp_BW xp_NW xp_SW xp_exn 159 102 (.getfield 129) := ⟨_, xd_159_174, rfl, ⟨_, _, _, rfl, by decide, xu_4, Or.inl xwt_755⟩⟩
theorem xk_159_103 : xk_OkA xp_F (xp_P sc) xp_cl xp_BW xp_NW xp_SW xp_exn 159 103 (.iload 2) := Or.inr ⟨2, rfl, xd_159_177, rfl⟩
theorem xk_159_104 : xk_OkA xp_F (xp_P sc) xp_cl xp_BW xp_NW xp_SW xp_exn 159 104 (.baload) := ⟨xd_159_178, rfl⟩
theorem xk_159_105 : xk_OkA xp_F (xp_P sc) xp_cl xp_BW xp_NW xp_SW xp_exn 159 105 (.ifCond .eq 123) := ⟨_, xd_159_179, by unfold xf_to; decide +kernel, rfl⟩
theorem xk_159_106 : xk_OkA xp_F (xp_P sc) xp_cl xp_BW xp_NW xp_SW xp_exn 159 106 (.aload 0) := Or.inr ⟨0, rfl, xd_159_182, rfl⟩
theorem xk_159_107 : xk_OkA xp_F (xp_P sc) xp_cl xp_BW xp_NW xp_SW xp_exn 159 107 (.iload 2) := Or.inr ⟨2, rfl, xd_159_183, rfl⟩
theorem xk_159_108 : xk_OkA xp_F (xp_P sc) xp_cl xp_BW xp_NW xp_SW xp_exn 159 108 (.iconst 0) := Or.inl ⟨xd_159_184, rfl⟩
theorem xk_159_109 : xk_OkA xp_F (xp_P sc) xp_cl xp_BW xp_NW xp_SW xp_exn 159 109 (.invokeinterface 120 3) := ⟨rfl, Or.inl ⟨xwt_828, rfl⟩, rfl, rfl, xwt_5, by decide +kernel, by decide +kernel, Nat.le_of_ble_eq_true rfl, _, Or.inl xwt_825, Or.inr ⟨xd_159_185, xwt_827, xws_82, ⟨_, _, _, rfl, rfl⟩, by decide +kernel⟩⟩
theorem xk_159_110 : xk_OkA xp_F (xp_P sc) xp_cl xp_BW xp_NW xp_SW xp_exn 159 110 (.iload 1) := Or.inr ⟨1, rfl, xd_159_188, rfl⟩
theorem xk_159_111 : xk_OkA xp_F (xp_P sc) xp_cl xp_BW xp_NW xp_SW xp_exn 159 111 (.if_icmp .eq 123) := ⟨_, xd_159_189, by unfold xf_to; decide +kernel, rfl⟩
theorem xk_159_112 : xk_OkA xp_F (xp_P sc) xp_cl xp_BW xp_NW xp_SW xp_exn 159 112 (.aload 0) := Or.inr ⟨0, rfl, xd_159_192, rfl⟩
theorem xk_159_113 : xk_OkA xp_F (xp_P sc) xp_cl xp_BW xp_NW xp_SW xp_exn 159 113 (.iload 2) := Or.inr ⟨2, rfl, xd_159_193, rfl⟩
theorem xk_159_114 : xk_OkA xp_F (xp_P sc) xp_cl xp_BW xp_NW xp_SW xp_exn 159 114 (.iconst 1) := Or.inl ⟨xd_159_194, rfl⟩
theorem xk_159_115 : xk_OkA xp_F (xp_P sc) xp_cl xp_BW xp_NW xp_SW xp_exn 159 115 (.invokeinterface 120 3) := ⟨rfl, Or.inl ⟨xwt_828, rfl⟩, rfl, rfl, xwt_5, by decide +kernel, by decide +kernel, Nat.le_of_ble_eq_true rfl, _, Or.inl xwt_825, Or.inr ⟨xd_159_195, xwt_827, xws_82, ⟨_, _, _, rfl, rfl⟩, by decide +kernel⟩⟩
theorem xk_159_116 : xk_OkA xp_F (xp_P sc) xp_cl xp_BW xp_NW xp_SW xp_exn 159 116 (.iload 1) := Or.inr ⟨1, rfl, xd_159_198, rfl⟩
theorem xk_159_117 : xk_OkA xp_F (xp_P sc) xp_cl xp_BW xp_NW xp_SW xp_exn 159 117 (.if_icmp .eq 123) := ⟨_, xd_159_199, by unfold xf_to; decide +kernel, rfl⟩
theorem xk_159_118 : xk_OkA xp_F (xp_P sc) xp_cl xp_BW xp_NW xp_SW xp_exn 159 118 (.aload 0) := Or.inr ⟨0, rfl, xd_159_202, rfl⟩
theorem xk_159_119 : xk_OkA xp_F (xp_P sc) xp_cl xp_BW xp_NW xp_SW xp_exn 159 119 (.iload 2) := Or.inr ⟨2, rfl, xd_159_203, rfl⟩
theorem xk_159_120 : xk_OkA xp_F (xp_P sc) xp_cl xp_BW xp_NW xp_SW xp_exn 159 120 (.aload 0) := Or.inr ⟨0, rfl, xd_159_204, rfl⟩
theorem xk_159_121 : xk_OkA xp_F (xp_P sc) xp_cl xp_BW xp_NW xp_SW xp_exn 159 121 (.getfield 134) := ⟨_, xd_159_205, rfl, ⟨_, _, _, rfl, by decide, xu_4, Or.inl xwt_760⟩⟩
theorem xk_159_122 : xk_OkA xp_F (xp_P sc) xp_cl xp_BW xp_NW xp_SW xp_exn 159 122 (.invokeinterface 122 3) := ⟨rfl, Or.inl ⟨xwt_820, rfl⟩, rfl, rfl, xwt_5, by decide +kernel, by decide +kernel, Nat.le_of_ble_eq_true rfl, _, Or.inl xwt_817, Or.inr ⟨xd_159_208, xwt_819, xws_80, ⟨_, _, _, rfl, rfl⟩, by decide +kernel⟩⟩
theorem xk_159_123 : xk_OkA xp_F (xp_P sc) xp_cl xp_BW xp_NW xp_SW xp_exn 159 123 (.iinc 2 (1)) := ⟨xd_159_211, rfl⟩
theorem xk_159_124 : xk_OkA xp_F (xp_P sc) xp_cl xp_BW xp_NW xp_SW xp_exn 159 124 (.goto 91) := ⟨_, xd_159_214, by unfold xf_to; decide +kernel⟩
theorem xk_159_125 : xk_OkA xp_F (xp_P sc) xp_cl xp_BW xp_NW xp_SW xp_exn 159 125 (.iconst 9) := Or.inr (Or.inl ⟨xd_159_217, by decide +kernel, rfl⟩)
theorem xk_159_126 : xk_OkA xp_F (xp_P sc) xp_cl xp_BW xp_NW xp_SW xp_exn 159 126 (.istore 2) := Or.inr ⟨2, rfl, xd_159_219, rfl⟩
theorem xk_159_127 : xk_OkA xp_F (xp_P sc) xp_cl xp_BW xp_NW xp_SW xp_exn 159 127 (.iload 2) := Or.inr ⟨2, rfl, xd_159_220, rfl⟩
theorem xk_159_128 : xk_OkA xp_F (xp_P sc) xp_cl xp_BW xp_NW xp_SW xp_exn 159 128 (.iconst 49) := Or.inr (Or.inl ⟨xd_159_221, by decide +kernel, rfl⟩)
theorem xk_159_129 : xk_OkA xp_F (xp_P sc) xp_cl xp_BW xp_NW xp_SW xp_exn 159 129 (.if_icmp .ge 177) := ⟨_, xd_159_223, by unfold xf_to; decide +kernel, rfl⟩
theorem xk_159_130 : xk_OkA xp_F (xp_P sc) xp_cl xp_BW xp_NW xp_SW xp_exn 159 130 (.iconst 0) := Or.inl ⟨xd_159_226, rfl⟩
theorem xk_159_131 : xk_OkA xp_F (xp_P sc) xp_cl xp_BW xp_NW xp_SW xp_exn 159 131 (.istore 3) := Or.inr ⟨3, rfl, xd_159_227, rfl⟩
theorem xk_159_132 : xk_OkA xp_F (xp_P sc) xp_cl xp_BW xp_NW xp_SW xp_exn 159 132 (.iload 3) := Or.inr ⟨3, rfl, xd_159_228, rfl⟩
theorem xk_159_133 : xk_OkA xp_F (xp_P sc) xp_cl xp_BW xp_NW xp_SW xp_exn 159 133 (.iconst 4) := Or.inl ⟨xd_159_229, rfl⟩
theorem xk_159_134 : xk_OkA xp_F (xp_P sc) xp_cl xp_BW xp_NW xp_SW xp_exn 159 134 (.if_icmp .ge 175) := ⟨_, xd_159_230, by unfold xf_to; decide +kernel, rfl⟩
theorem xk_159_135 : xk_OkA xp_F (xp_P sc) xp_cl xp_BW xp_NW xp_SW xp_exn 159 135 (.aload 0) := Or.inr ⟨0, rfl, xd_159_233, rfl⟩
theorem xk_159_136 : xk_OkA xp_F (xp_P sc) xp_cl xp_BW xp_NW xp_SW xp_exn 159 136 (.aload 0) := Or.inr ⟨0, rfl, xd_159_234, rfl⟩
theorem xk_159_137 : xk_OkA xp_F (xp_P sc) xp_cl xp_BW xp_NW xp_SW xp_exn 159 137 (.getfield 134) := ⟨_, xd_159_235, rfl, ⟨_, _, _, rfl, by decide, xu_4, Or.inl xwt_760⟩⟩
theorem xk_159_138 : xk_OkA xp_F (xp_P sc) xp_cl xp_BW xp_NW xp_SW xp_exn 159 138 (.iload 2) := Or.inr ⟨2, rfl, xd_159_238, rfl⟩
theorem xk_159_139 : xk_OkA xp_F (xp_P sc) xp_cl xp_BW xp_NW xp_SW xp_exn 159 139 (.iaload) := ⟨xd_159_239, rfl⟩
theorem xk_159_140 : xk_OkA xp_F (xp_P sc) xp_cl xp_BW xp_NW xp_SW xp_exn 159 140 (.invokeinterface 143 2) := ⟨rfl, Or.inl ⟨xwt_941, rfl⟩, rfl, rfl, xwt_5, by decide +kernel, by decide +kernel, Nat.le_of_ble_eq_true rfl, _, Or.inl xwt_938, Or.inr ⟨xd_159_240, xwt_940, xws_97, ⟨_, _, _, rfl, rfl⟩, by decide +kernel⟩⟩
theorem xk_159_141 : xk_OkA xp_F (xp_P sc) xp_cl xp_BW xp_NW xp_SW xp_exn 159 141 (.ifCond .eq 175) := ⟨_, xd_159_243, by unfold xf_to; decide +kernel, rfl⟩
theorem xk_159_142 : xk_OkA xp_F (xp_P sc) xp_cl xp_BW xp_NW xp_SW xp_exn 159 142 (.aload 0) := Or.inr ⟨0, rfl, xd_159_246, rfl⟩
theorem xk_159_143 : xk_OkA xp_F (xp_P sc) xp_cl xp_BW xp_NW xp_SW xp_exn 159 143 (.aload 0) := Or.inr ⟨0, rfl, xd_159_247, rfl⟩
theorem xk_159_144 : xk_OkA xp_F (xp_P sc) xp_cl xp_BW xp_NW xp_SW xp_exn 159 144 (.getfield 134) := ⟨_, xd_159_248, rfl, ⟨_, _, _, rfl, by decide, xu_4, Or.inl xwt_760⟩⟩
theorem xk_159_145 : xk_OkA xp_F (xp_P sc) xp_cl xp_BW xp_NW xp_SW xp_exn 159 145 (.iload 2) := Or.inr ⟨2, rfl, xd_159_251, rfl⟩
theorem xk_159_146 : xk_OkA xp_F (xp_P sc) xp_cl xp_BW xp_NW xp_SW xp_exn 159 146 (.iconst 1) := Or.inl ⟨xd_159_252, rfl⟩
theorem xk_159_147 : xk_OkA xp_F (xp_P sc) xp_cl xp_BW xp_NW xp_SW xp_exn 159 147 (.iadd) := ⟨xd_159_253, rfl⟩
theorem xk_159_148 : xk_OkA xp_F (xp_P sc) xp_cl xp_BW xp_NW xp_SW xp_exn 159 148 (.iaload) := ⟨xd_159_254, rfl⟩
theorem xk_159_149 : xk_OkA xp_F (xp_P sc) xp_cl xp_BW xp_NW xp_SW xp_exn 159 149 (.invokeinterface 143 2) := ⟨rfl, Or.inl ⟨xwt_941, rfl⟩, rfl, rfl, xwt_5, by decide +kernel, by decide +kernel, Nat.le_of_ble_eq_true rfl, _, Or.inl xwt_938, Or.inr ⟨xd_159_255, xwt_940, xws_97, ⟨_, _, _, rfl, rfl⟩, by decide +kernel⟩⟩
theorem xk_159_150 : xk_OkA xp_F (xp_P sc) xp_cl xp_BW xp_NW xp_SW xp_exn 159 150 (.ifCond .eq 175) := ⟨_, xd_159_258, by unfold xf_to; decide +kernel, rfl⟩
theorem xk_159_151 : xk_OkA xp_F (xp_P sc) xp_cl xp_BW xp_NW xp_SW xp_exn 159 151 (.aload 0) := Or.inr ⟨0, rfl, xd_159_261, rfl⟩
theorem xk_159_152 : xk_OkA xp_F (xp_P sc) xp_cl xp_BW xp_NW xp_SW xp_exn 159 152 (.getfield 131) := ⟨_, xd_159_262, rfl, ⟨_, _, _, rfl, by decide, xu_4, Or.inl xwt_757⟩⟩
theorem xk_159_153 : xk_OkA xp_F (xp_P sc) xp_cl xp_BW xp_NW xp_SW xp_exn 159 153 (.iconst 4) := Or.inl ⟨xd_159_265, rfl⟩
theorem xk_159_154 : xk_OkA xp_F (xp_P sc) xp_cl xp_BW xp_NW xp_SW xp_exn 159 154 (.aload 0) := Or.inr ⟨0, rfl, xd_159_266, rfl⟩
theorem xk_159_155 : xk_OkA xp_F (xp_P sc) xp_cl xp_BW xp_NW xp_SW xp_exn 159 155 (.getfield 134) := ⟨_, xd_159_267, rfl, ⟨_, _, _, rfl, by decide, xu_4, Or.inl xwt_760⟩⟩
theorem xk_159_156 : xk_OkA xp_F (xp_P sc) xp_cl xp_BW xp_NW xp_SW xp_exn 159 156 (.iload 2) := Or.inr ⟨2, rfl, xd_159_270, rfl⟩
theorem xk_159_157 : xk_OkA xp_F (xp_P sc) xp_cl xp_BW xp_NW xp_SW xp_exn 159 157 (.iconst 1) := Or.inl ⟨xd_159_271, rfl⟩
theorem xk_159_158 : xk_OkA xp_F (xp_P sc) xp_cl xp_BW xp_NW xp_SW xp_exn 159 158 (.iadd) := ⟨xd_159_272, rfl⟩
theorem xk_159_159 : xk_OkA xp_F (xp_P sc) xp_cl xp_BW xp_NW xp_SW xp_exn 159 159 (.iaload) := ⟨xd_159_273, rfl⟩
theorem xk_159_160 : xk_OkA xp_F (xp_P sc) xp_cl xp_BW xp_NW xp_SW xp_exn 159 160 (.iconst 1) := Or.inl ⟨xd_159_274, rfl⟩
theorem xk_159_161 : xk_OkA xp_F (xp_P sc) xp_cl xp_BW xp_NW xp_SW xp_exn 159 161 (.isub) := ⟨xd_159_275, rfl⟩
theorem xk_159_162 : xk_OkA xp_F (xp_P sc) xp_cl xp_BW xp_NW xp_SW xp_exn 159 162 (.imul) := ⟨xd_159_276, rfl⟩
theorem xk_159_163 : xk_OkA xp_F (xp_P sc) xp_cl xp_BW xp_NW xp_SW xp_exn 159 163 (.iload 3) := Or.inr ⟨3, rfl, xd_159_277, rfl⟩
theorem xk_159_164 : xk_OkA xp_F (xp_P sc) xp_cl xp_BW xp_NW xp_SW xp_exn 159 164 (.iadd) := ⟨xd_159_278, rfl⟩
theorem xk_159_165 : xk_OkA xp_F (xp_P sc) xp_cl xp_BW xp_NW xp_SW xp_exn 159 165 (.aload 0) := Or.inr ⟨0, rfl, xd_159_279, rfl⟩
theorem xk_159_166 : xk_OkA xp_F (xp_P sc) xp_cl xp_BW xp_NW xp_SW xp_exn 159 166 (.aload 0) := Or.inr ⟨0, rfl, xd_159_280, rfl⟩
theorem xk_159_167 : xk_OkA xp_F (xp_P sc) xp_cl xp_BW xp_NW xp_SW xp_exn 159 167 (.getfield 134) := ⟨_, xd_159_281, rfl, ⟨_, _, _, rfl, by decide, xu_4, Or.inl xwt_760⟩⟩
theorem xk_159_168 : xk_OkA xp_F (xp_P sc) xp_cl xp_BW xp_NW xp_SW xp_exn 159 168 (.iload 2) := Or.inr ⟨2, rfl, xd_159_284, rfl⟩
theorem xk_159_169 : xk_OkA xp_F (xp_P sc) xp_cl xp_BW xp_NW xp_SW xp_exn 159 169 (.iaload) := ⟨xd_159_285, rfl⟩
theorem xk_159_170 : xk_OkA xp_F (xp_P sc) xp_cl xp_BW xp_NW xp_SW xp_exn 159 170 (.iload 3) := Or.inr ⟨3, rfl, xd_159_286, rfl⟩
theorem xk_159_171 : xk_OkA xp_F (xp_P sc) xp_cl xp_BW xp_NW xp_SW xp_exn 159 171 (.invokeinterface 111 3) := ⟨rfl, Or.inl ⟨xwt_929, rfl⟩, rfl, rfl, xwt_5, by decide +kernel, by decide +kernel, Nat.le_of_ble_eq_true rfl, _, Or.inl xwt_926, Or.inr ⟨xd_159_287, xwt_928, xws_95, ⟨_, _, _, rfl, rfl⟩, by decide +kernel⟩⟩
theorem xk_159_172 : xk_OkA xp_F (xp_P sc) xp_cl xp_BW xp_NW xp_SW xp_exn 159 172 (.iastore) := ⟨xd_159_290, rfl⟩
theorem xk_159_173 : xk_OkA xp_F (xp_P sc) xp_cl xp_BW xp_NW xp_SW xp_exn 159 173 (.iinc 3 (1)) := ⟨xd_159_291, rfl⟩
theorem xk_159_174 : xk_OkA xp_F (xp_P sc) xp_cl xp_BW xp_NW xp_SW xp_exn 159 174 (.goto 132) := ⟨_, xd_159_294, by unfold xf_to; decide +kernel⟩
theorem xk_159_175 : xk_OkA xp_F (xp_P sc) xp_cl xp_BW xp_NW xp_SW xp_exn 159 175 (.iinc 2 (2)) := ⟨xd_159_297, rfl⟩
theorem xk_159_176 : xk_OkA xp_F (xp_P sc) xp_cl xp_BW xp_NW xp_SW xp_exn 159 176 (.goto 127) := ⟨_, xd_159_300, by unfold xf_to; decide +kernel⟩
theorem xk_159_177 : xk_OkA xp_F (xp_P sc) xp_cl xp_BW xp_NW xp_SW xp_exn 159 177 (.iload 1) := Or.inr ⟨1, rfl, xd_159_303, rfl⟩
theorem xk_159_178 : xk_OkA xp_F (xp_P sc) xp_cl xp_BW xp_NW xp_SW xp_exn 159 178 (.ireturn) := ⟨xd_159_304, rfl⟩
theorem xl_159 : xk_OkL xp_F (xp_P sc) xp_cl xp_BW xp_NW xp_SW xp_exn 159 0 xc_159 := ⟨xk_159_0, xk_159_1, xk_159_2, xk_159_3, xk_159_4, xk_159_5, xk_159_6, xk_159_7, xk_159_8, xk_159_9, xk_159_10, xk_159_11, xk_159_12, xk_159_13, xk_159_14, xk_159_15, xk_159_16, xk_159_17, xk_159_18, xk_159_19, xk_159_20, xk_159_21, xk_159_22, xk_159_23, xk_159_24, xk_159_25, xk_159_26, xk_159_27, xk_159_28, xk_159_29, xk_159_30, xk_159_31, xk_159_32, xk_159_33, xk_159_34, xk_159_35, xk_159_36, xk_159_37, xk_159_38, xk_159_39, xk_159_40, xk_159_41, xk_159_42, xk_159_43, xk_159_44, xk_159_45, xk_159_46, xk_159_47, xk_159_48, xk_159_49, xk_159_50, xk_159_51, xk_159_52, xk_159_53, xk_159_54, xk_159_55, xk_159_56, xk_159_57, xk_159_58, xk_159_59, xk_159_60, xk_159_61, xk_159_62, xk_159_63, xk_159_64, xk_159_65, xk_159_66, xk_159_67, xk_159_68, xk_159_69, xk_159_70, xk_159_71, xk_159_72, xk_159_73, xk_159_74, xk_159_75, xk_159_76, xk_159_77, xk_159_78, xk_159_79, xk_159_80, xk_159_81, xk_159_82, xk_159_83, xk_159_84, xk_159_85, xk_159_86, xk_159_87, xk_159_88, xk_159_89, xk_159_90, xk_159_91, xk_159_92, xk_159_93, xk_159_94, xk_159_95, xk_159_96, xk_159_97, xk_159_98, xk_159_99, xk_159_100, xk_159_101, xk_159_102, xk_159_103, xk_159_104, xk_159_105, xk_159_106, xk_159_107, xk_159_108, xk_159_109, xk_159_110, xk_159_111, xk_159_112, xk_159_113, xk_159_114, xk_159_115, xk_159_116, xk_159_117, xk_159_118, xk_159_119, xk_159_120, xk_159_121, xk_159_122, xk_159_123, xk_159_124, xk_159_125, xk_159_126, xk_159_127, xk_159_128, xk_159_129, xk_159_130, xk_159_131, xk_159_132, xk_159_133, xk_159_134, xk_159_135, xk_159_136, xk_159_137, xk_159_138, xk_159_139, xk_159_140, xk_159_141, xk_159_142, xk_159_143, xk_159_144, xk_159_145, xk_159_146, xk_159_147, xk_159_148, xk_159_149, xk_159_150, xk_159_151, xk_159_152, xk_159_153, xk_159_154, xk_159_155, xk_159_156, xk_159_157, xk_159_158, xk_159_159, xk_159_160, xk_159_161, xk_159_162, xk_159_163, xk_159_164, xk_159_165, xk_159_166, xk_159_167, xk_159_168, xk_159_169, xk_159_170, xk_159_171, xk_159_172, xk_159_173, xk_159_174, xk_159_175, xk_159_176, xk_159_177, xk_159_178, trivial⟩
theorem xd_160_0 : decode method_3_code 0 = .ok (.aload_n 0, 1) := by decide +kernel
theorem xd_160_1 : decode method_3_code 1 = .ok (.iload_n 1, 1) := by decide +kernel
theorem xd_160_2 : decode method_3_code 2 = .ok (.iload_n 2, 1) := by decide +kernel
theorem xd_160_3 : decode method_3_code 3 = .ok (.invokevirtual 7, 3) := by decide +kernel
theorem xd_160_6 : decode method_3_code 6 = .ok (.goto 12, 3) := by decide +kernel
theorem xd_160_9 : decode method_3_code 9 = .ok (.astore_n 3, 1) := by decide +kernel
theorem xd_160_10 : decode method_3_code 10 = .ok (.iconst 1, 1) := by decide +kernel
theorem xd_160_11 : decode method_3_code 11 = .ok (.ireturn, 1) := by decide +kernel
theorem xd_160_12 : decode method_3_code 12 = .ok (.astore_n 3, 1) := by decide +kernel
theorem xd_160_13 : decode method_3_code 13 = .ok (.iconst 2, 1) := by decide +kernel
theorem xd_160_14 : decode method_3_code 14 = .ok (.ireturn, 1) := by decide +kernel
theorem xd_160_15 : decode method_3_code 15 = .ok (.astore_n 3, 1) := by decide +kernel
theorem xd_160_16 : decode method_3_code 16 = .ok (.iconst 3, 1) := by decide +kernel
theorem xd_160_17 : decode method_3_code 17 = .ok (.ireturn, 1) := by decide +kernel
theorem xd_160_18 : decode method_3_code 18 = .ok (.iconst 0, 1) := by decide +kernel
theorem xd_160_19 : decode method_3_code 19 = .ok (.ireturn, 1) := by decide +kernel
theorem xk_160_0 : xk_OkA xp_F (xp_P sc) xp_cl xp_BW xp_NW xp_SW xp_exn 160 0 (.aload 0) := Or.inr ⟨0, rfl, xd_160_0, rfl⟩
theorem xk_160_1 : xk_OkA xp_F (xp_P sc) xp_cl xp_BW xp_NW xp_SW xp_exn 160 1 (.iload 1) := Or.inr ⟨1, rfl, xd_160_1, rfl⟩
theorem xk_160_2 : xk_OkA xp_F (xp_P sc) xp_cl xp_BW xp_NW xp_SW xp_exn 160 2 (.iload 2) := Or.inr ⟨2, rfl, xd_160_2, rfl⟩
theorem xk_160_3 : xk_OkA xp_F (xp_P sc) xp_cl xp_BW xp_NW xp_SW xp_exn 160 3 (.invokeinterface 40 3) := ⟨rfl, Or.inl ⟨xwt_117, rfl⟩, rfl, rfl, xwt_1, by decide +kernel, by decide +kernel, Nat.le_of_ble_eq_true rfl, _, Or.inl xwt_114, Or.inr ⟨xd_160_3, xwt_115, xwt_116, ⟨_, _, _, rfl, rfl⟩, by decide +kernel⟩⟩
theorem xk_160_4 : xk_OkA xp_F (xp_P sc) xp_cl xp_BW xp_NW xp_SW xp_exn 160 4 (.goto 14) := ⟨_, xd_160_6, by unfold xf_to; decide +kernel⟩
theorem xk_160_5 : xk_OkA xp_F (xp_P sc) xp_cl xp_BW xp_NW xp_SW xp_exn 160 5 (.astore 3) := Or.inr ⟨3, rfl, xd_160_9, rfl⟩
theorem xk_160_6 : xk_OkA xp_F (xp_P sc) xp_cl xp_BW xp_NW xp_SW xp_exn 160 6 (.iconst 1) := Or.inl ⟨xd_160_10, rfl⟩
theorem xk_160_7 : xk_OkA xp_F (xp_P sc) xp_cl xp_BW xp_NW xp_SW xp_exn 160 7 (.ireturn) := ⟨xd_160_11, rfl⟩
theorem xk_160_8 : xk_OkA xp_F (xp_P sc) xp_cl xp_BW xp_NW xp_SW xp_exn 160 8 (.astore 3) := Or.inr ⟨3, rfl, xd_160_12, rfl⟩
theorem xk_160_9 : xk_OkA xp_F (xp_P sc) xp_cl xp_BW xp_NW xp_SW xp_exn 160 9 (.iconst 2) := Or.inl ⟨xd_160_13, rfl⟩
theorem xk_160_10 : xk_OkA xp_F (xp_P sc) xp_cl xp_BW xp_NW xp_SW xp_exn 160 10 (.ireturn) := ⟨xd_160_14, rfl⟩
theorem xk_160_11 : xk_OkA xp_F (xp_P sc) xp_cl xp_BW xp_NW xp_SW xp_exn 160 11 (.astore 3) := Or.inr ⟨3, rfl, xd_160_15, rfl⟩
theorem xk_160_12 : xk_OkA xp_F (xp_P sc) xp_cl xp_BW xp_NW xp_SW xp_exn 160 12 (.iconst 3) := Or.inl ⟨xd_160_16, rfl⟩
theorem xk_160_13 : xk_OkA xp_F (xp_P sc) xp_cl xp_BW xp_NW xp_SW xp_exn 160 13 (.ireturn) := ⟨xd_160_17, rfl⟩
theorem xk_160_14 : xk_OkA xp_F (xp_P sc) xp_cl xp_BW xp_NW xp_SW xp_exn 160 14 (.iconst 0) := Or.inl ⟨xd_160_18, rfl⟩
theorem xk_160_15 : xk_OkA xp_F (xp_P sc) xp_cl xp_BW xp_NW xp_SW xp_exn 160 15 (.ireturn) := ⟨xd_160_19, rfl⟩
theorem xl_160 : xk_OkL xp_F (xp_P sc) xp_cl xp_BW xp_NW xp_SW xp_exn 160 0 xc_160 := ⟨xk_160_0, xk_160_1, xk_160_2, xk_160_3, xk_160_4, xk_160_5, xk_160_6, xk_160_7, xk_160_8, xk_160_9, xk_160_10, xk_160_11, xk_160_12, xk_160_13, xk_160_14, xk_160_15, trivial⟩
theorem xd_161_0 : decode method_4_code 0 = .ok (.aload_n 0, 1) := by decide +kernel
theorem xd_161_1 : decode method_4_code 1 = .ok (.iload_n 1, 1) := by decide +kernel
theorem xd_161_2 : decode method_4_code 2 = .ok (.invokevirtual 19, 3) := by decide +kernel
theorem xd_161_5 : decode method_4_code 5 = .ok (.goto 12, 3) := by decide +kernel
theorem xd_161_8 : decode method_4_code 8 = .ok (.astore_n 2, 1) := by decide +kernel
theorem xd_161_9 : decode method_4_code 9 = .ok (.iconst 1, 1) := by decide +kernel
theorem xd_161_10 : decode method_4_code 10 = .ok (.ireturn, 1) := by decide +kernel
theorem xd_161_11 : decode method_4_code 11 = .ok (.astore_n 2, 1) := by decide +kernel
theorem xd_161_12 : decode method_4_code 12 = .ok (.iconst 2, 1) := by decide +kernel
theorem xd_161_13 : decode method_4_code 13 = .ok (.ireturn, 1) := by decide +kernel
theorem xd_161_14 : decode method_4_code 14 = .ok (.astore_n 2, 1) := by decide +kernel
theorem xd_161_15 : decode method_4_code 15 = .ok (.iconst 3, 1) := by decide +kernel
theorem xd_161_16 : decode method_4_code 16 = .ok (.ireturn, 1) := by decide +kernel
theorem xd_161_17 : decode method_4_code 17 = .ok (.iconst 0, 1) := by decide +kernel
theorem xd_161_18 : decode method_4_code 18 = .ok (.ireturn, 1) := by decide +kernel
theorem xk_161_0 : xk_OkA xp_F (xp_P sc) xp_cl xp_BW xp_NW xp_SW xp_exn 161 0 (.aload 0) := Or.inr ⟨0, rfl, xd_161_0, rfl⟩
theorem xk_161_1 : xk_OkA xp_F (xp_P sc) xp_cl xp_BW xp_NW xp_SW xp_exn 161 1 (.iload 1) := Or.inr ⟨1, rfl, xd_161_1, rfl⟩
theorem xk_161_2 : xk_OkA xp_F (xp_P sc) xp_cl xp_BW xp_NW xp_SW xp_exn 161 2 (.invokeinterface 41 2) := ⟨rfl, Or.inl ⟨xwt_333, rfl⟩, rfl, rfl, xwt_1, by decide +kernel, by decide +kernel, Nat.le_of_ble_eq_true rfl, _, Or.inl xwt_330, Or.inr ⟨xd_161_2, xwt_331, xwt_332, ⟨_, _, _, rfl, rfl⟩, by decide +kernel⟩⟩
theorem xk_161_3 : xk_OkA xp_F (xp_P sc) xp_cl xp_BW xp_NW xp_SW xp_exn 161 3 (.goto 13) := ⟨_, xd_161_5, by unfold xf_to; decide +kernel⟩
theorem xk_161_4 : xk_OkA xp_F (xp_P sc) xp_cl xp_BW xp_NW xp_SW xp_exn 161 4 (.astore 2) := Or.inr ⟨2, rfl, xd_161_8, rfl⟩
theorem xk_161_5 : xk_OkA xp_F (xp_P sc) xp_cl xp_BW xp_NW xp_SW xp_exn 161 5 (.iconst 1) := Or.inl ⟨xd_161_9, rfl⟩
theorem xk_161_6 : xk_OkA xp_F (xp_P sc) xp_cl xp_BW xp_NW xp_SW xp_exn 161 6 (.ireturn) := ⟨xd_161_10, rfl⟩
theorem xk_161_7 : xk_OkA xp_F (xp_P sc) xp_cl xp_BW xp_NW xp_SW xp_exn 161 7 (.astore 2) := Or.inr ⟨2, rfl, xd_161_11, rfl⟩
theorem xk_161_8 : xk_OkA xp_F (xp_P sc) xp_cl xp_BW xp_NW xp_SW xp_exn 161 8 (.iconst 2) := Or.inl ⟨xd_161_12, rfl⟩
theorem xk_161_9 : xk_OkA xp_F (xp_P sc) xp_cl xp_BW xp_NW xp_SW xp_exn 161 9 (.ireturn) := ⟨xd_161_13, rfl⟩
theorem xk_161_10 : xk_OkA xp_F (xp_P sc) xp_cl xp_BW xp_NW xp_SW xp_exn 161 10 (.astore 2) := Or.inr ⟨2, rfl, xd_161_14, rfl⟩
theorem xk_161_11 : xk_OkA xp_F (xp_P sc) xp_cl xp_BW xp_NW xp_SW xp_exn 161 11 (.iconst 3) := Or.inl ⟨xd_161_15, rfl⟩
theorem xk_161_12 : xk_OkA xp_F (xp_P sc) xp_cl xp_BW xp_NW xp_SW xp_exn 161 12 (.ireturn) := ⟨xd_161_16, rfl⟩
theorem xk_161_13 : xk_OkA xp_F (xp_P sc) xp_cl xp_BW xp_NW xp_SW xp_exn 161 13 (.iconst 0) := Or.inl ⟨xd_161_17, rfl⟩
theorem xk_161_14 : xk_OkA xp_F (xp_P sc) xp_cl xp_BW xp_NW xp_SW xp_exn 161 14 (.ireturn) := ⟨xd_161_18, rfl⟩
theorem xl_161 : xk_OkL xp_F (xp_P sc) xp_cl xp_BW xp_NW xp_SW xp_exn 161 0 xc_161 := ⟨xk_161_0, xk_161_1, xk_161_2, xk_161_3, xk_161_4, xk_161_5, xk_161_6, xk_161_7, xk_161_8, xk_161_9, xk_161_10, xk_161_11, xk_161_12, xk_161_13, xk_161_14, trivial⟩
theorem xd_162_0 : decode method_5_code 0 = .ok (.aload_n 2, 1) := by decide +kernel
theorem xd_162_1 : decode method_5_code 1 = .ok (.iconst 0, 1) := by decide +kernel
theorem xd_162_2 : decode method_5_code 2 = .ok (.aload_n 0, 1) := by decide +kernel
theorem xd_162_3 : decode method_5_code 3 = .ok (.iload_n 1, 1) := by decide +kernel
theorem xd_162_4 : decode method_5_code 4 = .ok (.invokevirtual 23, 3) := by decide +kernel
theorem xd_162_7 : decode method_5_code 7 = .ok (.i2l, 1) := by decide +kernel
theorem xd_162_8 : decode method_5_code 8 = .ok (.lastore, 1) := by decide +kernel
theorem xd_162_9 : decode method_5_code 9 = .ok (.goto 12, 3) := by decide +kernel
theorem xd_162_12 : decode method_5_code 12 = .ok (.astore_n 3, 1) := by decide +kernel
theorem xd_162_13 : decode method_5_code 13 = .ok (.iconst 1, 1) := by decide +kernel
theorem xd_162_14 : decode method_5_code 14 = .ok (.ireturn, 1) := by decide +kernel
theorem xd_162_15 : decode method_5_code 15 = .ok (.astore_n 3, 1) := by decide +kernel
theorem xd_162_16 : decode method_5_code 16 = .ok (.iconst 2, 1) := by decide +kernel
theorem xd_162_17 : decode method_5_code 17 = .ok (.ireturn, 1) := by decide +kernel
theorem xd_162_18 : decode method_5_code 18 = .ok (.astore_n 3, 1) := by decide +kernel
theorem xd_162_19 : decode method_5_code 19 = .ok (.iconst 3, 1) := by decide +kernel
theorem xd_162_20 : decode method_5_code 20 = .ok (.ireturn, 1) := by decide +kernel
theorem xd_162_21 : decode method_5_code 21 = .ok (.iconst 0, 1) := by decide +kernel
theorem xd_162_22 : decode method_5_code 22 = .ok (.ireturn, 1) := by decide +kernel
theorem xk_162_0 : xk_OkA xp_F (xp_P sc) xp_cl xp_BW xp_NW xp_SW xp_exn 162 0 (.aload 2) := Or.inr ⟨2, rfl, xd_162_0, rfl⟩
theorem xk_162_1 : xk_OkA xp_F (xp_P sc) xp_cl xp_BW xp_NW xp_SW xp_exn 162 1 (.iconst 0) := Or.inl ⟨xd_162_1, rfl⟩
theorem xk_162_2 : xk_OkA xp_F (xp_P sc) xp_cl xp_BW xp_NW xp_SW xp_exn 162 2 (.aload 0) := Or.inr ⟨0, rfl, xd_162_2, rfl⟩
theorem xk_162_3 : xk_OkA xp_F (xp_P sc) xp_cl xp_BW xp_NW xp_SW xp_exn 162 3 (.iload 1) := Or.inr ⟨1, rfl, xd_162_3, rfl⟩
theorem xk_162_4 : xk_OkA xp_F (xp_P sc) xp_cl xp_BW xp_NW xp_SW xp_exn 162 4 (.invokeinterface 42 2) := ⟨rfl, Or.inl ⟨xwt_361, rfl⟩, rfl, rfl, xwt_1, by decide +kernel, by decide +kernel, Nat.le_of_ble_eq_true rfl, _, Or.inl xwt_358, Or.inr ⟨xd_162_4, xwt_359, xwt_360, ⟨_, _, _, rfl, rfl⟩, by decide +kernel⟩⟩
theorem xk_162_5 : xk_OkA xp_F (xp_P sc) xp_cl xp_BW xp_NW xp_SW xp_exn 162 5 (.i2l) := ⟨xd_162_7, rfl⟩
theorem xk_162_6 : xk_OkA xp_F (xp_P sc) xp_cl xp_BW xp_NW xp_SW xp_exn 162 6 (.lastore) := ⟨xd_162_8, rfl⟩
theorem xk_162_7 : xk_OkA xp_F (xp_P sc) xp_cl xp_BW xp_NW xp_SW xp_exn 162 7 (.goto 17) := ⟨_, xd_162_9, by unfold xf_to; decide +kernel⟩
theorem xk_162_8 : xk_OkA xp_F (xp_P sc) xp_cl xp_BW xp_NW xp_SW xp_exn 162 8 (.astore 3) := Or.inr ⟨3, rfl, xd_162_12, rfl⟩
theorem xk_162_9 : xk_OkA xp_F (xp_P sc) xp_cl xp_BW xp_NW xp_SW xp_exn 162 9 (.iconst 1) := Or.inl ⟨xd_162_13, rfl⟩
theorem xk_162_10 : xk_OkA xp_F (xp_P sc) xp_cl xp_BW xp_NW xp_SW xp_exn 162 10 (.ireturn) := ⟨xd_162_14, rfl⟩
theorem xk_162_11 : xk_OkA xp_F (xp_P sc) xp_cl xp_BW xp_NW xp_SW xp_exn 162 11 (.astore 3) := Or.inr ⟨3, rfl, xd_162_15, rfl⟩
theorem xk_162_12 : xk_OkA xp_F (xp_P sc) xp_cl xp_BW xp_NW xp_SW xp_exn 162 12 (.iconst 2) := Or.inl ⟨xd_162_16, rfl⟩
theorem xk_162_13 : xk_OkA xp_F (xp_P sc) xp_cl xp_BW xp_NW xp_SW xp_exn 162 13 (.ireturn) := ⟨xd_162_17, rfl⟩
theorem xk_162_14 : xk_OkA xp_F (xp_P sc) xp_cl xp_BW xp_NW xp_SW xp_exn 162 14 (.astore 3) := Or.inr ⟨3, rfl, xd_162_18, rfl⟩
theorem xk_162_15 : xk_OkA xp_F (xp_P sc) xp_cl xp_BW xp_NW xp_SW xp_exn 162 15 (.iconst 3) := Or.inl ⟨xd_162_19, rfl⟩
theorem xk_162_16 : xk_OkA xp_F (xp_P sc) xp_cl xp_BW xp_NW xp_SW xp_exn 162 16 (.ireturn) := ⟨xd_162_20, rfl⟩
theorem xk_162_17 : xk_OkA xp_F (xp_P sc) xp_cl xp_BW xp_NW xp_SW xp_exn 162 17 (.iconst 0) := Or.inl ⟨xd_162_21, rfl⟩
theorem xk_162_18 : xk_OkA xp_F (xp_P sc) xp_cl xp_BW xp_NW xp_SW xp_exn 162 18 (.ireturn) := ⟨xd_162_22, rfl⟩
theorem xl_162 : xk_OkL xp_F (xp_P sc) xp_cl xp_BW xp_NW xp_SW xp_exn 162 0 xc_162 := ⟨xk_162_0, xk_162_1, xk_162_2, xk_162_3, xk_162_4, xk_162_5, xk_162_6, xk_162_7, xk_162_8, xk_162_9, xk_162_10, xk_162_11, xk_162_12, xk_162_13, xk_162_14, xk_162_15, xk_162_16, xk_162_17, xk_162_18, trivial⟩
theorem xd_163_0 : decode method_6_code 0 = .ok (.aload 4, 2) := by decide +kernel
theorem xd_163_2 : decode method_6_code 2 = .ok (.iconst 0, 1) := by decide +kernel
theorem xd_163_3 : decode method_6_code 3 = .ok (.aload_n 0, 1) := by decide +kernel
theorem xd_163_4 : decode method_6_code 4 = .ok (.iload_n 1, 1) := by decide +kernel
theorem xd_163_5 : decode method_6_code 5 = .ok (.iload_n 2, 1) := by decide +kernel
theorem xd_163_6 : decode method_6_code 6 = .ok (.iload_n 3, 1) := by decide +kernel
theorem xd_163_7 : decode method_6_code 7 = .ok (.invokevirtual 27, 3) := by decide +kernel
theorem xd_163_10 : decode method_6_code 10 = .ok (.i2l, 1) := by decide +kernel
theorem xd_163_11 : decode method_6_code 11 = .ok (.lastore, 1) := by decide +kernel
theorem xd_163_12 : decode method_6_code 12 = .ok (.goto 15, 3) := by decide +kernel
theorem xd_163_15 : decode method_6_code 15 = .ok (.astore 5, 2) := by decide +kernel
theorem xd_163_17 : decode method_6_code 17 = .ok (.iconst 1, 1) := by decide +kernel
theorem xd_163_18 : decode method_6_code 18 = .ok (.ireturn, 1) := by decide +kernel
theorem xd_163_19 : decode method_6_code 19 = .ok (.astore 5, 2) := by decide +kernel
theorem xd_163_21 : decode method_6_code 21 = .ok (.iconst 2, 1) := by decide +kernel
theorem xd_163_22 : decode method_6_code 22 = .ok (.ireturn, 1) := by decide +kernel
theorem xd_163_23 : decode method_6_code 23 = .ok (.astore 5, 2) := by decide +kernel
theorem xd_163_25 : decode method_6_code 25 = .ok (.iconst 3, 1) := by decide +kernel
theorem xd_163_26 : decode method_6_code 26 = .ok (.ireturn, 1) := by decide +kernel
theorem xd_163_27 : decode method_6_code 27 = .ok (.iconst 0, 1) := by decide +kernel
theorem xd_163_28 : decode method_6_code 28 = .ok (.ireturn, 1) := by decide +kernel
theorem xk_163_0 : xk_OkA xp_F (xp_P sc) xp_cl xp_BW xp_NW xp_SW xp_exn 163 0 (.aload 4) := Or.inl ⟨xd_163_0, rfl⟩
theorem xk_163_1 : xk_OkA xp_F (xp_P sc) xp_cl xp_BW xp_NW xp_SW xp_exn 163 1 (.iconst 0) := Or.inl ⟨xd_163_2, rfl⟩
theorem xk_163_2 : xk_OkA xp_F (xp_P sc) xp_cl xp_BW xp_NW xp_SW xp_exn 163 2 (.aload 0) := Or.inr ⟨0, rfl, xd_163_3, rfl⟩
theorem xk_163_3 : xk_OkA xp_F (xp_P sc) xp_cl xp_BW xp_NW xp_SW xp_exn 163 3 (.iload 1) := Or.inr ⟨1, rfl, xd_163_4, rfl⟩
theorem xk_163_4 : xk_OkA xp_F (xp_P sc) xp_cl xp_BW xp_NW xp_SW xp_exn 163 4 (.iload 2) := Or.inr ⟨2, rfl, xd_163_5, rfl⟩
theorem xk_163_5 : xk_OkA xp_F (xp_P sc) xp_cl xp_BW xp_NW xp_SW xp_exn 163 5 (.iload 3) := Or.inr ⟨3, rfl, xd_163_6, rfl⟩
theorem xk_163_6 : xk_OkA xp_F (xp_P sc) xp_cl xp_BW xp_NW xp_SW xp_exn 163 6 (.invokeinterface 43 4) := ⟨rfl, Or.inl ⟨xwt_381, rfl⟩, rfl, rfl, xwt_1, by decide +kernel, by decide +kernel, Nat.le_of_ble_eq_true rfl, _, Or.inl xwt_378, Or.inr ⟨xd_163_7, xwt_379, xwt_380, ⟨_, _, _, rfl, rfl⟩, by decide +kernel⟩⟩
theorem xk_163_7 : xk_OkA xp_F (xp_P sc) xp_cl xp_BW xp_NW xp_SW xp_exn 163 7 (.i2l) := ⟨xd_163_10, rfl⟩
theorem xk_163_8 : xk_OkA xp_F (xp_P sc) xp_cl xp_BW xp_NW xp_SW xp_exn 163 8 (.lastore) := ⟨xd_163_11, rfl⟩
theorem xk_163_9 : xk_OkA xp_F (xp_P sc) xp_cl xp_BW xp_NW xp_SW xp_exn 163 9 (.goto 19) := ⟨_, xd_163_12, by unfold xf_to; decide +kernel⟩
theorem xk_163_10 : xk_OkA xp_F (xp_P sc) xp_cl xp_BW xp_NW xp_SW xp_exn 163 10 (.astore 5) := Or.inl ⟨xd_163_15, rfl⟩
theorem xk_163_11 : xk_OkA xp_F (xp_P sc) xp_cl xp_BW xp_NW xp_SW xp_exn 163 11 (.iconst 1) := Or.inl ⟨xd_163_17, rfl⟩
theorem xk_163_12 : xk_OkA xp_F (xp_P sc) xp_cl xp_BW xp_NW xp_SW xp_exn 163 12 (.ireturn) := ⟨xd_163_18, rfl⟩
theorem xk_163_13 : xk_OkA xp_F (xp_P sc) xp_cl xp_BW xp_NW xp_SW xp_exn 163 13 (.astore 5) := Or.inl ⟨xd_163_19, rfl⟩
theorem xk_163_14 : xk_OkA xp_F (xp_P sc) xp_cl xp_BW xp_NW xp_SW xp_exn 163 14 (.iconst 2) := Or.inl ⟨xd_163_21, rfl⟩
theorem xk_163_15 : xk_OkA xp_F (xp_P sc) xp_cl xp_BW xp_NW xp_SW xp_exn 163 15 (.ireturn) := ⟨xd_163_22, rfl⟩
theorem xk_163_16 : xk_OkA xp_F (xp_P sc) xp_cl xp_BW xp_NW xp_SW xp_exn 163 16 (.astore 5) := Or.inl ⟨xd_163_23, rfl⟩
theorem xk_163_17 : xk_OkA xp_F (xp_P sc) xp_cl xp_BW xp_NW xp_SW xp_exn 163 17 (.iconst 3) := Or.inl ⟨xd_163_25, rfl⟩
theorem xk_163_18 : xk_OkA xp_F (xp_P sc) xp_cl xp_BW xp_NW xp_SW xp_exn 163 18 (.ireturn) := ⟨xd_163_26, rfl⟩
theorem xk_163_19 : xk_OkA xp_F (xp_P sc) xp_cl xp_BW xp_NW xp_SW xp_exn 163 19 (.iconst 0) := Or.inl ⟨xd_163_27, rfl⟩
theorem xk_163_20 : xk_OkA xp_F (xp_P sc) xp_cl xp_BW xp_NW xp_SW xp_exn 163 20 (.ireturn) := ⟨xd_163_28, rfl⟩
theorem xl_163 : xk_OkL xp_F (xp_P sc) xp_cl xp_BW xp_NW xp_SW xp_exn 163 0 xc_163 := ⟨xk_163_0, xk_163_1, xk_163_2, xk_163_3, xk_163_4, xk_163_5, xk_163_6, xk_163_7, xk_163_8, xk_163_9, xk_163_10, xk_163_11, xk_163_12, xk_163_13, xk_163_14, xk_163_15, xk_163_16, xk_163_17, xk_163_18, xk_163_19, xk_163_20, trivial⟩
theorem xd_164_0 : decode method_7_code 0 = .ok (.aload_n 3, 1) := by decide +kernel
theorem xd_164_1 : decode method_7_code 1 = .ok (.iconst 0, 1) := by decide +kernel
theorem xd_164_2 : decode method_7_code 2 = .ok (.aload_n 0, 1) := by decide +kernel
theorem xd_164_3 : decode method_7_code 3 = .ok (.iload_n 1, 1) := by decide +kernel
theorem xd_164_4 : decode method_7_code 4 = .ok (.iload_n 2, 1) := by decide +kernel
theorem xd_164_5 : decode method_7_code 5 = .ok (.invokevirtual 31, 3) := by decide +kernel
theorem xd_164_8 : decode method_7_code 8 = .ok (.i2l, 1) := by decide +kernel
theorem xd_164_9 : decode method_7_code 9 = .ok (.lastore, 1) := by decide +kernel
theorem xd_164_10 : decode method_7_code 10 = .ok (.goto 19, 3) := by decide +kernel
theorem xd_164_13 : decode method_7_code 13 = .ok (.astore 4, 2) := by decide +kernel
theorem xd_164_15 : decode method_7_code 15 = .ok (.iconst 1, 1) := by decide +kernel
theorem xd_164_16 : decode method_7_code 16 = .ok (.ireturn, 1) := by decide +kernel
theorem xd_164_17 : decode method_7_code 17 = .ok (.astore 4, 2) := by decide +kernel
theorem xd_164_19 : decode method_7_code 19 = .ok (.iconst 2, 1) := by decide +kernel
theorem xd_164_20 : decode method_7_code 20 = .ok (.ireturn, 1) := by decide +kernel
theorem xd_164_21 : decode method_7_code 21 = .ok (.astore 4, 2) := by decide +kernel
theorem xd_164_23 : decode method_7_code 23 = .ok (.iconst 3, 1) := by decide +kernel
theorem xd_164_24 : decode method_7_code 24 = .ok (.ireturn, 1) := by decide +kernel
theorem xd_164_25 : decode method_7_code 25 = .ok (.astore 4, 2) := by decide +kernel
theorem xd_164_27 : decode method_7_code 27 = .ok (.iconst 4, 1) := by decide +kernel
theorem xd_164_28 : decode method_7_code 28 = .ok (.ireturn, 1) := by decide +kernel
theorem xd_164_29 : decode method_7_code 29 = .ok (.iconst 0, 1) := by decide +kernel
theorem xd_164_30 : decode method_7_code 30 = .ok (.ireturn, 1) := by decide +kernel
theorem xk_164_0 : xk_OkA xp_F (xp_P sc) xp_cl xp_BW xp_NW xp_SW xp_exn 164 0 (.aload 3) := Or.inr ⟨3, rfl, xd_164_0, rfl⟩
theorem xk_164_1 : xk_OkA xp_F (xp_P sc) xp_cl xp_BW xp_NW xp_SW xp_exn 164 1 (.iconst 0) := Or.inl ⟨xd_164_1, rfl⟩
theorem xk_164_2 : xk_OkA xp_F (xp_P sc) xp_cl xp_BW xp_NW xp_SW xp_exn 164 2 (.aload 0) := Or.inr ⟨0, rfl, xd_164_2, rfl⟩
theorem xk_164_3 : xk_OkA xp_F (xp_P sc) xp_cl xp_BW xp_NW xp_SW xp_exn 164 3 (.iload 1) := Or.inr ⟨1, rfl, xd_164_3, rfl⟩
theorem xk_164_4 : xk_OkA xp_F (xp_P sc) xp_cl xp_BW xp_NW xp_SW xp_exn 164 4 (.iload 2) := Or.inr ⟨2, rfl, xd_164_4, rfl⟩
theorem xk_164_5 : xk_OkA xp_F (xp_P sc) xp_cl xp_BW xp_NW xp_SW xp_exn 164 5 (.invokeinterface 44 3) := ⟨rfl, Or.inl ⟨xwt_477, rfl⟩, rfl, rfl, xwt_1, by decide +kernel, by decide +kernel, Nat.le_of_ble_eq_true rfl, _, Or.inl xwt_474, Or.inr ⟨xd_164_5, xwt_475, xwt_476, ⟨_, _, _, rfl, rfl⟩, by decide +kernel⟩⟩
theorem xk_164_6 : xk_OkA xp_F (xp_P sc) xp_cl xp_BW xp_NW xp_SW xp_exn 164 6 (.i2l) := ⟨xd_164_8, rfl⟩
theorem xk_164_7 : xk_OkA xp_F (xp_P sc) xp_cl xp_BW xp_NW xp_SW xp_exn 164 7 (.lastore) := ⟨xd_164_9, rfl⟩
theorem xk_164_8 : xk_OkA xp_F (xp_P sc) xp_cl xp_BW xp_NW xp_SW xp_exn 164 8 (.goto 21) := ⟨_, xd_164_10, by unfold xf_to; decide +kernel⟩
theorem xk_164_9 : xk_OkA xp_F (xp_P sc) xp_cl xp_BW xp_NW xp_SW xp_exn 164 9 (.astore 4) := Or.inl ⟨xd_164_13, rfl⟩
theorem xk_164_10 : xk_OkA xp_F (xp_P sc) xp_cl xp_BW xp_NW xp_SW xp_exn 164 10 (.iconst 1) := Or.inl ⟨xd_164_15, rfl⟩
theorem xk_164_11 : xk_OkA xp_F (xp_P sc) xp_cl xp_BW xp_NW xp_SW xp_exn 164 11 (.ireturn) := ⟨xd_164_16, rfl⟩
theorem xk_164_12 : xk_OkA xp_F (xp_P sc) xp_cl xp_BW xp_NW xp_SW xp_exn 164 12 (.astore 4) := Or.inl ⟨xd_164_17, rfl⟩
theorem xk_164_13 : xk_OkA xp_F (xp_P sc) xp_cl xp_BW xp_NW xp_SW xp_exn 164 13 (.iconst 2) := Or.inl ⟨xd_164_19, rfl⟩
theorem xk_164_14 : xk_OkA xp_F (xp_P sc) xp_cl xp_BW xp_NW xp_SW xp_exn 164 14 (.ireturn) := ⟨xd_164_20, rfl⟩
theorem xk_164_15 : xk_OkA xp_F (xp_P sc) xp_cl xp_BW xp_NW xp_SW xp_exn 164 15 (.astore 4) := Or.inl ⟨xd_164_21, rfl⟩
theorem xk_164_16 : xk_OkA xp_F (xp_P sc) xp_cl xp_BW xp_NW xp_SW xp_exn 164 16 (.iconst 3) := Or.inl ⟨xd_164_23, rfl⟩
theorem xk_164_17 : xk_OkA xp_F (xp_P sc) xp_cl xp_BW xp_NW xp_SW xp_exn 164 17 (.ireturn) := ⟨xd_164_24, rfl⟩
theorem xk_164_18 : xk_OkA xp_F (xp_P sc) xp_cl xp_BW xp_NW xp_SW xp_exn 164 18 (.astore 4) := Or.inl ⟨xd_164_25, rfl⟩
theorem xk_164_19 : xk_OkA xp_F (xp_P sc) xp_cl xp_BW xp_NW xp_SW xp_exn 164 19 (.iconst 4) := Or.inl ⟨xd_164_27, rfl⟩
theorem xk_164_20 : xk_OkA xp_F (xp_P sc) xp_cl xp_BW xp_NW xp_SW xp_exn 164 20 (.ireturn) := ⟨xd_164_28, rfl⟩
theorem xk_164_21 : xk_OkA xp_F (xp_P sc) xp_cl xp_BW xp_NW xp_SW xp_exn 164 21 (.iconst 0) := Or.inl ⟨xd_164_29, rfl⟩
theorem xk_164_22 : xk_OkA xp_F (xp_P sc) xp_cl xp_BW xp_NW xp_SW xp_exn 164 22 (.ireturn) := ⟨xd_164_30, rfl⟩
theorem xl_164 : xk_OkL xp_F (xp_P sc) xp_cl xp_BW xp_NW xp_SW xp_exn 164 0 xc_164 := ⟨xk_164_0, xk_164_1, xk_164_2, xk_164_3, xk_164_4, xk_164_5, xk_164_6, xk_164_7, xk_164_8, xk_164_9, xk_164_10, xk_164_11, xk_164_12, xk_164_13, xk_164_14, xk_164_15, xk_164_16, xk_164_17, xk_164_18, xk_164_19, xk_164_20, xk_164_21, xk_164_22, trivial⟩
theorem xd_165_0 : decode method_8_code 0 = .ok (.aload_n 3, 1) := by decide +kernel
theorem xd_165_1 : decode method_8_code 1 = .ok (.iconst 0, 1) := by decide +kernel
theorem xd_165_2 : decode method_8_code 2 = .ok (.aload_n 0, 1) := by decide +kernel
theorem xd_165_3 : decode method_8_code 3 = .ok (.iload_n 1, 1) := by decide +kernel
theorem xd_165_4 : decode method_8_code 4 = .ok (.iload_n 2, 1) := by decide +kernel
theorem xd_165_5 : decode method_8_code 5 = .ok (.invokevirtual 37, 3) := by decide +kernel
theorem xd_165_8 : decode method_8_code 8 = .ok (.i2l, 1) := by decide +kernel
theorem xd_165_9 : decode method_8_code 9 = .ok (.lastore, 1) := by decide +kernel
theorem xd_165_10 : decode method_8_code 10 = .ok (.goto 19, 3) := by decide +kernel
theorem xd_165_13 : decode method_8_code 13 = .ok (.astore 4, 2) := by decide +kernel
theorem xd_165_15 : decode method_8_code 15 = .ok (.iconst 1, 1) := by decide +kernel
theorem xd_165_16 : decode method_8_code 16 = .ok (.ireturn, 1) := by decide +kernel
theorem xd_165_17 : decode method_8_code 17 = .ok (.astore 4, 2) := by decide +kernel
theorem xd_165_19 : decode method_8_code 19 = .ok (.iconst 2, 1) := by decide +kernel
theorem xd_165_20 : decode method_8_code 20 = .ok (.ireturn, 1) := by decide +kernel
theorem xd_165_21 : decode method_8_code 21 = .ok (.astore 4, 2) := by decide +kernel
theorem xd_165_23 : decode method_8_code 23 = .ok (.iconst 3, 1) := by decide +kernel
theorem xd_165_24 : decode method_8_code 24 = .ok (.ireturn, 1) := by decide +kernel
theorem xd_165_25 : decode method_8_code 25 = .ok (.astore 4, 2) := by decide +kernel
theorem xd_165_27 : decode method_8_code 27 = .ok (.iconst 4, 1) := by decide +kernel
theorem xd_165_28 : decode method_8_code 28 = .ok (.ireturn, 1) := by decide +kernel
theorem xd_165_29 : decode method_8_code 29 = .ok (.iconst 0, 1) := by decide +kernel
theorem xd_165_30 : decode method_8_code 30 = .ok (.ireturn, 1) := by decide +kernel
theorem xk_165_0 : xk_OkA xp_F (xp_P sc) xp_cl xp_BW xp_NW xp_SW xp_exn 165 0 (.aload 3) := Or.inr ⟨3, rfl, xd_165_0, rfl⟩
theorem xk_165_1 : xk_OkA xp_F (xp_P sc) xp_cl xp_BW xp_NW xp_SW xp_exn 165 1 (.iconst 0) := Or.inl ⟨xd_165_1, rfl⟩
theorem xk_165_2 : xk_OkA xp_F (xp_P sc) xp_cl xp_BW xp_NW xp_SW xp_exn 165 2 (.aload 0) := Or.inr ⟨0, rfl, xd_165_2, rfl⟩
theorem xk_165_3 : xk_OkA xp_F (xp_P sc) xp_cl xp_BW xp_NW xp_SW xp_exn 165 3 (.iload 1) := Or.inr ⟨1, rfl, xd_165_3, rfl⟩
theorem xk_165_4 : xk_OkA xp_F (xp_P sc) xp_cl xp_BW xp_NW xp_SW xp_exn 165 4 (.iload 2) := Or.inr ⟨2, rfl, xd_165_4, rfl⟩
theorem xk_165_5 : xk_OkA xp_F (xp_P sc) xp_cl xp_BW xp_NW xp_SW xp_exn 165 5 (.invokeinterface 45 3) := ⟨rfl, Or.inl ⟨xwt_505, rfl⟩, rfl, rfl, xwt_1, by decide +kernel, by decide +kernel, Nat.le_of_ble_eq_true rfl, _, Or.inl xwt_502, Or.inr ⟨xd_165_5, xwt_503, xwt_504, ⟨_, _, _, rfl, rfl⟩, by decide +kernel⟩⟩
theorem xk_165_6 : xk_OkA xp_F (xp_P sc) xp_cl xp_BW xp_NW xp_SW xp_exn 165 6 (.i2l) := ⟨xd_165_8, rfl⟩
theorem xk_165_7 : xk_OkA xp_F (xp_P sc) xp_cl xp_BW xp_NW xp_SW xp_exn 165 7 (.lastore) := ⟨xd_165_9, rfl⟩
theorem xk_165_8 : xk_OkA xp_F (xp_P sc) xp_cl xp_BW xp_NW xp_SW xp_exn 165 8 (.goto 21) := ⟨_, xd_165_10, by unfold xf_to; decide +kernel⟩
theorem xk_165_9 : xk_OkA xp_F (xp_P sc) xp_cl xp_BW xp_NW xp_SW xp_exn 165 9 (.astore 4) := Or.inl ⟨xd_165_13, rfl⟩
theorem xk_165_10 : xk_OkA xp_F (xp_P sc) xp_cl xp_BW xp_NW xp_SW xp_exn 165 10 (.iconst 1) := Or.inl ⟨xd_165_15, rfl⟩
theorem xk_165_11 : xk_OkA xp_F (xp_P sc) xp_cl xp_BW xp_NW xp_SW xp_exn 165 11 (.ireturn) := ⟨xd_165_16, rfl⟩
theorem xk_165_12 : xk_OkA xp_F (xp_P sc) xp_cl xp_BW xp_NW xp_SW xp_exn 165 12 (.astore 4) := Or.inl ⟨xd_165_17, rfl⟩
theorem xk_165_13 : xk_OkA xp_F (xp_P sc) xp_cl xp_BW xp_NW xp_SW xp_exn 165 13 (.iconst 2) := Or.inl ⟨xd_165_19, rfl⟩
theorem xk_165_14 : xk_OkA xp_F (xp_P sc) xp_cl xp_BW xp_NW xp_SW xp_exn 165 14 (.ireturn) := ⟨xd_165_20, rfl⟩
theorem xk_165_15 : xk_OkA xp_F (xp_P sc) xp_cl xp_BW xp_NW xp_SW xp_exn 165 15 (.astore 4) := Or.inl ⟨xd_165_21, rfl⟩
theorem xk_165_16 : xk_OkA xp_F (xp_P sc) xp_cl xp_BW xp_NW xp_SW xp_exn 165 16 (.iconst 3) := Or.inl ⟨xd_165_23, rfl⟩
theorem xk_165_17 : xk_OkA xp_F (xp_P sc) xp_cl xp_BW xp_NW xp_SW xp_exn 165 17 (.ireturn) := ⟨xd_165_24, rfl⟩
theorem xk_165_18 : xk_OkA xp_F (xp_P sc) xp_cl xp_BW xp_NW xp_SW xp_exn 165 18 (.astore 4) := Or.inl ⟨xd_165_25, rfl⟩
theorem xk_165_19 : xk_OkA xp_F (xp_P sc) xp_cl xp_BW xp_NW xp_SW xp_exn 165 19 (.iconst 4) := Or.inl ⟨xd_165_27, rfl⟩
theorem xk_165_20 : xk_OkA xp_F (xp_P sc) xp_cl xp_BW xp_NW xp_SW xp_exn 165 20 (.ireturn) := ⟨xd_165_28, rfl⟩
theorem xk_165_21 : xk_OkA xp_F (xp_P sc) xp_cl xp_BW xp_NW xp_SW xp_exn 165 21 (.iconst 0) := Or.inl ⟨xd_165_29, rfl⟩
theorem xk_165_22 : xk_OkA xp_F (xp_P sc) xp_cl xp_BW xp_NW xp_SW xp_exn 165 22 (.ireturn) := ⟨xd_165_30, rfl⟩
theorem xl_165 : xk_OkL xp_F (xp_P sc) xp_cl xp_BW xp_NW xp_SW xp_exn 165 0 xc_165 := ⟨xk_165_0, xk_165_1, xk_165_2, xk_165_3, xk_165_4, xk_165_5, xk_165_6, xk_165_7, xk_165_8, xk_165_9, xk_165_10, xk_165_11, xk_165_12, xk_165_13, xk_165_14, xk_165_15, xk_165_16, xk_165_17, xk_165_18, xk_165_19, xk_165_20, xk_165_21, xk_165_22, trivial⟩
theorem xd_166_0 : decode method_9_code 0 = .ok (.aload_n 0, 1) := by decide +kernel
theorem xd_166_1 : decode method_9_code 1 = .ok (.iload_n 1, 1) := by decide +kernel
theorem xd_166_2 : decode method_9_code 2 = .ok (.invokevirtual 40, 3) := by decide +kernel
theorem xd_166_5 : decode method_9_code 5 = .ok (.goto 12, 3) := by decide +kernel
theorem xd_166_8 : decode method_9_code 8 = .ok (.astore_n 2, 1) := by decide +kernel
theorem xd_166_9 : decode method_9_code 9 = .ok (.iconst 1, 1) := by decide +kernel
theorem xd_166_10 : decode method_9_code 10 = .ok (.ireturn, 1) := by decide +kernel
theorem xd_166_11 : decode method_9_code 11 = .ok (.astore_n 2, 1) := by decide +kernel
theorem xd_166_12 : decode method_9_code 12 = .ok (.iconst 2, 1) := by decide +kernel
theorem xd_166_13 : decode method_9_code 13 = .ok (.ireturn, 1) := by decide +kernel
theorem xd_166_14 : decode method_9_code 14 = .ok (.astore_n 2, 1) := by decide +kernel
theorem xd_166_15 : decode method_9_code 15 = .ok (.iconst 3, 1) := by decide +kernel
theorem xd_166_16 : decode method_9_code 16 = .ok (.ireturn, 1) := by decide +kernel
theorem xd_166_17 : decode method_9_code 17 = .ok (.iconst 0, 1) := by decide +kernel
theorem xd_166_18 : decode method_9_code 18 = .ok (.ireturn, 1) := by decide +kernel
theorem xk_166_0 : xk_OkA xp_F (xp_P sc) xp_cl xp_BW xp_NW xp_SW xp_exn 166 0 (.aload 0) := Or.inr ⟨0, rfl, xd_166_0, rfl⟩
theorem xk_166_1 : xk_OkA xp_F (xp_P sc) xp_cl xp_BW xp_NW xp_SW xp_exn 166 1 (.iload 1) := Or.inr ⟨1, rfl, xd_166_1, rfl⟩
theorem xk_166_2 : xk_OkA xp_F (xp_P sc) xp_cl xp_BW xp_NW xp_SW xp_exn 166 2 (.invokeinterface 46 2) := ⟨rfl, Or.inl ⟨xwt_517, rfl⟩, rfl, rfl, xwt_1, by decide +kernel, by decide +kernel, Nat.le_of_ble_eq_true rfl, _, Or.inl xwt_514, Or.inr ⟨xd_166_2, xwt_515, xwt_516, ⟨_, _, _, rfl, rfl⟩, by decide +kernel⟩⟩
theorem xk_166_3 : xk_OkA xp_F (xp_P sc) xp_cl xp_BW xp_NW xp_SW xp_exn 166 3 (.goto 13) := ⟨_, xd_166_5, by unfold xf_to; decide +kernel⟩
theorem xk_166_4 : xk_OkA xp_F (xp_P sc) xp_cl xp_BW xp_NW xp_SW xp_exn 166 4 (.astore 2) := Or.inr ⟨2, rfl, xd_166_8, rfl⟩
theorem xk_166_5 : xk_OkA xp_F (xp_P sc) xp_cl xp_BW xp_NW xp_SW xp_exn 166 5 (.iconst 1) := Or.inl ⟨xd_166_9, rfl⟩
theorem xk_166_6 : xk_OkA xp_F (xp_P sc) xp_cl xp_BW xp_NW xp_SW xp_exn 166 6 (.ireturn) := ⟨xd_166_10, rfl⟩
theorem xk_166_7 : xk_OkA xp_F (xp_P sc) xp_cl xp_BW xp_NW xp_SW xp_exn 166 7 (.astore 2) := Or.inr ⟨2, rfl, xd_166_11, rfl⟩
theorem xk_166_8 : xk_OkA xp_F (xp_P sc) xp_cl xp_BW xp_NW xp_SW xp_exn 166 8 (.iconst 2) := Or.inl ⟨xd_166_12, rfl⟩
theorem xk_166_9 : xk_OkA xp_F (xp_P sc) xp_cl xp_BW xp_NW xp_SW xp_exn 166 9 (.ireturn) := ⟨xd_166_13, rfl⟩
theorem xk_166_10 : xk_OkA xp_F (xp_P sc) xp_cl xp_BW xp_NW xp_SW xp_exn 166 10 (.astore 2) := Or.inr ⟨2, rfl, xd_166_14, rfl⟩
theorem xk_166_11 : xk_OkA xp_F (xp_P sc) xp_cl xp_BW xp_NW xp_SW xp_exn 166 11 (.iconst 3) := Or.inl ⟨xd_166_15, rfl⟩
theorem xk_166_12 : xk_OkA xp_F (xp_P sc) xp_cl xp_BW xp_NW xp_SW xp_exn 166 12 (.ireturn) := ⟨xd_166_16, rfl⟩
theorem xk_166_13 : xk_OkA xp_F (xp_P sc) xp_cl xp_BW xp_NW xp_SW xp_exn 166 13 (.iconst 0) := Or.inl ⟨xd_166_17, rfl⟩
theorem xk_166_14 : xk_OkA xp_F (xp_P sc) xp_cl xp_BW xp_NW xp_SW xp_exn 166 14 (.ireturn) := ⟨xd_166_18, rfl⟩
theorem xl_166 : xk_OkL xp_F (xp_P sc) xp_cl xp_BW xp_NW xp_SW xp_exn 166 0 xc_166 := ⟨xk_166_0, xk_166_1, xk_166_2, xk_166_3, xk_166_4, xk_166_5, xk_166_6, xk_166_7, xk_166_8, xk_166_9, xk_166_10, xk_166_11, xk_166_12, xk_166_13, xk_166_14, trivial⟩
theorem xd_167_0 : decode method_10_code 0 = .ok (.aload_n 2, 1) := by decide +kernel
theorem xd_167_1 : decode method_10_code 1 = .ok (.iconst 0, 1) := by decide +kernel
theorem xd_167_2 : decode method_10_code 2 = .ok (.aload_n 0, 1) := by decide +kernel
theorem xd_167_3 : decode method_10_code 3 = .ok (.iload_n 1, 1) := by decide +kernel
theorem xd_167_4 : decode method_10_code 4 = .ok (.invokevirtual 43, 3) := by decide +kernel
theorem xd_167_7 : decode method_10_code 7 = .ok (.i2l, 1) := by decide +kernel
theorem xd_167_8 : decode method_10_code 8 = .ok (.lastore, 1) := by decide +kernel
theorem xd_167_9 : decode method_10_code 9 = .ok (.goto 15, 3) := by decide +kernel
theorem xd_167_12 : decode method_10_code 12 = .ok (.astore_n 3, 1) := by decide +kernel
theorem xd_167_13 : decode method_10_code 13 = .ok (.iconst 1, 1) := by decide +kernel
theorem xd_167_14 : decode method_10_code 14 = .ok (.ireturn, 1) := by decide +kernel
theorem xd_167_15 : decode method_10_code 15 = .ok (.astore_n 3, 1) := by decide +kernel
theorem xd_167_16 : decode method_10_code 16 = .ok (.iconst 2, 1) := by decide +kernel
theorem xd_167_17 : decode method_10_code 17 = .ok (.ireturn, 1) := by decide +kernel
theorem xd_167_18 : decode method_10_code 18 = .ok (.astore_n 3, 1) := by decide +kernel
theorem xd_167_19 : decode method_10_code 19 = .ok (.iconst 3, 1) := by decide +kernel
theorem xd_167_20 : decode method_10_code 20 = .ok (.ireturn, 1) := by decide +kernel
theorem xd_167_21 : decode method_10_code 21 = .ok (.astore_n 3, 1) := by decide +kernel
theorem xd_167_22 : decode method_10_code 22 = .ok (.iconst 4, 1) := by decide +kernel
theorem xd_167_23 : decode method_10_code 23 = .ok (.ireturn, 1) := by decide +kernel
theorem xd_167_24 : decode method_10_code 24 = .ok (.iconst 0, 1) := by decide +kernel
theorem xd_167_25 : decode method_10_code 25 = .ok (.ireturn, 1) := by decide +kernel
theorem xk_167_0 : xk_OkA xp_F (xp_P sc) xp_cl xp_BW xp_NW xp_SW xp_exn 167 0 (.aload 2) := Or.inr ⟨2, rfl, xd_167_0, rfl⟩
theorem xk_167_1 : xk_OkA xp_F (xp_P sc) xp_cl xp_BW xp_NW xp_SW xp_exn 167 1 (.iconst 0) := Or.inl ⟨xd_167_1, rfl⟩
theorem xk_167_2 : xk_OkA xp_F (xp_P sc) xp_cl xp_BW xp_NW xp_SW xp_exn 167 2 (.aload 0) := Or.inr ⟨0, rfl, xd_167_2, rfl⟩
theorem xk_167_3 : xk_OkA xp_F (xp_P sc) xp_cl xp_BW xp_NW xp_SW xp_exn 167 3 (.iload 1) := Or.inr ⟨1, rfl, xd_167_3, rfl⟩
theorem xk_167_4 : xk_OkA xp_F (xp_P sc) xp_cl xp_BW xp_NW xp_SW xp_exn 167 4 (.invokeinterface 47 2) := ⟨rfl, Or.inl ⟨xwt_529, rfl⟩, rfl, rfl, xwt_1, by decide +kernel, by decide +kernel, Nat.le_of_ble_eq_true rfl, _, Or.inl xwt_526, Or.inr ⟨xd_167_4, xwt_527, xwt_528, ⟨_, _, _, rfl, rfl⟩, by decide +kernel⟩⟩
theorem xk_167_5 : xk_OkA xp_F (xp_P sc) xp_cl xp_BW xp_NW xp_SW xp_exn 167 5 (.i2l) := ⟨xd_167_7, rfl⟩
theorem xk_167_6 : xk_OkA xp_F (xp_P sc) xp_cl xp_BW xp_NW xp_SW xp_exn 167 6 (.lastore) := ⟨xd_167_8, rfl⟩
theorem xk_167_7 : xk_OkA xp_F (xp_P sc) xp_cl xp_BW xp_NW xp_SW xp_exn 167 7 (.goto 20) := ⟨_, xd_167_9, by unfold xf_to; decide +kernel⟩
theorem xk_167_8 : xk_OkA xp_F (xp_P sc) xp_cl xp_BW xp_NW xp_SW xp_exn 167 8 (.astore 3) := Or.inr ⟨3, rfl, xd_167_12, rfl⟩
theorem xk_167_9 : xk_OkA xp_F (xp_P sc) xp_cl xp_BW xp_NW xp_SW xp_exn 167 9 (.iconst 1) := Or.inl ⟨xd_167_13, rfl⟩
theorem xk_167_10 : xk_OkA xp_F (xp_P sc) xp_cl xp_BW xp_NW xp_SW xp_exn 167 10 (.ireturn) := ⟨xd_167_14, rfl⟩
theorem xk_167_11 : xk_OkA xp_F (xp_P sc) xp_cl xp_BW xp_NW xp_SW xp_exn 167 11 (.astore 3) := Or.inr ⟨3, rfl, xd_167_15, rfl⟩
theorem xk_167_12 : xk_OkA xp_F (xp_P sc) xp_cl xp_BW xp_NW xp_SW xp_exn 167 12 (.iconst 2) := Or.inl ⟨xd_167_16, rfl⟩
theorem xk_167_13 : xk_OkA xp_F (xp_P sc) xp_cl xp_BW xp_NW xp_SW xp_exn 167 13 (.ireturn) := ⟨xd_167_17, rfl⟩
theorem xk_167_14 : xk_OkA xp_F (xp_P sc) xp_cl xp_BW xp_NW xp_SW xp_exn 167 14 (.astore 3) := Or.inr ⟨3, rfl, xd_167_18, rfl⟩
theorem xk_167_15 : xk_OkA xp_F (xp_P sc) xp_cl xp_BW xp_NW xp_SW xp_exn 167 15 (.iconst 3) := Or.inl ⟨xd_167_19, rfl⟩
theorem xk_167_16 : xk_OkA xp_F (xp_P sc) xp_cl xp_BW xp_NW xp_SW xp_exn 167 16 (.ireturn) := ⟨xd_167_20, rfl⟩
theorem xk_167_17 : xk_OkA xp_F (xp_P sc) xp_cl xp_BW xp_NW xp_SW xp_exn 167 17 (.astore 3) := Or.inr ⟨3, rfl, xd_167_21, rfl⟩
theorem xk_167_18 : xk_OkA xp_F (xp_P sc) xp_cl xp_BW xp_NW xp_SW xp_exn 167 18 (.iconst 4) := Or.inl ⟨xd_167_22, rfl⟩
theorem xk_167_19 : xk_OkA xp_F (xp_P sc) xp_cl xp_BW xp_NW xp_SW xp_exn 167 19 (.ireturn) := ⟨xd_167_23, rfl⟩
theorem xk_167_20 : xk_OkA xp_F (xp_P sc) xp_cl xp_BW xp_NW xp_SW xp_exn 167 20 (.iconst 0) := Or.inl ⟨xd_167_24, rfl⟩
theorem xk_167_21 : xk_OkA xp_F (xp_P sc) xp_cl xp_BW xp_NW xp_SW xp_exn 167 21 (.ireturn) := ⟨xd_167_25, rfl⟩
theorem xl_167 : xk_OkL xp_F (xp_P sc) xp_cl xp_BW xp_NW xp_SW xp_exn 167 0 xc_167 := ⟨xk_167_0, xk_167_1, xk_167_2, xk_167_3, xk_167_4, xk_167_5, xk_167_6, xk_167_7, xk_167_8, xk_167_9, xk_167_10, xk_167_11, xk_167_12, xk_167_13, xk_167_14, xk_167_15, xk_167_16, xk_167_17, xk_167_18, xk_167_19, xk_167_20, xk_167_21, trivial⟩
theorem xd_168_0 : decode method_11_code 0 = .ok (.aload 4, 2) := by decide +kernel
theorem xd_168_2 : decode method_11_code 2 = .ok (.iconst 0, 1) := by decide +kernel
theorem xd_168_3 : decode method_11_code 3 = .ok (.aload_n 0, 1) := by decide +kernel
theorem xd_168_4 : decode method_11_code 4 = .ok (.iload_n 1, 1) := by decide +kernel
theorem xd_168_5 : decode method_11_code 5 = .ok (.iload_n 2, 1) := by decide +kernel
theorem xd_168_6 : decode method_11_code 6 = .ok (.iload_n 3, 1) := by decide +kernel
theorem xd_168_7 : decode method_11_code 7 = .ok (.invokevirtual 46, 3) := by decide +kernel
theorem xd_168_10 : decode method_11_code 10 = .ok (.i2l, 1) := by decide +kernel
theorem xd_168_11 : decode method_11_code 11 = .ok (.lastore, 1) := by decide +kernel
theorem xd_168_12 : decode method_11_code 12 = .ok (.goto 19, 3) := by decide +kernel
theorem xd_168_15 : decode method_11_code 15 = .ok (.astore 5, 2) := by decide +kernel
theorem xd_168_17 : decode method_11_code 17 = .ok (.iconst 1, 1) := by decide +kernel
theorem xd_168_18 : decode method_11_code 18 = .ok (.ireturn, 1) := by decide +kernel
theorem xd_168_19 : decode method_11_code 19 = .ok (.astore 5, 2) := by decide +kernel
theorem xd_168_21 : decode method_11_code 21 = .ok (.iconst 2, 1) := by decide +kernel
theorem xd_168_22 : decode method_11_code 22 = .ok (.ireturn, 1) := by decide +kernel
theorem xd_168_23 : decode method_11_code 23 = .ok (.astore 5, 2) := by decide +kernel
theorem xd_168_25 : decode method_11_code 25 = .ok (.iconst 3, 1) := by decide +kernel
theorem xd_168_26 : decode method_11_code 26 = .ok (.ireturn, 1) := by decide +kernel
theorem xd_168_27 : decode method_11_code 27 = .ok (.astore 5, 2) := by decide +kernel
theorem xd_168_29 : decode method_11_code 29 = .ok (.iconst 4, 1) := by decide +kernel
theorem xd_168_30 : decode method_11_code 30 = .ok (.ireturn, 1) := by decide +kernel
theorem xd_168_31 : decode method_11_code 31 = .ok (.iconst 0, 1) := by decide +kernel
theorem xd_168_32 : decode method_11_code 32 = .ok (.ireturn, 1) := by decide +kernel
theorem xk_168_0 : xk_OkA xp_F (xp_P sc) xp_cl xp_BW xp_NW xp_SW xp_exn 168 0 (.aload 4) := Or.inl ⟨xd_168_0, rfl⟩
theorem xk_168_1 : xk_OkA xp_F (xp_P sc) xp_cl xp_BW xp_NW xp_SW xp_exn 168 1 (.iconst 0) := Or.inl ⟨xd_168_2, rfl⟩
theorem xk_168_2 : xk_OkA xp_F (xp_P sc) xp_cl xp_BW xp_NW xp_SW xp_exn 168 2 (.aload 0) := Or.inr ⟨0, rfl, xd_168_3, rfl⟩
theorem xk_168_3 : xk_OkA xp_F (xp_P sc) xp_cl xp_BW xp_NW xp_SW xp_exn 168 3 (.iload 1) := Or.inr ⟨1, rfl, xd_168_4, rfl⟩
theorem xk_168_4 : xk_OkA xp_F (xp_P sc) xp_cl xp_BW xp_NW xp_SW xp_exn 168 4 (.iload 2) := Or.inr ⟨2, rfl, xd_168_5, rfl⟩
theorem xk_168_5 : xk_OkA xp_F (xp_P sc) xp_cl xp_BW xp_NW xp_SW xp_exn 168 5 (.iload 3) := Or.inr ⟨3, rfl, xd_168_6, rfl⟩
theorem xk_168_6 : xk_OkA xp_F (xp_P sc) xp_cl xp_BW xp_NW xp_SW xp_exn 168 6 (.invokeinterface 48 4) := ⟨rfl, Or.inl ⟨xwt_558, rfl⟩, rfl, rfl, xwt_1, by decide +kernel, by decide +kernel, Nat.le_of_ble_eq_true rfl, _, Or.inl xwt_555, Or.inr ⟨xd_168_7, xwt_556, xwt_557, ⟨_, _, _, rfl, rfl⟩, by decide +kernel⟩⟩
theorem xk_168_7 : xk_OkA xp_F (xp_P sc) xp_cl xp_BW xp_NW xp_SW xp_exn 168 7 (.i2l) := ⟨xd_168_10, rfl⟩
theorem xk_168_8 : xk_OkA xp_F (xp_P sc) xp_cl xp_BW xp_NW xp_SW xp_exn 168 8 (.lastore) := ⟨xd_168_11, rfl⟩
theorem xk_168_9 : xk_OkA xp_F (xp_P sc) xp_cl xp_BW xp_NW xp_SW xp_exn 168 9 (.goto 22) := ⟨_, xd_168_12, by unfold xf_to; decide +kernel⟩
theorem xk_168_10 : xk_OkA xp_F (xp_P sc) xp_cl xp_BW xp_NW xp_SW xp_exn 168 10 (.astore 5) := Or.inl ⟨xd_168_15, rfl⟩
theorem xk_168_11 : xk_OkA xp_F (xp_P sc) xp_cl xp_BW xp_NW xp_SW xp_exn 168 11 (.iconst 1) := Or.inl ⟨xd_168_17, rfl⟩
theorem xk_168_12 : xk_OkA xp_F (xp_P sc) xp_cl xp_BW xp_NW xp_SW xp_exn 168 12 (.ireturn) := ⟨xd_168_18, rfl⟩
theorem xk_168_13 : xk_OkA xp_F (xp_P sc) xp_cl xp_BW xp_NW xp_SW xp_exn 168 13 (.astore 5) := Or.inl ⟨xd_168_19, rfl⟩
theorem xk_168_14 : xk_OkA xp_F (xp_P sc) xp_cl xp_BW xp_NW xp_SW xp_exn 168 14 (.iconst 2) := Or.inl ⟨xd_168_21, rfl⟩
theorem xk_168_15 : xk_OkA xp_F (xp_P sc) xp_cl xp_BW xp_NW xp_SW xp_exn 168 15 (.ireturn) := ⟨xd_168_22, rfl⟩
theorem xk_168_16 : xk_OkA xp_F (xp_P sc) xp_cl xp_BW xp_NW xp_SW xp_exn 168 16 (.astore 5) := Or.inl ⟨xd_168_23, rfl⟩
theorem xk_168_17 : xk_OkA xp_F (xp_P sc) xp_cl xp_BW xp_NW xp_SW xp_exn 168 17 (.iconst 3) := Or.inl ⟨xd_168_25, rfl⟩
theorem xk_168_18 : xk_OkA xp_F (xp_P sc) xp_cl xp_BW xp_NW xp_SW xp_exn 168 18 (.ireturn) := ⟨xd_168_26, rfl⟩
theorem xk_168_19 : xk_OkA xp_F (xp_P sc) xp_cl xp_BW xp_NW xp_SW xp_exn 168 19 (.astore 5) := Or.inl ⟨xd_168_27, rfl⟩
theorem xk_168_20 : xk_OkA xp_F (xp_P sc) xp_cl xp_BW xp_NW xp_SW xp_exn 168 20 (.iconst 4) := Or.inl ⟨xd_168_29, rfl⟩
theorem xk_168_21 : xk_OkA xp_F (xp_P sc) xp_cl xp_BW xp_NW xp_SW xp_exn 168 21 (.ireturn) := ⟨xd_168_30, rfl⟩
theorem xk_168_22 : xk_OkA xp_F (xp_P sc) xp_cl xp_BW xp_NW xp_SW xp_exn 168 22 (.iconst 0) := Or.inl ⟨xd_168_31, rfl⟩
theorem xk_168_23 : xk_OkA xp_F (xp_P sc) xp_cl xp_BW xp_NW xp_SW xp_exn 168 23 (.ireturn) := ⟨xd_168_32, rfl⟩
theorem xl_168 : xk_OkL xp_F (xp_P sc) xp_cl xp_BW xp_NW xp_SW xp_exn 168 0 xc_168 := ⟨xk_168_0, xk_168_1, xk_168_2, xk_168_3, xk_168_4, xk_168_5, xk_168_6, xk_168_7, xk_168_8, xk_168_9, xk_168_10, xk_168_11, xk_168_12, xk_168_13, xk_168_14, xk_168_15, xk_168_16, xk_168_17, xk_168_18, xk_168_19, xk_168_20, xk_168_21, xk_168_22, xk_168_23, trivial⟩
theorem xd_169_0 : decode method_12_code 0 = .ok (.aload_n 3, 1) := by decide +kernel
theorem xd_169_1 : decode method_12_code 1 = .ok (.iconst 0, 1) := by decide +kernel
theorem xd_169_2 : decode method_12_code 2 = .ok (.aload_n 0, 1) := by decide +kernel
theorem xd_169_3 : decode method_12_code 3 = .ok (.iload_n 1, 1) := by decide +kernel
theorem xd_169_4 : decode method_12_code 4 = .ok (.iload_n 2, 1) := by decide +kernel
theorem xd_169_5 : decode method_12_code 5 = .ok (.invokevirtual 51, 3) := by decide +kernel
theorem xd_169_8 : decode method_12_code 8 = .ok (.i2l, 1) := by decide +kernel
theorem xd_169_9 : decode method_12_code 9 = .ok (.lastore, 1) := by decide +kernel
theorem xd_169_10 : decode method_12_code 10 = .ok (.goto 19, 3) := by decide +kernel
theorem xd_169_13 : decode method_12_code 13 = .ok (.astore 4, 2) := by decide +kernel
theorem xd_169_15 : decode method_12_code 15 = .ok (.iconst 1, 1) := by decide +kernel
theorem xd_169_16 : decode method_12_code 16 = .ok (.ireturn, 1) := by decide +kernel
theorem xd_169_17 : decode method_12_code 17 = .ok (.astore 4, 2) := by decide +kernel
theorem xd_169_19 : decode method_12_code 19 = .ok (.iconst 2, 1) := by decide +kernel
theorem xd_169_20 : decode method_12_code 20 = .ok (.ireturn, 1) := by decide +kernel
theorem xd_169_21 : decode method_12_code 21 = .ok (.astore 4, 2) := by decide +kernel
theorem xd_169_23 : decode method_12_code 23 = .ok (.iconst 3, 1) := by decide +kernel
theorem xd_169_24 : decode method_12_code 24 = .ok (.ireturn, 1) := by decide +kernel
theorem xd_169_25 : decode method_12_code 25 = .ok (.astore 4, 2) := by decide +kernel
theorem xd_169_27 : decode method_12_code 27 = .ok (.iconst 4, 1) := by decide +kernel
theorem xd_169_28 : decode method_12_code 28 = .ok (.ireturn, 1) := by decide +kernel
theorem xd_169_29 : decode method_12_code 29 = .ok (.iconst 0, 1) := by decide +kernel
theorem xd_169_30 : decode method_12_code 30 = .ok (.ireturn, 1) := by decide +kernel
theorem xk_169_0 : xk_OkA xp_F (xp_P sc) xp_cl xp_BW xp_NW xp_SW xp_exn 169 0 (.aload 3) := Or.inr ⟨3, rfl, xd_169_0, rfl⟩
theorem xk_169_1 : xk_OkA xp_F (xp_P sc) xp_cl xp_BW xp_NW xp_SW xp_exn 169 1 (.iconst 0) := Or.inl ⟨xd_169_1, rfl⟩
theorem xk_169_2 : xk_OkA xp_F (xp_P sc) xp_cl xp_BW xp_NW xp_SW xp_exn 169 2 (.aload 0) := Or.inr ⟨0, rfl, xd_169_2, rfl⟩
theorem xk_169_3 : xk_OkA xp_F (xp_P sc) xp_cl xp_BW xp_NW xp_SW xp_exn 169 3 (.iload 1) := Or.inr ⟨1, rfl, xd_169_3, rfl⟩
theorem xk_169_4 : xk_OkA xp_F (xp_P sc) xp_cl xp_BW xp_NW xp_SW xp_exn 169 4 (.iload 2) := Or.inr ⟨2, rfl, xd_169_4, rfl⟩
theorem xk_169_5 : xk_OkA xp_F (xp_P sc) xp_cl xp_BW xp_NW xp_SW xp_exn 169 5 (.invokeinterface 49 3) := ⟨rfl, Or.inl ⟨xwt_618, rfl⟩, rfl, rfl, xwt_1, by decide +kernel, by decide +kernel, Nat.le_of_ble_eq_true rfl, _, Or.inl xwt_615, Or.inr ⟨xd_169_5, xwt_616, xwt_617, ⟨_, _, _, rfl, rfl⟩, by decide +kernel⟩⟩
theorem xk_169_6 : xk_OkA xp_F (xp_P sc) xp_cl xp_BW xp_NW xp_SW xp_exn 169 6 (.i2l) := ⟨xd_169_8, rfl⟩
theorem xk_169_7 : xk_OkA xp_F (xp_P sc) xp_cl xp_BW xp_NW xp_SW xp_exn 169 7 (.lastore) := ⟨xd_169_9, rfl⟩
theorem xk_169_8 : xk_OkA xp_F (xp_P sc) xp_cl xp_BW xp_NW xp_SW xp_exn 169 8 (.goto 21) := ⟨_, xd_169_10, by unfold xf_to; decide +kernel⟩
theorem xk_169_9 : xk_OkA xp_F (xp_P sc) xp_cl xp_BW xp_NW xp_SW xp_exn 169 9 (.astore 4) := Or.inl ⟨xd_169_13, rfl⟩
theorem xk_169_10 : xk_OkA xp_F (xp_P sc) xp_cl xp_BW xp_NW xp_SW xp_exn 169 10 (.iconst 1) := Or.inl ⟨xd_169_15, rfl⟩
theorem xk_169_11 : xk_OkA xp_F (xp_P sc) xp_cl xp_BW xp_NW xp_SW xp_exn 169 11 (.ireturn) := ⟨xd_169_16, rfl⟩
theorem xk_169_12 : xk_OkA xp_F (xp_P sc) xp_cl xp_BW xp_NW xp_SW xp_exn 169 12 (.astore 4) := Or.inl ⟨xd_169_17, rfl⟩
theorem xk_169_13 : xk_OkA xp_F (xp_P sc) xp_cl xp_BW xp_NW xp_SW xp_exn 169 13 (.iconst 2) := Or.inl ⟨xd_169_19, rfl⟩
theorem xk_169_14 : xk_OkA xp_F (xp_P sc) xp_cl xp_BW xp_NW xp_SW xp_exn 169 14 (.ireturn) := ⟨xd_169_20, rfl⟩
theorem xk_169_15 : xk_OkA xp_F (xp_P sc) xp_cl xp_BW xp_NW xp_SW xp_exn 169 15 (.astore 4) := Or.inl ⟨xd_169_21, rfl⟩
theorem xk_169_16 : xk_OkA xp_F (xp_P sc) xp_cl xp_BW xp_NW xp_SW xp_exn 169 16 (.iconst 3) := Or.inl ⟨xd_169_23, rfl⟩
theorem xk_169_17 : xk_OkA xp_F (xp_P sc) xp_cl xp_BW xp_NW xp_SW xp_exn 169 17 (.ireturn) := ⟨xd_169_24, rfl⟩
theorem xk_169_18 : xk_OkA xp_F (xp_P sc) xp_cl xp_BW xp_NW xp_SW xp_exn 169 18 (.astore 4) := Or.inl ⟨xd_169_25, rfl⟩
theorem xk_169_19 : xk_OkA xp_F (xp_P sc) xp_cl xp_BW xp_NW xp_SW xp_exn 169 19 (.iconst 4) := Or.inl ⟨xd_169_27, rfl⟩
theorem xk_169_20 : xk_OkA xp_F (xp_P sc) xp_cl xp_BW xp_NW xp_SW xp_exn 169 20 (.ireturn) := ⟨xd_169_28, rfl⟩
theorem xk_169_21 : xk_OkA xp_F (xp_P sc) xp_cl xp_BW xp_NW xp_SW xp_exn 169 21 (.iconst 0) := Or.inl ⟨xd_169_29, rfl⟩
theorem xk_169_22 : xk_OkA xp_F (xp_P sc) xp_cl xp_BW xp_NW xp_SW xp_exn 169 22 (.ireturn) := ⟨xd_169_30, rfl⟩
theorem xl_169 : xk_OkL xp_F (xp_P sc) xp_cl xp_BW xp_NW xp_SW xp_exn 169 0 xc_169 := ⟨xk_169_0, xk_169_1, xk_169_2, xk_169_3, xk_169_4, xk_169_5, xk_169_6, xk_169_7, xk_169_8, xk_169_9, xk_169_10, xk_169_11, xk_169_12, xk_169_13, xk_169_14, xk_169_15, xk_169_16, xk_169_17, xk_169_18, xk_169_19, xk_169_20, xk_169_21, xk_169_22, trivial⟩
theorem xd_170_0 : decode method_13_code 0 = .ok (.aload_n 2, 1) := by decide +kernel
theorem xd_170_1 : decode method_13_code 1 = .ok (.iconst 0, 1) := by decide +kernel
theorem xd_170_2 : decode method_13_code 2 = .ok (.aload_n 0, 1) := by decide +kernel
theorem xd_170_3 : decode method_13_code 3 = .ok (.iload_n 1, 1) := by decide +kernel
theorem xd_170_4 : decode method_13_code 4 = .ok (.invokevirtual 54, 3) := by decide +kernel
theorem xd_170_7 : decode method_13_code 7 = .ok (.i2l, 1) := by decide +kernel
theorem xd_170_8 : decode method_13_code 8 = .ok (.lastore, 1) := by decide +kernel
theorem xd_170_9 : decode method_13_code 9 = .ok (.goto 12, 3) := by decide +kernel
theorem xd_170_12 : decode method_13_code 12 = .ok (.astore_n 3, 1) := by decide +kernel
theorem xd_170_13 : decode method_13_code 13 = .ok (.iconst 1, 1) := by decide +kernel
theorem xd_170_14 : decode method_13_code 14 = .ok (.ireturn, 1) := by decide +kernel
theorem xd_170_15 : decode method_13_code 15 = .ok (.astore_n 3, 1) := by decide +kernel
theorem xd_170_16 : decode method_13_code 16 = .ok (.iconst 2, 1) := by decide +kernel
theorem xd_170_17 : decode method_13_code 17 = .ok (.ireturn, 1) := by decide +kernel
theorem xd_170_18 : decode method_13_code 18 = .ok (.astore_n 3, 1) := by decide +kernel
theorem xd_170_19 : decode method_13_code 19 = .ok (.iconst 3, 1) := by decide +kernel
theorem xd_170_20 : decode method_13_code 20 = .ok (.ireturn, 1) := by decide +kernel
theorem xd_170_21 : decode method_13_code 21 = .ok (.iconst 0, 1) := by decide +kernel
theorem xd_170_22 : decode method_13_code 22 = .ok (.ireturn, 1) := by decide +kernel
theorem xk_170_0 : xk_OkA xp_F (xp_P sc) xp_cl xp_BW xp_NW xp_SW xp_exn 170 0 (.aload 2) := Or.inr ⟨2, rfl, xd_170_0, rfl⟩
theorem xk_170_1 : xk_OkA xp_F (xp_P sc) xp_cl xp_BW xp_NW xp_SW xp_exn 170 1 (.iconst 0) := Or.inl ⟨xd_170_1, rfl⟩
theorem xk_170_2 : xk_OkA xp_F (xp_P sc) xp_cl xp_BW xp_NW xp_SW xp_exn 170 2 (.aload 0) := Or.inr ⟨0, rfl, xd_170_2, rfl⟩
theorem xk_170_3 : xk_OkA xp_F (xp_P sc) xp_cl xp_BW xp_NW xp_SW xp_exn 170 3 (.iload 1) := Or.inr ⟨1, rfl, xd_170_3, rfl⟩
theorem xk_170_4 : xk_OkA xp_F (xp_P sc) xp_cl xp_BW xp_NW xp_SW xp_exn 170 4 (.invokeinterface 50 2) := ⟨rfl, Or.inl ⟨xwt_626, rfl⟩, rfl, rfl, xwt_1, by decide +kernel, by decide +kernel, Nat.le_of_ble_eq_true rfl, _, Or.inl xwt_623, Or.inr ⟨xd_170_4, xwt_624, xwt_625, ⟨_, _, _, rfl, rfl⟩, by decide +kernel⟩⟩
theorem xk_170_5 : xk_OkA xp_F (xp_P sc) xp_cl xp_BW xp_NW xp_SW xp_exn 170 5 (.i2l) := ⟨xd_170_7, rfl⟩
theorem xk_170_6 : xk_OkA xp_F (xp_P sc) xp_cl xp_BW xp_NW xp_SW xp_exn 170 6 (.lastore) := ⟨xd_170_8, rfl⟩
theorem xk_170_7 : xk_OkA xp_F (xp_P sc) xp_cl xp_BW xp_NW xp_SW xp_exn 170 7 (.goto 17) := ⟨_, xd_170_9, by unfold xf_to; decide +kernel⟩
theorem xk_170_8 : xk_OkA xp_F (xp_P sc) xp_cl xp_BW xp_NW xp_SW xp_exn 170 8 (.astore 3) := Or.inr ⟨3, rfl, xd_170_12, rfl⟩
theorem xk_170_9 : xk_OkA xp_F (xp_P sc) xp_cl xp_BW xp_NW xp_SW xp_exn 170 9 (.iconst 1) := Or.inl ⟨xd_170_13, rfl⟩
theorem xk_170_10 : xk_OkA xp_F (xp_P sc) xp_cl xp_BW xp_NW xp_SW xp_exn 170 10 (.ireturn) := ⟨xd_170_14, rfl⟩
theorem xk_170_11 : xk_OkA xp_F (xp_P sc) xp_cl xp_BW xp_NW xp_SW xp_exn 170 11 (.astore 3) := Or.inr ⟨3, rfl, xd_170_15, rfl⟩
theorem xk_170_12 : xk_OkA xp_F (xp_P sc) xp_cl xp_BW xp_NW xp_SW xp_exn 170 12 (.iconst 2) := Or.inl ⟨xd_170_16, rfl⟩
theorem xk_170_13 : xk_OkA xp_F (xp_P sc) xp_cl xp_BW xp_NW xp_SW xp_exn 170 13 (.ireturn) := ⟨xd_170_17, rfl⟩
theorem xk_170_14 : xk_OkA xp_F (xp_P sc) xp_cl xp_BW xp_NW xp_SW xp_exn 170 14 (.astore 3) := Or.inr ⟨3, rfl, xd_170_18, rfl⟩
theorem xk_170_15 : xk_OkA xp_F (xp_P sc) xp_cl xp_BW xp_NW xp_SW xp_exn 170 15 (.iconst 3) := Or.inl ⟨xd_170_19, rfl⟩
theorem xk_170_16 : xk_OkA xp_F (xp_P sc) xp_cl xp_BW xp_NW xp_SW xp_exn 170 16 (.ireturn) := ⟨xd_170_20, rfl⟩
theorem xk_170_17 : xk_OkA xp_F (xp_P sc) xp_cl xp_BW xp_NW xp_SW xp_exn 170 17 (.iconst 0) := Or.inl ⟨xd_170_21, rfl⟩
theorem xk_170_18 : xk_OkA xp_F (xp_P sc) xp_cl xp_BW xp_NW xp_SW xp_exn 170 18 (.ireturn) := ⟨xd_170_22, rfl⟩
theorem xl_170 : xk_OkL xp_F (xp_P sc) xp_cl xp_BW xp_NW xp_SW xp_exn 170 0 xc_170 := ⟨xk_170_0, xk_170_1, xk_170_2, xk_170_3, xk_170_4, xk_170_5, xk_170_6, xk_170_7, xk_170_8, xk_170_9, xk_170_10, xk_170_11, xk_170_12, xk_170_13, xk_170_14, xk_170_15, xk_170_16, xk_170_17, xk_170_18, trivial⟩
theorem xd_171_0 : decode method_14_code 0 = .ok (.aload_n 1, 1) := by decide +kernel
theorem xd_171_1 : decode method_14_code 1 = .ok (.iconst 0, 1) := by decide +kernel
theorem xd_171_2 : decode method_14_code 2 = .ok (.aload_n 0, 1) := by decide +kernel
theorem xd_171_3 : decode method_14_code 3 = .ok (.invokevirtual 57, 3) := by decide +kernel
theorem xd_171_6 : decode method_14_code 6 = .ok (.i2l, 1) := by decide +kernel
theorem xd_171_7 : decode method_14_code 7 = .ok (.lastore, 1) := by decide +kernel
theorem xd_171_8 : decode method_14_code 8 = .ok (.goto 9, 3) := by decide +kernel
theorem xd_171_11 : decode method_14_code 11 = .ok (.astore_n 2, 1) := by decide +kernel
theorem xd_171_12 : decode method_14_code 12 = .ok (.iconst 1, 1) := by decide +kernel
theorem xd_171_13 : decode method_14_code 13 = .ok (.ireturn, 1) := by decide +kernel
theorem xd_171_14 : decode method_14_code 14 = .ok (.astore_n 2, 1) := by decide +kernel
theorem xd_171_15 : decode method_14_code 15 = .ok (.iconst 2, 1) := by decide +kernel
theorem xd_171_16 : decode method_14_code 16 = .ok (.ireturn, 1) := by decide +kernel
theorem xd_171_17 : decode method_14_code 17 = .ok (.iconst 0, 1) := by decide +kernel
theorem xd_171_18 : decode method_14_code 18 = .ok (.ireturn, 1) := by decide +kernel
theorem xk_171_0 : xk_OkA xp_F (xp_P sc) xp_cl xp_BW xp_NW xp_SW xp_exn 171 0 (.aload 1) := Or.inr ⟨1, rfl, xd_171_0, rfl⟩
theorem xk_171_1 : xk_OkA xp_F (xp_P sc) xp_cl xp_BW xp_NW xp_SW xp_exn 171 1 (.iconst 0) := Or.inl ⟨xd_171_1, rfl⟩
theorem xk_171_2 : xk_OkA xp_F (xp_P sc) xp_cl xp_BW xp_NW xp_SW xp_exn 171 2 (.aload 0) := Or.inr ⟨0, rfl, xd_171_2, rfl⟩
theorem xk_171_3 : xk_OkA xp_F (xp_P sc) xp_cl xp_BW xp_NW xp_SW xp_exn 171 3 (.invokeinterface 51 1) := ⟨rfl, Or.inl ⟨xwt_638, rfl⟩, rfl, rfl, xwt_1, by decide +kernel, by decide +kernel, Nat.le_of_ble_eq_true rfl, _, Or.inl xwt_635, Or.inr ⟨xd_171_3, xwt_636, xwt_637, ⟨_, _, _, rfl, rfl⟩, by decide +kernel⟩⟩
theorem xk_171_4 : xk_OkA xp_F (xp_P sc) xp_cl xp_BW xp_NW xp_SW xp_exn 171 4 (.i2l) := ⟨xd_171_6, rfl⟩
theorem xk_171_5 : xk_OkA xp_F (xp_P sc) xp_cl xp_BW xp_NW xp_SW xp_exn 171 5 (.lastore) := ⟨xd_171_7, rfl⟩
theorem xk_171_6 : xk_OkA xp_F (xp_P sc) xp_cl xp_BW xp_NW xp_SW xp_exn 171 6 (.goto 13) := ⟨_, xd_171_8, by unfold xf_to; decide +kernel⟩
theorem xk_171_7 : xk_OkA xp_F (xp_P sc) xp_cl xp_BW xp_NW xp_SW xp_exn 171 7 (.astore 2) := Or.inr ⟨2, rfl, xd_171_11, rfl⟩
theorem xk_171_8 : xk_OkA xp_F (xp_P sc) xp_cl xp_BW xp_NW xp_SW xp_exn 171 8 (.iconst 1) := Or.inl ⟨xd_171_12, rfl⟩
theorem xk_171_9 : xk_OkA xp_F (xp_P sc) xp_cl xp_BW xp_NW xp_SW xp_exn 171 9 (.ireturn) := ⟨xd_171_13, rfl⟩
theorem xk_171_10 : xk_OkA xp_F (xp_P sc) xp_cl xp_BW xp_NW xp_SW xp_exn 171 10 (.astore 2) := Or.inr ⟨2, rfl, xd_171_14, rfl⟩
theorem xk_171_11 : xk_OkA xp_F (xp_P sc) xp_cl xp_BW xp_NW xp_SW xp_exn 171 11 (.iconst 2) := Or.inl ⟨xd_171_15, rfl⟩
theorem xk_171_12 : xk_OkA xp_F (xp_P sc) xp_cl xp_BW xp_NW xp_SW xp_exn 171 12 (.ireturn) := ⟨xd_171_16, rfl⟩
theorem xk_171_13 : xk_OkA xp_F (xp_P sc) xp_cl xp_BW xp_NW xp_SW xp_exn 171 13 (.iconst 0) := Or.inl ⟨xd_171_17, rfl⟩
theorem xk_171_14 : xk_OkA xp_F (xp_P sc) xp_cl xp_BW xp_NW xp_SW xp_exn 171 14 (.ireturn) := ⟨xd_171_18, rfl⟩
theorem xl_171 : xk_OkL xp_F (xp_P sc) xp_cl xp_BW xp_NW xp_SW xp_exn 171 0 xc_171 := ⟨xk_171_0, xk_171_1, xk_171_2, xk_171_3, xk_171_4, xk_171_5, xk_171_6, xk_171_7, xk_171_8, xk_171_9, xk_171_10, xk_171_11, xk_171_12, xk_171_13, xk_171_14, trivial⟩
end XkOk7
