/-! The instructions of the methods, one by one: written by wip/whole/gen_tables.py. -/
section XkOk5
variable {sc : Nat × (Nat → Int32)}
theorem xd_130_0 : decode prog_6_method_25_code 0 = .ok (.aload_n 0, 1) := by decide +kernel
theorem xd_130_1 : decode prog_6_method_25_code 1 = .ok (.getfield 31, 3) := by decide +kernel
theorem xd_130_4 : decode prog_6_method_25_code 4 = .ok (.iload_n 1, 1) := by decide +kernel
theorem xd_130_5 : decode prog_6_method_25_code 5 = .ok (.invokestatic 86, 3) := by decide +kernel
theorem xd_130_8 : decode prog_6_method_25_code 8 = .ok (.istore_n 3, 1) := by decide +kernel
theorem xd_130_9 : decode prog_6_method_25_code 9 = .ok (.iconst 2, 1) := by decide +kernel
theorem xd_130_10 : decode prog_6_method_25_code 10 = .ok (.iload_n 2, 1) := by decide +kernel
theorem xd_130_11 : decode prog_6_method_25_code 11 = .ok (.imul, 1) := by decide +kernel
theorem xd_130_12 : decode prog_6_method_25_code 12 = .ok (.istore 4, 2) := by decide +kernel
theorem xd_130_14 : decode prog_6_method_25_code 14 = .ok (.iload 4, 2) := by decide +kernel
theorem xd_130_16 : decode prog_6_method_25_code 16 = .ok (.iconst 2, 1) := by decide +kernel
theorem xd_130_17 : decode prog_6_method_25_code 17 = .ok (.iload_n 3, 1) := by decide +kernel
theorem xd_130_18 : decode prog_6_method_25_code 18 = .ok (.imul, 1) := by decide +kernel
theorem xd_130_19 : decode prog_6_method_25_code 19 = .ok (.if_icmp .ge 75, 3) := by decide +kernel
theorem xd_130_22 : decode prog_6_method_25_code 22 = .ok (.iload 4, 2) := by decide +kernel
theorem xd_130_24 : decode prog_6_method_25_code 24 = .ok (.iconst 2, 1) := by decide +kernel
theorem xd_130_25 : decode prog_6_method_25_code 25 = .ok (.irem, 1) := by decide +kernel
theorem xd_130_26 : decode prog_6_method_25_code 26 = .ok (.ifCond .eq 15, 3) := by decide +kernel
theorem xd_130_29 : decode prog_6_method_25_code 29 = .ok (.aload_n 0, 1) := by decide +kernel
theorem xd_130_30 : decode prog_6_method_25_code 30 = .ok (.getfield 31, 3) := by decide +kernel
theorem xd_130_33 : decode prog_6_method_25_code 33 = .ok (.iload_n 1, 1) := by decide +kernel
theorem xd_130_34 : decode prog_6_method_25_code 34 = .ok (.invokestatic 75, 3) := by decide +kernel
theorem xd_130_37 : decode prog_6_method_25_code 37 = .ok (.iconst 2, 1) := by decide +kernel
theorem xd_130_38 : decode prog_6_method_25_code 38 = .ok (.if_icmp .ne 50, 3) := by decide +kernel
theorem xd_130_41 : decode prog_6_method_25_code 41 = .ok (.aload_n 0, 1) := by decide +kernel
theorem xd_130_42 : decode prog_6_method_25_code 42 = .ok (.getfield 31, 3) := by decide +kernel
theorem xd_130_45 : decode prog_6_method_25_code 45 = .ok (.bipush 9, 2) := by decide +kernel
theorem xd_130_47 : decode prog_6_method_25_code 47 = .ok (.bipush 10, 2) := by decide +kernel
theorem xd_130_49 : decode prog_6_method_25_code 49 = .ok (.iload_n 1, 1) := by decide +kernel
theorem xd_130_50 : decode prog_6_method_25_code 50 = .ok (.imul, 1) := by decide +kernel
theorem xd_130_51 : decode prog_6_method_25_code 51 = .ok (.iadd, 1) := by decide +kernel
theorem xd_130_52 : decode prog_6_method_25_code 52 = .ok (.iload 4, 2) := by decide +kernel
theorem xd_130_54 : decode prog_6_method_25_code 54 = .ok (.iadd, 1) := by decide +kernel
theorem xd_130_55 : decode prog_6_method_25_code 55 = .ok (.aload_n 0, 1) := by decide +kernel
theorem xd_130_56 : decode prog_6_method_25_code 56 = .ok (.aload_n 0, 1) := by decide +kernel
theorem xd_130_57 : decode prog_6_method_25_code 57 = .ok (.getfield 31, 3) := by decide +kernel
theorem xd_130_60 : decode prog_6_method_25_code 60 = .ok (.iload_n 1, 1) := by decide +kernel
theorem xd_130_61 : decode prog_6_method_25_code 61 = .ok (.iload 4, 2) := by decide +kernel
theorem xd_130_63 : decode prog_6_method_25_code 63 = .ok (.iconst (-1), 1) := by decide +kernel
theorem xd_130_64 : decode prog_6_method_25_code 64 = .ok (.invokevirtual 95, 3) := by decide +kernel
theorem xd_130_67 : decode prog_6_method_25_code 67 = .ok (.iastore, 1) := by decide +kernel
theorem xd_130_68 : decode prog_6_method_25_code 68 = .ok (.aload_n 0, 1) := by decide +kernel
theorem xd_130_69 : decode prog_6_method_25_code 69 = .ok (.getfield 31, 3) := by decide +kernel
theorem xd_130_72 : decode prog_6_method_25_code 72 = .ok (.bipush 9, 2) := by decide +kernel
theorem xd_130_74 : decode prog_6_method_25_code 74 = .ok (.bipush 10, 2) := by decide +kernel
theorem xd_130_76 : decode prog_6_method_25_code 76 = .ok (.iload_n 1, 1) := by decide +kernel
theorem xd_130_77 : decode prog_6_method_25_code 77 = .ok (.imul, 1) := by decide +kernel
theorem xd_130_78 : decode prog_6_method_25_code 78 = .ok (.iadd, 1) := by decide +kernel
theorem xd_130_79 : decode prog_6_method_25_code 79 = .ok (.iload 4, 2) := by decide +kernel
theorem xd_130_81 : decode prog_6_method_25_code 81 = .ok (.iadd, 1) := by decide +kernel
theorem xd_130_82 : decode prog_6_method_25_code 82 = .ok (.iaload, 1) := by decide +kernel
theorem xd_130_83 : decode prog_6_method_25_code 83 = .ok (.ifCond .ne 5, 3) := by decide +kernel
theorem xd_130_86 : decode prog_6_method_25_code 86 = .ok (.iconst 0, 1) := by decide +kernel
theorem xd_130_87 : decode prog_6_method_25_code 87 = .ok (.ireturn, 1) := by decide +kernel
theorem xd_130_88 : decode prog_6_method_25_code 88 = .ok (.iinc 4 (1), 3) := by decide +kernel
theorem xd_130_91 : decode prog_6_method_25_code 91 = .ok (.goto (-77), 3) := by decide +kernel
theorem xd_130_94 : decode prog_6_method_25_code 94 = .ok (.iconst 1, 1) := by decide +kernel
theorem xd_130_95 : decode prog_6_method_25_code 95 = .ok (.ireturn, 1) := by decide +kernel
theorem xk_130_0 : xk_OkA xp_F (xp_P sc) xp_cl xp_BW xp_NW xp_SW xp_exn 130 0 (.aload 0) := Or.inr ⟨0, rfl, xd_130_0, rfl⟩
theorem xk_130_1 : xk_OkA xp_F (xp_P sc) xp_cl xp_BW xp_NW xp_SW xp_exn 130 1 (.getfield 135) := ⟨_, xd_130_1, rfl, ⟨_, _, _, rfl, by decide, xu_4, Or.inl xwt_761⟩⟩
theorem xk_130_2 : xk_OkA xp_F (xp_P sc) xp_cl xp_BW xp_NW xp_SW xp_exn 130 2 (.iload 1) := Or.inr ⟨1, rfl, xd_130_4, rfl⟩
theorem xk_130_3 : xk_OkA xp_F (xp_P sc) xp_cl xp_BW xp_NW xp_SW xp_exn 130 3 (.invokeinterface 114 2) := ⟨rfl, Or.inl ⟨xwt_866, rfl⟩, rfl, rfl, xwt_5, by decide +kernel, by decide +kernel, Nat.le_of_ble_eq_true rfl, _, Or.inl xwt_864, Or.inl ⟨xd_130_5, xwt_865, rfl, by decide +kernel⟩⟩
theorem xk_130_4 : xk_OkA xp_F (xp_P sc) xp_cl xp_BW xp_NW xp_SW xp_exn 130 4 (.istore 3) := Or.inr ⟨3, rfl, xd_130_8, rfl⟩
theorem xk_130_5 : xk_OkA xp_F (xp_P sc) xp_cl xp_BW xp_NW xp_SW xp_exn 130 5 (.iconst 2) := Or.inl ⟨xd_130_9, rfl⟩
theorem xk_130_6 : xk_OkA xp_F (xp_P sc) xp_cl xp_BW xp_NW xp_SW xp_exn 130 6 (.iload 2) := Or.inr ⟨2, rfl, xd_130_10, rfl⟩
theorem xk_130_7 : xk_OkA xp_F (xp_P sc) xp_cl xp_BW xp_NW xp_SW xp_exn 130 7 (.imul) := ⟨xd_130_11, rfl⟩
theorem xk_130_8 : xk_OkA xp_F (xp_P sc) xp_cl xp_BW xp_NW xp_SW xp_exn 130 8 (.istore 4) := Or.inl ⟨xd_130_12, rfl⟩
theorem xk_130_9 : xk_OkA xp_F (xp_P sc) xp_cl xp_BW xp_NW xp_SW xp_exn 130 9 (.iload 4) := Or.inl ⟨xd_130_14, rfl⟩
theorem xk_130_10 : xk_OkA xp_F (xp_P sc) xp_cl xp_BW xp_NW xp_SW xp_exn 130 10 (.iconst 2) := Or.inl ⟨xd_130_16, rfl⟩
theorem xk_130_11 : xk_OkA xp_F (xp_P sc) xp_cl xp_BW xp_NW xp_SW xp_exn 130 11 (.iload 3) := Or.inr ⟨3, rfl, xd_130_17, rfl⟩
theorem xk_130_12 : xk_OkA xp_F (xp_P sc) xp_cl xp_BW xp_NW xp_SW xp_exn 130 12 (.imul) := ⟨xd_130_18, rfl⟩
theorem xk_130_13 : xk_OkA xp_F (xp_P sc) xp_cl xp_BW xp_NW xp_SW xp_exn 130 13 (.if_icmp .ge 56) := ⟨_, xd_130_19, by unfold xf_to; decide +kernel, rfl⟩
theorem xk_130_14 : xk_OkA xp_F (xp_P sc) xp_cl xp_BW xp_NW xp_SW xp_exn 130 14 (.iload 4) := Or.inl ⟨xd_130_22, rfl⟩
theorem xk_130_15 : xk_OkA xp_F (xp_P sc) xp_cl xp_BW xp_NW xp_SW xp_exn 130 15 (.iconst 2) := Or.inl ⟨xd_130_24, rfl⟩
theorem xk_130_16 : xk_OkA xp_F (xp_P sc) xp_cl xp_BW xp_NW xp_SW xp_exn 130 16 (.irem) := ⟨xd_130_25, rfl⟩
theorem xk_130_17 : xk_OkA xp_F (xp_P sc) xp_cl xp_BW xp_NW xp_SW xp_exn 130 17 (.ifCond .eq 24) := ⟨_, xd_130_26, by unfold xf_to; decide +kernel, rfl⟩
theorem xk_130_18 : xk_OkA xp_F (xp_P sc) xp_cl xp_BW xp_NW xp_SW xp_exn 130 18 (.aload 0) := Or.inr ⟨0, rfl, xd_130_29, rfl⟩
theorem xk_130_19 : xk_OkA xp_F (xp_P sc) xp_cl xp_BW xp_NW xp_SW xp_exn 130 19 (.getfield 135) := ⟨_, xd_130_30, rfl, ⟨_, _, _, rfl, by decide, xu_4, Or.inl xwt_761⟩⟩
theorem xk_130_20 : xk_OkA xp_F (xp_P sc) xp_cl xp_BW xp_NW xp_SW xp_exn 130 20 (.iload 1) := Or.inr ⟨1, rfl, xd_130_33, rfl⟩
theorem xk_130_21 : xk_OkA xp_F (xp_P sc) xp_cl xp_BW xp_NW xp_SW xp_exn 130 21 (.invokeinterface 112 2) := ⟨rfl, Or.inl ⟨xwt_869, rfl⟩, rfl, rfl, xwt_5, by decide +kernel, by decide +kernel, Nat.le_of_ble_eq_true rfl, _, Or.inl xwt_867, Or.inl ⟨xd_130_34, xwt_868, rfl, by decide +kernel⟩⟩
theorem xk_130_22 : xk_OkA xp_F (xp_P sc) xp_cl xp_BW xp_NW xp_SW xp_exn 130 22 (.iconst 2) := Or.inl ⟨xd_130_37, rfl⟩
theorem xk_130_23 : xk_OkA xp_F (xp_P sc) xp_cl xp_BW xp_NW xp_SW xp_exn 130 23 (.if_icmp .ne 54) := ⟨_, xd_130_38, by unfold xf_to; decide +kernel, rfl⟩
theorem xk_130_24 : xk_OkA xp_F (xp_P sc) xp_cl xp_BW xp_NW xp_SW xp_exn 130 24 (.aload 0) := Or.inr ⟨0, rfl, xd_130_41, rfl⟩
theorem xk_130_25 : xk_OkA xp_F (xp_P sc) xp_cl xp_BW xp_NW xp_SW xp_exn 130 25 (.getfield 135) := ⟨_, xd_130_42, rfl, ⟨_, _, _, rfl, by decide, xu_4, Or.inl xwt_761⟩⟩
theorem xk_130_26 : xk_OkA xp_F (xp_P sc) xp_cl xp_BW xp_NW xp_SW xp_exn 130 26 (.iconst 9) := Or.inr (Or.inl ⟨xd_130_45, by decide +kernel, rfl⟩)
theorem xk_130_27 : xk_OkA xp_F (xp_P sc) xp_cl xp_BW xp_NW xp_SW xp_exn 130 27 (.iconst 10) := Or.inr (Or.inl ⟨xd_130_47, by decide +kernel, rfl⟩)
theorem xk_130_28 : xk_OkA xp_F (xp_P sc) xp_cl xp_BW xp_NW xp_SW xp_exn 130 28 (.iload 1) := Or.inr ⟨1, rfl, xd_130_49, rfl⟩
theorem xk_130_29 : xk_OkA xp_F (xp_P sc) xp_cl xp_BW xp_NW xp_SW xp_exn 130 29 (.imul) := ⟨xd_130_50, rfl⟩
theorem xk_130_30 : xk_OkA xp_F (xp_P sc) xp_cl xp_BW xp_NW xp_SW xp_exn 130 30 (.iadd) := ⟨xd_130_51, rfl⟩
theorem xk_130_31 : xk_OkA xp_F (xp_P sc) xp_cl xp_BW xp_NW xp_SW xp_exn 130 31 (.iload 4) := Or.inl ⟨xd_130_52, rfl⟩
theorem xk_130_32 : xk_OkA xp_F (xp_P sc) xp_cl xp_BW xp_NW xp_SW xp_exn 130 32 (.iadd) := ⟨xd_130_54, rfl⟩
theorem xk_130_33 : xk_OkA xp_F (xp_P sc) xp_cl xp_BW xp_NW xp_SW xp_exn 130 33 (.aload 0) := Or.inr ⟨0, rfl, xd_130_55, rfl⟩
theorem xk_130_34 : xk_OkA xp_F (xp_P sc) xp_cl xp_BW xp_NW xp_SW xp_exn 130 34 (.aload 0) := Or.inr ⟨0, rfl, xd_130_56, rfl⟩
theorem xk_130_35 : xk_OkA xp_F (xp_P sc) xp_cl xp_BW xp_NW xp_SW xp_exn 130 35 (.getfield 135) := ⟨_, xd_130_57, rfl, ⟨_, _, _, rfl, by decide, xu_4, Or.inl xwt_761⟩⟩
theorem xk_130_36 : xk_OkA xp_F (xp_P sc) xp_cl xp_BW xp_NW xp_SW xp_exn 130 36 (.iload 1) := Or.inr ⟨1, rfl, xd_130_60, rfl⟩
theorem xk_130_37 : xk_OkA xp_F (xp_P sc) xp_cl xp_BW xp_NW xp_SW xp_exn 130 37 (.iload 4) := Or.inl ⟨xd_130_61, rfl⟩
theorem xk_130_38 : xk_OkA xp_F (xp_P sc) xp_cl xp_BW xp_NW xp_SW xp_exn 130 38 (.iconst (-1)) := Or.inl ⟨xd_130_63, rfl⟩
theorem xk_130_39 : xk_OkA xp_F (xp_P sc) xp_cl xp_BW xp_NW xp_SW xp_exn 130 39 (.invokeinterface 129 5) := ⟨rfl, Or.inl ⟨xwt_873, rfl⟩, rfl, rfl, xwt_5, by decide +kernel, by decide +kernel, Nat.le_of_ble_eq_true rfl, _, Or.inl xwt_870, Or.inr ⟨xd_130_64, xwt_872, xws_88, ⟨_, _, _, rfl, rfl⟩, by decide +kernel⟩⟩
theorem xk_130_40 : xk_OkA xp_F (xp_P sc) xp_cl xp_BW xp_NW xp_SW xp_exn 130 40 (.iastore) := ⟨xd_130_67, rfl⟩
theorem xk_130_41 : xk_OkA xp_F (xp_P sc) xp_cl xp_BW xp_NW xp_SW xp_exn 130 41 (.aload 0) := Or.inr ⟨0, rfl, xd_130_68, rfl⟩
theorem xk_130_42 : xk_OkA xp_F (xp_P sc) xp_cl xp_BW xp_NW xp_SW xp_exn 130 42 (.getfield 135) := ⟨_, xd_130_69, rfl, ⟨_, _, _, rfl, by decide, xu_4, Or.inl xwt_761⟩⟩
theorem xk_130_43 : xk_OkA xp_F (xp_P sc) xp_cl xp_BW xp_NW xp_SW xp_exn 130 43 (.iconst 9) := Or.inr (Or.inl ⟨xd_130_72, by decide +kernel, rfl⟩)
theorem xk_130_44 : xk_OkA xp_F (xp_P sc) xp_cl xp_BW xp_NW xp_SW xp_exn 130 44 (.iconst 10) := Or.inr (Or.inl ⟨xd_130_74, by decide +kernel, rfl⟩)
theorem xk_130_45 : xk_OkA xp_F (xp_P sc) xp_cl xp_BW xp_NW xp_SW xp_exn 130 45 (.iload 1) := Or.inr ⟨1, rfl, xd_130_76, rfl⟩
theorem xk_130_46 : xk_OkA xp_F (xp_P sc) xp_cl xp_BW xp_NW xp_SW xp_exn 130 46 (.imul) := ⟨xd_130_77, rfl⟩
theorem xk_130_47 : xk_OkA xp_F (xp_P sc) xp_cl xp_BW xp_NW xp_SW xp_exn 130 47 (.iadd) := ⟨xd_130_78, rfl⟩
theorem xk_130_48 : xk_OkA xp_F (xp_P sc) xp_cl xp_BW xp_NW xp_SW xp_exn 130 48 (.iload 4) := Or.inl ⟨xd_130_79, rfl⟩
theorem xk_130_49 : xk_OkA xp_F (xp_P sc) xp_cl xp_BW xp_NW xp_SW xp_exn 130 49 (.iadd) := ⟨xd_130_81, rfl⟩
theorem xk_130_50 : xk_OkA xp_F (xp_P sc) xp_cl xp_BW xp_NW xp_SW xp_exn 130 50 (.iaload) := ⟨xd_130_82, rfl⟩
theorem xk_130_51 : xk_OkA xp_F (xp_P sc) xp_cl xp_BW xp_NW xp_SW xp_exn 130 51 (.ifCond .ne 54) := ⟨_, xd_130_83, by unfold xf_to; decide +kernel, rfl⟩
theorem xk_130_52 : xk_OkA xp_F (xp_P sc) xp_cl xp_BW xp_NW xp_SW xp_exn 130 52 (.iconst 0) := Or.inl ⟨xd_130_86, rfl⟩
theorem xk_130_53 : xk_OkA xp_F (xp_P sc) xp_cl xp_BW xp_NW xp_SW xp_exn 130 53 (.freturn) := ⟨xd_130_87, rfl⟩
theorem xk_130_54 : xk_OkA xp_F (xp_P sc) xp_cl xp_BW xp_NW xp_SW xp_exn 130 54 (.iinc 4 (1)) := ⟨xd_130_88, rfl⟩
theorem xk_130_55 : xk_OkA xp_F (xp_P sc) xp_cl xp_BW xp_NW xp_SW xp_exn 130 55 (.goto 9) := ⟨_, xd_130_91, by unfold xf_to; decide +kernel⟩
theorem xk_130_56 : xk_OkA xp_F (xp_P sc) xp_cl xp_BW xp_NW xp_SW xp_exn 130 56 (.iconst 1) := Or.inl ⟨xd_130_94, rfl⟩
theorem xk_130_57 : xk_OkA xp_F (xp_P sc) xp_cl xp_BW xp_NW xp_SW xp_exn 130 57 (.freturn) := ⟨xd_130_95, rfl⟩
theorem xl_130 : xk_OkL xp_F (xp_P sc) xp_cl xp_BW xp_NW xp_SW xp_exn 130 0 xc_130 := ⟨xk_130_0, xk_130_1, xk_130_2, xk_130_3, xk_130_4, xk_130_5, xk_130_6, xk_130_7, xk_130_8, xk_130_9, xk_130_10, xk_130_11, xk_130_12, xk_130_13, xk_130_14, xk_130_15, xk_130_16, xk_130_17, xk_130_18, xk_130_19, xk_130_20, xk_130_21, xk_130_22, xk_130_23, xk_130_24, xk_130_25, xk_130_26, xk_130_27, xk_130_28, xk_130_29, xk_130_30, xk_130_31, xk_130_32, xk_130_33, xk_130_34, xk_130_35, xk_130_36, xk_130_37, xk_130_38, xk_130_39, xk_130_40, xk_130_41, xk_130_42, xk_130_43, xk_130_44, xk_130_45, xk_130_46, xk_130_47, xk_130_48, xk_130_49, xk_130_50, xk_130_51, xk_130_52, xk_130_53, xk_130_54, xk_130_55, xk_130_56, xk_130_57, trivial⟩
theorem xd_131_0 : decode prog_6_method_26_code 0 = .ok (.iconst 2, 1) := by decide +kernel
theorem xd_131_1 : decode prog_6_method_26_code 1 = .ok (.iload_n 2, 1) := by decide +kernel
theorem xd_131_2 : decode prog_6_method_26_code 2 = .ok (.imul, 1) := by decide +kernel
theorem xd_131_3 : decode prog_6_method_26_code 3 = .ok (.istore_n 3, 1) := by decide +kernel
theorem xd_131_4 : decode prog_6_method_26_code 4 = .ok (.iload_n 3, 1) := by decide +kernel
theorem xd_131_5 : decode prog_6_method_26_code 5 = .ok (.iconst 2, 1) := by decide +kernel
theorem xd_131_6 : decode prog_6_method_26_code 6 = .ok (.aload_n 0, 1) := by decide +kernel
theorem xd_131_7 : decode prog_6_method_26_code 7 = .ok (.getfield 31, 3) := by decide +kernel
theorem xd_131_10 : decode prog_6_method_26_code 10 = .ok (.iload_n 1, 1) := by decide +kernel
theorem xd_131_11 : decode prog_6_method_26_code 11 = .ok (.invokestatic 86, 3) := by decide +kernel
theorem xd_131_14 : decode prog_6_method_26_code 14 = .ok (.imul, 1) := by decide +kernel
theorem xd_131_15 : decode prog_6_method_26_code 15 = .ok (.if_icmp .ge 62, 3) := by decide +kernel
theorem xd_131_18 : decode prog_6_method_26_code 18 = .ok (.iconst 0, 1) := by decide +kernel
theorem xd_131_19 : decode prog_6_method_26_code 19 = .ok (.istore 4, 2) := by decide +kernel
theorem xd_131_21 : decode prog_6_method_26_code 21 = .ok (.iload 4, 2) := by decide +kernel
theorem xd_131_23 : decode prog_6_method_26_code 23 = .ok (.iconst 4, 1) := by decide +kernel
theorem xd_131_24 : decode prog_6_method_26_code 24 = .ok (.if_icmp .ge 47, 3) := by decide +kernel
theorem xd_131_27 : decode prog_6_method_26_code 27 = .ok (.aload_n 0, 1) := by decide +kernel
theorem xd_131_28 : decode prog_6_method_26_code 28 = .ok (.getfield 31, 3) := by decide +kernel
theorem xd_131_31 : decode prog_6_method_26_code 31 = .ok (.bipush 9, 2) := by decide +kernel
theorem xd_131_33 : decode prog_6_method_26_code 33 = .ok (.bipush 10, 2) := by decide +kernel
theorem xd_131_35 : decode prog_6_method_26_code 35 = .ok (.iload_n 1, 1) := by decide +kernel
theorem xd_131_36 : decode prog_6_method_26_code 36 = .ok (.imul, 1) := by decide +kernel
theorem xd_131_37 : decode prog_6_method_26_code 37 = .ok (.iadd, 1) := by decide +kernel
theorem xd_131_38 : decode prog_6_method_26_code 38 = .ok (.iload_n 3, 1) := by decide +kernel
theorem xd_131_39 : decode prog_6_method_26_code 39 = .ok (.iadd, 1) := by decide +kernel
theorem xd_131_40 : decode prog_6_method_26_code 40 = .ok (.iaload, 1) := by decide +kernel
theorem xd_131_41 : decode prog_6_method_26_code 41 = .ok (.ifCond .le 30, 3) := by decide +kernel
theorem xd_131_44 : decode prog_6_method_26_code 44 = .ok (.aload_n 0, 1) := by decide +kernel
theorem xd_131_45 : decode prog_6_method_26_code 45 = .ok (.aload_n 0, 1) := by decide +kernel
theorem xd_131_46 : decode prog_6_method_26_code 46 = .ok (.getfield 31, 3) := by decide +kernel
theorem xd_131_49 : decode prog_6_method_26_code 49 = .ok (.bipush 9, 2) := by decide +kernel
theorem xd_131_51 : decode prog_6_method_26_code 51 = .ok (.bipush 10, 2) := by decide +kernel
theorem xd_131_53 : decode prog_6_method_26_code 53 = .ok (.iload_n 1, 1) := by decide +kernel
theorem xd_131_54 : decode prog_6_method_26_code 54 = .ok (.imul, 1) := by decide +kernel
theorem xd_131_55 : decode prog_6_method_26_code 55 = .ok (.iadd, 1) := by decide +kernel
theorem xd_131_56 : decode prog_6_method_26_code 56 = .ok (.iload_n 3, 1) := by decide +kernel
theorem xd_131_57 : decode prog_6_method_26_code 57 = .ok (.iadd, 1) := by decide +kernel
theorem xd_131_58 : decode prog_6_method_26_code 58 = .ok (.iaload, 1) := by decide +kernel
theorem xd_131_59 : decode prog_6_method_26_code 59 = .ok (.iload 4, 2) := by decide +kernel
theorem xd_131_61 : decode prog_6_method_26_code 61 = .ok (.iconst 0, 1) := by decide +kernel
theorem xd_131_62 : decode prog_6_method_26_code 62 = .ok (.invokevirtual 99, 3) := by decide +kernel
theorem xd_131_65 : decode prog_6_method_26_code 65 = .ok (.iinc 4 (1), 3) := by decide +kernel
theorem xd_131_68 : decode prog_6_method_26_code 68 = .ok (.goto (-47), 3) := by decide +kernel
theorem xd_131_71 : decode prog_6_method_26_code 71 = .ok (.iinc 3 (1), 3) := by decide +kernel
theorem xd_131_74 : decode prog_6_method_26_code 74 = .ok (.goto (-70), 3) := by decide +kernel
theorem xd_131_77 : decode prog_6_method_26_code 77 = .ok (.return_, 1) := by decide +kernel
theorem xk_131_0 : xk_OkA xp_F (xp_P sc) xp_cl xp_BW xp_NW xp_SW xp_exn 131 0 (.iconst 2) := Or.inl ⟨xd_131_0, rfl⟩
theorem xk_131_1 : xk_OkA xp_F (xp_P sc) xp_cl xp_BW xp_NW xp_SW xp_exn 131 1 (.iload 2) := Or.inr ⟨2, rfl, xd_131_1, rfl⟩
theorem xk_131_2 : xk_OkA xp_F (xp_P sc) xp_cl xp_BW xp_NW xp_SW xp_exn 131 2 (.imul) := ⟨xd_131_2, rfl⟩
theorem xk_131_3 : xk_OkA xp_F (xp_P sc) xp_cl xp_BW xp_NW xp_SW xp_exn 131 3 (.istore 3) := Or.inr ⟨3, rfl, xd_131_3, rfl⟩
theorem xk_131_4 : xk_OkA xp_F (xp_P sc) xp_cl xp_BW xp_NW xp_SW xp_exn 131 4 (.iload 3) := Or.inr ⟨3, rfl, xd_131_4, rfl⟩
theorem xk_131_5 : xk_OkA xp_F (xp_P sc) xp_cl xp_BW xp_NW xp_SW xp_exn 131 5 (.iconst 2) := Or.inl ⟨xd_131_5, rfl⟩
theorem xk_131_6 : xk_OkA xp_F (xp_P sc) xp_cl xp_BW xp_NW xp_SW xp_exn 131 6 (.aload 0) := Or.inr ⟨0, rfl, xd_131_6, rfl⟩
theorem xk_131_7 : xk_OkA xp_F (xp_P sc) xp_cl xp_BW xp_NW xp_SW xp_exn 131 7 (.getfield 135) := ⟨_, xd_131_7, rfl, ⟨_, _, _, rfl, by decide, xu_4, Or.inl xwt_761⟩⟩
theorem xk_131_8 : xk_OkA xp_F (xp_P sc) xp_cl xp_BW xp_NW xp_SW xp_exn 131 8 (.iload 1) := Or.inr ⟨1, rfl, xd_131_10, rfl⟩
theorem xk_131_9 : xk_OkA xp_F (xp_P sc) xp_cl xp_BW xp_NW xp_SW xp_exn 131 9 (.invokeinterface 114 2) := ⟨rfl, Or.inl ⟨xwt_866, rfl⟩, rfl, rfl, xwt_5, by decide +kernel, by decide +kernel, Nat.le_of_ble_eq_true rfl, _, Or.inl xwt_864, Or.inl ⟨xd_131_11, xwt_865, rfl, by decide +kernel⟩⟩
theorem xk_131_10 : xk_OkA xp_F (xp_P sc) xp_cl xp_BW xp_NW xp_SW xp_exn 131 10 (.imul) := ⟨xd_131_14, rfl⟩
theorem xk_131_11 : xk_OkA xp_F (xp_P sc) xp_cl xp_BW xp_NW xp_SW xp_exn 131 11 (.if_icmp .ge 46) := ⟨_, xd_131_15, by unfold xf_to; decide +kernel, rfl⟩
theorem xk_131_12 : xk_OkA xp_F (xp_P sc) xp_cl xp_BW xp_NW xp_SW xp_exn 131 12 (.iconst 0) := Or.inl ⟨xd_131_18, rfl⟩
theorem xk_131_13 : xk_OkA xp_F (xp_P sc) xp_cl xp_BW xp_NW xp_SW xp_exn 131 13 (.istore 4) := Or.inl ⟨xd_131_19, rfl⟩
theorem xk_131_14 : xk_OkA xp_F (xp_P sc) xp_cl xp_BW xp_NW xp_SW xp_exn 131 14 (.iload 4) := Or.inl ⟨xd_131_21, rfl⟩
theorem xk_131_15 : xk_OkA xp_F (xp_P sc) xp_cl xp_BW xp_NW xp_SW xp_exn 131 15 (.iconst 4) := Or.inl ⟨xd_131_23, rfl⟩
theorem xk_131_16 : xk_OkA xp_F (xp_P sc) xp_cl xp_BW xp_NW xp_SW xp_exn 131 16 (.if_icmp .ge 44) := ⟨_, xd_131_24, by unfold xf_to; decide +kernel, rfl⟩
theorem xk_131_17 : xk_OkA xp_F (xp_P sc) xp_cl xp_BW xp_NW xp_SW xp_exn 131 17 (.aload 0) := Or.inr ⟨0, rfl, xd_131_27, rfl⟩
theorem xk_131_18 : xk_OkA xp_F (xp_P sc) xp_cl xp_BW xp_NW xp_SW xp_exn 131 18 (.getfield 135) := ⟨_, xd_131_28, rfl, ⟨_, _, _, rfl, by decide, xu_4, Or.inl xwt_761⟩⟩
theorem xk_131_19 : xk_OkA xp_F (xp_P sc) xp_cl xp_BW xp_NW xp_SW xp_exn 131 19 (.iconst 9) := Or.inr (Or.inl ⟨xd_131_31, by decide +kernel, rfl⟩)
theorem xk_131_20 : xk_OkA xp_F (xp_P sc) xp_cl xp_BW xp_NW xp_SW xp_exn 131 20 (.iconst 10) := Or.inr (Or.inl ⟨xd_131_33, by decide +kernel, rfl⟩)
theorem xk_131_21 : xk_OkA xp_F (xp_P sc) xp_cl xp_BW xp_NW xp_SW xp_exn 131 21 (.iload 1) := Or.inr ⟨1, rfl, xd_131_35, rfl⟩
theorem xk_131_22 : xk_OkA xp_F (xp_P sc) xp_cl xp_BW xp_NW xp_SW xp_exn 131 22 (.imul) := ⟨xd_131_36, rfl⟩
theorem xk_131_23 : xk_OkA xp_F (xp_P sc) xp_cl xp_BW xp_NW xp_SW xp_exn 131 23 (.iadd) := ⟨xd_131_37, rfl⟩
theorem xk_131_24 : xk_OkA xp_F (xp_P sc) xp_cl xp_BW xp_NW xp_SW xp_exn 131 24 (.iload 3) := Or.inr ⟨3, rfl, xd_131_38, rfl⟩
theorem xk_131_25 : xk_OkA xp_F (xp_P sc) xp_cl xp_BW xp_NW xp_SW xp_exn 131 25 (.iadd) := ⟨xd_131_39, rfl⟩
theorem xk_131_26 : xk_OkA xp_F (xp_P sc) xp_cl xp_BW xp_NW xp_SW xp_exn 131 26 (.iaload) := ⟨xd_131_40, rfl⟩
theorem xk_131_27 : xk_OkA xp_F (xp_P sc) xp_cl xp_BW xp_NW xp_SW xp_exn 131 27 (.ifCond .le 44) := ⟨_, xd_131_41, by unfold xf_to; decide +kernel, rfl⟩
theorem xk_131_28 : xk_OkA xp_F (xp_P sc) xp_cl xp_BW xp_NW xp_SW xp_exn 131 28 (.aload 0) := Or.inr ⟨0, rfl, xd_131_44, rfl⟩
theorem xk_131_29 : xk_OkA xp_F (xp_P sc) xp_cl xp_BW xp_NW xp_SW xp_exn 131 29 (.aload 0) := Or.inr ⟨0, rfl, xd_131_45, rfl⟩
theorem xk_131_30 : xk_OkA xp_F (xp_P sc) xp_cl xp_BW xp_NW xp_SW xp_exn 131 30 (.getfield 135) := ⟨_, xd_131_46, rfl, ⟨_, _, _, rfl, by decide, xu_4, Or.inl xwt_761⟩⟩
theorem xk_131_31 : xk_OkA xp_F (xp_P sc) xp_cl xp_BW xp_NW xp_SW xp_exn 131 31 (.iconst 9) := Or.inr (Or.inl ⟨xd_131_49, by decide +kernel, rfl⟩)
theorem xk_131_32 : xk_OkA xp_F (xp_P sc) xp_cl xp_BW xp_NW xp_SW xp_exn 131 32 (.iconst 10) := Or.inr (Or.inl ⟨xd_131_51, by decide +kernel, rfl⟩)
theorem xk_131_33 : xk_OkA xp_F (xp_P sc) xp_cl xp_BW xp_NW xp_SW xp_exn 131 33 (.iload 1) := Or.inr ⟨1, rfl, xd_131_53, rfl⟩
theorem xk_131_34 : xk_OkA xp_F (xp_P sc) xp_cl xp_BW xp_NW xp_SW xp_exn 131 34 (.imul) := ⟨xd_131_54, rfl⟩
theorem xk_131_35 : xk_OkA xp_F (xp_P sc) xp_cl xp_BW xp_NW xp_SW xp_exn 131 35 (.iadd) := ⟨xd_131_55, rfl⟩
theorem xk_131_36 : xk_OkA xp_F (xp_P sc) xp_cl xp_BW xp_NW xp_SW xp_exn 131 36 (.iload 3) := Or.inr ⟨3, rfl, xd_131_56, rfl⟩
theorem xk_131_37 : xk_OkA xp_F (xp_P sc) xp_cl xp_BW xp_NW xp_SW xp_exn 131 37 (.iadd) := ⟨xd_131_57, rfl⟩
theorem xk_131_38 : xk_OkA xp_F (xp_P sc) xp_cl xp_BW xp_NW xp_SW xp_exn 131 38 (.iaload) := ⟨xd_131_58, rfl⟩
theorem xk_131_39 : xk_OkA xp_F (xp_P sc) xp_cl xp_BW xp_NW xp_SW xp_exn 131 39 (.iload 4) := Or.inl ⟨xd_131_59, rfl⟩
theorem xk_131_40 : xk_OkA xp_F (xp_P sc) xp_cl xp_BW xp_NW xp_SW xp_exn 131 40 (.iconst 0) := Or.inl ⟨xd_131_61, rfl⟩
theorem xk_131_41 : xk_OkA xp_F (xp_P sc) xp_cl xp_BW xp_NW xp_SW xp_exn 131 41 (.invokeinterface 110 4) := ⟨rfl, Or.inl ⟨xwt_902, rfl⟩, rfl, rfl, xwt_5, by decide +kernel, by decide +kernel, Nat.le_of_ble_eq_true rfl, _, Or.inl xwt_899, Or.inr ⟨xd_131_62, xwt_901, xws_93, ⟨_, _, _, rfl, rfl⟩, by decide +kernel⟩⟩
theorem xk_131_42 : xk_OkA xp_F (xp_P sc) xp_cl xp_BW xp_NW xp_SW xp_exn 131 42 (.iinc 4 (1)) := ⟨xd_131_65, rfl⟩
theorem xk_131_43 : xk_OkA xp_F (xp_P sc) xp_cl xp_BW xp_NW xp_SW xp_exn 131 43 (.goto 14) := ⟨_, xd_131_68, by unfold xf_to; decide +kernel⟩
theorem xk_131_44 : xk_OkA xp_F (xp_P sc) xp_cl xp_BW xp_NW xp_SW xp_exn 131 44 (.iinc 3 (1)) := ⟨xd_131_71, rfl⟩
theorem xk_131_45 : xk_OkA xp_F (xp_P sc) xp_cl xp_BW xp_NW xp_SW xp_exn 131 45 (.goto 4) := ⟨_, xd_131_74, by unfold xf_to; decide +kernel⟩
theorem xk_131_46 : xk_OkA xp_F (xp_P sc) xp_cl xp_BW xp_NW xp_SW xp_exn 131 46 (.return_) := ⟨xd_131_77, rfl⟩
theorem xl_131 : xk_OkL xp_F (xp_P sc) xp_cl xp_BW xp_NW xp_SW xp_exn 131 0 xc_131 := ⟨xk_131_0, xk_131_1, xk_131_2, xk_131_3, xk_131_4, xk_131_5, xk_131_6, xk_131_7, xk_131_8, xk_131_9, xk_131_10, xk_131_11, xk_131_12, xk_131_13, xk_131_14, xk_131_15, xk_131_16, xk_131_17, xk_131_18, xk_131_19, xk_131_20, xk_131_21, xk_131_22, xk_131_23, xk_131_24, xk_131_25, xk_131_26, xk_131_27, xk_131_28, xk_131_29, xk_131_30, xk_131_31, xk_131_32, xk_131_33, xk_131_34, xk_131_35, xk_131_36, xk_131_37, xk_131_38, xk_131_39, xk_131_40, xk_131_41, xk_131_42, xk_131_43, xk_131_44, xk_131_45, xk_131_46, trivial⟩
theorem xd_132_0 : decode prog_6_method_27_code 0 = .ok (.iconst 0, 1) := by decide +kernel
theorem xd_132_1 : decode prog_6_method_27_code 1 = .ok (.istore_n 1, 1) := by decide +kernel
theorem xd_132_2 : decode prog_6_method_27_code 2 = .ok (.iconst 0, 1) := by decide +kernel
theorem xd_132_3 : decode prog_6_method_27_code 3 = .ok (.istore_n 2, 1) := by decide +kernel
theorem xd_132_4 : decode prog_6_method_27_code 4 = .ok (.iload_n 2, 1) := by decide +kernel
theorem xd_132_5 : decode prog_6_method_27_code 5 = .ok (.iconst 4, 1) := by decide +kernel
theorem xd_132_6 : decode prog_6_method_27_code 6 = .ok (.if_icmp .ge 28, 3) := by decide +kernel
theorem xd_132_9 : decode prog_6_method_27_code 9 = .ok (.aload_n 0, 1) := by decide +kernel
theorem xd_132_10 : decode prog_6_method_27_code 10 = .ok (.getfield 28, 3) := by decide +kernel
theorem xd_132_13 : decode prog_6_method_27_code 13 = .ok (.iconst 1, 1) := by decide +kernel
theorem xd_132_14 : decode prog_6_method_27_code 14 = .ok (.iload_n 2, 1) := by decide +kernel
theorem xd_132_15 : decode prog_6_method_27_code 15 = .ok (.iadd, 1) := by decide +kernel
theorem xd_132_16 : decode prog_6_method_27_code 16 = .ok (.iaload, 1) := by decide +kernel
theorem xd_132_17 : decode prog_6_method_27_code 17 = .ok (.ifCond .le 9, 3) := by decide +kernel
theorem xd_132_20 : decode prog_6_method_27_code 20 = .ok (.iload_n 1, 1) := by decide +kernel
theorem xd_132_21 : decode prog_6_method_27_code 21 = .ok (.iconst 1, 1) := by decide +kernel
theorem xd_132_22 : decode prog_6_method_27_code 22 = .ok (.iadd, 1) := by decide +kernel
theorem xd_132_23 : decode prog_6_method_27_code 23 = .ok (.goto 4, 3) := by decide +kernel
theorem xd_132_26 : decode prog_6_method_27_code 26 = .ok (.iload_n 1, 1) := by decide +kernel
theorem xd_132_27 : decode prog_6_method_27_code 27 = .ok (.istore_n 1, 1) := by decide +kernel
theorem xd_132_28 : decode prog_6_method_27_code 28 = .ok (.iinc 2 (1), 3) := by decide +kernel
theorem xd_132_31 : decode prog_6_method_27_code 31 = .ok (.goto (-27), 3) := by decide +kernel
theorem xd_132_34 : decode prog_6_method_27_code 34 = .ok (.iload_n 1, 1) := by decide +kernel
theorem xd_132_35 : decode prog_6_method_27_code 35 = .ok (.ireturn, 1) := by decide +kernel
theorem xk_132_0 : xk_OkA xp_F (xp_P sc) xp_cl xp_BW xp_NW xp_SW xp_exn 132 0 (.iconst 0) := Or.inl ⟨xd_132_0, rfl⟩
theorem xk_132_1 : xk_OkA xp_F (xp_P sc) xp_cl xp_BW xp_NW xp_SW xp_exn 132 1 (.istore 1) := Or.inr ⟨1, rfl, xd_132_1, rfl⟩
theorem xk_132_2 : xk_OkA xp_F (xp_P sc) xp_cl xp_BW xp_NW xp_SW xp_exn 132 2 (.iconst 0) := Or.inl ⟨xd_132_2, rfl⟩
theorem xk_132_3 : xk_OkA xp_F (xp_P sc) xp_cl xp_BW xp_NW xp_SW xp_exn 132 3 (.istore 2) := Or.inr ⟨2, rfl, xd_132_3, rfl⟩
theorem xk_132_4 : xk_OkA xp_F (xp_P sc) xp_cl xp_BW xp_NW xp_SW xp_exn 132 4 (.iload 2) := Or.inr ⟨2, rfl, xd_132_4, rfl⟩
theorem xk_132_5 : xk_OkA xp_F (xp_P sc) xp_cl xp_BW xp_NW xp_SW xp_exn 132 5 (.iconst 4) := Or.inl ⟨xd_132_5, rfl⟩
theorem xk_132_6 : xk_OkA xp_F (xp_P sc) xp_cl xp_BW xp_NW xp_SW xp_exn 132 6 (.if_icmp .ge 22) := ⟨_, xd_132_6, by unfold xf_to; decide +kernel, rfl⟩
theorem xk_132_7 : xk_OkA xp_F (xp_P sc) xp_cl xp_BW xp_NW xp_SW xp_exn 132 7 (.aload 0) := Or.inr ⟨0, rfl, xd_132_9, rfl⟩
theorem xk_132_8 : xk_OkA xp_F (xp_P sc) xp_cl xp_BW xp_NW xp_SW xp_exn 132 8 (.getfield 134) := ⟨_, xd_132_10, rfl, ⟨_, _, _, rfl, by decide, xu_4, Or.inl xwt_760⟩⟩
theorem xk_132_9 : xk_OkA xp_F (xp_P sc) xp_cl xp_BW xp_NW xp_SW xp_exn 132 9 (.iconst 1) := Or.inl ⟨xd_132_13, rfl⟩
theorem xk_132_10 : xk_OkA xp_F (xp_P sc) xp_cl xp_BW xp_NW xp_SW xp_exn 132 10 (.iload 2) := Or.inr ⟨2, rfl, xd_132_14, rfl⟩
theorem xk_132_11 : xk_OkA xp_F (xp_P sc) xp_cl xp_BW xp_NW xp_SW xp_exn 132 11 (.iadd) := ⟨xd_132_15, rfl⟩
theorem xk_132_12 : xk_OkA xp_F (xp_P sc) xp_cl xp_BW xp_NW xp_SW xp_exn 132 12 (.iaload) := ⟨xd_132_16, rfl⟩
theorem xk_132_13 : xk_OkA xp_F (xp_P sc) xp_cl xp_BW xp_NW xp_SW xp_exn 132 13 (.ifCond .le 18) := ⟨_, xd_132_17, by unfold xf_to; decide +kernel, rfl⟩
theorem xk_132_14 : xk_OkA xp_F (xp_P sc) xp_cl xp_BW xp_NW xp_SW xp_exn 132 14 (.iload 1) := Or.inr ⟨1, rfl, xd_132_20, rfl⟩
theorem xk_132_15 : xk_OkA xp_F (xp_P sc) xp_cl xp_BW xp_NW xp_SW xp_exn 132 15 (.iconst 1) := Or.inl ⟨xd_132_21, rfl⟩
theorem xk_132_16 : xk_OkA xp_F (xp_P sc) xp_cl xp_BW xp_NW xp_SW xp_exn 132 16 (.iadd) := ⟨xd_132_22, rfl⟩
theorem xk_132_17 : xk_OkA xp_F (xp_P sc) xp_cl xp_BW xp_NW xp_SW xp_exn 132 17 (.goto 19) := ⟨_, xd_132_23, by unfold xf_to; decide +kernel⟩
theorem xk_132_18 : xk_OkA xp_F (xp_P sc) xp_cl xp_BW xp_NW xp_SW xp_exn 132 18 (.iload 1) := Or.inr ⟨1, rfl, xd_132_26, rfl⟩
theorem xk_132_19 : xk_OkA xp_F (xp_P sc) xp_cl xp_BW xp_NW xp_SW xp_exn 132 19 (.istore 1) := Or.inr ⟨1, rfl, xd_132_27, rfl⟩
theorem xk_132_20 : xk_OkA xp_F (xp_P sc) xp_cl xp_BW xp_NW xp_SW xp_exn 132 20 (.iinc 2 (1)) := ⟨xd_132_28, rfl⟩
theorem xk_132_21 : xk_OkA xp_F (xp_P sc) xp_cl xp_BW xp_NW xp_SW xp_exn 132 21 (.goto 4) := ⟨_, xd_132_31, by unfold xf_to; decide +kernel⟩
theorem xk_132_22 : xk_OkA xp_F (xp_P sc) xp_cl xp_BW xp_NW xp_SW xp_exn 132 22 (.iload 1) := Or.inr ⟨1, rfl, xd_132_34, rfl⟩
theorem xk_132_23 : xk_OkA xp_F (xp_P sc) xp_cl xp_BW xp_NW xp_SW xp_exn 132 23 (.ireturn) := ⟨xd_132_35, rfl⟩
theorem xl_132 : xk_OkL xp_F (xp_P sc) xp_cl xp_BW xp_NW xp_SW xp_exn 132 0 xc_132 := ⟨xk_132_0, xk_132_1, xk_132_2, xk_132_3, xk_132_4, xk_132_5, xk_132_6, xk_132_7, xk_132_8, xk_132_9, xk_132_10, xk_132_11, xk_132_12, xk_132_13, xk_132_14, xk_132_15, xk_132_16, xk_132_17, xk_132_18, xk_132_19, xk_132_20, xk_132_21, xk_132_22, xk_132_23, trivial⟩
theorem xd_133_0 : decode prog_6_method_28_code 0 = .ok (.aload_n 0, 1) := by decide +kernel
theorem xd_133_1 : decode prog_6_method_28_code 1 = .ok (.aload_n 0, 1) := by decide +kernel
theorem xd_133_2 : decode prog_6_method_28_code 2 = .ok (.getfield 20, 3) := by decide +kernel
theorem xd_133_5 : decode prog_6_method_28_code 5 = .ok (.ifCond .ne 7, 3) := by decide +kernel
theorem xd_133_8 : decode prog_6_method_28_code 8 = .ok (.iconst 1, 1) := by decide +kernel
theorem xd_133_9 : decode prog_6_method_28_code 9 = .ok (.goto 57, 3) := by decide +kernel
theorem xd_133_12 : decode prog_6_method_28_code 12 = .ok (.iload_n 1, 1) := by decide +kernel
theorem xd_133_13 : decode prog_6_method_28_code 13 = .ok (.invokestatic 103, 3) := by decide +kernel
theorem xd_133_16 : decode prog_6_method_28_code 16 = .ok (.ifCond .eq 14, 3) := by decide +kernel
theorem xd_133_19 : decode prog_6_method_28_code 19 = .ok (.iload_n 2, 1) := by decide +kernel
theorem xd_133_20 : decode prog_6_method_28_code 20 = .ok (.iconst 2, 1) := by decide +kernel
theorem xd_133_21 : decode prog_6_method_28_code 21 = .ok (.if_icmp .lt 9, 3) := by decide +kernel
theorem xd_133_24 : decode prog_6_method_28_code 24 = .ok (.iload_n 2, 1) := by decide +kernel
theorem xd_133_25 : decode prog_6_method_28_code 25 = .ok (.bipush 8, 2) := by decide +kernel
theorem xd_133_27 : decode prog_6_method_28_code 27 = .ok (.if_icmp .le 7, 3) := by decide +kernel
theorem xd_133_30 : decode prog_6_method_28_code 30 = .ok (.iconst 2, 1) := by decide +kernel
theorem xd_133_31 : decode prog_6_method_28_code 31 = .ok (.goto 35, 3) := by decide +kernel
theorem xd_133_34 : decode prog_6_method_28_code 34 = .ok (.aload_n 0, 1) := by decide +kernel
theorem xd_133_35 : decode prog_6_method_28_code 35 = .ok (.getfield 28, 3) := by decide +kernel
theorem xd_133_38 : decode prog_6_method_28_code 38 = .ok (.iconst 1, 1) := by decide +kernel
theorem xd_133_39 : decode prog_6_method_28_code 39 = .ok (.iload_n 1, 1) := by decide +kernel
theorem xd_133_40 : decode prog_6_method_28_code 40 = .ok (.iadd, 1) := by decide +kernel
theorem xd_133_41 : decode prog_6_method_28_code 41 = .ok (.iaload, 1) := by decide +kernel
theorem xd_133_42 : decode prog_6_method_28_code 42 = .ok (.ifCond .gt 19, 3) := by decide +kernel
theorem xd_133_45 : decode prog_6_method_28_code 45 = .ok (.aload_n 0, 1) := by decide +kernel
theorem xd_133_46 : decode prog_6_method_28_code 46 = .ok (.getfield 7, 3) := by decide +kernel
theorem xd_133_49 : decode prog_6_method_28_code 49 = .ok (.iload_n 1, 1) := by decide +kernel
theorem xd_133_50 : decode prog_6_method_28_code 50 = .ok (.baload, 1) := by decide +kernel
theorem xd_133_51 : decode prog_6_method_28_code 51 = .ok (.ifCond .eq 10, 3) := by decide +kernel
theorem xd_133_54 : decode prog_6_method_28_code 54 = .ok (.aload_n 0, 1) := by decide +kernel
theorem xd_133_55 : decode prog_6_method_28_code 55 = .ok (.invokevirtual 52, 3) := by decide +kernel
theorem xd_133_58 : decode prog_6_method_28_code 58 = .ok (.ifCond .eq 7, 3) := by decide +kernel
theorem xd_133_61 : decode prog_6_method_28_code 61 = .ok (.iconst 3, 1) := by decide +kernel
theorem xd_133_62 : decode prog_6_method_28_code 62 = .ok (.goto 4, 3) := by decide +kernel
theorem xd_133_65 : decode prog_6_method_28_code 65 = .ok (.iconst 0, 1) := by decide +kernel
theorem xd_133_66 : decode prog_6_method_28_code 66 = .ok (.putfield 37, 3) := by decide +kernel
theorem xd_133_69 : decode prog_6_method_28_code 69 = .ok (.aload_n 0, 1) := by decide +kernel
theorem xd_133_70 : decode prog_6_method_28_code 70 = .ok (.getfield 37, 3) := by decide +kernel
theorem xd_133_73 : decode prog_6_method_28_code 73 = .ok (.ifCond .le 4, 3) := by decide +kernel
theorem xd_133_76 : decode prog_6_method_28_code 76 = .ok (.return_, 1) := by decide +kernel
theorem xd_133_77 : decode prog_6_method_28_code 77 = .ok (.iconst 0, 1) := by decide +kernel
theorem xd_133_78 : decode prog_6_method_28_code 78 = .ok (.istore_n 3, 1) := by decide +kernel
theorem xd_133_79 : decode prog_6_method_28_code 79 = .ok (.iload_n 3, 1) := by decide +kernel
theorem xd_133_80 : decode prog_6_method_28_code 80 = .ok (.bipush 32, 2) := by decide +kernel
theorem xd_133_82 : decode prog_6_method_28_code 82 = .ok (.if_icmp .ge 21, 3) := by decide +kernel
theorem xd_133_85 : decode prog_6_method_28_code 85 = .ok (.aload_n 0, 1) := by decide +kernel
theorem xd_133_86 : decode prog_6_method_28_code 86 = .ok (.getfield 17, 3) := by decide +kernel
theorem xd_133_89 : decode prog_6_method_28_code 89 = .ok (.bipush 32, 2) := by decide +kernel
theorem xd_133_91 : decode prog_6_method_28_code 91 = .ok (.iload_n 1, 1) := by decide +kernel
theorem xd_133_92 : decode prog_6_method_28_code 92 = .ok (.imul, 1) := by decide +kernel
theorem xd_133_93 : decode prog_6_method_28_code 93 = .ok (.iload_n 3, 1) := by decide +kernel
theorem xd_133_94 : decode prog_6_method_28_code 94 = .ok (.iadd, 1) := by decide +kernel
theorem xd_133_95 : decode prog_6_method_28_code 95 = .ok (.iconst 0, 1) := by decide +kernel
theorem xd_133_96 : decode prog_6_method_28_code 96 = .ok (.iastore, 1) := by decide +kernel
theorem xd_133_97 : decode prog_6_method_28_code 97 = .ok (.iinc 3 (1), 3) := by decide +kernel
theorem xd_133_100 : decode prog_6_method_28_code 100 = .ok (.goto (-21), 3) := by decide +kernel
theorem xd_133_103 : decode prog_6_method_28_code 103 = .ok (.aload_n 0, 1) := by decide +kernel
theorem xd_133_104 : decode prog_6_method_28_code 104 = .ok (.invokevirtual 107, 3) := by decide +kernel
theorem xd_133_107 : decode prog_6_method_28_code 107 = .ok (.aload_n 0, 1) := by decide +kernel
theorem xd_133_108 : decode prog_6_method_28_code 108 = .ok (.getfield 31, 3) := by decide +kernel
theorem xd_133_111 : decode prog_6_method_28_code 111 = .ok (.iconst 1, 1) := by decide +kernel
theorem xd_133_112 : decode prog_6_method_28_code 112 = .ok (.iload_n 1, 1) := by decide +kernel
theorem xd_133_113 : decode prog_6_method_28_code 113 = .ok (.iadd, 1) := by decide +kernel
theorem xd_133_114 : decode prog_6_method_28_code 114 = .ok (.iload_n 2, 1) := by decide +kernel
theorem xd_133_115 : decode prog_6_method_28_code 115 = .ok (.iastore, 1) := by decide +kernel
theorem xd_133_116 : decode prog_6_method_28_code 116 = .ok (.aload_n 0, 1) := by decide +kernel
theorem xd_133_117 : decode prog_6_method_28_code 117 = .ok (.invokevirtual 110, 3) := by decide +kernel
theorem xd_133_120 : decode prog_6_method_28_code 120 = .ok (.aload_n 0, 1) := by decide +kernel
theorem xd_133_121 : decode prog_6_method_28_code 121 = .ok (.aload_n 0, 1) := by decide +kernel
theorem xd_133_122 : decode prog_6_method_28_code 122 = .ok (.iconst 0, 1) := by decide +kernel
theorem xd_133_123 : decode prog_6_method_28_code 123 = .ok (.invokevirtual 113, 3) := by decide +kernel
theorem xd_133_126 : decode prog_6_method_28_code 126 = .ok (.ifCond .ne 14, 3) := by decide +kernel
theorem xd_133_129 : decode prog_6_method_28_code 129 = .ok (.aload_n 0, 1) := by decide +kernel
theorem xd_133_130 : decode prog_6_method_28_code 130 = .ok (.getfield 20, 3) := by decide +kernel
theorem xd_133_133 : decode prog_6_method_28_code 133 = .ok (.ifCond .eq 7, 3) := by decide +kernel
theorem xd_133_136 : decode prog_6_method_28_code 136 = .ok (.iconst 0, 1) := by decide +kernel
theorem xd_133_137 : decode prog_6_method_28_code 137 = .ok (.goto 4, 3) := by decide +kernel
theorem xd_133_140 : decode prog_6_method_28_code 140 = .ok (.iconst 1, 1) := by decide +kernel
theorem xd_133_141 : decode prog_6_method_28_code 141 = .ok (.putfield 37, 3) := by decide +kernel
theorem xd_133_144 : decode prog_6_method_28_code 144 = .ok (.return_, 1) := by decide +kernel
theorem xk_133_0 : xk_OkA xp_F (xp_P sc) xp_cl xp_BW xp_NW xp_SW xp_exn 133 0 (.aload 0) := Or.inr ⟨0, rfl, xd_133_0, rfl⟩
theorem xk_133_1 : xk_OkA xp_F (xp_P sc) xp_cl xp_BW xp_NW xp_SW xp_exn 133 1 (.aload 0) := Or.inr ⟨0, rfl, xd_133_1, rfl⟩
theorem xk_133_2 : xk_OkA xp_F (xp_P sc) xp_cl xp_BW xp_NW xp_SW xp_exn 133 2 (.getfield 132) := ⟨_, xd_133_2, rfl, ⟨_, _, _, rfl, by decide, xu_4, Or.inl xwt_758⟩⟩
theorem xk_133_3 : xk_OkA xp_F (xp_P sc) xp_cl xp_BW xp_NW xp_SW xp_exn 133 3 (.ifCond .ne 6) := ⟨_, xd_133_5, by unfold xf_to; decide +kernel, rfl⟩
theorem xk_133_4 : xk_OkA xp_F (xp_P sc) xp_cl xp_BW xp_NW xp_SW xp_exn 133 4 (.iconst 1) := Or.inl ⟨xd_133_8, rfl⟩
theorem xk_133_5 : xk_OkA xp_F (xp_P sc) xp_cl xp_BW xp_NW xp_SW xp_exn 133 5 (.goto 35) := ⟨_, xd_133_9, by unfold xf_to; decide +kernel⟩
theorem xk_133_6 : xk_OkA xp_F (xp_P sc) xp_cl xp_BW xp_NW xp_SW xp_exn 133 6 (.iload 1) := Or.inr ⟨1, rfl, xd_133_12, rfl⟩
theorem xk_133_7 : xk_OkA xp_F (xp_P sc) xp_cl xp_BW xp_NW xp_SW xp_exn 133 7 (.invokeinterface 108 1) := ⟨rfl, Or.inl ⟨xwt_804, rfl⟩, rfl, rfl, xwt_5, by decide +kernel, by decide +kernel, Nat.le_of_ble_eq_true rfl, _, Or.inl xwt_802, Or.inl ⟨xd_133_13, xwt_803, rfl, by decide +kernel⟩⟩
theorem xk_133_8 : xk_OkA xp_F (xp_P sc) xp_cl xp_BW xp_NW xp_SW xp_exn 133 8 (.ifCond .eq 15) := ⟨_, xd_133_16, by unfold xf_to; decide +kernel, rfl⟩
theorem xk_133_9 : xk_OkA xp_F (xp_P sc) xp_cl xp_BW xp_NW xp_SW xp_exn 133 9 (.iload 2) := Or.inr ⟨2, rfl, xd_133_19, rfl⟩
theorem xk_133_10 : xk_OkA xp_F (xp_P sc) xp_cl xp_BW xp_NW xp_SW xp_exn 133 10 (.iconst 2) := Or.inl ⟨xd_133_20, rfl⟩
theorem xk_133_11 : xk_OkA xp_F (xp_P sc) xp_cl xp_BW xp_NW xp_SW xp_exn 133 11 (.if_icmp .lt 15) := ⟨_, xd_133_21, by unfold xf_to; decide +kernel, rfl⟩
theorem xk_133_12 : xk_OkA xp_F (xp_P sc) xp_cl xp_BW xp_NW xp_SW xp_exn 133 12 (.iload 2) := Or.inr ⟨2, rfl, xd_133_24, rfl⟩
theorem xk_133_13 : xk_OkA xp_F (xp_P sc) xp_cl xp_BW xp_NW xp_SW xp_exn 133 13 (.iconst 8) := Or.inr (Or.inl ⟨xd_133_25, by decide +kernel, rfl⟩)
theorem xk_133_14 : xk_OkA xp_F (xp_P sc) xp_cl xp_BW xp_NW xp_SW xp_exn 133 14 (.if_icmp .le 17) := ⟨_, xd_133_27, by unfold xf_to; decide +kernel, rfl⟩
theorem xk_133_15 : xk_OkA xp_F (xp_P sc) xp_cl xp_BW xp_NW xp_SW xp_exn 133 15 (.iconst 2) := Or.inl ⟨xd_133_30, rfl⟩
theorem xk_133_16 : xk_OkA xp_F (xp_P sc) xp_cl xp_BW xp_NW xp_SW xp_exn 133 16 (.goto 35) := ⟨_, xd_133_31, by unfold xf_to; decide +kernel⟩
theorem xk_133_17 : xk_OkA xp_F (xp_P sc) xp_cl xp_BW xp_NW xp_SW xp_exn 133 17 (.aload 0) := Or.inr ⟨0, rfl, xd_133_34, rfl⟩
theorem xk_133_18 : xk_OkA xp_F (xp_P sc) xp_cl xp_BW xp_NW xp_SW xp_exn 133 18 (.getfield 134) := ⟨_, xd_133_35, rfl, ⟨_, _, _, rfl, by decide, xu_4, Or.inl xwt_760⟩⟩
theorem xk_133_19 : xk_OkA xp_F (xp_P sc) xp_cl xp_BW xp_NW xp_SW xp_exn 133 19 (.iconst 1) := Or.inl ⟨xd_133_38, rfl⟩
theorem xk_133_20 : xk_OkA xp_F (xp_P sc) xp_cl xp_BW xp_NW xp_SW xp_exn 133 20 (.iload 1) := Or.inr ⟨1, rfl, xd_133_39, rfl⟩
theorem xk_133_21 : xk_OkA xp_F (xp_P sc) xp_cl xp_BW xp_NW xp_SW xp_exn 133 21 (.iadd) := ⟨xd_133_40, rfl⟩
theorem xk_133_22 : xk_OkA xp_F (xp_P sc) xp_cl xp_BW xp_NW xp_SW xp_exn 133 22 (.iaload) := ⟨xd_133_41, rfl⟩
theorem xk_133_23 : xk_OkA xp_F (xp_P sc) xp_cl xp_BW xp_NW xp_SW xp_exn 133 23 (.ifCond .gt 32) := ⟨_, xd_133_42, by unfold xf_to; decide +kernel, rfl⟩
theorem xk_133_24 : xk_OkA xp_F (xp_P sc) xp_cl xp_BW xp_NW xp_SW xp_exn 133 24 (.aload 0) := Or.inr ⟨0, rfl, xd_133_45, rfl⟩
theorem xk_133_25 : xk_OkA xp_F (xp_P sc) xp_cl xp_BW xp_NW xp_SW xp_exn 133 25 (.getfield 129) := ⟨_, xd_133_46, rfl, ⟨_, _, _, rfl, by decide, xu_4, Or.inl xwt_755⟩⟩
theorem xk_133_26 : xk_OkA xp_F (xp_P sc) xp_cl xp_BW xp_NW xp_SW xp_exn 133 26 (.iload 1) := Or.inr ⟨1, rfl, xd_133_49, rfl⟩
theorem xk_133_27 : xk_OkA xp_F (xp_P sc) xp_cl xp_BW xp_NW xp_SW xp_exn 133 27 (.baload) := ⟨xd_133_50, rfl⟩
theorem xk_133_28 : xk_OkA xp_F (xp_P sc) xp_cl xp_BW xp_NW xp_SW xp_exn 133 28 (.ifCond .eq 32) := ⟨_, xd_133_51, by unfold xf_to; decide +kernel, rfl⟩
theorem xk_133_29 : xk_OkA xp_F (xp_P sc) xp_cl xp_BW xp_NW xp_SW xp_exn 133 29 (.aload 0) := Or.inr ⟨0, rfl, xd_133_54, rfl⟩
theorem xk_133_30 : xk_OkA xp_F (xp_P sc) xp_cl xp_BW xp_NW xp_SW xp_exn 133 30 (.invokeinterface 118 1) := ⟨rfl, Or.inl ⟨xwt_808, rfl⟩, rfl, rfl, xwt_5, by decide +kernel, by decide +kernel, Nat.le_of_ble_eq_true rfl, _, Or.inl xwt_805, Or.inr ⟨xd_133_55, xwt_807, xws_77, ⟨_, _, _, rfl, rfl⟩, by decide +kernel⟩⟩
theorem xk_133_31 : xk_OkA xp_F (xp_P sc) xp_cl xp_BW xp_NW xp_SW xp_exn 133 31 (.ifCond .eq 34) := ⟨_, xd_133_58, by unfold xf_to; decide +kernel, rfl⟩
theorem xk_133_32 : xk_OkA xp_F (xp_P sc) xp_cl xp_BW xp_NW xp_SW xp_exn 133 32 (.iconst 3) := Or.inl ⟨xd_133_61, rfl⟩
theorem xk_133_33 : xk_OkA xp_F (xp_P sc) xp_cl xp_BW xp_NW xp_SW xp_exn 133 33 (.goto 35) := ⟨_, xd_133_62, by unfold xf_to; decide +kernel⟩
theorem xk_133_34 : xk_OkA xp_F (xp_P sc) xp_cl xp_BW xp_NW xp_SW xp_exn 133 34 (.iconst 0) := Or.inl ⟨xd_133_65, rfl⟩
theorem xk_133_35 : xk_OkA xp_F (xp_P sc) xp_cl xp_BW xp_NW xp_SW xp_exn 133 35 (.putfield 128) := ⟨_, xd_133_66, rfl, ⟨_, _, _, rfl, by decide, xu_4, Or.inl xwt_754⟩, xf_4_0⟩
theorem xk_133_36 : xk_OkA xp_F (xp_P sc) xp_cl xp_BW xp_NW xp_SW xp_exn 133 36 (.aload 0) := Or.inr ⟨0, rfl, xd_133_69, rfl⟩
theorem xk_133_37 : xk_OkA xp_F (xp_P sc) xp_cl xp_BW xp_NW xp_SW xp_exn 133 37 (.getfield 128) := ⟨_, xd_133_70, rfl, ⟨_, _, _, rfl, by decide, xu_4, Or.inl xwt_754⟩⟩
theorem xk_133_38 : xk_OkA xp_F (xp_P sc) xp_cl xp_BW xp_NW xp_SW xp_exn 133 38 (.ifCond .le 40) := ⟨_, xd_133_73, by unfold xf_to; decide +kernel, rfl⟩
theorem xk_133_39 : xk_OkA xp_F (xp_P sc) xp_cl xp_BW xp_NW xp_SW xp_exn 133 39 (.return_) := ⟨xd_133_76, rfl⟩
theorem xk_133_40 : xk_OkA xp_F (xp_P sc) xp_cl xp_BW xp_NW xp_SW xp_exn 133 40 (.iconst 0) := Or.inl ⟨xd_133_77, rfl⟩
theorem xk_133_41 : xk_OkA xp_F (xp_P sc) xp_cl xp_BW xp_NW xp_SW xp_exn 133 41 (.istore 3) := Or.inr ⟨3, rfl, xd_133_78, rfl⟩
theorem xk_133_42 : xk_OkA xp_F (xp_P sc) xp_cl xp_BW xp_NW xp_SW xp_exn 133 42 (.iload 3) := Or.inr ⟨3, rfl, xd_133_79, rfl⟩
theorem xk_133_43 : xk_OkA xp_F (xp_P sc) xp_cl xp_BW xp_NW xp_SW xp_exn 133 43 (.iconst 32) := Or.inr (Or.inl ⟨xd_133_80, by decide +kernel, rfl⟩)
theorem xk_133_44 : xk_OkA xp_F (xp_P sc) xp_cl xp_BW xp_NW xp_SW xp_exn 133 44 (.if_icmp .ge 56) := ⟨_, xd_133_82, by unfold xf_to; decide +kernel, rfl⟩
theorem xk_133_45 : xk_OkA xp_F (xp_P sc) xp_cl xp_BW xp_NW xp_SW xp_exn 133 45 (.aload 0) := Or.inr ⟨0, rfl, xd_133_85, rfl⟩
theorem xk_133_46 : xk_OkA xp_F (xp_P sc) xp_cl xp_BW xp_NW xp_SW xp_exn 133 46 (.getfield 131) := ⟨_, xd_133_86, rfl, ⟨_, _, _, rfl, by decide, xu_4, Or.inl xwt_757⟩⟩
theorem xk_133_47 : xk_OkA xp_F (xp_P sc) xp_cl xp_BW xp_NW xp_SW xp_exn 133 47 (.iconst 32) := Or.inr (Or.inl ⟨xd_133_89, by decide +kernel, rfl⟩)
theorem xk_133_48 : xk_OkA xp_F (xp_P sc) xp_cl xp_BW xp_NW xp_SW xp_exn 133 48 (.iload 1) := Or.inr ⟨1, rfl, xd_133_91, rfl⟩
theorem xk_133_49 : xk_OkA xp_F (xp_P sc) xp_cl xp_BW xp_NW xp_SW xp_exn 133 49 (.imul) := ⟨xd_133_92, rfl⟩
theorem xk_133_50 : xk_OkA xp_F (xp_P sc) xp_cl xp_BW xp_NW xp_SW xp_exn 133 50 (.iload 3) := Or.inr ⟨3, rfl, xd_133_93, rfl⟩
theorem xk_133_51 : xk_OkA xp_F (xp_P sc) xp_cl xp_BW xp_NW xp_SW xp_exn 133 51 (.iadd) := ⟨xd_133_94, rfl⟩
theorem xk_133_52 : xk_OkA xp_F (xp_P sc) xp_cl xp_BW xp_NW xp_SW xp_exn 133 52 (.iconst 0) := Or.inl ⟨xd_133_95, rfl⟩
theorem xk_133_53 : xk_OkA xp_F (xp_P sc) xp_cl xp_BW xp_NW xp_SW xp_exn 133 53 (.iastore) := ⟨xd_133_96, rfl⟩
theorem xk_133_54 : xk_OkA xp_F (xp_P sc) xp_cl xp_BW xp_NW xp_SW xp_exn 133 54 (.iinc 3 (1)) := ⟨xd_133_97, rfl⟩
theorem xk_133_55 : xk_OkA xp_F (xp_P sc) xp_cl xp_BW xp_NW xp_SW xp_exn 133 55 (.goto 42) := ⟨_, xd_133_100, by unfold xf_to; decide +kernel⟩
theorem xk_133_56 : xk_OkA xp_F (xp_P sc) xp_cl xp_BW xp_NW xp_SW xp_exn 133 56 (.aload 0) := Or.inr ⟨0, rfl, xd_133_103, rfl⟩
theorem xk_133_57 : xk_OkA xp_F (xp_P sc) xp_cl xp_BW xp_NW xp_SW xp_exn 133 57 (.invokeinterface 119 1) := ⟨rfl, Or.inl ⟨xwt_812, rfl⟩, rfl, rfl, xwt_5, by decide +kernel, by decide +kernel, Nat.le_of_ble_eq_true rfl, _, Or.inl xwt_809, Or.inr ⟨xd_133_104, xwt_811, xws_78, ⟨_, _, _, rfl, rfl⟩, by decide +kernel⟩⟩
theorem xk_133_58 : xk_OkA xp_F (xp_P sc) xp_cl xp_BW xp_NW xp_SW xp_exn 133 58 (.aload 0) := Or.inr ⟨0, rfl, xd_133_107, rfl⟩
theorem xk_133_59 : xk_OkA xp_F (xp_P sc) xp_cl xp_BW xp_NW xp_SW xp_exn 133 59 (.getfield 135) := ⟨_, xd_133_108, rfl, ⟨_, _, _, rfl, by decide, xu_4, Or.inl xwt_761⟩⟩
theorem xk_133_60 : xk_OkA xp_F (xp_P sc) xp_cl xp_BW xp_NW xp_SW xp_exn 133 60 (.iconst 1) := Or.inl ⟨xd_133_111, rfl⟩
theorem xk_133_61 : xk_OkA xp_F (xp_P sc) xp_cl xp_BW xp_NW xp_SW xp_exn 133 61 (.iload 1) := Or.inr ⟨1, rfl, xd_133_112, rfl⟩
theorem xk_133_62 : xk_OkA xp_F (xp_P sc) xp_cl xp_BW xp_NW xp_SW xp_exn 133 62 (.iadd) := ⟨xd_133_113, rfl⟩
theorem xk_133_63 : xk_OkA xp_F (xp_P sc) xp_cl xp_BW xp_NW xp_SW xp_exn 133 63 (.iload 2) := Or.inr ⟨2, rfl, xd_133_114, rfl⟩
theorem xk_133_64 : xk_OkA xp_F (xp_P sc) xp_cl xp_BW xp_NW xp_SW xp_exn 133 64 (.iastore) := ⟨xd_133_115, rfl⟩
theorem xk_133_65 : xk_OkA xp_F (xp_P sc) xp_cl xp_BW xp_NW xp_SW xp_exn 133 65 (.aload 0) := Or.inr ⟨0, rfl, xd_133_116, rfl⟩
theorem xk_133_66 : xk_OkA xp_F (xp_P sc) xp_cl xp_BW xp_NW xp_SW xp_exn 133 66 (.invokeinterface 123 1) := ⟨rfl, Or.inl ⟨xwt_816, rfl⟩, rfl, rfl, xwt_5, by decide +kernel, by decide +kernel, Nat.le_of_ble_eq_true rfl, _, Or.inl xwt_813, Or.inr ⟨xd_133_117, xwt_815, xws_79, ⟨_, _, _, rfl, rfl⟩, by decide +kernel⟩⟩
theorem xk_133_67 : xk_OkA xp_F (xp_P sc) xp_cl xp_BW xp_NW xp_SW xp_exn 133 67 (.aload 0) := Or.inr ⟨0, rfl, xd_133_120, rfl⟩
theorem xk_133_68 : xk_OkA xp_F (xp_P sc) xp_cl xp_BW xp_NW xp_SW xp_exn 133 68 (.aload 0) := Or.inr ⟨0, rfl, xd_133_121, rfl⟩
theorem xk_133_69 : xk_OkA xp_F (xp_P sc) xp_cl xp_BW xp_NW xp_SW xp_exn 133 69 (.iconst 0) := Or.inl ⟨xd_133_122, rfl⟩
theorem xk_133_70 : xk_OkA xp_F (xp_P sc) xp_cl xp_BW xp_NW xp_SW xp_exn 133 70 (.invokeinterface 124 2) := ⟨rfl, Or.inl ⟨xwt_836, rfl⟩, rfl, rfl, xwt_5, by decide +kernel, by decide +kernel, Nat.le_of_ble_eq_true rfl, _, Or.inl xwt_833, Or.inr ⟨xd_133_123, xwt_835, xws_84, ⟨_, _, _, rfl, rfl⟩, by decide +kernel⟩⟩
theorem xk_133_71 : xk_OkA xp_F (xp_P sc) xp_cl xp_BW xp_NW xp_SW xp_exn 133 71 (.ifCond .ne 77) := ⟨_, xd_133_126, by unfold xf_to; decide +kernel, rfl⟩
theorem xk_133_72 : xk_OkA xp_F (xp_P sc) xp_cl xp_BW xp_NW xp_SW xp_exn 133 72 (.aload 0) := Or.inr ⟨0, rfl, xd_133_129, rfl⟩
theorem xk_133_73 : xk_OkA xp_F (xp_P sc) xp_cl xp_BW xp_NW xp_SW xp_exn 133 73 (.getfield 132) := ⟨_, xd_133_130, rfl, ⟨_, _, _, rfl, by decide, xu_4, Or.inl xwt_758⟩⟩
theorem xk_133_74 : xk_OkA xp_F (xp_P sc) xp_cl xp_BW xp_NW xp_SW xp_exn 133 74 (.ifCond .eq 77) := ⟨_, xd_133_133, by unfold xf_to; decide +kernel, rfl⟩
theorem xk_133_75 : xk_OkA xp_F (xp_P sc) xp_cl xp_BW xp_NW xp_SW xp_exn 133 75 (.iconst 0) := Or.inl ⟨xd_133_136, rfl⟩
theorem xk_133_76 : xk_OkA xp_F (xp_P sc) xp_cl xp_BW xp_NW xp_SW xp_exn 133 76 (.goto 78) := ⟨_, xd_133_137, by unfold xf_to; decide +kernel⟩
theorem xk_133_77 : xk_OkA xp_F (xp_P sc) xp_cl xp_BW xp_NW xp_SW xp_exn 133 77 (.iconst 1) := Or.inl ⟨xd_133_140, rfl⟩
theorem xk_133_78 : xk_OkA xp_F (xp_P sc) xp_cl xp_BW xp_NW xp_SW xp_exn 133 78 (.putfield 128) := ⟨_, xd_133_141, rfl, ⟨_, _, _, rfl, by decide, xu_4, Or.inl xwt_754⟩, xf_4_0⟩
theorem xk_133_79 : xk_OkA xp_F (xp_P sc) xp_cl xp_BW xp_NW xp_SW xp_exn 133 79 (.return_) := ⟨xd_133_144, rfl⟩
theorem xl_133 : xk_OkL xp_F (xp_P sc) xp_cl xp_BW xp_NW xp_SW xp_exn 133 0 xc_133 := ⟨xk_133_0, xk_133_1, xk_133_2, xk_133_3, xk_133_4, xk_133_5, xk_133_6, xk_133_7, xk_133_8, xk_133_9, xk_133_10, xk_133_11, xk_133_12, xk_133_13, xk_133_14, xk_133_15, xk_133_16, xk_133_17, xk_133_18, xk_133_19, xk_133_20, xk_133_21, xk_133_22, xk_133_23, xk_133_24, xk_133_25, xk_133_26, xk_133_27, xk_133_28, xk_133_29, xk_133_30, xk_133_31, xk_133_32, xk_133_33, xk_133_34, xk_133_35, xk_133_36, xk_133_37, xk_133_38, xk_133_39, xk_133_40, xk_133_41, xk_133_42, xk_133_43, xk_133_44, xk_133_45, xk_133_46, xk_133_47, xk_133_48, xk_133_49, xk_133_50, xk_133_51, xk_133_52, xk_133_53, xk_133_54, xk_133_55, xk_133_56, xk_133_57, xk_133_58, xk_133_59, xk_133_60, xk_133_61, xk_133_62, xk_133_63, xk_133_64, xk_133_65, xk_133_66, xk_133_67, xk_133_68, xk_133_69, xk_133_70, xk_133_71, xk_133_72, xk_133_73, xk_133_74, xk_133_75, xk_133_76, xk_133_77, xk_133_78, xk_133_79, trivial⟩
theorem xd_134_0 : decode prog_6_method_29_code 0 = .ok (.aload_n 0, 1) := by decide +kernel
theorem xd_134_1 : decode prog_6_method_29_code 1 = .ok (.aload_n 0, 1) := by decide +kernel
theorem xd_134_2 : decode prog_6_method_29_code 2 = .ok (.getfield 20, 3) := by decide +kernel
theorem xd_134_5 : decode prog_6_method_29_code 5 = .ok (.ifCond .ne 7, 3) := by decide +kernel
theorem xd_134_8 : decode prog_6_method_29_code 8 = .ok (.iconst 1, 1) := by decide +kernel
theorem xd_134_9 : decode prog_6_method_29_code 9 = .ok (.goto 15, 3) := by decide +kernel
theorem xd_134_12 : decode prog_6_method_29_code 12 = .ok (.iload_n 1, 1) := by decide +kernel
theorem xd_134_13 : decode prog_6_method_29_code 13 = .ok (.invokestatic 103, 3) := by decide +kernel
theorem xd_134_16 : decode prog_6_method_29_code 16 = .ok (.ifCond .ne 7, 3) := by decide +kernel
theorem xd_134_19 : decode prog_6_method_29_code 19 = .ok (.iconst 2, 1) := by decide +kernel
theorem xd_134_20 : decode prog_6_method_29_code 20 = .ok (.goto 4, 3) := by decide +kernel
theorem xd_134_23 : decode prog_6_method_29_code 23 = .ok (.iconst 0, 1) := by decide +kernel
theorem xd_134_24 : decode prog_6_method_29_code 24 = .ok (.putfield 37, 3) := by decide +kernel
theorem xd_134_27 : decode prog_6_method_29_code 27 = .ok (.aload_n 0, 1) := by decide +kernel
theorem xd_134_28 : decode prog_6_method_29_code 28 = .ok (.getfield 37, 3) := by decide +kernel
theorem xd_134_31 : decode prog_6_method_29_code 31 = .ok (.ifCond .le 4, 3) := by decide +kernel
theorem xd_134_34 : decode prog_6_method_29_code 34 = .ok (.return_, 1) := by decide +kernel
theorem xd_134_35 : decode prog_6_method_29_code 35 = .ok (.aload_n 0, 1) := by decide +kernel
theorem xd_134_36 : decode prog_6_method_29_code 36 = .ok (.getfield 34, 3) := by decide +kernel
theorem xd_134_39 : decode prog_6_method_29_code 39 = .ok (.ifCond .lt 27, 3) := by decide +kernel
theorem xd_134_42 : decode prog_6_method_29_code 42 = .ok (.aload_n 0, 1) := by decide +kernel
theorem xd_134_43 : decode prog_6_method_29_code 43 = .ok (.getfield 65, 3) := by decide +kernel
theorem xd_134_46 : decode prog_6_method_29_code 46 = .ok (.ifCond .le 20, 3) := by decide +kernel
theorem xd_134_49 : decode prog_6_method_29_code 49 = .ok (.aload_n 0, 1) := by decide +kernel
theorem xd_134_50 : decode prog_6_method_29_code 50 = .ok (.getfield 65, 3) := by decide +kernel
theorem xd_134_53 : decode prog_6_method_29_code 53 = .ok (.iconst 1, 1) := by decide +kernel
theorem xd_134_54 : decode prog_6_method_29_code 54 = .ok (.isub, 1) := by decide +kernel
theorem xd_134_55 : decode prog_6_method_29_code 55 = .ok (.bipush 8, 2) := by decide +kernel
theorem xd_134_57 : decode prog_6_method_29_code 57 = .ok (.idiv, 1) := by decide +kernel
theorem xd_134_58 : decode prog_6_method_29_code 58 = .ok (.iload_n 1, 1) := by decide +kernel
theorem xd_134_59 : decode prog_6_method_29_code 59 = .ok (.if_icmp .ne 7, 3) := by decide +kernel
theorem xd_134_62 : decode prog_6_method_29_code 62 = .ok (.iconst 1, 1) := by decide +kernel
theorem xd_134_63 : decode prog_6_method_29_code 63 = .ok (.goto 4, 3) := by decide +kernel
theorem xd_134_66 : decode prog_6_method_29_code 66 = .ok (.iconst 0, 1) := by decide +kernel
theorem xd_134_67 : decode prog_6_method_29_code 67 = .ok (.istore_n 2, 1) := by decide +kernel
theorem xd_134_68 : decode prog_6_method_29_code 68 = .ok (.aload_n 0, 1) := by decide +kernel
theorem xd_134_69 : decode prog_6_method_29_code 69 = .ok (.aload_n 0, 1) := by decide +kernel
theorem xd_134_70 : decode prog_6_method_29_code 70 = .ok (.getfield 28, 3) := by decide +kernel
theorem xd_134_73 : decode prog_6_method_29_code 73 = .ok (.iconst 1, 1) := by decide +kernel
theorem xd_134_74 : decode prog_6_method_29_code 74 = .ok (.iload_n 1, 1) := by decide +kernel
theorem xd_134_75 : decode prog_6_method_29_code 75 = .ok (.iadd, 1) := by decide +kernel
theorem xd_134_76 : decode prog_6_method_29_code 76 = .ok (.iaload, 1) := by decide +kernel
theorem xd_134_77 : decode prog_6_method_29_code 77 = .ok (.ifCond .eq 30, 3) := by decide +kernel
theorem xd_134_80 : decode prog_6_method_29_code 80 = .ok (.aload_n 0, 1) := by decide +kernel
theorem xd_134_81 : decode prog_6_method_29_code 81 = .ok (.iload_n 1, 1) := by decide +kernel
theorem xd_134_82 : decode prog_6_method_29_code 82 = .ok (.invokevirtual 116, 3) := by decide +kernel
theorem xd_134_85 : decode prog_6_method_29_code 85 = .ok (.ifCond .gt 22, 3) := by decide +kernel
theorem xd_134_88 : decode prog_6_method_29_code 88 = .ok (.iload_n 2, 1) := by decide +kernel
theorem xd_134_89 : decode prog_6_method_29_code 89 = .ok (.ifCond .ne 18, 3) := by decide +kernel
theorem xd_134_92 : decode prog_6_method_29_code 92 = .ok (.aload_n 0, 1) := by decide +kernel
theorem xd_134_93 : decode prog_6_method_29_code 93 = .ok (.invokevirtual 119, 3) := by decide +kernel
theorem xd_134_96 : decode prog_6_method_29_code 96 = .ok (.iconst 2, 1) := by decide +kernel
theorem xd_134_97 : decode prog_6_method_29_code 97 = .ok (.if_icmp .lt 10, 3) := by decide +kernel
theorem xd_134_100 : decode prog_6_method_29_code 100 = .ok (.aload_n 0, 1) := by decide +kernel
theorem xd_134_101 : decode prog_6_method_29_code 101 = .ok (.invokevirtual 52, 3) := by decide +kernel
theorem xd_134_104 : decode prog_6_method_29_code 104 = .ok (.ifCond .eq 7, 3) := by decide +kernel
theorem xd_134_107 : decode prog_6_method_29_code 107 = .ok (.iconst 3, 1) := by decide +kernel
theorem xd_134_108 : decode prog_6_method_29_code 108 = .ok (.goto 4, 3) := by decide +kernel
theorem xd_134_111 : decode prog_6_method_29_code 111 = .ok (.iconst 0, 1) := by decide +kernel
theorem xd_134_112 : decode prog_6_method_29_code 112 = .ok (.putfield 37, 3) := by decide +kernel
theorem xd_134_115 : decode prog_6_method_29_code 115 = .ok (.aload_n 0, 1) := by decide +kernel
theorem xd_134_116 : decode prog_6_method_29_code 116 = .ok (.getfield 37, 3) := by decide +kernel
theorem xd_134_119 : decode prog_6_method_29_code 119 = .ok (.ifCond .le 4, 3) := by decide +kernel
theorem xd_134_122 : decode prog_6_method_29_code 122 = .ok (.return_, 1) := by decide +kernel
theorem xd_134_123 : decode prog_6_method_29_code 123 = .ok (.aload_n 0, 1) := by decide +kernel
theorem xd_134_124 : decode prog_6_method_29_code 124 = .ok (.invokevirtual 107, 3) := by decide +kernel
theorem xd_134_127 : decode prog_6_method_29_code 127 = .ok (.aload_n 0, 1) := by decide +kernel
theorem xd_134_128 : decode prog_6_method_29_code 128 = .ok (.getfield 31, 3) := by decide +kernel
theorem xd_134_131 : decode prog_6_method_29_code 131 = .ok (.iconst 1, 1) := by decide +kernel
theorem xd_134_132 : decode prog_6_method_29_code 132 = .ok (.iload_n 1, 1) := by decide +kernel
theorem xd_134_133 : decode prog_6_method_29_code 133 = .ok (.iadd, 1) := by decide +kernel
theorem xd_134_134 : decode prog_6_method_29_code 134 = .ok (.iconst 0, 1) := by decide +kernel
theorem xd_134_135 : decode prog_6_method_29_code 135 = .ok (.iastore, 1) := by decide +kernel
theorem xd_134_136 : decode prog_6_method_29_code 136 = .ok (.aload_n 0, 1) := by decide +kernel
theorem xd_134_137 : decode prog_6_method_29_code 137 = .ok (.invokevirtual 110, 3) := by decide +kernel
theorem xd_134_140 : decode prog_6_method_29_code 140 = .ok (.aload_n 0, 1) := by decide +kernel
theorem xd_134_141 : decode prog_6_method_29_code 141 = .ok (.aload_n 0, 1) := by decide +kernel
theorem xd_134_142 : decode prog_6_method_29_code 142 = .ok (.getfield 34, 3) := by decide +kernel
theorem xd_134_145 : decode prog_6_method_29_code 145 = .ok (.iload_n 1, 1) := by decide +kernel
theorem xd_134_146 : decode prog_6_method_29_code 146 = .ok (.if_icmp .ne 7, 3) := by decide +kernel
theorem xd_134_149 : decode prog_6_method_29_code 149 = .ok (.iconst (-1), 1) := by decide +kernel
theorem xd_134_150 : decode prog_6_method_29_code 150 = .ok (.goto 7, 3) := by decide +kernel
theorem xd_134_153 : decode prog_6_method_29_code 153 = .ok (.aload_n 0, 1) := by decide +kernel
theorem xd_134_154 : decode prog_6_method_29_code 154 = .ok (.getfield 34, 3) := by decide +kernel
theorem xd_134_157 : decode prog_6_method_29_code 157 = .ok (.putfield 34, 3) := by decide +kernel
theorem xd_134_160 : decode prog_6_method_29_code 160 = .ok (.aload_n 0, 1) := by decide +kernel
theorem xd_134_161 : decode prog_6_method_29_code 161 = .ok (.aload_n 0, 1) := by decide +kernel
theorem xd_134_162 : decode prog_6_method_29_code 162 = .ok (.getfield 20, 3) := by decide +kernel
theorem xd_134_165 : decode prog_6_method_29_code 165 = .ok (.ifCond .eq 7, 3) := by decide +kernel
theorem xd_134_168 : decode prog_6_method_29_code 168 = .ok (.iconst 0, 1) := by decide +kernel
theorem xd_134_169 : decode prog_6_method_29_code 169 = .ok (.goto 4, 3) := by decide +kernel
theorem xd_134_172 : decode prog_6_method_29_code 172 = .ok (.iconst 1, 1) := by decide +kernel
theorem xd_134_173 : decode prog_6_method_29_code 173 = .ok (.putfield 37, 3) := by decide +kernel
theorem xd_134_176 : decode prog_6_method_29_code 176 = .ok (.return_, 1) := by decide +kernel
theorem xk_134_0 : xk_OkA xp_F (xp_P sc) xp_cl xp_BW xp_NW xp_SW xp_exn 134 0 (.aload 0) := Or.inr ⟨0, rfl, xd_134_0, rfl⟩
theorem xk_134_1 : xk_OkA xp_F (xp_P sc) xp_cl xp_BW xp_NW xp_SW xp_exn 134 1 (.aload 0) := Or.inr ⟨0, rfl, xd_134_1, rfl⟩
theorem xk_134_2 : xk_OkA xp_F (xp_P sc) xp_cl xp_BW xp_NW xp_SW xp_exn 134 2 (.getfield 132) := ⟨_, xd_134_2, rfl, ⟨_, _, _, rfl, by decide, xu_4, Or.inl xwt_758⟩⟩
theorem xk_134_3 : xk_OkA xp_F (xp_P sc) xp_cl xp_BW xp_NW xp_SW xp_exn 134 3 (.ifCond .ne 6) := ⟨_, xd_134_5, by unfold xf_to; decide +kernel, rfl⟩
theorem xk_134_4 : xk_OkA xp_F (xp_P sc) xp_cl xp_BW xp_NW xp_SW xp_exn 134 4 (.iconst 1) := Or.inl ⟨xd_134_8, rfl⟩
theorem xk_134_5 : xk_OkA xp_F (xp_P sc) xp_cl xp_BW xp_NW xp_SW xp_exn 134 5 (.goto 12) := ⟨_, xd_134_9, by unfold xf_to; decide +kernel⟩
theorem xk_134_6 : xk_OkA xp_F (xp_P sc) xp_cl xp_BW xp_NW xp_SW xp_exn 134 6 (.iload 1) := Or.inr ⟨1, rfl, xd_134_12, rfl⟩
theorem xk_134_7 : xk_OkA xp_F (xp_P sc) xp_cl xp_BW xp_NW xp_SW xp_exn 134 7 (.invokeinterface 108 1) := ⟨rfl, Or.inl ⟨xwt_804, rfl⟩, rfl, rfl, xwt_5, by decide +kernel, by decide +kernel, Nat.le_of_ble_eq_true rfl, _, Or.inl xwt_802, Or.inl ⟨xd_134_13, xwt_803, rfl, by decide +kernel⟩⟩
theorem xk_134_8 : xk_OkA xp_F (xp_P sc) xp_cl xp_BW xp_NW xp_SW xp_exn 134 8 (.ifCond .ne 11) := ⟨_, xd_134_16, by unfold xf_to; decide +kernel, rfl⟩
theorem xk_134_9 : xk_OkA xp_F (xp_P sc) xp_cl xp_BW xp_NW xp_SW xp_exn 134 9 (.iconst 2) := Or.inl ⟨xd_134_19, rfl⟩
theorem xk_134_10 : xk_OkA xp_F (xp_P sc) xp_cl xp_BW xp_NW xp_SW xp_exn 134 10 (.goto 12) := ⟨_, xd_134_20, by unfold xf_to; decide +kernel⟩
theorem xk_134_11 : xk_OkA xp_F (xp_P sc) xp_cl xp_BW xp_NW xp_SW xp_exn 134 11 (.iconst 0) := Or.inl ⟨xd_134_23, rfl⟩
theorem xk_134_12 : xk_OkA xp_F (xp_P sc) xp_cl xp_BW xp_NW xp_SW xp_exn 134 12 (.putfield 128) := ⟨_, xd_134_24, rfl, ⟨_, _, _, rfl, by decide, xu_4, Or.inl xwt_754⟩, xf_4_0⟩
theorem xk_134_13 : xk_OkA xp_F (xp_P sc) xp_cl xp_BW xp_NW xp_SW xp_exn 134 13 (.aload 0) := Or.inr ⟨0, rfl, xd_134_27, rfl⟩
theorem xk_134_14 : xk_OkA xp_F (xp_P sc) xp_cl xp_BW xp_NW xp_SW xp_exn 134 14 (.getfield 128) := ⟨_, xd_134_28, rfl, ⟨_, _, _, rfl, by decide, xu_4, Or.inl xwt_754⟩⟩
theorem xk_134_15 : xk_OkA xp_F (xp_P sc) xp_cl xp_BW xp_NW xp_SW xp_exn 134 15 (.ifCond .le 17) := ⟨_, xd_134_31, by unfold xf_to; decide +kernel, rfl⟩
theorem xk_134_16 : xk_OkA xp_F (xp_P sc) xp_cl xp_BW xp_NW xp_SW xp_exn 134 16 (.return_) := ⟨xd_134_34, rfl⟩
theorem xk_134_17 : xk_OkA xp_F (xp_P sc) xp_cl xp_BW xp_NW xp_SW xp_exn 134 17 (.aload 0) := Or.inr ⟨0, rfl, xd_134_35, rfl⟩
theorem xk_134_18 : xk_OkA xp_F (xp_P sc) xp_cl xp_BW xp_NW xp_SW xp_exn 134 18 (.getfield 136) := ⟨_, xd_134_36, rfl, ⟨_, _, _, rfl, by decide, xu_4, Or.inl xwt_762⟩⟩
theorem xk_134_19 : xk_OkA xp_F (xp_P sc) xp_cl xp_BW xp_NW xp_SW xp_exn 134 19 (.ifCond .lt 33) := ⟨_, xd_134_39, by unfold xf_to; decide +kernel, rfl⟩
theorem xk_134_20 : xk_OkA xp_F (xp_P sc) xp_cl xp_BW xp_NW xp_SW xp_exn 134 20 (.aload 0) := Or.inr ⟨0, rfl, xd_134_42, rfl⟩
theorem xk_134_21 : xk_OkA xp_F (xp_P sc) xp_cl xp_BW xp_NW xp_SW xp_exn 134 21 (.getfield 139) := ⟨_, xd_134_43, rfl, ⟨_, _, _, rfl, by decide, xu_4, Or.inl xwt_765⟩⟩
theorem xk_134_22 : xk_OkA xp_F (xp_P sc) xp_cl xp_BW xp_NW xp_SW xp_exn 134 22 (.ifCond .le 33) := ⟨_, xd_134_46, by unfold xf_to; decide +kernel, rfl⟩
theorem xk_134_23 : xk_OkA xp_F (xp_P sc) xp_cl xp_BW xp_NW xp_SW xp_exn 134 23 (.aload 0) := Or.inr ⟨0, rfl, xd_134_49, rfl⟩
theorem xk_134_24 : xk_OkA xp_F (xp_P sc) xp_cl xp_BW xp_NW xp_SW xp_exn 134 24 (.getfield 139) := ⟨_, xd_134_50, rfl, ⟨_, _, _, rfl, by decide, xu_4, Or.inl xwt_765⟩⟩
theorem xk_134_25 : xk_OkA xp_F (xp_P sc) xp_cl xp_BW xp_NW xp_SW xp_exn 134 25 (.iconst 1) := Or.inl ⟨xd_134_53, rfl⟩
theorem xk_134_26 : xk_OkA xp_F (xp_P sc) xp_cl xp_BW xp_NW xp_SW xp_exn 134 26 (.isub) := ⟨xd_134_54, rfl⟩
theorem xk_134_27 : xk_OkA xp_F (xp_P sc) xp_cl xp_BW xp_NW xp_SW xp_exn 134 27 (.iconst 8) := Or.inr (Or.inl ⟨xd_134_55, by decide +kernel, rfl⟩)
theorem xk_134_28 : xk_OkA xp_F (xp_P sc) xp_cl xp_BW xp_NW xp_SW xp_exn 134 28 (.idiv) := ⟨xd_134_57, rfl⟩
theorem xk_134_29 : xk_OkA xp_F (xp_P sc) xp_cl xp_BW xp_NW xp_SW xp_exn 134 29 (.iload 1) := Or.inr ⟨1, rfl, xd_134_58, rfl⟩
theorem xk_134_30 : xk_OkA xp_F (xp_P sc) xp_cl xp_BW xp_NW xp_SW xp_exn 134 30 (.if_icmp .ne 33) := ⟨_, xd_134_59, by unfold xf_to; decide +kernel, rfl⟩
theorem xk_134_31 : xk_OkA xp_F (xp_P sc) xp_cl xp_BW xp_NW xp_SW xp_exn 134 31 (.iconst 1) := Or.inl ⟨xd_134_62, rfl⟩
theorem xk_134_32 : xk_OkA xp_F (xp_P sc) xp_cl xp_BW xp_NW xp_SW xp_exn 134 32 (.goto 34) := ⟨_, xd_134_63, by unfold xf_to; decide +kernel⟩
theorem xk_134_33 : xk_OkA xp_F (xp_P sc) xp_cl xp_BW xp_NW xp_SW xp_exn 134 33 (.iconst 0) := Or.inl ⟨xd_134_66, rfl⟩
theorem xk_134_34 : xk_OkA xp_F (xp_P sc) xp_cl xp_BW xp_NW xp_SW xp_exn 134 34 (.istore 2) := Or.inr ⟨2, rfl, xd_134_67, rfl⟩
theorem xk_134_35 : xk_OkA xp_F (xp_P sc) xp_cl xp_BW xp_NW xp_SW xp_exn 134 35 (.aload 0) := Or.inr ⟨0, rfl, xd_134_68, rfl⟩
theorem xk_134_36 : xk_OkA xp_F (xp_P sc) xp_cl xp_BW xp_NW xp_SW xp_exn 134 36 (.aload 0) := Or.inr ⟨0, rfl, xd_134_69, rfl⟩
theorem xk_134_37 : xk_OkA xp_F (xp_P sc) xp_cl xp_BW xp_NW xp_SW xp_exn 134 37 (.getfield 134) := ⟨_, xd_134_70, rfl, ⟨_, _, _, rfl, by decide, xu_4, Or.inl xwt_760⟩⟩
theorem xk_134_38 : xk_OkA xp_F (xp_P sc) xp_cl xp_BW xp_NW xp_SW xp_exn 134 38 (.iconst 1) := Or.inl ⟨xd_134_73, rfl⟩
theorem xk_134_39 : xk_OkA xp_F (xp_P sc) xp_cl xp_BW xp_NW xp_SW xp_exn 134 39 (.iload 1) := Or.inr ⟨1, rfl, xd_134_74, rfl⟩
theorem xk_134_40 : xk_OkA xp_F (xp_P sc) xp_cl xp_BW xp_NW xp_SW xp_exn 134 40 (.iadd) := ⟨xd_134_75, rfl⟩
theorem xk_134_41 : xk_OkA xp_F (xp_P sc) xp_cl xp_BW xp_NW xp_SW xp_exn 134 41 (.iaload) := ⟨xd_134_76, rfl⟩
theorem xk_134_42 : xk_OkA xp_F (xp_P sc) xp_cl xp_BW xp_NW xp_SW xp_exn 134 42 (.ifCond .eq 56) := ⟨_, xd_134_77, by unfold xf_to; decide +kernel, rfl⟩
theorem xk_134_43 : xk_OkA xp_F (xp_P sc) xp_cl xp_BW xp_NW xp_SW xp_exn 134 43 (.aload 0) := Or.inr ⟨0, rfl, xd_134_80, rfl⟩
theorem xk_134_44 : xk_OkA xp_F (xp_P sc) xp_cl xp_BW xp_NW xp_SW xp_exn 134 44 (.iload 1) := Or.inr ⟨1, rfl, xd_134_81, rfl⟩
theorem xk_134_45 : xk_OkA xp_F (xp_P sc) xp_cl xp_BW xp_NW xp_SW xp_exn 134 45 (.invokeinterface 117 2) := ⟨rfl, Or.inl ⟨xwt_844, rfl⟩, rfl, rfl, xwt_5, by decide +kernel, by decide +kernel, Nat.le_of_ble_eq_true rfl, _, Or.inl xwt_841, Or.inr ⟨xd_134_82, xwt_843, xws_85, ⟨_, _, _, rfl, rfl⟩, by decide +kernel⟩⟩
theorem xk_134_46 : xk_OkA xp_F (xp_P sc) xp_cl xp_BW xp_NW xp_SW xp_exn 134 46 (.ifCond .gt 56) := ⟨_, xd_134_85, by unfold xf_to; decide +kernel, rfl⟩
theorem xk_134_47 : xk_OkA xp_F (xp_P sc) xp_cl xp_BW xp_NW xp_SW xp_exn 134 47 (.iload 2) := Or.inr ⟨2, rfl, xd_134_88, rfl⟩
theorem xk_134_48 : xk_OkA xp_F (xp_P sc) xp_cl xp_BW xp_NW xp_SW xp_exn 134 48 (.ifCond .ne 56) := ⟨_, xd_134_89, by unfold xf_to; decide +kernel, rfl⟩
theorem xk_134_49 : xk_OkA xp_F (xp_P sc) xp_cl xp_BW xp_NW xp_SW xp_exn 134 49 (.aload 0) := Or.inr ⟨0, rfl, xd_134_92, rfl⟩
theorem xk_134_50 : xk_OkA xp_F (xp_P sc) xp_cl xp_BW xp_NW xp_SW xp_exn 134 50 (.invokeinterface 132 1) := ⟨rfl, Or.inl ⟨xwt_848, rfl⟩, rfl, rfl, xwt_5, by decide +kernel, by decide +kernel, Nat.le_of_ble_eq_true rfl, _, Or.inl xwt_845, Or.inr ⟨xd_134_93, xwt_847, xws_86, ⟨_, _, _, rfl, rfl⟩, by decide +kernel⟩⟩
theorem xk_134_51 : xk_OkA xp_F (xp_P sc) xp_cl xp_BW xp_NW xp_SW xp_exn 134 51 (.iconst 2) := Or.inl ⟨xd_134_96, rfl⟩
theorem xk_134_52 : xk_OkA xp_F (xp_P sc) xp_cl xp_BW xp_NW xp_SW xp_exn 134 52 (.if_icmp .lt 56) := ⟨_, xd_134_97, by unfold xf_to; decide +kernel, rfl⟩
theorem xk_134_53 : xk_OkA xp_F (xp_P sc) xp_cl xp_BW xp_NW xp_SW xp_exn 134 53 (.aload 0) := Or.inr ⟨0, rfl, xd_134_100, rfl⟩
theorem xk_134_54 : xk_OkA xp_F (xp_P sc) xp_cl xp_BW xp_NW xp_SW xp_exn 134 54 (.invokeinterface 118 1) := ⟨rfl, Or.inl ⟨xwt_808, rfl⟩, rfl, rfl, xwt_5, by decide +kernel, by decide +kernel, Nat.le_of_ble_eq_true rfl, _, Or.inl xwt_805, Or.inr ⟨xd_134_101, xwt_807, xws_77, ⟨_, _, _, rfl, rfl⟩, by decide +kernel⟩⟩
theorem xk_134_55 : xk_OkA xp_F (xp_P sc) xp_cl xp_BW xp_NW xp_SW xp_exn 134 55 (.ifCond .eq 58) := ⟨_, xd_134_104, by unfold xf_to; decide +kernel, rfl⟩
theorem xk_134_56 : xk_OkA xp_F (xp_P sc) xp_cl xp_BW xp_NW xp_SW xp_exn 134 56 (.iconst 3) := Or.inl ⟨xd_134_107, rfl⟩
theorem xk_134_57 : xk_OkA xp_F (xp_P sc) xp_cl xp_BW xp_NW xp_SW xp_exn 134 57 (.goto 59) := ⟨_, xd_134_108, by unfold xf_to; decide +kernel⟩
theorem xk_134_58 : xk_OkA xp_F (xp_P sc) xp_cl xp_BW xp_NW xp_SW xp_exn 134 58 (.iconst 0) := Or.inl ⟨xd_134_111, rfl⟩
theorem xk_134_59 : xk_OkA xp_F (xp_P sc) xp_cl xp_BW xp_NW xp_SW xp_exn 134 59 (.putfield 128) := ⟨_, xd_134_112, rfl, ⟨_, _, _, rfl, by decide, xu_4, Or.inl xwt_754⟩, xf_4_0⟩
theorem xk_134_60 : xk_OkA xp_F (xp_P sc) xp_cl xp_BW xp_NW xp_SW xp_exn 134 60 (.aload 0) := Or.inr ⟨0, rfl, xd_134_115, rfl⟩
theorem xk_134_61 : xk_OkA xp_F (xp_P sc) xp_cl xp_BW xp_NW xp_SW xp_exn 134 61 (.getfield 128) := ⟨_, xd_134_116, rfl, ⟨_, _, _, rfl, by decide, xu_4, Or.inl xwt_754⟩⟩
theorem xk_134_62 : xk_OkA xp_F (xp_P sc) xp_cl xp_BW xp_NW xp_SW xp_exn 134 62 (.ifCond .le 64) := ⟨_, xd_134_119, by unfold xf_to; decide +kernel, rfl⟩
theorem xk_134_63 : xk_OkA xp_F (xp_P sc) xp_cl xp_BW xp_NW xp_SW xp_exn 134 63 (.return_) := ⟨xd_134_122, rfl⟩
theorem xk_134_64 : xk_OkA xp_F (xp_P sc) xp_cl xp_BW xp_NW xp_SW xp_exn 134 64 (.aload 0) := Or.inr ⟨0, rfl, xd_134_123, rfl⟩
theorem xk_134_65 : xk_OkA xp_F (xp_P sc) xp_cl xp_BW xp_NW xp_SW xp_exn 134 65 (.invokeinterface 119 1) := ⟨rfl, Or.inl ⟨xwt_812, rfl⟩, rfl, rfl, xwt_5, by decide +kernel, by decide +kernel, Nat.le_of_ble_eq_true rfl, _, Or.inl xwt_809, Or.inr ⟨xd_134_124, xwt_811, xws_78, ⟨_, _, _, rfl, rfl⟩, by decide +kernel⟩⟩
theorem xk_134_66 : xk_OkA xp_F (xp_P sc) xp_cl xp_BW xp_NW xp_SW xp_exn 134 66 (.aload 0) := Or.inr ⟨0, rfl, xd_134_127, rfl⟩
theorem xk_134_67 : xk_OkA xp_F (xp_P sc) xp_cl xp_BW xp_NW xp_SW xp_exn 134 67 (.getfield 135) := ⟨_, xd_134_128, rfl, ⟨_, _, _, rfl, by decide, xu_4, Or.inl xwt_761⟩⟩
theorem xk_134_68 : xk_OkA xp_F (xp_P sc) xp_cl xp_BW xp_NW xp_SW xp_exn 134 68 (.iconst 1) := Or.inl ⟨xd_134_131, rfl⟩
theorem xk_134_69 : xk_OkA xp_F (xp_P sc) xp_cl xp_BW xp_NW xp_SW xp_exn 134 69 (.iload 1) := Or.inr ⟨1, rfl, xd_134_132, rfl⟩
theorem xk_134_70 : xk_OkA xp_F (xp_P sc) xp_cl xp_BW xp_NW xp_SW xp_exn 134 70 (.iadd) := ⟨xd_134_133, rfl⟩
theorem xk_134_71 : xk_OkA xp_F (xp_P sc) xp_cl xp_BW xp_NW xp_SW xp_exn 134 71 (.iconst 0) := Or.inl ⟨xd_134_134, rfl⟩
theorem xk_134_72 : xk_OkA xp_F (xp_P sc) xp_cl xp_BW xp_NW xp_SW xp_exn 134 72 (.iastore) := ⟨xd_134_135, rfl⟩
theorem xk_134_73 : xk_OkA xp_F (xp_P sc) xp_cl xp_BW xp_NW xp_SW xp_exn 134 73 (.aload 0) := Or.inr ⟨0, rfl, xd_134_136, rfl⟩
theorem xk_134_74 : xk_OkA xp_F (xp_P sc) xp_cl xp_BW xp_NW xp_SW xp_exn 134 74 (.invokeinterface 123 1) := ⟨rfl, Or.inl ⟨xwt_816, rfl⟩, rfl, rfl, xwt_5, by decide +kernel, by decide +kernel, Nat.le_of_ble_eq_true rfl, _, Or.inl xwt_813, Or.inr ⟨xd_134_137, xwt_815, xws_79, ⟨_, _, _, rfl, rfl⟩, by decide +kernel⟩⟩
theorem xk_134_75 : xk_OkA xp_F (xp_P sc) xp_cl xp_BW xp_NW xp_SW xp_exn 134 75 (.aload 0) := Or.inr ⟨0, rfl, xd_134_140, rfl⟩
theorem xk_134_76 : xk_OkA xp_F (xp_P sc) xp_cl xp_BW xp_NW xp_SW xp_exn 134 76 (.aload 0) := Or.inr ⟨0, rfl, xd_134_141, rfl⟩
theorem xk_134_77 : xk_OkA xp_F (xp_P sc) xp_cl xp_BW xp_NW xp_SW xp_exn 134 77 (.getfield 136) := ⟨_, xd_134_142, rfl, ⟨_, _, _, rfl, by decide, xu_4, Or.inl xwt_762⟩⟩
theorem xk_134_78 : xk_OkA xp_F (xp_P sc) xp_cl xp_BW xp_NW xp_SW xp_exn 134 78 (.iload 1) := Or.inr ⟨1, rfl, xd_134_145, rfl⟩
theorem xk_134_79 : xk_OkA xp_F (xp_P sc) xp_cl xp_BW xp_NW xp_SW xp_exn 134 79 (.if_icmp .ne 82) := ⟨_, xd_134_146, by unfold xf_to; decide +kernel, rfl⟩
theorem xk_134_80 : xk_OkA xp_F (xp_P sc) xp_cl xp_BW xp_NW xp_SW xp_exn 134 80 (.iconst (-1)) := Or.inl ⟨xd_134_149, rfl⟩
theorem xk_134_81 : xk_OkA xp_F (xp_P sc) xp_cl xp_BW xp_NW xp_SW xp_exn 134 81 (.goto 84) := ⟨_, xd_134_150, by unfold xf_to; decide +kernel⟩
theorem xk_134_82 : xk_OkA xp_F (xp_P sc) xp_cl xp_BW xp_NW xp_SW xp_exn 134 82 (.aload 0) := Or.inr ⟨0, rfl, xd_134_153, rfl⟩
theorem xk_134_83 : xk_OkA xp_F (xp_P sc) xp_cl xp_BW xp_NW xp_SW xp_exn 134 83 (.getfield 136) := ⟨_, xd_134_154, rfl, ⟨_, _, _, rfl, by decide, xu_4, Or.inl xwt_762⟩⟩
theorem xk_134_84 : xk_OkA xp_F (xp_P sc) xp_cl xp_BW xp_NW xp_SW xp_exn 134 84 (.putfield 136) := ⟨_, xd_134_157, rfl, ⟨_, _, _, rfl, by decide, xu_4, Or.inl xwt_762⟩, xf_4_8⟩
theorem xk_134_85 : xk_OkA xp_F (xp_P sc) xp_cl xp_BW xp_NW xp_SW xp_exn 134 85 (.aload 0) := Or.inr ⟨0, rfl, xd_134_160, rfl⟩
theorem xk_134_86 : xk_OkA xp_F (xp_P sc) xp_cl xp_BW xp_NW xp_SW xp_exn 134 86 (.aload 0) := Or.inr ⟨0, rfl, xd_134_161, rfl⟩
theorem xk_134_87 : xk_OkA xp_F (xp_P sc) xp_cl xp_BW xp_NW xp_SW xp_exn 134 87 (.getfield 132) := ⟨_, xd_134_162, rfl, ⟨_, _, _, rfl, by decide, xu_4, Or.inl xwt_758⟩⟩
theorem xk_134_88 : xk_OkA xp_F (xp_P sc) xp_cl xp_BW xp_NW xp_SW xp_exn 134 88 (.ifCond .eq 91) := ⟨_, xd_134_165, by unfold xf_to; decide +kernel, rfl⟩
theorem xk_134_89 : xk_OkA xp_F (xp_P sc) xp_cl xp_BW xp_NW xp_SW xp_exn 134 89 (.iconst 0) := Or.inl ⟨xd_134_168, rfl⟩
theorem xk_134_90 : xk_OkA xp_F (xp_P sc) xp_cl xp_BW xp_NW xp_SW xp_exn 134 90 (.goto 92) := ⟨_, xd_134_169, by unfold xf_to; decide +kernel⟩
theorem xk_134_91 : xk_OkA xp_F (xp_P sc) xp_cl xp_BW xp_NW xp_SW xp_exn 134 91 (.iconst 1) := Or.inl ⟨xd_134_172, rfl⟩
theorem xk_134_92 : xk_OkA xp_F (xp_P sc) xp_cl xp_BW xp_NW xp_SW xp_exn 134 92 (.putfield 128) := ⟨_, xd_134_173, rfl, ⟨_, _, _, rfl, by decide, xu_4, Or.inl xwt_754⟩, xf_4_0⟩
theorem xk_134_93 : xk_OkA xp_F (xp_P sc) xp_cl xp_BW xp_NW xp_SW xp_exn 134 93 (.return_) := ⟨xd_134_176, rfl⟩
theorem xl_134 : xk_OkL xp_F (xp_P sc) xp_cl xp_BW xp_NW xp_SW xp_exn 134 0 xc_134 := ⟨xk_134_0, xk_134_1, xk_134_2, xk_134_3, xk_134_4, xk_134_5, xk_134_6, xk_134_7, xk_134_8, xk_134_9, xk_134_10, xk_134_11, xk_134_12, xk_134_13, xk_134_14, xk_134_15, xk_134_16, xk_134_17, xk_134_18, xk_134_19, xk_134_20, xk_134_21, xk_134_22, xk_134_23, xk_134_24, xk_134_25, xk_134_26, xk_134_27, xk_134_28, xk_134_29, xk_134_30, xk_134_31, xk_134_32, xk_134_33, xk_134_34, xk_134_35, xk_134_36, xk_134_37, xk_134_38, xk_134_39, xk_134_40, xk_134_41, xk_134_42, xk_134_43, xk_134_44, xk_134_45, xk_134_46, xk_134_47, xk_134_48, xk_134_49, xk_134_50, xk_134_51, xk_134_52, xk_134_53, xk_134_54, xk_134_55, xk_134_56, xk_134_57, xk_134_58, xk_134_59, xk_134_60, xk_134_61, xk_134_62, xk_134_63, xk_134_64, xk_134_65, xk_134_66, xk_134_67, xk_134_68, xk_134_69, xk_134_70, xk_134_71, xk_134_72, xk_134_73, xk_134_74, xk_134_75, xk_134_76, xk_134_77, xk_134_78, xk_134_79, xk_134_80, xk_134_81, xk_134_82, xk_134_83, xk_134_84, xk_134_85, xk_134_86, xk_134_87, xk_134_88, xk_134_89, xk_134_90, xk_134_91, xk_134_92, xk_134_93, trivial⟩
theorem xd_135_0 : decode prog_6_method_30_code 0 = .ok (.aload_n 0, 1) := by decide +kernel
theorem xd_135_1 : decode prog_6_method_30_code 1 = .ok (.aload_n 0, 1) := by decide +kernel
theorem xd_135_2 : decode prog_6_method_30_code 2 = .ok (.getfield 20, 3) := by decide +kernel
theorem xd_135_5 : decode prog_6_method_30_code 5 = .ok (.ifCond .ne 7, 3) := by decide +kernel
theorem xd_135_8 : decode prog_6_method_30_code 8 = .ok (.iconst 1, 1) := by decide +kernel
theorem xd_135_9 : decode prog_6_method_30_code 9 = .ok (.goto 15, 3) := by decide +kernel
theorem xd_135_12 : decode prog_6_method_30_code 12 = .ok (.iload_n 1, 1) := by decide +kernel
theorem xd_135_13 : decode prog_6_method_30_code 13 = .ok (.invokestatic 103, 3) := by decide +kernel
theorem xd_135_16 : decode prog_6_method_30_code 16 = .ok (.ifCond .ne 7, 3) := by decide +kernel
theorem xd_135_19 : decode prog_6_method_30_code 19 = .ok (.iconst 2, 1) := by decide +kernel
theorem xd_135_20 : decode prog_6_method_30_code 20 = .ok (.goto 4, 3) := by decide +kernel
theorem xd_135_23 : decode prog_6_method_30_code 23 = .ok (.iconst 0, 1) := by decide +kernel
theorem xd_135_24 : decode prog_6_method_30_code 24 = .ok (.putfield 37, 3) := by decide +kernel
theorem xd_135_27 : decode prog_6_method_30_code 27 = .ok (.aload_n 0, 1) := by decide +kernel
theorem xd_135_28 : decode prog_6_method_30_code 28 = .ok (.getfield 37, 3) := by decide +kernel
theorem xd_135_31 : decode prog_6_method_30_code 31 = .ok (.ifCond .le 5, 3) := by decide +kernel
theorem xd_135_34 : decode prog_6_method_30_code 34 = .ok (.iconst 0, 1) := by decide +kernel
theorem xd_135_35 : decode prog_6_method_30_code 35 = .ok (.ireturn, 1) := by decide +kernel
theorem xd_135_36 : decode prog_6_method_30_code 36 = .ok (.iconst 0, 1) := by decide +kernel
theorem xd_135_37 : decode prog_6_method_30_code 37 = .ok (.istore_n 2, 1) := by decide +kernel
theorem xd_135_38 : decode prog_6_method_30_code 38 = .ok (.iconst 0, 1) := by decide +kernel
theorem xd_135_39 : decode prog_6_method_30_code 39 = .ok (.istore_n 3, 1) := by decide +kernel
theorem xd_135_40 : decode prog_6_method_30_code 40 = .ok (.iload_n 3, 1) := by decide +kernel
theorem xd_135_41 : decode prog_6_method_30_code 41 = .ok (.iconst 4, 1) := by decide +kernel
theorem xd_135_42 : decode prog_6_method_30_code 42 = .ok (.if_icmp .ge 39, 3) := by decide +kernel
theorem xd_135_45 : decode prog_6_method_30_code 45 = .ok (.iload_n 2, 1) := by decide +kernel
theorem xd_135_46 : decode prog_6_method_30_code 46 = .ok (.ifCond .ne 23, 3) := by decide +kernel
theorem xd_135_49 : decode prog_6_method_30_code 49 = .ok (.aload_n 0, 1) := by decide +kernel
theorem xd_135_50 : decode prog_6_method_30_code 50 = .ok (.getfield 28, 3) := by decide +kernel
theorem xd_135_53 : decode prog_6_method_30_code 53 = .ok (.iconst 1, 1) := by decide +kernel
theorem xd_135_54 : decode prog_6_method_30_code 54 = .ok (.iload_n 3, 1) := by decide +kernel
theorem xd_135_55 : decode prog_6_method_30_code 55 = .ok (.iadd, 1) := by decide +kernel
theorem xd_135_56 : decode prog_6_method_30_code 56 = .ok (.iaload, 1) := by decide +kernel
theorem xd_135_57 : decode prog_6_method_30_code 57 = .ok (.ifCond .le 16, 3) := by decide +kernel
theorem xd_135_60 : decode prog_6_method_30_code 60 = .ok (.aload_n 0, 1) := by decide +kernel
theorem xd_135_61 : decode prog_6_method_30_code 61 = .ok (.getfield 7, 3) := by decide +kernel
theorem xd_135_64 : decode prog_6_method_30_code 64 = .ok (.iload_n 3, 1) := by decide +kernel
theorem xd_135_65 : decode prog_6_method_30_code 65 = .ok (.baload, 1) := by decide +kernel
theorem xd_135_66 : decode prog_6_method_30_code 66 = .ok (.ifCond .eq 7, 3) := by decide +kernel
theorem xd_135_69 : decode prog_6_method_30_code 69 = .ok (.iconst 1, 1) := by decide +kernel
theorem xd_135_70 : decode prog_6_method_30_code 70 = .ok (.goto 4, 3) := by decide +kernel
theorem xd_135_73 : decode prog_6_method_30_code 73 = .ok (.iconst 0, 1) := by decide +kernel
theorem xd_135_74 : decode prog_6_method_30_code 74 = .ok (.istore_n 2, 1) := by decide +kernel
theorem xd_135_75 : decode prog_6_method_30_code 75 = .ok (.iinc 3 (1), 3) := by decide +kernel
theorem xd_135_78 : decode prog_6_method_30_code 78 = .ok (.goto (-38), 3) := by decide +kernel
theorem xd_135_81 : decode prog_6_method_30_code 81 = .ok (.aload_n 0, 1) := by decide +kernel
theorem xd_135_82 : decode prog_6_method_30_code 82 = .ok (.aload_n 0, 1) := by decide +kernel
theorem xd_135_83 : decode prog_6_method_30_code 83 = .ok (.getfield 28, 3) := by decide +kernel
theorem xd_135_86 : decode prog_6_method_30_code 86 = .ok (.iconst 1, 1) := by decide +kernel
theorem xd_135_87 : decode prog_6_method_30_code 87 = .ok (.iload_n 1, 1) := by decide +kernel
theorem xd_135_88 : decode prog_6_method_30_code 88 = .ok (.iadd, 1) := by decide +kernel
theorem xd_135_89 : decode prog_6_method_30_code 89 = .ok (.iaload, 1) := by decide +kernel
theorem xd_135_90 : decode prog_6_method_30_code 90 = .ok (.ifCond .eq 16, 3) := by decide +kernel
theorem xd_135_93 : decode prog_6_method_30_code 93 = .ok (.aload_n 0, 1) := by decide +kernel
theorem xd_135_94 : decode prog_6_method_30_code 94 = .ok (.getfield 7, 3) := by decide +kernel
theorem xd_135_97 : decode prog_6_method_30_code 97 = .ok (.iload_n 1, 1) := by decide +kernel
theorem xd_135_98 : decode prog_6_method_30_code 98 = .ok (.baload, 1) := by decide +kernel
theorem xd_135_99 : decode prog_6_method_30_code 99 = .ok (.ifCond .ne 7, 3) := by decide +kernel
theorem xd_135_102 : decode prog_6_method_30_code 102 = .ok (.iload_n 2, 1) := by decide +kernel
theorem xd_135_103 : decode prog_6_method_30_code 103 = .ok (.ifCond .ne 7, 3) := by decide +kernel
theorem xd_135_106 : decode prog_6_method_30_code 106 = .ok (.iconst 3, 1) := by decide +kernel
theorem xd_135_107 : decode prog_6_method_30_code 107 = .ok (.goto 4, 3) := by decide +kernel
theorem xd_135_110 : decode prog_6_method_30_code 110 = .ok (.iconst 0, 1) := by decide +kernel
theorem xd_135_111 : decode prog_6_method_30_code 111 = .ok (.putfield 37, 3) := by decide +kernel
theorem xd_135_114 : decode prog_6_method_30_code 114 = .ok (.aload_n 0, 1) := by decide +kernel
theorem xd_135_115 : decode prog_6_method_30_code 115 = .ok (.getfield 37, 3) := by decide +kernel
theorem xd_135_118 : decode prog_6_method_30_code 118 = .ok (.ifCond .le 5, 3) := by decide +kernel
theorem xd_135_121 : decode prog_6_method_30_code 121 = .ok (.iconst 0, 1) := by decide +kernel
theorem xd_135_122 : decode prog_6_method_30_code 122 = .ok (.ireturn, 1) := by decide +kernel
theorem xd_135_123 : decode prog_6_method_30_code 123 = .ok (.aload_n 0, 1) := by decide +kernel
theorem xd_135_124 : decode prog_6_method_30_code 124 = .ok (.invokevirtual 107, 3) := by decide +kernel
theorem xd_135_127 : decode prog_6_method_30_code 127 = .ok (.aload_n 0, 1) := by decide +kernel
theorem xd_135_128 : decode prog_6_method_30_code 128 = .ok (.getfield 31, 3) := by decide +kernel
theorem xd_135_131 : decode prog_6_method_30_code 131 = .ok (.iconst 1, 1) := by decide +kernel
theorem xd_135_132 : decode prog_6_method_30_code 132 = .ok (.iload_n 1, 1) := by decide +kernel
theorem xd_135_133 : decode prog_6_method_30_code 133 = .ok (.iadd, 1) := by decide +kernel
theorem xd_135_134 : decode prog_6_method_30_code 134 = .ok (.iconst 0, 1) := by decide +kernel
theorem xd_135_135 : decode prog_6_method_30_code 135 = .ok (.iastore, 1) := by decide +kernel
theorem xd_135_136 : decode prog_6_method_30_code 136 = .ok (.iconst 0, 1) := by decide +kernel
theorem xd_135_137 : decode prog_6_method_30_code 137 = .ok (.istore_n 3, 1) := by decide +kernel
theorem xd_135_138 : decode prog_6_method_30_code 138 = .ok (.bipush 9, 2) := by decide +kernel
theorem xd_135_140 : decode prog_6_method_30_code 140 = .ok (.istore 4, 2) := by decide +kernel
theorem xd_135_142 : decode prog_6_method_30_code 142 = .ok (.iload 4, 2) := by decide +kernel
theorem xd_135_144 : decode prog_6_method_30_code 144 = .ok (.bipush 49, 2) := by decide +kernel
theorem xd_135_146 : decode prog_6_method_30_code 146 = .ok (.if_icmp .ge 46, 3) := by decide +kernel
theorem xd_135_149 : decode prog_6_method_30_code 149 = .ok (.aload_n 0, 1) := by decide +kernel
theorem xd_135_150 : decode prog_6_method_30_code 150 = .ok (.getfield 31, 3) := by decide +kernel
theorem xd_135_153 : decode prog_6_method_30_code 153 = .ok (.iload 4, 2) := by decide +kernel
theorem xd_135_155 : decode prog_6_method_30_code 155 = .ok (.iaload, 1) := by decide +kernel
theorem xd_135_156 : decode prog_6_method_30_code 156 = .ok (.ifCond .le 30, 3) := by decide +kernel
theorem xd_135_159 : decode prog_6_method_30_code 159 = .ok (.aload_n 0, 1) := by decide +kernel
theorem xd_135_160 : decode prog_6_method_30_code 160 = .ok (.getfield 31, 3) := by decide +kernel
theorem xd_135_163 : decode prog_6_method_30_code 163 = .ok (.iload 4, 2) := by decide +kernel
theorem xd_135_165 : decode prog_6_method_30_code 165 = .ok (.iaload, 1) := by decide +kernel
theorem xd_135_166 : decode prog_6_method_30_code 166 = .ok (.iconst 1, 1) := by decide +kernel
theorem xd_135_167 : decode prog_6_method_30_code 167 = .ok (.isub, 1) := by decide +kernel
theorem xd_135_168 : decode prog_6_method_30_code 168 = .ok (.bipush 8, 2) := by decide +kernel
theorem xd_135_170 : decode prog_6_method_30_code 170 = .ok (.idiv, 1) := by decide +kernel
theorem xd_135_171 : decode prog_6_method_30_code 171 = .ok (.iload_n 1, 1) := by decide +kernel
theorem xd_135_172 : decode prog_6_method_30_code 172 = .ok (.if_icmp .ne 14, 3) := by decide +kernel
theorem xd_135_175 : decode prog_6_method_30_code 175 = .ok (.aload_n 0, 1) := by decide +kernel
theorem xd_135_176 : decode prog_6_method_30_code 176 = .ok (.getfield 31, 3) := by decide +kernel
theorem xd_135_179 : decode prog_6_method_30_code 179 = .ok (.iload 4, 2) := by decide +kernel
theorem xd_135_181 : decode prog_6_method_30_code 181 = .ok (.iconst 0, 1) := by decide +kernel
theorem xd_135_182 : decode prog_6_method_30_code 182 = .ok (.iastore, 1) := by decide +kernel
theorem xd_135_183 : decode prog_6_method_30_code 183 = .ok (.iinc 3 (1), 3) := by decide +kernel
theorem xd_135_186 : decode prog_6_method_30_code 186 = .ok (.iinc 4 (1), 3) := by decide +kernel
theorem xd_135_189 : decode prog_6_method_30_code 189 = .ok (.goto (-47), 3) := by decide +kernel
theorem xd_135_192 : decode prog_6_method_30_code 192 = .ok (.aload_n 0, 1) := by decide +kernel
theorem xd_135_193 : decode prog_6_method_30_code 193 = .ok (.invokevirtual 110, 3) := by decide +kernel
theorem xd_135_196 : decode prog_6_method_30_code 196 = .ok (.aload_n 0, 1) := by decide +kernel
theorem xd_135_197 : decode prog_6_method_30_code 197 = .ok (.iload_n 3, 1) := by decide +kernel
theorem xd_135_198 : decode prog_6_method_30_code 198 = .ok (.invokevirtual 113, 3) := by decide +kernel
theorem xd_135_201 : decode prog_6_method_30_code 201 = .ok (.ireturn, 1) := by decide +kernel
theorem xk_135_0 : xk_OkA xp_F (xp_P sc) xp_cl xp_BW xp_NW xp_SW xp_exn 135 0 (.aload 0) := Or.inr ⟨0, rfl, xd_135_0, rfl⟩
theorem xk_135_1 : xk_OkA xp_F (xp_P sc) xp_cl xp_BW xp_NW xp_SW xp_exn 135 1 (.aload 0) := Or.inr ⟨0, rfl, xd_135_1, rfl⟩
theorem xk_135_2 : xk_OkA xp_F (xp_P sc) xp_cl xp_BW xp_NW xp_SW xp_exn 135 2 (.getfield 132) := ⟨_, xd_135_2, rfl, ⟨_, _, _, rfl, by decide, xu_4, Or.inl xwt_758⟩⟩
theorem xk_135_3 : xk_OkA xp_F (xp_P sc) xp_cl xp_BW xp_NW xp_SW xp_exn 135 3 (.ifCond .ne 6) := ⟨_, xd_135_5, by unfold xf_to; decide +kernel, rfl⟩
theorem xk_135_4 : xk_OkA xp_F (xp_P sc) xp_cl xp_BW xp_NW xp_SW xp_exn 135 4 (.iconst 1) := Or.inl ⟨xd_135_8, rfl⟩
theorem xk_135_5 : xk_OkA xp_F (xp_P sc) xp_cl xp_BW xp_NW xp_SW xp_exn 135 5 (.goto 12) := ⟨_, xd_135_9, by unfold xf_to; decide +kernel⟩
theorem xk_135_6 : xk_OkA xp_F (xp_P sc) xp_cl xp_BW xp_NW xp_SW xp_exn 135 6 (.iload 1) := Or.inr ⟨1, rfl, xd_135_12, rfl⟩
theorem xk_135_7 : xk_OkA xp_F (xp_P sc) xp_cl xp_BW xp_NW xp_SW xp_exn 135 7 (.invokeinterface 108 1) := ⟨rfl, Or.inl ⟨xwt_804, rfl⟩, rfl, rfl, xwt_5, by decide +kernel, by decide +kernel, Nat.le_of_ble_eq_true rfl, _, Or.inl xwt_802, Or.inl ⟨xd_135_13, xwt_803, rfl, by decide +kernel⟩⟩
theorem xk_135_8 : xk_OkA xp_F (xp_P sc) xp_cl xp_BW xp_NW xp_SW xp_exn 135 8 (.ifCond .ne 11) := ⟨_, xd_135_16, by unfold xf_to; decide +kernel, rfl⟩
theorem xk_135_9 : xk_OkA xp_F (xp_P sc) xp_cl xp_BW xp_NW xp_SW xp_exn 135 9 (.iconst 2) := Or.inl ⟨xd_135_19, rfl⟩
theorem xk_135_10 : xk_OkA xp_F (xp_P sc) xp_cl xp_BW xp_NW xp_SW xp_exn 135 10 (.goto 12) := ⟨_, xd_135_20, by unfold xf_to; decide +kernel⟩
theorem xk_135_11 : xk_OkA xp_F (xp_P sc) xp_cl xp_BW xp_NW xp_SW xp_exn 135 11 (.iconst 0) := Or.inl ⟨xd_135_23, rfl⟩
theorem xk_135_12 : xk_OkA xp_F (xp_P sc) xp_cl xp_BW xp_NW xp_SW xp_exn 135 12 (.putfield 128) := ⟨_, xd_135_24, rfl, ⟨_, _, _, rfl, by decide, xu_4, Or.inl xwt_754⟩, xf_4_0⟩
theorem xk_135_13 : xk_OkA xp_F (xp_P sc) xp_cl xp_BW xp_NW xp_SW xp_exn 135 13 (.aload 0) := Or.inr ⟨0, rfl, xd_135_27, rfl⟩
theorem xk_135_14 : xk_OkA xp_F (xp_P sc) xp_cl xp_BW xp_NW xp_SW xp_exn 135 14 (.getfield 128) := ⟨_, xd_135_28, rfl, ⟨_, _, _, rfl, by decide, xu_4, Or.inl xwt_754⟩⟩
theorem xk_135_15 : xk_OkA xp_F (xp_P sc) xp_cl xp_BW xp_NW xp_SW xp_exn 135 15 (.ifCond .le 18) := ⟨_, xd_135_31, by unfold xf_to; decide +kernel, rfl⟩
theorem xk_135_16 : xk_OkA xp_F (xp_P sc) xp_cl xp_BW xp_NW xp_SW xp_exn 135 16 (.iconst 0) := Or.inl ⟨xd_135_34, rfl⟩
theorem xk_135_17 : xk_OkA xp_F (xp_P sc) xp_cl xp_BW xp_NW xp_SW xp_exn 135 17 (.ireturn) := ⟨xd_135_35, rfl⟩
theorem xk_135_18 : xk_OkA xp_F (xp_P sc) xp_cl xp_BW xp_NW xp_SW xp_exn 135 18 (.iconst 0) := Or.inl ⟨xd_135_36, rfl⟩
theorem xk_135_19 : xk_OkA xp_F (xp_P sc) xp_cl xp_BW xp_NW xp_SW xp_exn 135 19 (.istore 2) := Or.inr ⟨2, rfl, xd_135_37, rfl⟩
theorem xk_135_20 : xk_OkA xp_F (xp_P sc) xp_cl xp_BW xp_NW xp_SW xp_exn 135 20 (.iconst 0) := Or.inl ⟨xd_135_38, rfl⟩
theorem xk_135_21 : xk_OkA xp_F (xp_P sc) xp_cl xp_BW xp_NW xp_SW xp_exn 135 21 (.istore 3) := Or.inr ⟨3, rfl, xd_135_39, rfl⟩
theorem xk_135_22 : xk_OkA xp_F (xp_P sc) xp_cl xp_BW xp_NW xp_SW xp_exn 135 22 (.iload 3) := Or.inr ⟨3, rfl, xd_135_40, rfl⟩
theorem xk_135_23 : xk_OkA xp_F (xp_P sc) xp_cl xp_BW xp_NW xp_SW xp_exn 135 23 (.iconst 4) := Or.inl ⟨xd_135_41, rfl⟩
theorem xk_135_24 : xk_OkA xp_F (xp_P sc) xp_cl xp_BW xp_NW xp_SW xp_exn 135 24 (.if_icmp .ge 45) := ⟨_, xd_135_42, by unfold xf_to; decide +kernel, rfl⟩
theorem xk_135_25 : xk_OkA xp_F (xp_P sc) xp_cl xp_BW xp_NW xp_SW xp_exn 135 25 (.iload 2) := Or.inr ⟨2, rfl, xd_135_45, rfl⟩
theorem xk_135_26 : xk_OkA xp_F (xp_P sc) xp_cl xp_BW xp_NW xp_SW xp_exn 135 26 (.ifCond .ne 39) := ⟨_, xd_135_46, by unfold xf_to; decide +kernel, rfl⟩
theorem xk_135_27 : xk_OkA xp_F (xp_P sc) xp_cl xp_BW xp_NW xp_SW xp_exn 135 27 (.aload 0) := Or.inr ⟨0, rfl, xd_135_49, rfl⟩
theorem xk_135_28 : xk_OkA xp_F (xp_P sc) xp_cl xp_BW xp_NW xp_SW xp_exn 135 28 (.getfield 134) := ⟨_, xd_135_50, rfl, ⟨_, _, _, rfl, by decide, xu_4, Or.inl xwt_760⟩⟩
theorem xk_135_29 : xk_OkA xp_F (xp_P sc) xp_cl xp_BW xp_NW xp_SW xp_exn 135 29 (.iconst 1) := Or.inl ⟨xd_135_53, rfl⟩
theorem xk_135_30 : xk_OkA xp_F (xp_P sc) xp_cl xp_BW xp_NW xp_SW xp_exn 135 30 (.iload 3) := Or.inr ⟨3, rfl, xd_135_54, rfl⟩
theorem xk_135_31 : xk_OkA xp_F (xp_P sc) xp_cl xp_BW xp_NW xp_SW xp_exn 135 31 (.iadd) := ⟨xd_135_55, rfl⟩
theorem xk_135_32 : xk_OkA xp_F (xp_P sc) xp_cl xp_BW xp_NW xp_SW xp_exn 135 32 (.iaload) := ⟨xd_135_56, rfl⟩
theorem xk_135_33 : xk_OkA xp_F (xp_P sc) xp_cl xp_BW xp_NW xp_SW xp_exn 135 33 (.ifCond .le 41) := ⟨_, xd_135_57, by unfold xf_to; decide +kernel, rfl⟩
theorem xk_135_34 : xk_OkA xp_F (xp_P sc) xp_cl xp_BW xp_NW xp_SW xp_exn 135 34 (.aload 0) := Or.inr ⟨0, rfl, xd_135_60, rfl⟩
theorem xk_135_35 : xk_OkA xp_F (xp_P sc) xp_cl xp_BW xp_NW xp_SW xp_exn 135 35 (.getfield 129) := ⟨_, xd_135_61, rfl, ⟨_, _, _, rfl, by decide, xu_4, Or.inl xwt_755⟩⟩
theorem xk_135_36 : xk_OkA xp_F (xp_P sc) xp_cl xp_BW xp_NW xp_SW xp_exn 135 36 (.iload 3) := Or.inr ⟨3, rfl, xd_135_64, rfl⟩
theorem xk_135_37 : xk_OkA xp_F (xp_P sc) xp_cl xp_BW xp_NW xp_SW xp_exn 135 37 (.baload) := ⟨xd_135_65, rfl⟩
theorem xk_135_38 : xk_OkA xp_F (xp_P sc) xp_cl xp_BW xp_NW xp_SW xp_exn 135 38 (.ifCond .eq 41) := ⟨_, xd_135_66, by unfold xf_to; decide +kernel, rfl⟩
theorem xk_135_39 : xk_OkA xp_F (xp_P sc) xp_cl xp_BW xp_NW xp_SW xp_exn 135 39 (.iconst 1) := Or.inl ⟨xd_135_69, rfl⟩
theorem xk_135_40 : xk_OkA xp_F (xp_P sc) xp_cl xp_BW xp_NW xp_SW xp_exn 135 40 (.goto 42) := ⟨_, xd_135_70, by unfold xf_to; decide +kernel⟩
theorem xk_135_41 : xk_OkA xp_F (xp_P sc) xp_cl xp_BW xp_NW xp_SW xp_exn 135 41 (.iconst 0) := Or.inl ⟨xd_135_73, rfl⟩
theorem xk_135_42 : xk_OkA xp_F (xp_P sc) xp_cl xp_BW xp_NW xp_SW xp_exn 135 42 (.istore 2) := Or.inr ⟨2, rfl, xd_135_74, rfl⟩
theorem xk_135_43 : xk_OkA xp_F (xp_P sc) xp_cl xp_BW xp_NW xp_SW xp_exn 135 43 (.iinc 3 (1)) := ⟨xd_135_75, rfl⟩
theorem xk_135_44 : xk_OkA xp_F (xp_P sc) xp_cl xp_BW xp_NW xp_SW xp_exn 135 44 (.goto 22) := ⟨_, xd_135_78, by unfold xf_to; decide +kernel⟩
theorem xk_135_45 : xk_OkA xp_F (xp_P sc) xp_cl xp_BW xp_NW xp_SW xp_exn 135 45 (.aload 0) := Or.inr ⟨0, rfl, xd_135_81, rfl⟩
theorem xk_135_46 : xk_OkA xp_F (xp_P sc) xp_cl xp_BW xp_NW xp_SW xp_exn 135 46 (.aload 0) := Or.inr ⟨0, rfl, xd_135_82, rfl⟩
theorem xk_135_47 : xk_OkA xp_F (xp_P sc) xp_cl xp_BW xp_NW xp_SW xp_exn 135 47 (.getfield 134) := ⟨_, xd_135_83, rfl, ⟨_, _, _, rfl, by decide, xu_4, Or.inl xwt_760⟩⟩
theorem xk_135_48 : xk_OkA xp_F (xp_P sc) xp_cl xp_BW xp_NW xp_SW xp_exn 135 48 (.iconst 1) := Or.inl ⟨xd_135_86, rfl⟩
theorem xk_135_49 : xk_OkA xp_F (xp_P sc) xp_cl xp_BW xp_NW xp_SW xp_exn 135 49 (.iload 1) := Or.inr ⟨1, rfl, xd_135_87, rfl⟩
theorem xk_135_50 : xk_OkA xp_F (xp_P sc) xp_cl xp_BW xp_NW xp_SW xp_exn 135 50 (.iadd) := ⟨xd_135_88, rfl⟩
theorem xk_135_51 : xk_OkA xp_F (xp_P sc) xp_cl xp_BW xp_NW xp_SW xp_exn 135 51 (.iaload) := ⟨xd_135_89, rfl⟩
theorem xk_135_52 : xk_OkA xp_F (xp_P sc) xp_cl xp_BW xp_NW xp_SW xp_exn 135 52 (.ifCond .eq 60) := ⟨_, xd_135_90, by unfold xf_to; decide +kernel, rfl⟩
theorem xk_135_53 : xk_OkA xp_F (xp_P sc) xp_cl xp_BW xp_NW xp_SW xp_exn 135 53 (.aload 0) := Or.inr ⟨0, rfl, xd_135_93, rfl⟩
theorem xk_135_54 : xk_OkA xp_F (xp_P sc) xp_cl xp_BW xp_NW xp_SW xp_exn 135 54 (.getfield 129) := ⟨_, xd_135_94, rfl, ⟨_, _, _, rfl, by decide, xu_4, Or.inl xwt_755⟩⟩
theorem xk_135_55 : xk_OkA xp_F (xp_P sc) xp_cl xp_BW xp_NW xp_SW xp_exn 135 55 (.iload 1) := Or.inr ⟨1, rfl, xd_135_97, rfl⟩
theorem xk_135_56 : xk_OkA xp_F (xp_P sc) xp_cl xp_BW xp_NW xp_SW xp_exn 135 56 (.baload) := ⟨xd_135_98, rfl⟩
theorem xk_135_57 : xk_OkA xp_F (xp_P sc) xp_cl xp_BW xp_NW xp_SW xp_exn 135 57 (.ifCond .ne 60) := ⟨_, xd_135_99, by unfold xf_to; decide +kernel, rfl⟩
theorem xk_135_58 : xk_OkA xp_F (xp_P sc) xp_cl xp_BW xp_NW xp_SW xp_exn 135 58 (.iload 2) := Or.inr ⟨2, rfl, xd_135_102, rfl⟩
theorem xk_135_59 : xk_OkA xp_F (xp_P sc) xp_cl xp_BW xp_NW xp_SW xp_exn 135 59 (.ifCond .ne 62) := ⟨_, xd_135_103, by unfold xf_to; decide +kernel, rfl⟩
theorem xk_135_60 : xk_OkA xp_F (xp_P sc) xp_cl xp_BW xp_NW xp_SW xp_exn 135 60 (.iconst 3) := Or.inl ⟨xd_135_106, rfl⟩
theorem xk_135_61 : xk_OkA xp_F (xp_P sc) xp_cl xp_BW xp_NW xp_SW xp_exn 135 61 (.goto 63) := ⟨_, xd_135_107, by unfold xf_to; decide +kernel⟩
theorem xk_135_62 : xk_OkA xp_F (xp_P sc) xp_cl xp_BW xp_NW xp_SW xp_exn 135 62 (.iconst 0) := Or.inl ⟨xd_135_110, rfl⟩
theorem xk_135_63 : xk_OkA xp_F (xp_P sc) xp_cl xp_BW xp_NW xp_SW xp_exn 135 63 (.putfield 128) := ⟨_, xd_135_111, rfl, ⟨_, _, _, rfl, by decide, xu_4, Or.inl xwt_754⟩, xf_4_0⟩
theorem xk_135_64 : xk_OkA xp_F (xp_P sc) xp_cl xp_BW xp_NW xp_SW xp_exn 135 64 (.aload 0) := Or.inr ⟨0, rfl, xd_135_114, rfl⟩
theorem xk_135_65 : xk_OkA xp_F (xp_P sc) xp_cl xp_BW xp_NW xp_SW xp_exn 135 65 (.getfield 128) := ⟨_, xd_135_115, rfl, ⟨_, _, _, rfl, by decide, xu_4, Or.inl xwt_754⟩⟩
theorem xk_135_66 : xk_OkA xp_F (xp_P sc) xp_cl xp_BW xp_NW xp_SW xp_exn 135 66 (.ifCond .le 69) := ⟨_, xd_135_118, by unfold xf_to; decide +kernel, rfl⟩
theorem xk_135_67 : xk_OkA xp_F (xp_P sc) xp_cl xp_BW xp_NW xp_SW xp_exn 135 67 (.iconst 0) := Or.inl ⟨xd_135_121, rfl⟩
theorem xk_135_68 : xk_OkA xp_F (xp_P sc) xp_cl xp_BW xp_NW xp_SW xp_exn 135 68 (.ireturn) := ⟨xd_135_122, rfl⟩
theorem xk_135_69 : xk_OkA xp_F (xp_P sc) xp_cl xp_BW xp_NW xp_SW xp_exn 135 69 (.aload 0) := Or.inr ⟨0, rfl, xd_135_123, rfl⟩
theorem xk_135_70 : xk_OkA xp_F (xp_P sc) xp_cl xp_BW xp_NW xp_SW xp_exn 135 70 (.invokeinterface 119 1) := ⟨rfl, Or.inl ⟨xwt_812, rfl⟩, rfl, rfl, xwt_5, by decide +kernel, by decide +kernel, Nat.le_of_ble_eq_true rfl, _, Or.inl xwt_809, Or.inr ⟨xd_135_124, xwt_811, xws_78, ⟨_, _, _, rfl, rfl⟩, by decide +kernel⟩⟩
theorem xk_135_71 : xk_OkA xp_F (xp_P sc) xp_cl xp_BW xp_NW xp_SW xp_exn 135 71 (.aload 0) := Or.inr ⟨0, rfl, xd_135_127, rfl⟩
theorem xk_135_72 : xk_OkA xp_F (xp_P sc) xp_cl xp_BW xp_NW xp_SW xp_exn 135 72 (.getfield 135) := ⟨_, xd_135_128, rfl, ⟨_, _, _, rfl, by decide, xu_4, Or.inl xwt_761⟩⟩
theorem xk_135_73 : xk_OkA xp_F (xp_P sc) xp_cl xp_BW xp_NW xp_SW xp_exn 135 73 (.iconst 1) := Or.inl ⟨xd_135_131, rfl⟩
theorem xk_135_74 : xk_OkA xp_F (xp_P sc) xp_cl xp_BW xp_NW xp_SW xp_exn 135 74 (.iload 1) := Or.inr ⟨1, rfl, xd_135_132, rfl⟩
theorem xk_135_75 : xk_OkA xp_F (xp_P sc) xp_cl xp_BW xp_NW xp_SW xp_exn 135 75 (.iadd) := ⟨xd_135_133, rfl⟩
theorem xk_135_76 : xk_OkA xp_F (xp_P sc) xp_cl xp_BW xp_NW xp_SW xp_exn 135 76 (.iconst 0) := Or.inl ⟨xd_135_134, rfl⟩
theorem xk_135_77 : xk_OkA xp_F (xp_P sc) xp_cl xp_BW xp_NW xp_SW xp_exn 135 77 (.iastore) := ⟨xd_135_135, rfl⟩
theorem xk_135_78 : xk_OkA xp_F (xp_P sc) xp_cl xp_BW xp_NW xp_SW xp_exn 135 78 (.iconst 0) := Or.inl ⟨xd_135_136, rfl⟩
theorem xk_135_79 : xk_OkA xp_F (xp_P sc) xp_cl xp_BW xp_NW xp_SW xp_exn 135 79 (.istore 3) := Or.inr ⟨3, rfl, xd_135_137, rfl⟩
theorem xk_135_80 : xk_OkA xp_F (xp_P sc) xp_cl xp_BW xp_NW xp_SW xp_exn 135 80 (.iconst 9) := Or.inr (Or.inl ⟨xd_135_138, by decide +kernel, rfl⟩)
theorem xk_135_81 : xk_OkA xp_F (xp_P sc) xp_cl xp_BW xp_NW xp_SW xp_exn 135 81 (.istore 4) := Or.inl ⟨xd_135_140, rfl⟩
theorem xk_135_82 : xk_OkA xp_F (xp_P sc) xp_cl xp_BW xp_NW xp_SW xp_exn 135 82 (.iload 4) := Or.inl ⟨xd_135_142, rfl⟩
theorem xk_135_83 : xk_OkA xp_F (xp_P sc) xp_cl xp_BW xp_NW xp_SW xp_exn 135 83 (.iconst 49) := Or.inr (Or.inl ⟨xd_135_144, by decide +kernel, rfl⟩)
theorem xk_135_84 : xk_OkA xp_F (xp_P sc) xp_cl xp_BW xp_NW xp_SW xp_exn 135 84 (.if_icmp .ge 108) := ⟨_, xd_135_146, by unfold xf_to; decide +kernel, rfl⟩
theorem xk_135_85 : xk_OkA xp_F (xp_P sc) xp_cl xp_BW xp_NW xp_SW xp_exn 135 85 (.aload 0) := Or.inr ⟨0, rfl, xd_135_149, rfl⟩
theorem xk_135_86 : xk_OkA xp_F (xp_P sc) xp_cl xp_BW xp_NW xp_SW xp_exn 135 86 (.getfield 135) := ⟨_, xd_135_150, rfl, ⟨_, _, _, rfl, by decide, xu_4, Or.inl xwt_761⟩⟩
theorem xk_135_87 : xk_OkA xp_F (xp_P sc) xp_cl xp_BW xp_NW xp_SW xp_exn 135 87 (.iload 4) := Or.inl ⟨xd_135_153, rfl⟩
theorem xk_135_88 : xk_OkA xp_F (xp_P sc) xp_cl xp_BW xp_NW xp_SW xp_exn 135 88 (.iaload) := ⟨xd_135_155, rfl⟩
theorem xk_135_89 : xk_OkA xp_F (xp_P sc) xp_cl xp_BW xp_NW xp_SW xp_exn 135 89 (.ifCond .le 106) := ⟨_, xd_135_156, by unfold xf_to; decide +kernel, rfl⟩
theorem xk_135_90 : xk_OkA xp_F (xp_P sc) xp_cl xp_BW xp_NW xp_SW xp_exn 135 90 (.aload 0) := Or.inr ⟨0, rfl, xd_135_159, rfl⟩
theorem xk_135_91 : xk_OkA xp_F (xp_P sc) xp_cl xp_BW xp_NW xp_SW xp_exn 135 91 (.getfield 135) := ⟨_, xd_135_160, rfl, ⟨_, _, _, rfl, by decide, xu_4, Or.inl xwt_761⟩⟩
theorem xk_135_92 : xk_OkA xp_F (xp_P sc) xp_cl xp_BW xp_NW xp_SW xp_exn 135 92 (.iload 4) := Or.inl ⟨xd_135_163, rfl⟩
theorem xk_135_93 : xk_OkA xp_F (xp_P sc) xp_cl xp_BW xp_NW xp_SW xp_exn 135 93 (.iaload) := ⟨xd_135_165, rfl⟩
theorem xk_135_94 : xk_OkA xp_F (xp_P sc) xp_cl xp_BW xp_NW xp_SW xp_exn 135 94 (.iconst 1) := Or.inl ⟨xd_135_166, rfl⟩
theorem xk_135_95 : xk_OkA xp_F (xp_P sc) xp_cl xp_BW xp_NW xp_SW xp_exn 135 95 (.isub) := ⟨xd_135_167, rfl⟩
theorem xk_135_96 : xk_OkA xp_F (xp_P sc) xp_cl xp_BW xp_NW xp_SW xp_exn 135 96 (.iconst 8) := Or.inr (Or.inl ⟨xd_135_168, by decide +kernel, rfl⟩)
theorem xk_135_97 : xk_OkA xp_F (xp_P sc) xp_cl xp_BW xp_NW xp_SW xp_exn 135 97 (.idiv) := ⟨xd_135_170, rfl⟩
theorem xk_135_98 : xk_OkA xp_F (xp_P sc) xp_cl xp_BW xp_NW xp_SW xp_exn 135 98 (.iload 1) := Or.inr ⟨1, rfl, xd_135_171, rfl⟩
theorem xk_135_99 : xk_OkA xp_F (xp_P sc) xp_cl xp_BW xp_NW xp_SW xp_exn 135 99 (.if_icmp .ne 106) := ⟨_, xd_135_172, by unfold xf_to; decide +kernel, rfl⟩
theorem xk_135_100 : xk_OkA xp_F (xp_P sc) xp_cl xp_BW xp_NW xp_SW xp_exn 135 100 (.aload 0) := Or.inr ⟨0, rfl, xd_135_175, rfl⟩
theorem xk_135_101 : xk_OkA xp_F (xp_P sc) xp_cl xp_BW xp_NW xp_SW xp_exn 135 101 (.getfield 135) := ⟨_, xd_135_176, rfl, ⟨_, _, _, rfl, by decide, xu_4, Or.inl xwt_761⟩⟩
theorem xk_135_102 : xk_OkA xp_F (xp_P sc) xp_cl xp_BW xp_NW xp_SW xp_exn 135 102 (.iload 4) := Or.inl ⟨xd_135_179, rfl⟩
theorem xk_135_103 : xk_OkA xp_F (xp_P sc) xp_cl xp_BW xp_NW xp_SW xp_exn 135 103 (.iconst 0) := Or.inl ⟨xd_135_181, rfl⟩
theorem xk_135_104 : xk_OkA xp_F (xp_P sc) xp_cl xp_BW xp_NW xp_SW xp_exn 135 104 (.iastore) := ⟨xd_135_182, rfl⟩
theorem xk_135_105 : xk_OkA xp_F (xp_P sc) xp_cl xp_BW xp_NW xp_SW xp_exn 135 105 (.iinc 3 (1)) := ⟨xd_135_183, rfl⟩
theorem xk_135_106 : xk_OkA xp_F (xp_P sc) xp_cl xp_BW xp_NW xp_SW xp_exn 135 106 (.iinc 4 (1)) := ⟨xd_135_186, rfl⟩
theorem xk_135_107 : xk_OkA xp_F (xp_P sc) xp_cl xp_BW xp_NW xp_SW xp_exn 135 107 (.goto 82) := ⟨_, xd_135_189, by unfold xf_to; decide +kernel⟩
theorem xk_135_108 : xk_OkA xp_F (xp_P sc) xp_cl xp_BW xp_NW xp_SW xp_exn 135 108 (.aload 0) := Or.inr ⟨0, rfl, xd_135_192, rfl⟩
theorem xk_135_109 : xk_OkA xp_F (xp_P sc) xp_cl xp_BW xp_NW xp_SW xp_exn 135 109 (.invokeinterface 123 1) := ⟨rfl, Or.inl ⟨xwt_816, rfl⟩, rfl, rfl, xwt_5, by decide +kernel, by decide +kernel, Nat.le_of_ble_eq_true rfl, _, Or.inl xwt_813, Or.inr ⟨xd_135_193, xwt_815, xws_79, ⟨_, _, _, rfl, rfl⟩, by decide +kernel⟩⟩
theorem xk_135_110 : xk_OkA xp_F (xp_P sc) xp_cl xp_BW xp_NW xp_SW xp_exn 135 110 (.aload 0) := Or.inr ⟨0, rfl, xd_135_196, rfl⟩
theorem xk_135_111 : xk_OkA xp_F (xp_P sc) xp_cl xp_BW xp_NW xp_SW xp_exn 135 111 (.iload 3) := Or.inr ⟨3, rfl, xd_135_197, rfl⟩
theorem xk_135_112 : xk_OkA xp_F (xp_P sc) xp_cl xp_BW xp_NW xp_SW xp_exn 135 112 (.invokeinterface 124 2) := ⟨rfl, Or.inl ⟨xwt_836, rfl⟩, rfl, rfl, xwt_5, by decide +kernel, by decide +kernel, Nat.le_of_ble_eq_true rfl, _, Or.inl xwt_833, Or.inr ⟨xd_135_198, xwt_835, xws_84, ⟨_, _, _, rfl, rfl⟩, by decide +kernel⟩⟩
theorem xk_135_113 : xk_OkA xp_F (xp_P sc) xp_cl xp_BW xp_NW xp_SW xp_exn 135 113 (.ireturn) := ⟨xd_135_201, rfl⟩
theorem xl_135 : xk_OkL xp_F (xp_P sc) xp_cl xp_BW xp_NW xp_SW xp_exn 135 0 xc_135 := ⟨xk_135_0, xk_135_1, xk_135_2, xk_135_3, xk_135_4, xk_135_5, xk_135_6, xk_135_7, xk_135_8, xk_135_9, xk_135_10, xk_135_11, xk_135_12, xk_135_13, xk_135_14, xk_135_15, xk_135_16, xk_135_17, xk_135_18, xk_135_19, xk_135_20, xk_135_21, xk_135_22, xk_135_23, xk_135_24, xk_135_25, xk_135_26, xk_135_27, xk_135_28, xk_135_29, xk_135_30, xk_135_31, xk_135_32, xk_135_33, xk_135_34, xk_135_35, xk_135_36, xk_135_37, xk_135_38, xk_135_39, xk_135_40, xk_135_41, xk_135_42, xk_135_43, xk_135_44, xk_135_45, xk_135_46, xk_135_47, xk_135_48, xk_135_49, xk_135_50, xk_135_51, xk_135_52, xk_135_53, xk_135_54, xk_135_55, xk_135_56, xk_135_57, xk_135_58, xk_135_59, xk_135_60, xk_135_61, xk_135_62, xk_135_63, xk_135_64, xk_135_65, xk_135_66, xk_135_67, xk_135_68, xk_135_69, xk_135_70, xk_135_71, xk_135_72, xk_135_73, xk_135_74, xk_135_75, xk_135_76, xk_135_77, xk_135_78, xk_135_79, xk_135_80, xk_135_81, xk_135_82, xk_135_83, xk_135_84, xk_135_85, xk_135_86, xk_135_87, xk_135_88, xk_135_89, xk_135_90, xk_135_91, xk_135_92, xk_135_93, xk_135_94, xk_135_95, xk_135_96, xk_135_97, xk_135_98, xk_135_99, xk_135_100, xk_135_101, xk_135_102, xk_135_103, xk_135_104, xk_135_105, xk_135_106, xk_135_107, xk_135_108, xk_135_109, xk_135_110, xk_135_111, xk_135_112, xk_135_113, trivial⟩
theorem xd_136_0 : decode prog_6_method_31_code 0 = .ok (.iload_n 1, 1) := by decide +kernel
theorem xd_136_1 : decode prog_6_method_31_code 1 = .ok (.iconst 1, 1) := by decide +kernel
theorem xd_136_2 : decode prog_6_method_31_code 2 = .ok (.if_icmp .lt 18, 3) := by decide +kernel
theorem xd_136_5 : decode prog_6_method_31_code 5 = .ok (.iload_n 1, 1) := by decide +kernel
theorem xd_136_6 : decode prog_6_method_31_code 6 = .ok (.iconst 5, 1) := by decide +kernel
theorem xd_136_7 : decode prog_6_method_31_code 7 = .ok (.if_icmp .gt 13, 3) := by decide +kernel
theorem xd_136_10 : decode prog_6_method_31_code 10 = .ok (.iload_n 1, 1) := by decide +kernel
theorem xd_136_11 : decode prog_6_method_31_code 11 = .ok (.iload_n 0, 1) := by decide +kernel
theorem xd_136_12 : decode prog_6_method_31_code 12 = .ok (.irem, 1) := by decide +kernel
theorem xd_136_13 : decode prog_6_method_31_code 13 = .ok (.ifCond .ne 7, 3) := by decide +kernel
theorem xd_136_16 : decode prog_6_method_31_code 16 = .ok (.iconst 1, 1) := by decide +kernel
theorem xd_136_17 : decode prog_6_method_31_code 17 = .ok (.goto 4, 3) := by decide +kernel
theorem xd_136_20 : decode prog_6_method_31_code 20 = .ok (.iconst 0, 1) := by decide +kernel
theorem xd_136_21 : decode prog_6_method_31_code 21 = .ok (.ireturn, 1) := by decide +kernel
theorem xk_136_0 : xk_OkA xp_F (xp_P sc) xp_cl xp_BW xp_NW xp_SW xp_exn 136 0 (.iload 1) := Or.inr ⟨1, rfl, xd_136_0, rfl⟩
theorem xk_136_1 : xk_OkA xp_F (xp_P sc) xp_cl xp_BW xp_NW xp_SW xp_exn 136 1 (.iconst 1) := Or.inl ⟨xd_136_1, rfl⟩
theorem xk_136_2 : xk_OkA xp_F (xp_P sc) xp_cl xp_BW xp_NW xp_SW xp_exn 136 2 (.if_icmp .lt 12) := ⟨_, xd_136_2, by unfold xf_to; decide +kernel, rfl⟩
theorem xk_136_3 : xk_OkA xp_F (xp_P sc) xp_cl xp_BW xp_NW xp_SW xp_exn 136 3 (.iload 1) := Or.inr ⟨1, rfl, xd_136_5, rfl⟩
theorem xk_136_4 : xk_OkA xp_F (xp_P sc) xp_cl xp_BW xp_NW xp_SW xp_exn 136 4 (.iconst 5) := Or.inl ⟨xd_136_6, rfl⟩
theorem xk_136_5 : xk_OkA xp_F (xp_P sc) xp_cl xp_BW xp_NW xp_SW xp_exn 136 5 (.if_icmp .gt 12) := ⟨_, xd_136_7, by unfold xf_to; decide +kernel, rfl⟩
theorem xk_136_6 : xk_OkA xp_F (xp_P sc) xp_cl xp_BW xp_NW xp_SW xp_exn 136 6 (.iload 1) := Or.inr ⟨1, rfl, xd_136_10, rfl⟩
theorem xk_136_7 : xk_OkA xp_F (xp_P sc) xp_cl xp_BW xp_NW xp_SW xp_exn 136 7 (.iload 0) := Or.inr ⟨0, rfl, xd_136_11, rfl⟩
theorem xk_136_8 : xk_OkA xp_F (xp_P sc) xp_cl xp_BW xp_NW xp_SW xp_exn 136 8 (.irem) := ⟨xd_136_12, rfl⟩
theorem xk_136_9 : xk_OkA xp_F (xp_P sc) xp_cl xp_BW xp_NW xp_SW xp_exn 136 9 (.ifCond .ne 12) := ⟨_, xd_136_13, by unfold xf_to; decide +kernel, rfl⟩
theorem xk_136_10 : xk_OkA xp_F (xp_P sc) xp_cl xp_BW xp_NW xp_SW xp_exn 136 10 (.iconst 1) := Or.inl ⟨xd_136_16, rfl⟩
theorem xk_136_11 : xk_OkA xp_F (xp_P sc) xp_cl xp_BW xp_NW xp_SW xp_exn 136 11 (.goto 13) := ⟨_, xd_136_17, by unfold xf_to; decide +kernel⟩
theorem xk_136_12 : xk_OkA xp_F (xp_P sc) xp_cl xp_BW xp_NW xp_SW xp_exn 136 12 (.iconst 0) := Or.inl ⟨xd_136_20, rfl⟩
theorem xk_136_13 : xk_OkA xp_F (xp_P sc) xp_cl xp_BW xp_NW xp_SW xp_exn 136 13 (.freturn) := ⟨xd_136_21, rfl⟩
theorem xl_136 : xk_OkL xp_F (xp_P sc) xp_cl xp_BW xp_NW xp_SW xp_exn 136 0 xc_136 := ⟨xk_136_0, xk_136_1, xk_136_2, xk_136_3, xk_136_4, xk_136_5, xk_136_6, xk_136_7, xk_136_8, xk_136_9, xk_136_10, xk_136_11, xk_136_12, xk_136_13, trivial⟩
theorem xd_137_0 : decode prog_6_method_32_code 0 = .ok (.iload_n 1, 1) := by decide +kernel
theorem xd_137_1 : decode prog_6_method_32_code 1 = .ok (.ifCond .lt 35, 3) := by decide +kernel
theorem xd_137_4 : decode prog_6_method_32_code 4 = .ok (.iload_n 1, 1) := by decide +kernel
theorem xd_137_5 : decode prog_6_method_32_code 5 = .ok (.iconst 3, 1) := by decide +kernel
theorem xd_137_6 : decode prog_6_method_32_code 6 = .ok (.if_icmp .ge 30, 3) := by decide +kernel
theorem xd_137_9 : decode prog_6_method_32_code 9 = .ok (.iload_n 1, 1) := by decide +kernel
theorem xd_137_10 : decode prog_6_method_32_code 10 = .ok (.iconst 1, 1) := by decide +kernel
theorem xd_137_11 : decode prog_6_method_32_code 11 = .ok (.if_icmp .ne 16, 3) := by decide +kernel
theorem xd_137_14 : decode prog_6_method_32_code 14 = .ok (.iload_n 2, 1) := by decide +kernel
theorem xd_137_15 : decode prog_6_method_32_code 15 = .ok (.iconst 2, 1) := by decide +kernel
theorem xd_137_16 : decode prog_6_method_32_code 16 = .ok (.if_icmp .eq 16, 3) := by decide +kernel
theorem xd_137_19 : decode prog_6_method_32_code 19 = .ok (.iload_n 2, 1) := by decide +kernel
theorem xd_137_20 : decode prog_6_method_32_code 20 = .ok (.iconst 3, 1) := by decide +kernel
theorem xd_137_21 : decode prog_6_method_32_code 21 = .ok (.if_icmp .ne 15, 3) := by decide +kernel
theorem xd_137_24 : decode prog_6_method_32_code 24 = .ok (.goto 8, 3) := by decide +kernel
theorem xd_137_27 : decode prog_6_method_32_code 27 = .ok (.iload_n 2, 1) := by decide +kernel
theorem xd_137_28 : decode prog_6_method_32_code 28 = .ok (.iconst 1, 1) := by decide +kernel
theorem xd_137_29 : decode prog_6_method_32_code 29 = .ok (.if_icmp .ne 7, 3) := by decide +kernel
theorem xd_137_32 : decode prog_6_method_32_code 32 = .ok (.iconst 1, 1) := by decide +kernel
theorem xd_137_33 : decode prog_6_method_32_code 33 = .ok (.goto 4, 3) := by decide +kernel
theorem xd_137_36 : decode prog_6_method_32_code 36 = .ok (.iconst 0, 1) := by decide +kernel
theorem xd_137_37 : decode prog_6_method_32_code 37 = .ok (.istore 4, 2) := by decide +kernel
theorem xd_137_39 : decode prog_6_method_32_code 39 = .ok (.aload_n 0, 1) := by decide +kernel
theorem xd_137_40 : decode prog_6_method_32_code 40 = .ok (.aload_n 0, 1) := by decide +kernel
theorem xd_137_41 : decode prog_6_method_32_code 41 = .ok (.getfield 20, 3) := by decide +kernel
theorem xd_137_44 : decode prog_6_method_32_code 44 = .ok (.ifCond .ne 7, 3) := by decide +kernel
theorem xd_137_47 : decode prog_6_method_32_code 47 = .ok (.iconst 1, 1) := by decide +kernel
theorem xd_137_48 : decode prog_6_method_32_code 48 = .ok (.goto 32, 3) := by decide +kernel
theorem xd_137_51 : decode prog_6_method_32_code 51 = .ok (.iload 4, 2) := by decide +kernel
theorem xd_137_53 : decode prog_6_method_32_code 53 = .ok (.ifCond .eq 11, 3) := by decide +kernel
theorem xd_137_56 : decode prog_6_method_32_code 56 = .ok (.iload_n 2, 1) := by decide +kernel
theorem xd_137_57 : decode prog_6_method_32_code 57 = .ok (.iload_n 3, 1) := by decide +kernel
theorem xd_137_58 : decode prog_6_method_32_code 58 = .ok (.invokestatic 123, 3) := by decide +kernel
theorem xd_137_61 : decode prog_6_method_32_code 61 = .ok (.ifCond .ne 7, 3) := by decide +kernel
theorem xd_137_64 : decode prog_6_method_32_code 64 = .ok (.iconst 2, 1) := by decide +kernel
theorem xd_137_65 : decode prog_6_method_32_code 65 = .ok (.goto 15, 3) := by decide +kernel
theorem xd_137_68 : decode prog_6_method_32_code 68 = .ok (.aload_n 0, 1) := by decide +kernel
theorem xd_137_69 : decode prog_6_method_32_code 69 = .ok (.invokevirtual 52, 3) := by decide +kernel
theorem xd_137_72 : decode prog_6_method_32_code 72 = .ok (.ifCond .eq 7, 3) := by decide +kernel
theorem xd_137_75 : decode prog_6_method_32_code 75 = .ok (.iconst 3, 1) := by decide +kernel
theorem xd_137_76 : decode prog_6_method_32_code 76 = .ok (.goto 4, 3) := by decide +kernel
theorem xd_137_79 : decode prog_6_method_32_code 79 = .ok (.iconst 0, 1) := by decide +kernel
theorem xd_137_80 : decode prog_6_method_32_code 80 = .ok (.putfield 37, 3) := by decide +kernel
theorem xd_137_83 : decode prog_6_method_32_code 83 = .ok (.aload_n 0, 1) := by decide +kernel
theorem xd_137_84 : decode prog_6_method_32_code 84 = .ok (.getfield 37, 3) := by decide +kernel
theorem xd_137_87 : decode prog_6_method_32_code 87 = .ok (.ifCond .le 5, 3) := by decide +kernel
theorem xd_137_90 : decode prog_6_method_32_code 90 = .ok (.iconst 0, 1) := by decide +kernel
theorem xd_137_91 : decode prog_6_method_32_code 91 = .ok (.ireturn, 1) := by decide +kernel
theorem xd_137_92 : decode prog_6_method_32_code 92 = .ok (.iconst 0, 1) := by decide +kernel
theorem xd_137_93 : decode prog_6_method_32_code 93 = .ok (.istore 5, 2) := by decide +kernel
theorem xd_137_95 : decode prog_6_method_32_code 95 = .ok (.iload 5, 2) := by decide +kernel
theorem xd_137_97 : decode prog_6_method_32_code 97 = .ok (.iconst 4, 1) := by decide +kernel
theorem xd_137_98 : decode prog_6_method_32_code 98 = .ok (.if_icmp .ge 21, 3) := by decide +kernel
theorem xd_137_101 : decode prog_6_method_32_code 101 = .ok (.aload_n 0, 1) := by decide +kernel
theorem xd_137_102 : decode prog_6_method_32_code 102 = .ok (.getfield 28, 3) := by decide +kernel
theorem xd_137_105 : decode prog_6_method_32_code 105 = .ok (.iconst 5, 1) := by decide +kernel
theorem xd_137_106 : decode prog_6_method_32_code 106 = .ok (.iload 5, 2) := by decide +kernel
theorem xd_137_108 : decode prog_6_method_32_code 108 = .ok (.iadd, 1) := by decide +kernel
theorem xd_137_109 : decode prog_6_method_32_code 109 = .ok (.iaload, 1) := by decide +kernel
theorem xd_137_110 : decode prog_6_method_32_code 110 = .ok (.ifCond .eq 9, 3) := by decide +kernel
theorem xd_137_113 : decode prog_6_method_32_code 113 = .ok (.iinc 5 (1), 3) := by decide +kernel
theorem xd_137_116 : decode prog_6_method_32_code 116 = .ok (.goto (-21), 3) := by decide +kernel
theorem xd_137_119 : decode prog_6_method_32_code 119 = .ok (.aload_n 0, 1) := by decide +kernel
theorem xd_137_120 : decode prog_6_method_32_code 120 = .ok (.invokevirtual 107, 3) := by decide +kernel
theorem xd_137_123 : decode prog_6_method_32_code 123 = .ok (.iload 5, 2) := by decide +kernel
theorem xd_137_125 : decode prog_6_method_32_code 125 = .ok (.iconst 4, 1) := by decide +kernel
theorem xd_137_126 : decode prog_6_method_32_code 126 = .ok (.if_icmp .ge 24, 3) := by decide +kernel
theorem xd_137_129 : decode prog_6_method_32_code 129 = .ok (.aload_n 0, 1) := by decide +kernel
theorem xd_137_130 : decode prog_6_method_32_code 130 = .ok (.getfield 31, 3) := by decide +kernel
theorem xd_137_133 : decode prog_6_method_32_code 133 = .ok (.iconst 5, 1) := by decide +kernel
theorem xd_137_134 : decode prog_6_method_32_code 134 = .ok (.iload 5, 2) := by decide +kernel
theorem xd_137_136 : decode prog_6_method_32_code 136 = .ok (.iadd, 1) := by decide +kernel
theorem xd_137_137 : decode prog_6_method_32_code 137 = .ok (.iconst 1, 1) := by decide +kernel
theorem xd_137_138 : decode prog_6_method_32_code 138 = .ok (.iload_n 1, 1) := by decide +kernel
theorem xd_137_139 : decode prog_6_method_32_code 139 = .ok (.iadd, 1) := by decide +kernel
theorem xd_137_140 : decode prog_6_method_32_code 140 = .ok (.iconst 4, 1) := by decide +kernel
theorem xd_137_141 : decode prog_6_method_32_code 141 = .ok (.iload_n 2, 1) := by decide +kernel
theorem xd_137_142 : decode prog_6_method_32_code 142 = .ok (.imul, 1) := by decide +kernel
theorem xd_137_143 : decode prog_6_method_32_code 143 = .ok (.iadd, 1) := by decide +kernel
theorem xd_137_144 : decode prog_6_method_32_code 144 = .ok (.bipush 32, 2) := by decide +kernel
theorem xd_137_146 : decode prog_6_method_32_code 146 = .ok (.iload_n 3, 1) := by decide +kernel
theorem xd_137_147 : decode prog_6_method_32_code 147 = .ok (.imul, 1) := by decide +kernel
theorem xd_137_148 : decode prog_6_method_32_code 148 = .ok (.iadd, 1) := by decide +kernel
theorem xd_137_149 : decode prog_6_method_32_code 149 = .ok (.iastore, 1) := by decide +kernel
theorem xd_137_150 : decode prog_6_method_32_code 150 = .ok (.iload 5, 2) := by decide +kernel
theorem xd_137_152 : decode prog_6_method_32_code 152 = .ok (.iconst 4, 1) := by decide +kernel
theorem xd_137_153 : decode prog_6_method_32_code 153 = .ok (.if_icmp .eq 13, 3) := by decide +kernel
theorem xd_137_156 : decode prog_6_method_32_code 156 = .ok (.aload_n 0, 1) := by decide +kernel
theorem xd_137_157 : decode prog_6_method_32_code 157 = .ok (.iload 5, 2) := by decide +kernel
theorem xd_137_159 : decode prog_6_method_32_code 159 = .ok (.iconst 0, 1) := by decide +kernel
theorem xd_137_160 : decode prog_6_method_32_code 160 = .ok (.invokevirtual 127, 3) := by decide +kernel
theorem xd_137_163 : decode prog_6_method_32_code 163 = .ok (.ifCond .ne 10, 3) := by decide +kernel
theorem xd_137_166 : decode prog_6_method_32_code 166 = .ok (.aload_n 0, 1) := by decide +kernel
theorem xd_137_167 : decode prog_6_method_32_code 167 = .ok (.iconst 3, 1) := by decide +kernel
theorem xd_137_168 : decode prog_6_method_32_code 168 = .ok (.putfield 37, 3) := by decide +kernel
theorem xd_137_171 : decode prog_6_method_32_code 171 = .ok (.iconst 0, 1) := by decide +kernel
theorem xd_137_172 : decode prog_6_method_32_code 172 = .ok (.ireturn, 1) := by decide +kernel
theorem xd_137_173 : decode prog_6_method_32_code 173 = .ok (.aload_n 0, 1) := by decide +kernel
theorem xd_137_174 : decode prog_6_method_32_code 174 = .ok (.iload 5, 2) := by decide +kernel
theorem xd_137_176 : decode prog_6_method_32_code 176 = .ok (.iconst 0, 1) := by decide +kernel
theorem xd_137_177 : decode prog_6_method_32_code 177 = .ok (.invokevirtual 130, 3) := by decide +kernel
theorem xd_137_180 : decode prog_6_method_32_code 180 = .ok (.aload_n 0, 1) := by decide +kernel
theorem xd_137_181 : decode prog_6_method_32_code 181 = .ok (.invokevirtual 110, 3) := by decide +kernel
theorem xd_137_184 : decode prog_6_method_32_code 184 = .ok (.aload_n 0, 1) := by decide +kernel
theorem xd_137_185 : decode prog_6_method_32_code 185 = .ok (.iload 5, 2) := by decide +kernel
theorem xd_137_187 : decode prog_6_method_32_code 187 = .ok (.invokevirtual 113, 3) := by decide +kernel
theorem xd_137_190 : decode prog_6_method_32_code 190 = .ok (.ireturn, 1) := by decide +kernel
theorem xk_137_0 : xk_OkA xp_F (xp_P sc) xp_cl xp_BW xp_NW xp_SW xp_exn 137 0 (.iload 1) := Or.inr ⟨1, rfl, xd_137_0, rfl⟩
theorem xk_137_1 : xk_OkA xp_F (xp_P sc) xp_cl xp_BW xp_NW xp_SW xp_exn 137 1 (.ifCond .lt 20) := ⟨_, xd_137_1, by unfold xf_to; decide +kernel, rfl⟩
theorem xk_137_2 : xk_OkA xp_F (xp_P sc) xp_cl xp_BW xp_NW xp_SW xp_exn 137 2 (.iload 1) := Or.inr ⟨1, rfl, xd_137_4, rfl⟩
theorem xk_137_3 : xk_OkA xp_F (xp_P sc) xp_cl xp_BW xp_NW xp_SW xp_exn 137 3 (.iconst 3) := Or.inl ⟨xd_137_5, rfl⟩
theorem xk_137_4 : xk_OkA xp_F (xp_P sc) xp_cl xp_BW xp_NW xp_SW xp_exn 137 4 (.if_icmp .ge 20) := ⟨_, xd_137_6, by unfold xf_to; decide +kernel, rfl⟩
theorem xk_137_5 : xk_OkA xp_F (xp_P sc) xp_cl xp_BW xp_NW xp_SW xp_exn 137 5 (.iload 1) := Or.inr ⟨1, rfl, xd_137_9, rfl⟩
theorem xk_137_6 : xk_OkA xp_F (xp_P sc) xp_cl xp_BW xp_NW xp_SW xp_exn 137 6 (.iconst 1) := Or.inl ⟨xd_137_10, rfl⟩
theorem xk_137_7 : xk_OkA xp_F (xp_P sc) xp_cl xp_BW xp_NW xp_SW xp_exn 137 7 (.if_icmp .ne 15) := ⟨_, xd_137_11, by unfold xf_to; decide +kernel, rfl⟩
theorem xk_137_8 : xk_OkA xp_F (xp_P sc) xp_cl xp_BW xp_NW xp_SW xp_exn 137 8 (.iload 2) := Or.inr ⟨2, rfl, xd_137_14, rfl⟩
theorem xk_137_9 : xk_OkA xp_F (xp_P sc) xp_cl xp_BW xp_NW xp_SW xp_exn 137 9 (.iconst 2) := Or.inl ⟨xd_137_15, rfl⟩
theorem xk_137_10 : xk_OkA xp_F (xp_P sc) xp_cl xp_BW xp_NW xp_SW xp_exn 137 10 (.if_icmp .eq 18) := ⟨_, xd_137_16, by unfold xf_to; decide +kernel, rfl⟩
theorem xk_137_11 : xk_OkA xp_F (xp_P sc) xp_cl xp_BW xp_NW xp_SW xp_exn 137 11 (.iload 2) := Or.inr ⟨2, rfl, xd_137_19, rfl⟩
theorem xk_137_12 : xk_OkA xp_F (xp_P sc) xp_cl xp_BW xp_NW xp_SW xp_exn 137 12 (.iconst 3) := Or.inl ⟨xd_137_20, rfl⟩
theorem xk_137_13 : xk_OkA xp_F (xp_P sc) xp_cl xp_BW xp_NW xp_SW xp_exn 137 13 (.if_icmp .ne 20) := ⟨_, xd_137_21, by unfold xf_to; decide +kernel, rfl⟩
theorem xk_137_14 : xk_OkA xp_F (xp_P sc) xp_cl xp_BW xp_NW xp_SW xp_exn 137 14 (.goto 18) := ⟨_, xd_137_24, by unfold xf_to; decide +kernel⟩
theorem xk_137_15 : xk_OkA xp_F (xp_P sc) xp_cl xp_BW xp_NW xp_SW xp_exn 137 15 (.iload 2) := Or.inr ⟨2, rfl, xd_137_27, rfl⟩
theorem xk_137_16 : xk_OkA xp_F (xp_P sc) xp_cl xp_BW xp_NW xp_SW xp_exn 137 16 (.iconst 1) := Or.inl ⟨xd_137_28, rfl⟩
theorem xk_137_17 : xk_OkA xp_F (xp_P sc) xp_cl xp_BW xp_NW xp_SW xp_exn 137 17 (.if_icmp .ne 20) := ⟨_, xd_137_29, by unfold xf_to; decide +kernel, rfl⟩
theorem xk_137_18 : xk_OkA xp_F (xp_P sc) xp_cl xp_BW xp_NW xp_SW xp_exn 137 18 (.iconst 1) := Or.inl ⟨xd_137_32, rfl⟩
theorem xk_137_19 : xk_OkA xp_F (xp_P sc) xp_cl xp_BW xp_NW xp_SW xp_exn 137 19 (.goto 21) := ⟨_, xd_137_33, by unfold xf_to; decide +kernel⟩
theorem xk_137_20 : xk_OkA xp_F (xp_P sc) xp_cl xp_BW xp_NW xp_SW xp_exn 137 20 (.iconst 0) := Or.inl ⟨xd_137_36, rfl⟩
theorem xk_137_21 : xk_OkA xp_F (xp_P sc) xp_cl xp_BW xp_NW xp_SW xp_exn 137 21 (.istore 4) := Or.inl ⟨xd_137_37, rfl⟩
theorem xk_137_22 : xk_OkA xp_F (xp_P sc) xp_cl xp_BW xp_NW xp_SW xp_exn 137 22 (.aload 0) := Or.inr ⟨0, rfl, xd_137_39, rfl⟩
theorem xk_137_23 : xk_OkA xp_F (xp_P sc) xp_cl xp_BW xp_NW xp_SW xp_exn 137 23 (.aload 0) := Or.inr ⟨0, rfl, xd_137_40, rfl⟩
theorem xk_137_24 : xk_OkA xp_F (xp_P sc) xp_cl xp_BW xp_NW xp_SW xp_exn 137 24 (.getfield 132) := ⟨_, xd_137_41, rfl, ⟨_, _, _, rfl, by decide, xu_4, Or.inl xwt_758⟩⟩
theorem xk_137_25 : xk_OkA xp_F (xp_P sc) xp_cl xp_BW xp_NW xp_SW xp_exn 137 25 (.ifCond .ne 28) := ⟨_, xd_137_44, by unfold xf_to; decide +kernel, rfl⟩
theorem xk_137_26 : xk_OkA xp_F (xp_P sc) xp_cl xp_BW xp_NW xp_SW xp_exn 137 26 (.iconst 1) := Or.inl ⟨xd_137_47, rfl⟩
theorem xk_137_27 : xk_OkA xp_F (xp_P sc) xp_cl xp_BW xp_NW xp_SW xp_exn 137 27 (.goto 42) := ⟨_, xd_137_48, by unfold xf_to; decide +kernel⟩
theorem xk_137_28 : xk_OkA xp_F (xp_P sc) xp_cl xp_BW xp_NW xp_SW xp_exn 137 28 (.iload 4) := Or.inl ⟨xd_137_51, rfl⟩
theorem xk_137_29 : xk_OkA xp_F (xp_P sc) xp_cl xp_BW xp_NW xp_SW xp_exn 137 29 (.ifCond .eq 34) := ⟨_, xd_137_53, by unfold xf_to; decide +kernel, rfl⟩
theorem xk_137_30 : xk_OkA xp_F (xp_P sc) xp_cl xp_BW xp_NW xp_SW xp_exn 137 30 (.iload 2) := Or.inr ⟨2, rfl, xd_137_56, rfl⟩
theorem xk_137_31 : xk_OkA xp_F (xp_P sc) xp_cl xp_BW xp_NW xp_SW xp_exn 137 31 (.iload 3) := Or.inr ⟨3, rfl, xd_137_57, rfl⟩
theorem xk_137_32 : xk_OkA xp_F (xp_P sc) xp_cl xp_BW xp_NW xp_SW xp_exn 137 32 (.invokeinterface 136 2) := ⟨rfl, Or.inl ⟨xwt_859, rfl⟩, rfl, rfl, xwt_5, by decide +kernel, by decide +kernel, Nat.le_of_ble_eq_true rfl, _, Or.inl xwt_857, Or.inl ⟨xd_137_58, xwt_858, rfl, by decide +kernel⟩⟩
theorem xk_137_33 : xk_OkA xp_F (xp_P sc) xp_cl xp_BW xp_NW xp_SW xp_exn 137 33 (.ifCond .ne 36) := ⟨_, xd_137_61, by unfold xf_to; decide +kernel, rfl⟩
theorem xk_137_34 : xk_OkA xp_F (xp_P sc) xp_cl xp_BW xp_NW xp_SW xp_exn 137 34 (.iconst 2) := Or.inl ⟨xd_137_64, rfl⟩
theorem xk_137_35 : xk_OkA xp_F (xp_P sc) xp_cl xp_BW xp_NW xp_SW xp_exn 137 35 (.goto 42) := ⟨_, xd_137_65, by unfold xf_to; decide +kernel⟩
theorem xk_137_36 : xk_OkA xp_F (xp_P sc) xp_cl xp_BW xp_NW xp_SW xp_exn 137 36 (.aload 0) := Or.inr ⟨0, rfl, xd_137_68, rfl⟩
theorem xk_137_37 : xk_OkA xp_F (xp_P sc) xp_cl xp_BW xp_NW xp_SW xp_exn 137 37 (.invokeinterface 118 1) := ⟨rfl, Or.inl ⟨xwt_808, rfl⟩, rfl, rfl, xwt_5, by decide +kernel, by decide +kernel, Nat.le_of_ble_eq_true rfl, _, Or.inl xwt_805, Or.inr ⟨xd_137_69, xwt_807, xws_77, ⟨_, _, _, rfl, rfl⟩, by decide +kernel⟩⟩
theorem xk_137_38 : xk_OkA xp_F (xp_P sc) xp_cl xp_BW xp_NW xp_SW xp_exn 137 38 (.ifCond .eq 41) := ⟨_, xd_137_72, by unfold xf_to; decide +kernel, rfl⟩
theorem xk_137_39 : xk_OkA xp_F (xp_P sc) xp_cl xp_BW xp_NW xp_SW xp_exn 137 39 (.iconst 3) := Or.inl ⟨xd_137_75, rfl⟩
theorem xk_137_40 : xk_OkA xp_F (xp_P sc) xp_cl xp_BW xp_NW xp_SW xp_exn 137 40 (.goto 42) := ⟨_, xd_137_76, by unfold xf_to; decide +kernel⟩
theorem xk_137_41 : xk_OkA xp_F (xp_P sc) xp_cl xp_BW xp_NW xp_SW xp_exn 137 41 (.iconst 0) := Or.inl ⟨xd_137_79, rfl⟩
theorem xk_137_42 : xk_OkA xp_F (xp_P sc) xp_cl xp_BW xp_NW xp_SW xp_exn 137 42 (.putfield 128) := ⟨_, xd_137_80, rfl, ⟨_, _, _, rfl, by decide, xu_4, Or.inl xwt_754⟩, xf_4_0⟩
theorem xk_137_43 : xk_OkA xp_F (xp_P sc) xp_cl xp_BW xp_NW xp_SW xp_exn 137 43 (.aload 0) := Or.inr ⟨0, rfl, xd_137_83, rfl⟩
theorem xk_137_44 : xk_OkA xp_F (xp_P sc) xp_cl xp_BW xp_NW xp_SW xp_exn 137 44 (.getfield 128) := ⟨_, xd_137_84, rfl, ⟨_, _, _, rfl, by decide, xu_4, Or.inl xwt_754⟩⟩
theorem xk_137_45 : xk_OkA xp_F (xp_P sc) xp_cl xp_BW xp_NW xp_SW xp_exn 137 45 (.ifCond .le 48) := ⟨_, xd_137_87, by unfold xf_to; decide +kernel, rfl⟩
theorem xk_137_46 : xk_OkA xp_F (xp_P sc) xp_cl xp_BW xp_NW xp_SW xp_exn 137 46 (.iconst 0) := Or.inl ⟨xd_137_90, rfl⟩
theorem xk_137_47 : xk_OkA xp_F (xp_P sc) xp_cl xp_BW xp_NW xp_SW xp_exn 137 47 (.ireturn) := ⟨xd_137_91, rfl⟩
theorem xk_137_48 : xk_OkA xp_F (xp_P sc) xp_cl xp_BW xp_NW xp_SW xp_exn 137 48 (.iconst 0) := Or.inl ⟨xd_137_92, rfl⟩
theorem xk_137_49 : xk_OkA xp_F (xp_P sc) xp_cl xp_BW xp_NW xp_SW xp_exn 137 49 (.istore 5) := Or.inl ⟨xd_137_93, rfl⟩
theorem xk_137_50 : xk_OkA xp_F (xp_P sc) xp_cl xp_BW xp_NW xp_SW xp_exn 137 50 (.iload 5) := Or.inl ⟨xd_137_95, rfl⟩
theorem xk_137_51 : xk_OkA xp_F (xp_P sc) xp_cl xp_BW xp_NW xp_SW xp_exn 137 51 (.iconst 4) := Or.inl ⟨xd_137_97, rfl⟩
theorem xk_137_52 : xk_OkA xp_F (xp_P sc) xp_cl xp_BW xp_NW xp_SW xp_exn 137 52 (.if_icmp .ge 62) := ⟨_, xd_137_98, by unfold xf_to; decide +kernel, rfl⟩
theorem xk_137_53 : xk_OkA xp_F (xp_P sc) xp_cl xp_BW xp_NW xp_SW xp_exn 137 53 (.aload 0) := Or.inr ⟨0, rfl, xd_137_101, rfl⟩
theorem xk_137_54 : xk_OkA xp_F (xp_P sc) xp_cl xp_BW xp_NW xp_SW xp_exn 137 54 (.getfield 134) := ⟨_, xd_137_102, rfl, ⟨_, _, _, rfl, by decide, xu_4, Or.inl xwt_760⟩⟩
theorem xk_137_55 : xk_OkA xp_F (xp_P sc) xp_cl xp_BW xp_NW xp_SW xp_exn 137 55 (.iconst 5) := Or.inl ⟨xd_137_105, rfl⟩
theorem xk_137_56 : xk_OkA xp_F (xp_P sc) xp_cl xp_BW xp_NW xp_SW xp_exn 137 56 (.iload 5) := Or.inl ⟨xd_137_106, rfl⟩
theorem xk_137_57 : xk_OkA xp_F (xp_P sc) xp_cl xp_BW xp_NW xp_SW xp_exn 137 57 (.iadd) := ⟨xd_137_108, rfl⟩
theorem xk_137_58 : xk_OkA xp_F (xp_P sc) xp_cl xp_BW xp_NW xp_SW xp_exn 137 58 (.iaload) := ⟨xd_137_109, rfl⟩
theorem xk_137_59 : xk_OkA xp_F (xp_P sc) xp_cl xp_BW xp_NW xp_SW xp_exn 137 59 (.ifCond .eq 62) := ⟨_, xd_137_110, by unfold xf_to; decide +kernel, rfl⟩
theorem xk_137_60 : xk_OkA xp_F (xp_P sc) xp_cl xp_BW xp_NW xp_SW xp_exn 137 60 (.iinc 5 (1)) := ⟨xd_137_113, rfl⟩
theorem xk_137_61 : xk_OkA xp_F (xp_P sc) xp_cl xp_BW xp_NW xp_SW xp_exn 137 61 (.goto 50) := ⟨_, xd_137_116, by unfold xf_to; decide +kernel⟩
theorem xk_137_62 : xk_OkA xp_F (xp_P sc) xp_cl xp_BW xp_NW xp_SW xp_exn 137 62 (.aload 0) := Or.inr ⟨0, rfl, xd_137_119, rfl⟩
theorem xk_137_63 : xk_OkA xp_F (xp_P sc) xp_cl xp_BW xp_NW xp_SW xp_exn 137 63 (.invokeinterface 119 1) := ⟨rfl, Or.inl ⟨xwt_812, rfl⟩, rfl, rfl, xwt_5, by decide +kernel, by decide +kernel, Nat.le_of_ble_eq_true rfl, _, Or.inl xwt_809, Or.inr ⟨xd_137_120, xwt_811, xws_78, ⟨_, _, _, rfl, rfl⟩, by decide +kernel⟩⟩
theorem xk_137_64 : xk_OkA xp_F (xp_P sc) xp_cl xp_BW xp_NW xp_SW xp_exn 137 64 (.iload 5) := Or.inl ⟨xd_137_123, rfl⟩
theorem xk_137_65 : xk_OkA xp_F (xp_P sc) xp_cl xp_BW xp_NW xp_SW xp_exn 137 65 (.iconst 4) := Or.inl ⟨xd_137_125, rfl⟩
theorem xk_137_66 : xk_OkA xp_F (xp_P sc) xp_cl xp_BW xp_NW xp_SW xp_exn 137 66 (.if_icmp .ge 84) := ⟨_, xd_137_126, by unfold xf_to; decide +kernel, rfl⟩
theorem xk_137_67 : xk_OkA xp_F (xp_P sc) xp_cl xp_BW xp_NW xp_SW xp_exn 137 67 (.aload 0) := Or.inr ⟨0, rfl, xd_137_129, rfl⟩
theorem xk_137_68 : xk_OkA xp_F (xp_P sc) xp_cl xp_BW xp_NW xp_SW xp_exn 137 68 (.getfield 135) := ⟨_, xd_137_130, rfl, ⟨_, _, _, rfl, by decide, xu_4, Or.inl xwt_761⟩⟩
theorem xk_137_69 : xk_OkA xp_F (xp_P sc) xp_cl xp_BW xp_NW xp_SW xp_exn 137 69 (.iconst 5) := Or.inl ⟨xd_137_133, rfl⟩
theorem xk_137_70 : xk_OkA xp_F (xp_P sc) xp_cl xp_BW xp_NW xp_SW xp_exn 137 70 (.iload 5) := Or.inl ⟨xd_137_134, rfl⟩
theorem xk_137_71 : xk_OkA xp_F (xp_P sc) xp_cl xp_BW xp_NW xp_SW xp_exn 137 71 (.iadd) := ⟨xd_137_136, rfl⟩
theorem xk_137_72 : xk_OkA xp_F (xp_P sc) xp_cl xp_BW xp_NW xp_SW xp_exn 137 72 (.iconst 1) := Or.inl ⟨xd_137_137, rfl⟩
theorem xk_137_73 : xk_OkA xp_F (xp_P sc) xp_cl xp_BW xp_NW xp_SW xp_exn 137 73 (.iload 1) := Or.inr ⟨1, rfl, xd_137_138, rfl⟩
theorem xk_137_74 : xk_OkA xp_F (xp_P sc) xp_cl xp_BW xp_NW xp_SW xp_exn 137 74 (.iadd) := ⟨xd_137_139, rfl⟩
theorem xk_137_75 : xk_OkA xp_F (xp_P sc) xp_cl xp_BW xp_NW xp_SW xp_exn 137 75 (.iconst 4) := Or.inl ⟨xd_137_140, rfl⟩
theorem xk_137_76 : xk_OkA xp_F (xp_P sc) xp_cl xp_BW xp_NW xp_SW xp_exn 137 76 (.iload 2) := Or.inr ⟨2, rfl, xd_137_141, rfl⟩
theorem xk_137_77 : xk_OkA xp_F (xp_P sc) xp_cl xp_BW xp_NW xp_SW xp_exn 137 77 (.imul) := ⟨xd_137_142, rfl⟩
theorem xk_137_78 : xk_OkA xp_F (xp_P sc) xp_cl xp_BW xp_NW xp_SW xp_exn 137 78 (.iadd) := ⟨xd_137_143, rfl⟩
theorem xk_137_79 : xk_OkA xp_F (xp_P sc) xp_cl xp_BW xp_NW xp_SW xp_exn 137 79 (.iconst 32) := Or.inr (Or.inl ⟨xd_137_144, by decide +kernel, rfl⟩)
theorem xk_137_80 : xk_OkA xp_F (xp_P sc) xp_cl xp_BW xp_NW xp_SW xp_exn 137 80 (.iload 3) := Or.inr ⟨3, rfl, xd_137_146, rfl⟩
theorem xk_137_81 : xk_OkA xp_F (xp_P sc) xp_cl xp_BW xp_NW xp_SW xp_exn 137 81 (.imul) := ⟨xd_137_147, rfl⟩
theorem xk_137_82 : xk_OkA xp_F (xp_P sc) xp_cl xp_BW xp_NW xp_SW xp_exn 137 82 (.iadd) := ⟨xd_137_148, rfl⟩
theorem xk_137_83 : xk_OkA xp_F (xp_P sc) xp_cl xp_BW xp_NW xp_SW xp_exn 137 83 (.iastore) := ⟨xd_137_149, rfl⟩
theorem xk_137_84 : xk_OkA xp_F (xp_P sc) xp_cl xp_BW xp_NW xp_SW xp_exn 137 84 (.iload 5) := Or.inl ⟨xd_137_150, rfl⟩
theorem xk_137_85 : xk_OkA xp_F (xp_P sc) xp_cl xp_BW xp_NW xp_SW xp_exn 137 85 (.iconst 4) := Or.inl ⟨xd_137_152, rfl⟩
theorem xk_137_86 : xk_OkA xp_F (xp_P sc) xp_cl xp_BW xp_NW xp_SW xp_exn 137 86 (.if_icmp .eq 92) := ⟨_, xd_137_153, by unfold xf_to; decide +kernel, rfl⟩
theorem xk_137_87 : xk_OkA xp_F (xp_P sc) xp_cl xp_BW xp_NW xp_SW xp_exn 137 87 (.aload 0) := Or.inr ⟨0, rfl, xd_137_156, rfl⟩
theorem xk_137_88 : xk_OkA xp_F (xp_P sc) xp_cl xp_BW xp_NW xp_SW xp_exn 137 88 (.iload 5) := Or.inl ⟨xd_137_157, rfl⟩
theorem xk_137_89 : xk_OkA xp_F (xp_P sc) xp_cl xp_BW xp_NW xp_SW xp_exn 137 89 (.iconst 0) := Or.inl ⟨xd_137_159, rfl⟩
theorem xk_137_90 : xk_OkA xp_F (xp_P sc) xp_cl xp_BW xp_NW xp_SW xp_exn 137 90 (.invokeinterface 130 3) := ⟨rfl, Or.inl ⟨xwt_863, rfl⟩, rfl, rfl, xwt_5, by decide +kernel, by decide +kernel, Nat.le_of_ble_eq_true rfl, _, Or.inl xwt_860, Or.inr ⟨xd_137_160, xwt_862, xws_87, ⟨_, _, _, rfl, rfl⟩, by decide +kernel⟩⟩
theorem xk_137_91 : xk_OkA xp_F (xp_P sc) xp_cl xp_BW xp_NW xp_SW xp_exn 137 91 (.ifCond .ne 97) := ⟨_, xd_137_163, by unfold xf_to; decide +kernel, rfl⟩
theorem xk_137_92 : xk_OkA xp_F (xp_P sc) xp_cl xp_BW xp_NW xp_SW xp_exn 137 92 (.aload 0) := Or.inr ⟨0, rfl, xd_137_166, rfl⟩
theorem xk_137_93 : xk_OkA xp_F (xp_P sc) xp_cl xp_BW xp_NW xp_SW xp_exn 137 93 (.iconst 3) := Or.inl ⟨xd_137_167, rfl⟩
theorem xk_137_94 : xk_OkA xp_F (xp_P sc) xp_cl xp_BW xp_NW xp_SW xp_exn 137 94 (.putfield 128) := ⟨_, xd_137_168, rfl, ⟨_, _, _, rfl, by decide, xu_4, Or.inl xwt_754⟩, xf_4_0⟩
theorem xk_137_95 : xk_OkA xp_F (xp_P sc) xp_cl xp_BW xp_NW xp_SW xp_exn 137 95 (.iconst 0) := Or.inl ⟨xd_137_171, rfl⟩
theorem xk_137_96 : xk_OkA xp_F (xp_P sc) xp_cl xp_BW xp_NW xp_SW xp_exn 137 96 (.ireturn) := ⟨xd_137_172, rfl⟩
theorem xk_137_97 : xk_OkA xp_F (xp_P sc) xp_cl xp_BW xp_NW xp_SW xp_exn 137 97 (.aload 0) := Or.inr ⟨0, rfl, xd_137_173, rfl⟩
theorem xk_137_98 : xk_OkA xp_F (xp_P sc) xp_cl xp_BW xp_NW xp_SW xp_exn 137 98 (.iload 5) := Or.inl ⟨xd_137_174, rfl⟩
theorem xk_137_99 : xk_OkA xp_F (xp_P sc) xp_cl xp_BW xp_NW xp_SW xp_exn 137 99 (.iconst 0) := Or.inl ⟨xd_137_176, rfl⟩
theorem xk_137_100 : xk_OkA xp_F (xp_P sc) xp_cl xp_BW xp_NW xp_SW xp_exn 137 100 (.invokeinterface 131 3) := ⟨rfl, Or.inl ⟨xwt_898, rfl⟩, rfl, rfl, xwt_5, by decide +kernel, by decide +kernel, Nat.le_of_ble_eq_true rfl, _, Or.inl xwt_895, Or.inr ⟨xd_137_177, xwt_897, xws_92, ⟨_, _, _, rfl, rfl⟩, by decide +kernel⟩⟩
theorem xk_137_101 : xk_OkA xp_F (xp_P sc) xp_cl xp_BW xp_NW xp_SW xp_exn 137 101 (.aload 0) := Or.inr ⟨0, rfl, xd_137_180, rfl⟩
theorem xk_137_102 : xk_OkA xp_F (xp_P sc) xp_cl xp_BW xp_NW xp_SW xp_exn 137 102 (.invokeinterface 123 1) := ⟨rfl, Or.inl ⟨xwt_816, rfl⟩, rfl, rfl, xwt_5, by decide +kernel, by decide +kernel, Nat.le_of_ble_eq_true rfl, _, Or.inl xwt_813, Or.inr ⟨xd_137_181, xwt_815, xws_79, ⟨_, _, _, rfl, rfl⟩, by decide +kernel⟩⟩
theorem xk_137_103 : xk_OkA xp_F (xp_P sc) xp_cl xp_BW xp_NW xp_SW xp_exn 137 103 (.aload 0) := Or.inr ⟨0, rfl, xd_137_184, rfl⟩
theorem xk_137_104 : xk_OkA xp_F (xp_P sc) xp_cl xp_BW xp_NW xp_SW xp_exn 137 104 (.iload 5) := Or.inl ⟨xd_137_185, rfl⟩
theorem xk_137_105 : xk_OkA xp_F (xp_P sc) xp_cl xp_BW xp_NW xp_SW xp_exn 137 105 (.invokeinterface 124 2) := ⟨rfl, Or.inl ⟨xwt_836, rfl⟩, rfl, rfl, xwt_5, by decide +kernel, by decide +kernel, Nat.le_of_ble_eq_true rfl, _, Or.inl xwt_833, Or.inr ⟨xd_137_187, xwt_835, xws_84, ⟨_, _, _, rfl, rfl⟩, by decide +kernel⟩⟩
theorem xk_137_106 : xk_OkA xp_F (xp_P sc) xp_cl xp_BW xp_NW xp_SW xp_exn 137 106 (.ireturn) := ⟨xd_137_190, rfl⟩
theorem xl_137 : xk_OkL xp_F (xp_P sc) xp_cl xp_BW xp_NW xp_SW xp_exn 137 0 xc_137 := ⟨xk_137_0, xk_137_1, xk_137_2, xk_137_3, xk_137_4, xk_137_5, xk_137_6, xk_137_7, xk_137_8, xk_137_9, xk_137_10, xk_137_11, xk_137_12, xk_137_13, xk_137_14, xk_137_15, xk_137_16, xk_137_17, xk_137_18, xk_137_19, xk_137_20, xk_137_21, xk_137_22, xk_137_23, xk_137_24, xk_137_25, xk_137_26, xk_137_27, xk_137_28, xk_137_29, xk_137_30, xk_137_31, xk_137_32, xk_137_33, xk_137_34, xk_137_35, xk_137_36, xk_137_37, xk_137_38, xk_137_39, xk_137_40, xk_137_41, xk_137_42, xk_137_43, xk_137_44, xk_137_45, xk_137_46, xk_137_47, xk_137_48, xk_137_49, xk_137_50, xk_137_51, xk_137_52, xk_137_53, xk_137_54, xk_137_55, xk_137_56, xk_137_57, xk_137_58, xk_137_59, xk_137_60, xk_137_61, xk_137_62, xk_137_63, xk_137_64, xk_137_65, xk_137_66, xk_137_67, xk_137_68, xk_137_69, xk_137_70, xk_137_71, xk_137_72, xk_137_73, xk_137_74, xk_137_75, xk_137_76, xk_137_77, xk_137_78, xk_137_79, xk_137_80, xk_137_81, xk_137_82, xk_137_83, xk_137_84, xk_137_85, xk_137_86, xk_137_87, xk_137_88, xk_137_89, xk_137_90, xk_137_91, xk_137_92, xk_137_93, xk_137_94, xk_137_95, xk_137_96, xk_137_97, xk_137_98, xk_137_99, xk_137_100, xk_137_101, xk_137_102, xk_137_103, xk_137_104, xk_137_105, xk_137_106, trivial⟩
theorem xd_138_0 : decode prog_6_method_33_code 0 = .ok (.aload_n 0, 1) := by decide +kernel
theorem xd_138_1 : decode prog_6_method_33_code 1 = .ok (.aload_n 0, 1) := by decide +kernel
theorem xd_138_2 : decode prog_6_method_33_code 2 = .ok (.getfield 20, 3) := by decide +kernel
theorem xd_138_5 : decode prog_6_method_33_code 5 = .ok (.ifCond .ne 7, 3) := by decide +kernel
theorem xd_138_8 : decode prog_6_method_33_code 8 = .ok (.iconst 1, 1) := by decide +kernel
theorem xd_138_9 : decode prog_6_method_33_code 9 = .ok (.goto 16, 3) := by decide +kernel
theorem xd_138_12 : decode prog_6_method_33_code 12 = .ok (.aload_n 0, 1) := by decide +kernel
theorem xd_138_13 : decode prog_6_method_33_code 13 = .ok (.iload_n 1, 1) := by decide +kernel
theorem xd_138_14 : decode prog_6_method_33_code 14 = .ok (.invokevirtual 134, 3) := by decide +kernel
theorem xd_138_17 : decode prog_6_method_33_code 17 = .ok (.ifCond .ne 7, 3) := by decide +kernel
theorem xd_138_20 : decode prog_6_method_33_code 20 = .ok (.iconst 2, 1) := by decide +kernel
theorem xd_138_21 : decode prog_6_method_33_code 21 = .ok (.goto 4, 3) := by decide +kernel
theorem xd_138_24 : decode prog_6_method_33_code 24 = .ok (.iconst 0, 1) := by decide +kernel
theorem xd_138_25 : decode prog_6_method_33_code 25 = .ok (.putfield 37, 3) := by decide +kernel
theorem xd_138_28 : decode prog_6_method_33_code 28 = .ok (.aload_n 0, 1) := by decide +kernel
theorem xd_138_29 : decode prog_6_method_33_code 29 = .ok (.getfield 37, 3) := by decide +kernel
theorem xd_138_32 : decode prog_6_method_33_code 32 = .ok (.ifCond .le 5, 3) := by decide +kernel
theorem xd_138_35 : decode prog_6_method_33_code 35 = .ok (.iconst 0, 1) := by decide +kernel
theorem xd_138_36 : decode prog_6_method_33_code 36 = .ok (.ireturn, 1) := by decide +kernel
theorem xd_138_37 : decode prog_6_method_33_code 37 = .ok (.aload_n 0, 1) := by decide +kernel
theorem xd_138_38 : decode prog_6_method_33_code 38 = .ok (.getfield 28, 3) := by decide +kernel
theorem xd_138_41 : decode prog_6_method_33_code 41 = .ok (.iload_n 1, 1) := by decide +kernel
theorem xd_138_42 : decode prog_6_method_33_code 42 = .ok (.invokestatic 86, 3) := by decide +kernel
theorem xd_138_45 : decode prog_6_method_33_code 45 = .ok (.istore_n 3, 1) := by decide +kernel
theorem xd_138_46 : decode prog_6_method_33_code 46 = .ok (.aload_n 0, 1) := by decide +kernel
theorem xd_138_47 : decode prog_6_method_33_code 47 = .ok (.iload_n 2, 1) := by decide +kernel
theorem xd_138_48 : decode prog_6_method_33_code 48 = .ok (.iconst 1, 1) := by decide +kernel
theorem xd_138_49 : decode prog_6_method_33_code 49 = .ok (.if_icmp .lt 25, 3) := by decide +kernel
theorem xd_138_52 : decode prog_6_method_33_code 52 = .ok (.iload_n 2, 1) := by decide +kernel
theorem xd_138_53 : decode prog_6_method_33_code 53 = .ok (.iconst 5, 1) := by decide +kernel
theorem xd_138_54 : decode prog_6_method_33_code 54 = .ok (.if_icmp .gt 20, 3) := by decide +kernel
theorem xd_138_57 : decode prog_6_method_33_code 57 = .ok (.aload_n 0, 1) := by decide +kernel
theorem xd_138_58 : decode prog_6_method_33_code 58 = .ok (.getfield 28, 3) := by decide +kernel
theorem xd_138_61 : decode prog_6_method_33_code 61 = .ok (.iload_n 1, 1) := by decide +kernel
theorem xd_138_62 : decode prog_6_method_33_code 62 = .ok (.invokestatic 79, 3) := by decide +kernel
theorem xd_138_65 : decode prog_6_method_33_code 65 = .ok (.iload_n 3, 1) := by decide +kernel
theorem xd_138_66 : decode prog_6_method_33_code 66 = .ok (.iload_n 2, 1) := by decide +kernel
theorem xd_138_67 : decode prog_6_method_33_code 67 = .ok (.iadd, 1) := by decide +kernel
theorem xd_138_68 : decode prog_6_method_33_code 68 = .ok (.invokestatic 123, 3) := by decide +kernel
theorem xd_138_71 : decode prog_6_method_33_code 71 = .ok (.ifCond .ne 7, 3) := by decide +kernel
theorem xd_138_74 : decode prog_6_method_33_code 74 = .ok (.iconst 3, 1) := by decide +kernel
theorem xd_138_75 : decode prog_6_method_33_code 75 = .ok (.goto 15, 3) := by decide +kernel
theorem xd_138_78 : decode prog_6_method_33_code 78 = .ok (.aload_n 0, 1) := by decide +kernel
theorem xd_138_79 : decode prog_6_method_33_code 79 = .ok (.invokevirtual 52, 3) := by decide +kernel
theorem xd_138_82 : decode prog_6_method_33_code 82 = .ok (.ifCond .eq 7, 3) := by decide +kernel
theorem xd_138_85 : decode prog_6_method_33_code 85 = .ok (.iconst 4, 1) := by decide +kernel
theorem xd_138_86 : decode prog_6_method_33_code 86 = .ok (.goto 4, 3) := by decide +kernel
theorem xd_138_89 : decode prog_6_method_33_code 89 = .ok (.iconst 0, 1) := by decide +kernel
theorem xd_138_90 : decode prog_6_method_33_code 90 = .ok (.putfield 37, 3) := by decide +kernel
theorem xd_138_93 : decode prog_6_method_33_code 93 = .ok (.aload_n 0, 1) := by decide +kernel
theorem xd_138_94 : decode prog_6_method_33_code 94 = .ok (.getfield 37, 3) := by decide +kernel
theorem xd_138_97 : decode prog_6_method_33_code 97 = .ok (.ifCond .le 5, 3) := by decide +kernel
theorem xd_138_100 : decode prog_6_method_33_code 100 = .ok (.iconst 0, 1) := by decide +kernel
theorem xd_138_101 : decode prog_6_method_33_code 101 = .ok (.ireturn, 1) := by decide +kernel
theorem xd_138_102 : decode prog_6_method_33_code 102 = .ok (.aload_n 0, 1) := by decide +kernel
theorem xd_138_103 : decode prog_6_method_33_code 103 = .ok (.invokevirtual 107, 3) := by decide +kernel
theorem xd_138_106 : decode prog_6_method_33_code 106 = .ok (.aload_n 0, 1) := by decide +kernel
theorem xd_138_107 : decode prog_6_method_33_code 107 = .ok (.getfield 31, 3) := by decide +kernel
theorem xd_138_110 : decode prog_6_method_33_code 110 = .ok (.iconst 5, 1) := by decide +kernel
theorem xd_138_111 : decode prog_6_method_33_code 111 = .ok (.iload_n 1, 1) := by decide +kernel
theorem xd_138_112 : decode prog_6_method_33_code 112 = .ok (.iadd, 1) := by decide +kernel
theorem xd_138_113 : decode prog_6_method_33_code 113 = .ok (.aload_n 0, 1) := by decide +kernel
theorem xd_138_114 : decode prog_6_method_33_code 114 = .ok (.getfield 31, 3) := by decide +kernel
theorem xd_138_117 : decode prog_6_method_33_code 117 = .ok (.iconst 5, 1) := by decide +kernel
theorem xd_138_118 : decode prog_6_method_33_code 118 = .ok (.iload_n 1, 1) := by decide +kernel
theorem xd_138_119 : decode prog_6_method_33_code 119 = .ok (.iadd, 1) := by decide +kernel
theorem xd_138_120 : decode prog_6_method_33_code 120 = .ok (.iaload, 1) := by decide +kernel
theorem xd_138_121 : decode prog_6_method_33_code 121 = .ok (.bipush 32, 2) := by decide +kernel
theorem xd_138_123 : decode prog_6_method_33_code 123 = .ok (.iload_n 2, 1) := by decide +kernel
theorem xd_138_124 : decode prog_6_method_33_code 124 = .ok (.imul, 1) := by decide +kernel
theorem xd_138_125 : decode prog_6_method_33_code 125 = .ok (.iadd, 1) := by decide +kernel
theorem xd_138_126 : decode prog_6_method_33_code 126 = .ok (.iastore, 1) := by decide +kernel
theorem xd_138_127 : decode prog_6_method_33_code 127 = .ok (.aload_n 0, 1) := by decide +kernel
theorem xd_138_128 : decode prog_6_method_33_code 128 = .ok (.iload_n 1, 1) := by decide +kernel
theorem xd_138_129 : decode prog_6_method_33_code 129 = .ok (.iload_n 3, 1) := by decide +kernel
theorem xd_138_130 : decode prog_6_method_33_code 130 = .ok (.invokevirtual 127, 3) := by decide +kernel
theorem xd_138_133 : decode prog_6_method_33_code 133 = .ok (.ifCond .ne 10, 3) := by decide +kernel
theorem xd_138_136 : decode prog_6_method_33_code 136 = .ok (.aload_n 0, 1) := by decide +kernel
theorem xd_138_137 : decode prog_6_method_33_code 137 = .ok (.iconst 4, 1) := by decide +kernel
theorem xd_138_138 : decode prog_6_method_33_code 138 = .ok (.putfield 37, 3) := by decide +kernel
theorem xd_138_141 : decode prog_6_method_33_code 141 = .ok (.iconst 0, 1) := by decide +kernel
theorem xd_138_142 : decode prog_6_method_33_code 142 = .ok (.ireturn, 1) := by decide +kernel
theorem xd_138_143 : decode prog_6_method_33_code 143 = .ok (.aload_n 0, 1) := by decide +kernel
theorem xd_138_144 : decode prog_6_method_33_code 144 = .ok (.iload_n 1, 1) := by decide +kernel
theorem xd_138_145 : decode prog_6_method_33_code 145 = .ok (.iload_n 3, 1) := by decide +kernel
theorem xd_138_146 : decode prog_6_method_33_code 146 = .ok (.invokevirtual 130, 3) := by decide +kernel
theorem xd_138_149 : decode prog_6_method_33_code 149 = .ok (.aload_n 0, 1) := by decide +kernel
theorem xd_138_150 : decode prog_6_method_33_code 150 = .ok (.invokevirtual 110, 3) := by decide +kernel
theorem xd_138_153 : decode prog_6_method_33_code 153 = .ok (.aload_n 0, 1) := by decide +kernel
theorem xd_138_154 : decode prog_6_method_33_code 154 = .ok (.iload_n 3, 1) := by decide +kernel
theorem xd_138_155 : decode prog_6_method_33_code 155 = .ok (.iload_n 2, 1) := by decide +kernel
theorem xd_138_156 : decode prog_6_method_33_code 156 = .ok (.iadd, 1) := by decide +kernel
theorem xd_138_157 : decode prog_6_method_33_code 157 = .ok (.invokevirtual 113, 3) := by decide +kernel
theorem xd_138_160 : decode prog_6_method_33_code 160 = .ok (.ireturn, 1) := by decide +kernel
theorem xk_138_0 : xk_OkA xp_F (xp_P sc) xp_cl xp_BW xp_NW xp_SW xp_exn 138 0 (.aload 0) := Or.inr ⟨0, rfl, xd_138_0, rfl⟩
theorem xk_138_1 : xk_OkA xp_F (xp_P sc) xp_cl xp_BW xp_NW xp_SW xp_exn 138 1 (.aload 0) := Or.inr ⟨0, rfl, xd_138_1, rfl⟩
theorem xk_138_2 : xk_OkA xp_F (xp_P sc) xp_cl xp_BW xp_NW xp_SW xp_exn 138 2 (.getfield 132) := ⟨_, xd_138_2, rfl, ⟨_, _, _, rfl, by decide, xu_4, Or.inl xwt_758⟩⟩
theorem xk_138_3 : xk_OkA xp_F (xp_P sc) xp_cl xp_BW xp_NW xp_SW xp_exn 138 3 (.ifCond .ne 6) := ⟨_, xd_138_5, by unfold xf_to; decide +kernel, rfl⟩
theorem xk_138_4 : xk_OkA xp_F (xp_P sc) xp_cl xp_BW xp_NW xp_SW xp_exn 138 4 (.iconst 1) := Or.inl ⟨xd_138_8, rfl⟩
theorem xk_138_5 : xk_OkA xp_F (xp_P sc) xp_cl xp_BW xp_NW xp_SW xp_exn 138 5 (.goto 13) := ⟨_, xd_138_9, by unfold xf_to; decide +kernel⟩
theorem xk_138_6 : xk_OkA xp_F (xp_P sc) xp_cl xp_BW xp_NW xp_SW xp_exn 138 6 (.aload 0) := Or.inr ⟨0, rfl, xd_138_12, rfl⟩
theorem xk_138_7 : xk_OkA xp_F (xp_P sc) xp_cl xp_BW xp_NW xp_SW xp_exn 138 7 (.iload 1) := Or.inr ⟨1, rfl, xd_138_13, rfl⟩
theorem xk_138_8 : xk_OkA xp_F (xp_P sc) xp_cl xp_BW xp_NW xp_SW xp_exn 138 8 (.invokeinterface 115 2) := ⟨rfl, Or.inl ⟨xwt_910, rfl⟩, rfl, rfl, xwt_5, by decide +kernel, by decide +kernel, Nat.le_of_ble_eq_true rfl, _, Or.inl xwt_907, Or.inr ⟨xd_138_14, xwt_909, xws_94, ⟨_, _, _, rfl, rfl⟩, by decide +kernel⟩⟩
theorem xk_138_9 : xk_OkA xp_F (xp_P sc) xp_cl xp_BW xp_NW xp_SW xp_exn 138 9 (.ifCond .ne 12) := ⟨_, xd_138_17, by unfold xf_to; decide +kernel, rfl⟩
theorem xk_138_10 : xk_OkA xp_F (xp_P sc) xp_cl xp_BW xp_NW xp_SW xp_exn 138 10 (.iconst 2) := Or.inl ⟨xd_138_20, rfl⟩
theorem xk_138_11 : xk_OkA xp_F (xp_P sc) xp_cl xp_BW xp_NW xp_SW xp_exn 138 11 (.goto 13) := ⟨_, xd_138_21, by unfold xf_to; decide +kernel⟩
theorem xk_138_12 : xk_OkA xp_F (xp_P sc) xp_cl xp_BW xp_NW xp_SW xp_exn 138 12 (.iconst 0) := Or.inl ⟨xd_138_24, rfl⟩
theorem xk_138_13 : xk_OkA xp_F (xp_P sc) xp_cl xp_BW xp_NW xp_SW xp_exn 138 13 (.putfield 128) := ⟨_, xd_138_25, rfl, ⟨_, _, _, rfl, by decide, xu_4, Or.inl xwt_754⟩, xf_4_0⟩
theorem xk_138_14 : xk_OkA xp_F (xp_P sc) xp_cl xp_BW xp_NW xp_SW xp_exn 138 14 (.aload 0) := Or.inr ⟨0, rfl, xd_138_28, rfl⟩
theorem xk_138_15 : xk_OkA xp_F (xp_P sc) xp_cl xp_BW xp_NW xp_SW xp_exn 138 15 (.getfield 128) := ⟨_, xd_138_29, rfl, ⟨_, _, _, rfl, by decide, xu_4, Or.inl xwt_754⟩⟩
theorem xk_138_16 : xk_OkA xp_F (xp_P sc) xp_cl xp_BW xp_NW xp_SW xp_exn 138 16 (.ifCond .le 19) := ⟨_, xd_138_32, by unfold xf_to; decide +kernel, rfl⟩
theorem xk_138_17 : xk_OkA xp_F (xp_P sc) xp_cl xp_BW xp_NW xp_SW xp_exn 138 17 (.iconst 0) := Or.inl ⟨xd_138_35, rfl⟩
theorem xk_138_18 : xk_OkA xp_F (xp_P sc) xp_cl xp_BW xp_NW xp_SW xp_exn 138 18 (.ireturn) := ⟨xd_138_36, rfl⟩
theorem xk_138_19 : xk_OkA xp_F (xp_P sc) xp_cl xp_BW xp_NW xp_SW xp_exn 138 19 (.aload 0) := Or.inr ⟨0, rfl, xd_138_37, rfl⟩
theorem xk_138_20 : xk_OkA xp_F (xp_P sc) xp_cl xp_BW xp_NW xp_SW xp_exn 138 20 (.getfield 134) := ⟨_, xd_138_38, rfl, ⟨_, _, _, rfl, by decide, xu_4, Or.inl xwt_760⟩⟩
theorem xk_138_21 : xk_OkA xp_F (xp_P sc) xp_cl xp_BW xp_NW xp_SW xp_exn 138 21 (.iload 1) := Or.inr ⟨1, rfl, xd_138_41, rfl⟩
theorem xk_138_22 : xk_OkA xp_F (xp_P sc) xp_cl xp_BW xp_NW xp_SW xp_exn 138 22 (.invokeinterface 114 2) := ⟨rfl, Or.inl ⟨xwt_866, rfl⟩, rfl, rfl, xwt_5, by decide +kernel, by decide +kernel, Nat.le_of_ble_eq_true rfl, _, Or.inl xwt_864, Or.inl ⟨xd_138_42, xwt_865, rfl, by decide +kernel⟩⟩
theorem xk_138_23 : xk_OkA xp_F (xp_P sc) xp_cl xp_BW xp_NW xp_SW xp_exn 138 23 (.istore 3) := Or.inr ⟨3, rfl, xd_138_45, rfl⟩
theorem xk_138_24 : xk_OkA xp_F (xp_P sc) xp_cl xp_BW xp_NW xp_SW xp_exn 138 24 (.aload 0) := Or.inr ⟨0, rfl, xd_138_46, rfl⟩
theorem xk_138_25 : xk_OkA xp_F (xp_P sc) xp_cl xp_BW xp_NW xp_SW xp_exn 138 25 (.iload 2) := Or.inr ⟨2, rfl, xd_138_47, rfl⟩
theorem xk_138_26 : xk_OkA xp_F (xp_P sc) xp_cl xp_BW xp_NW xp_SW xp_exn 138 26 (.iconst 1) := Or.inl ⟨xd_138_48, rfl⟩
theorem xk_138_27 : xk_OkA xp_F (xp_P sc) xp_cl xp_BW xp_NW xp_SW xp_exn 138 27 (.if_icmp .lt 40) := ⟨_, xd_138_49, by unfold xf_to; decide +kernel, rfl⟩
theorem xk_138_28 : xk_OkA xp_F (xp_P sc) xp_cl xp_BW xp_NW xp_SW xp_exn 138 28 (.iload 2) := Or.inr ⟨2, rfl, xd_138_52, rfl⟩
theorem xk_138_29 : xk_OkA xp_F (xp_P sc) xp_cl xp_BW xp_NW xp_SW xp_exn 138 29 (.iconst 5) := Or.inl ⟨xd_138_53, rfl⟩
theorem xk_138_30 : xk_OkA xp_F (xp_P sc) xp_cl xp_BW xp_NW xp_SW xp_exn 138 30 (.if_icmp .gt 40) := ⟨_, xd_138_54, by unfold xf_to; decide +kernel, rfl⟩
theorem xk_138_31 : xk_OkA xp_F (xp_P sc) xp_cl xp_BW xp_NW xp_SW xp_exn 138 31 (.aload 0) := Or.inr ⟨0, rfl, xd_138_57, rfl⟩
theorem xk_138_32 : xk_OkA xp_F (xp_P sc) xp_cl xp_BW xp_NW xp_SW xp_exn 138 32 (.getfield 134) := ⟨_, xd_138_58, rfl, ⟨_, _, _, rfl, by decide, xu_4, Or.inl xwt_760⟩⟩
theorem xk_138_33 : xk_OkA xp_F (xp_P sc) xp_cl xp_BW xp_NW xp_SW xp_exn 138 33 (.iload 1) := Or.inr ⟨1, rfl, xd_138_61, rfl⟩
theorem xk_138_34 : xk_OkA xp_F (xp_P sc) xp_cl xp_BW xp_NW xp_SW xp_exn 138 34 (.invokeinterface 113 2) := ⟨rfl, Or.inl ⟨xwt_883, rfl⟩, rfl, rfl, xwt_5, by decide +kernel, by decide +kernel, Nat.le_of_ble_eq_true rfl, _, Or.inl xwt_881, Or.inl ⟨xd_138_62, xwt_882, rfl, by decide +kernel⟩⟩
theorem xk_138_35 : xk_OkA xp_F (xp_P sc) xp_cl xp_BW xp_NW xp_SW xp_exn 138 35 (.iload 3) := Or.inr ⟨3, rfl, xd_138_65, rfl⟩
theorem xk_138_36 : xk_OkA xp_F (xp_P sc) xp_cl xp_BW xp_NW xp_SW xp_exn 138 36 (.iload 2) := Or.inr ⟨2, rfl, xd_138_66, rfl⟩
theorem xk_138_37 : xk_OkA xp_F (xp_P sc) xp_cl xp_BW xp_NW xp_SW xp_exn 138 37 (.iadd) := ⟨xd_138_67, rfl⟩
theorem xk_138_38 : xk_OkA xp_F (xp_P sc) xp_cl xp_BW xp_NW xp_SW xp_exn 138 38 (.invokeinterface 136 2) := ⟨rfl, Or.inl ⟨xwt_859, rfl⟩, rfl, rfl, xwt_5, by decide +kernel, by decide +kernel, Nat.le_of_ble_eq_true rfl, _, Or.inl xwt_857, Or.inl ⟨xd_138_68, xwt_858, rfl, by decide +kernel⟩⟩
theorem xk_138_39 : xk_OkA xp_F (xp_P sc) xp_cl xp_BW xp_NW xp_SW xp_exn 138 39 (.ifCond .ne 42) := ⟨_, xd_138_71, by unfold xf_to; decide +kernel, rfl⟩
theorem xk_138_40 : xk_OkA xp_F (xp_P sc) xp_cl xp_BW xp_NW xp_SW xp_exn 138 40 (.iconst 3) := Or.inl ⟨xd_138_74, rfl⟩
theorem xk_138_41 : xk_OkA xp_F (xp_P sc) xp_cl xp_BW xp_NW xp_SW xp_exn 138 41 (.goto 48) := ⟨_, xd_138_75, by unfold xf_to; decide +kernel⟩
theorem xk_138_42 : xk_OkA xp_F (xp_P sc) xp_cl xp_BW xp_NW xp_SW xp_exn 138 42 (.aload 0) := Or.inr ⟨0, rfl, xd_138_78, rfl⟩
theorem xk_138_43 : xk_OkA xp_F (xp_P sc) xp_cl xp_BW xp_NW xp_SW xp_exn 138 43 (.invokeinterface 118 1) := ⟨rfl, Or.inl ⟨xwt_808, rfl⟩, rfl, rfl, xwt_5, by decide +kernel, by decide +kernel, Nat.le_of_ble_eq_true rfl, _, Or.inl xwt_805, Or.inr ⟨xd_138_79, xwt_807, xws_77, ⟨_, _, _, rfl, rfl⟩, by decide +kernel⟩⟩
theorem xk_138_44 : xk_OkA xp_F (xp_P sc) xp_cl xp_BW xp_NW xp_SW xp_exn 138 44 (.ifCond .eq 47) := ⟨_, xd_138_82, by unfold xf_to; decide +kernel, rfl⟩
theorem xk_138_45 : xk_OkA xp_F (xp_P sc) xp_cl xp_BW xp_NW xp_SW xp_exn 138 45 (.iconst 4) := Or.inl ⟨xd_138_85, rfl⟩
theorem xk_138_46 : xk_OkA xp_F (xp_P sc) xp_cl xp_BW xp_NW xp_SW xp_exn 138 46 (.goto 48) := ⟨_, xd_138_86, by unfold xf_to; decide +kernel⟩
theorem xk_138_47 : xk_OkA xp_F (xp_P sc) xp_cl xp_BW xp_NW xp_SW xp_exn 138 47 (.iconst 0) := Or.inl ⟨xd_138_89, rfl⟩
theorem xk_138_48 : xk_OkA xp_F (xp_P sc) xp_cl xp_BW xp_NW xp_SW xp_exn 138 48 (.putfield 128) := ⟨_, xd_138_90, rfl, ⟨_, _, _, rfl, by decide, xu_4, Or.inl xwt_754⟩, xf_4_0⟩
theorem xk_138_49 : xk_OkA xp_F (xp_P sc) xp_cl xp_BW xp_NW xp_SW xp_exn 138 49 (.aload 0) := Or.inr ⟨0, rfl, xd_138_93, rfl⟩
theorem xk_138_50 : xk_OkA xp_F (xp_P sc) xp_cl xp_BW xp_NW xp_SW xp_exn 138 50 (.getfield 128) := ⟨_, xd_138_94, rfl, ⟨_, _, _, rfl, by decide, xu_4, Or.inl xwt_754⟩⟩
theorem xk_138_51 : xk_OkA xp_F (xp_P sc) xp_cl xp_BW xp_NW xp_SW xp_exn 138 51 (.ifCond .le 54) := ⟨_, xd_138_97, by unfold xf_to; decide +kernel, rfl⟩
theorem xk_138_52 : xk_OkA xp_F (xp_P sc) xp_cl xp_BW xp_NW xp_SW xp_exn 138 52 (.iconst 0) := Or.inl ⟨xd_138_100, rfl⟩
theorem xk_138_53 : xk_OkA xp_F (xp_P sc) xp_cl xp_BW xp_NW xp_SW xp_exn 138 53 (.ireturn) := ⟨xd_138_101, rfl⟩
theorem xk_138_54 : xk_OkA xp_F (xp_P sc) xp_cl xp_BW xp_NW xp_SW xp_exn 138 54 (.aload 0) := Or.inr ⟨0, rfl, xd_138_102, rfl⟩
theorem xk_138_55 : xk_OkA xp_F (xp_P sc) xp_cl xp_BW xp_NW xp_SW xp_exn 138 55 (.invokeinterface 119 1) := ⟨rfl, Or.inl ⟨xwt_812, rfl⟩, rfl, rfl, xwt_5, by decide +kernel, by decide +kernel, Nat.le_of_ble_eq_true rfl, _, Or.inl xwt_809, Or.inr ⟨xd_138_103, xwt_811, xws_78, ⟨_, _, _, rfl, rfl⟩, by decide +kernel⟩⟩
theorem xk_138_56 : xk_OkA xp_F (xp_P sc) xp_cl xp_BW xp_NW xp_SW xp_exn 138 56 (.aload 0) := Or.inr ⟨0, rfl, xd_138_106, rfl⟩
theorem xk_138_57 : xk_OkA xp_F (xp_P sc) xp_cl xp_BW xp_NW xp_SW xp_exn 138 57 (.getfield 135) := ⟨_, xd_138_107, rfl, ⟨_, _, _, rfl, by decide, xu_4, Or.inl xwt_761⟩⟩
theorem xk_138_58 : xk_OkA xp_F (xp_P sc) xp_cl xp_BW xp_NW xp_SW xp_exn 138 58 (.iconst 5) := Or.inl ⟨xd_138_110, rfl⟩
theorem xk_138_59 : xk_OkA xp_F (xp_P sc) xp_cl xp_BW xp_NW xp_SW xp_exn 138 59 (.iload 1) := Or.inr ⟨1, rfl, xd_138_111, rfl⟩
theorem xk_138_60 : xk_OkA xp_F (xp_P sc) xp_cl xp_BW xp_NW xp_SW xp_exn 138 60 (.iadd) := ⟨xd_138_112, rfl⟩
theorem xk_138_61 : xk_OkA xp_F (xp_P sc) xp_cl xp_BW xp_NW xp_SW xp_exn 138 61 (.aload 0) := Or.inr ⟨0, rfl, xd_138_113, rfl⟩
theorem xk_138_62 : xk_OkA xp_F (xp_P sc) xp_cl xp_BW xp_NW xp_SW xp_exn 138 62 (.getfield 135) := ⟨_, xd_138_114, rfl, ⟨_, _, _, rfl, by decide, xu_4, Or.inl xwt_761⟩⟩
theorem xk_138_63 : xk_OkA xp_F (xp_P sc) xp_cl xp_BW xp_NW xp_SW xp_exn 138 63 (.iconst 5) := Or.inl ⟨xd_138_117, rfl⟩
theorem xk_138_64 : xk_OkA xp_F (xp_P sc) xp_cl xp_BW xp_NW xp_SW xp_exn 138 64 (.iload 1) := Or.inr ⟨1, rfl, xd_138_118, rfl⟩
theorem xk_138_65 : xk_OkA xp_F (xp_P sc) xp_cl xp_BW xp_NW xp_SW xp_exn 138 65 (.iadd) := ⟨xd_138_119, rfl⟩
theorem xk_138_66 : xk_OkA xp_F (xp_P sc) xp_cl xp_BW xp_NW xp_SW xp_exn 138 66 (.iaload) := ⟨xd_138_120, rfl⟩
theorem xk_138_67 : xk_OkA xp_F (xp_P sc) xp_cl xp_BW xp_NW xp_SW xp_exn 138 67 (.iconst 32) := Or.inr (Or.inl ⟨xd_138_121, by decide +kernel, rfl⟩)
theorem xk_138_68 : xk_OkA xp_F (xp_P sc) xp_cl xp_BW xp_NW xp_SW xp_exn 138 68 (.iload 2) := Or.inr ⟨2, rfl, xd_138_123, rfl⟩
theorem xk_138_69 : xk_OkA xp_F (xp_P sc) xp_cl xp_BW xp_NW xp_SW xp_exn 138 69 (.imul) := ⟨xd_138_124, rfl⟩
theorem xk_138_70 : xk_OkA xp_F (xp_P sc) xp_cl xp_BW xp_NW xp_SW xp_exn 138 70 (.iadd) := ⟨xd_138_125, rfl⟩
theorem xk_138_71 : xk_OkA xp_F (xp_P sc) xp_cl xp_BW xp_NW xp_SW xp_exn 138 71 (.iastore) := ⟨xd_138_126, rfl⟩
theorem xk_138_72 : xk_OkA xp_F (xp_P sc) xp_cl xp_BW xp_NW xp_SW xp_exn 138 72 (.aload 0) := Or.inr ⟨0, rfl, xd_138_127, rfl⟩
theorem xk_138_73 : xk_OkA xp_F (xp_P sc) xp_cl xp_BW xp_NW xp_SW xp_exn 138 73 (.iload 1) := Or.inr ⟨1, rfl, xd_138_128, rfl⟩
theorem xk_138_74 : xk_OkA xp_F (xp_P sc) xp_cl xp_BW xp_NW xp_SW xp_exn 138 74 (.iload 3) := Or.inr ⟨3, rfl, xd_138_129, rfl⟩
theorem xk_138_75 : xk_OkA xp_F (xp_P sc) xp_cl xp_BW xp_NW xp_SW xp_exn 138 75 (.invokeinterface 130 3) := ⟨rfl, Or.inl ⟨xwt_863, rfl⟩, rfl, rfl, xwt_5, by decide +kernel, by decide +kernel, Nat.le_of_ble_eq_true rfl, _, Or.inl xwt_860, Or.inr ⟨xd_138_130, xwt_862, xws_87, ⟨_, _, _, rfl, rfl⟩, by decide +kernel⟩⟩
theorem xk_138_76 : xk_OkA xp_F (xp_P sc) xp_cl xp_BW xp_NW xp_SW xp_exn 138 76 (.ifCond .ne 82) := ⟨_, xd_138_133, by unfold xf_to; decide +kernel, rfl⟩
theorem xk_138_77 : xk_OkA xp_F (xp_P sc) xp_cl xp_BW xp_NW xp_SW xp_exn 138 77 (.aload 0) := Or.inr ⟨0, rfl, xd_138_136, rfl⟩
theorem xk_138_78 : xk_OkA xp_F (xp_P sc) xp_cl xp_BW xp_NW xp_SW xp_exn 138 78 (.iconst 4) := Or.inl ⟨xd_138_137, rfl⟩
theorem xk_138_79 : xk_OkA xp_F (xp_P sc) xp_cl xp_BW xp_NW xp_SW xp_exn 138 79 (.putfield 128) := ⟨_, xd_138_138, rfl, ⟨_, _, _, rfl, by decide, xu_4, Or.inl xwt_754⟩, xf_4_0⟩
theorem xk_138_80 : xk_OkA xp_F (xp_P sc) xp_cl xp_BW xp_NW xp_SW xp_exn 138 80 (.iconst 0) := Or.inl ⟨xd_138_141, rfl⟩
theorem xk_138_81 : xk_OkA xp_F (xp_P sc) xp_cl xp_BW xp_NW xp_SW xp_exn 138 81 (.ireturn) := ⟨xd_138_142, rfl⟩
theorem xk_138_82 : xk_OkA xp_F (xp_P sc) xp_cl xp_BW xp_NW xp_SW xp_exn 138 82 (.aload 0) := Or.inr ⟨0, rfl, xd_138_143, rfl⟩
theorem xk_138_83 : xk_OkA xp_F (xp_P sc) xp_cl xp_BW xp_NW xp_SW xp_exn 138 83 (.iload 1) := Or.inr ⟨1, rfl, xd_138_144, rfl⟩
theorem xk_138_84 : xk_OkA xp_F (xp_P sc) xp_cl xp_BW xp_NW xp_SW xp_exn 138 84 (.iload 3) := Or.inr ⟨3, rfl, xd_138_145, rfl⟩
theorem xk_138_85 : xk_OkA xp_F (xp_P sc) xp_cl xp_BW xp_NW xp_SW xp_exn 138 85 (.invokeinterface 131 3) := ⟨rfl, Or.inl ⟨xwt_898, rfl⟩, rfl, rfl, xwt_5, by decide +kernel, by decide +kernel, Nat.le_of_ble_eq_true rfl, _, Or.inl xwt_895, Or.inr ⟨xd_138_146, xwt_897, xws_92, ⟨_, _, _, rfl, rfl⟩, by decide +kernel⟩⟩
theorem xk_138_86 : xk_OkA xp_F (xp_P sc) xp_cl xp_BW xp_NW xp_SW xp_exn 138 86 (.aload 0) := Or.inr ⟨0, rfl, xd_138_149, rfl⟩
theorem xk_138_87 : xk_OkA xp_F (xp_P sc) xp_cl xp_BW xp_NW xp_SW xp_exn 138 87 (.invokeinterface 123 1) := ⟨rfl, Or.inl ⟨xwt_816, rfl⟩, rfl, rfl, xwt_5, by decide +kernel, by decide +kernel, Nat.le_of_ble_eq_true rfl, _, Or.inl xwt_813, Or.inr ⟨xd_138_150, xwt_815, xws_79, ⟨_, _, _, rfl, rfl⟩, by decide +kernel⟩⟩
theorem xk_138_88 : xk_OkA xp_F (xp_P sc) xp_cl xp_BW xp_NW xp_SW xp_exn 138 88 (.aload 0) := Or.inr ⟨0, rfl, xd_138_153, rfl⟩
theorem xk_138_89 : xk_OkA xp_F (xp_P sc) xp_cl xp_BW xp_NW xp_SW xp_exn 138 89 (.iload 3) := Or.inr ⟨3, rfl, xd_138_154, rfl⟩
theorem xk_138_90 : xk_OkA xp_F (xp_P sc) xp_cl xp_BW xp_NW xp_SW xp_exn 138 90 (.iload 2) := Or.inr ⟨2, rfl, xd_138_155, rfl⟩
theorem xk_138_91 : xk_OkA xp_F (xp_P sc) xp_cl xp_BW xp_NW xp_SW xp_exn 138 91 (.iadd) := ⟨xd_138_156, rfl⟩
theorem xk_138_92 : xk_OkA xp_F (xp_P sc) xp_cl xp_BW xp_NW xp_SW xp_exn 138 92 (.invokeinterface 124 2) := ⟨rfl, Or.inl ⟨xwt_836, rfl⟩, rfl, rfl, xwt_5, by decide +kernel, by decide +kernel, Nat.le_of_ble_eq_true rfl, _, Or.inl xwt_833, Or.inr ⟨xd_138_157, xwt_835, xws_84, ⟨_, _, _, rfl, rfl⟩, by decide +kernel⟩⟩
theorem xk_138_93 : xk_OkA xp_F (xp_P sc) xp_cl xp_BW xp_NW xp_SW xp_exn 138 93 (.ireturn) := ⟨xd_138_160, rfl⟩
theorem xl_138 : xk_OkL xp_F (xp_P sc) xp_cl xp_BW xp_NW xp_SW xp_exn 138 0 xc_138 := ⟨xk_138_0, xk_138_1, xk_138_2, xk_138_3, xk_138_4, xk_138_5, xk_138_6, xk_138_7, xk_138_8, xk_138_9, xk_138_10, xk_138_11, xk_138_12, xk_138_13, xk_138_14, xk_138_15, xk_138_16, xk_138_17, xk_138_18, xk_138_19, xk_138_20, xk_138_21, xk_138_22, xk_138_23, xk_138_24, xk_138_25, xk_138_26, xk_138_27, xk_138_28, xk_138_29, xk_138_30, xk_138_31, xk_138_32, xk_138_33, xk_138_34, xk_138_35, xk_138_36, xk_138_37, xk_138_38, xk_138_39, xk_138_40, xk_138_41, xk_138_42, xk_138_43, xk_138_44, xk_138_45, xk_138_46, xk_138_47, xk_138_48, xk_138_49, xk_138_50, xk_138_51, xk_138_52, xk_138_53, xk_138_54, xk_138_55, xk_138_56, xk_138_57, xk_138_58, xk_138_59, xk_138_60, xk_138_61, xk_138_62, xk_138_63, xk_138_64, xk_138_65, xk_138_66, xk_138_67, xk_138_68, xk_138_69, xk_138_70, xk_138_71, xk_138_72, xk_138_73, xk_138_74, xk_138_75, xk_138_76, xk_138_77, xk_138_78, xk_138_79, xk_138_80, xk_138_81, xk_138_82, xk_138_83, xk_138_84, xk_138_85, xk_138_86, xk_138_87, xk_138_88, xk_138_89, xk_138_90, xk_138_91, xk_138_92, xk_138_93, trivial⟩
theorem xd_139_0 : decode prog_6_method_34_code 0 = .ok (.aload_n 0, 1) := by decide +kernel
theorem xd_139_1 : decode prog_6_method_34_code 1 = .ok (.aload_n 0, 1) := by decide +kernel
theorem xd_139_2 : decode prog_6_method_34_code 2 = .ok (.getfield 20, 3) := by decide +kernel
theorem xd_139_5 : decode prog_6_method_34_code 5 = .ok (.ifCond .ne 7, 3) := by decide +kernel
theorem xd_139_8 : decode prog_6_method_34_code 8 = .ok (.iconst 1, 1) := by decide +kernel
theorem xd_139_9 : decode prog_6_method_34_code 9 = .ok (.goto 16, 3) := by decide +kernel
theorem xd_139_12 : decode prog_6_method_34_code 12 = .ok (.aload_n 0, 1) := by decide +kernel
theorem xd_139_13 : decode prog_6_method_34_code 13 = .ok (.iload_n 1, 1) := by decide +kernel
theorem xd_139_14 : decode prog_6_method_34_code 14 = .ok (.invokevirtual 134, 3) := by decide +kernel
theorem xd_139_17 : decode prog_6_method_34_code 17 = .ok (.ifCond .ne 7, 3) := by decide +kernel
theorem xd_139_20 : decode prog_6_method_34_code 20 = .ok (.iconst 2, 1) := by decide +kernel
theorem xd_139_21 : decode prog_6_method_34_code 21 = .ok (.goto 4, 3) := by decide +kernel
theorem xd_139_24 : decode prog_6_method_34_code 24 = .ok (.iconst 0, 1) := by decide +kernel
theorem xd_139_25 : decode prog_6_method_34_code 25 = .ok (.putfield 37, 3) := by decide +kernel
theorem xd_139_28 : decode prog_6_method_34_code 28 = .ok (.aload_n 0, 1) := by decide +kernel
theorem xd_139_29 : decode prog_6_method_34_code 29 = .ok (.getfield 37, 3) := by decide +kernel
theorem xd_139_32 : decode prog_6_method_34_code 32 = .ok (.ifCond .le 5, 3) := by decide +kernel
theorem xd_139_35 : decode prog_6_method_34_code 35 = .ok (.iconst 0, 1) := by decide +kernel
theorem xd_139_36 : decode prog_6_method_34_code 36 = .ok (.ireturn, 1) := by decide +kernel
theorem xd_139_37 : decode prog_6_method_34_code 37 = .ok (.aload_n 0, 1) := by decide +kernel
theorem xd_139_38 : decode prog_6_method_34_code 38 = .ok (.getfield 28, 3) := by decide +kernel
theorem xd_139_41 : decode prog_6_method_34_code 41 = .ok (.iload_n 1, 1) := by decide +kernel
theorem xd_139_42 : decode prog_6_method_34_code 42 = .ok (.invokestatic 86, 3) := by decide +kernel
theorem xd_139_45 : decode prog_6_method_34_code 45 = .ok (.istore_n 3, 1) := by decide +kernel
theorem xd_139_46 : decode prog_6_method_34_code 46 = .ok (.aload_n 0, 1) := by decide +kernel
theorem xd_139_47 : decode prog_6_method_34_code 47 = .ok (.iload_n 2, 1) := by decide +kernel
theorem xd_139_48 : decode prog_6_method_34_code 48 = .ok (.iload_n 3, 1) := by decide +kernel
theorem xd_139_49 : decode prog_6_method_34_code 49 = .ok (.if_icmp .ge 18, 3) := by decide +kernel
theorem xd_139_52 : decode prog_6_method_34_code 52 = .ok (.aload_n 0, 1) := by decide +kernel
theorem xd_139_53 : decode prog_6_method_34_code 53 = .ok (.getfield 28, 3) := by decide +kernel
theorem xd_139_56 : decode prog_6_method_34_code 56 = .ok (.iload_n 1, 1) := by decide +kernel
theorem xd_139_57 : decode prog_6_method_34_code 57 = .ok (.invokestatic 79, 3) := by decide +kernel
theorem xd_139_60 : decode prog_6_method_34_code 60 = .ok (.iload_n 2, 1) := by decide +kernel
theorem xd_139_61 : decode prog_6_method_34_code 61 = .ok (.invokestatic 123, 3) := by decide +kernel
theorem xd_139_64 : decode prog_6_method_34_code 64 = .ok (.ifCond .ne 7, 3) := by decide +kernel
theorem xd_139_67 : decode prog_6_method_34_code 67 = .ok (.iconst 3, 1) := by decide +kernel
theorem xd_139_68 : decode prog_6_method_34_code 68 = .ok (.goto 15, 3) := by decide +kernel
theorem xd_139_71 : decode prog_6_method_34_code 71 = .ok (.aload_n 0, 1) := by decide +kernel
theorem xd_139_72 : decode prog_6_method_34_code 72 = .ok (.invokevirtual 52, 3) := by decide +kernel
theorem xd_139_75 : decode prog_6_method_34_code 75 = .ok (.ifCond .eq 7, 3) := by decide +kernel
theorem xd_139_78 : decode prog_6_method_34_code 78 = .ok (.iconst 4, 1) := by decide +kernel
theorem xd_139_79 : decode prog_6_method_34_code 79 = .ok (.goto 4, 3) := by decide +kernel
theorem xd_139_82 : decode prog_6_method_34_code 82 = .ok (.iconst 0, 1) := by decide +kernel
theorem xd_139_83 : decode prog_6_method_34_code 83 = .ok (.putfield 37, 3) := by decide +kernel
theorem xd_139_86 : decode prog_6_method_34_code 86 = .ok (.aload_n 0, 1) := by decide +kernel
theorem xd_139_87 : decode prog_6_method_34_code 87 = .ok (.getfield 37, 3) := by decide +kernel
theorem xd_139_90 : decode prog_6_method_34_code 90 = .ok (.ifCond .le 5, 3) := by decide +kernel
theorem xd_139_93 : decode prog_6_method_34_code 93 = .ok (.iconst 0, 1) := by decide +kernel
theorem xd_139_94 : decode prog_6_method_34_code 94 = .ok (.ireturn, 1) := by decide +kernel
theorem xd_139_95 : decode prog_6_method_34_code 95 = .ok (.aload_n 0, 1) := by decide +kernel
theorem xd_139_96 : decode prog_6_method_34_code 96 = .ok (.invokevirtual 107, 3) := by decide +kernel
theorem xd_139_99 : decode prog_6_method_34_code 99 = .ok (.aload_n 0, 1) := by decide +kernel
theorem xd_139_100 : decode prog_6_method_34_code 100 = .ok (.getfield 31, 3) := by decide +kernel
theorem xd_139_103 : decode prog_6_method_34_code 103 = .ok (.iconst 5, 1) := by decide +kernel
theorem xd_139_104 : decode prog_6_method_34_code 104 = .ok (.iload_n 1, 1) := by decide +kernel
theorem xd_139_105 : decode prog_6_method_34_code 105 = .ok (.iadd, 1) := by decide +kernel
theorem xd_139_106 : decode prog_6_method_34_code 106 = .ok (.aload_n 0, 1) := by decide +kernel
theorem xd_139_107 : decode prog_6_method_34_code 107 = .ok (.getfield 31, 3) := by decide +kernel
theorem xd_139_110 : decode prog_6_method_34_code 110 = .ok (.iconst 5, 1) := by decide +kernel
theorem xd_139_111 : decode prog_6_method_34_code 111 = .ok (.iload_n 1, 1) := by decide +kernel
theorem xd_139_112 : decode prog_6_method_34_code 112 = .ok (.iadd, 1) := by decide +kernel
theorem xd_139_113 : decode prog_6_method_34_code 113 = .ok (.iaload, 1) := by decide +kernel
theorem xd_139_114 : decode prog_6_method_34_code 114 = .ok (.bipush 32, 2) := by decide +kernel
theorem xd_139_116 : decode prog_6_method_34_code 116 = .ok (.iload_n 3, 1) := by decide +kernel
theorem xd_139_117 : decode prog_6_method_34_code 117 = .ok (.iload_n 2, 1) := by decide +kernel
theorem xd_139_118 : decode prog_6_method_34_code 118 = .ok (.isub, 1) := by decide +kernel
theorem xd_139_119 : decode prog_6_method_34_code 119 = .ok (.imul, 1) := by decide +kernel
theorem xd_139_120 : decode prog_6_method_34_code 120 = .ok (.isub, 1) := by decide +kernel
theorem xd_139_121 : decode prog_6_method_34_code 121 = .ok (.iastore, 1) := by decide +kernel
theorem xd_139_122 : decode prog_6_method_34_code 122 = .ok (.iconst 2, 1) := by decide +kernel
theorem xd_139_123 : decode prog_6_method_34_code 123 = .ok (.iload_n 2, 1) := by decide +kernel
theorem xd_139_124 : decode prog_6_method_34_code 124 = .ok (.imul, 1) := by decide +kernel
theorem xd_139_125 : decode prog_6_method_34_code 125 = .ok (.istore 4, 2) := by decide +kernel
theorem xd_139_127 : decode prog_6_method_34_code 127 = .ok (.iload 4, 2) := by decide +kernel
theorem xd_139_129 : decode prog_6_method_34_code 129 = .ok (.bipush 10, 2) := by decide +kernel
theorem xd_139_131 : decode prog_6_method_34_code 131 = .ok (.if_icmp .ge 25, 3) := by decide +kernel
theorem xd_139_134 : decode prog_6_method_34_code 134 = .ok (.aload_n 0, 1) := by decide +kernel
theorem xd_139_135 : decode prog_6_method_34_code 135 = .ok (.getfield 31, 3) := by decide +kernel
theorem xd_139_138 : decode prog_6_method_34_code 138 = .ok (.bipush 9, 2) := by decide +kernel
theorem xd_139_140 : decode prog_6_method_34_code 140 = .ok (.bipush 10, 2) := by decide +kernel
theorem xd_139_142 : decode prog_6_method_34_code 142 = .ok (.iload_n 1, 1) := by decide +kernel
theorem xd_139_143 : decode prog_6_method_34_code 143 = .ok (.imul, 1) := by decide +kernel
theorem xd_139_144 : decode prog_6_method_34_code 144 = .ok (.iadd, 1) := by decide +kernel
theorem xd_139_145 : decode prog_6_method_34_code 145 = .ok (.iload 4, 2) := by decide +kernel
theorem xd_139_147 : decode prog_6_method_34_code 147 = .ok (.iadd, 1) := by decide +kernel
theorem xd_139_148 : decode prog_6_method_34_code 148 = .ok (.iconst 0, 1) := by decide +kernel
theorem xd_139_149 : decode prog_6_method_34_code 149 = .ok (.iastore, 1) := by decide +kernel
theorem xd_139_150 : decode prog_6_method_34_code 150 = .ok (.iinc 4 (1), 3) := by decide +kernel
theorem xd_139_153 : decode prog_6_method_34_code 153 = .ok (.goto (-26), 3) := by decide +kernel
theorem xd_139_156 : decode prog_6_method_34_code 156 = .ok (.aload_n 0, 1) := by decide +kernel
theorem xd_139_157 : decode prog_6_method_34_code 157 = .ok (.invokevirtual 110, 3) := by decide +kernel
theorem xd_139_160 : decode prog_6_method_34_code 160 = .ok (.aload_n 0, 1) := by decide +kernel
theorem xd_139_161 : decode prog_6_method_34_code 161 = .ok (.iload_n 3, 1) := by decide +kernel
theorem xd_139_162 : decode prog_6_method_34_code 162 = .ok (.iload_n 2, 1) := by decide +kernel
theorem xd_139_163 : decode prog_6_method_34_code 163 = .ok (.isub, 1) := by decide +kernel
theorem xd_139_164 : decode prog_6_method_34_code 164 = .ok (.invokevirtual 113, 3) := by decide +kernel
theorem xd_139_167 : decode prog_6_method_34_code 167 = .ok (.ireturn, 1) := by decide +kernel
theorem xk_139_0 : xk_OkA xp_F (xp_P sc) xp_cl xp_BW xp_NW xp_SW xp_exn 139 0 (.aload 0) := Or.inr ⟨0, rfl, xd_139_0, rfl⟩
theorem xk_139_1 : xk_OkA xp_F (xp_P sc) xp_cl xp_BW xp_NW xp_SW xp_exn 139 1 (.aload 0) := Or.inr ⟨0, rfl, xd_139_1, rfl⟩
theorem xk_139_2 : xk_OkA xp_F (xp_P sc) xp_cl xp_BW xp_NW xp_SW xp_exn 139 2 (.getfield 132) := ⟨_, xd_139_2, rfl, ⟨_, _, _, rfl, by decide, xu_4, Or.inl xwt_758⟩⟩
theorem xk_139_3 : xk_OkA xp_F (xp_P sc) xp_cl xp_BW xp_NW xp_SW xp_exn 139 3 (.ifCond .ne 6) := ⟨_, xd_139_5, by unfold xf_to; decide +kernel, rfl⟩
theorem xk_139_4 : xk_OkA xp_F (xp_P sc) xp_cl xp_BW xp_NW xp_SW xp_exn 139 4 (.iconst 1) := Or.inl ⟨xd_139_8, rfl⟩
theorem xk_139_5 : xk_OkA xp_F (xp_P sc) xp_cl xp_BW xp_NW xp_SW xp_exn 139 5 (.goto 13) := ⟨_, xd_139_9, by unfold xf_to; decide +kernel⟩
theorem xk_139_6 : xk_OkA xp_F (xp_P sc) xp_cl xp_BW xp_NW xp_SW xp_exn 139 6 (.aload 0) := Or.inr ⟨0, rfl, xd_139_12, rfl⟩
theorem xk_139_7 : xk_OkA xp_F (xp_P sc) xp_cl xp_BW xp_NW xp_SW xp_exn 139 7 (.iload 1) := Or.inr ⟨1, rfl, xd_139_13, rfl⟩
theorem xk_139_8 : xk_OkA xp_F (xp_P sc) xp_cl xp_BW xp_NW xp_SW xp_exn 139 8 (.invokeinterface 115 2) := ⟨rfl, Or.inl ⟨xwt_910, rfl⟩, rfl, rfl, xwt_5, by decide +kernel, by decide +kernel, Nat.le_of_ble_eq_true rfl, _, Or.inl xwt_907, Or.inr ⟨xd_139_14, xwt_909, xws_94, ⟨_, _, _, rfl, rfl⟩, by decide +kernel⟩⟩
theorem xk_139_9 : xk_OkA xp_F (xp_P sc) xp_cl xp_BW xp_NW xp_SW xp_exn 139 9 (.ifCond .ne 12) := ⟨_, xd_139_17, by unfold xf_to; decide +kernel, rfl⟩
theorem xk_139_10 : xk_OkA xp_F (xp_P sc) xp_cl xp_BW xp_NW xp_SW xp_exn 139 10 (.iconst 2) := Or.inl ⟨xd_139_20, rfl⟩
theorem xk_139_11 : xk_OkA xp_F (xp_P sc) xp_cl xp_BW xp_NW xp_SW xp_exn 139 11 (.goto 13) := ⟨_, xd_139_21, by unfold xf_to; decide +kernel⟩
theorem xk_139_12 : xk_OkA xp_F (xp_P sc) xp_cl xp_BW xp_NW xp_SW xp_exn 139 12 (.iconst 0) := Or.inl ⟨xd_139_24, rfl⟩
theorem xk_139_13 : xk_OkA xp_F (xp_P sc) xp_cl xp_BW xp_NW xp_SW xp_exn 139 13 (.putfield 128) := ⟨_, xd_139_25, rfl, ⟨_, _, _, rfl, by decide, xu_4, Or.inl xwt_754⟩, xf_4_0⟩
theorem xk_139_14 : xk_OkA xp_F (xp_P sc) xp_cl xp_BW xp_NW xp_SW xp_exn 139 14 (.aload 0) := Or.inr ⟨0, rfl, xd_139_28, rfl⟩
theorem xk_139_15 : xk_OkA xp_F (xp_P sc) xp_cl xp_BW xp_NW xp_SW xp_exn 139 15 (.getfield 128) := ⟨_, xd_139_29, rfl, ⟨_, _, _, rfl, by decide, xu_4, Or.inl xwt_754⟩⟩
theorem xk_139_16 : xk_OkA xp_F (xp_P sc) xp_cl xp_BW xp_NW xp_SW xp_exn 139 16 (.ifCond .le 19) := ⟨_, xd_139_32, by unfold xf_to; decide +kernel, rfl⟩
theorem xk_139_17 : xk_OkA xp_F (xp_P sc) xp_cl xp_BW xp_NW xp_SW xp_exn 139 17 (.iconst 0) := Or.inl ⟨xd_139_35, rfl⟩
theorem xk_139_18 : xk_OkA xp_F (xp_P sc) xp_cl xp_BW xp_NW xp_SW xp_exn 139 18 (.ireturn) := ⟨xd_139_36, rfl⟩
theorem xk_139_19 : xk_OkA xp_F (xp_P sc) xp_cl xp_BW xp_NW xp_SW xp_exn 139 19 (.aload 0) := Or.inr ⟨0, rfl, xd_139_37, rfl⟩
theorem xk_139_20 : xk_OkA xp_F (xp_P sc) xp_cl xp_BW xp_NW xp_SW xp_exn 139 20 (.getfield 134) := ⟨_, xd_139_38, rfl, ⟨_, _, _, rfl, by decide, xu_4, Or.inl xwt_760⟩⟩
theorem xk_139_21 : xk_OkA xp_F (xp_P sc) xp_cl xp_BW xp_NW xp_SW xp_exn 139 21 (.iload 1) := Or.inr ⟨1, rfl, xd_139_41, rfl⟩
theorem xk_139_22 : xk_OkA xp_F (xp_P sc) xp_cl xp_BW xp_NW xp_SW xp_exn 139 22 (.invokeinterface 114 2) := ⟨rfl, Or.inl ⟨xwt_866, rfl⟩, rfl, rfl, xwt_5, by decide +kernel, by decide +kernel, Nat.le_of_ble_eq_true rfl, _, Or.inl xwt_864, Or.inl ⟨xd_139_42, xwt_865, rfl, by decide +kernel⟩⟩
theorem xk_139_23 : xk_OkA xp_F (xp_P sc) xp_cl xp_BW xp_NW xp_SW xp_exn 139 23 (.istore 3) := Or.inr ⟨3, rfl, xd_139_45, rfl⟩
theorem xk_139_24 : xk_OkA xp_F (xp_P sc) xp_cl xp_BW xp_NW xp_SW xp_exn 139 24 (.aload 0) := Or.inr ⟨0, rfl, xd_139_46, rfl⟩
theorem xk_139_25 : xk_OkA xp_F (xp_P sc) xp_cl xp_BW xp_NW xp_SW xp_exn 139 25 (.iload 2) := Or.inr ⟨2, rfl, xd_139_47, rfl⟩
theorem xk_139_26 : xk_OkA xp_F (xp_P sc) xp_cl xp_BW xp_NW xp_SW xp_exn 139 26 (.iload 3) := Or.inr ⟨3, rfl, xd_139_48, rfl⟩
theorem xk_139_27 : xk_OkA xp_F (xp_P sc) xp_cl xp_BW xp_NW xp_SW xp_exn 139 27 (.if_icmp .ge 35) := ⟨_, xd_139_49, by unfold xf_to; decide +kernel, rfl⟩
theorem xk_139_28 : xk_OkA xp_F (xp_P sc) xp_cl xp_BW xp_NW xp_SW xp_exn 139 28 (.aload 0) := Or.inr ⟨0, rfl, xd_139_52, rfl⟩
theorem xk_139_29 : xk_OkA xp_F (xp_P sc) xp_cl xp_BW xp_NW xp_SW xp_exn 139 29 (.getfield 134) := ⟨_, xd_139_53, rfl, ⟨_, _, _, rfl, by decide, xu_4, Or.inl xwt_760⟩⟩
theorem xk_139_30 : xk_OkA xp_F (xp_P sc) xp_cl xp_BW xp_NW xp_SW xp_exn 139 30 (.iload 1) := Or.inr ⟨1, rfl, xd_139_56, rfl⟩
theorem xk_139_31 : xk_OkA xp_F (xp_P sc) xp_cl xp_BW xp_NW xp_SW xp_exn 139 31 (.invokeinterface 113 2) := ⟨rfl, Or.inl ⟨xwt_883, rfl⟩, rfl, rfl, xwt_5, by decide +kernel, by decide +kernel, Nat.le_of_ble_eq_true rfl, _, Or.inl xwt_881, Or.inl ⟨xd_139_57, xwt_882, rfl, by decide +kernel⟩⟩
theorem xk_139_32 : xk_OkA xp_F (xp_P sc) xp_cl xp_BW xp_NW xp_SW xp_exn 139 32 (.iload 2) := Or.inr ⟨2, rfl, xd_139_60, rfl⟩
theorem xk_139_33 : xk_OkA xp_F (xp_P sc) xp_cl xp_BW xp_NW xp_SW xp_exn 139 33 (.invokeinterface 136 2) := ⟨rfl, Or.inl ⟨xwt_859, rfl⟩, rfl, rfl, xwt_5, by decide +kernel, by decide +kernel, Nat.le_of_ble_eq_true rfl, _, Or.inl xwt_857, Or.inl ⟨xd_139_61, xwt_858, rfl, by decide +kernel⟩⟩
theorem xk_139_34 : xk_OkA xp_F (xp_P sc) xp_cl xp_BW xp_NW xp_SW xp_exn 139 34 (.ifCond .ne 37) := ⟨_, xd_139_64, by unfold xf_to; decide +kernel, rfl⟩
theorem xk_139_35 : xk_OkA xp_F (xp_P sc) xp_cl xp_BW xp_NW xp_SW xp_exn 139 35 (.iconst 3) := Or.inl ⟨xd_139_67, rfl⟩
theorem xk_139_36 : xk_OkA xp_F (xp_P sc) xp_cl xp_BW xp_NW xp_SW xp_exn 139 36 (.goto 43) := ⟨_, xd_139_68, by unfold xf_to; decide +kernel⟩
theorem xk_139_37 : xk_OkA xp_F (xp_P sc) xp_cl xp_BW xp_NW xp_SW xp_exn 139 37 (.aload 0) := Or.inr ⟨0, rfl, xd_139_71, rfl⟩
theorem xk_139_38 : xk_OkA xp_F (xp_P sc) xp_cl xp_BW xp_NW xp_SW xp_exn 139 38 (.invokeinterface 118 1) := ⟨rfl, Or.inl ⟨xwt_808, rfl⟩, rfl, rfl, xwt_5, by decide +kernel, by decide +kernel, Nat.le_of_ble_eq_true rfl, _, Or.inl xwt_805, Or.inr ⟨xd_139_72, xwt_807, xws_77, ⟨_, _, _, rfl, rfl⟩, by decide +kernel⟩⟩
theorem xk_139_39 : xk_OkA xp_F (xp_P sc) xp_cl xp_BW xp_NW xp_SW xp_exn 139 39 (.ifCond .eq 42) := ⟨_, xd_139_75, by unfold xf_to; decide +kernel, rfl⟩
theorem xk_139_40 : xk_OkA xp_F (xp_P sc) xp_cl xp_BW xp_NW xp_SW xp_exn 139 40 (.iconst 4) := Or.inl ⟨xd_139_78, rfl⟩
theorem xk_139_41 : xk_OkA xp_F (xp_P sc) xp_cl xp_BW xp_NW xp_SW xp_exn 139 41 (.goto 43) := ⟨_, xd_139_79, by unfold xf_to; decide +kernel⟩
theorem xk_139_42 : xk_OkA xp_F (xp_P sc) xp_cl xp_BW xp_NW xp_SW xp_exn 139 42 (.iconst 0) := Or.inl ⟨xd_139_82, rfl⟩
theorem xk_139_43 : xk_OkA xp_F (xp_P sc) xp_cl xp_BW xp_NW xp_SW xp_exn 139 43 (.putfield 128) := ⟨_, xd_139_83, rfl, ⟨_, _, _, rfl, by decide, xu_4, Or.inl xwt_754⟩, xf_4_0⟩
theorem xk_139_44 : xk_OkA xp_F (xp_P sc) xp_cl xp_BW xp_NW xp_SW xp_exn 139 44 (.aload 0) := Or.inr ⟨0, rfl, xd_139_86, rfl⟩
theorem xk_139_45 : xk_OkA xp_F (xp_P sc) xp_cl xp_BW xp_NW xp_SW xp_exn 139 45 (.getfield 128) := ⟨_, xd_139_87, rfl, ⟨_, _, _, rfl, by decide, xu_4, Or.inl xwt_754⟩⟩
theorem xk_139_46 : xk_OkA xp_F (xp_P sc) xp_cl xp_BW xp_NW xp_SW xp_exn 139 46 (.ifCond .le 49) := ⟨_, xd_139_90, by unfold xf_to; decide +kernel, rfl⟩
theorem xk_139_47 : xk_OkA xp_F (xp_P sc) xp_cl xp_BW xp_NW xp_SW xp_exn 139 47 (.iconst 0) := Or.inl ⟨xd_139_93, rfl⟩
theorem xk_139_48 : xk_OkA xp_F (xp_P sc) xp_cl xp_BW xp_NW xp_SW xp_exn 139 48 (.ireturn) := ⟨xd_139_94, rfl⟩
theorem xk_139_49 : xk_OkA xp_F (xp_P sc) xp_cl xp_BW xp_NW xp_SW xp_exn 139 49 (.aload 0) := Or.inr ⟨0, rfl, xd_139_95, rfl⟩
theorem xk_139_50 : xk_OkA xp_F (xp_P sc) xp_cl xp_BW xp_NW xp_SW xp_exn 139 50 (.invokeinterface 119 1) := ⟨rfl, Or.inl ⟨xwt_812, rfl⟩, rfl, rfl, xwt_5, by decide +kernel, by decide +kernel, Nat.le_of_ble_eq_true rfl, _, Or.inl xwt_809, Or.inr ⟨xd_139_96, xwt_811, xws_78, ⟨_, _, _, rfl, rfl⟩, by decide +kernel⟩⟩
theorem xk_139_51 : xk_OkA xp_F (xp_P sc) xp_cl xp_BW xp_NW xp_SW xp_exn 139 51 (.aload 0) := Or.inr ⟨0, rfl, xd_139_99, rfl⟩
theorem xk_139_52 : xk_OkA xp_F (xp_P sc) xp_cl xp_BW xp_NW xp_SW xp_exn 139 52 (.getfield 135) := ⟨_, xd_139_100, rfl, ⟨_, _, _, rfl, by decide, xu_4, Or.inl xwt_761⟩⟩
theorem xk_139_53 : xk_OkA xp_F (xp_P sc) xp_cl xp_BW xp_NW xp_SW xp_exn 139 53 (.iconst 5) := Or.inl ⟨xd_139_103, rfl⟩
theorem xk_139_54 : xk_OkA xp_F (xp_P sc) xp_cl xp_BW xp_NW xp_SW xp_exn 139 54 (.iload 1) := Or.inr ⟨1, rfl, xd_139_104, rfl⟩
theorem xk_139_55 : xk_OkA xp_F (xp_P sc) xp_cl xp_BW xp_NW xp_SW xp_exn 139 55 (.iadd) := ⟨xd_139_105, rfl⟩
theorem xk_139_56 : xk_OkA xp_F (xp_P sc) xp_cl xp_BW xp_NW xp_SW xp_exn 139 56 (.aload 0) := Or.inr ⟨0, rfl, xd_139_106, rfl⟩
theorem xk_139_57 : xk_OkA xp_F (xp_P sc) xp_cl xp_BW xp_NW xp_SW xp_exn 139 57 (.getfield 135) := ⟨_, xd_139_107, rfl, ⟨_, _, _, rfl, by decide, xu_4, Or.inl xwt_761⟩⟩
theorem xk_139_58 : xk_OkA xp_F (xp_P sc) xp_cl xp_BW xp_NW xp_SW xp_exn 139 58 (.iconst 5) := Or.inl ⟨xd_139_110, rfl⟩
theorem xk_139_59 : xk_OkA xp_F (xp_P sc) xp_cl xp_BW xp_NW xp_SW xp_exn 139 59 (.iload 1) := Or.inr ⟨1, rfl, xd_139_111, rfl⟩
theorem xk_139_60 : xk_OkA xp_F (xp_P sc) xp_cl xp_BW xp_NW xp_SW xp_exn 139 60 (.iadd) := ⟨xd_139_112, rfl⟩
theorem xk_139_61 : xk_OkA xp_F (xp_P sc) xp_cl xp_BW xp_NW xp_SW xp_exn 139 61 (.iaload) := ⟨xd_139_113, rfl⟩
theorem xk_139_62 : xk_OkA xp_F (xp_P sc) xp_cl xp_BW xp_NW xp_SW xp_exn 139 62 (.iconst 32) := Or.inr (Or.inl ⟨xd_139_114, by decide +kernel, rfl⟩)
theorem xk_139_63 : xk_OkA xp_F (xp_P sc) xp_cl xp_BW xp_NW xp_SW xp_exn 139 63 (.iload 3) := Or.inr ⟨3, rfl, xd_139_116, rfl⟩
theorem xk_139_64 : xk_OkA xp_F (xp_P sc) xp_cl xp_BW xp_NW xp_SW xp_exn 139 64 (.iload 2) := Or.inr ⟨2, rfl, xd_139_117, rfl⟩
theorem xk_139_65 : xk_OkA xp_F (xp_P sc) xp_cl xp_BW xp_NW xp_SW xp_exn 139 65 (.isub) := ⟨xd_139_118, rfl⟩
theorem xk_139_66 : xk_OkA xp_F (xp_P sc) xp_cl xp_BW xp_NW xp_SW xp_exn 139 66 (.imul) := ⟨xd_139_119, rfl⟩
theorem xk_139_67 : xk_OkA xp_F (xp_P sc) xp_cl xp_BW xp_NW xp_SW xp_exn 139 67 (.isub) := ⟨xd_139_120, rfl⟩
theorem xk_139_68 : xk_OkA xp_F (xp_P sc) xp_cl xp_BW xp_NW xp_SW xp_exn 139 68 (.iastore) := ⟨xd_139_121, rfl⟩
theorem xk_139_69 : xk_OkA xp_F (xp_P sc) xp_cl xp_BW xp_NW xp_SW xp_exn 139 69 (.iconst 2) := Or.inl ⟨xd_139_122, rfl⟩
theorem xk_139_70 : xk_OkA xp_F (xp_P sc) xp_cl xp_BW xp_NW xp_SW xp_exn 139 70 (.iload 2) := Or.inr ⟨2, rfl, xd_139_123, rfl⟩
theorem xk_139_71 : xk_OkA xp_F (xp_P sc) xp_cl xp_BW xp_NW xp_SW xp_exn 139 71 (.imul) := ⟨xd_139_124, rfl⟩
theorem xk_139_72 : xk_OkA xp_F (xp_P sc) xp_cl xp_BW xp_NW xp_SW xp_exn 139 72 (.istore 4) := Or.inl ⟨xd_139_125, rfl⟩
theorem xk_139_73 : xk_OkA xp_F (xp_P sc) xp_cl xp_BW xp_NW xp_SW xp_exn 139 73 (.iload 4) := Or.inl ⟨xd_139_127, rfl⟩
theorem xk_139_74 : xk_OkA xp_F (xp_P sc) xp_cl xp_BW xp_NW xp_SW xp_exn 139 74 (.iconst 10) := Or.inr (Or.inl ⟨xd_139_129, by decide +kernel, rfl⟩)
theorem xk_139_75 : xk_OkA xp_F (xp_P sc) xp_cl xp_BW xp_NW xp_SW xp_exn 139 75 (.if_icmp .ge 89) := ⟨_, xd_139_131, by unfold xf_to; decide +kernel, rfl⟩
theorem xk_139_76 : xk_OkA xp_F (xp_P sc) xp_cl xp_BW xp_NW xp_SW xp_exn 139 76 (.aload 0) := Or.inr ⟨0, rfl, xd_139_134, rfl⟩
theorem xk_139_77 : xk_OkA xp_F (xp_P sc) xp_cl xp_BW xp_NW xp_SW xp_exn 139 77 (.getfield 135) := ⟨_, xd_139_135, rfl, ⟨_, _, _, rfl, by decide, xu_4, Or.inl xwt_761⟩⟩
theorem xk_139_78 : xk_OkA xp_F (xp_P sc) xp_cl xp_BW xp_NW xp_SW xp_exn 139 78 (.iconst 9) := Or.inr (Or.inl ⟨xd_139_138, by decide +kernel, rfl⟩)
theorem xk_139_79 : xk_OkA xp_F (xp_P sc) xp_cl xp_BW xp_NW xp_SW xp_exn 139 79 (.iconst 10) := Or.inr (Or.inl ⟨xd_139_140, by decide +kernel, rfl⟩)
theorem xk_139_80 : xk_OkA xp_F (xp_P sc) xp_cl xp_BW xp_NW xp_SW xp_exn 139 80 (.iload 1) := Or.inr ⟨1, rfl, xd_139_142, rfl⟩
theorem xk_139_81 : xk_OkA xp_F (xp_P sc) xp_cl xp_BW xp_NW xp_SW xp_exn 139 81 (.imul) := ⟨xd_139_143, rfl⟩
theorem xk_139_82 : xk_OkA xp_F (xp_P sc) xp_cl xp_BW xp_NW xp_SW xp_exn 139 82 (.iadd) := ⟨xd_139_144, rfl⟩
theorem xk_139_83 : xk_OkA xp_F (xp_P sc) xp_cl xp_BW xp_NW xp_SW xp_exn 139 83 (.iload 4) := Or.inl ⟨xd_139_145, rfl⟩
theorem xk_139_84 : xk_OkA xp_F (xp_P sc) xp_cl xp_BW xp_NW xp_SW xp_exn 139 84 (.iadd) := ⟨xd_139_147, rfl⟩
theorem xk_139_85 : xk_OkA xp_F (xp_P sc) xp_cl xp_BW xp_NW xp_SW xp_exn 139 85 (.iconst 0) := Or.inl ⟨xd_139_148, rfl⟩
theorem xk_139_86 : xk_OkA xp_F (xp_P sc) xp_cl xp_BW xp_NW xp_SW xp_exn 139 86 (.iastore) := ⟨xd_139_149, rfl⟩
theorem xk_139_87 : xk_OkA xp_F (xp_P sc) xp_cl xp_BW xp_NW xp_SW xp_exn 139 87 (.iinc 4 (1)) := ⟨xd_139_150, rfl⟩
theorem xk_139_88 : xk_OkA xp_F (xp_P sc) xp_cl xp_BW xp_NW xp_SW xp_exn 139 88 (.goto 73) := ⟨_, xd_139_153, by unfold xf_to; decide +kernel⟩
theorem xk_139_89 : xk_OkA xp_F (xp_P sc) xp_cl xp_BW xp_NW xp_SW xp_exn 139 89 (.aload 0) := Or.inr ⟨0, rfl, xd_139_156, rfl⟩
theorem xk_139_90 : xk_OkA xp_F (xp_P sc) xp_cl xp_BW xp_NW xp_SW xp_exn 139 90 (.invokeinterface 123 1) := ⟨rfl, Or.inl ⟨xwt_816, rfl⟩, rfl, rfl, xwt_5, by decide +kernel, by decide +kernel, Nat.le_of_ble_eq_true rfl, _, Or.inl xwt_813, Or.inr ⟨xd_139_157, xwt_815, xws_79, ⟨_, _, _, rfl, rfl⟩, by decide +kernel⟩⟩
theorem xk_139_91 : xk_OkA xp_F (xp_P sc) xp_cl xp_BW xp_NW xp_SW xp_exn 139 91 (.aload 0) := Or.inr ⟨0, rfl, xd_139_160, rfl⟩
theorem xk_139_92 : xk_OkA xp_F (xp_P sc) xp_cl xp_BW xp_NW xp_SW xp_exn 139 92 (.iload 3) := Or.inr ⟨3, rfl, xd_139_161, rfl⟩
theorem xk_139_93 : xk_OkA xp_F (xp_P sc) xp_cl xp_BW xp_NW xp_SW xp_exn 139 93 (.iload 2) := Or.inr ⟨2, rfl, xd_139_162, rfl⟩
theorem xk_139_94 : xk_OkA xp_F (xp_P sc) xp_cl xp_BW xp_NW xp_SW xp_exn 139 94 (.isub) := ⟨xd_139_163, rfl⟩
theorem xk_139_95 : xk_OkA xp_F (xp_P sc) xp_cl xp_BW xp_NW xp_SW xp_exn 139 95 (.invokeinterface 124 2) := ⟨rfl, Or.inl ⟨xwt_836, rfl⟩, rfl, rfl, xwt_5, by decide +kernel, by decide +kernel, Nat.le_of_ble_eq_true rfl, _, Or.inl xwt_833, Or.inr ⟨xd_139_164, xwt_835, xws_84, ⟨_, _, _, rfl, rfl⟩, by decide +kernel⟩⟩
theorem xk_139_96 : xk_OkA xp_F (xp_P sc) xp_cl xp_BW xp_NW xp_SW xp_exn 139 96 (.ireturn) := ⟨xd_139_167, rfl⟩
theorem xl_139 : xk_OkL xp_F (xp_P sc) xp_cl xp_BW xp_NW xp_SW xp_exn 139 0 xc_139 := ⟨xk_139_0, xk_139_1, xk_139_2, xk_139_3, xk_139_4, xk_139_5, xk_139_6, xk_139_7, xk_139_8, xk_139_9, xk_139_10, xk_139_11, xk_139_12, xk_139_13, xk_139_14, xk_139_15, xk_139_16, xk_139_17, xk_139_18, xk_139_19, xk_139_20, xk_139_21, xk_139_22, xk_139_23, xk_139_24, xk_139_25, xk_139_26, xk_139_27, xk_139_28, xk_139_29, xk_139_30, xk_139_31, xk_139_32, xk_139_33, xk_139_34, xk_139_35, xk_139_36, xk_139_37, xk_139_38, xk_139_39, xk_139_40, xk_139_41, xk_139_42, xk_139_43, xk_139_44, xk_139_45, xk_139_46, xk_139_47, xk_139_48, xk_139_49, xk_139_50, xk_139_51, xk_139_52, xk_139_53, xk_139_54, xk_139_55, xk_139_56, xk_139_57, xk_139_58, xk_139_59, xk_139_60, xk_139_61, xk_139_62, xk_139_63, xk_139_64, xk_139_65, xk_139_66, xk_139_67, xk_139_68, xk_139_69, xk_139_70, xk_139_71, xk_139_72, xk_139_73, xk_139_74, xk_139_75, xk_139_76, xk_139_77, xk_139_78, xk_139_79, xk_139_80, xk_139_81, xk_139_82, xk_139_83, xk_139_84, xk_139_85, xk_139_86, xk_139_87, xk_139_88, xk_139_89, xk_139_90, xk_139_91, xk_139_92, xk_139_93, xk_139_94, xk_139_95, xk_139_96, trivial⟩
end XkOk5
