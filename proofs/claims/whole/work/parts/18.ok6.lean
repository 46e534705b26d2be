/-! The instructions of the methods, one by one: written by wip/whole/gen_tables.py. -/
section XkOk6
variable {sc : Nat × (Nat → Int32)}
theorem xd_140_0 : decode prog_6_method_35_code 0 = .ok (.aload_n 0, 1) := by decide +kernel
theorem xd_140_1 : decode prog_6_method_35_code 1 = .ok (.aload_n 0, 1) := by decide +kernel
theorem xd_140_2 : decode prog_6_method_35_code 2 = .ok (.getfield 20, 3) := by decide +kernel
theorem xd_140_5 : decode prog_6_method_35_code 5 = .ok (.ifCond .ne 7, 3) := by decide +kernel
theorem xd_140_8 : decode prog_6_method_35_code 8 = .ok (.iconst 1, 1) := by decide +kernel
theorem xd_140_9 : decode prog_6_method_35_code 9 = .ok (.goto 27, 3) := by decide +kernel
theorem xd_140_12 : decode prog_6_method_35_code 12 = .ok (.aload_n 0, 1) := by decide +kernel
theorem xd_140_13 : decode prog_6_method_35_code 13 = .ok (.iload_n 1, 1) := by decide +kernel
theorem xd_140_14 : decode prog_6_method_35_code 14 = .ok (.invokevirtual 134, 3) := by decide +kernel
theorem xd_140_17 : decode prog_6_method_35_code 17 = .ok (.ifCond .ne 7, 3) := by decide +kernel
theorem xd_140_20 : decode prog_6_method_35_code 20 = .ok (.iconst 2, 1) := by decide +kernel
theorem xd_140_21 : decode prog_6_method_35_code 21 = .ok (.goto 15, 3) := by decide +kernel
theorem xd_140_24 : decode prog_6_method_35_code 24 = .ok (.aload_n 0, 1) := by decide +kernel
theorem xd_140_25 : decode prog_6_method_35_code 25 = .ok (.invokevirtual 52, 3) := by decide +kernel
theorem xd_140_28 : decode prog_6_method_35_code 28 = .ok (.ifCond .eq 7, 3) := by decide +kernel
theorem xd_140_31 : decode prog_6_method_35_code 31 = .ok (.iconst 3, 1) := by decide +kernel
theorem xd_140_32 : decode prog_6_method_35_code 32 = .ok (.goto 4, 3) := by decide +kernel
theorem xd_140_35 : decode prog_6_method_35_code 35 = .ok (.iconst 0, 1) := by decide +kernel
theorem xd_140_36 : decode prog_6_method_35_code 36 = .ok (.putfield 37, 3) := by decide +kernel
theorem xd_140_39 : decode prog_6_method_35_code 39 = .ok (.aload_n 0, 1) := by decide +kernel
theorem xd_140_40 : decode prog_6_method_35_code 40 = .ok (.getfield 37, 3) := by decide +kernel
theorem xd_140_43 : decode prog_6_method_35_code 43 = .ok (.ifCond .le 4, 3) := by decide +kernel
theorem xd_140_46 : decode prog_6_method_35_code 46 = .ok (.return_, 1) := by decide +kernel
theorem xd_140_47 : decode prog_6_method_35_code 47 = .ok (.aload_n 0, 1) := by decide +kernel
theorem xd_140_48 : decode prog_6_method_35_code 48 = .ok (.invokevirtual 107, 3) := by decide +kernel
theorem xd_140_51 : decode prog_6_method_35_code 51 = .ok (.aload_n 0, 1) := by decide +kernel
theorem xd_140_52 : decode prog_6_method_35_code 52 = .ok (.getfield 31, 3) := by decide +kernel
theorem xd_140_55 : decode prog_6_method_35_code 55 = .ok (.iconst 5, 1) := by decide +kernel
theorem xd_140_56 : decode prog_6_method_35_code 56 = .ok (.iload_n 1, 1) := by decide +kernel
theorem xd_140_57 : decode prog_6_method_35_code 57 = .ok (.iadd, 1) := by decide +kernel
theorem xd_140_58 : decode prog_6_method_35_code 58 = .ok (.iconst 0, 1) := by decide +kernel
theorem xd_140_59 : decode prog_6_method_35_code 59 = .ok (.iastore, 1) := by decide +kernel
theorem xd_140_60 : decode prog_6_method_35_code 60 = .ok (.iconst 0, 1) := by decide +kernel
theorem xd_140_61 : decode prog_6_method_35_code 61 = .ok (.istore_n 2, 1) := by decide +kernel
theorem xd_140_62 : decode prog_6_method_35_code 62 = .ok (.iload_n 2, 1) := by decide +kernel
theorem xd_140_63 : decode prog_6_method_35_code 63 = .ok (.bipush 10, 2) := by decide +kernel
theorem xd_140_65 : decode prog_6_method_35_code 65 = .ok (.if_icmp .ge 24, 3) := by decide +kernel
theorem xd_140_68 : decode prog_6_method_35_code 68 = .ok (.aload_n 0, 1) := by decide +kernel
theorem xd_140_69 : decode prog_6_method_35_code 69 = .ok (.getfield 31, 3) := by decide +kernel
theorem xd_140_72 : decode prog_6_method_35_code 72 = .ok (.bipush 9, 2) := by decide +kernel
theorem xd_140_74 : decode prog_6_method_35_code 74 = .ok (.bipush 10, 2) := by decide +kernel
theorem xd_140_76 : decode prog_6_method_35_code 76 = .ok (.iload_n 1, 1) := by decide +kernel
theorem xd_140_77 : decode prog_6_method_35_code 77 = .ok (.imul, 1) := by decide +kernel
theorem xd_140_78 : decode prog_6_method_35_code 78 = .ok (.iadd, 1) := by decide +kernel
theorem xd_140_79 : decode prog_6_method_35_code 79 = .ok (.iload_n 2, 1) := by decide +kernel
theorem xd_140_80 : decode prog_6_method_35_code 80 = .ok (.iadd, 1) := by decide +kernel
theorem xd_140_81 : decode prog_6_method_35_code 81 = .ok (.iconst 0, 1) := by decide +kernel
theorem xd_140_82 : decode prog_6_method_35_code 82 = .ok (.iastore, 1) := by decide +kernel
theorem xd_140_83 : decode prog_6_method_35_code 83 = .ok (.iinc 2 (1), 3) := by decide +kernel
theorem xd_140_86 : decode prog_6_method_35_code 86 = .ok (.goto (-24), 3) := by decide +kernel
theorem xd_140_89 : decode prog_6_method_35_code 89 = .ok (.aload_n 0, 1) := by decide +kernel
theorem xd_140_90 : decode prog_6_method_35_code 90 = .ok (.invokevirtual 110, 3) := by decide +kernel
theorem xd_140_93 : decode prog_6_method_35_code 93 = .ok (.aload_n 0, 1) := by decide +kernel
theorem xd_140_94 : decode prog_6_method_35_code 94 = .ok (.aload_n 0, 1) := by decide +kernel
theorem xd_140_95 : decode prog_6_method_35_code 95 = .ok (.getfield 20, 3) := by decide +kernel
theorem xd_140_98 : decode prog_6_method_35_code 98 = .ok (.ifCond .eq 7, 3) := by decide +kernel
theorem xd_140_101 : decode prog_6_method_35_code 101 = .ok (.iconst 0, 1) := by decide +kernel
theorem xd_140_102 : decode prog_6_method_35_code 102 = .ok (.goto 4, 3) := by decide +kernel
theorem xd_140_105 : decode prog_6_method_35_code 105 = .ok (.iconst 1, 1) := by decide +kernel
theorem xd_140_106 : decode prog_6_method_35_code 106 = .ok (.putfield 37, 3) := by decide +kernel
theorem xd_140_109 : decode prog_6_method_35_code 109 = .ok (.return_, 1) := by decide +kernel
theorem xk_140_0 : xk_OkA xp_F (xp_P sc) xp_cl xp_BW xp_NW xp_SW xp_exn 140 0 (.aload 0) := Or.inr ⟨0, rfl, xd_140_0, rfl⟩
theorem xk_140_1 : xk_OkA xp_F (xp_P sc) xp_cl xp_BW xp_NW xp_SW xp_exn 140 1 (.aload 0) := Or.inr ⟨0, rfl, xd_140_1, rfl⟩
theorem xk_140_2 : xk_OkA xp_F (xp_P sc) xp_cl xp_BW xp_NW xp_SW xp_exn 140 2 (.getfield 132) := ⟨_, xd_140_2, rfl, ⟨_, _, _, rfl, by decide, xu_4, Or.inl xwt_758⟩⟩
theorem xk_140_3 : xk_OkA xp_F (xp_P sc) xp_cl xp_BW xp_NW xp_SW xp_exn 140 3 (.ifCond .ne 6) := ⟨_, xd_140_5, by unfold xf_to; decide +kernel, rfl⟩
theorem xk_140_4 : xk_OkA xp_F (xp_P sc) xp_cl xp_BW xp_NW xp_SW xp_exn 140 4 (.iconst 1) := Or.inl ⟨xd_140_8, rfl⟩
theorem xk_140_5 : xk_OkA xp_F (xp_P sc) xp_cl xp_BW xp_NW xp_SW xp_exn 140 5 (.goto 18) := ⟨_, xd_140_9, by unfold xf_to; decide +kernel⟩
theorem xk_140_6 : xk_OkA xp_F (xp_P sc) xp_cl xp_BW xp_NW xp_SW xp_exn 140 6 (.aload 0) := Or.inr ⟨0, rfl, xd_140_12, rfl⟩
theorem xk_140_7 : xk_OkA xp_F (xp_P sc) xp_cl xp_BW xp_NW xp_SW xp_exn 140 7 (.iload 1) := Or.inr ⟨1, rfl, xd_140_13, rfl⟩
theorem xk_140_8 : xk_OkA xp_F (xp_P sc) xp_cl xp_BW xp_NW xp_SW xp_exn 140 8 (.invokeinterface 115 2) := ⟨rfl, Or.inl ⟨xwt_910, rfl⟩, rfl, rfl, xwt_5, by decide +kernel, by decide +kernel, Nat.le_of_ble_eq_true rfl, _, Or.inl xwt_907, Or.inr ⟨xd_140_14, xwt_909, xws_94, ⟨_, _, _, rfl, rfl⟩, by decide +kernel⟩⟩
theorem xk_140_9 : xk_OkA xp_F (xp_P sc) xp_cl xp_BW xp_NW xp_SW xp_exn 140 9 (.ifCond .ne 12) := ⟨_, xd_140_17, by unfold xf_to; decide +kernel, rfl⟩
theorem xk_140_10 : xk_OkA xp_F (xp_P sc) xp_cl xp_BW xp_NW xp_SW xp_exn 140 10 (.iconst 2) := Or.inl ⟨xd_140_20, rfl⟩
theorem xk_140_11 : xk_OkA xp_F (xp_P sc) xp_cl xp_BW xp_NW xp_SW xp_exn 140 11 (.goto 18) := ⟨_, xd_140_21, by unfold xf_to; decide +kernel⟩
theorem xk_140_12 : xk_OkA xp_F (xp_P sc) xp_cl xp_BW xp_NW xp_SW xp_exn 140 12 (.aload 0) := Or.inr ⟨0, rfl, xd_140_24, rfl⟩
theorem xk_140_13 : xk_OkA xp_F (xp_P sc) xp_cl xp_BW xp_NW xp_SW xp_exn 140 13 (.invokeinterface 118 1) := ⟨rfl, Or.inl ⟨xwt_808, rfl⟩, rfl, rfl, xwt_5, by decide +kernel, by decide +kernel, Nat.le_of_ble_eq_true rfl, _, Or.inl xwt_805, Or.inr ⟨xd_140_25, xwt_807, xws_77, ⟨_, _, _, rfl, rfl⟩, by decide +kernel⟩⟩
theorem xk_140_14 : xk_OkA xp_F (xp_P sc) xp_cl xp_BW xp_NW xp_SW xp_exn 140 14 (.ifCond .eq 17) := ⟨_, xd_140_28, by unfold xf_to; decide +kernel, rfl⟩
theorem xk_140_15 : xk_OkA xp_F (xp_P sc) xp_cl xp_BW xp_NW xp_SW xp_exn 140 15 (.iconst 3) := Or.inl ⟨xd_140_31, rfl⟩
theorem xk_140_16 : xk_OkA xp_F (xp_P sc) xp_cl xp_BW xp_NW xp_SW xp_exn 140 16 (.goto 18) := ⟨_, xd_140_32, by unfold xf_to; decide +kernel⟩
theorem xk_140_17 : xk_OkA xp_F (xp_P sc) xp_cl xp_BW xp_NW xp_SW xp_exn 140 17 (.iconst 0) := Or.inl ⟨xd_140_35, rfl⟩
theorem xk_140_18 : xk_OkA xp_F (xp_P sc) xp_cl xp_BW xp_NW xp_SW xp_exn 140 18 (.putfield 128) := ⟨_, xd_140_36, rfl, ⟨_, _, _, rfl, by decide, xu_4, Or.inl xwt_754⟩, xf_4_0⟩
theorem xk_140_19 : xk_OkA xp_F (xp_P sc) xp_cl xp_BW xp_NW xp_SW xp_exn 140 19 (.aload 0) := Or.inr ⟨0, rfl, xd_140_39, rfl⟩
theorem xk_140_20 : xk_OkA xp_F (xp_P sc) xp_cl xp_BW xp_NW xp_SW xp_exn 140 20 (.getfield 128) := ⟨_, xd_140_40, rfl, ⟨_, _, _, rfl, by decide, xu_4, Or.inl xwt_754⟩⟩
theorem xk_140_21 : xk_OkA xp_F (xp_P sc) xp_cl xp_BW xp_NW xp_SW xp_exn 140 21 (.ifCond .le 23) := ⟨_, xd_140_43, by unfold xf_to; decide +kernel, rfl⟩
theorem xk_140_22 : xk_OkA xp_F (xp_P sc) xp_cl xp_BW xp_NW xp_SW xp_exn 140 22 (.return_) := ⟨xd_140_46, rfl⟩
theorem xk_140_23 : xk_OkA xp_F (xp_P sc) xp_cl xp_BW xp_NW xp_SW xp_exn 140 23 (.aload 0) := Or.inr ⟨0, rfl, xd_140_47, rfl⟩
theorem xk_140_24 : xk_OkA xp_F (xp_P sc) xp_cl xp_BW xp_NW xp_SW xp_exn 140 24 (.invokeinterface 119 1) := ⟨rfl, Or.inl ⟨xwt_812, rfl⟩, rfl, rfl, xwt_5, by decide +kernel, by decide +kernel, Nat.le_of_ble_eq_true rfl, _, Or.inl xwt_809, Or.inr ⟨xd_140_48, xwt_811, xws_78, ⟨_, _, _, rfl, rfl⟩, by decide +kernel⟩⟩
theorem xk_140_25 : xk_OkA xp_F (xp_P sc) xp_cl xp_BW xp_NW xp_SW xp_exn 140 25 (.aload 0) := Or.inr ⟨0, rfl, xd_140_51, rfl⟩
theorem xk_140_26 : xk_OkA xp_F (xp_P sc) xp_cl xp_BW xp_NW xp_SW xp_exn 140 26 (.getfield 135) := ⟨_, xd_140_52, rfl, ⟨_, _, _, rfl, by decide, xu_4, Or.inl xwt_761⟩⟩
theorem xk_140_27 : xk_OkA xp_F (xp_P sc) xp_cl xp_BW xp_NW xp_SW xp_exn 140 27 (.iconst 5) := Or.inl ⟨xd_140_55, rfl⟩
theorem xk_140_28 : xk_OkA xp_F (xp_P sc) xp_cl xp_BW xp_NW xp_SW xp_exn 140 28 (.iload 1) := Or.inr ⟨1, rfl, xd_140_56, rfl⟩
theorem xk_140_29 : xk_OkA xp_F (xp_P sc) xp_cl xp_BW xp_NW xp_SW xp_exn 140 29 (.iadd) := ⟨xd_140_57, rfl⟩
theorem xk_140_30 : xk_OkA xp_F (xp_P sc) xp_cl xp_BW xp_NW xp_SW xp_exn 140 30 (.iconst 0) := Or.inl ⟨xd_140_58, rfl⟩
theorem xk_140_31 : xk_OkA xp_F (xp_P sc) xp_cl xp_BW xp_NW xp_SW xp_exn 140 31 (.iastore) := ⟨xd_140_59, rfl⟩
theorem xk_140_32 : xk_OkA xp_F (xp_P sc) xp_cl xp_BW xp_NW xp_SW xp_exn 140 32 (.iconst 0) := Or.inl ⟨xd_140_60, rfl⟩
theorem xk_140_33 : xk_OkA xp_F (xp_P sc) xp_cl xp_BW xp_NW xp_SW xp_exn 140 33 (.istore 2) := Or.inr ⟨2, rfl, xd_140_61, rfl⟩
theorem xk_140_34 : xk_OkA xp_F (xp_P sc) xp_cl xp_BW xp_NW xp_SW xp_exn 140 34 (.iload 2) := Or.inr ⟨2, rfl, xd_140_62, rfl⟩
theorem xk_140_35 : xk_OkA xp_F (xp_P sc) xp_cl xp_BW xp_NW xp_SW xp_exn 140 35 (.iconst 10) := Or.inr (Or.inl ⟨xd_140_63, by decide +kernel, rfl⟩)
theorem xk_140_36 : xk_OkA xp_F (xp_P sc) xp_cl xp_BW xp_NW xp_SW xp_exn 140 36 (.if_icmp .ge 50) := ⟨_, xd_140_65, by unfold xf_to; decide +kernel, rfl⟩
theorem xk_140_37 : xk_OkA xp_F (xp_P sc) xp_cl xp_BW xp_NW xp_SW xp_exn 140 37 (.aload 0) := Or.inr ⟨0, rfl, xd_140_68, rfl⟩
theorem xk_140_38 : xk_OkA xp_F (xp_P sc) xp_cl xp_BW xp_NW xp_SW xp_exn 140 38 (.getfield 135) := ⟨_, xd_140_69, rfl, ⟨_, _, _, rfl, by decide, xu_4, Or.inl xwt_761⟩⟩
theorem xk_140_39 : xk_OkA xp_F (xp_P sc) xp_cl xp_BW xp_NW xp_SW xp_exn 140 39 (.iconst 9) := Or.inr (Or.inl ⟨xd_140_72, by decide +kernel, rfl⟩)
theorem xk_140_40 : xk_OkA xp_F (xp_P sc) xp_cl xp_BW xp_NW xp_SW xp_exn 140 40 (.iconst 10) := Or.inr (Or.inl ⟨xd_140_74, by decide +kernel, rfl⟩)
theorem xk_140_41 : xk_OkA xp_F (xp_P sc) xp_cl xp_BW xp_NW xp_SW xp_exn 140 41 (.iload 1) := Or.inr ⟨1, rfl, xd_140_76, rfl⟩
theorem xk_140_42 : xk_OkA xp_F (xp_P sc) xp_cl xp_BW xp_NW xp_SW xp_exn 140 42 (.imul) := ⟨xd_140_77, rfl⟩
theorem xk_140_43 : xk_OkA xp_F (xp_P sc) xp_cl xp_BW xp_NW xp_SW xp_exn 140 43 (.iadd) := ⟨xd_140_78, rfl⟩
theorem xk_140_44 : xk_OkA xp_F (xp_P sc) xp_cl xp_BW xp_NW xp_SW xp_exn 140 44 (.iload 2) := Or.inr ⟨2, rfl, xd_140_79, rfl⟩
theorem xk_140_45 : xk_OkA xp_F (xp_P sc) xp_cl xp_BW xp_NW xp_SW xp_exn 140 45 (.iadd) := ⟨xd_140_80, rfl⟩
theorem xk_140_46 : xk_OkA xp_F (xp_P sc) xp_cl xp_BW xp_NW xp_SW xp_exn 140 46 (.iconst 0) := Or.inl ⟨xd_140_81, rfl⟩
theorem xk_140_47 : xk_OkA xp_F (xp_P sc) xp_cl xp_BW xp_NW xp_SW xp_exn 140 47 (.iastore) := ⟨xd_140_82, rfl⟩
theorem xk_140_48 : xk_OkA xp_F (xp_P sc) xp_cl xp_BW xp_NW xp_SW xp_exn 140 48 (.iinc 2 (1)) := ⟨xd_140_83, rfl⟩
theorem xk_140_49 : xk_OkA xp_F (xp_P sc) xp_cl xp_BW xp_NW xp_SW xp_exn 140 49 (.goto 34) := ⟨_, xd_140_86, by unfold xf_to; decide +kernel⟩
theorem xk_140_50 : xk_OkA xp_F (xp_P sc) xp_cl xp_BW xp_NW xp_SW xp_exn 140 50 (.aload 0) := Or.inr ⟨0, rfl, xd_140_89, rfl⟩
theorem xk_140_51 : xk_OkA xp_F (xp_P sc) xp_cl xp_BW xp_NW xp_SW xp_exn 140 51 (.invokeinterface 123 1) := ⟨rfl, Or.inl ⟨xwt_816, rfl⟩, rfl, rfl, xwt_5, by decide +kernel, by decide +kernel, Nat.le_of_ble_eq_true rfl, _, Or.inl xwt_813, Or.inr ⟨xd_140_90, xwt_815, xws_79, ⟨_, _, _, rfl, rfl⟩, by decide +kernel⟩⟩
theorem xk_140_52 : xk_OkA xp_F (xp_P sc) xp_cl xp_BW xp_NW xp_SW xp_exn 140 52 (.aload 0) := Or.inr ⟨0, rfl, xd_140_93, rfl⟩
theorem xk_140_53 : xk_OkA xp_F (xp_P sc) xp_cl xp_BW xp_NW xp_SW xp_exn 140 53 (.aload 0) := Or.inr ⟨0, rfl, xd_140_94, rfl⟩
theorem xk_140_54 : xk_OkA xp_F (xp_P sc) xp_cl xp_BW xp_NW xp_SW xp_exn 140 54 (.getfield 132) := ⟨_, xd_140_95, rfl, ⟨_, _, _, rfl, by decide, xu_4, Or.inl xwt_758⟩⟩
theorem xk_140_55 : xk_OkA xp_F (xp_P sc) xp_cl xp_BW xp_NW xp_SW xp_exn 140 55 (.ifCond .eq 58) := ⟨_, xd_140_98, by unfold xf_to; decide +kernel, rfl⟩
theorem xk_140_56 : xk_OkA xp_F (xp_P sc) xp_cl xp_BW xp_NW xp_SW xp_exn 140 56 (.iconst 0) := Or.inl ⟨xd_140_101, rfl⟩
theorem xk_140_57 : xk_OkA xp_F (xp_P sc) xp_cl xp_BW xp_NW xp_SW xp_exn 140 57 (.goto 59) := ⟨_, xd_140_102, by unfold xf_to; decide +kernel⟩
theorem xk_140_58 : xk_OkA xp_F (xp_P sc) xp_cl xp_BW xp_NW xp_SW xp_exn 140 58 (.iconst 1) := Or.inl ⟨xd_140_105, rfl⟩
theorem xk_140_59 : xk_OkA xp_F (xp_P sc) xp_cl xp_BW xp_NW xp_SW xp_exn 140 59 (.putfield 128) := ⟨_, xd_140_106, rfl, ⟨_, _, _, rfl, by decide, xu_4, Or.inl xwt_754⟩, xf_4_0⟩
theorem xk_140_60 : xk_OkA xp_F (xp_P sc) xp_cl xp_BW xp_NW xp_SW xp_exn 140 60 (.return_) := ⟨xd_140_109, rfl⟩
theorem xl_140 : xk_OkL xp_F (xp_P sc) xp_cl xp_BW xp_NW xp_SW xp_exn 140 0 xc_140 := ⟨xk_140_0, xk_140_1, xk_140_2, xk_140_3, xk_140_4, xk_140_5, xk_140_6, xk_140_7, xk_140_8, xk_140_9, xk_140_10, xk_140_11, xk_140_12, xk_140_13, xk_140_14, xk_140_15, xk_140_16, xk_140_17, xk_140_18, xk_140_19, xk_140_20, xk_140_21, xk_140_22, xk_140_23, xk_140_24, xk_140_25, xk_140_26, xk_140_27, xk_140_28, xk_140_29, xk_140_30, xk_140_31, xk_140_32, xk_140_33, xk_140_34, xk_140_35, xk_140_36, xk_140_37, xk_140_38, xk_140_39, xk_140_40, xk_140_41, xk_140_42, xk_140_43, xk_140_44, xk_140_45, xk_140_46, xk_140_47, xk_140_48, xk_140_49, xk_140_50, xk_140_51, xk_140_52, xk_140_53, xk_140_54, xk_140_55, xk_140_56, xk_140_57, xk_140_58, xk_140_59, xk_140_60, trivial⟩
theorem xd_141_0 : decode prog_6_method_36_code 0 = .ok (.iload_n 0, 1) := by decide +kernel
theorem xd_141_1 : decode prog_6_method_36_code 1 = .ok (.iconst 2, 1) := by decide +kernel
theorem xd_141_2 : decode prog_6_method_36_code 2 = .ok (.irem, 1) := by decide +kernel
theorem xd_141_3 : decode prog_6_method_36_code 3 = .ok (.ifCond .ne 9, 3) := by decide +kernel
theorem xd_141_6 : decode prog_6_method_36_code 6 = .ok (.iload_n 0, 1) := by decide +kernel
theorem xd_141_7 : decode prog_6_method_36_code 7 = .ok (.iconst 1, 1) := by decide +kernel
theorem xd_141_8 : decode prog_6_method_36_code 8 = .ok (.iadd, 1) := by decide +kernel
theorem xd_141_9 : decode prog_6_method_36_code 9 = .ok (.goto 6, 3) := by decide +kernel
theorem xd_141_12 : decode prog_6_method_36_code 12 = .ok (.iload_n 0, 1) := by decide +kernel
theorem xd_141_13 : decode prog_6_method_36_code 13 = .ok (.iconst 1, 1) := by decide +kernel
theorem xd_141_14 : decode prog_6_method_36_code 14 = .ok (.isub, 1) := by decide +kernel
theorem xd_141_15 : decode prog_6_method_36_code 15 = .ok (.ireturn, 1) := by decide +kernel
theorem xk_141_0 : xk_OkA xp_F (xp_P sc) xp_cl xp_BW xp_NW xp_SW xp_exn 141 0 (.iload 0) := Or.inr ⟨0, rfl, xd_141_0, rfl⟩
theorem xk_141_1 : xk_OkA xp_F (xp_P sc) xp_cl xp_BW xp_NW xp_SW xp_exn 141 1 (.iconst 2) := Or.inl ⟨xd_141_1, rfl⟩
theorem xk_141_2 : xk_OkA xp_F (xp_P sc) xp_cl xp_BW xp_NW xp_SW xp_exn 141 2 (.irem) := ⟨xd_141_2, rfl⟩
theorem xk_141_3 : xk_OkA xp_F (xp_P sc) xp_cl xp_BW xp_NW xp_SW xp_exn 141 3 (.ifCond .ne 8) := ⟨_, xd_141_3, by unfold xf_to; decide +kernel, rfl⟩
theorem xk_141_4 : xk_OkA xp_F (xp_P sc) xp_cl xp_BW xp_NW xp_SW xp_exn 141 4 (.iload 0) := Or.inr ⟨0, rfl, xd_141_6, rfl⟩
theorem xk_141_5 : xk_OkA xp_F (xp_P sc) xp_cl xp_BW xp_NW xp_SW xp_exn 141 5 (.iconst 1) := Or.inl ⟨xd_141_7, rfl⟩
theorem xk_141_6 : xk_OkA xp_F (xp_P sc) xp_cl xp_BW xp_NW xp_SW xp_exn 141 6 (.iadd) := ⟨xd_141_8, rfl⟩
theorem xk_141_7 : xk_OkA xp_F (xp_P sc) xp_cl xp_BW xp_NW xp_SW xp_exn 141 7 (.goto 11) := ⟨_, xd_141_9, by unfold xf_to; decide +kernel⟩
theorem xk_141_8 : xk_OkA xp_F (xp_P sc) xp_cl xp_BW xp_NW xp_SW xp_exn 141 8 (.iload 0) := Or.inr ⟨0, rfl, xd_141_12, rfl⟩
theorem xk_141_9 : xk_OkA xp_F (xp_P sc) xp_cl xp_BW xp_NW xp_SW xp_exn 141 9 (.iconst 1) := Or.inl ⟨xd_141_13, rfl⟩
theorem xk_141_10 : xk_OkA xp_F (xp_P sc) xp_cl xp_BW xp_NW xp_SW xp_exn 141 10 (.isub) := ⟨xd_141_14, rfl⟩
theorem xk_141_11 : xk_OkA xp_F (xp_P sc) xp_cl xp_BW xp_NW xp_SW xp_exn 141 11 (.ireturn) := ⟨xd_141_15, rfl⟩
theorem xl_141 : xk_OkL xp_F (xp_P sc) xp_cl xp_BW xp_NW xp_SW xp_exn 141 0 xc_141 := ⟨xk_141_0, xk_141_1, xk_141_2, xk_141_3, xk_141_4, xk_141_5, xk_141_6, xk_141_7, xk_141_8, xk_141_9, xk_141_10, xk_141_11, trivial⟩
theorem xd_142_0 : decode prog_6_method_37_code 0 = .ok (.aload_n 0, 1) := by decide +kernel
theorem xd_142_1 : decode prog_6_method_37_code 1 = .ok (.aload_n 0, 1) := by decide +kernel
theorem xd_142_2 : decode prog_6_method_37_code 2 = .ok (.getfield 20, 3) := by decide +kernel
theorem xd_142_5 : decode prog_6_method_37_code 5 = .ok (.ifCond .ne 7, 3) := by decide +kernel
theorem xd_142_8 : decode prog_6_method_37_code 8 = .ok (.iconst 1, 1) := by decide +kernel
theorem xd_142_9 : decode prog_6_method_37_code 9 = .ok (.goto 43, 3) := by decide +kernel
theorem xd_142_12 : decode prog_6_method_37_code 12 = .ok (.aload_n 0, 1) := by decide +kernel
theorem xd_142_13 : decode prog_6_method_37_code 13 = .ok (.iload_n 1, 1) := by decide +kernel
theorem xd_142_14 : decode prog_6_method_37_code 14 = .ok (.invokevirtual 134, 3) := by decide +kernel
theorem xd_142_17 : decode prog_6_method_37_code 17 = .ok (.ifCond .ne 7, 3) := by decide +kernel
theorem xd_142_20 : decode prog_6_method_37_code 20 = .ok (.iconst 2, 1) := by decide +kernel
theorem xd_142_21 : decode prog_6_method_37_code 21 = .ok (.goto 31, 3) := by decide +kernel
theorem xd_142_24 : decode prog_6_method_37_code 24 = .ok (.aload_n 0, 1) := by decide +kernel
theorem xd_142_25 : decode prog_6_method_37_code 25 = .ok (.getfield 28, 3) := by decide +kernel
theorem xd_142_28 : decode prog_6_method_37_code 28 = .ok (.iload_n 1, 1) := by decide +kernel
theorem xd_142_29 : decode prog_6_method_37_code 29 = .ok (.invokestatic 75, 3) := by decide +kernel
theorem xd_142_32 : decode prog_6_method_37_code 32 = .ok (.iconst 2, 1) := by decide +kernel
theorem xd_142_33 : decode prog_6_method_37_code 33 = .ok (.if_icmp .eq 7, 3) := by decide +kernel
theorem xd_142_36 : decode prog_6_method_37_code 36 = .ok (.iconst 3, 1) := by decide +kernel
theorem xd_142_37 : decode prog_6_method_37_code 37 = .ok (.goto 15, 3) := by decide +kernel
theorem xd_142_40 : decode prog_6_method_37_code 40 = .ok (.aload_n 0, 1) := by decide +kernel
theorem xd_142_41 : decode prog_6_method_37_code 41 = .ok (.invokevirtual 52, 3) := by decide +kernel
theorem xd_142_44 : decode prog_6_method_37_code 44 = .ok (.ifCond .eq 7, 3) := by decide +kernel
theorem xd_142_47 : decode prog_6_method_37_code 47 = .ok (.iconst 4, 1) := by decide +kernel
theorem xd_142_48 : decode prog_6_method_37_code 48 = .ok (.goto 4, 3) := by decide +kernel
theorem xd_142_51 : decode prog_6_method_37_code 51 = .ok (.iconst 0, 1) := by decide +kernel
theorem xd_142_52 : decode prog_6_method_37_code 52 = .ok (.putfield 37, 3) := by decide +kernel
theorem xd_142_55 : decode prog_6_method_37_code 55 = .ok (.aload_n 0, 1) := by decide +kernel
theorem xd_142_56 : decode prog_6_method_37_code 56 = .ok (.getfield 37, 3) := by decide +kernel
theorem xd_142_59 : decode prog_6_method_37_code 59 = .ok (.ifCond .le 5, 3) := by decide +kernel
theorem xd_142_62 : decode prog_6_method_37_code 62 = .ok (.iconst 0, 1) := by decide +kernel
theorem xd_142_63 : decode prog_6_method_37_code 63 = .ok (.ireturn, 1) := by decide +kernel
theorem xd_142_64 : decode prog_6_method_37_code 64 = .ok (.aload_n 0, 1) := by decide +kernel
theorem xd_142_65 : decode prog_6_method_37_code 65 = .ok (.invokevirtual 107, 3) := by decide +kernel
theorem xd_142_68 : decode prog_6_method_37_code 68 = .ok (.bipush 9, 2) := by decide +kernel
theorem xd_142_70 : decode prog_6_method_37_code 70 = .ok (.bipush 10, 2) := by decide +kernel
theorem xd_142_72 : decode prog_6_method_37_code 72 = .ok (.iload_n 1, 1) := by decide +kernel
theorem xd_142_73 : decode prog_6_method_37_code 73 = .ok (.imul, 1) := by decide +kernel
theorem xd_142_74 : decode prog_6_method_37_code 74 = .ok (.iadd, 1) := by decide +kernel
theorem xd_142_75 : decode prog_6_method_37_code 75 = .ok (.istore_n 2, 1) := by decide +kernel
theorem xd_142_76 : decode prog_6_method_37_code 76 = .ok (.iconst 0, 1) := by decide +kernel
theorem xd_142_77 : decode prog_6_method_37_code 77 = .ok (.istore_n 3, 1) := by decide +kernel
theorem xd_142_78 : decode prog_6_method_37_code 78 = .ok (.iconst 0, 1) := by decide +kernel
theorem xd_142_79 : decode prog_6_method_37_code 79 = .ok (.istore 4, 2) := by decide +kernel
theorem xd_142_81 : decode prog_6_method_37_code 81 = .ok (.iload 4, 2) := by decide +kernel
theorem xd_142_83 : decode prog_6_method_37_code 83 = .ok (.iconst 2, 1) := by decide +kernel
theorem xd_142_84 : decode prog_6_method_37_code 84 = .ok (.aload_n 0, 1) := by decide +kernel
theorem xd_142_85 : decode prog_6_method_37_code 85 = .ok (.getfield 28, 3) := by decide +kernel
theorem xd_142_88 : decode prog_6_method_37_code 88 = .ok (.iload_n 1, 1) := by decide +kernel
theorem xd_142_89 : decode prog_6_method_37_code 89 = .ok (.invokestatic 86, 3) := by decide +kernel
theorem xd_142_92 : decode prog_6_method_37_code 92 = .ok (.imul, 1) := by decide +kernel
theorem xd_142_93 : decode prog_6_method_37_code 93 = .ok (.if_icmp .ge 79, 3) := by decide +kernel
theorem xd_142_96 : decode prog_6_method_37_code 96 = .ok (.aload_n 0, 1) := by decide +kernel
theorem xd_142_97 : decode prog_6_method_37_code 97 = .ok (.getfield 28, 3) := by decide +kernel
theorem xd_142_100 : decode prog_6_method_37_code 100 = .ok (.iload_n 2, 1) := by decide +kernel
theorem xd_142_101 : decode prog_6_method_37_code 101 = .ok (.iload 4, 2) := by decide +kernel
theorem xd_142_103 : decode prog_6_method_37_code 103 = .ok (.iadd, 1) := by decide +kernel
theorem xd_142_104 : decode prog_6_method_37_code 104 = .ok (.iaload, 1) := by decide +kernel
theorem xd_142_105 : decode prog_6_method_37_code 105 = .ok (.ifCond .ne 61, 3) := by decide +kernel
theorem xd_142_108 : decode prog_6_method_37_code 108 = .ok (.aload_n 0, 1) := by decide +kernel
theorem xd_142_109 : decode prog_6_method_37_code 109 = .ok (.getfield 28, 3) := by decide +kernel
theorem xd_142_112 : decode prog_6_method_37_code 112 = .ok (.iload_n 2, 1) := by decide +kernel
theorem xd_142_113 : decode prog_6_method_37_code 113 = .ok (.iload 4, 2) := by decide +kernel
theorem xd_142_115 : decode prog_6_method_37_code 115 = .ok (.invokestatic 137, 3) := by decide +kernel
theorem xd_142_118 : decode prog_6_method_37_code 118 = .ok (.iadd, 1) := by decide +kernel
theorem xd_142_119 : decode prog_6_method_37_code 119 = .ok (.iaload, 1) := by decide +kernel
theorem xd_142_120 : decode prog_6_method_37_code 120 = .ok (.ifCond .le 46, 3) := by decide +kernel
theorem xd_142_123 : decode prog_6_method_37_code 123 = .ok (.aload_n 0, 1) := by decide +kernel
theorem xd_142_124 : decode prog_6_method_37_code 124 = .ok (.getfield 31, 3) := by decide +kernel
theorem xd_142_127 : decode prog_6_method_37_code 127 = .ok (.iload_n 2, 1) := by decide +kernel
theorem xd_142_128 : decode prog_6_method_37_code 128 = .ok (.iload 4, 2) := by decide +kernel
theorem xd_142_130 : decode prog_6_method_37_code 130 = .ok (.iadd, 1) := by decide +kernel
theorem xd_142_131 : decode prog_6_method_37_code 131 = .ok (.aload_n 0, 1) := by decide +kernel
theorem xd_142_132 : decode prog_6_method_37_code 132 = .ok (.aload_n 0, 1) := by decide +kernel
theorem xd_142_133 : decode prog_6_method_37_code 133 = .ok (.getfield 31, 3) := by decide +kernel
theorem xd_142_136 : decode prog_6_method_37_code 136 = .ok (.iload_n 1, 1) := by decide +kernel
theorem xd_142_137 : decode prog_6_method_37_code 137 = .ok (.iload 4, 2) := by decide +kernel
theorem xd_142_139 : decode prog_6_method_37_code 139 = .ok (.iconst (-1), 1) := by decide +kernel
theorem xd_142_140 : decode prog_6_method_37_code 140 = .ok (.invokevirtual 95, 3) := by decide +kernel
theorem xd_142_143 : decode prog_6_method_37_code 143 = .ok (.iastore, 1) := by decide +kernel
theorem xd_142_144 : decode prog_6_method_37_code 144 = .ok (.iinc 3 (1), 3) := by decide +kernel
theorem xd_142_147 : decode prog_6_method_37_code 147 = .ok (.aload_n 0, 1) := by decide +kernel
theorem xd_142_148 : decode prog_6_method_37_code 148 = .ok (.getfield 31, 3) := by decide +kernel
theorem xd_142_151 : decode prog_6_method_37_code 151 = .ok (.iload_n 2, 1) := by decide +kernel
theorem xd_142_152 : decode prog_6_method_37_code 152 = .ok (.iload 4, 2) := by decide +kernel
theorem xd_142_154 : decode prog_6_method_37_code 154 = .ok (.iadd, 1) := by decide +kernel
theorem xd_142_155 : decode prog_6_method_37_code 155 = .ok (.iaload, 1) := by decide +kernel
theorem xd_142_156 : decode prog_6_method_37_code 156 = .ok (.ifCond .ne 10, 3) := by decide +kernel
theorem xd_142_159 : decode prog_6_method_37_code 159 = .ok (.aload_n 0, 1) := by decide +kernel
theorem xd_142_160 : decode prog_6_method_37_code 160 = .ok (.iconst 4, 1) := by decide +kernel
theorem xd_142_161 : decode prog_6_method_37_code 161 = .ok (.putfield 37, 3) := by decide +kernel
theorem xd_142_164 : decode prog_6_method_37_code 164 = .ok (.iconst 0, 1) := by decide +kernel
theorem xd_142_165 : decode prog_6_method_37_code 165 = .ok (.ireturn, 1) := by decide +kernel
theorem xd_142_166 : decode prog_6_method_37_code 166 = .ok (.iinc 4 (1), 3) := by decide +kernel
theorem xd_142_169 : decode prog_6_method_37_code 169 = .ok (.goto (-88), 3) := by decide +kernel
theorem xd_142_172 : decode prog_6_method_37_code 172 = .ok (.iload_n 3, 1) := by decide +kernel
theorem xd_142_173 : decode prog_6_method_37_code 173 = .ok (.ifCond .ne 5, 3) := by decide +kernel
theorem xd_142_176 : decode prog_6_method_37_code 176 = .ok (.iconst 0, 1) := by decide +kernel
theorem xd_142_177 : decode prog_6_method_37_code 177 = .ok (.ireturn, 1) := by decide +kernel
theorem xd_142_178 : decode prog_6_method_37_code 178 = .ok (.iconst 0, 1) := by decide +kernel
theorem xd_142_179 : decode prog_6_method_37_code 179 = .ok (.istore 4, 2) := by decide +kernel
theorem xd_142_181 : decode prog_6_method_37_code 181 = .ok (.iload 4, 2) := by decide +kernel
theorem xd_142_183 : decode prog_6_method_37_code 183 = .ok (.bipush 10, 2) := by decide +kernel
theorem xd_142_185 : decode prog_6_method_37_code 185 = .ok (.if_icmp .ge 78, 3) := by decide +kernel
theorem xd_142_188 : decode prog_6_method_37_code 188 = .ok (.iconst 0, 1) := by decide +kernel
theorem xd_142_189 : decode prog_6_method_37_code 189 = .ok (.istore 5, 2) := by decide +kernel
theorem xd_142_191 : decode prog_6_method_37_code 191 = .ok (.iload 5, 2) := by decide +kernel
theorem xd_142_193 : decode prog_6_method_37_code 193 = .ok (.iconst 4, 1) := by decide +kernel
theorem xd_142_194 : decode prog_6_method_37_code 194 = .ok (.if_icmp .ge 63, 3) := by decide +kernel
theorem xd_142_197 : decode prog_6_method_37_code 197 = .ok (.aload_n 0, 1) := by decide +kernel
theorem xd_142_198 : decode prog_6_method_37_code 198 = .ok (.getfield 31, 3) := by decide +kernel
theorem xd_142_201 : decode prog_6_method_37_code 201 = .ok (.iload_n 2, 1) := by decide +kernel
theorem xd_142_202 : decode prog_6_method_37_code 202 = .ok (.iload 4, 2) := by decide +kernel
theorem xd_142_204 : decode prog_6_method_37_code 204 = .ok (.iadd, 1) := by decide +kernel
theorem xd_142_205 : decode prog_6_method_37_code 205 = .ok (.iaload, 1) := by decide +kernel
theorem xd_142_206 : decode prog_6_method_37_code 206 = .ok (.aload_n 0, 1) := by decide +kernel
theorem xd_142_207 : decode prog_6_method_37_code 207 = .ok (.getfield 28, 3) := by decide +kernel
theorem xd_142_210 : decode prog_6_method_37_code 210 = .ok (.iload_n 2, 1) := by decide +kernel
theorem xd_142_211 : decode prog_6_method_37_code 211 = .ok (.iload 4, 2) := by decide +kernel
theorem xd_142_213 : decode prog_6_method_37_code 213 = .ok (.iadd, 1) := by decide +kernel
theorem xd_142_214 : decode prog_6_method_37_code 214 = .ok (.iaload, 1) := by decide +kernel
theorem xd_142_215 : decode prog_6_method_37_code 215 = .ok (.if_icmp .eq 42, 3) := by decide +kernel
theorem xd_142_218 : decode prog_6_method_37_code 218 = .ok (.aload_n 0, 1) := by decide +kernel
theorem xd_142_219 : decode prog_6_method_37_code 219 = .ok (.aload_n 0, 1) := by decide +kernel
theorem xd_142_220 : decode prog_6_method_37_code 220 = .ok (.getfield 31, 3) := by decide +kernel
theorem xd_142_223 : decode prog_6_method_37_code 223 = .ok (.iload_n 2, 1) := by decide +kernel
theorem xd_142_224 : decode prog_6_method_37_code 224 = .ok (.iload 4, 2) := by decide +kernel
theorem xd_142_226 : decode prog_6_method_37_code 226 = .ok (.iadd, 1) := by decide +kernel
theorem xd_142_227 : decode prog_6_method_37_code 227 = .ok (.iaload, 1) := by decide +kernel
theorem xd_142_228 : decode prog_6_method_37_code 228 = .ok (.iload 5, 2) := by decide +kernel
theorem xd_142_230 : decode prog_6_method_37_code 230 = .ok (.aload_n 0, 1) := by decide +kernel
theorem xd_142_231 : decode prog_6_method_37_code 231 = .ok (.aload_n 0, 1) := by decide +kernel
theorem xd_142_232 : decode prog_6_method_37_code 232 = .ok (.getfield 28, 3) := by decide +kernel
theorem xd_142_235 : decode prog_6_method_37_code 235 = .ok (.iload_n 2, 1) := by decide +kernel
theorem xd_142_236 : decode prog_6_method_37_code 236 = .ok (.iload 4, 2) := by decide +kernel
theorem xd_142_238 : decode prog_6_method_37_code 238 = .ok (.invokestatic 137, 3) := by decide +kernel
theorem xd_142_241 : decode prog_6_method_37_code 241 = .ok (.iadd, 1) := by decide +kernel
theorem xd_142_242 : decode prog_6_method_37_code 242 = .ok (.iaload, 1) := by decide +kernel
theorem xd_142_243 : decode prog_6_method_37_code 243 = .ok (.iload 5, 2) := by decide +kernel
theorem xd_142_245 : decode prog_6_method_37_code 245 = .ok (.invokevirtual 140, 3) := by decide +kernel
theorem xd_142_248 : decode prog_6_method_37_code 248 = .ok (.invokevirtual 99, 3) := by decide +kernel
theorem xd_142_251 : decode prog_6_method_37_code 251 = .ok (.iinc 5 (1), 3) := by decide +kernel
theorem xd_142_254 : decode prog_6_method_37_code 254 = .ok (.goto (-63), 3) := by decide +kernel
theorem xd_142_257 : decode prog_6_method_37_code 257 = .ok (.iinc 4 (1), 3) := by decide +kernel
theorem xd_142_260 : decode prog_6_method_37_code 260 = .ok (.goto (-79), 3) := by decide +kernel
theorem xd_142_263 : decode prog_6_method_37_code 263 = .ok (.aload_n 0, 1) := by decide +kernel
theorem xd_142_264 : decode prog_6_method_37_code 264 = .ok (.invokevirtual 110, 3) := by decide +kernel
theorem xd_142_267 : decode prog_6_method_37_code 267 = .ok (.aload_n 0, 1) := by decide +kernel
theorem xd_142_268 : decode prog_6_method_37_code 268 = .ok (.iload_n 3, 1) := by decide +kernel
theorem xd_142_269 : decode prog_6_method_37_code 269 = .ok (.invokevirtual 113, 3) := by decide +kernel
theorem xd_142_272 : decode prog_6_method_37_code 272 = .ok (.ireturn, 1) := by decide +kernel
theorem xk_142_0 : xk_OkA xp_F (xp_P sc) xp_cl xp_BW xp_NW xp_SW xp_exn 142 0 (.aload 0) := Or.inr ⟨0, rfl, xd_142_0, rfl⟩
theorem xk_142_1 : xk_OkA xp_F (xp_P sc) xp_cl xp_BW xp_NW xp_SW xp_exn 142 1 (.aload 0) := Or.inr ⟨0, rfl, xd_142_1, rfl⟩
theorem xk_142_2 : xk_OkA xp_F (xp_P sc) xp_cl xp_BW xp_NW xp_SW xp_exn 142 2 (.getfield 132) := ⟨_, xd_142_2, rfl, ⟨_, _, _, rfl, by decide, xu_4, Or.inl xwt_758⟩⟩
theorem xk_142_3 : xk_OkA xp_F (xp_P sc) xp_cl xp_BW xp_NW xp_SW xp_exn 142 3 (.ifCond .ne 6) := ⟨_, xd_142_5, by unfold xf_to; decide +kernel, rfl⟩
theorem xk_142_4 : xk_OkA xp_F (xp_P sc) xp_cl xp_BW xp_NW xp_SW xp_exn 142 4 (.iconst 1) := Or.inl ⟨xd_142_8, rfl⟩
theorem xk_142_5 : xk_OkA xp_F (xp_P sc) xp_cl xp_BW xp_NW xp_SW xp_exn 142 5 (.goto 26) := ⟨_, xd_142_9, by unfold xf_to; decide +kernel⟩
theorem xk_142_6 : xk_OkA xp_F (xp_P sc) xp_cl xp_BW xp_NW xp_SW xp_exn 142 6 (.aload 0) := Or.inr ⟨0, rfl, xd_142_12, rfl⟩
theorem xk_142_7 : xk_OkA xp_F (xp_P sc) xp_cl xp_BW xp_NW xp_SW xp_exn 142 7 (.iload 1) := Or.inr ⟨1, rfl, xd_142_13, rfl⟩
theorem xk_142_8 : xk_OkA xp_F (xp_P sc) xp_cl xp_BW xp_NW xp_SW xp_exn 142 8 (.invokeinterface 115 2) := ⟨rfl, Or.inl ⟨xwt_910, rfl⟩, rfl, rfl, xwt_5, by decide +kernel, by decide +kernel, Nat.le_of_ble_eq_true rfl, _, Or.inl xwt_907, Or.inr ⟨xd_142_14, xwt_909, xws_94, ⟨_, _, _, rfl, rfl⟩, by decide +kernel⟩⟩
theorem xk_142_9 : xk_OkA xp_F (xp_P sc) xp_cl xp_BW xp_NW xp_SW xp_exn 142 9 (.ifCond .ne 12) := ⟨_, xd_142_17, by unfold xf_to; decide +kernel, rfl⟩
theorem xk_142_10 : xk_OkA xp_F (xp_P sc) xp_cl xp_BW xp_NW xp_SW xp_exn 142 10 (.iconst 2) := Or.inl ⟨xd_142_20, rfl⟩
theorem xk_142_11 : xk_OkA xp_F (xp_P sc) xp_cl xp_BW xp_NW xp_SW xp_exn 142 11 (.goto 26) := ⟨_, xd_142_21, by unfold xf_to; decide +kernel⟩
theorem xk_142_12 : xk_OkA xp_F (xp_P sc) xp_cl xp_BW xp_NW xp_SW xp_exn 142 12 (.aload 0) := Or.inr ⟨0, rfl, xd_142_24, rfl⟩
theorem xk_142_13 : xk_OkA xp_F (xp_P sc) xp_cl xp_BW xp_NW xp_SW xp_exn 142 13 (.getfield 134) := ⟨_, xd_142_25, rfl, ⟨_, _, _, rfl, by decide, xu_4, Or.inl xwt_760⟩⟩
theorem xk_142_14 : xk_OkA xp_F (xp_P sc) xp_cl xp_BW xp_NW xp_SW xp_exn 142 14 (.iload 1) := Or.inr ⟨1, rfl, xd_142_28, rfl⟩
theorem xk_142_15 : xk_OkA xp_F (xp_P sc) xp_cl xp_BW xp_NW xp_SW xp_exn 142 15 (.invokeinterface 112 2) := ⟨rfl, Or.inl ⟨xwt_869, rfl⟩, rfl, rfl, xwt_5, by decide +kernel, by decide +kernel, Nat.le_of_ble_eq_true rfl, _, Or.inl xwt_867, Or.inl ⟨xd_142_29, xwt_868, rfl, by decide +kernel⟩⟩
theorem xk_142_16 : xk_OkA xp_F (xp_P sc) xp_cl xp_BW xp_NW xp_SW xp_exn 142 16 (.iconst 2) := Or.inl ⟨xd_142_32, rfl⟩
theorem xk_142_17 : xk_OkA xp_F (xp_P sc) xp_cl xp_BW xp_NW xp_SW xp_exn 142 17 (.if_icmp .eq 20) := ⟨_, xd_142_33, by unfold xf_to; decide +kernel, rfl⟩
theorem xk_142_18 : xk_OkA xp_F (xp_P sc) xp_cl xp_BW xp_NW xp_SW xp_exn 142 18 (.iconst 3) := Or.inl ⟨xd_142_36, rfl⟩
theorem xk_142_19 : xk_OkA xp_F (xp_P sc) xp_cl xp_BW xp_NW xp_SW xp_exn 142 19 (.goto 26) := ⟨_, xd_142_37, by unfold xf_to; decide +kernel⟩
theorem xk_142_20 : xk_OkA xp_F (xp_P sc) xp_cl xp_BW xp_NW xp_SW xp_exn 142 20 (.aload 0) := Or.inr ⟨0, rfl, xd_142_40, rfl⟩
theorem xk_142_21 : xk_OkA xp_F (xp_P sc) xp_cl xp_BW xp_NW xp_SW xp_exn 142 21 (.invokeinterface 118 1) := ⟨rfl, Or.inl ⟨xwt_808, rfl⟩, rfl, rfl, xwt_5, by decide +kernel, by decide +kernel, Nat.le_of_ble_eq_true rfl, _, Or.inl xwt_805, Or.inr ⟨xd_142_41, xwt_807, xws_77, ⟨_, _, _, rfl, rfl⟩, by decide +kernel⟩⟩
theorem xk_142_22 : xk_OkA xp_F (xp_P sc) xp_cl xp_BW xp_NW xp_SW xp_exn 142 22 (.ifCond .eq 25) := ⟨_, xd_142_44, by unfold xf_to; decide +kernel, rfl⟩
theorem xk_142_23 : xk_OkA xp_F (xp_P sc) xp_cl xp_BW xp_NW xp_SW xp_exn 142 23 (.iconst 4) := Or.inl ⟨xd_142_47, rfl⟩
theorem xk_142_24 : xk_OkA xp_F (xp_P sc) xp_cl xp_BW xp_NW xp_SW xp_exn 142 24 (.goto 26) := ⟨_, xd_142_48, by unfold xf_to; decide +kernel⟩
theorem xk_142_25 : xk_OkA xp_F (xp_P sc) xp_cl xp_BW xp_NW xp_SW xp_exn 142 25 (.iconst 0) := Or.inl ⟨xd_142_51, rfl⟩
theorem xk_142_26 : xk_OkA xp_F (xp_P sc) xp_cl xp_BW xp_NW xp_SW xp_exn 142 26 (.putfield 128) := ⟨_, xd_142_52, rfl, ⟨_, _, _, rfl, by decide, xu_4, Or.inl xwt_754⟩, xf_4_0⟩
theorem xk_142_27 : xk_OkA xp_F (xp_P sc) xp_cl xp_BW xp_NW xp_SW xp_exn 142 27 (.aload 0) := Or.inr ⟨0, rfl, xd_142_55, rfl⟩
theorem xk_142_28 : xk_OkA xp_F (xp_P sc) xp_cl xp_BW xp_NW xp_SW xp_exn 142 28 (.getfield 128) := ⟨_, xd_142_56, rfl, ⟨_, _, _, rfl, by decide, xu_4, Or.inl xwt_754⟩⟩
theorem xk_142_29 : xk_OkA xp_F (xp_P sc) xp_cl xp_BW xp_NW xp_SW xp_exn 142 29 (.ifCond .le 32) := ⟨_, xd_142_59, by unfold xf_to; decide +kernel, rfl⟩
theorem xk_142_30 : xk_OkA xp_F (xp_P sc) xp_cl xp_BW xp_NW xp_SW xp_exn 142 30 (.iconst 0) := Or.inl ⟨xd_142_62, rfl⟩
theorem xk_142_31 : xk_OkA xp_F (xp_P sc) xp_cl xp_BW xp_NW xp_SW xp_exn 142 31 (.ireturn) := ⟨xd_142_63, rfl⟩
theorem xk_142_32 : xk_OkA xp_F (xp_P sc) xp_cl xp_BW xp_NW xp_SW xp_exn 142 32 (.aload 0) := Or.inr ⟨0, rfl, xd_142_64, rfl⟩
theorem xk_142_33 : xk_OkA xp_F (xp_P sc) xp_cl xp_BW xp_NW xp_SW xp_exn 142 33 (.invokeinterface 119 1) := ⟨rfl, Or.inl ⟨xwt_812, rfl⟩, rfl, rfl, xwt_5, by decide +kernel, by decide +kernel, Nat.le_of_ble_eq_true rfl, _, Or.inl xwt_809, Or.inr ⟨xd_142_65, xwt_811, xws_78, ⟨_, _, _, rfl, rfl⟩, by decide +kernel⟩⟩
theorem xk_142_34 : xk_OkA xp_F (xp_P sc) xp_cl xp_BW xp_NW xp_SW xp_exn 142 34 (.iconst 9) := Or.inr (Or.inl ⟨xd_142_68, by decide +kernel, rfl⟩)
theorem xk_142_35 : xk_OkA xp_F (xp_P sc) xp_cl xp_BW xp_NW xp_SW xp_exn 142 35 (.iconst 10) := Or.inr (Or.inl ⟨xd_142_70, by decide +kernel, rfl⟩)
theorem xk_142_36 : xk_OkA xp_F (xp_P sc) xp_cl xp_BW xp_NW xp_SW xp_exn 142 36 (.iload 1) := Or.inr ⟨1, rfl, xd_142_72, rfl⟩
theorem xk_142_37 : xk_OkA xp_F (xp_P sc) xp_cl xp_BW xp_NW xp_SW xp_exn 142 37 (.imul) := ⟨xd_142_73, rfl⟩
theorem xk_142_38 : xk_OkA xp_F (xp_P sc) xp_cl xp_BW xp_NW xp_SW xp_exn 142 38 (.iadd) := ⟨xd_142_74, rfl⟩
theorem xk_142_39 : xk_OkA xp_F (xp_P sc) xp_cl xp_BW xp_NW xp_SW xp_exn 142 39 (.istore 2) := Or.inr ⟨2, rfl, xd_142_75, rfl⟩
theorem xk_142_40 : xk_OkA xp_F (xp_P sc) xp_cl xp_BW xp_NW xp_SW xp_exn 142 40 (.iconst 0) := Or.inl ⟨xd_142_76, rfl⟩
theorem xk_142_41 : xk_OkA xp_F (xp_P sc) xp_cl xp_BW xp_NW xp_SW xp_exn 142 41 (.istore 3) := Or.inr ⟨3, rfl, xd_142_77, rfl⟩
theorem xk_142_42 : xk_OkA xp_F (xp_P sc) xp_cl xp_BW xp_NW xp_SW xp_exn 142 42 (.iconst 0) := Or.inl ⟨xd_142_78, rfl⟩
theorem xk_142_43 : xk_OkA xp_F (xp_P sc) xp_cl xp_BW xp_NW xp_SW xp_exn 142 43 (.istore 4) := Or.inl ⟨xd_142_79, rfl⟩
theorem xk_142_44 : xk_OkA xp_F (xp_P sc) xp_cl xp_BW xp_NW xp_SW xp_exn 142 44 (.iload 4) := Or.inl ⟨xd_142_81, rfl⟩
theorem xk_142_45 : xk_OkA xp_F (xp_P sc) xp_cl xp_BW xp_NW xp_SW xp_exn 142 45 (.iconst 2) := Or.inl ⟨xd_142_83, rfl⟩
theorem xk_142_46 : xk_OkA xp_F (xp_P sc) xp_cl xp_BW xp_NW xp_SW xp_exn 142 46 (.aload 0) := Or.inr ⟨0, rfl, xd_142_84, rfl⟩
theorem xk_142_47 : xk_OkA xp_F (xp_P sc) xp_cl xp_BW xp_NW xp_SW xp_exn 142 47 (.getfield 134) := ⟨_, xd_142_85, rfl, ⟨_, _, _, rfl, by decide, xu_4, Or.inl xwt_760⟩⟩
theorem xk_142_48 : xk_OkA xp_F (xp_P sc) xp_cl xp_BW xp_NW xp_SW xp_exn 142 48 (.iload 1) := Or.inr ⟨1, rfl, xd_142_88, rfl⟩
theorem xk_142_49 : xk_OkA xp_F (xp_P sc) xp_cl xp_BW xp_NW xp_SW xp_exn 142 49 (.invokeinterface 114 2) := ⟨rfl, Or.inl ⟨xwt_866, rfl⟩, rfl, rfl, xwt_5, by decide +kernel, by decide +kernel, Nat.le_of_ble_eq_true rfl, _, Or.inl xwt_864, Or.inl ⟨xd_142_89, xwt_865, rfl, by decide +kernel⟩⟩
theorem xk_142_50 : xk_OkA xp_F (xp_P sc) xp_cl xp_BW xp_NW xp_SW xp_exn 142 50 (.imul) := ⟨xd_142_92, rfl⟩
theorem xk_142_51 : xk_OkA xp_F (xp_P sc) xp_cl xp_BW xp_NW xp_SW xp_exn 142 51 (.if_icmp .ge 95) := ⟨_, xd_142_93, by unfold xf_to; decide +kernel, rfl⟩
theorem xk_142_52 : xk_OkA xp_F (xp_P sc) xp_cl xp_BW xp_NW xp_SW xp_exn 142 52 (.aload 0) := Or.inr ⟨0, rfl, xd_142_96, rfl⟩
theorem xk_142_53 : xk_OkA xp_F (xp_P sc) xp_cl xp_BW xp_NW xp_SW xp_exn 142 53 (.getfield 134) := ⟨_, xd_142_97, rfl, ⟨_, _, _, rfl, by decide, xu_4, Or.inl xwt_760⟩⟩
theorem xk_142_54 : xk_OkA xp_F (xp_P sc) xp_cl xp_BW xp_NW xp_SW xp_exn 142 54 (.iload 2) := Or.inr ⟨2, rfl, xd_142_100, rfl⟩
theorem xk_142_55 : xk_OkA xp_F (xp_P sc) xp_cl xp_BW xp_NW xp_SW xp_exn 142 55 (.iload 4) := Or.inl ⟨xd_142_101, rfl⟩
theorem xk_142_56 : xk_OkA xp_F (xp_P sc) xp_cl xp_BW xp_NW xp_SW xp_exn 142 56 (.iadd) := ⟨xd_142_103, rfl⟩
theorem xk_142_57 : xk_OkA xp_F (xp_P sc) xp_cl xp_BW xp_NW xp_SW xp_exn 142 57 (.iaload) := ⟨xd_142_104, rfl⟩
theorem xk_142_58 : xk_OkA xp_F (xp_P sc) xp_cl xp_BW xp_NW xp_SW xp_exn 142 58 (.ifCond .ne 93) := ⟨_, xd_142_105, by unfold xf_to; decide +kernel, rfl⟩
theorem xk_142_59 : xk_OkA xp_F (xp_P sc) xp_cl xp_BW xp_NW xp_SW xp_exn 142 59 (.aload 0) := Or.inr ⟨0, rfl, xd_142_108, rfl⟩
theorem xk_142_60 : xk_OkA xp_F (xp_P sc) xp_cl xp_BW xp_NW xp_SW xp_exn 142 60 (.getfield 134) := ⟨_, xd_142_109, rfl, ⟨_, _, _, rfl, by decide, xu_4, Or.inl xwt_760⟩⟩
theorem xk_142_61 : xk_OkA xp_F (xp_P sc) xp_cl xp_BW xp_NW xp_SW xp_exn 142 61 (.iload 2) := Or.inr ⟨2, rfl, xd_142_112, rfl⟩
theorem xk_142_62 : xk_OkA xp_F (xp_P sc) xp_cl xp_BW xp_NW xp_SW xp_exn 142 62 (.iload 4) := Or.inl ⟨xd_142_113, rfl⟩
theorem xk_142_63 : xk_OkA xp_F (xp_P sc) xp_cl xp_BW xp_NW xp_SW xp_exn 142 63 (.invokeinterface 141 1) := ⟨rfl, Or.inl ⟨xwt_925, rfl⟩, rfl, rfl, xwt_5, by decide +kernel, by decide +kernel, Nat.le_of_ble_eq_true rfl, _, Or.inl xwt_923, Or.inl ⟨xd_142_115, xwt_924, rfl, by decide +kernel⟩⟩
theorem xk_142_64 : xk_OkA xp_F (xp_P sc) xp_cl xp_BW xp_NW xp_SW xp_exn 142 64 (.iadd) := ⟨xd_142_118, rfl⟩
theorem xk_142_65 : xk_OkA xp_F (xp_P sc) xp_cl xp_BW xp_NW xp_SW xp_exn 142 65 (.iaload) := ⟨xd_142_119, rfl⟩
theorem xk_142_66 : xk_OkA xp_F (xp_P sc) xp_cl xp_BW xp_NW xp_SW xp_exn 142 66 (.ifCond .le 93) := ⟨_, xd_142_120, by unfold xf_to; decide +kernel, rfl⟩
theorem xk_142_67 : xk_OkA xp_F (xp_P sc) xp_cl xp_BW xp_NW xp_SW xp_exn 142 67 (.aload 0) := Or.inr ⟨0, rfl, xd_142_123, rfl⟩
theorem xk_142_68 : xk_OkA xp_F (xp_P sc) xp_cl xp_BW xp_NW xp_SW xp_exn 142 68 (.getfield 135) := ⟨_, xd_142_124, rfl, ⟨_, _, _, rfl, by decide, xu_4, Or.inl xwt_761⟩⟩
theorem xk_142_69 : xk_OkA xp_F (xp_P sc) xp_cl xp_BW xp_NW xp_SW xp_exn 142 69 (.iload 2) := Or.inr ⟨2, rfl, xd_142_127, rfl⟩
theorem xk_142_70 : xk_OkA xp_F (xp_P sc) xp_cl xp_BW xp_NW xp_SW xp_exn 142 70 (.iload 4) := Or.inl ⟨xd_142_128, rfl⟩
theorem xk_142_71 : xk_OkA xp_F (xp_P sc) xp_cl xp_BW xp_NW xp_SW xp_exn 142 71 (.iadd) := ⟨xd_142_130, rfl⟩
theorem xk_142_72 : xk_OkA xp_F (xp_P sc) xp_cl xp_BW xp_NW xp_SW xp_exn 142 72 (.aload 0) := Or.inr ⟨0, rfl, xd_142_131, rfl⟩
theorem xk_142_73 : xk_OkA xp_F (xp_P sc) xp_cl xp_BW xp_NW xp_SW xp_exn 142 73 (.aload 0) := Or.inr ⟨0, rfl, xd_142_132, rfl⟩
theorem xk_142_74 : xk_OkA xp_F (xp_P sc) xp_cl xp_BW xp_NW xp_SW xp_exn 142 74 (.getfield 135) := ⟨_, xd_142_133, rfl, ⟨_, _, _, rfl, by decide, xu_4, Or.inl xwt_761⟩⟩
theorem xk_142_75 : xk_OkA xp_F (xp_P sc) xp_cl xp_BW xp_NW xp_SW xp_exn 142 75 (.iload 1) := Or.inr ⟨1, rfl, xd_142_136, rfl⟩
theorem xk_142_76 : xk_OkA xp_F (xp_P sc) xp_cl xp_BW xp_NW xp_SW xp_exn 142 76 (.iload 4) := Or.inl ⟨xd_142_137, rfl⟩
theorem xk_142_77 : xk_OkA xp_F (xp_P sc) xp_cl xp_BW xp_NW xp_SW xp_exn 142 77 (.iconst (-1)) := Or.inl ⟨xd_142_139, rfl⟩
theorem xk_142_78 : xk_OkA xp_F (xp_P sc) xp_cl xp_BW xp_NW xp_SW xp_exn 142 78 (.invokeinterface 129 5) := ⟨rfl, Or.inl ⟨xwt_873, rfl⟩, rfl, rfl, xwt_5, by decide +kernel, by decide +kernel, Nat.le_of_ble_eq_true rfl, _, Or.inl xwt_870, Or.inr ⟨xd_142_140, xwt_872, xws_88, ⟨_, _, _, rfl, rfl⟩, by decide +kernel⟩⟩
theorem xk_142_79 : xk_OkA xp_F (xp_P sc) xp_cl xp_BW xp_NW xp_SW xp_exn 142 79 (.iastore) := ⟨xd_142_143, rfl⟩
theorem xk_142_80 : xk_OkA xp_F (xp_P sc) xp_cl xp_BW xp_NW xp_SW xp_exn 142 80 (.iinc 3 (1)) := ⟨xd_142_144, rfl⟩
theorem xk_142_81 : xk_OkA xp_F (xp_P sc) xp_cl xp_BW xp_NW xp_SW xp_exn 142 81 (.aload 0) := Or.inr ⟨0, rfl, xd_142_147, rfl⟩
theorem xk_142_82 : xk_OkA xp_F (xp_P sc) xp_cl xp_BW xp_NW xp_SW xp_exn 142 82 (.getfield 135) := ⟨_, xd_142_148, rfl, ⟨_, _, _, rfl, by decide, xu_4, Or.inl xwt_761⟩⟩
theorem xk_142_83 : xk_OkA xp_F (xp_P sc) xp_cl xp_BW xp_NW xp_SW xp_exn 142 83 (.iload 2) := Or.inr ⟨2, rfl, xd_142_151, rfl⟩
theorem xk_142_84 : xk_OkA xp_F (xp_P sc) xp_cl xp_BW xp_NW xp_SW xp_exn 142 84 (.iload 4) := Or.inl ⟨xd_142_152, rfl⟩
theorem xk_142_85 : xk_OkA xp_F (xp_P sc) xp_cl xp_BW xp_NW xp_SW xp_exn 142 85 (.iadd) := ⟨xd_142_154, rfl⟩
theorem xk_142_86 : xk_OkA xp_F (xp_P sc) xp_cl xp_BW xp_NW xp_SW xp_exn 142 86 (.iaload) := ⟨xd_142_155, rfl⟩
theorem xk_142_87 : xk_OkA xp_F (xp_P sc) xp_cl xp_BW xp_NW xp_SW xp_exn 142 87 (.ifCond .ne 93) := ⟨_, xd_142_156, by unfold xf_to; decide +kernel, rfl⟩
theorem xk_142_88 : xk_OkA xp_F (xp_P sc) xp_cl xp_BW xp_NW xp_SW xp_exn 142 88 (.aload 0) := Or.inr ⟨0, rfl, xd_142_159, rfl⟩
theorem xk_142_89 : xk_OkA xp_F (xp_P sc) xp_cl xp_BW xp_NW xp_SW xp_exn 142 89 (.iconst 4) := Or.inl ⟨xd_142_160, rfl⟩
theorem xk_142_90 : xk_OkA xp_F (xp_P sc) xp_cl xp_BW xp_NW xp_SW xp_exn 142 90 (.putfield 128) := ⟨_, xd_142_161, rfl, ⟨_, _, _, rfl, by decide, xu_4, Or.inl xwt_754⟩, xf_4_0⟩
theorem xk_142_91 : xk_OkA xp_F (xp_P sc) xp_cl xp_BW xp_NW xp_SW xp_exn 142 91 (.iconst 0) := Or.inl ⟨xd_142_164, rfl⟩
theorem xk_142_92 : xk_OkA xp_F (xp_P sc) xp_cl xp_BW xp_NW xp_SW xp_exn 142 92 (.ireturn) := ⟨xd_142_165, rfl⟩
theorem xk_142_93 : xk_OkA xp_F (xp_P sc) xp_cl xp_BW xp_NW xp_SW xp_exn 142 93 (.iinc 4 (1)) := ⟨xd_142_166, rfl⟩
theorem xk_142_94 : xk_OkA xp_F (xp_P sc) xp_cl xp_BW xp_NW xp_SW xp_exn 142 94 (.goto 44) := ⟨_, xd_142_169, by unfold xf_to; decide +kernel⟩
theorem xk_142_95 : xk_OkA xp_F (xp_P sc) xp_cl xp_BW xp_NW xp_SW xp_exn 142 95 (.iload 3) := Or.inr ⟨3, rfl, xd_142_172, rfl⟩
theorem xk_142_96 : xk_OkA xp_F (xp_P sc) xp_cl xp_BW xp_NW xp_SW xp_exn 142 96 (.ifCond .ne 99) := ⟨_, xd_142_173, by unfold xf_to; decide +kernel, rfl⟩
theorem xk_142_97 : xk_OkA xp_F (xp_P sc) xp_cl xp_BW xp_NW xp_SW xp_exn 142 97 (.iconst 0) := Or.inl ⟨xd_142_176, rfl⟩
theorem xk_142_98 : xk_OkA xp_F (xp_P sc) xp_cl xp_BW xp_NW xp_SW xp_exn 142 98 (.ireturn) := ⟨xd_142_177, rfl⟩
theorem xk_142_99 : xk_OkA xp_F (xp_P sc) xp_cl xp_BW xp_NW xp_SW xp_exn 142 99 (.iconst 0) := Or.inl ⟨xd_142_178, rfl⟩
theorem xk_142_100 : xk_OkA xp_F (xp_P sc) xp_cl xp_BW xp_NW xp_SW xp_exn 142 100 (.istore 4) := Or.inl ⟨xd_142_179, rfl⟩
theorem xk_142_101 : xk_OkA xp_F (xp_P sc) xp_cl xp_BW xp_NW xp_SW xp_exn 142 101 (.iload 4) := Or.inl ⟨xd_142_181, rfl⟩
theorem xk_142_102 : xk_OkA xp_F (xp_P sc) xp_cl xp_BW xp_NW xp_SW xp_exn 142 102 (.iconst 10) := Or.inr (Or.inl ⟨xd_142_183, by decide +kernel, rfl⟩)
theorem xk_142_103 : xk_OkA xp_F (xp_P sc) xp_cl xp_BW xp_NW xp_SW xp_exn 142 103 (.if_icmp .ge 145) := ⟨_, xd_142_185, by unfold xf_to; decide +kernel, rfl⟩
theorem xk_142_104 : xk_OkA xp_F (xp_P sc) xp_cl xp_BW xp_NW xp_SW xp_exn 142 104 (.iconst 0) := Or.inl ⟨xd_142_188, rfl⟩
theorem xk_142_105 : xk_OkA xp_F (xp_P sc) xp_cl xp_BW xp_NW xp_SW xp_exn 142 105 (.istore 5) := Or.inl ⟨xd_142_189, rfl⟩
theorem xk_142_106 : xk_OkA xp_F (xp_P sc) xp_cl xp_BW xp_NW xp_SW xp_exn 142 106 (.iload 5) := Or.inl ⟨xd_142_191, rfl⟩
theorem xk_142_107 : xk_OkA xp_F (xp_P sc) xp_cl xp_BW xp_NW xp_SW xp_exn 142 107 (.iconst 4) := Or.inl ⟨xd_142_193, rfl⟩
theorem xk_142_108 : xk_OkA xp_F (xp_P sc) xp_cl xp_BW xp_NW xp_SW xp_exn 142 108 (.if_icmp .ge 143) := ⟨_, xd_142_194, by unfold xf_to; decide +kernel, rfl⟩
theorem xk_142_109 : xk_OkA xp_F (xp_P sc) xp_cl xp_BW xp_NW xp_SW xp_exn 142 109 (.aload 0) := Or.inr ⟨0, rfl, xd_142_197, rfl⟩
theorem xk_142_110 : xk_OkA xp_F (xp_P sc) xp_cl xp_BW xp_NW xp_SW xp_exn 142 110 (.getfield 135) := ⟨_, xd_142_198, rfl, ⟨_, _, _, rfl, by decide, xu_4, Or.inl xwt_761⟩⟩
theorem xk_142_111 : xk_OkA xp_F (xp_P sc) xp_cl xp_BW xp_NW xp_SW xp_exn 142 111 (.iload 2) := Or.inr ⟨2, rfl, xd_142_201, rfl⟩
theorem xk_142_112 : xk_OkA xp_F (xp_P sc) xp_cl xp_BW xp_NW xp_SW xp_exn 142 112 (.iload 4) := Or.inl ⟨xd_142_202, rfl⟩
theorem xk_142_113 : xk_OkA xp_F (xp_P sc) xp_cl xp_BW xp_NW xp_SW xp_exn 142 113 (.iadd) := ⟨xd_142_204, rfl⟩
theorem xk_142_114 : xk_OkA xp_F (xp_P sc) xp_cl xp_BW xp_NW xp_SW xp_exn 142 114 (.iaload) := ⟨xd_142_205, rfl⟩
theorem xk_142_115 : xk_OkA xp_F (xp_P sc) xp_cl xp_BW xp_NW xp_SW xp_exn 142 115 (.aload 0) := Or.inr ⟨0, rfl, xd_142_206, rfl⟩
theorem xk_142_116 : xk_OkA xp_F (xp_P sc) xp_cl xp_BW xp_NW xp_SW xp_exn 142 116 (.getfield 134) := ⟨_, xd_142_207, rfl, ⟨_, _, _, rfl, by decide, xu_4, Or.inl xwt_760⟩⟩
theorem xk_142_117 : xk_OkA xp_F (xp_P sc) xp_cl xp_BW xp_NW xp_SW xp_exn 142 117 (.iload 2) := Or.inr ⟨2, rfl, xd_142_210, rfl⟩
theorem xk_142_118 : xk_OkA xp_F (xp_P sc) xp_cl xp_BW xp_NW xp_SW xp_exn 142 118 (.iload 4) := Or.inl ⟨xd_142_211, rfl⟩
theorem xk_142_119 : xk_OkA xp_F (xp_P sc) xp_cl xp_BW xp_NW xp_SW xp_exn 142 119 (.iadd) := ⟨xd_142_213, rfl⟩
theorem xk_142_120 : xk_OkA xp_F (xp_P sc) xp_cl xp_BW xp_NW xp_SW xp_exn 142 120 (.iaload) := ⟨xd_142_214, rfl⟩
theorem xk_142_121 : xk_OkA xp_F (xp_P sc) xp_cl xp_BW xp_NW xp_SW xp_exn 142 121 (.if_icmp .eq 143) := ⟨_, xd_142_215, by unfold xf_to; decide +kernel, rfl⟩
theorem xk_142_122 : xk_OkA xp_F (xp_P sc) xp_cl xp_BW xp_NW xp_SW xp_exn 142 122 (.aload 0) := Or.inr ⟨0, rfl, xd_142_218, rfl⟩
theorem xk_142_123 : xk_OkA xp_F (xp_P sc) xp_cl xp_BW xp_NW xp_SW xp_exn 142 123 (.aload 0) := Or.inr ⟨0, rfl, xd_142_219, rfl⟩
theorem xk_142_124 : xk_OkA xp_F (xp_P sc) xp_cl xp_BW xp_NW xp_SW xp_exn 142 124 (.getfield 135) := ⟨_, xd_142_220, rfl, ⟨_, _, _, rfl, by decide, xu_4, Or.inl xwt_761⟩⟩
theorem xk_142_125 : xk_OkA xp_F (xp_P sc) xp_cl xp_BW xp_NW xp_SW xp_exn 142 125 (.iload 2) := Or.inr ⟨2, rfl, xd_142_223, rfl⟩
theorem xk_142_126 : xk_OkA xp_F (xp_P sc) xp_cl xp_BW xp_NW xp_SW xp_exn 142 126 (.iload 4) := Or.inl ⟨xd_142_224, rfl⟩
theorem xk_142_127 : xk_OkA xp_F (xp_P sc) xp_cl xp_BW xp_NW xp_SW xp_exn 142 127 (.iadd) := ⟨xd_142_226, rfl⟩
theorem xk_142_128 : xk_OkA xp_F (xp_P sc) xp_cl xp_BW xp_NW xp_SW xp_exn 142 128 (.iaload) := ⟨xd_142_227, rfl⟩
theorem xk_142_129 : xk_OkA xp_F (xp_P sc) xp_cl xp_BW xp_NW xp_SW xp_exn 142 129 (.iload 5) := Or.inl ⟨xd_142_228, rfl⟩
theorem xk_142_130 : xk_OkA xp_F (xp_P sc) xp_cl xp_BW xp_NW xp_SW xp_exn 142 130 (.aload 0) := Or.inr ⟨0, rfl, xd_142_230, rfl⟩
theorem xk_142_131 : xk_OkA xp_F (xp_P sc) xp_cl xp_BW xp_NW xp_SW xp_exn 142 131 (.aload 0) := Or.inr ⟨0, rfl, xd_142_231, rfl⟩
theorem xk_142_132 : xk_OkA xp_F (xp_P sc) xp_cl xp_BW xp_NW xp_SW xp_exn 142 132 (.getfield 134) := ⟨_, xd_142_232, rfl, ⟨_, _, _, rfl, by decide, xu_4, Or.inl xwt_760⟩⟩
theorem xk_142_133 : xk_OkA xp_F (xp_P sc) xp_cl xp_BW xp_NW xp_SW xp_exn 142 133 (.iload 2) := Or.inr ⟨2, rfl, xd_142_235, rfl⟩
theorem xk_142_134 : xk_OkA xp_F (xp_P sc) xp_cl xp_BW xp_NW xp_SW xp_exn 142 134 (.iload 4) := Or.inl ⟨xd_142_236, rfl⟩
theorem xk_142_135 : xk_OkA xp_F (xp_P sc) xp_cl xp_BW xp_NW xp_SW xp_exn 142 135 (.invokeinterface 141 1) := ⟨rfl, Or.inl ⟨xwt_925, rfl⟩, rfl, rfl, xwt_5, by decide +kernel, by decide +kernel, Nat.le_of_ble_eq_true rfl, _, Or.inl xwt_923, Or.inl ⟨xd_142_238, xwt_924, rfl, by decide +kernel⟩⟩
theorem xk_142_136 : xk_OkA xp_F (xp_P sc) xp_cl xp_BW xp_NW xp_SW xp_exn 142 136 (.iadd) := ⟨xd_142_241, rfl⟩
theorem xk_142_137 : xk_OkA xp_F (xp_P sc) xp_cl xp_BW xp_NW xp_SW xp_exn 142 137 (.iaload) := ⟨xd_142_242, rfl⟩
theorem xk_142_138 : xk_OkA xp_F (xp_P sc) xp_cl xp_BW xp_NW xp_SW xp_exn 142 138 (.iload 5) := Or.inl ⟨xd_142_243, rfl⟩
theorem xk_142_139 : xk_OkA xp_F (xp_P sc) xp_cl xp_BW xp_NW xp_SW xp_exn 142 139 (.invokeinterface 111 3) := ⟨rfl, Or.inl ⟨xwt_929, rfl⟩, rfl, rfl, xwt_5, by decide +kernel, by decide +kernel, Nat.le_of_ble_eq_true rfl, _, Or.inl xwt_926, Or.inr ⟨xd_142_245, xwt_928, xws_95, ⟨_, _, _, rfl, rfl⟩, by decide +kernel⟩⟩
theorem xk_142_140 : xk_OkA xp_F (xp_P sc) xp_cl xp_BW xp_NW xp_SW xp_exn 142 140 (.invokeinterface 110 4) := ⟨rfl, Or.inl ⟨xwt_902, rfl⟩, rfl, rfl, xwt_5, by decide +kernel, by decide +kernel, Nat.le_of_ble_eq_true rfl, _, Or.inl xwt_899, Or.inr ⟨xd_142_248, xwt_901, xws_93, ⟨_, _, _, rfl, rfl⟩, by decide +kernel⟩⟩
theorem xk_142_141 : xk_OkA xp_F (xp_P sc) xp_cl xp_BW xp_NW xp_SW xp_exn 142 141 (.iinc 5 (1)) := ⟨xd_142_251, rfl⟩
theorem xk_142_142 : xk_OkA xp_F (xp_P sc) xp_cl xp_BW xp_NW xp_SW xp_exn 142 142 (.goto 106) := ⟨_, xd_142_254, by unfold xf_to; decide +kernel⟩
theorem xk_142_143 : xk_OkA xp_F (xp_P sc) xp_cl xp_BW xp_NW xp_SW xp_exn 142 143 (.iinc 4 (1)) := ⟨xd_142_257, rfl⟩
theorem xk_142_144 : xk_OkA xp_F (xp_P sc) xp_cl xp_BW xp_NW xp_SW xp_exn 142 144 (.goto 101) := ⟨_, xd_142_260, by unfold xf_to; decide +kernel⟩
theorem xk_142_145 : xk_OkA xp_F (xp_P sc) xp_cl xp_BW xp_NW xp_SW xp_exn 142 145 (.aload 0) := Or.inr ⟨0, rfl, xd_142_263, rfl⟩
theorem xk_142_146 : xk_OkA xp_F (xp_P sc) xp_cl xp_BW xp_NW xp_SW xp_exn 142 146 (.invokeinterface 123 1) := ⟨rfl, Or.inl ⟨xwt_816, rfl⟩, rfl, rfl, xwt_5, by decide +kernel, by decide +kernel, Nat.le_of_ble_eq_true rfl, _, Or.inl xwt_813, Or.inr ⟨xd_142_264, xwt_815, xws_79, ⟨_, _, _, rfl, rfl⟩, by decide +kernel⟩⟩
theorem xk_142_147 : xk_OkA xp_F (xp_P sc) xp_cl xp_BW xp_NW xp_SW xp_exn 142 147 (.aload 0) := Or.inr ⟨0, rfl, xd_142_267, rfl⟩
theorem xk_142_148 : xk_OkA xp_F (xp_P sc) xp_cl xp_BW xp_NW xp_SW xp_exn 142 148 (.iload 3) := Or.inr ⟨3, rfl, xd_142_268, rfl⟩
theorem xk_142_149 : xk_OkA xp_F (xp_P sc) xp_cl xp_BW xp_NW xp_SW xp_exn 142 149 (.invokeinterface 124 2) := ⟨rfl, Or.inl ⟨xwt_836, rfl⟩, rfl, rfl, xwt_5, by decide +kernel, by decide +kernel, Nat.le_of_ble_eq_true rfl, _, Or.inl xwt_833, Or.inr ⟨xd_142_269, xwt_835, xws_84, ⟨_, _, _, rfl, rfl⟩, by decide +kernel⟩⟩
theorem xk_142_150 : xk_OkA xp_F (xp_P sc) xp_cl xp_BW xp_NW xp_SW xp_exn 142 150 (.ireturn) := ⟨xd_142_272, rfl⟩
theorem xl_142 : xk_OkL xp_F (xp_P sc) xp_cl xp_BW xp_NW xp_SW xp_exn 142 0 xc_142 := ⟨xk_142_0, xk_142_1, xk_142_2, xk_142_3, xk_142_4, xk_142_5, xk_142_6, xk_142_7, xk_142_8, xk_142_9, xk_142_10, xk_142_11, xk_142_12, xk_142_13, xk_142_14, xk_142_15, xk_142_16, xk_142_17, xk_142_18, xk_142_19, xk_142_20, xk_142_21, xk_142_22, xk_142_23, xk_142_24, xk_142_25, xk_142_26, xk_142_27, xk_142_28, xk_142_29, xk_142_30, xk_142_31, xk_142_32, xk_142_33, xk_142_34, xk_142_35, xk_142_36, xk_142_37, xk_142_38, xk_142_39, xk_142_40, xk_142_41, xk_142_42, xk_142_43, xk_142_44, xk_142_45, xk_142_46, xk_142_47, xk_142_48, xk_142_49, xk_142_50, xk_142_51, xk_142_52, xk_142_53, xk_142_54, xk_142_55, xk_142_56, xk_142_57, xk_142_58, xk_142_59, xk_142_60, xk_142_61, xk_142_62, xk_142_63, xk_142_64, xk_142_65, xk_142_66, xk_142_67, xk_142_68, xk_142_69, xk_142_70, xk_142_71, xk_142_72, xk_142_73, xk_142_74, xk_142_75, xk_142_76, xk_142_77, xk_142_78, xk_142_79, xk_142_80, xk_142_81, xk_142_82, xk_142_83, xk_142_84, xk_142_85, xk_142_86, xk_142_87, xk_142_88, xk_142_89, xk_142_90, xk_142_91, xk_142_92, xk_142_93, xk_142_94, xk_142_95, xk_142_96, xk_142_97, xk_142_98, xk_142_99, xk_142_100, xk_142_101, xk_142_102, xk_142_103, xk_142_104, xk_142_105, xk_142_106, xk_142_107, xk_142_108, xk_142_109, xk_142_110, xk_142_111, xk_142_112, xk_142_113, xk_142_114, xk_142_115, xk_142_116, xk_142_117, xk_142_118, xk_142_119, xk_142_120, xk_142_121, xk_142_122, xk_142_123, xk_142_124, xk_142_125, xk_142_126, xk_142_127, xk_142_128, xk_142_129, xk_142_130, xk_142_131, xk_142_132, xk_142_133, xk_142_134, xk_142_135, xk_142_136, xk_142_137, xk_142_138, xk_142_139, xk_142_140, xk_142_141, xk_142_142, xk_142_143, xk_142_144, xk_142_145, xk_142_146, xk_142_147, xk_142_148, xk_142_149, xk_142_150, trivial⟩
theorem xd_143_0 : decode prog_6_method_38_code 0 = .ok (.iload_n 1, 1) := by decide +kernel
theorem xd_143_1 : decode prog_6_method_38_code 1 = .ok (.ifCond .le 21, 3) := by decide +kernel
theorem xd_143_4 : decode prog_6_method_38_code 4 = .ok (.aload_n 0, 1) := by decide +kernel
theorem xd_143_5 : decode prog_6_method_38_code 5 = .ok (.getfield 7, 3) := by decide +kernel
theorem xd_143_8 : decode prog_6_method_38_code 8 = .ok (.iload_n 1, 1) := by decide +kernel
theorem xd_143_9 : decode prog_6_method_38_code 9 = .ok (.iconst 1, 1) := by decide +kernel
theorem xd_143_10 : decode prog_6_method_38_code 10 = .ok (.isub, 1) := by decide +kernel
theorem xd_143_11 : decode prog_6_method_38_code 11 = .ok (.bipush 8, 2) := by decide +kernel
theorem xd_143_13 : decode prog_6_method_38_code 13 = .ok (.idiv, 1) := by decide +kernel
theorem xd_143_14 : decode prog_6_method_38_code 14 = .ok (.baload, 1) := by decide +kernel
theorem xd_143_15 : decode prog_6_method_38_code 15 = .ok (.ifCond .eq 7, 3) := by decide +kernel
theorem xd_143_18 : decode prog_6_method_38_code 18 = .ok (.iconst 1, 1) := by decide +kernel
theorem xd_143_19 : decode prog_6_method_38_code 19 = .ok (.goto 4, 3) := by decide +kernel
theorem xd_143_22 : decode prog_6_method_38_code 22 = .ok (.iconst 0, 1) := by decide +kernel
theorem xd_143_23 : decode prog_6_method_38_code 23 = .ok (.ireturn, 1) := by decide +kernel
theorem xk_143_0 : xk_OkA xp_F (xp_P sc) xp_cl xp_BW xp_NW xp_SW xp_exn 143 0 (.iload 1) := Or.inr ⟨1, rfl, xd_143_0, rfl⟩
theorem xk_143_1 : xk_OkA xp_F (xp_P sc) xp_cl xp_BW xp_NW xp_SW xp_exn 143 1 (.ifCond .le 13) := ⟨_, xd_143_1, by unfold xf_to; decide +kernel, rfl⟩
theorem xk_143_2 : xk_OkA xp_F (xp_P sc) xp_cl xp_BW xp_NW xp_SW xp_exn 143 2 (.aload 0) := Or.inr ⟨0, rfl, xd_143_4, rfl⟩
theorem xk_143_3 : xk_OkA xp_F (xp_P sc) xp_cl xp_BW xp_NW xp_SW xp_exn 143 3 (.getfield 129) := ⟨_, xd_143_5, rfl, ⟨_, _, _, rfl, by decide, xu_4, Or.inl xwt_755⟩⟩
theorem xk_143_4 : xk_OkA xp_F (xp_P sc) xp_cl xp_BW xp_NW xp_SW xp_exn 143 4 (.iload 1) := Or.inr ⟨1, rfl, xd_143_8, rfl⟩
theorem xk_143_5 : xk_OkA xp_F (xp_P sc) xp_cl xp_BW xp_NW xp_SW xp_exn 143 5 (.iconst 1) := Or.inl ⟨xd_143_9, rfl⟩
theorem xk_143_6 : xk_OkA xp_F (xp_P sc) xp_cl xp_BW xp_NW xp_SW xp_exn 143 6 (.isub) := ⟨xd_143_10, rfl⟩
theorem xk_143_7 : xk_OkA xp_F (xp_P sc) xp_cl xp_BW xp_NW xp_SW xp_exn 143 7 (.iconst 8) := Or.inr (Or.inl ⟨xd_143_11, by decide +kernel, rfl⟩)
theorem xk_143_8 : xk_OkA xp_F (xp_P sc) xp_cl xp_BW xp_NW xp_SW xp_exn 143 8 (.idiv) := ⟨xd_143_13, rfl⟩
theorem xk_143_9 : xk_OkA xp_F (xp_P sc) xp_cl xp_BW xp_NW xp_SW xp_exn 143 9 (.baload) := ⟨xd_143_14, rfl⟩
theorem xk_143_10 : xk_OkA xp_F (xp_P sc) xp_cl xp_BW xp_NW xp_SW xp_exn 143 10 (.ifCond .eq 13) := ⟨_, xd_143_15, by unfold xf_to; decide +kernel, rfl⟩
theorem xk_143_11 : xk_OkA xp_F (xp_P sc) xp_cl xp_BW xp_NW xp_SW xp_exn 143 11 (.iconst 1) := Or.inl ⟨xd_143_18, rfl⟩
theorem xk_143_12 : xk_OkA xp_F (xp_P sc) xp_cl xp_BW xp_NW xp_SW xp_exn 143 12 (.goto 14) := ⟨_, xd_143_19, by unfold xf_to; decide +kernel⟩
theorem xk_143_13 : xk_OkA xp_F (xp_P sc) xp_cl xp_BW xp_NW xp_SW xp_exn 143 13 (.iconst 0) := Or.inl ⟨xd_143_22, rfl⟩
theorem xk_143_14 : xk_OkA xp_F (xp_P sc) xp_cl xp_BW xp_NW xp_SW xp_exn 143 14 (.freturn) := ⟨xd_143_23, rfl⟩
theorem xl_143 : xk_OkL xp_F (xp_P sc) xp_cl xp_BW xp_NW xp_SW xp_exn 143 0 xc_143 := ⟨xk_143_0, xk_143_1, xk_143_2, xk_143_3, xk_143_4, xk_143_5, xk_143_6, xk_143_7, xk_143_8, xk_143_9, xk_143_10, xk_143_11, xk_143_12, xk_143_13, xk_143_14, trivial⟩
theorem xd_144_0 : decode prog_6_method_39_code 0 = .ok (.aload_n 0, 1) := by decide +kernel
theorem xd_144_1 : decode prog_6_method_39_code 1 = .ok (.getfield 28, 3) := by decide +kernel
theorem xd_144_4 : decode prog_6_method_39_code 4 = .ok (.iload_n 1, 1) := by decide +kernel
theorem xd_144_5 : decode prog_6_method_39_code 5 = .ok (.invokestatic 79, 3) := by decide +kernel
theorem xd_144_8 : decode prog_6_method_39_code 8 = .ok (.istore_n 3, 1) := by decide +kernel
theorem xd_144_9 : decode prog_6_method_39_code 9 = .ok (.iload_n 3, 1) := by decide +kernel
theorem xd_144_10 : decode prog_6_method_39_code 10 = .ok (.iload_n 2, 1) := by decide +kernel
theorem xd_144_11 : decode prog_6_method_39_code 11 = .ok (.iconst 4, 1) := by decide +kernel
theorem xd_144_12 : decode prog_6_method_39_code 12 = .ok (.iload_n 3, 1) := by decide +kernel
theorem xd_144_13 : decode prog_6_method_39_code 13 = .ok (.imul, 1) := by decide +kernel
theorem xd_144_14 : decode prog_6_method_39_code 14 = .ok (.idiv, 1) := by decide +kernel
theorem xd_144_15 : decode prog_6_method_39_code 15 = .ok (.imul, 1) := by decide +kernel
theorem xd_144_16 : decode prog_6_method_39_code 16 = .ok (.iload_n 2, 1) := by decide +kernel
theorem xd_144_17 : decode prog_6_method_39_code 17 = .ok (.iload_n 3, 1) := by decide +kernel
theorem xd_144_18 : decode prog_6_method_39_code 18 = .ok (.irem, 1) := by decide +kernel
theorem xd_144_19 : decode prog_6_method_39_code 19 = .ok (.iadd, 1) := by decide +kernel
theorem xd_144_20 : decode prog_6_method_39_code 20 = .ok (.ireturn, 1) := by decide +kernel
theorem xk_144_0 : xk_OkA xp_F (xp_P sc) xp_cl xp_BW xp_NW xp_SW xp_exn 144 0 (.aload 0) := Or.inr ⟨0, rfl, xd_144_0, rfl⟩
theorem xk_144_1 : xk_OkA xp_F (xp_P sc) xp_cl xp_BW xp_NW xp_SW xp_exn 144 1 (.getfield 134) := ⟨_, xd_144_1, rfl, ⟨_, _, _, rfl, by decide, xu_4, Or.inl xwt_760⟩⟩
theorem xk_144_2 : xk_OkA xp_F (xp_P sc) xp_cl xp_BW xp_NW xp_SW xp_exn 144 2 (.iload 1) := Or.inr ⟨1, rfl, xd_144_4, rfl⟩
theorem xk_144_3 : xk_OkA xp_F (xp_P sc) xp_cl xp_BW xp_NW xp_SW xp_exn 144 3 (.invokeinterface 113 2) := ⟨rfl, Or.inl ⟨xwt_883, rfl⟩, rfl, rfl, xwt_5, by decide +kernel, by decide +kernel, Nat.le_of_ble_eq_true rfl, _, Or.inl xwt_881, Or.inl ⟨xd_144_5, xwt_882, rfl, by decide +kernel⟩⟩
theorem xk_144_4 : xk_OkA xp_F (xp_P sc) xp_cl xp_BW xp_NW xp_SW xp_exn 144 4 (.istore 3) := Or.inr ⟨3, rfl, xd_144_8, rfl⟩
theorem xk_144_5 : xk_OkA xp_F (xp_P sc) xp_cl xp_BW xp_NW xp_SW xp_exn 144 5 (.iload 3) := Or.inr ⟨3, rfl, xd_144_9, rfl⟩
theorem xk_144_6 : xk_OkA xp_F (xp_P sc) xp_cl xp_BW xp_NW xp_SW xp_exn 144 6 (.iload 2) := Or.inr ⟨2, rfl, xd_144_10, rfl⟩
theorem xk_144_7 : xk_OkA xp_F (xp_P sc) xp_cl xp_BW xp_NW xp_SW xp_exn 144 7 (.iconst 4) := Or.inl ⟨xd_144_11, rfl⟩
theorem xk_144_8 : xk_OkA xp_F (xp_P sc) xp_cl xp_BW xp_NW xp_SW xp_exn 144 8 (.iload 3) := Or.inr ⟨3, rfl, xd_144_12, rfl⟩
theorem xk_144_9 : xk_OkA xp_F (xp_P sc) xp_cl xp_BW xp_NW xp_SW xp_exn 144 9 (.imul) := ⟨xd_144_13, rfl⟩
theorem xk_144_10 : xk_OkA xp_F (xp_P sc) xp_cl xp_BW xp_NW xp_SW xp_exn 144 10 (.idiv) := ⟨xd_144_14, rfl⟩
theorem xk_144_11 : xk_OkA xp_F (xp_P sc) xp_cl xp_BW xp_NW xp_SW xp_exn 144 11 (.imul) := ⟨xd_144_15, rfl⟩
theorem xk_144_12 : xk_OkA xp_F (xp_P sc) xp_cl xp_BW xp_NW xp_SW xp_exn 144 12 (.iload 2) := Or.inr ⟨2, rfl, xd_144_16, rfl⟩
theorem xk_144_13 : xk_OkA xp_F (xp_P sc) xp_cl xp_BW xp_NW xp_SW xp_exn 144 13 (.iload 3) := Or.inr ⟨3, rfl, xd_144_17, rfl⟩
theorem xk_144_14 : xk_OkA xp_F (xp_P sc) xp_cl xp_BW xp_NW xp_SW xp_exn 144 14 (.irem) := ⟨xd_144_18, rfl⟩
theorem xk_144_15 : xk_OkA xp_F (xp_P sc) xp_cl xp_BW xp_NW xp_SW xp_exn 144 15 (.iadd) := ⟨xd_144_19, rfl⟩
theorem xk_144_16 : xk_OkA xp_F (xp_P sc) xp_cl xp_BW xp_NW xp_SW xp_exn 144 16 (.ireturn) := ⟨xd_144_20, rfl⟩
theorem xl_144 : xk_OkL xp_F (xp_P sc) xp_cl xp_BW xp_NW xp_SW xp_exn 144 0 xc_144 := ⟨xk_144_0, xk_144_1, xk_144_2, xk_144_3, xk_144_4, xk_144_5, xk_144_6, xk_144_7, xk_144_8, xk_144_9, xk_144_10, xk_144_11, xk_144_12, xk_144_13, xk_144_14, xk_144_15, xk_144_16, trivial⟩
theorem xd_145_0 : decode prog_6_method_40_code 0 = .ok (.aload_n 0, 1) := by decide +kernel
theorem xd_145_1 : decode prog_6_method_40_code 1 = .ok (.getfield 28, 3) := by decide +kernel
theorem xd_145_4 : decode prog_6_method_40_code 4 = .ok (.iload_n 1, 1) := by decide +kernel
theorem xd_145_5 : decode prog_6_method_40_code 5 = .ok (.invokestatic 79, 3) := by decide +kernel
theorem xd_145_8 : decode prog_6_method_40_code 8 = .ok (.istore_n 3, 1) := by decide +kernel
theorem xd_145_9 : decode prog_6_method_40_code 9 = .ok (.iload_n 2, 1) := by decide +kernel
theorem xd_145_10 : decode prog_6_method_40_code 10 = .ok (.iconst 4, 1) := by decide +kernel
theorem xd_145_11 : decode prog_6_method_40_code 11 = .ok (.iload_n 3, 1) := by decide +kernel
theorem xd_145_12 : decode prog_6_method_40_code 12 = .ok (.imul, 1) := by decide +kernel
theorem xd_145_13 : decode prog_6_method_40_code 13 = .ok (.irem, 1) := by decide +kernel
theorem xd_145_14 : decode prog_6_method_40_code 14 = .ok (.iload_n 3, 1) := by decide +kernel
theorem xd_145_15 : decode prog_6_method_40_code 15 = .ok (.idiv, 1) := by decide +kernel
theorem xd_145_16 : decode prog_6_method_40_code 16 = .ok (.ireturn, 1) := by decide +kernel
theorem xk_145_0 : xk_OkA xp_F (xp_P sc) xp_cl xp_BW xp_NW xp_SW xp_exn 145 0 (.aload 0) := Or.inr ⟨0, rfl, xd_145_0, rfl⟩
theorem xk_145_1 : xk_OkA xp_F (xp_P sc) xp_cl xp_BW xp_NW xp_SW xp_exn 145 1 (.getfield 134) := ⟨_, xd_145_1, rfl, ⟨_, _, _, rfl, by decide, xu_4, Or.inl xwt_760⟩⟩
theorem xk_145_2 : xk_OkA xp_F (xp_P sc) xp_cl xp_BW xp_NW xp_SW xp_exn 145 2 (.iload 1) := Or.inr ⟨1, rfl, xd_145_4, rfl⟩
theorem xk_145_3 : xk_OkA xp_F (xp_P sc) xp_cl xp_BW xp_NW xp_SW xp_exn 145 3 (.invokeinterface 113 2) := ⟨rfl, Or.inl ⟨xwt_883, rfl⟩, rfl, rfl, xwt_5, by decide +kernel, by decide +kernel, Nat.le_of_ble_eq_true rfl, _, Or.inl xwt_881, Or.inl ⟨xd_145_5, xwt_882, rfl, by decide +kernel⟩⟩
theorem xk_145_4 : xk_OkA xp_F (xp_P sc) xp_cl xp_BW xp_NW xp_SW xp_exn 145 4 (.istore 3) := Or.inr ⟨3, rfl, xd_145_8, rfl⟩
theorem xk_145_5 : xk_OkA xp_F (xp_P sc) xp_cl xp_BW xp_NW xp_SW xp_exn 145 5 (.iload 2) := Or.inr ⟨2, rfl, xd_145_9, rfl⟩
theorem xk_145_6 : xk_OkA xp_F (xp_P sc) xp_cl xp_BW xp_NW xp_SW xp_exn 145 6 (.iconst 4) := Or.inl ⟨xd_145_10, rfl⟩
theorem xk_145_7 : xk_OkA xp_F (xp_P sc) xp_cl xp_BW xp_NW xp_SW xp_exn 145 7 (.iload 3) := Or.inr ⟨3, rfl, xd_145_11, rfl⟩
theorem xk_145_8 : xk_OkA xp_F (xp_P sc) xp_cl xp_BW xp_NW xp_SW xp_exn 145 8 (.imul) := ⟨xd_145_12, rfl⟩
theorem xk_145_9 : xk_OkA xp_F (xp_P sc) xp_cl xp_BW xp_NW xp_SW xp_exn 145 9 (.irem) := ⟨xd_145_13, rfl⟩
theorem xk_145_10 : xk_OkA xp_F (xp_P sc) xp_cl xp_BW xp_NW xp_SW xp_exn 145 10 (.iload 3) := Or.inr ⟨3, rfl, xd_145_14, rfl⟩
theorem xk_145_11 : xk_OkA xp_F (xp_P sc) xp_cl xp_BW xp_NW xp_SW xp_exn 145 11 (.idiv) := ⟨xd_145_15, rfl⟩
theorem xk_145_12 : xk_OkA xp_F (xp_P sc) xp_cl xp_BW xp_NW xp_SW xp_exn 145 12 (.ireturn) := ⟨xd_145_16, rfl⟩
theorem xl_145 : xk_OkL xp_F (xp_P sc) xp_cl xp_BW xp_NW xp_SW xp_exn 145 0 xc_145 := ⟨xk_145_0, xk_145_1, xk_145_2, xk_145_3, xk_145_4, xk_145_5, xk_145_6, xk_145_7, xk_145_8, xk_145_9, xk_145_10, xk_145_11, xk_145_12, trivial⟩
theorem xd_146_0 : decode prog_6_method_41_code 0 = .ok (.aload_n 0, 1) := by decide +kernel
theorem xd_146_1 : decode prog_6_method_41_code 1 = .ok (.aload_n 0, 1) := by decide +kernel
theorem xd_146_2 : decode prog_6_method_41_code 2 = .ok (.getfield 20, 3) := by decide +kernel
theorem xd_146_5 : decode prog_6_method_41_code 5 = .ok (.ifCond .ne 7, 3) := by decide +kernel
theorem xd_146_8 : decode prog_6_method_41_code 8 = .ok (.iconst 1, 1) := by decide +kernel
theorem xd_146_9 : decode prog_6_method_41_code 9 = .ok (.goto 38, 3) := by decide +kernel
theorem xd_146_12 : decode prog_6_method_41_code 12 = .ok (.aload_n 0, 1) := by decide +kernel
theorem xd_146_13 : decode prog_6_method_41_code 13 = .ok (.iload_n 1, 1) := by decide +kernel
theorem xd_146_14 : decode prog_6_method_41_code 14 = .ok (.invokevirtual 134, 3) := by decide +kernel
theorem xd_146_17 : decode prog_6_method_41_code 17 = .ok (.ifCond .ne 7, 3) := by decide +kernel
theorem xd_146_20 : decode prog_6_method_41_code 20 = .ok (.iconst 2, 1) := by decide +kernel
theorem xd_146_21 : decode prog_6_method_41_code 21 = .ok (.goto 26, 3) := by decide +kernel
theorem xd_146_24 : decode prog_6_method_41_code 24 = .ok (.iload_n 2, 1) := by decide +kernel
theorem xd_146_25 : decode prog_6_method_41_code 25 = .ok (.ifCond .lt 17, 3) := by decide +kernel
theorem xd_146_28 : decode prog_6_method_41_code 28 = .ok (.iload_n 2, 1) := by decide +kernel
theorem xd_146_29 : decode prog_6_method_41_code 29 = .ok (.iconst 4, 1) := by decide +kernel
theorem xd_146_30 : decode prog_6_method_41_code 30 = .ok (.aload_n 0, 1) := by decide +kernel
theorem xd_146_31 : decode prog_6_method_41_code 31 = .ok (.getfield 28, 3) := by decide +kernel
theorem xd_146_34 : decode prog_6_method_41_code 34 = .ok (.iload_n 1, 1) := by decide +kernel
theorem xd_146_35 : decode prog_6_method_41_code 35 = .ok (.invokestatic 86, 3) := by decide +kernel
theorem xd_146_38 : decode prog_6_method_41_code 38 = .ok (.imul, 1) := by decide +kernel
theorem xd_146_39 : decode prog_6_method_41_code 39 = .ok (.if_icmp .lt 7, 3) := by decide +kernel
theorem xd_146_42 : decode prog_6_method_41_code 42 = .ok (.iconst 3, 1) := by decide +kernel
theorem xd_146_43 : decode prog_6_method_41_code 43 = .ok (.goto 4, 3) := by decide +kernel
theorem xd_146_46 : decode prog_6_method_41_code 46 = .ok (.iconst 0, 1) := by decide +kernel
theorem xd_146_47 : decode prog_6_method_41_code 47 = .ok (.putfield 37, 3) := by decide +kernel
theorem xd_146_50 : decode prog_6_method_41_code 50 = .ok (.aload_n 0, 1) := by decide +kernel
theorem xd_146_51 : decode prog_6_method_41_code 51 = .ok (.getfield 37, 3) := by decide +kernel
theorem xd_146_54 : decode prog_6_method_41_code 54 = .ok (.ifCond .le 5, 3) := by decide +kernel
theorem xd_146_57 : decode prog_6_method_41_code 57 = .ok (.iconst 0, 1) := by decide +kernel
theorem xd_146_58 : decode prog_6_method_41_code 58 = .ok (.ireturn, 1) := by decide +kernel
theorem xd_146_59 : decode prog_6_method_41_code 59 = .ok (.bipush 9, 2) := by decide +kernel
theorem xd_146_61 : decode prog_6_method_41_code 61 = .ok (.bipush 10, 2) := by decide +kernel
theorem xd_146_63 : decode prog_6_method_41_code 63 = .ok (.iload_n 1, 1) := by decide +kernel
theorem xd_146_64 : decode prog_6_method_41_code 64 = .ok (.imul, 1) := by decide +kernel
theorem xd_146_65 : decode prog_6_method_41_code 65 = .ok (.iadd, 1) := by decide +kernel
theorem xd_146_66 : decode prog_6_method_41_code 66 = .ok (.iconst 2, 1) := by decide +kernel
theorem xd_146_67 : decode prog_6_method_41_code 67 = .ok (.aload_n 0, 1) := by decide +kernel
theorem xd_146_68 : decode prog_6_method_41_code 68 = .ok (.iload_n 1, 1) := by decide +kernel
theorem xd_146_69 : decode prog_6_method_41_code 69 = .ok (.iload_n 2, 1) := by decide +kernel
theorem xd_146_70 : decode prog_6_method_41_code 70 = .ok (.invokevirtual 143, 3) := by decide +kernel
theorem xd_146_73 : decode prog_6_method_41_code 73 = .ok (.imul, 1) := by decide +kernel
theorem xd_146_74 : decode prog_6_method_41_code 74 = .ok (.iadd, 1) := by decide +kernel
theorem xd_146_75 : decode prog_6_method_41_code 75 = .ok (.istore 4, 2) := by decide +kernel
theorem xd_146_77 : decode prog_6_method_41_code 77 = .ok (.aload_n 0, 1) := by decide +kernel
theorem xd_146_78 : decode prog_6_method_41_code 78 = .ok (.aload_n 0, 1) := by decide +kernel
theorem xd_146_79 : decode prog_6_method_41_code 79 = .ok (.getfield 28, 3) := by decide +kernel
theorem xd_146_82 : decode prog_6_method_41_code 82 = .ok (.iload 4, 2) := by decide +kernel
theorem xd_146_84 : decode prog_6_method_41_code 84 = .ok (.iaload, 1) := by decide +kernel
theorem xd_146_85 : decode prog_6_method_41_code 85 = .ok (.invokevirtual 146, 3) := by decide +kernel
theorem xd_146_88 : decode prog_6_method_41_code 88 = .ok (.ifCond .eq 7, 3) := by decide +kernel
theorem xd_146_91 : decode prog_6_method_41_code 91 = .ok (.iconst 1, 1) := by decide +kernel
theorem xd_146_92 : decode prog_6_method_41_code 92 = .ok (.goto 4, 3) := by decide +kernel
theorem xd_146_95 : decode prog_6_method_41_code 95 = .ok (.iconst 0, 1) := by decide +kernel
theorem xd_146_96 : decode prog_6_method_41_code 96 = .ok (.aload_n 0, 1) := by decide +kernel
theorem xd_146_97 : decode prog_6_method_41_code 97 = .ok (.aload_n 0, 1) := by decide +kernel
theorem xd_146_98 : decode prog_6_method_41_code 98 = .ok (.getfield 28, 3) := by decide +kernel
theorem xd_146_101 : decode prog_6_method_41_code 101 = .ok (.iload 4, 2) := by decide +kernel
theorem xd_146_103 : decode prog_6_method_41_code 103 = .ok (.iconst 1, 1) := by decide +kernel
theorem xd_146_104 : decode prog_6_method_41_code 104 = .ok (.iadd, 1) := by decide +kernel
theorem xd_146_105 : decode prog_6_method_41_code 105 = .ok (.iaload, 1) := by decide +kernel
theorem xd_146_106 : decode prog_6_method_41_code 106 = .ok (.invokevirtual 146, 3) := by decide +kernel
theorem xd_146_109 : decode prog_6_method_41_code 109 = .ok (.ifCond .eq 7, 3) := by decide +kernel
theorem xd_146_112 : decode prog_6_method_41_code 112 = .ok (.iconst 1, 1) := by decide +kernel
theorem xd_146_113 : decode prog_6_method_41_code 113 = .ok (.goto 4, 3) := by decide +kernel
theorem xd_146_116 : decode prog_6_method_41_code 116 = .ok (.iconst 0, 1) := by decide +kernel
theorem xd_146_117 : decode prog_6_method_41_code 117 = .ok (.iadd, 1) := by decide +kernel
theorem xd_146_118 : decode prog_6_method_41_code 118 = .ok (.istore 5, 2) := by decide +kernel
theorem xd_146_120 : decode prog_6_method_41_code 120 = .ok (.iload 5, 2) := by decide +kernel
theorem xd_146_122 : decode prog_6_method_41_code 122 = .ok (.ifCond .ne 10, 3) := by decide +kernel
theorem xd_146_125 : decode prog_6_method_41_code 125 = .ok (.aload_n 0, 1) := by decide +kernel
theorem xd_146_126 : decode prog_6_method_41_code 126 = .ok (.iconst 4, 1) := by decide +kernel
theorem xd_146_127 : decode prog_6_method_41_code 127 = .ok (.putfield 37, 3) := by decide +kernel
theorem xd_146_130 : decode prog_6_method_41_code 130 = .ok (.iconst 0, 1) := by decide +kernel
theorem xd_146_131 : decode prog_6_method_41_code 131 = .ok (.ireturn, 1) := by decide +kernel
theorem xd_146_132 : decode prog_6_method_41_code 132 = .ok (.aload_n 0, 1) := by decide +kernel
theorem xd_146_133 : decode prog_6_method_41_code 133 = .ok (.aload_n 0, 1) := by decide +kernel
theorem xd_146_134 : decode prog_6_method_41_code 134 = .ok (.getfield 28, 3) := by decide +kernel
theorem xd_146_137 : decode prog_6_method_41_code 137 = .ok (.iload 4, 2) := by decide +kernel
theorem xd_146_139 : decode prog_6_method_41_code 139 = .ok (.iaload, 1) := by decide +kernel
theorem xd_146_140 : decode prog_6_method_41_code 140 = .ok (.invokevirtual 146, 3) := by decide +kernel
theorem xd_146_143 : decode prog_6_method_41_code 143 = .ok (.ifCond .eq 10, 3) := by decide +kernel
theorem xd_146_146 : decode prog_6_method_41_code 146 = .ok (.iload 4, 2) := by decide +kernel
theorem xd_146_148 : decode prog_6_method_41_code 148 = .ok (.iconst 1, 1) := by decide +kernel
theorem xd_146_149 : decode prog_6_method_41_code 149 = .ok (.iadd, 1) := by decide +kernel
theorem xd_146_150 : decode prog_6_method_41_code 150 = .ok (.goto 5, 3) := by decide +kernel
theorem xd_146_153 : decode prog_6_method_41_code 153 = .ok (.iload 4, 2) := by decide +kernel
theorem xd_146_155 : decode prog_6_method_41_code 155 = .ok (.istore 6, 2) := by decide +kernel
theorem xd_146_157 : decode prog_6_method_41_code 157 = .ok (.iload 5, 2) := by decide +kernel
theorem xd_146_159 : decode prog_6_method_41_code 159 = .ok (.iconst 1, 1) := by decide +kernel
theorem xd_146_160 : decode prog_6_method_41_code 160 = .ok (.if_icmp .ne 29, 3) := by decide +kernel
theorem xd_146_163 : decode prog_6_method_41_code 163 = .ok (.aload_n 0, 1) := by decide +kernel
theorem xd_146_164 : decode prog_6_method_41_code 164 = .ok (.getfield 28, 3) := by decide +kernel
theorem xd_146_167 : decode prog_6_method_41_code 167 = .ok (.iload 6, 2) := by decide +kernel
theorem xd_146_169 : decode prog_6_method_41_code 169 = .ok (.iaload, 1) := by decide +kernel
theorem xd_146_170 : decode prog_6_method_41_code 170 = .ok (.ifCond .le 19, 3) := by decide +kernel
theorem xd_146_173 : decode prog_6_method_41_code 173 = .ok (.aload_n 0, 1) := by decide +kernel
theorem xd_146_174 : decode prog_6_method_41_code 174 = .ok (.invokevirtual 107, 3) := by decide +kernel
theorem xd_146_177 : decode prog_6_method_41_code 177 = .ok (.aload_n 0, 1) := by decide +kernel
theorem xd_146_178 : decode prog_6_method_41_code 178 = .ok (.getfield 31, 3) := by decide +kernel
theorem xd_146_181 : decode prog_6_method_41_code 181 = .ok (.iload 6, 2) := by decide +kernel
theorem xd_146_183 : decode prog_6_method_41_code 183 = .ok (.iconst 0, 1) := by decide +kernel
theorem xd_146_184 : decode prog_6_method_41_code 184 = .ok (.iastore, 1) := by decide +kernel
theorem xd_146_185 : decode prog_6_method_41_code 185 = .ok (.aload_n 0, 1) := by decide +kernel
theorem xd_146_186 : decode prog_6_method_41_code 186 = .ok (.invokevirtual 110, 3) := by decide +kernel
theorem xd_146_189 : decode prog_6_method_41_code 189 = .ok (.aload_n 0, 1) := by decide +kernel
theorem xd_146_190 : decode prog_6_method_41_code 190 = .ok (.iload_n 1, 1) := by decide +kernel
theorem xd_146_191 : decode prog_6_method_41_code 191 = .ok (.iload_n 2, 1) := by decide +kernel
theorem xd_146_192 : decode prog_6_method_41_code 192 = .ok (.invokevirtual 149, 3) := by decide +kernel
theorem xd_146_195 : decode prog_6_method_41_code 195 = .ok (.istore 7, 2) := by decide +kernel
theorem xd_146_197 : decode prog_6_method_41_code 197 = .ok (.iload 4, 2) := by decide +kernel
theorem xd_146_199 : decode prog_6_method_41_code 199 = .ok (.istore 8, 2) := by decide +kernel
theorem xd_146_201 : decode prog_6_method_41_code 201 = .ok (.iload 8, 2) := by decide +kernel
theorem xd_146_203 : decode prog_6_method_41_code 203 = .ok (.iload 4, 2) := by decide +kernel
theorem xd_146_205 : decode prog_6_method_41_code 205 = .ok (.iconst 2, 1) := by decide +kernel
theorem xd_146_206 : decode prog_6_method_41_code 206 = .ok (.iadd, 1) := by decide +kernel
theorem xd_146_207 : decode prog_6_method_41_code 207 = .ok (.if_icmp .ge 118, 3) := by decide +kernel
theorem xd_146_210 : decode prog_6_method_41_code 210 = .ok (.aload_n 0, 1) := by decide +kernel
theorem xd_146_211 : decode prog_6_method_41_code 211 = .ok (.getfield 20, 3) := by decide +kernel
theorem xd_146_214 : decode prog_6_method_41_code 214 = .ok (.ifCond .eq 111, 3) := by decide +kernel
theorem xd_146_217 : decode prog_6_method_41_code 217 = .ok (.aload_n 0, 1) := by decide +kernel
theorem xd_146_218 : decode prog_6_method_41_code 218 = .ok (.getfield 28, 3) := by decide +kernel
theorem xd_146_221 : decode prog_6_method_41_code 221 = .ok (.iload 8, 2) := by decide +kernel
theorem xd_146_223 : decode prog_6_method_41_code 223 = .ok (.iaload, 1) := by decide +kernel
theorem xd_146_224 : decode prog_6_method_41_code 224 = .ok (.ifCond .le 7, 3) := by decide +kernel
theorem xd_146_227 : decode prog_6_method_41_code 227 = .ok (.iconst 1, 1) := by decide +kernel
theorem xd_146_228 : decode prog_6_method_41_code 228 = .ok (.goto 4, 3) := by decide +kernel
theorem xd_146_231 : decode prog_6_method_41_code 231 = .ok (.iconst 0, 1) := by decide +kernel
theorem xd_146_232 : decode prog_6_method_41_code 232 = .ok (.istore 9, 2) := by decide +kernel
theorem xd_146_234 : decode prog_6_method_41_code 234 = .ok (.iload 9, 2) := by decide +kernel
theorem xd_146_236 : decode prog_6_method_41_code 236 = .ok (.ifCond .eq 17, 3) := by decide +kernel
theorem xd_146_239 : decode prog_6_method_41_code 239 = .ok (.aload_n 0, 1) := by decide +kernel
theorem xd_146_240 : decode prog_6_method_41_code 240 = .ok (.aload_n 0, 1) := by decide +kernel
theorem xd_146_241 : decode prog_6_method_41_code 241 = .ok (.getfield 28, 3) := by decide +kernel
theorem xd_146_244 : decode prog_6_method_41_code 244 = .ok (.iload 8, 2) := by decide +kernel
theorem xd_146_246 : decode prog_6_method_41_code 246 = .ok (.iaload, 1) := by decide +kernel
theorem xd_146_247 : decode prog_6_method_41_code 247 = .ok (.iload 7, 2) := by decide +kernel
theorem xd_146_249 : decode prog_6_method_41_code 249 = .ok (.iload_n 3, 1) := by decide +kernel
theorem xd_146_250 : decode prog_6_method_41_code 250 = .ok (.invokevirtual 99, 3) := by decide +kernel
theorem xd_146_253 : decode prog_6_method_41_code 253 = .ok (.iload 9, 2) := by decide +kernel
theorem xd_146_255 : decode prog_6_method_41_code 255 = .ok (.ifCond .eq 64, 3) := by decide +kernel
theorem xd_146_258 : decode prog_6_method_41_code 258 = .ok (.aload_n 0, 1) := by decide +kernel
theorem xd_146_259 : decode prog_6_method_41_code 259 = .ok (.getfield 20, 3) := by decide +kernel
theorem xd_146_262 : decode prog_6_method_41_code 262 = .ok (.ifCond .eq 57, 3) := by decide +kernel
theorem xd_146_265 : decode prog_6_method_41_code 265 = .ok (.aload_n 0, 1) := by decide +kernel
theorem xd_146_266 : decode prog_6_method_41_code 266 = .ok (.getfield 34, 3) := by decide +kernel
theorem xd_146_269 : decode prog_6_method_41_code 269 = .ok (.ifCond .lt 50, 3) := by decide +kernel
theorem xd_146_272 : decode prog_6_method_41_code 272 = .ok (.aload_n 0, 1) := by decide +kernel
theorem xd_146_273 : decode prog_6_method_41_code 273 = .ok (.getfield 65, 3) := by decide +kernel
theorem xd_146_276 : decode prog_6_method_41_code 276 = .ok (.ifCond .le 43, 3) := by decide +kernel
theorem xd_146_279 : decode prog_6_method_41_code 279 = .ok (.iload 8, 2) := by decide +kernel
theorem xd_146_281 : decode prog_6_method_41_code 281 = .ok (.bipush 9, 2) := by decide +kernel
theorem xd_146_283 : decode prog_6_method_41_code 283 = .ok (.bipush 10, 2) := by decide +kernel
theorem xd_146_285 : decode prog_6_method_41_code 285 = .ok (.aload_n 0, 1) := by decide +kernel
theorem xd_146_286 : decode prog_6_method_41_code 286 = .ok (.getfield 59, 3) := by decide +kernel
theorem xd_146_289 : decode prog_6_method_41_code 289 = .ok (.imul, 1) := by decide +kernel
theorem xd_146_290 : decode prog_6_method_41_code 290 = .ok (.iadd, 1) := by decide +kernel
theorem xd_146_291 : decode prog_6_method_41_code 291 = .ok (.aload_n 0, 1) := by decide +kernel
theorem xd_146_292 : decode prog_6_method_41_code 292 = .ok (.getfield 62, 3) := by decide +kernel
theorem xd_146_295 : decode prog_6_method_41_code 295 = .ok (.iadd, 1) := by decide +kernel
theorem xd_146_296 : decode prog_6_method_41_code 296 = .ok (.if_icmp .ne 23, 3) := by decide +kernel
theorem xd_146_299 : decode prog_6_method_41_code 299 = .ok (.iload 7, 2) := by decide +kernel
theorem xd_146_301 : decode prog_6_method_41_code 301 = .ok (.aload_n 0, 1) := by decide +kernel
theorem xd_146_302 : decode prog_6_method_41_code 302 = .ok (.getfield 152, 3) := by decide +kernel
theorem xd_146_305 : decode prog_6_method_41_code 305 = .ok (.if_icmp .ge 14, 3) := by decide +kernel
theorem xd_146_308 : decode prog_6_method_41_code 308 = .ok (.aload_n 0, 1) := by decide +kernel
theorem xd_146_309 : decode prog_6_method_41_code 309 = .ok (.aload_n 0, 1) := by decide +kernel
theorem xd_146_310 : decode prog_6_method_41_code 310 = .ok (.getfield 65, 3) := by decide +kernel
theorem xd_146_313 : decode prog_6_method_41_code 313 = .ok (.iload 7, 2) := by decide +kernel
theorem xd_146_315 : decode prog_6_method_41_code 315 = .ok (.iload_n 3, 1) := by decide +kernel
theorem xd_146_316 : decode prog_6_method_41_code 316 = .ok (.invokevirtual 99, 3) := by decide +kernel
theorem xd_146_319 : decode prog_6_method_41_code 319 = .ok (.iinc 8 (1), 3) := by decide +kernel
theorem xd_146_322 : decode prog_6_method_41_code 322 = .ok (.goto (-121), 3) := by decide +kernel
theorem xd_146_325 : decode prog_6_method_41_code 325 = .ok (.aload_n 0, 1) := by decide +kernel
theorem xd_146_326 : decode prog_6_method_41_code 326 = .ok (.iload 5, 2) := by decide +kernel
theorem xd_146_328 : decode prog_6_method_41_code 328 = .ok (.invokevirtual 113, 3) := by decide +kernel
theorem xd_146_331 : decode prog_6_method_41_code 331 = .ok (.ireturn, 1) := by decide +kernel
theorem xk_146_0 : xk_OkA xp_F (xp_P sc) xp_cl xp_BW xp_NW xp_SW xp_exn 146 0 (.aload 0) := Or.inr ⟨0, rfl, xd_146_0, rfl⟩
theorem xk_146_1 : xk_OkA xp_F (xp_P sc) xp_cl xp_BW xp_NW xp_SW xp_exn 146 1 (.aload 0) := Or.inr ⟨0, rfl, xd_146_1, rfl⟩
theorem xk_146_2 : xk_OkA xp_F (xp_P sc) xp_cl xp_BW xp_NW xp_SW xp_exn 146 2 (.getfield 132) := ⟨_, xd_146_2, rfl, ⟨_, _, _, rfl, by decide, xu_4, Or.inl xwt_758⟩⟩
theorem xk_146_3 : xk_OkA xp_F (xp_P sc) xp_cl xp_BW xp_NW xp_SW xp_exn 146 3 (.ifCond .ne 6) := ⟨_, xd_146_5, by unfold xf_to; decide +kernel, rfl⟩
theorem xk_146_4 : xk_OkA xp_F (xp_P sc) xp_cl xp_BW xp_NW xp_SW xp_exn 146 4 (.iconst 1) := Or.inl ⟨xd_146_8, rfl⟩
theorem xk_146_5 : xk_OkA xp_F (xp_P sc) xp_cl xp_BW xp_NW xp_SW xp_exn 146 5 (.goto 25) := ⟨_, xd_146_9, by unfold xf_to; decide +kernel⟩
theorem xk_146_6 : xk_OkA xp_F (xp_P sc) xp_cl xp_BW xp_NW xp_SW xp_exn 146 6 (.aload 0) := Or.inr ⟨0, rfl, xd_146_12, rfl⟩
theorem xk_146_7 : xk_OkA xp_F (xp_P sc) xp_cl xp_BW xp_NW xp_SW xp_exn 146 7 (.iload 1) := Or.inr ⟨1, rfl, xd_146_13, rfl⟩
theorem xk_146_8 : xk_OkA xp_F (xp_P sc) xp_cl xp_BW xp_NW xp_SW xp_exn 146 8 (.invokeinterface 115 2) := ⟨rfl, Or.inl ⟨xwt_910, rfl⟩, rfl, rfl, xwt_5, by decide +kernel, by decide +kernel, Nat.le_of_ble_eq_true rfl, _, Or.inl xwt_907, Or.inr ⟨xd_146_14, xwt_909, xws_94, ⟨_, _, _, rfl, rfl⟩, by decide +kernel⟩⟩
theorem xk_146_9 : xk_OkA xp_F (xp_P sc) xp_cl xp_BW xp_NW xp_SW xp_exn 146 9 (.ifCond .ne 12) := ⟨_, xd_146_17, by unfold xf_to; decide +kernel, rfl⟩
theorem xk_146_10 : xk_OkA xp_F (xp_P sc) xp_cl xp_BW xp_NW xp_SW xp_exn 146 10 (.iconst 2) := Or.inl ⟨xd_146_20, rfl⟩
theorem xk_146_11 : xk_OkA xp_F (xp_P sc) xp_cl xp_BW xp_NW xp_SW xp_exn 146 11 (.goto 25) := ⟨_, xd_146_21, by unfold xf_to; decide +kernel⟩
theorem xk_146_12 : xk_OkA xp_F (xp_P sc) xp_cl xp_BW xp_NW xp_SW xp_exn 146 12 (.iload 2) := Or.inr ⟨2, rfl, xd_146_24, rfl⟩
theorem xk_146_13 : xk_OkA xp_F (xp_P sc) xp_cl xp_BW xp_NW xp_SW xp_exn 146 13 (.ifCond .lt 22) := ⟨_, xd_146_25, by unfold xf_to; decide +kernel, rfl⟩
theorem xk_146_14 : xk_OkA xp_F (xp_P sc) xp_cl xp_BW xp_NW xp_SW xp_exn 146 14 (.iload 2) := Or.inr ⟨2, rfl, xd_146_28, rfl⟩
theorem xk_146_15 : xk_OkA xp_F (xp_P sc) xp_cl xp_BW xp_NW xp_SW xp_exn 146 15 (.iconst 4) := Or.inl ⟨xd_146_29, rfl⟩
theorem xk_146_16 : xk_OkA xp_F (xp_P sc) xp_cl xp_BW xp_NW xp_SW xp_exn 146 16 (.aload 0) := Or.inr ⟨0, rfl, xd_146_30, rfl⟩
theorem xk_146_17 : xk_OkA xp_F (xp_P sc) xp_cl xp_BW xp_NW xp_SW xp_exn 146 17 (.getfield 134) := ⟨_, xd_146_31, rfl, ⟨_, _, _, rfl, by decide, xu_4, Or.inl xwt_760⟩⟩
theorem xk_146_18 : xk_OkA xp_F (xp_P sc) xp_cl xp_BW xp_NW xp_SW xp_exn 146 18 (.iload 1) := Or.inr ⟨1, rfl, xd_146_34, rfl⟩
theorem xk_146_19 : xk_OkA xp_F (xp_P sc) xp_cl xp_BW xp_NW xp_SW xp_exn 146 19 (.invokeinterface 114 2) := ⟨rfl, Or.inl ⟨xwt_866, rfl⟩, rfl, rfl, xwt_5, by decide +kernel, by decide +kernel, Nat.le_of_ble_eq_true rfl, _, Or.inl xwt_864, Or.inl ⟨xd_146_35, xwt_865, rfl, by decide +kernel⟩⟩
theorem xk_146_20 : xk_OkA xp_F (xp_P sc) xp_cl xp_BW xp_NW xp_SW xp_exn 146 20 (.imul) := ⟨xd_146_38, rfl⟩
theorem xk_146_21 : xk_OkA xp_F (xp_P sc) xp_cl xp_BW xp_NW xp_SW xp_exn 146 21 (.if_icmp .lt 24) := ⟨_, xd_146_39, by unfold xf_to; decide +kernel, rfl⟩
theorem xk_146_22 : xk_OkA xp_F (xp_P sc) xp_cl xp_BW xp_NW xp_SW xp_exn 146 22 (.iconst 3) := Or.inl ⟨xd_146_42, rfl⟩
theorem xk_146_23 : xk_OkA xp_F (xp_P sc) xp_cl xp_BW xp_NW xp_SW xp_exn 146 23 (.goto 25) := ⟨_, xd_146_43, by unfold xf_to; decide +kernel⟩
theorem xk_146_24 : xk_OkA xp_F (xp_P sc) xp_cl xp_BW xp_NW xp_SW xp_exn 146 24 (.iconst 0) := Or.inl ⟨xd_146_46, rfl⟩
theorem xk_146_25 : xk_OkA xp_F (xp_P sc) xp_cl xp_BW xp_NW xp_SW xp_exn 146 25 (.putfield 128) := ⟨_, xd_146_47, rfl, ⟨_, _, _, rfl, by decide, xu_4, Or.inl xwt_754⟩, xf_4_0⟩
theorem xk_146_26 : xk_OkA xp_F (xp_P sc) xp_cl xp_BW xp_NW xp_SW xp_exn 146 26 (.aload 0) := Or.inr ⟨0, rfl, xd_146_50, rfl⟩
theorem xk_146_27 : xk_OkA xp_F (xp_P sc) xp_cl xp_BW xp_NW xp_SW xp_exn 146 27 (.getfield 128) := ⟨_, xd_146_51, rfl, ⟨_, _, _, rfl, by decide, xu_4, Or.inl xwt_754⟩⟩
theorem xk_146_28 : xk_OkA xp_F (xp_P sc) xp_cl xp_BW xp_NW xp_SW xp_exn 146 28 (.ifCond .le 31) := ⟨_, xd_146_54, by unfold xf_to; decide +kernel, rfl⟩
theorem xk_146_29 : xk_OkA xp_F (xp_P sc) xp_cl xp_BW xp_NW xp_SW xp_exn 146 29 (.iconst 0) := Or.inl ⟨xd_146_57, rfl⟩
theorem xk_146_30 : xk_OkA xp_F (xp_P sc) xp_cl xp_BW xp_NW xp_SW xp_exn 146 30 (.ireturn) := ⟨xd_146_58, rfl⟩
theorem xk_146_31 : xk_OkA xp_F (xp_P sc) xp_cl xp_BW xp_NW xp_SW xp_exn 146 31 (.iconst 9) := Or.inr (Or.inl ⟨xd_146_59, by decide +kernel, rfl⟩)
theorem xk_146_32 : xk_OkA xp_F (xp_P sc) xp_cl xp_BW xp_NW xp_SW xp_exn 146 32 (.iconst 10) := Or.inr (Or.inl ⟨xd_146_61, by decide +kernel, rfl⟩)
theorem xk_146_33 : xk_OkA xp_F (xp_P sc) xp_cl xp_BW xp_NW xp_SW xp_exn 146 33 (.iload 1) := Or.inr ⟨1, rfl, xd_146_63, rfl⟩
theorem xk_146_34 : xk_OkA xp_F (xp_P sc) xp_cl xp_BW xp_NW xp_SW xp_exn 146 34 (.imul) := ⟨xd_146_64, rfl⟩
theorem xk_146_35 : xk_OkA xp_F (xp_P sc) xp_cl xp_BW xp_NW xp_SW xp_exn 146 35 (.iadd) := ⟨xd_146_65, rfl⟩
theorem xk_146_36 : xk_OkA xp_F (xp_P sc) xp_cl xp_BW xp_NW xp_SW xp_exn 146 36 (.iconst 2) := Or.inl ⟨xd_146_66, rfl⟩
theorem xk_146_37 : xk_OkA xp_F (xp_P sc) xp_cl xp_BW xp_NW xp_SW xp_exn 146 37 (.aload 0) := Or.inr ⟨0, rfl, xd_146_67, rfl⟩
theorem xk_146_38 : xk_OkA xp_F (xp_P sc) xp_cl xp_BW xp_NW xp_SW xp_exn 146 38 (.iload 1) := Or.inr ⟨1, rfl, xd_146_68, rfl⟩
theorem xk_146_39 : xk_OkA xp_F (xp_P sc) xp_cl xp_BW xp_NW xp_SW xp_exn 146 39 (.iload 2) := Or.inr ⟨2, rfl, xd_146_69, rfl⟩
theorem xk_146_40 : xk_OkA xp_F (xp_P sc) xp_cl xp_BW xp_NW xp_SW xp_exn 146 40 (.invokeinterface 144 3) := ⟨rfl, Or.inl ⟨xwt_937, rfl⟩, rfl, rfl, xwt_5, by decide +kernel, by decide +kernel, Nat.le_of_ble_eq_true rfl, _, Or.inl xwt_934, Or.inr ⟨xd_146_70, xwt_936, xws_96, ⟨_, _, _, rfl, rfl⟩, by decide +kernel⟩⟩
theorem xk_146_41 : xk_OkA xp_F (xp_P sc) xp_cl xp_BW xp_NW xp_SW xp_exn 146 41 (.imul) := ⟨xd_146_73, rfl⟩
theorem xk_146_42 : xk_OkA xp_F (xp_P sc) xp_cl xp_BW xp_NW xp_SW xp_exn 146 42 (.iadd) := ⟨xd_146_74, rfl⟩
theorem xk_146_43 : xk_OkA xp_F (xp_P sc) xp_cl xp_BW xp_NW xp_SW xp_exn 146 43 (.istore 4) := Or.inl ⟨xd_146_75, rfl⟩
theorem xk_146_44 : xk_OkA xp_F (xp_P sc) xp_cl xp_BW xp_NW xp_SW xp_exn 146 44 (.aload 0) := Or.inr ⟨0, rfl, xd_146_77, rfl⟩
theorem xk_146_45 : xk_OkA xp_F (xp_P sc) xp_cl xp_BW xp_NW xp_SW xp_exn 146 45 (.aload 0) := Or.inr ⟨0, rfl, xd_146_78, rfl⟩
theorem xk_146_46 : xk_OkA xp_F (xp_P sc) xp_cl xp_BW xp_NW xp_SW xp_exn 146 46 (.getfield 134) := ⟨_, xd_146_79, rfl, ⟨_, _, _, rfl, by decide, xu_4, Or.inl xwt_760⟩⟩
theorem xk_146_47 : xk_OkA xp_F (xp_P sc) xp_cl xp_BW xp_NW xp_SW xp_exn 146 47 (.iload 4) := Or.inl ⟨xd_146_82, rfl⟩
theorem xk_146_48 : xk_OkA xp_F (xp_P sc) xp_cl xp_BW xp_NW xp_SW xp_exn 146 48 (.iaload) := ⟨xd_146_84, rfl⟩
theorem xk_146_49 : xk_OkA xp_F (xp_P sc) xp_cl xp_BW xp_NW xp_SW xp_exn 146 49 (.invokeinterface 143 2) := ⟨rfl, Or.inl ⟨xwt_941, rfl⟩, rfl, rfl, xwt_5, by decide +kernel, by decide +kernel, Nat.le_of_ble_eq_true rfl, _, Or.inl xwt_938, Or.inr ⟨xd_146_85, xwt_940, xws_97, ⟨_, _, _, rfl, rfl⟩, by decide +kernel⟩⟩
theorem xk_146_50 : xk_OkA xp_F (xp_P sc) xp_cl xp_BW xp_NW xp_SW xp_exn 146 50 (.ifCond .eq 53) := ⟨_, xd_146_88, by unfold xf_to; decide +kernel, rfl⟩
theorem xk_146_51 : xk_OkA xp_F (xp_P sc) xp_cl xp_BW xp_NW xp_SW xp_exn 146 51 (.iconst 1) := Or.inl ⟨xd_146_91, rfl⟩
theorem xk_146_52 : xk_OkA xp_F (xp_P sc) xp_cl xp_BW xp_NW xp_SW xp_exn 146 52 (.goto 54) := ⟨_, xd_146_92, by unfold xf_to; decide +kernel⟩
theorem xk_146_53 : xk_OkA xp_F (xp_P sc) xp_cl xp_BW xp_NW xp_SW xp_exn 146 53 (.iconst 0) := Or.inl ⟨xd_146_95, rfl⟩
theorem xk_146_54 : xk_OkA xp_F (xp_P sc) xp_cl xp_BW xp_NW xp_SW xp_exn 146 54 (.aload 0) := Or.inr ⟨0, rfl, xd_146_96, rfl⟩
theorem xk_146_55 : xk_OkA xp_F (xp_P sc) xp_cl xp_BW xp_NW xp_SW xp_exn 146 55 (.aload 0) := Or.inr ⟨0, rfl, xd_146_97, rfl⟩
theorem xk_146_56 : xk_OkA xp_F (xp_P sc) xp_cl xp_BW xp_NW xp_SW xp_exn 146 56 (.getfield 134) := ⟨_, xd_146_98, rfl, ⟨_, _, _, rfl, by decide, xu_4, Or.inl xwt_760⟩⟩
theorem xk_146_57 : xk_OkA xp_F (xp_P sc) xp_cl xp_BW xp_NW xp_SW xp_exn 146 57 (.iload 4) := Or.inl ⟨xd_146_101, rfl⟩
theorem xk_146_58 : xk_OkA xp_F (xp_P sc) xp_cl xp_BW xp_NW xp_SW xp_exn 146 58 (.iconst 1) := Or.inl ⟨xd_146_103, rfl⟩
theorem xk_146_59 : xk_OkA xp_F (xp_P sc) xp_cl xp_BW xp_NW xp_SW xp_exn 146 59 (.iadd) := ⟨xd_146_104, rfl⟩
theorem xk_146_60 : xk_OkA xp_F (xp_P sc) xp_cl xp_BW xp_NW xp_SW xp_exn 146 60 (.iaload) := ⟨xd_146_105, rfl⟩
theorem xk_146_61 : xk_OkA xp_F (xp_P sc) xp_cl xp_BW xp_NW xp_SW xp_exn 146 61 (.invokeinterface 143 2) := ⟨rfl, Or.inl ⟨xwt_941, rfl⟩, rfl, rfl, xwt_5, by decide +kernel, by decide +kernel, Nat.le_of_ble_eq_true rfl, _, Or.inl xwt_938, Or.inr ⟨xd_146_106, xwt_940, xws_97, ⟨_, _, _, rfl, rfl⟩, by decide +kernel⟩⟩
theorem xk_146_62 : xk_OkA xp_F (xp_P sc) xp_cl xp_BW xp_NW xp_SW xp_exn 146 62 (.ifCond .eq 65) := ⟨_, xd_146_109, by unfold xf_to; decide +kernel, rfl⟩
theorem xk_146_63 : xk_OkA xp_F (xp_P sc) xp_cl xp_BW xp_NW xp_SW xp_exn 146 63 (.iconst 1) := Or.inl ⟨xd_146_112, rfl⟩
theorem xk_146_64 : xk_OkA xp_F (xp_P sc) xp_cl xp_BW xp_NW xp_SW xp_exn 146 64 (.goto 66) := ⟨_, xd_146_113, by unfold xf_to; decide +kernel⟩
theorem xk_146_65 : xk_OkA xp_F (xp_P sc) xp_cl xp_BW xp_NW xp_SW xp_exn 146 65 (.iconst 0) := Or.inl ⟨xd_146_116, rfl⟩
theorem xk_146_66 : xk_OkA xp_F (xp_P sc) xp_cl xp_BW xp_NW xp_SW xp_exn 146 66 (.iadd) := ⟨xd_146_117, rfl⟩
theorem xk_146_67 : xk_OkA xp_F (xp_P sc) xp_cl xp_BW xp_NW xp_SW xp_exn 146 67 (.istore 5) := Or.inl ⟨xd_146_118, rfl⟩
theorem xk_146_68 : xk_OkA xp_F (xp_P sc) xp_cl xp_BW xp_NW xp_SW xp_exn 146 68 (.iload 5) := Or.inl ⟨xd_146_120, rfl⟩
theorem xk_146_69 : xk_OkA xp_F (xp_P sc) xp_cl xp_BW xp_NW xp_SW xp_exn 146 69 (.ifCond .ne 75) := ⟨_, xd_146_122, by unfold xf_to; decide +kernel, rfl⟩
theorem xk_146_70 : xk_OkA xp_F (xp_P sc) xp_cl xp_BW xp_NW xp_SW xp_exn 146 70 (.aload 0) := Or.inr ⟨0, rfl, xd_146_125, rfl⟩
theorem xk_146_71 : xk_OkA xp_F (xp_P sc) xp_cl xp_BW xp_NW xp_SW xp_exn 146 71 (.iconst 4) := Or.inl ⟨xd_146_126, rfl⟩
theorem xk_146_72 : xk_OkA xp_F (xp_P sc) xp_cl xp_BW xp_NW xp_SW xp_exn 146 72 (.putfield 128) := ⟨_, xd_146_127, rfl, ⟨_, _, _, rfl, by decide, xu_4, Or.inl xwt_754⟩, xf_4_0⟩
theorem xk_146_73 : xk_OkA xp_F (xp_P sc) xp_cl xp_BW xp_NW xp_SW xp_exn 146 73 (.iconst 0) := Or.inl ⟨xd_146_130, rfl⟩
theorem xk_146_74 : xk_OkA xp_F (xp_P sc) xp_cl xp_BW xp_NW xp_SW xp_exn 146 74 (.ireturn) := ⟨xd_146_131, rfl⟩
theorem xk_146_75 : xk_OkA xp_F (xp_P sc) xp_cl xp_BW xp_NW xp_SW xp_exn 146 75 (.aload 0) := Or.inr ⟨0, rfl, xd_146_132, rfl⟩
theorem xk_146_76 : xk_OkA xp_F (xp_P sc) xp_cl xp_BW xp_NW xp_SW xp_exn 146 76 (.aload 0) := Or.inr ⟨0, rfl, xd_146_133, rfl⟩
theorem xk_146_77 : xk_OkA xp_F (xp_P sc) xp_cl xp_BW xp_NW xp_SW xp_exn 146 77 (.getfield 134) := ⟨_, xd_146_134, rfl, ⟨_, _, _, rfl, by decide, xu_4, Or.inl xwt_760⟩⟩
theorem xk_146_78 : xk_OkA xp_F (xp_P sc) xp_cl xp_BW xp_NW xp_SW xp_exn 146 78 (.iload 4) := Or.inl ⟨xd_146_137, rfl⟩
theorem xk_146_79 : xk_OkA xp_F (xp_P sc) xp_cl xp_BW xp_NW xp_SW xp_exn 146 79 (.iaload) := ⟨xd_146_139, rfl⟩
theorem xk_146_80 : xk_OkA xp_F (xp_P sc) xp_cl xp_BW xp_NW xp_SW xp_exn 146 80 (.invokeinterface 143 2) := ⟨rfl, Or.inl ⟨xwt_941, rfl⟩, rfl, rfl, xwt_5, by decide +kernel, by decide +kernel, Nat.le_of_ble_eq_true rfl, _, Or.inl xwt_938, Or.inr ⟨xd_146_140, xwt_940, xws_97, ⟨_, _, _, rfl, rfl⟩, by decide +kernel⟩⟩
theorem xk_146_81 : xk_OkA xp_F (xp_P sc) xp_cl xp_BW xp_NW xp_SW xp_exn 146 81 (.ifCond .eq 86) := ⟨_, xd_146_143, by unfold xf_to; decide +kernel, rfl⟩
theorem xk_146_82 : xk_OkA xp_F (xp_P sc) xp_cl xp_BW xp_NW xp_SW xp_exn 146 82 (.iload 4) := Or.inl ⟨xd_146_146, rfl⟩
theorem xk_146_83 : xk_OkA xp_F (xp_P sc) xp_cl xp_BW xp_NW xp_SW xp_exn 146 83 (.iconst 1) := Or.inl ⟨xd_146_148, rfl⟩
theorem xk_146_84 : xk_OkA xp_F (xp_P sc) xp_cl xp_BW xp_NW xp_SW xp_exn 146 84 (.iadd) := ⟨xd_146_149, rfl⟩
theorem xk_146_85 : xk_OkA xp_F (xp_P sc) xp_cl xp_BW xp_NW xp_SW xp_exn 146 85 (.goto 87) := ⟨_, xd_146_150, by unfold xf_to; decide +kernel⟩
theorem xk_146_86 : xk_OkA xp_F (xp_P sc) xp_cl xp_BW xp_NW xp_SW xp_exn 146 86 (.iload 4) := Or.inl ⟨xd_146_153, rfl⟩
theorem xk_146_87 : xk_OkA xp_F (xp_P sc) xp_cl xp_BW xp_NW xp_SW xp_exn 146 87 (.istore 6) := Or.inl ⟨xd_146_155, rfl⟩
theorem xk_146_88 : xk_OkA xp_F (xp_P sc) xp_cl xp_BW xp_NW xp_SW xp_exn 146 88 (.iload 5) := Or.inl ⟨xd_146_157, rfl⟩
theorem xk_146_89 : xk_OkA xp_F (xp_P sc) xp_cl xp_BW xp_NW xp_SW xp_exn 146 89 (.iconst 1) := Or.inl ⟨xd_146_159, rfl⟩
theorem xk_146_90 : xk_OkA xp_F (xp_P sc) xp_cl xp_BW xp_NW xp_SW xp_exn 146 90 (.if_icmp .ne 105) := ⟨_, xd_146_160, by unfold xf_to; decide +kernel, rfl⟩
theorem xk_146_91 : xk_OkA xp_F (xp_P sc) xp_cl xp_BW xp_NW xp_SW xp_exn 146 91 (.aload 0) := Or.inr ⟨0, rfl, xd_146_163, rfl⟩
theorem xk_146_92 : xk_OkA xp_F (xp_P sc) xp_cl xp_BW xp_NW xp_SW xp_exn 146 92 (.getfield 134) := ⟨_, xd_146_164, rfl, ⟨_, _, _, rfl, by decide, xu_4, Or.inl xwt_760⟩⟩
theorem xk_146_93 : xk_OkA xp_F (xp_P sc) xp_cl xp_BW xp_NW xp_SW xp_exn 146 93 (.iload 6) := Or.inl ⟨xd_146_167, rfl⟩
theorem xk_146_94 : xk_OkA xp_F (xp_P sc) xp_cl xp_BW xp_NW xp_SW xp_exn 146 94 (.iaload) := ⟨xd_146_169, rfl⟩
theorem xk_146_95 : xk_OkA xp_F (xp_P sc) xp_cl xp_BW xp_NW xp_SW xp_exn 146 95 (.ifCond .le 105) := ⟨_, xd_146_170, by unfold xf_to; decide +kernel, rfl⟩
theorem xk_146_96 : xk_OkA xp_F (xp_P sc) xp_cl xp_BW xp_NW xp_SW xp_exn 146 96 (.aload 0) := Or.inr ⟨0, rfl, xd_146_173, rfl⟩
theorem xk_146_97 : xk_OkA xp_F (xp_P sc) xp_cl xp_BW xp_NW xp_SW xp_exn 146 97 (.invokeinterface 119 1) := ⟨rfl, Or.inl ⟨xwt_812, rfl⟩, rfl, rfl, xwt_5, by decide +kernel, by decide +kernel, Nat.le_of_ble_eq_true rfl, _, Or.inl xwt_809, Or.inr ⟨xd_146_174, xwt_811, xws_78, ⟨_, _, _, rfl, rfl⟩, by decide +kernel⟩⟩
theorem xk_146_98 : xk_OkA xp_F (xp_P sc) xp_cl xp_BW xp_NW xp_SW xp_exn 146 98 (.aload 0) := Or.inr ⟨0, rfl, xd_146_177, rfl⟩
theorem xk_146_99 : xk_OkA xp_F (xp_P sc) xp_cl xp_BW xp_NW xp_SW xp_exn 146 99 (.getfield 135) := ⟨_, xd_146_178, rfl, ⟨_, _, _, rfl, by decide, xu_4, Or.inl xwt_761⟩⟩
theorem xk_146_100 : xk_OkA xp_F (xp_P sc) xp_cl xp_BW xp_NW xp_SW xp_exn 146 100 (.iload 6) := Or.inl ⟨xd_146_181, rfl⟩
theorem xk_146_101 : xk_OkA xp_F (xp_P sc) xp_cl xp_BW xp_NW xp_SW xp_exn 146 101 (.iconst 0) := Or.inl ⟨xd_146_183, rfl⟩
theorem xk_146_102 : xk_OkA xp_F (xp_P sc) xp_cl xp_BW xp_NW xp_SW xp_exn 146 102 (.iastore) := ⟨xd_146_184, rfl⟩
theorem xk_146_103 : xk_OkA xp_F (xp_P sc) xp_cl xp_BW xp_NW xp_SW xp_exn 146 103 (.aload 0) := Or.inr ⟨0, rfl, xd_146_185, rfl⟩
theorem xk_146_104 : xk_OkA xp_F (xp_P sc) xp_cl xp_BW xp_NW xp_SW xp_exn 146 104 (.invokeinterface 123 1) := ⟨rfl, Or.inl ⟨xwt_816, rfl⟩, rfl, rfl, xwt_5, by decide +kernel, by decide +kernel, Nat.le_of_ble_eq_true rfl, _, Or.inl xwt_813, Or.inr ⟨xd_146_186, xwt_815, xws_79, ⟨_, _, _, rfl, rfl⟩, by decide +kernel⟩⟩
theorem xk_146_105 : xk_OkA xp_F (xp_P sc) xp_cl xp_BW xp_NW xp_SW xp_exn 146 105 (.aload 0) := Or.inr ⟨0, rfl, xd_146_189, rfl⟩
theorem xk_146_106 : xk_OkA xp_F (xp_P sc) xp_cl xp_BW xp_NW xp_SW xp_exn 146 106 (.iload 1) := Or.inr ⟨1, rfl, xd_146_190, rfl⟩
theorem xk_146_107 : xk_OkA xp_F (xp_P sc) xp_cl xp_BW xp_NW xp_SW xp_exn 146 107 (.iload 2) := Or.inr ⟨2, rfl, xd_146_191, rfl⟩
theorem xk_146_108 : xk_OkA xp_F (xp_P sc) xp_cl xp_BW xp_NW xp_SW xp_exn 146 108 (.invokeinterface 145 3) := ⟨rfl, Or.inl ⟨xwt_945, rfl⟩, rfl, rfl, xwt_5, by decide +kernel, by decide +kernel, Nat.le_of_ble_eq_true rfl, _, Or.inl xwt_942, Or.inr ⟨xd_146_192, xwt_944, xws_98, ⟨_, _, _, rfl, rfl⟩, by decide +kernel⟩⟩
theorem xk_146_109 : xk_OkA xp_F (xp_P sc) xp_cl xp_BW xp_NW xp_SW xp_exn 146 109 (.istore 7) := Or.inl ⟨xd_146_195, rfl⟩
theorem xk_146_110 : xk_OkA xp_F (xp_P sc) xp_cl xp_BW xp_NW xp_SW xp_exn 146 110 (.iload 4) := Or.inl ⟨xd_146_197, rfl⟩
theorem xk_146_111 : xk_OkA xp_F (xp_P sc) xp_cl xp_BW xp_NW xp_SW xp_exn 146 111 (.istore 8) := Or.inl ⟨xd_146_199, rfl⟩
theorem xk_146_112 : xk_OkA xp_F (xp_P sc) xp_cl xp_BW xp_NW xp_SW xp_exn 146 112 (.iload 8) := Or.inl ⟨xd_146_201, rfl⟩
theorem xk_146_113 : xk_OkA xp_F (xp_P sc) xp_cl xp_BW xp_NW xp_SW xp_exn 146 113 (.iload 4) := Or.inl ⟨xd_146_203, rfl⟩
theorem xk_146_114 : xk_OkA xp_F (xp_P sc) xp_cl xp_BW xp_NW xp_SW xp_exn 146 114 (.iconst 2) := Or.inl ⟨xd_146_205, rfl⟩
theorem xk_146_115 : xk_OkA xp_F (xp_P sc) xp_cl xp_BW xp_NW xp_SW xp_exn 146 115 (.iadd) := ⟨xd_146_206, rfl⟩
theorem xk_146_116 : xk_OkA xp_F (xp_P sc) xp_cl xp_BW xp_NW xp_SW xp_exn 146 116 (.if_icmp .ge 173) := ⟨_, xd_146_207, by unfold xf_to; decide +kernel, rfl⟩
theorem xk_146_117 : xk_OkA xp_F (xp_P sc) xp_cl xp_BW xp_NW xp_SW xp_exn 146 117 (.aload 0) := Or.inr ⟨0, rfl, xd_146_210, rfl⟩
theorem xk_146_118 : xk_OkA xp_F (xp_P sc) xp_cl xp_BW xp_NW xp_SW xp_exn 146 118 (.getfield 132) := ⟨_, xd_146_211, rfl, ⟨_, _, _, rfl, by decide, xu_4, Or.inl xwt_758⟩⟩
theorem xk_146_119 : xk_OkA xp_F (xp_P sc) xp_cl xp_BW xp_NW xp_SW xp_exn 146 119 (.ifCond .eq 173) := ⟨_, xd_146_214, by unfold xf_to; decide +kernel, rfl⟩
theorem xk_146_120 : xk_OkA xp_F (xp_P sc) xp_cl xp_BW xp_NW xp_SW xp_exn 146 120 (.aload 0) := Or.inr ⟨0, rfl, xd_146_217, rfl⟩
theorem xk_146_121 : xk_OkA xp_F (xp_P sc) xp_cl xp_BW xp_NW xp_SW xp_exn 146 121 (.getfield 134) := ⟨_, xd_146_218, rfl, ⟨_, _, _, rfl, by decide, xu_4, Or.inl xwt_760⟩⟩
theorem xk_146_122 : xk_OkA xp_F (xp_P sc) xp_cl xp_BW xp_NW xp_SW xp_exn 146 122 (.iload 8) := Or.inl ⟨xd_146_221, rfl⟩
theorem xk_146_123 : xk_OkA xp_F (xp_P sc) xp_cl xp_BW xp_NW xp_SW xp_exn 146 123 (.iaload) := ⟨xd_146_223, rfl⟩
theorem xk_146_124 : xk_OkA xp_F (xp_P sc) xp_cl xp_BW xp_NW xp_SW xp_exn 146 124 (.ifCond .le 127) := ⟨_, xd_146_224, by unfold xf_to; decide +kernel, rfl⟩
theorem xk_146_125 : xk_OkA xp_F (xp_P sc) xp_cl xp_BW xp_NW xp_SW xp_exn 146 125 (.iconst 1) := Or.inl ⟨xd_146_227, rfl⟩
theorem xk_146_126 : xk_OkA xp_F (xp_P sc) xp_cl xp_BW xp_NW xp_SW xp_exn 146 126 (.goto 128) := ⟨_, xd_146_228, by unfold xf_to; decide +kernel⟩
theorem xk_146_127 : xk_OkA xp_F (xp_P sc) xp_cl xp_BW xp_NW xp_SW xp_exn 146 127 (.iconst 0) := Or.inl ⟨xd_146_231, rfl⟩
theorem xk_146_128 : xk_OkA xp_F (xp_P sc) xp_cl xp_BW xp_NW xp_SW xp_exn 146 128 (.istore 9) := Or.inl ⟨xd_146_232, rfl⟩
theorem xk_146_129 : xk_OkA xp_F (xp_P sc) xp_cl xp_BW xp_NW xp_SW xp_exn 146 129 (.iload 9) := Or.inl ⟨xd_146_234, rfl⟩
theorem xk_146_130 : xk_OkA xp_F (xp_P sc) xp_cl xp_BW xp_NW xp_SW xp_exn 146 130 (.ifCond .eq 139) := ⟨_, xd_146_236, by unfold xf_to; decide +kernel, rfl⟩
theorem xk_146_131 : xk_OkA xp_F (xp_P sc) xp_cl xp_BW xp_NW xp_SW xp_exn 146 131 (.aload 0) := Or.inr ⟨0, rfl, xd_146_239, rfl⟩
theorem xk_146_132 : xk_OkA xp_F (xp_P sc) xp_cl xp_BW xp_NW xp_SW xp_exn 146 132 (.aload 0) := Or.inr ⟨0, rfl, xd_146_240, rfl⟩
theorem xk_146_133 : xk_OkA xp_F (xp_P sc) xp_cl xp_BW xp_NW xp_SW xp_exn 146 133 (.getfield 134) := ⟨_, xd_146_241, rfl, ⟨_, _, _, rfl, by decide, xu_4, Or.inl xwt_760⟩⟩
theorem xk_146_134 : xk_OkA xp_F (xp_P sc) xp_cl xp_BW xp_NW xp_SW xp_exn 146 134 (.iload 8) := Or.inl ⟨xd_146_244, rfl⟩
theorem xk_146_135 : xk_OkA xp_F (xp_P sc) xp_cl xp_BW xp_NW xp_SW xp_exn 146 135 (.iaload) := ⟨xd_146_246, rfl⟩
theorem xk_146_136 : xk_OkA xp_F (xp_P sc) xp_cl xp_BW xp_NW xp_SW xp_exn 146 136 (.iload 7) := Or.inl ⟨xd_146_247, rfl⟩
theorem xk_146_137 : xk_OkA xp_F (xp_P sc) xp_cl xp_BW xp_NW xp_SW xp_exn 146 137 (.iload 3) := Or.inr ⟨3, rfl, xd_146_249, rfl⟩
theorem xk_146_138 : xk_OkA xp_F (xp_P sc) xp_cl xp_BW xp_NW xp_SW xp_exn 146 138 (.invokeinterface 110 4) := ⟨rfl, Or.inl ⟨xwt_902, rfl⟩, rfl, rfl, xwt_5, by decide +kernel, by decide +kernel, Nat.le_of_ble_eq_true rfl, _, Or.inl xwt_899, Or.inr ⟨xd_146_250, xwt_901, xws_93, ⟨_, _, _, rfl, rfl⟩, by decide +kernel⟩⟩
theorem xk_146_139 : xk_OkA xp_F (xp_P sc) xp_cl xp_BW xp_NW xp_SW xp_exn 146 139 (.iload 9) := Or.inl ⟨xd_146_253, rfl⟩
theorem xk_146_140 : xk_OkA xp_F (xp_P sc) xp_cl xp_BW xp_NW xp_SW xp_exn 146 140 (.ifCond .eq 171) := ⟨_, xd_146_255, by unfold xf_to; decide +kernel, rfl⟩
theorem xk_146_141 : xk_OkA xp_F (xp_P sc) xp_cl xp_BW xp_NW xp_SW xp_exn 146 141 (.aload 0) := Or.inr ⟨0, rfl, xd_146_258, rfl⟩
theorem xk_146_142 : xk_OkA xp_F (xp_P sc) xp_cl xp_BW xp_NW xp_SW xp_exn 146 142 (.getfield 132) := ⟨_, xd_146_259, rfl, ⟨_, _, _, rfl, by decide, xu_4, Or.inl xwt_758⟩⟩
theorem xk_146_143 : xk_OkA xp_F (xp_P sc) xp_cl xp_BW xp_NW xp_SW xp_exn 146 143 (.ifCond .eq 171) := ⟨_, xd_146_262, by unfold xf_to; decide +kernel, rfl⟩
theorem xk_146_144 : xk_OkA xp_F (xp_P sc) xp_cl xp_BW xp_NW xp_SW xp_exn 146 144 (.aload 0) := Or.inr ⟨0, rfl, xd_146_265, rfl⟩
theorem xk_146_145 : xk_OkA xp_F (xp_P sc) xp_cl xp_BW xp_NW xp_SW xp_exn 146 145 (.getfield 136) := ⟨_, xd_146_266, rfl, ⟨_, _, _, rfl, by decide, xu_4, Or.inl xwt_762⟩⟩
theorem xk_146_146 : xk_OkA xp_F (xp_P sc) xp_cl xp_BW xp_NW xp_SW xp_exn 146 146 (.ifCond .lt 171) := ⟨_, xd_146_269, by unfold xf_to; decide +kernel, rfl⟩
theorem xk_146_147 : xk_OkA xp_F (xp_P sc) xp_cl xp_BW xp_NW xp_SW xp_exn 146 147 (.aload 0) := Or.inr ⟨0, rfl, xd_146_272, rfl⟩
theorem xk_146_148 : xk_OkA xp_F (xp_P sc) xp_cl xp_BW xp_NW xp_SW xp_exn 146 148 (.getfield 139) := ⟨_, xd_146_273, rfl, ⟨_, _, _, rfl, by decide, xu_4, Or.inl xwt_765⟩⟩
theorem xk_146_149 : xk_OkA xp_F (xp_P sc) xp_cl xp_BW xp_NW xp_SW xp_exn 146 149 (.ifCond .le 171) := ⟨_, xd_146_276, by unfold xf_to; decide +kernel, rfl⟩
theorem xk_146_150 : xk_OkA xp_F (xp_P sc) xp_cl xp_BW xp_NW xp_SW xp_exn 146 150 (.iload 8) := Or.inl ⟨xd_146_279, rfl⟩
theorem xk_146_151 : xk_OkA xp_F (xp_P sc) xp_cl xp_BW xp_NW xp_SW xp_exn 146 151 (.iconst 9) := Or.inr (Or.inl ⟨xd_146_281, by decide +kernel, rfl⟩)
theorem xk_146_152 : xk_OkA xp_F (xp_P sc) xp_cl xp_BW xp_NW xp_SW xp_exn 146 152 (.iconst 10) := Or.inr (Or.inl ⟨xd_146_283, by decide +kernel, rfl⟩)
theorem xk_146_153 : xk_OkA xp_F (xp_P sc) xp_cl xp_BW xp_NW xp_SW xp_exn 146 153 (.aload 0) := Or.inr ⟨0, rfl, xd_146_285, rfl⟩
theorem xk_146_154 : xk_OkA xp_F (xp_P sc) xp_cl xp_BW xp_NW xp_SW xp_exn 146 154 (.getfield 137) := ⟨_, xd_146_286, rfl, ⟨_, _, _, rfl, by decide, xu_4, Or.inl xwt_763⟩⟩
theorem xk_146_155 : xk_OkA xp_F (xp_P sc) xp_cl xp_BW xp_NW xp_SW xp_exn 146 155 (.imul) := ⟨xd_146_289, rfl⟩
theorem xk_146_156 : xk_OkA xp_F (xp_P sc) xp_cl xp_BW xp_NW xp_SW xp_exn 146 156 (.iadd) := ⟨xd_146_290, rfl⟩
theorem xk_146_157 : xk_OkA xp_F (xp_P sc) xp_cl xp_BW xp_NW xp_SW xp_exn 146 157 (.aload 0) := Or.inr ⟨0, rfl, xd_146_291, rfl⟩
theorem xk_146_158 : xk_OkA xp_F (xp_P sc) xp_cl xp_BW xp_NW xp_SW xp_exn 146 158 (.getfield 138) := ⟨_, xd_146_292, rfl, ⟨_, _, _, rfl, by decide, xu_4, Or.inl xwt_764⟩⟩
theorem xk_146_159 : xk_OkA xp_F (xp_P sc) xp_cl xp_BW xp_NW xp_SW xp_exn 146 159 (.iadd) := ⟨xd_146_295, rfl⟩
theorem xk_146_160 : xk_OkA xp_F (xp_P sc) xp_cl xp_BW xp_NW xp_SW xp_exn 146 160 (.if_icmp .ne 171) := ⟨_, xd_146_296, by unfold xf_to; decide +kernel, rfl⟩
theorem xk_146_161 : xk_OkA xp_F (xp_P sc) xp_cl xp_BW xp_NW xp_SW xp_exn 146 161 (.iload 7) := Or.inl ⟨xd_146_299, rfl⟩
theorem xk_146_162 : xk_OkA xp_F (xp_P sc) xp_cl xp_BW xp_NW xp_SW xp_exn 146 162 (.aload 0) := Or.inr ⟨0, rfl, xd_146_301, rfl⟩
theorem xk_146_163 : xk_OkA xp_F (xp_P sc) xp_cl xp_BW xp_NW xp_SW xp_exn 146 163 (.getfield 140) := ⟨_, xd_146_302, rfl, ⟨_, _, _, rfl, by decide, xu_4, Or.inl xwt_766⟩⟩
theorem xk_146_164 : xk_OkA xp_F (xp_P sc) xp_cl xp_BW xp_NW xp_SW xp_exn 146 164 (.if_icmp .ge 171) := ⟨_, xd_146_305, by unfold xf_to; decide +kernel, rfl⟩
theorem xk_146_165 : xk_OkA xp_F (xp_P sc) xp_cl xp_BW xp_NW xp_SW xp_exn 146 165 (.aload 0) := Or.inr ⟨0, rfl, xd_146_308, rfl⟩
theorem xk_146_166 : xk_OkA xp_F (xp_P sc) xp_cl xp_BW xp_NW xp_SW xp_exn 146 166 (.aload 0) := Or.inr ⟨0, rfl, xd_146_309, rfl⟩
theorem xk_146_167 : xk_OkA xp_F (xp_P sc) xp_cl xp_BW xp_NW xp_SW xp_exn 146 167 (.getfield 139) := ⟨_, xd_146_310, rfl, ⟨_, _, _, rfl, by decide, xu_4, Or.inl xwt_765⟩⟩
theorem xk_146_168 : xk_OkA xp_F (xp_P sc) xp_cl xp_BW xp_NW xp_SW xp_exn 146 168 (.iload 7) := Or.inl ⟨xd_146_313, rfl⟩
theorem xk_146_169 : xk_OkA xp_F (xp_P sc) xp_cl xp_BW xp_NW xp_SW xp_exn 146 169 (.iload 3) := Or.inr ⟨3, rfl, xd_146_315, rfl⟩
theorem xk_146_170 : xk_OkA xp_F (xp_P sc) xp_cl xp_BW xp_NW xp_SW xp_exn 146 170 (.invokeinterface 110 4) := ⟨rfl, Or.inl ⟨xwt_902, rfl⟩, rfl, rfl, xwt_5, by decide +kernel, by decide +kernel, Nat.le_of_ble_eq_true rfl, _, Or.inl xwt_899, Or.inr ⟨xd_146_316, xwt_901, xws_93, ⟨_, _, _, rfl, rfl⟩, by decide +kernel⟩⟩
theorem xk_146_171 : xk_OkA xp_F (xp_P sc) xp_cl xp_BW xp_NW xp_SW xp_exn 146 171 (.iinc 8 (1)) := ⟨xd_146_319, rfl⟩
theorem xk_146_172 : xk_OkA xp_F (xp_P sc) xp_cl xp_BW xp_NW xp_SW xp_exn 146 172 (.goto 112) := ⟨_, xd_146_322, by unfold xf_to; decide +kernel⟩
theorem xk_146_173 : xk_OkA xp_F (xp_P sc) xp_cl xp_BW xp_NW xp_SW xp_exn 146 173 (.aload 0) := Or.inr ⟨0, rfl, xd_146_325, rfl⟩
theorem xk_146_174 : xk_OkA xp_F (xp_P sc) xp_cl xp_BW xp_NW xp_SW xp_exn 146 174 (.iload 5) := Or.inl ⟨xd_146_326, rfl⟩
theorem xk_146_175 : xk_OkA xp_F (xp_P sc) xp_cl xp_BW xp_NW xp_SW xp_exn 146 175 (.invokeinterface 124 2) := ⟨rfl, Or.inl ⟨xwt_836, rfl⟩, rfl, rfl, xwt_5, by decide +kernel, by decide +kernel, Nat.le_of_ble_eq_true rfl, _, Or.inl xwt_833, Or.inr ⟨xd_146_328, xwt_835, xws_84, ⟨_, _, _, rfl, rfl⟩, by decide +kernel⟩⟩
theorem xk_146_176 : xk_OkA xp_F (xp_P sc) xp_cl xp_BW xp_NW xp_SW xp_exn 146 176 (.ireturn) := ⟨xd_146_331, rfl⟩
theorem xl_146 : xk_OkL xp_F (xp_P sc) xp_cl xp_BW xp_NW xp_SW xp_exn 146 0 xc_146 := ⟨xk_146_0, xk_146_1, xk_146_2, xk_146_3, xk_146_4, xk_146_5, xk_146_6, xk_146_7, xk_146_8, xk_146_9, xk_146_10, xk_146_11, xk_146_12, xk_146_13, xk_146_14, xk_146_15, xk_146_16, xk_146_17, xk_146_18, xk_146_19, xk_146_20, xk_146_21, xk_146_22, xk_146_23, xk_146_24, xk_146_25, xk_146_26, xk_146_27, xk_146_28, xk_146_29, xk_146_30, xk_146_31, xk_146_32, xk_146_33, xk_146_34, xk_146_35, xk_146_36, xk_146_37, xk_146_38, xk_146_39, xk_146_40, xk_146_41, xk_146_42, xk_146_43, xk_146_44, xk_146_45, xk_146_46, xk_146_47, xk_146_48, xk_146_49, xk_146_50, xk_146_51, xk_146_52, xk_146_53, xk_146_54, xk_146_55, xk_146_56, xk_146_57, xk_146_58, xk_146_59, xk_146_60, xk_146_61, xk_146_62, xk_146_63, xk_146_64, xk_146_65, xk_146_66, xk_146_67, xk_146_68, xk_146_69, xk_146_70, xk_146_71, xk_146_72, xk_146_73, xk_146_74, xk_146_75, xk_146_76, xk_146_77, xk_146_78, xk_146_79, xk_146_80, xk_146_81, xk_146_82, xk_146_83, xk_146_84, xk_146_85, xk_146_86, xk_146_87, xk_146_88, xk_146_89, xk_146_90, xk_146_91, xk_146_92, xk_146_93, xk_146_94, xk_146_95, xk_146_96, xk_146_97, xk_146_98, xk_146_99, xk_146_100, xk_146_101, xk_146_102, xk_146_103, xk_146_104, xk_146_105, xk_146_106, xk_146_107, xk_146_108, xk_146_109, xk_146_110, xk_146_111, xk_146_112, xk_146_113, xk_146_114, xk_146_115, xk_146_116, xk_146_117, xk_146_118, xk_146_119, xk_146_120, xk_146_121, xk_146_122, xk_146_123, xk_146_124, xk_146_125, xk_146_126, xk_146_127, xk_146_128, xk_146_129, xk_146_130, xk_146_131, xk_146_132, xk_146_133, xk_146_134, xk_146_135, xk_146_136, xk_146_137, xk_146_138, xk_146_139, xk_146_140, xk_146_141, xk_146_142, xk_146_143, xk_146_144, xk_146_145, xk_146_146, xk_146_147, xk_146_148, xk_146_149, xk_146_150, xk_146_151, xk_146_152, xk_146_153, xk_146_154, xk_146_155, xk_146_156, xk_146_157, xk_146_158, xk_146_159, xk_146_160, xk_146_161, xk_146_162, xk_146_163, xk_146_164, xk_146_165, xk_146_166, xk_146_167, xk_146_168, xk_146_169, xk_146_170, xk_146_171, xk_146_172, xk_146_173, xk_146_174, xk_146_175, xk_146_176, trivial⟩
theorem xd_147_0 : decode prog_6_method_42_code 0 = .ok (.aload_n 0, 1) := by decide +kernel
theorem xd_147_1 : decode prog_6_method_42_code 1 = .ok (.aload_n 0, 1) := by decide +kernel
theorem xd_147_2 : decode prog_6_method_42_code 2 = .ok (.getfield 20, 3) := by decide +kernel
theorem xd_147_5 : decode prog_6_method_42_code 5 = .ok (.ifCond .ne 7, 3) := by decide +kernel
theorem xd_147_8 : decode prog_6_method_42_code 8 = .ok (.iconst 1, 1) := by decide +kernel
theorem xd_147_9 : decode prog_6_method_42_code 9 = .ok (.goto 38, 3) := by decide +kernel
theorem xd_147_12 : decode prog_6_method_42_code 12 = .ok (.aload_n 0, 1) := by decide +kernel
theorem xd_147_13 : decode prog_6_method_42_code 13 = .ok (.iload_n 1, 1) := by decide +kernel
theorem xd_147_14 : decode prog_6_method_42_code 14 = .ok (.invokevirtual 134, 3) := by decide +kernel
theorem xd_147_17 : decode prog_6_method_42_code 17 = .ok (.ifCond .ne 7, 3) := by decide +kernel
theorem xd_147_20 : decode prog_6_method_42_code 20 = .ok (.iconst 2, 1) := by decide +kernel
theorem xd_147_21 : decode prog_6_method_42_code 21 = .ok (.goto 26, 3) := by decide +kernel
theorem xd_147_24 : decode prog_6_method_42_code 24 = .ok (.iload_n 2, 1) := by decide +kernel
theorem xd_147_25 : decode prog_6_method_42_code 25 = .ok (.ifCond .lt 17, 3) := by decide +kernel
theorem xd_147_28 : decode prog_6_method_42_code 28 = .ok (.iload_n 2, 1) := by decide +kernel
theorem xd_147_29 : decode prog_6_method_42_code 29 = .ok (.iconst 4, 1) := by decide +kernel
theorem xd_147_30 : decode prog_6_method_42_code 30 = .ok (.aload_n 0, 1) := by decide +kernel
theorem xd_147_31 : decode prog_6_method_42_code 31 = .ok (.getfield 28, 3) := by decide +kernel
theorem xd_147_34 : decode prog_6_method_42_code 34 = .ok (.iload_n 1, 1) := by decide +kernel
theorem xd_147_35 : decode prog_6_method_42_code 35 = .ok (.invokestatic 86, 3) := by decide +kernel
theorem xd_147_38 : decode prog_6_method_42_code 38 = .ok (.imul, 1) := by decide +kernel
theorem xd_147_39 : decode prog_6_method_42_code 39 = .ok (.if_icmp .lt 7, 3) := by decide +kernel
theorem xd_147_42 : decode prog_6_method_42_code 42 = .ok (.iconst 3, 1) := by decide +kernel
theorem xd_147_43 : decode prog_6_method_42_code 43 = .ok (.goto 4, 3) := by decide +kernel
theorem xd_147_46 : decode prog_6_method_42_code 46 = .ok (.iconst 0, 1) := by decide +kernel
theorem xd_147_47 : decode prog_6_method_42_code 47 = .ok (.putfield 37, 3) := by decide +kernel
theorem xd_147_50 : decode prog_6_method_42_code 50 = .ok (.aload_n 0, 1) := by decide +kernel
theorem xd_147_51 : decode prog_6_method_42_code 51 = .ok (.getfield 37, 3) := by decide +kernel
theorem xd_147_54 : decode prog_6_method_42_code 54 = .ok (.ifCond .le 5, 3) := by decide +kernel
theorem xd_147_57 : decode prog_6_method_42_code 57 = .ok (.iconst 0, 1) := by decide +kernel
theorem xd_147_58 : decode prog_6_method_42_code 58 = .ok (.ireturn, 1) := by decide +kernel
theorem xd_147_59 : decode prog_6_method_42_code 59 = .ok (.bipush 9, 2) := by decide +kernel
theorem xd_147_61 : decode prog_6_method_42_code 61 = .ok (.bipush 10, 2) := by decide +kernel
theorem xd_147_63 : decode prog_6_method_42_code 63 = .ok (.iload_n 1, 1) := by decide +kernel
theorem xd_147_64 : decode prog_6_method_42_code 64 = .ok (.imul, 1) := by decide +kernel
theorem xd_147_65 : decode prog_6_method_42_code 65 = .ok (.iadd, 1) := by decide +kernel
theorem xd_147_66 : decode prog_6_method_42_code 66 = .ok (.iconst 2, 1) := by decide +kernel
theorem xd_147_67 : decode prog_6_method_42_code 67 = .ok (.aload_n 0, 1) := by decide +kernel
theorem xd_147_68 : decode prog_6_method_42_code 68 = .ok (.iload_n 1, 1) := by decide +kernel
theorem xd_147_69 : decode prog_6_method_42_code 69 = .ok (.iload_n 2, 1) := by decide +kernel
theorem xd_147_70 : decode prog_6_method_42_code 70 = .ok (.invokevirtual 143, 3) := by decide +kernel
theorem xd_147_73 : decode prog_6_method_42_code 73 = .ok (.imul, 1) := by decide +kernel
theorem xd_147_74 : decode prog_6_method_42_code 74 = .ok (.iadd, 1) := by decide +kernel
theorem xd_147_75 : decode prog_6_method_42_code 75 = .ok (.istore_n 3, 1) := by decide +kernel
theorem xd_147_76 : decode prog_6_method_42_code 76 = .ok (.aload_n 0, 1) := by decide +kernel
theorem xd_147_77 : decode prog_6_method_42_code 77 = .ok (.aload_n 0, 1) := by decide +kernel
theorem xd_147_78 : decode prog_6_method_42_code 78 = .ok (.getfield 28, 3) := by decide +kernel
theorem xd_147_81 : decode prog_6_method_42_code 81 = .ok (.iload_n 3, 1) := by decide +kernel
theorem xd_147_82 : decode prog_6_method_42_code 82 = .ok (.iaload, 1) := by decide +kernel
theorem xd_147_83 : decode prog_6_method_42_code 83 = .ok (.invokevirtual 146, 3) := by decide +kernel
theorem xd_147_86 : decode prog_6_method_42_code 86 = .ok (.ifCond .eq 12, 3) := by decide +kernel
theorem xd_147_89 : decode prog_6_method_42_code 89 = .ok (.aload_n 0, 1) := by decide +kernel
theorem xd_147_90 : decode prog_6_method_42_code 90 = .ok (.getfield 28, 3) := by decide +kernel
theorem xd_147_93 : decode prog_6_method_42_code 93 = .ok (.iload_n 3, 1) := by decide +kernel
theorem xd_147_94 : decode prog_6_method_42_code 94 = .ok (.iaload, 1) := by decide +kernel
theorem xd_147_95 : decode prog_6_method_42_code 95 = .ok (.goto 11, 3) := by decide +kernel
theorem xd_147_98 : decode prog_6_method_42_code 98 = .ok (.aload_n 0, 1) := by decide +kernel
theorem xd_147_99 : decode prog_6_method_42_code 99 = .ok (.getfield 28, 3) := by decide +kernel
theorem xd_147_102 : decode prog_6_method_42_code 102 = .ok (.iload_n 3, 1) := by decide +kernel
theorem xd_147_103 : decode prog_6_method_42_code 103 = .ok (.iconst 1, 1) := by decide +kernel
theorem xd_147_104 : decode prog_6_method_42_code 104 = .ok (.iadd, 1) := by decide +kernel
theorem xd_147_105 : decode prog_6_method_42_code 105 = .ok (.iaload, 1) := by decide +kernel
theorem xd_147_106 : decode prog_6_method_42_code 106 = .ok (.istore 4, 2) := by decide +kernel
theorem xd_147_108 : decode prog_6_method_42_code 108 = .ok (.aload_n 0, 1) := by decide +kernel
theorem xd_147_109 : decode prog_6_method_42_code 109 = .ok (.aload_n 0, 1) := by decide +kernel
theorem xd_147_110 : decode prog_6_method_42_code 110 = .ok (.iload 4, 2) := by decide +kernel
theorem xd_147_112 : decode prog_6_method_42_code 112 = .ok (.invokevirtual 146, 3) := by decide +kernel
theorem xd_147_115 : decode prog_6_method_42_code 115 = .ok (.ifCond .eq 7, 3) := by decide +kernel
theorem xd_147_118 : decode prog_6_method_42_code 118 = .ok (.iconst 0, 1) := by decide +kernel
theorem xd_147_119 : decode prog_6_method_42_code 119 = .ok (.goto 4, 3) := by decide +kernel
theorem xd_147_122 : decode prog_6_method_42_code 122 = .ok (.iconst 4, 1) := by decide +kernel
theorem xd_147_123 : decode prog_6_method_42_code 123 = .ok (.putfield 37, 3) := by decide +kernel
theorem xd_147_126 : decode prog_6_method_42_code 126 = .ok (.aload_n 0, 1) := by decide +kernel
theorem xd_147_127 : decode prog_6_method_42_code 127 = .ok (.getfield 37, 3) := by decide +kernel
theorem xd_147_130 : decode prog_6_method_42_code 130 = .ok (.ifCond .le 7, 3) := by decide +kernel
theorem xd_147_133 : decode prog_6_method_42_code 133 = .ok (.iconst 0, 1) := by decide +kernel
theorem xd_147_134 : decode prog_6_method_42_code 134 = .ok (.goto 15, 3) := by decide +kernel
theorem xd_147_137 : decode prog_6_method_42_code 137 = .ok (.aload_n 0, 1) := by decide +kernel
theorem xd_147_138 : decode prog_6_method_42_code 138 = .ok (.iload 4, 2) := by decide +kernel
theorem xd_147_140 : decode prog_6_method_42_code 140 = .ok (.aload_n 0, 1) := by decide +kernel
theorem xd_147_141 : decode prog_6_method_42_code 141 = .ok (.iload_n 1, 1) := by decide +kernel
theorem xd_147_142 : decode prog_6_method_42_code 142 = .ok (.iload_n 2, 1) := by decide +kernel
theorem xd_147_143 : decode prog_6_method_42_code 143 = .ok (.invokevirtual 149, 3) := by decide +kernel
theorem xd_147_146 : decode prog_6_method_42_code 146 = .ok (.invokevirtual 140, 3) := by decide +kernel
theorem xd_147_149 : decode prog_6_method_42_code 149 = .ok (.ireturn, 1) := by decide +kernel
theorem xk_147_0 : xk_OkA xp_F (xp_P sc) xp_cl xp_BW xp_NW xp_SW xp_exn 147 0 (.aload 0) := Or.inr ⟨0, rfl, xd_147_0, rfl⟩
theorem xk_147_1 : xk_OkA xp_F (xp_P sc) xp_cl xp_BW xp_NW xp_SW xp_exn 147 1 (.aload 0) := Or.inr ⟨0, rfl, xd_147_1, rfl⟩
theorem xk_147_2 : xk_OkA xp_F (xp_P sc) xp_cl xp_BW xp_NW xp_SW xp_exn 147 2 (.getfield 132) := ⟨_, xd_147_2, rfl, ⟨_, _, _, rfl, by decide, xu_4, Or.inl xwt_758⟩⟩
theorem xk_147_3 : xk_OkA xp_F (xp_P sc) xp_cl xp_BW xp_NW xp_SW xp_exn 147 3 (.ifCond .ne 6) := ⟨_, xd_147_5, by unfold xf_to; decide +kernel, rfl⟩
theorem xk_147_4 : xk_OkA xp_F (xp_P sc) xp_cl xp_BW xp_NW xp_SW xp_exn 147 4 (.iconst 1) := Or.inl ⟨xd_147_8, rfl⟩
theorem xk_147_5 : xk_OkA xp_F (xp_P sc) xp_cl xp_BW xp_NW xp_SW xp_exn 147 5 (.goto 25) := ⟨_, xd_147_9, by unfold xf_to; decide +kernel⟩
theorem xk_147_6 : xk_OkA xp_F (xp_P sc) xp_cl xp_BW xp_NW xp_SW xp_exn 147 6 (.aload 0) := Or.inr ⟨0, rfl, xd_147_12, rfl⟩
theorem xk_147_7 : xk_OkA xp_F (xp_P sc) xp_cl xp_BW xp_NW xp_SW xp_exn 147 7 (.iload 1) := Or.inr ⟨1, rfl, xd_147_13, rfl⟩
theorem xk_147_8 : xk_OkA xp_F (xp_P sc) xp_cl xp_BW xp_NW xp_SW xp_exn 147 8 (.invokeinterface 115 2) := ⟨rfl, Or.inl ⟨xwt_910, rfl⟩, rfl, rfl, xwt_5, by decide +kernel, by decide +kernel, Nat.le_of_ble_eq_true rfl, _, Or.inl xwt_907, Or.inr ⟨xd_147_14, xwt_909, xws_94, ⟨_, _, _, rfl, rfl⟩, by decide +kernel⟩⟩
theorem xk_147_9 : xk_OkA xp_F (xp_P sc) xp_cl xp_BW xp_NW xp_SW xp_exn 147 9 (.ifCond .ne 12) := ⟨_, xd_147_17, by unfold xf_to; decide +kernel, rfl⟩
theorem xk_147_10 : xk_OkA xp_F (xp_P sc) xp_cl xp_BW xp_NW xp_SW xp_exn 147 10 (.iconst 2) := Or.inl ⟨xd_147_20, rfl⟩
theorem xk_147_11 : xk_OkA xp_F (xp_P sc) xp_cl xp_BW xp_NW xp_SW xp_exn 147 11 (.goto 25) := ⟨_, xd_147_21, by unfold xf_to; decide +kernel⟩
theorem xk_147_12 : xk_OkA xp_F (xp_P sc) xp_cl xp_BW xp_NW xp_SW xp_exn 147 12 (.iload 2) := Or.inr ⟨2, rfl, xd_147_24, rfl⟩
theorem xk_147_13 : xk_OkA xp_F (xp_P sc) xp_cl xp_BW xp_NW xp_SW xp_exn 147 13 (.ifCond .lt 22) := ⟨_, xd_147_25, by unfold xf_to; decide +kernel, rfl⟩
theorem xk_147_14 : xk_OkA xp_F (xp_P sc) xp_cl xp_BW xp_NW xp_SW xp_exn 147 14 (.iload 2) := Or.inr ⟨2, rfl, xd_147_28, rfl⟩
theorem xk_147_15 : xk_OkA xp_F (xp_P sc) xp_cl xp_BW xp_NW xp_SW xp_exn 147 15 (.iconst 4) := Or.inl ⟨xd_147_29, rfl⟩
theorem xk_147_16 : xk_OkA xp_F (xp_P sc) xp_cl xp_BW xp_NW xp_SW xp_exn 147 16 (.aload 0) := Or.inr ⟨0, rfl, xd_147_30, rfl⟩
theorem xk_147_17 : xk_OkA xp_F (xp_P sc) xp_cl xp_BW xp_NW xp_SW xp_exn 147 17 (.getfield 134) := ⟨_, xd_147_31, rfl, ⟨_, _, _, rfl, by decide, xu_4, Or.inl xwt_760⟩⟩
theorem xk_147_18 : xk_OkA xp_F (xp_P sc) xp_cl xp_BW xp_NW xp_SW xp_exn 147 18 (.iload 1) := Or.inr ⟨1, rfl, xd_147_34, rfl⟩
theorem xk_147_19 : xk_OkA xp_F (xp_P sc) xp_cl xp_BW xp_NW xp_SW xp_exn 147 19 (.invokeinterface 114 2) := ⟨rfl, Or.inl ⟨xwt_866, rfl⟩, rfl, rfl, xwt_5, by decide +kernel, by decide +kernel, Nat.le_of_ble_eq_true rfl, _, Or.inl xwt_864, Or.inl ⟨xd_147_35, xwt_865, rfl, by decide +kernel⟩⟩
theorem xk_147_20 : xk_OkA xp_F (xp_P sc) xp_cl xp_BW xp_NW xp_SW xp_exn 147 20 (.imul) := ⟨xd_147_38, rfl⟩
theorem xk_147_21 : xk_OkA xp_F (xp_P sc) xp_cl xp_BW xp_NW xp_SW xp_exn 147 21 (.if_icmp .lt 24) := ⟨_, xd_147_39, by unfold xf_to; decide +kernel, rfl⟩
theorem xk_147_22 : xk_OkA xp_F (xp_P sc) xp_cl xp_BW xp_NW xp_SW xp_exn 147 22 (.iconst 3) := Or.inl ⟨xd_147_42, rfl⟩
theorem xk_147_23 : xk_OkA xp_F (xp_P sc) xp_cl xp_BW xp_NW xp_SW xp_exn 147 23 (.goto 25) := ⟨_, xd_147_43, by unfold xf_to; decide +kernel⟩
theorem xk_147_24 : xk_OkA xp_F (xp_P sc) xp_cl xp_BW xp_NW xp_SW xp_exn 147 24 (.iconst 0) := Or.inl ⟨xd_147_46, rfl⟩
theorem xk_147_25 : xk_OkA xp_F (xp_P sc) xp_cl xp_BW xp_NW xp_SW xp_exn 147 25 (.putfield 128) := ⟨_, xd_147_47, rfl, ⟨_, _, _, rfl, by decide, xu_4, Or.inl xwt_754⟩, xf_4_0⟩
theorem xk_147_26 : xk_OkA xp_F (xp_P sc) xp_cl xp_BW xp_NW xp_SW xp_exn 147 26 (.aload 0) := Or.inr ⟨0, rfl, xd_147_50, rfl⟩
theorem xk_147_27 : xk_OkA xp_F (xp_P sc) xp_cl xp_BW xp_NW xp_SW xp_exn 147 27 (.getfield 128) := ⟨_, xd_147_51, rfl, ⟨_, _, _, rfl, by decide, xu_4, Or.inl xwt_754⟩⟩
theorem xk_147_28 : xk_OkA xp_F (xp_P sc) xp_cl xp_BW xp_NW xp_SW xp_exn 147 28 (.ifCond .le 31) := ⟨_, xd_147_54, by unfold xf_to; decide +kernel, rfl⟩
theorem xk_147_29 : xk_OkA xp_F (xp_P sc) xp_cl xp_BW xp_NW xp_SW xp_exn 147 29 (.iconst 0) := Or.inl ⟨xd_147_57, rfl⟩
theorem xk_147_30 : xk_OkA xp_F (xp_P sc) xp_cl xp_BW xp_NW xp_SW xp_exn 147 30 (.ireturn) := ⟨xd_147_58, rfl⟩
theorem xk_147_31 : xk_OkA xp_F (xp_P sc) xp_cl xp_BW xp_NW xp_SW xp_exn 147 31 (.iconst 9) := Or.inr (Or.inl ⟨xd_147_59, by decide +kernel, rfl⟩)
theorem xk_147_32 : xk_OkA xp_F (xp_P sc) xp_cl xp_BW xp_NW xp_SW xp_exn 147 32 (.iconst 10) := Or.inr (Or.inl ⟨xd_147_61, by decide +kernel, rfl⟩)
theorem xk_147_33 : xk_OkA xp_F (xp_P sc) xp_cl xp_BW xp_NW xp_SW xp_exn 147 33 (.iload 1) := Or.inr ⟨1, rfl, xd_147_63, rfl⟩
theorem xk_147_34 : xk_OkA xp_F (xp_P sc) xp_cl xp_BW xp_NW xp_SW xp_exn 147 34 (.imul) := ⟨xd_147_64, rfl⟩
theorem xk_147_35 : xk_OkA xp_F (xp_P sc) xp_cl xp_BW xp_NW xp_SW xp_exn 147 35 (.iadd) := ⟨xd_147_65, rfl⟩
theorem xk_147_36 : xk_OkA xp_F (xp_P sc) xp_cl xp_BW xp_NW xp_SW xp_exn 147 36 (.iconst 2) := Or.inl ⟨xd_147_66, rfl⟩
theorem xk_147_37 : xk_OkA xp_F (xp_P sc) xp_cl xp_BW xp_NW xp_SW xp_exn 147 37 (.aload 0) := Or.inr ⟨0, rfl, xd_147_67, rfl⟩
theorem xk_147_38 : xk_OkA xp_F (xp_P sc) xp_cl xp_BW xp_NW xp_SW xp_exn 147 38 (.iload 1) := Or.inr ⟨1, rfl, xd_147_68, rfl⟩
theorem xk_147_39 : xk_OkA xp_F (xp_P sc) xp_cl xp_BW xp_NW xp_SW xp_exn 147 39 (.iload 2) := Or.inr ⟨2, rfl, xd_147_69, rfl⟩
theorem xk_147_40 : xk_OkA xp_F (xp_P sc) xp_cl xp_BW xp_NW xp_SW xp_exn 147 40 (.invokeinterface 144 3) := ⟨rfl, Or.inl ⟨xwt_937, rfl⟩, rfl, rfl, xwt_5, by decide +kernel, by decide +kernel, Nat.le_of_ble_eq_true rfl, _, Or.inl xwt_934, Or.inr ⟨xd_147_70, xwt_936, xws_96, ⟨_, _, _, rfl, rfl⟩, by decide +kernel⟩⟩
theorem xk_147_41 : xk_OkA xp_F (xp_P sc) xp_cl xp_BW xp_NW xp_SW xp_exn 147 41 (.imul) := ⟨xd_147_73, rfl⟩
theorem xk_147_42 : xk_OkA xp_F (xp_P sc) xp_cl xp_BW xp_NW xp_SW xp_exn 147 42 (.iadd) := ⟨xd_147_74, rfl⟩
theorem xk_147_43 : xk_OkA xp_F (xp_P sc) xp_cl xp_BW xp_NW xp_SW xp_exn 147 43 (.istore 3) := Or.inr ⟨3, rfl, xd_147_75, rfl⟩
theorem xk_147_44 : xk_OkA xp_F (xp_P sc) xp_cl xp_BW xp_NW xp_SW xp_exn 147 44 (.aload 0) := Or.inr ⟨0, rfl, xd_147_76, rfl⟩
theorem xk_147_45 : xk_OkA xp_F (xp_P sc) xp_cl xp_BW xp_NW xp_SW xp_exn 147 45 (.aload 0) := Or.inr ⟨0, rfl, xd_147_77, rfl⟩
theorem xk_147_46 : xk_OkA xp_F (xp_P sc) xp_cl xp_BW xp_NW xp_SW xp_exn 147 46 (.getfield 134) := ⟨_, xd_147_78, rfl, ⟨_, _, _, rfl, by decide, xu_4, Or.inl xwt_760⟩⟩
theorem xk_147_47 : xk_OkA xp_F (xp_P sc) xp_cl xp_BW xp_NW xp_SW xp_exn 147 47 (.iload 3) := Or.inr ⟨3, rfl, xd_147_81, rfl⟩
theorem xk_147_48 : xk_OkA xp_F (xp_P sc) xp_cl xp_BW xp_NW xp_SW xp_exn 147 48 (.iaload) := ⟨xd_147_82, rfl⟩
theorem xk_147_49 : xk_OkA xp_F (xp_P sc) xp_cl xp_BW xp_NW xp_SW xp_exn 147 49 (.invokeinterface 143 2) := ⟨rfl, Or.inl ⟨xwt_941, rfl⟩, rfl, rfl, xwt_5, by decide +kernel, by decide +kernel, Nat.le_of_ble_eq_true rfl, _, Or.inl xwt_938, Or.inr ⟨xd_147_83, xwt_940, xws_97, ⟨_, _, _, rfl, rfl⟩, by decide +kernel⟩⟩
theorem xk_147_50 : xk_OkA xp_F (xp_P sc) xp_cl xp_BW xp_NW xp_SW xp_exn 147 50 (.ifCond .eq 56) := ⟨_, xd_147_86, by unfold xf_to; decide +kernel, rfl⟩
theorem xk_147_51 : xk_OkA xp_F (xp_P sc) xp_cl xp_BW xp_NW xp_SW xp_exn 147 51 (.aload 0) := Or.inr ⟨0, rfl, xd_147_89, rfl⟩
theorem xk_147_52 : xk_OkA xp_F (xp_P sc) xp_cl xp_BW xp_NW xp_SW xp_exn 147 52 (.getfield 134) := ⟨_, xd_147_90, rfl, ⟨_, _, _, rfl, by decide, xu_4, Or.inl xwt_760⟩⟩
theorem xk_147_53 : xk_OkA xp_F (xp_P sc) xp_cl xp_BW xp_NW xp_SW xp_exn 147 53 (.iload 3) := Or.inr ⟨3, rfl, xd_147_93, rfl⟩
theorem xk_147_54 : xk_OkA xp_F (xp_P sc) xp_cl xp_BW xp_NW xp_SW xp_exn 147 54 (.iaload) := ⟨xd_147_94, rfl⟩
theorem xk_147_55 : xk_OkA xp_F (xp_P sc) xp_cl xp_BW xp_NW xp_SW xp_exn 147 55 (.goto 62) := ⟨_, xd_147_95, by unfold xf_to; decide +kernel⟩
theorem xk_147_56 : xk_OkA xp_F (xp_P sc) xp_cl xp_BW xp_NW xp_SW xp_exn 147 56 (.aload 0) := Or.inr ⟨0, rfl, xd_147_98, rfl⟩
theorem xk_147_57 : xk_OkA xp_F (xp_P sc) xp_cl xp_BW xp_NW xp_SW xp_exn 147 57 (.getfield 134) := ⟨_, xd_147_99, rfl, ⟨_, _, _, rfl, by decide, xu_4, Or.inl xwt_760⟩⟩
theorem xk_147_58 : xk_OkA xp_F (xp_P sc) xp_cl xp_BW xp_NW xp_SW xp_exn 147 58 (.iload 3) := Or.inr ⟨3, rfl, xd_147_102, rfl⟩
theorem xk_147_59 : xk_OkA xp_F (xp_P sc) xp_cl xp_BW xp_NW xp_SW xp_exn 147 59 (.iconst 1) := Or.inl ⟨xd_147_103, rfl⟩
theorem xk_147_60 : xk_OkA xp_F (xp_P sc) xp_cl xp_BW xp_NW xp_SW xp_exn 147 60 (.iadd) := ⟨xd_147_104, rfl⟩
theorem xk_147_61 : xk_OkA xp_F (xp_P sc) xp_cl xp_BW xp_NW xp_SW xp_exn 147 61 (.iaload) := ⟨xd_147_105, rfl⟩
theorem xk_147_62 : xk_OkA xp_F (xp_P sc) xp_cl xp_BW xp_NW xp_SW xp_exn 147 62 (.istore 4) := Or.inl ⟨xd_147_106, rfl⟩
theorem xk_147_63 : xk_OkA xp_F (xp_P sc) xp_cl xp_BW xp_NW xp_SW xp_exn 147 63 (.aload 0) := Or.inr ⟨0, rfl, xd_147_108, rfl⟩
theorem xk_147_64 : xk_OkA xp_F (xp_P sc) xp_cl xp_BW xp_NW xp_SW xp_exn 147 64 (.aload 0) := Or.inr ⟨0, rfl, xd_147_109, rfl⟩
theorem xk_147_65 : xk_OkA xp_F (xp_P sc) xp_cl xp_BW xp_NW xp_SW xp_exn 147 65 (.iload 4) := Or.inl ⟨xd_147_110, rfl⟩
theorem xk_147_66 : xk_OkA xp_F (xp_P sc) xp_cl xp_BW xp_NW xp_SW xp_exn 147 66 (.invokeinterface 143 2) := ⟨rfl, Or.inl ⟨xwt_941, rfl⟩, rfl, rfl, xwt_5, by decide +kernel, by decide +kernel, Nat.le_of_ble_eq_true rfl, _, Or.inl xwt_938, Or.inr ⟨xd_147_112, xwt_940, xws_97, ⟨_, _, _, rfl, rfl⟩, by decide +kernel⟩⟩
theorem xk_147_67 : xk_OkA xp_F (xp_P sc) xp_cl xp_BW xp_NW xp_SW xp_exn 147 67 (.ifCond .eq 70) := ⟨_, xd_147_115, by unfold xf_to; decide +kernel, rfl⟩
theorem xk_147_68 : xk_OkA xp_F (xp_P sc) xp_cl xp_BW xp_NW xp_SW xp_exn 147 68 (.iconst 0) := Or.inl ⟨xd_147_118, rfl⟩
theorem xk_147_69 : xk_OkA xp_F (xp_P sc) xp_cl xp_BW xp_NW xp_SW xp_exn 147 69 (.goto 71) := ⟨_, xd_147_119, by unfold xf_to; decide +kernel⟩
theorem xk_147_70 : xk_OkA xp_F (xp_P sc) xp_cl xp_BW xp_NW xp_SW xp_exn 147 70 (.iconst 4) := Or.inl ⟨xd_147_122, rfl⟩
theorem xk_147_71 : xk_OkA xp_F (xp_P sc) xp_cl xp_BW xp_NW xp_SW xp_exn 147 71 (.putfield 128) := ⟨_, xd_147_123, rfl, ⟨_, _, _, rfl, by decide, xu_4, Or.inl xwt_754⟩, xf_4_0⟩
theorem xk_147_72 : xk_OkA xp_F (xp_P sc) xp_cl xp_BW xp_NW xp_SW xp_exn 147 72 (.aload 0) := Or.inr ⟨0, rfl, xd_147_126, rfl⟩
theorem xk_147_73 : xk_OkA xp_F (xp_P sc) xp_cl xp_BW xp_NW xp_SW xp_exn 147 73 (.getfield 128) := ⟨_, xd_147_127, rfl, ⟨_, _, _, rfl, by decide, xu_4, Or.inl xwt_754⟩⟩
theorem xk_147_74 : xk_OkA xp_F (xp_P sc) xp_cl xp_BW xp_NW xp_SW xp_exn 147 74 (.ifCond .le 77) := ⟨_, xd_147_130, by unfold xf_to; decide +kernel, rfl⟩
theorem xk_147_75 : xk_OkA xp_F (xp_P sc) xp_cl xp_BW xp_NW xp_SW xp_exn 147 75 (.iconst 0) := Or.inl ⟨xd_147_133, rfl⟩
theorem xk_147_76 : xk_OkA xp_F (xp_P sc) xp_cl xp_BW xp_NW xp_SW xp_exn 147 76 (.goto 84) := ⟨_, xd_147_134, by unfold xf_to; decide +kernel⟩
theorem xk_147_77 : xk_OkA xp_F (xp_P sc) xp_cl xp_BW xp_NW xp_SW xp_exn 147 77 (.aload 0) := Or.inr ⟨0, rfl, xd_147_137, rfl⟩
theorem xk_147_78 : xk_OkA xp_F (xp_P sc) xp_cl xp_BW xp_NW xp_SW xp_exn 147 78 (.iload 4) := Or.inl ⟨xd_147_138, rfl⟩
theorem xk_147_79 : xk_OkA xp_F (xp_P sc) xp_cl xp_BW xp_NW xp_SW xp_exn 147 79 (.aload 0) := Or.inr ⟨0, rfl, xd_147_140, rfl⟩
theorem xk_147_80 : xk_OkA xp_F (xp_P sc) xp_cl xp_BW xp_NW xp_SW xp_exn 147 80 (.iload 1) := Or.inr ⟨1, rfl, xd_147_141, rfl⟩
theorem xk_147_81 : xk_OkA xp_F (xp_P sc) xp_cl xp_BW xp_NW xp_SW xp_exn 147 81 (.iload 2) := Or.inr ⟨2, rfl, xd_147_142, rfl⟩
theorem xk_147_82 : xk_OkA xp_F (xp_P sc) xp_cl xp_BW xp_NW xp_SW xp_exn 147 82 (.invokeinterface 145 3) := ⟨rfl, Or.inl ⟨xwt_945, rfl⟩, rfl, rfl, xwt_5, by decide +kernel, by decide +kernel, Nat.le_of_ble_eq_true rfl, _, Or.inl xwt_942, Or.inr ⟨xd_147_143, xwt_944, xws_98, ⟨_, _, _, rfl, rfl⟩, by decide +kernel⟩⟩
theorem xk_147_83 : xk_OkA xp_F (xp_P sc) xp_cl xp_BW xp_NW xp_SW xp_exn 147 83 (.invokeinterface 111 3) := ⟨rfl, Or.inl ⟨xwt_929, rfl⟩, rfl, rfl, xwt_5, by decide +kernel, by decide +kernel, Nat.le_of_ble_eq_true rfl, _, Or.inl xwt_926, Or.inr ⟨xd_147_146, xwt_928, xws_95, ⟨_, _, _, rfl, rfl⟩, by decide +kernel⟩⟩
theorem xk_147_84 : xk_OkA xp_F (xp_P sc) xp_cl xp_BW xp_NW xp_SW xp_exn 147 84 (.ireturn) := ⟨xd_147_149, rfl⟩
theorem xl_147 : xk_OkL xp_F (xp_P sc) xp_cl xp_BW xp_NW xp_SW xp_exn 147 0 xc_147 := ⟨xk_147_0, xk_147_1, xk_147_2, xk_147_3, xk_147_4, xk_147_5, xk_147_6, xk_147_7, xk_147_8, xk_147_9, xk_147_10, xk_147_11, xk_147_12, xk_147_13, xk_147_14, xk_147_15, xk_147_16, xk_147_17, xk_147_18, xk_147_19, xk_147_20, xk_147_21, xk_147_22, xk_147_23, xk_147_24, xk_147_25, xk_147_26, xk_147_27, xk_147_28, xk_147_29, xk_147_30, xk_147_31, xk_147_32, xk_147_33, xk_147_34, xk_147_35, xk_147_36, xk_147_37, xk_147_38, xk_147_39, xk_147_40, xk_147_41, xk_147_42, xk_147_43, xk_147_44, xk_147_45, xk_147_46, xk_147_47, xk_147_48, xk_147_49, xk_147_50, xk_147_51, xk_147_52, xk_147_53, xk_147_54, xk_147_55, xk_147_56, xk_147_57, xk_147_58, xk_147_59, xk_147_60, xk_147_61, xk_147_62, xk_147_63, xk_147_64, xk_147_65, xk_147_66, xk_147_67, xk_147_68, xk_147_69, xk_147_70, xk_147_71, xk_147_72, xk_147_73, xk_147_74, xk_147_75, xk_147_76, xk_147_77, xk_147_78, xk_147_79, xk_147_80, xk_147_81, xk_147_82, xk_147_83, xk_147_84, trivial⟩
theorem xd_148_0 : decode prog_6_method_43_code 0 = .ok (.aload_n 0, 1) := by decide +kernel
theorem xd_148_1 : decode prog_6_method_43_code 1 = .ok (.aload_n 0, 1) := by decide +kernel
theorem xd_148_2 : decode prog_6_method_43_code 2 = .ok (.getfield 20, 3) := by decide +kernel
theorem xd_148_5 : decode prog_6_method_43_code 5 = .ok (.ifCond .ne 7, 3) := by decide +kernel
theorem xd_148_8 : decode prog_6_method_43_code 8 = .ok (.iconst 1, 1) := by decide +kernel
theorem xd_148_9 : decode prog_6_method_43_code 9 = .ok (.goto 44, 3) := by decide +kernel
theorem xd_148_12 : decode prog_6_method_43_code 12 = .ok (.iload_n 1, 1) := by decide +kernel
theorem xd_148_13 : decode prog_6_method_43_code 13 = .ok (.invokestatic 103, 3) := by decide +kernel
theorem xd_148_16 : decode prog_6_method_43_code 16 = .ok (.ifCond .ne 7, 3) := by decide +kernel
theorem xd_148_19 : decode prog_6_method_43_code 19 = .ok (.iconst 2, 1) := by decide +kernel
theorem xd_148_20 : decode prog_6_method_43_code 20 = .ok (.goto 33, 3) := by decide +kernel
theorem xd_148_23 : decode prog_6_method_43_code 23 = .ok (.aload_n 0, 1) := by decide +kernel
theorem xd_148_24 : decode prog_6_method_43_code 24 = .ok (.getfield 28, 3) := by decide +kernel
theorem xd_148_27 : decode prog_6_method_43_code 27 = .ok (.iconst 1, 1) := by decide +kernel
theorem xd_148_28 : decode prog_6_method_43_code 28 = .ok (.iload_n 1, 1) := by decide +kernel
theorem xd_148_29 : decode prog_6_method_43_code 29 = .ok (.iadd, 1) := by decide +kernel
theorem xd_148_30 : decode prog_6_method_43_code 30 = .ok (.iaload, 1) := by decide +kernel
theorem xd_148_31 : decode prog_6_method_43_code 31 = .ok (.ifCond .eq 17, 3) := by decide +kernel
theorem xd_148_34 : decode prog_6_method_43_code 34 = .ok (.aload_n 0, 1) := by decide +kernel
theorem xd_148_35 : decode prog_6_method_43_code 35 = .ok (.getfield 34, 3) := by decide +kernel
theorem xd_148_38 : decode prog_6_method_43_code 38 = .ok (.ifCond .ge 10, 3) := by decide +kernel
theorem xd_148_41 : decode prog_6_method_43_code 41 = .ok (.aload_n 0, 1) := by decide +kernel
theorem xd_148_42 : decode prog_6_method_43_code 42 = .ok (.invokevirtual 52, 3) := by decide +kernel
theorem xd_148_45 : decode prog_6_method_43_code 45 = .ok (.ifCond .eq 7, 3) := by decide +kernel
theorem xd_148_48 : decode prog_6_method_43_code 48 = .ok (.iconst 3, 1) := by decide +kernel
theorem xd_148_49 : decode prog_6_method_43_code 49 = .ok (.goto 4, 3) := by decide +kernel
theorem xd_148_52 : decode prog_6_method_43_code 52 = .ok (.iconst 0, 1) := by decide +kernel
theorem xd_148_53 : decode prog_6_method_43_code 53 = .ok (.putfield 37, 3) := by decide +kernel
theorem xd_148_56 : decode prog_6_method_43_code 56 = .ok (.aload_n 0, 1) := by decide +kernel
theorem xd_148_57 : decode prog_6_method_43_code 57 = .ok (.getfield 37, 3) := by decide +kernel
theorem xd_148_60 : decode prog_6_method_43_code 60 = .ok (.ifCond .le 5, 3) := by decide +kernel
theorem xd_148_63 : decode prog_6_method_43_code 63 = .ok (.iconst 0, 1) := by decide +kernel
theorem xd_148_64 : decode prog_6_method_43_code 64 = .ok (.ireturn, 1) := by decide +kernel
theorem xd_148_65 : decode prog_6_method_43_code 65 = .ok (.aload_n 0, 1) := by decide +kernel
theorem xd_148_66 : decode prog_6_method_43_code 66 = .ok (.iload_n 1, 1) := by decide +kernel
theorem xd_148_67 : decode prog_6_method_43_code 67 = .ok (.putfield 34, 3) := by decide +kernel
theorem xd_148_70 : decode prog_6_method_43_code 70 = .ok (.aload_n 0, 1) := by decide +kernel
theorem xd_148_71 : decode prog_6_method_43_code 71 = .ok (.iconst 0, 1) := by decide +kernel
theorem xd_148_72 : decode prog_6_method_43_code 72 = .ok (.putfield 65, 3) := by decide +kernel
theorem xd_148_75 : decode prog_6_method_43_code 75 = .ok (.aload_n 0, 1) := by decide +kernel
theorem xd_148_76 : decode prog_6_method_43_code 76 = .ok (.iload_n 1, 1) := by decide +kernel
theorem xd_148_77 : decode prog_6_method_43_code 77 = .ok (.invokevirtual 116, 3) := by decide +kernel
theorem xd_148_80 : decode prog_6_method_43_code 80 = .ok (.ireturn, 1) := by decide +kernel
theorem xk_148_0 : xk_OkA xp_F (xp_P sc) xp_cl xp_BW xp_NW xp_SW xp_exn 148 0 (.aload 0) := Or.inr ⟨0, rfl, xd_148_0, rfl⟩
theorem xk_148_1 : xk_OkA xp_F (xp_P sc) xp_cl xp_BW xp_NW xp_SW xp_exn 148 1 (.aload 0) := Or.inr ⟨0, rfl, xd_148_1, rfl⟩
theorem xk_148_2 : xk_OkA xp_F (xp_P sc) xp_cl xp_BW xp_NW xp_SW xp_exn 148 2 (.getfield 132) := ⟨_, xd_148_2, rfl, ⟨_, _, _, rfl, by decide, xu_4, Or.inl xwt_758⟩⟩
theorem xk_148_3 : xk_OkA xp_F (xp_P sc) xp_cl xp_BW xp_NW xp_SW xp_exn 148 3 (.ifCond .ne 6) := ⟨_, xd_148_5, by unfold xf_to; decide +kernel, rfl⟩
theorem xk_148_4 : xk_OkA xp_F (xp_P sc) xp_cl xp_BW xp_NW xp_SW xp_exn 148 4 (.iconst 1) := Or.inl ⟨xd_148_8, rfl⟩
theorem xk_148_5 : xk_OkA xp_F (xp_P sc) xp_cl xp_BW xp_NW xp_SW xp_exn 148 5 (.goto 27) := ⟨_, xd_148_9, by unfold xf_to; decide +kernel⟩
theorem xk_148_6 : xk_OkA xp_F (xp_P sc) xp_cl xp_BW xp_NW xp_SW xp_exn 148 6 (.iload 1) := Or.inr ⟨1, rfl, xd_148_12, rfl⟩
theorem xk_148_7 : xk_OkA xp_F (xp_P sc) xp_cl xp_BW xp_NW xp_SW xp_exn 148 7 (.invokeinterface 108 1) := ⟨rfl, Or.inl ⟨xwt_804, rfl⟩, rfl, rfl, xwt_5, by decide +kernel, by decide +kernel, Nat.le_of_ble_eq_true rfl, _, Or.inl xwt_802, Or.inl ⟨xd_148_13, xwt_803, rfl, by decide +kernel⟩⟩
theorem xk_148_8 : xk_OkA xp_F (xp_P sc) xp_cl xp_BW xp_NW xp_SW xp_exn 148 8 (.ifCond .ne 11) := ⟨_, xd_148_16, by unfold xf_to; decide +kernel, rfl⟩
theorem xk_148_9 : xk_OkA xp_F (xp_P sc) xp_cl xp_BW xp_NW xp_SW xp_exn 148 9 (.iconst 2) := Or.inl ⟨xd_148_19, rfl⟩
theorem xk_148_10 : xk_OkA xp_F (xp_P sc) xp_cl xp_BW xp_NW xp_SW xp_exn 148 10 (.goto 27) := ⟨_, xd_148_20, by unfold xf_to; decide +kernel⟩
theorem xk_148_11 : xk_OkA xp_F (xp_P sc) xp_cl xp_BW xp_NW xp_SW xp_exn 148 11 (.aload 0) := Or.inr ⟨0, rfl, xd_148_23, rfl⟩
theorem xk_148_12 : xk_OkA xp_F (xp_P sc) xp_cl xp_BW xp_NW xp_SW xp_exn 148 12 (.getfield 134) := ⟨_, xd_148_24, rfl, ⟨_, _, _, rfl, by decide, xu_4, Or.inl xwt_760⟩⟩
theorem xk_148_13 : xk_OkA xp_F (xp_P sc) xp_cl xp_BW xp_NW xp_SW xp_exn 148 13 (.iconst 1) := Or.inl ⟨xd_148_27, rfl⟩
theorem xk_148_14 : xk_OkA xp_F (xp_P sc) xp_cl xp_BW xp_NW xp_SW xp_exn 148 14 (.iload 1) := Or.inr ⟨1, rfl, xd_148_28, rfl⟩
theorem xk_148_15 : xk_OkA xp_F (xp_P sc) xp_cl xp_BW xp_NW xp_SW xp_exn 148 15 (.iadd) := ⟨xd_148_29, rfl⟩
theorem xk_148_16 : xk_OkA xp_F (xp_P sc) xp_cl xp_BW xp_NW xp_SW xp_exn 148 16 (.iaload) := ⟨xd_148_30, rfl⟩
theorem xk_148_17 : xk_OkA xp_F (xp_P sc) xp_cl xp_BW xp_NW xp_SW xp_exn 148 17 (.ifCond .eq 24) := ⟨_, xd_148_31, by unfold xf_to; decide +kernel, rfl⟩
theorem xk_148_18 : xk_OkA xp_F (xp_P sc) xp_cl xp_BW xp_NW xp_SW xp_exn 148 18 (.aload 0) := Or.inr ⟨0, rfl, xd_148_34, rfl⟩
theorem xk_148_19 : xk_OkA xp_F (xp_P sc) xp_cl xp_BW xp_NW xp_SW xp_exn 148 19 (.getfield 136) := ⟨_, xd_148_35, rfl, ⟨_, _, _, rfl, by decide, xu_4, Or.inl xwt_762⟩⟩
theorem xk_148_20 : xk_OkA xp_F (xp_P sc) xp_cl xp_BW xp_NW xp_SW xp_exn 148 20 (.ifCond .ge 24) := ⟨_, xd_148_38, by unfold xf_to; decide +kernel, rfl⟩
theorem xk_148_21 : xk_OkA xp_F (xp_P sc) xp_cl xp_BW xp_NW xp_SW xp_exn 148 21 (.aload 0) := Or.inr ⟨0, rfl, xd_148_41, rfl⟩
theorem xk_148_22 : xk_OkA xp_F (xp_P sc) xp_cl xp_BW xp_NW xp_SW xp_exn 148 22 (.invokeinterface 118 1) := ⟨rfl, Or.inl ⟨xwt_808, rfl⟩, rfl, rfl, xwt_5, by decide +kernel, by decide +kernel, Nat.le_of_ble_eq_true rfl, _, Or.inl xwt_805, Or.inr ⟨xd_148_42, xwt_807, xws_77, ⟨_, _, _, rfl, rfl⟩, by decide +kernel⟩⟩
theorem xk_148_23 : xk_OkA xp_F (xp_P sc) xp_cl xp_BW xp_NW xp_SW xp_exn 148 23 (.ifCond .eq 26) := ⟨_, xd_148_45, by unfold xf_to; decide +kernel, rfl⟩
theorem xk_148_24 : xk_OkA xp_F (xp_P sc) xp_cl xp_BW xp_NW xp_SW xp_exn 148 24 (.iconst 3) := Or.inl ⟨xd_148_48, rfl⟩
theorem xk_148_25 : xk_OkA xp_F (xp_P sc) xp_cl xp_BW xp_NW xp_SW xp_exn 148 25 (.goto 27) := ⟨_, xd_148_49, by unfold xf_to; decide +kernel⟩
theorem xk_148_26 : xk_OkA xp_F (xp_P sc) xp_cl xp_BW xp_NW xp_SW xp_exn 148 26 (.iconst 0) := Or.inl ⟨xd_148_52, rfl⟩
theorem xk_148_27 : xk_OkA xp_F (xp_P sc) xp_cl xp_BW xp_NW xp_SW xp_exn 148 27 (.putfield 128) := ⟨_, xd_148_53, rfl, ⟨_, _, _, rfl, by decide, xu_4, Or.inl xwt_754⟩, xf_4_0⟩
theorem xk_148_28 : xk_OkA xp_F (xp_P sc) xp_cl xp_BW xp_NW xp_SW xp_exn 148 28 (.aload 0) := Or.inr ⟨0, rfl, xd_148_56, rfl⟩
theorem xk_148_29 : xk_OkA xp_F (xp_P sc) xp_cl xp_BW xp_NW xp_SW xp_exn 148 29 (.getfield 128) := ⟨_, xd_148_57, rfl, ⟨_, _, _, rfl, by decide, xu_4, Or.inl xwt_754⟩⟩
theorem xk_148_30 : xk_OkA xp_F (xp_P sc) xp_cl xp_BW xp_NW xp_SW xp_exn 148 30 (.ifCond .le 33) := ⟨_, xd_148_60, by unfold xf_to; decide +kernel, rfl⟩
theorem xk_148_31 : xk_OkA xp_F (xp_P sc) xp_cl xp_BW xp_NW xp_SW xp_exn 148 31 (.iconst 0) := Or.inl ⟨xd_148_63, rfl⟩
theorem xk_148_32 : xk_OkA xp_F (xp_P sc) xp_cl xp_BW xp_NW xp_SW xp_exn 148 32 (.ireturn) := ⟨xd_148_64, rfl⟩
theorem xk_148_33 : xk_OkA xp_F (xp_P sc) xp_cl xp_BW xp_NW xp_SW xp_exn 148 33 (.aload 0) := Or.inr ⟨0, rfl, xd_148_65, rfl⟩
theorem xk_148_34 : xk_OkA xp_F (xp_P sc) xp_cl xp_BW xp_NW xp_SW xp_exn 148 34 (.iload 1) := Or.inr ⟨1, rfl, xd_148_66, rfl⟩
theorem xk_148_35 : xk_OkA xp_F (xp_P sc) xp_cl xp_BW xp_NW xp_SW xp_exn 148 35 (.putfield 136) := ⟨_, xd_148_67, rfl, ⟨_, _, _, rfl, by decide, xu_4, Or.inl xwt_762⟩, xf_4_8⟩
theorem xk_148_36 : xk_OkA xp_F (xp_P sc) xp_cl xp_BW xp_NW xp_SW xp_exn 148 36 (.aload 0) := Or.inr ⟨0, rfl, xd_148_70, rfl⟩
theorem xk_148_37 : xk_OkA xp_F (xp_P sc) xp_cl xp_BW xp_NW xp_SW xp_exn 148 37 (.iconst 0) := Or.inl ⟨xd_148_71, rfl⟩
theorem xk_148_38 : xk_OkA xp_F (xp_P sc) xp_cl xp_BW xp_NW xp_SW xp_exn 148 38 (.putfield 139) := ⟨_, xd_148_72, rfl, ⟨_, _, _, rfl, by decide, xu_4, Or.inl xwt_765⟩, xf_4_11⟩
theorem xk_148_39 : xk_OkA xp_F (xp_P sc) xp_cl xp_BW xp_NW xp_SW xp_exn 148 39 (.aload 0) := Or.inr ⟨0, rfl, xd_148_75, rfl⟩
theorem xk_148_40 : xk_OkA xp_F (xp_P sc) xp_cl xp_BW xp_NW xp_SW xp_exn 148 40 (.iload 1) := Or.inr ⟨1, rfl, xd_148_76, rfl⟩
theorem xk_148_41 : xk_OkA xp_F (xp_P sc) xp_cl xp_BW xp_NW xp_SW xp_exn 148 41 (.invokeinterface 117 2) := ⟨rfl, Or.inl ⟨xwt_844, rfl⟩, rfl, rfl, xwt_5, by decide +kernel, by decide +kernel, Nat.le_of_ble_eq_true rfl, _, Or.inl xwt_841, Or.inr ⟨xd_148_77, xwt_843, xws_85, ⟨_, _, _, rfl, rfl⟩, by decide +kernel⟩⟩
theorem xk_148_42 : xk_OkA xp_F (xp_P sc) xp_cl xp_BW xp_NW xp_SW xp_exn 148 42 (.ireturn) := ⟨xd_148_80, rfl⟩
theorem xl_148 : xk_OkL xp_F (xp_P sc) xp_cl xp_BW xp_NW xp_SW xp_exn 148 0 xc_148 := ⟨xk_148_0, xk_148_1, xk_148_2, xk_148_3, xk_148_4, xk_148_5, xk_148_6, xk_148_7, xk_148_8, xk_148_9, xk_148_10, xk_148_11, xk_148_12, xk_148_13, xk_148_14, xk_148_15, xk_148_16, xk_148_17, xk_148_18, xk_148_19, xk_148_20, xk_148_21, xk_148_22, xk_148_23, xk_148_24, xk_148_25, xk_148_26, xk_148_27, xk_148_28, xk_148_29, xk_148_30, xk_148_31, xk_148_32, xk_148_33, xk_148_34, xk_148_35, xk_148_36, xk_148_37, xk_148_38, xk_148_39, xk_148_40, xk_148_41, xk_148_42, trivial⟩
theorem xd_149_0 : decode prog_6_method_44_code 0 = .ok (.aload_n 0, 1) := by decide +kernel
theorem xd_149_1 : decode prog_6_method_44_code 1 = .ok (.aload_n 0, 1) := by decide +kernel
theorem xd_149_2 : decode prog_6_method_44_code 2 = .ok (.getfield 20, 3) := by decide +kernel
theorem xd_149_5 : decode prog_6_method_44_code 5 = .ok (.ifCond .ne 7, 3) := by decide +kernel
theorem xd_149_8 : decode prog_6_method_44_code 8 = .ok (.iconst 1, 1) := by decide +kernel
theorem xd_149_9 : decode prog_6_method_44_code 9 = .ok (.goto 15, 3) := by decide +kernel
theorem xd_149_12 : decode prog_6_method_44_code 12 = .ok (.aload_n 0, 1) := by decide +kernel
theorem xd_149_13 : decode prog_6_method_44_code 13 = .ok (.getfield 34, 3) := by decide +kernel
theorem xd_149_16 : decode prog_6_method_44_code 16 = .ok (.ifCond .ge 7, 3) := by decide +kernel
theorem xd_149_19 : decode prog_6_method_44_code 19 = .ok (.iconst 2, 1) := by decide +kernel
theorem xd_149_20 : decode prog_6_method_44_code 20 = .ok (.goto 4, 3) := by decide +kernel
theorem xd_149_23 : decode prog_6_method_44_code 23 = .ok (.iconst 0, 1) := by decide +kernel
theorem xd_149_24 : decode prog_6_method_44_code 24 = .ok (.putfield 37, 3) := by decide +kernel
theorem xd_149_27 : decode prog_6_method_44_code 27 = .ok (.aload_n 0, 1) := by decide +kernel
theorem xd_149_28 : decode prog_6_method_44_code 28 = .ok (.getfield 37, 3) := by decide +kernel
theorem xd_149_31 : decode prog_6_method_44_code 31 = .ok (.ifCond .le 5, 3) := by decide +kernel
theorem xd_149_34 : decode prog_6_method_44_code 34 = .ok (.iconst 0, 1) := by decide +kernel
theorem xd_149_35 : decode prog_6_method_44_code 35 = .ok (.ireturn, 1) := by decide +kernel
theorem xd_149_36 : decode prog_6_method_44_code 36 = .ok (.aload_n 0, 1) := by decide +kernel
theorem xd_149_37 : decode prog_6_method_44_code 37 = .ok (.getfield 65, 3) := by decide +kernel
theorem xd_149_40 : decode prog_6_method_44_code 40 = .ok (.ifCond .ne 123, 3) := by decide +kernel
theorem xd_149_43 : decode prog_6_method_44_code 43 = .ok (.bipush 9, 2) := by decide +kernel
theorem xd_149_45 : decode prog_6_method_44_code 45 = .ok (.istore_n 1, 1) := by decide +kernel
theorem xd_149_46 : decode prog_6_method_44_code 46 = .ok (.iload_n 1, 1) := by decide +kernel
theorem xd_149_47 : decode prog_6_method_44_code 47 = .ok (.bipush 49, 2) := by decide +kernel
theorem xd_149_49 : decode prog_6_method_44_code 49 = .ok (.if_icmp .ge 36, 3) := by decide +kernel
theorem xd_149_52 : decode prog_6_method_44_code 52 = .ok (.aload_n 0, 1) := by decide +kernel
theorem xd_149_53 : decode prog_6_method_44_code 53 = .ok (.getfield 28, 3) := by decide +kernel
theorem xd_149_56 : decode prog_6_method_44_code 56 = .ok (.iload_n 1, 1) := by decide +kernel
theorem xd_149_57 : decode prog_6_method_44_code 57 = .ok (.iaload, 1) := by decide +kernel
theorem xd_149_58 : decode prog_6_method_44_code 58 = .ok (.ifCond .eq 21, 3) := by decide +kernel
theorem xd_149_61 : decode prog_6_method_44_code 61 = .ok (.aload_n 0, 1) := by decide +kernel
theorem xd_149_62 : decode prog_6_method_44_code 62 = .ok (.getfield 28, 3) := by decide +kernel
theorem xd_149_65 : decode prog_6_method_44_code 65 = .ok (.iload_n 1, 1) := by decide +kernel
theorem xd_149_66 : decode prog_6_method_44_code 66 = .ok (.iaload, 1) := by decide +kernel
theorem xd_149_67 : decode prog_6_method_44_code 67 = .ok (.iconst 1, 1) := by decide +kernel
theorem xd_149_68 : decode prog_6_method_44_code 68 = .ok (.isub, 1) := by decide +kernel
theorem xd_149_69 : decode prog_6_method_44_code 69 = .ok (.bipush 8, 2) := by decide +kernel
theorem xd_149_71 : decode prog_6_method_44_code 71 = .ok (.idiv, 1) := by decide +kernel
theorem xd_149_72 : decode prog_6_method_44_code 72 = .ok (.aload_n 0, 1) := by decide +kernel
theorem xd_149_73 : decode prog_6_method_44_code 73 = .ok (.getfield 34, 3) := by decide +kernel
theorem xd_149_76 : decode prog_6_method_44_code 76 = .ok (.if_icmp .eq 9, 3) := by decide +kernel
theorem xd_149_79 : decode prog_6_method_44_code 79 = .ok (.iinc 1 (1), 3) := by decide +kernel
theorem xd_149_82 : decode prog_6_method_44_code 82 = .ok (.goto (-36), 3) := by decide +kernel
theorem xd_149_85 : decode prog_6_method_44_code 85 = .ok (.iload_n 1, 1) := by decide +kernel
theorem xd_149_86 : decode prog_6_method_44_code 86 = .ok (.bipush 49, 2) := by decide +kernel
theorem xd_149_88 : decode prog_6_method_44_code 88 = .ok (.if_icmp .ne 10, 3) := by decide +kernel
theorem xd_149_91 : decode prog_6_method_44_code 91 = .ok (.aload_n 0, 1) := by decide +kernel
theorem xd_149_92 : decode prog_6_method_44_code 92 = .ok (.iconst (-1), 1) := by decide +kernel
theorem xd_149_93 : decode prog_6_method_44_code 93 = .ok (.putfield 34, 3) := by decide +kernel
theorem xd_149_96 : decode prog_6_method_44_code 96 = .ok (.iconst 0, 1) := by decide +kernel
theorem xd_149_97 : decode prog_6_method_44_code 97 = .ok (.ireturn, 1) := by decide +kernel
theorem xd_149_98 : decode prog_6_method_44_code 98 = .ok (.aload_n 0, 1) := by decide +kernel
theorem xd_149_99 : decode prog_6_method_44_code 99 = .ok (.iload_n 1, 1) := by decide +kernel
theorem xd_149_100 : decode prog_6_method_44_code 100 = .ok (.bipush 9, 2) := by decide +kernel
theorem xd_149_102 : decode prog_6_method_44_code 102 = .ok (.isub, 1) := by decide +kernel
theorem xd_149_103 : decode prog_6_method_44_code 103 = .ok (.bipush 10, 2) := by decide +kernel
theorem xd_149_105 : decode prog_6_method_44_code 105 = .ok (.idiv, 1) := by decide +kernel
theorem xd_149_106 : decode prog_6_method_44_code 106 = .ok (.putfield 59, 3) := by decide +kernel
theorem xd_149_109 : decode prog_6_method_44_code 109 = .ok (.aload_n 0, 1) := by decide +kernel
theorem xd_149_110 : decode prog_6_method_44_code 110 = .ok (.iload_n 1, 1) := by decide +kernel
theorem xd_149_111 : decode prog_6_method_44_code 111 = .ok (.bipush 9, 2) := by decide +kernel
theorem xd_149_113 : decode prog_6_method_44_code 113 = .ok (.isub, 1) := by decide +kernel
theorem xd_149_114 : decode prog_6_method_44_code 114 = .ok (.bipush 10, 2) := by decide +kernel
theorem xd_149_116 : decode prog_6_method_44_code 116 = .ok (.irem, 1) := by decide +kernel
theorem xd_149_117 : decode prog_6_method_44_code 117 = .ok (.putfield 62, 3) := by decide +kernel
theorem xd_149_120 : decode prog_6_method_44_code 120 = .ok (.aload_n 0, 1) := by decide +kernel
theorem xd_149_121 : decode prog_6_method_44_code 121 = .ok (.iconst 0, 1) := by decide +kernel
theorem xd_149_122 : decode prog_6_method_44_code 122 = .ok (.putfield 152, 3) := by decide +kernel
theorem xd_149_125 : decode prog_6_method_44_code 125 = .ok (.aload_n 0, 1) := by decide +kernel
theorem xd_149_126 : decode prog_6_method_44_code 126 = .ok (.aload_n 0, 1) := by decide +kernel
theorem xd_149_127 : decode prog_6_method_44_code 127 = .ok (.aload_n 0, 1) := by decide +kernel
theorem xd_149_128 : decode prog_6_method_44_code 128 = .ok (.getfield 28, 3) := by decide +kernel
theorem xd_149_131 : decode prog_6_method_44_code 131 = .ok (.aload_n 0, 1) := by decide +kernel
theorem xd_149_132 : decode prog_6_method_44_code 132 = .ok (.getfield 59, 3) := by decide +kernel
theorem xd_149_135 : decode prog_6_method_44_code 135 = .ok (.aload_n 0, 1) := by decide +kernel
theorem xd_149_136 : decode prog_6_method_44_code 136 = .ok (.getfield 62, 3) := by decide +kernel
theorem xd_149_139 : decode prog_6_method_44_code 139 = .ok (.aload_n 0, 1) := by decide +kernel
theorem xd_149_140 : decode prog_6_method_44_code 140 = .ok (.getfield 34, 3) := by decide +kernel
theorem xd_149_143 : decode prog_6_method_44_code 143 = .ok (.invokevirtual 95, 3) := by decide +kernel
theorem xd_149_146 : decode prog_6_method_44_code 146 = .ok (.putfield 65, 3) := by decide +kernel
theorem xd_149_149 : decode prog_6_method_44_code 149 = .ok (.aload_n 0, 1) := by decide +kernel
theorem xd_149_150 : decode prog_6_method_44_code 150 = .ok (.getfield 65, 3) := by decide +kernel
theorem xd_149_153 : decode prog_6_method_44_code 153 = .ok (.ifCond .ne 10, 3) := by decide +kernel
theorem xd_149_156 : decode prog_6_method_44_code 156 = .ok (.aload_n 0, 1) := by decide +kernel
theorem xd_149_157 : decode prog_6_method_44_code 157 = .ok (.iconst (-1), 1) := by decide +kernel
theorem xd_149_158 : decode prog_6_method_44_code 158 = .ok (.putfield 34, 3) := by decide +kernel
theorem xd_149_161 : decode prog_6_method_44_code 161 = .ok (.iconst (-1), 1) := by decide +kernel
theorem xd_149_162 : decode prog_6_method_44_code 162 = .ok (.ireturn, 1) := by decide +kernel
theorem xd_149_163 : decode prog_6_method_44_code 163 = .ok (.bipush 9, 2) := by decide +kernel
theorem xd_149_165 : decode prog_6_method_44_code 165 = .ok (.bipush 10, 2) := by decide +kernel
theorem xd_149_167 : decode prog_6_method_44_code 167 = .ok (.aload_n 0, 1) := by decide +kernel
theorem xd_149_168 : decode prog_6_method_44_code 168 = .ok (.getfield 59, 3) := by decide +kernel
theorem xd_149_171 : decode prog_6_method_44_code 171 = .ok (.imul, 1) := by decide +kernel
theorem xd_149_172 : decode prog_6_method_44_code 172 = .ok (.iadd, 1) := by decide +kernel
theorem xd_149_173 : decode prog_6_method_44_code 173 = .ok (.aload_n 0, 1) := by decide +kernel
theorem xd_149_174 : decode prog_6_method_44_code 174 = .ok (.getfield 62, 3) := by decide +kernel
theorem xd_149_177 : decode prog_6_method_44_code 177 = .ok (.iadd, 1) := by decide +kernel
theorem xd_149_178 : decode prog_6_method_44_code 178 = .ok (.istore_n 1, 1) := by decide +kernel
theorem xd_149_179 : decode prog_6_method_44_code 179 = .ok (.aload_n 0, 1) := by decide +kernel
theorem xd_149_180 : decode prog_6_method_44_code 180 = .ok (.aload_n 0, 1) := by decide +kernel
theorem xd_149_181 : decode prog_6_method_44_code 181 = .ok (.getfield 65, 3) := by decide +kernel
theorem xd_149_184 : decode prog_6_method_44_code 184 = .ok (.aload_n 0, 1) := by decide +kernel
theorem xd_149_185 : decode prog_6_method_44_code 185 = .ok (.getfield 152, 3) := by decide +kernel
theorem xd_149_188 : decode prog_6_method_44_code 188 = .ok (.aload_n 0, 1) := by decide +kernel
theorem xd_149_189 : decode prog_6_method_44_code 189 = .ok (.aload_n 0, 1) := by decide +kernel
theorem xd_149_190 : decode prog_6_method_44_code 190 = .ok (.getfield 28, 3) := by decide +kernel
theorem xd_149_193 : decode prog_6_method_44_code 193 = .ok (.iload_n 1, 1) := by decide +kernel
theorem xd_149_194 : decode prog_6_method_44_code 194 = .ok (.iaload, 1) := by decide +kernel
theorem xd_149_195 : decode prog_6_method_44_code 195 = .ok (.aload_n 0, 1) := by decide +kernel
theorem xd_149_196 : decode prog_6_method_44_code 196 = .ok (.getfield 152, 3) := by decide +kernel
theorem xd_149_199 : decode prog_6_method_44_code 199 = .ok (.invokevirtual 140, 3) := by decide +kernel
theorem xd_149_202 : decode prog_6_method_44_code 202 = .ok (.invokevirtual 99, 3) := by decide +kernel
theorem xd_149_205 : decode prog_6_method_44_code 205 = .ok (.aload_n 0, 1) := by decide +kernel
theorem xd_149_206 : decode prog_6_method_44_code 206 = .ok (.dup, 1) := by decide +kernel
theorem xd_149_207 : decode prog_6_method_44_code 207 = .ok (.getfield 152, 3) := by decide +kernel
theorem xd_149_210 : decode prog_6_method_44_code 210 = .ok (.iconst 1, 1) := by decide +kernel
theorem xd_149_211 : decode prog_6_method_44_code 211 = .ok (.iadd, 1) := by decide +kernel
theorem xd_149_212 : decode prog_6_method_44_code 212 = .ok (.putfield 152, 3) := by decide +kernel
theorem xd_149_215 : decode prog_6_method_44_code 215 = .ok (.aload_n 0, 1) := by decide +kernel
theorem xd_149_216 : decode prog_6_method_44_code 216 = .ok (.getfield 20, 3) := by decide +kernel
theorem xd_149_219 : decode prog_6_method_44_code 219 = .ok (.ifCond .eq 29, 3) := by decide +kernel
theorem xd_149_222 : decode prog_6_method_44_code 222 = .ok (.aload_n 0, 1) := by decide +kernel
theorem xd_149_223 : decode prog_6_method_44_code 223 = .ok (.getfield 152, 3) := by decide +kernel
theorem xd_149_226 : decode prog_6_method_44_code 226 = .ok (.iconst 4, 1) := by decide +kernel
theorem xd_149_227 : decode prog_6_method_44_code 227 = .ok (.if_icmp .ne 21, 3) := by decide +kernel
theorem xd_149_230 : decode prog_6_method_44_code 230 = .ok (.aload_n 0, 1) := by decide +kernel
theorem xd_149_231 : decode prog_6_method_44_code 231 = .ok (.invokevirtual 107, 3) := by decide +kernel
theorem xd_149_234 : decode prog_6_method_44_code 234 = .ok (.aload_n 0, 1) := by decide +kernel
theorem xd_149_235 : decode prog_6_method_44_code 235 = .ok (.getfield 31, 3) := by decide +kernel
theorem xd_149_238 : decode prog_6_method_44_code 238 = .ok (.iload_n 1, 1) := by decide +kernel
theorem xd_149_239 : decode prog_6_method_44_code 239 = .ok (.aload_n 0, 1) := by decide +kernel
theorem xd_149_240 : decode prog_6_method_44_code 240 = .ok (.getfield 65, 3) := by decide +kernel
theorem xd_149_243 : decode prog_6_method_44_code 243 = .ok (.iastore, 1) := by decide +kernel
theorem xd_149_244 : decode prog_6_method_44_code 244 = .ok (.aload_n 0, 1) := by decide +kernel
theorem xd_149_245 : decode prog_6_method_44_code 245 = .ok (.invokevirtual 110, 3) := by decide +kernel
theorem xd_149_248 : decode prog_6_method_44_code 248 = .ok (.aload_n 0, 1) := by decide +kernel
theorem xd_149_249 : decode prog_6_method_44_code 249 = .ok (.getfield 34, 3) := by decide +kernel
theorem xd_149_252 : decode prog_6_method_44_code 252 = .ok (.ifCond .ge 7, 3) := by decide +kernel
theorem xd_149_255 : decode prog_6_method_44_code 255 = .ok (.iconst 0, 1) := by decide +kernel
theorem xd_149_256 : decode prog_6_method_44_code 256 = .ok (.goto 11, 3) := by decide +kernel
theorem xd_149_259 : decode prog_6_method_44_code 259 = .ok (.aload_n 0, 1) := by decide +kernel
theorem xd_149_260 : decode prog_6_method_44_code 260 = .ok (.aload_n 0, 1) := by decide +kernel
theorem xd_149_261 : decode prog_6_method_44_code 261 = .ok (.getfield 34, 3) := by decide +kernel
theorem xd_149_264 : decode prog_6_method_44_code 264 = .ok (.invokevirtual 116, 3) := by decide +kernel
theorem xd_149_267 : decode prog_6_method_44_code 267 = .ok (.istore_n 2, 1) := by decide +kernel
theorem xd_149_268 : decode prog_6_method_44_code 268 = .ok (.aload_n 0, 1) := by decide +kernel
theorem xd_149_269 : decode prog_6_method_44_code 269 = .ok (.iload_n 2, 1) := by decide +kernel
theorem xd_149_270 : decode prog_6_method_44_code 270 = .ok (.ifCond .ne 7, 3) := by decide +kernel
theorem xd_149_273 : decode prog_6_method_44_code 273 = .ok (.iconst (-1), 1) := by decide +kernel
theorem xd_149_274 : decode prog_6_method_44_code 274 = .ok (.goto 7, 3) := by decide +kernel
theorem xd_149_277 : decode prog_6_method_44_code 277 = .ok (.aload_n 0, 1) := by decide +kernel
theorem xd_149_278 : decode prog_6_method_44_code 278 = .ok (.getfield 34, 3) := by decide +kernel
theorem xd_149_281 : decode prog_6_method_44_code 281 = .ok (.putfield 34, 3) := by decide +kernel
theorem xd_149_284 : decode prog_6_method_44_code 284 = .ok (.aload_n 0, 1) := by decide +kernel
theorem xd_149_285 : decode prog_6_method_44_code 285 = .ok (.iload_n 2, 1) := by decide +kernel
theorem xd_149_286 : decode prog_6_method_44_code 286 = .ok (.invokevirtual 113, 3) := by decide +kernel
theorem xd_149_289 : decode prog_6_method_44_code 289 = .ok (.ireturn, 1) := by decide +kernel
theorem xk_149_0 : xk_OkA xp_F (xp_P sc) xp_cl xp_BW xp_NW xp_SW xp_exn 149 0 (.aload 0) := Or.inr ⟨0, rfl, xd_149_0, rfl⟩
theorem xk_149_1 : xk_OkA xp_F (xp_P sc) xp_cl xp_BW xp_NW xp_SW xp_exn 149 1 (.aload 0) := Or.inr ⟨0, rfl, xd_149_1, rfl⟩
theorem xk_149_2 : xk_OkA xp_F (xp_P sc) xp_cl xp_BW xp_NW xp_SW xp_exn 149 2 (.getfield 132) := ⟨_, xd_149_2, rfl, ⟨_, _, _, rfl, by decide, xu_4, Or.inl xwt_758⟩⟩
theorem xk_149_3 : xk_OkA xp_F (xp_P sc) xp_cl xp_BW xp_NW xp_SW xp_exn 149 3 (.ifCond .ne 6) := ⟨_, xd_149_5, by unfold xf_to; decide +kernel, rfl⟩
theorem xk_149_4 : xk_OkA xp_F (xp_P sc) xp_cl xp_BW xp_NW xp_SW xp_exn 149 4 (.iconst 1) := Or.inl ⟨xd_149_8, rfl⟩
theorem xk_149_5 : xk_OkA xp_F (xp_P sc) xp_cl xp_BW xp_NW xp_SW xp_exn 149 5 (.goto 12) := ⟨_, xd_149_9, by unfold xf_to; decide +kernel⟩
theorem xk_149_6 : xk_OkA xp_F (xp_P sc) xp_cl xp_BW xp_NW xp_SW xp_exn 149 6 (.aload 0) := Or.inr ⟨0, rfl, xd_149_12, rfl⟩
theorem xk_149_7 : xk_OkA xp_F (xp_P sc) xp_cl xp_BW xp_NW xp_SW xp_exn 149 7 (.getfield 136) := ⟨_, xd_149_13, rfl, ⟨_, _, _, rfl, by decide, xu_4, Or.inl xwt_762⟩⟩
theorem xk_149_8 : xk_OkA xp_F (xp_P sc) xp_cl xp_BW xp_NW xp_SW xp_exn 149 8 (.ifCond .ge 11) := ⟨_, xd_149_16, by unfold xf_to; decide +kernel, rfl⟩
theorem xk_149_9 : xk_OkA xp_F (xp_P sc) xp_cl xp_BW xp_NW xp_SW xp_exn 149 9 (.iconst 2) := Or.inl ⟨xd_149_19, rfl⟩
theorem xk_149_10 : xk_OkA xp_F (xp_P sc) xp_cl xp_BW xp_NW xp_SW xp_exn 149 10 (.goto 12) := ⟨_, xd_149_20, by unfold xf_to; decide +kernel⟩
theorem xk_149_11 : xk_OkA xp_F (xp_P sc) xp_cl xp_BW xp_NW xp_SW xp_exn 149 11 (.iconst 0) := Or.inl ⟨xd_149_23, rfl⟩
theorem xk_149_12 : xk_OkA xp_F (xp_P sc) xp_cl xp_BW xp_NW xp_SW xp_exn 149 12 (.putfield 128) := ⟨_, xd_149_24, rfl, ⟨_, _, _, rfl, by decide, xu_4, Or.inl xwt_754⟩, xf_4_0⟩
theorem xk_149_13 : xk_OkA xp_F (xp_P sc) xp_cl xp_BW xp_NW xp_SW xp_exn 149 13 (.aload 0) := Or.inr ⟨0, rfl, xd_149_27, rfl⟩
theorem xk_149_14 : xk_OkA xp_F (xp_P sc) xp_cl xp_BW xp_NW xp_SW xp_exn 149 14 (.getfield 128) := ⟨_, xd_149_28, rfl, ⟨_, _, _, rfl, by decide, xu_4, Or.inl xwt_754⟩⟩
theorem xk_149_15 : xk_OkA xp_F (xp_P sc) xp_cl xp_BW xp_NW xp_SW xp_exn 149 15 (.ifCond .le 18) := ⟨_, xd_149_31, by unfold xf_to; decide +kernel, rfl⟩
theorem xk_149_16 : xk_OkA xp_F (xp_P sc) xp_cl xp_BW xp_NW xp_SW xp_exn 149 16 (.iconst 0) := Or.inl ⟨xd_149_34, rfl⟩
theorem xk_149_17 : xk_OkA xp_F (xp_P sc) xp_cl xp_BW xp_NW xp_SW xp_exn 149 17 (.ireturn) := ⟨xd_149_35, rfl⟩
theorem xk_149_18 : xk_OkA xp_F (xp_P sc) xp_cl xp_BW xp_NW xp_SW xp_exn 149 18 (.aload 0) := Or.inr ⟨0, rfl, xd_149_36, rfl⟩
theorem xk_149_19 : xk_OkA xp_F (xp_P sc) xp_cl xp_BW xp_NW xp_SW xp_exn 149 19 (.getfield 139) := ⟨_, xd_149_37, rfl, ⟨_, _, _, rfl, by decide, xu_4, Or.inl xwt_765⟩⟩
theorem xk_149_20 : xk_OkA xp_F (xp_P sc) xp_cl xp_BW xp_NW xp_SW xp_exn 149 20 (.ifCond .ne 89) := ⟨_, xd_149_40, by unfold xf_to; decide +kernel, rfl⟩
theorem xk_149_21 : xk_OkA xp_F (xp_P sc) xp_cl xp_BW xp_NW xp_SW xp_exn 149 21 (.iconst 9) := Or.inr (Or.inl ⟨xd_149_43, by decide +kernel, rfl⟩)
theorem xk_149_22 : xk_OkA xp_F (xp_P sc) xp_cl xp_BW xp_NW xp_SW xp_exn 149 22 (.istore 1) := Or.inr ⟨1, rfl, xd_149_45, rfl⟩
theorem xk_149_23 : xk_OkA xp_F (xp_P sc) xp_cl xp_BW xp_NW xp_SW xp_exn 149 23 (.iload 1) := Or.inr ⟨1, rfl, xd_149_46, rfl⟩
theorem xk_149_24 : xk_OkA xp_F (xp_P sc) xp_cl xp_BW xp_NW xp_SW xp_exn 149 24 (.iconst 49) := Or.inr (Or.inl ⟨xd_149_47, by decide +kernel, rfl⟩)
theorem xk_149_25 : xk_OkA xp_F (xp_P sc) xp_cl xp_BW xp_NW xp_SW xp_exn 149 25 (.if_icmp .ge 44) := ⟨_, xd_149_49, by unfold xf_to; decide +kernel, rfl⟩
theorem xk_149_26 : xk_OkA xp_F (xp_P sc) xp_cl xp_BW xp_NW xp_SW xp_exn 149 26 (.aload 0) := Or.inr ⟨0, rfl, xd_149_52, rfl⟩
theorem xk_149_27 : xk_OkA xp_F (xp_P sc) xp_cl xp_BW xp_NW xp_SW xp_exn 149 27 (.getfield 134) := ⟨_, xd_149_53, rfl, ⟨_, _, _, rfl, by decide, xu_4, Or.inl xwt_760⟩⟩
theorem xk_149_28 : xk_OkA xp_F (xp_P sc) xp_cl xp_BW xp_NW xp_SW xp_exn 149 28 (.iload 1) := Or.inr ⟨1, rfl, xd_149_56, rfl⟩
theorem xk_149_29 : xk_OkA xp_F (xp_P sc) xp_cl xp_BW xp_NW xp_SW xp_exn 149 29 (.iaload) := ⟨xd_149_57, rfl⟩
theorem xk_149_30 : xk_OkA xp_F (xp_P sc) xp_cl xp_BW xp_NW xp_SW xp_exn 149 30 (.ifCond .eq 42) := ⟨_, xd_149_58, by unfold xf_to; decide +kernel, rfl⟩
theorem xk_149_31 : xk_OkA xp_F (xp_P sc) xp_cl xp_BW xp_NW xp_SW xp_exn 149 31 (.aload 0) := Or.inr ⟨0, rfl, xd_149_61, rfl⟩
theorem xk_149_32 : xk_OkA xp_F (xp_P sc) xp_cl xp_BW xp_NW xp_SW xp_exn 149 32 (.getfield 134) := ⟨_, xd_149_62, rfl, ⟨_, _, _, rfl, by decide, xu_4, Or.inl xwt_760⟩⟩
theorem xk_149_33 : xk_OkA xp_F (xp_P sc) xp_cl xp_BW xp_NW xp_SW xp_exn 149 33 (.iload 1) := Or.inr ⟨1, rfl, xd_149_65, rfl⟩
theorem xk_149_34 : xk_OkA xp_F (xp_P sc) xp_cl xp_BW xp_NW xp_SW xp_exn 149 34 (.iaload) := ⟨xd_149_66, rfl⟩
theorem xk_149_35 : xk_OkA xp_F (xp_P sc) xp_cl xp_BW xp_NW xp_SW xp_exn 149 35 (.iconst 1) := Or.inl ⟨xd_149_67, rfl⟩
theorem xk_149_36 : xk_OkA xp_F (xp_P sc) xp_cl xp_BW xp_NW xp_SW xp_exn 149 36 (.isub) := ⟨xd_149_68, rfl⟩
theorem xk_149_37 : xk_OkA xp_F (xp_P sc) xp_cl xp_BW xp_NW xp_SW xp_exn 149 37 (.iconst 8) := Or.inr (Or.inl ⟨xd_149_69, by decide +kernel, rfl⟩)
theorem xk_149_38 : xk_OkA xp_F (xp_P sc) xp_cl xp_BW xp_NW xp_SW xp_exn 149 38 (.idiv) := ⟨xd_149_71, rfl⟩
theorem xk_149_39 : xk_OkA xp_F (xp_P sc) xp_cl xp_BW xp_NW xp_SW xp_exn 149 39 (.aload 0) := Or.inr ⟨0, rfl, xd_149_72, rfl⟩
theorem xk_149_40 : xk_OkA xp_F (xp_P sc) xp_cl xp_BW xp_NW xp_SW xp_exn 149 40 (.getfield 136) := ⟨_, xd_149_73, rfl, ⟨_, _, _, rfl, by decide, xu_4, Or.inl xwt_762⟩⟩
theorem xk_149_41 : xk_OkA xp_F (xp_P sc) xp_cl xp_BW xp_NW xp_SW xp_exn 149 41 (.if_icmp .eq 44) := ⟨_, xd_149_76, by unfold xf_to; decide +kernel, rfl⟩
theorem xk_149_42 : xk_OkA xp_F (xp_P sc) xp_cl xp_BW xp_NW xp_SW xp_exn 149 42 (.iinc 1 (1)) := ⟨xd_149_79, rfl⟩
theorem xk_149_43 : xk_OkA xp_F (xp_P sc) xp_cl xp_BW xp_NW xp_SW xp_exn 149 43 (.goto 23) := ⟨_, xd_149_82, by unfold xf_to; decide +kernel⟩
theorem xk_149_44 : xk_OkA xp_F (xp_P sc) xp_cl xp_BW xp_NW xp_SW xp_exn 149 44 (.iload 1) := Or.inr ⟨1, rfl, xd_149_85, rfl⟩
theorem xk_149_45 : xk_OkA xp_F (xp_P sc) xp_cl xp_BW xp_NW xp_SW xp_exn 149 45 (.iconst 49) := Or.inr (Or.inl ⟨xd_149_86, by decide +kernel, rfl⟩)
theorem xk_149_46 : xk_OkA xp_F (xp_P sc) xp_cl xp_BW xp_NW xp_SW xp_exn 149 46 (.if_icmp .ne 52) := ⟨_, xd_149_88, by unfold xf_to; decide +kernel, rfl⟩
theorem xk_149_47 : xk_OkA xp_F (xp_P sc) xp_cl xp_BW xp_NW xp_SW xp_exn 149 47 (.aload 0) := Or.inr ⟨0, rfl, xd_149_91, rfl⟩
theorem xk_149_48 : xk_OkA xp_F (xp_P sc) xp_cl xp_BW xp_NW xp_SW xp_exn 149 48 (.iconst (-1)) := Or.inl ⟨xd_149_92, rfl⟩
theorem xk_149_49 : xk_OkA xp_F (xp_P sc) xp_cl xp_BW xp_NW xp_SW xp_exn 149 49 (.putfield 136) := ⟨_, xd_149_93, rfl, ⟨_, _, _, rfl, by decide, xu_4, Or.inl xwt_762⟩, xf_4_8⟩
theorem xk_149_50 : xk_OkA xp_F (xp_P sc) xp_cl xp_BW xp_NW xp_SW xp_exn 149 50 (.iconst 0) := Or.inl ⟨xd_149_96, rfl⟩
theorem xk_149_51 : xk_OkA xp_F (xp_P sc) xp_cl xp_BW xp_NW xp_SW xp_exn 149 51 (.ireturn) := ⟨xd_149_97, rfl⟩
theorem xk_149_52 : xk_OkA xp_F (xp_P sc) xp_cl xp_BW xp_NW xp_SW xp_exn 149 52 (.aload 0) := Or.inr ⟨0, rfl, xd_149_98, rfl⟩
theorem xk_149_53 : xk_OkA xp_F (xp_P sc) xp_cl xp_BW xp_NW xp_SW xp_exn 149 53 (.iload 1) := Or.inr ⟨1, rfl, xd_149_99, rfl⟩
theorem xk_149_54 : xk_OkA xp_F (xp_P sc) xp_cl xp_BW xp_NW xp_SW xp_exn 149 54 (.iconst 9) := Or.inr (Or.inl ⟨xd_149_100, by decide +kernel, rfl⟩)
theorem xk_149_55 : xk_OkA xp_F (xp_P sc) xp_cl xp_BW xp_NW xp_SW xp_exn 149 55 (.isub) := ⟨xd_149_102, rfl⟩
theorem xk_149_56 : xk_OkA xp_F (xp_P sc) xp_cl xp_BW xp_NW xp_SW xp_exn 149 56 (.iconst 10) := Or.inr (Or.inl ⟨xd_149_103, by decide +kernel, rfl⟩)
theorem xk_149_57 : xk_OkA xp_F (xp_P sc) xp_cl xp_BW xp_NW xp_SW xp_exn 149 57 (.idiv) := ⟨xd_149_105, rfl⟩
theorem xk_149_58 : xk_OkA xp_F (xp_P sc) xp_cl xp_BW xp_NW xp_SW xp_exn 149 58 (.putfield 137) := ⟨_, xd_149_106, rfl, ⟨_, _, _, rfl, by decide, xu_4, Or.inl xwt_763⟩, xf_4_9⟩
theorem xk_149_59 : xk_OkA xp_F (xp_P sc) xp_cl xp_BW xp_NW xp_SW xp_exn 149 59 (.aload 0) := Or.inr ⟨0, rfl, xd_149_109, rfl⟩
theorem xk_149_60 : xk_OkA xp_F (xp_P sc) xp_cl xp_BW xp_NW xp_SW xp_exn 149 60 (.iload 1) := Or.inr ⟨1, rfl, xd_149_110, rfl⟩
theorem xk_149_61 : xk_OkA xp_F (xp_P sc) xp_cl xp_BW xp_NW xp_SW xp_exn 149 61 (.iconst 9) := Or.inr (Or.inl ⟨xd_149_111, by decide +kernel, rfl⟩)
theorem xk_149_62 : xk_OkA xp_F (xp_P sc) xp_cl xp_BW xp_NW xp_SW xp_exn 149 62 (.isub) := ⟨xd_149_113, rfl⟩
theorem xk_149_63 : xk_OkA xp_F (xp_P sc) xp_cl xp_BW xp_NW xp_SW xp_exn 149 63 (.iconst 10) := Or.inr (Or.inl ⟨xd_149_114, by decide +kernel, rfl⟩)
theorem xk_149_64 : xk_OkA xp_F (xp_P sc) xp_cl xp_BW xp_NW xp_SW xp_exn 149 64 (.irem) := ⟨xd_149_116, rfl⟩
theorem xk_149_65 : xk_OkA xp_F (xp_P sc) xp_cl xp_BW xp_NW xp_SW xp_exn 149 65 (.putfield 138) := ⟨_, xd_149_117, rfl, ⟨_, _, _, rfl, by decide, xu_4, Or.inl xwt_764⟩, xf_4_10⟩
theorem xk_149_66 : xk_OkA xp_F (xp_P sc) xp_cl xp_BW xp_NW xp_SW xp_exn 149 66 (.aload 0) := Or.inr ⟨0, rfl, xd_149_120, rfl⟩
theorem xk_149_67 : xk_OkA xp_F (xp_P sc) xp_cl xp_BW xp_NW xp_SW xp_exn 149 67 (.iconst 0) := Or.inl ⟨xd_149_121, rfl⟩
theorem xk_149_68 : xk_OkA xp_F (xp_P sc) xp_cl xp_BW xp_NW xp_SW xp_exn 149 68 (.putfield 140) := ⟨_, xd_149_122, rfl, ⟨_, _, _, rfl, by decide, xu_4, Or.inl xwt_766⟩, xf_4_12⟩
theorem xk_149_69 : xk_OkA xp_F (xp_P sc) xp_cl xp_BW xp_NW xp_SW xp_exn 149 69 (.aload 0) := Or.inr ⟨0, rfl, xd_149_125, rfl⟩
theorem xk_149_70 : xk_OkA xp_F (xp_P sc) xp_cl xp_BW xp_NW xp_SW xp_exn 149 70 (.aload 0) := Or.inr ⟨0, rfl, xd_149_126, rfl⟩
theorem xk_149_71 : xk_OkA xp_F (xp_P sc) xp_cl xp_BW xp_NW xp_SW xp_exn 149 71 (.aload 0) := Or.inr ⟨0, rfl, xd_149_127, rfl⟩
theorem xk_149_72 : xk_OkA xp_F (xp_P sc) xp_cl xp_BW xp_NW xp_SW xp_exn 149 72 (.getfield 134) := ⟨_, xd_149_128, rfl, ⟨_, _, _, rfl, by decide, xu_4, Or.inl xwt_760⟩⟩
theorem xk_149_73 : xk_OkA xp_F (xp_P sc) xp_cl xp_BW xp_NW xp_SW xp_exn 149 73 (.aload 0) := Or.inr ⟨0, rfl, xd_149_131, rfl⟩
theorem xk_149_74 : xk_OkA xp_F (xp_P sc) xp_cl xp_BW xp_NW xp_SW xp_exn 149 74 (.getfield 137) := ⟨_, xd_149_132, rfl, ⟨_, _, _, rfl, by decide, xu_4, Or.inl xwt_763⟩⟩
theorem xk_149_75 : xk_OkA xp_F (xp_P sc) xp_cl xp_BW xp_NW xp_SW xp_exn 149 75 (.aload 0) := Or.inr ⟨0, rfl, xd_149_135, rfl⟩
theorem xk_149_76 : xk_OkA xp_F (xp_P sc) xp_cl xp_BW xp_NW xp_SW xp_exn 149 76 (.getfield 138) := ⟨_, xd_149_136, rfl, ⟨_, _, _, rfl, by decide, xu_4, Or.inl xwt_764⟩⟩
theorem xk_149_77 : xk_OkA xp_F (xp_P sc) xp_cl xp_BW xp_NW xp_SW xp_exn 149 77 (.aload 0) := Or.inr ⟨0, rfl, xd_149_139, rfl⟩
theorem xk_149_78 : xk_OkA xp_F (xp_P sc) xp_cl xp_BW xp_NW xp_SW xp_exn 149 78 (.getfield 136) := ⟨_, xd_149_140, rfl, ⟨_, _, _, rfl, by decide, xu_4, Or.inl xwt_762⟩⟩
theorem xk_149_79 : xk_OkA xp_F (xp_P sc) xp_cl xp_BW xp_NW xp_SW xp_exn 149 79 (.invokeinterface 129 5) := ⟨rfl, Or.inl ⟨xwt_873, rfl⟩, rfl, rfl, xwt_5, by decide +kernel, by decide +kernel, Nat.le_of_ble_eq_true rfl, _, Or.inl xwt_870, Or.inr ⟨xd_149_143, xwt_872, xws_88, ⟨_, _, _, rfl, rfl⟩, by decide +kernel⟩⟩
theorem xk_149_80 : xk_OkA xp_F (xp_P sc) xp_cl xp_BW xp_NW xp_SW xp_exn 149 80 (.putfield 139) := ⟨_, xd_149_146, rfl, ⟨_, _, _, rfl, by decide, xu_4, Or.inl xwt_765⟩, xf_4_11⟩
theorem xk_149_81 : xk_OkA xp_F (xp_P sc) xp_cl xp_BW xp_NW xp_SW xp_exn 149 81 (.aload 0) := Or.inr ⟨0, rfl, xd_149_149, rfl⟩
theorem xk_149_82 : xk_OkA xp_F (xp_P sc) xp_cl xp_BW xp_NW xp_SW xp_exn 149 82 (.getfield 139) := ⟨_, xd_149_150, rfl, ⟨_, _, _, rfl, by decide, xu_4, Or.inl xwt_765⟩⟩
theorem xk_149_83 : xk_OkA xp_F (xp_P sc) xp_cl xp_BW xp_NW xp_SW xp_exn 149 83 (.ifCond .ne 89) := ⟨_, xd_149_153, by unfold xf_to; decide +kernel, rfl⟩
theorem xk_149_84 : xk_OkA xp_F (xp_P sc) xp_cl xp_BW xp_NW xp_SW xp_exn 149 84 (.aload 0) := Or.inr ⟨0, rfl, xd_149_156, rfl⟩
theorem xk_149_85 : xk_OkA xp_F (xp_P sc) xp_cl xp_BW xp_NW xp_SW xp_exn 149 85 (.iconst (-1)) := Or.inl ⟨xd_149_157, rfl⟩
theorem xk_149_86 : xk_OkA xp_F (xp_P sc) xp_cl xp_BW xp_NW xp_SW xp_exn 149 86 (.putfield 136) := ⟨_, xd_149_158, rfl, ⟨_, _, _, rfl, by decide, xu_4, Or.inl xwt_762⟩, xf_4_8⟩
theorem xk_149_87 : xk_OkA xp_F (xp_P sc) xp_cl xp_BW xp_NW xp_SW xp_exn 149 87 (.iconst (-1)) := Or.inl ⟨xd_149_161, rfl⟩
theorem xk_149_88 : xk_OkA xp_F (xp_P sc) xp_cl xp_BW xp_NW xp_SW xp_exn 149 88 (.ireturn) := ⟨xd_149_162, rfl⟩
theorem xk_149_89 : xk_OkA xp_F (xp_P sc) xp_cl xp_BW xp_NW xp_SW xp_exn 149 89 (.iconst 9) := Or.inr (Or.inl ⟨xd_149_163, by decide +kernel, rfl⟩)
theorem xk_149_90 : xk_OkA xp_F (xp_P sc) xp_cl xp_BW xp_NW xp_SW xp_exn 149 90 (.iconst 10) := Or.inr (Or.inl ⟨xd_149_165, by decide +kernel, rfl⟩)
theorem xk_149_91 : xk_OkA xp_F (xp_P sc) xp_cl xp_BW xp_NW xp_SW xp_exn 149 91 (.aload 0) := Or.inr ⟨0, rfl, xd_149_167, rfl⟩
theorem xk_149_92 : xk_OkA xp_F (xp_P sc) xp_cl xp_BW xp_NW xp_SW xp_exn 149 92 (.getfield 137) := ⟨_, xd_149_168, rfl, ⟨_, _, _, rfl, by decide, xu_4, Or.inl xwt_763⟩⟩
theorem xk_149_93 : xk_OkA xp_F (xp_P sc) xp_cl xp_BW xp_NW xp_SW xp_exn 149 93 (.imul) := ⟨xd_149_171, rfl⟩
theorem xk_149_94 : xk_OkA xp_F (xp_P sc) xp_cl xp_BW xp_NW xp_SW xp_exn 149 94 (.iadd) := ⟨xd_149_172, rfl⟩
theorem xk_149_95 : xk_OkA xp_F (xp_P sc) xp_cl xp_BW xp_NW xp_SW xp_exn 149 95 (.aload 0) := Or.inr ⟨0, rfl, xd_149_173, rfl⟩
theorem xk_149_96 : xk_OkA xp_F (xp_P sc) xp_cl xp_BW xp_NW xp_SW xp_exn 149 96 (.getfield 138) := ⟨_, xd_149_174, rfl, ⟨_, _, _, rfl, by decide, xu_4, Or.inl xwt_764⟩⟩
theorem xk_149_97 : xk_OkA xp_F (xp_P sc) xp_cl xp_BW xp_NW xp_SW xp_exn 149 97 (.iadd) := ⟨xd_149_177, rfl⟩
theorem xk_149_98 : xk_OkA xp_F (xp_P sc) xp_cl xp_BW xp_NW xp_SW xp_exn 149 98 (.istore 1) := Or.inr ⟨1, rfl, xd_149_178, rfl⟩
theorem xk_149_99 : xk_OkA xp_F (xp_P sc) xp_cl xp_BW xp_NW xp_SW xp_exn 149 99 (.aload 0) := Or.inr ⟨0, rfl, xd_149_179, rfl⟩
theorem xk_149_100 : xk_OkA xp_F (xp_P sc) xp_cl xp_BW xp_NW xp_SW xp_exn 149 100 (.aload 0) := Or.inr ⟨0, rfl, xd_149_180, rfl⟩
theorem xk_149_101 : xk_OkA xp_F (xp_P sc) xp_cl xp_BW xp_NW xp_SW xp_exn 149 101 (.getfield 139) := ⟨_, xd_149_181, rfl, ⟨_, _, _, rfl, by decide, xu_4, Or.inl xwt_765⟩⟩
theorem xk_149_102 : xk_OkA xp_F (xp_P sc) xp_cl xp_BW xp_NW xp_SW xp_exn 149 102 (.aload 0) := Or.inr ⟨0, rfl, xd_149_184, rfl⟩
theorem xk_149_103 : xk_OkA xp_F (xp_P sc) xp_cl xp_BW xp_NW xp_SW xp_exn 149 103 (.getfield 140) := ⟨_, xd_149_185, rfl, ⟨_, _, _, rfl, by decide, xu_4, Or.inl xwt_766⟩⟩
theorem xk_149_104 : xk_OkA xp_F (xp_P sc) xp_cl xp_BW xp_NW xp_SW xp_exn 149 104 (.aload 0) := Or.inr ⟨0, rfl, xd_149_188, rfl⟩
theorem xk_149_105 : xk_OkA xp_F (xp_P sc) xp_cl xp_BW xp_NW xp_SW xp_exn 149 105 (.aload 0) := Or.inr ⟨0, rfl, xd_149_189, rfl⟩
theorem xk_149_106 : xk_OkA xp_F (xp_P sc) xp_cl xp_BW xp_NW xp_SW xp_exn 149 106 (.getfield 134) := ⟨_, xd_149_190, rfl, ⟨_, _, _, rfl, by decide, xu_4, Or.inl xwt_760⟩⟩
theorem xk_149_107 : xk_OkA xp_F (xp_P sc) xp_cl xp_BW xp_NW xp_SW xp_exn 149 107 (.iload 1) := Or.inr ⟨1, rfl, xd_149_193, rfl⟩
theorem xk_149_108 : xk_OkA xp_F (xp_P sc) xp_cl xp_BW xp_NW xp_SW xp_exn 149 108 (.iaload) := ⟨xd_149_194, rfl⟩
theorem xk_149_109 : xk_OkA xp_F (xp_P sc) xp_cl xp_BW xp_NW xp_SW xp_exn 149 109 (.aload 0) := Or.inr ⟨0, rfl, xd_149_195, rfl⟩
theorem xk_149_110 : xk_OkA xp_F (xp_P sc) xp_cl xp_BW xp_NW xp_SW xp_exn 149 110 (.getfield 140) := ⟨_, xd_149_196, rfl, ⟨_, _, _, rfl, by decide, xu_4, Or.inl xwt_766⟩⟩
theorem xk_149_111 : xk_OkA xp_F (xp_P sc) xp_cl xp_BW xp_NW xp_SW xp_exn 149 111 (.invokeinterface 111 3) := ⟨rfl, Or.inl ⟨xwt_929, rfl⟩, rfl, rfl, xwt_5, by decide +kernel, by decide +kernel, Nat.le_of_ble_eq_true rfl, _, Or.inl xwt_926, Or.inr ⟨xd_149_199, xwt_928, xws_95, ⟨_, _, _, rfl, rfl⟩, by decide +kernel⟩⟩
theorem xk_149_112 : xk_OkA xp_F (xp_P sc) xp_cl xp_BW xp_NW xp_SW xp_exn 149 112 (.invokeinterface 110 4) := ⟨rfl, Or.inl ⟨xwt_902, rfl⟩, rfl, rfl, xwt_5, by decide +kernel, by decide +kernel, Nat.le_of_ble_eq_true rfl, _, Or.inl xwt_899, Or.inr ⟨xd_149_202, xwt_901, xws_93, ⟨_, _, _, rfl, rfl⟩, by decide +kernel⟩⟩
theorem xk_149_113 : xk_OkA xp_F (xp_P sc) xp_cl xp_BW xp_NW xp_SW xp_exn 149 113 (.aload 0) := Or.inr ⟨0, rfl, xd_149_205, rfl⟩
theorem xk_149_114 : xk_OkA xp_F (xp_P sc) xp_cl xp_BW xp_NW xp_SW xp_exn 149 114 (.dup) := ⟨xd_149_206, rfl⟩
theorem xk_149_115 : xk_OkA xp_F (xp_P sc) xp_cl xp_BW xp_NW xp_SW xp_exn 149 115 (.getfield 140) := ⟨_, xd_149_207, rfl, ⟨_, _, _, rfl, by decide, xu_4, Or.inl xwt_766⟩⟩
theorem xk_149_116 : xk_OkA xp_F (xp_P sc) xp_cl xp_BW xp_NW xp_SW xp_exn 149 116 (.iconst 1) := Or.inl ⟨xd_149_210, rfl⟩
theorem xk_149_117 : xk_OkA xp_F (xp_P sc) xp_cl xp_BW xp_NW xp_SW xp_exn 149 117 (.iadd) := ⟨xd_149_211, rfl⟩
theorem xk_149_118 : xk_OkA xp_F (xp_P sc) xp_cl xp_BW xp_NW xp_SW xp_exn 149 118 (.putfield 140) := ⟨_, xd_149_212, rfl, ⟨_, _, _, rfl, by decide, xu_4, Or.inl xwt_766⟩, xf_4_12⟩
theorem xk_149_119 : xk_OkA xp_F (xp_P sc) xp_cl xp_BW xp_NW xp_SW xp_exn 149 119 (.aload 0) := Or.inr ⟨0, rfl, xd_149_215, rfl⟩
theorem xk_149_120 : xk_OkA xp_F (xp_P sc) xp_cl xp_BW xp_NW xp_SW xp_exn 149 120 (.getfield 132) := ⟨_, xd_149_216, rfl, ⟨_, _, _, rfl, by decide, xu_4, Or.inl xwt_758⟩⟩
theorem xk_149_121 : xk_OkA xp_F (xp_P sc) xp_cl xp_BW xp_NW xp_SW xp_exn 149 121 (.ifCond .eq 136) := ⟨_, xd_149_219, by unfold xf_to; decide +kernel, rfl⟩
theorem xk_149_122 : xk_OkA xp_F (xp_P sc) xp_cl xp_BW xp_NW xp_SW xp_exn 149 122 (.aload 0) := Or.inr ⟨0, rfl, xd_149_222, rfl⟩
theorem xk_149_123 : xk_OkA xp_F (xp_P sc) xp_cl xp_BW xp_NW xp_SW xp_exn 149 123 (.getfield 140) := ⟨_, xd_149_223, rfl, ⟨_, _, _, rfl, by decide, xu_4, Or.inl xwt_766⟩⟩
theorem xk_149_124 : xk_OkA xp_F (xp_P sc) xp_cl xp_BW xp_NW xp_SW xp_exn 149 124 (.iconst 4) := Or.inl ⟨xd_149_226, rfl⟩
theorem xk_149_125 : xk_OkA xp_F (xp_P sc) xp_cl xp_BW xp_NW xp_SW xp_exn 149 125 (.if_icmp .ne 136) := ⟨_, xd_149_227, by unfold xf_to; decide +kernel, rfl⟩
theorem xk_149_126 : xk_OkA xp_F (xp_P sc) xp_cl xp_BW xp_NW xp_SW xp_exn 149 126 (.aload 0) := Or.inr ⟨0, rfl, xd_149_230, rfl⟩
theorem xk_149_127 : xk_OkA xp_F (xp_P sc) xp_cl xp_BW xp_NW xp_SW xp_exn 149 127 (.invokeinterface 119 1) := ⟨rfl, Or.inl ⟨xwt_812, rfl⟩, rfl, rfl, xwt_5, by decide +kernel, by decide +kernel, Nat.le_of_ble_eq_true rfl, _, Or.inl xwt_809, Or.inr ⟨xd_149_231, xwt_811, xws_78, ⟨_, _, _, rfl, rfl⟩, by decide +kernel⟩⟩
theorem xk_149_128 : xk_OkA xp_F (xp_P sc) xp_cl xp_BW xp_NW xp_SW xp_exn 149 128 (.aload 0) := Or.inr ⟨0, rfl, xd_149_234, rfl⟩
theorem xk_149_129 : xk_OkA xp_F (xp_P sc) xp_cl xp_BW xp_NW xp_SW xp_exn 149 129 (.getfield 135) := ⟨_, xd_149_235, rfl, ⟨_, _, _, rfl, by decide, xu_4, Or.inl xwt_761⟩⟩
theorem xk_149_130 : xk_OkA xp_F (xp_P sc) xp_cl xp_BW xp_NW xp_SW xp_exn 149 130 (.iload 1) := Or.inr ⟨1, rfl, xd_149_238, rfl⟩
theorem xk_149_131 : xk_OkA xp_F (xp_P sc) xp_cl xp_BW xp_NW xp_SW xp_exn 149 131 (.aload 0) := Or.inr ⟨0, rfl, xd_149_239, rfl⟩
theorem xk_149_132 : xk_OkA xp_F (xp_P sc) xp_cl xp_BW xp_NW xp_SW xp_exn 149 132 (.getfield 139) := ⟨_, xd_149_240, rfl, ⟨_, _, _, rfl, by decide, xu_4, Or.inl xwt_765⟩⟩
theorem xk_149_133 : xk_OkA xp_F (xp_P sc) xp_cl xp_BW xp_NW xp_SW xp_exn 149 133 (.iastore) := ⟨xd_149_243, rfl⟩
theorem xk_149_134 : xk_OkA xp_F (xp_P sc) xp_cl xp_BW xp_NW xp_SW xp_exn 149 134 (.aload 0) := Or.inr ⟨0, rfl, xd_149_244, rfl⟩
theorem xk_149_135 : xk_OkA xp_F (xp_P sc) xp_cl xp_BW xp_NW xp_SW xp_exn 149 135 (.invokeinterface 123 1) := ⟨rfl, Or.inl ⟨xwt_816, rfl⟩, rfl, rfl, xwt_5, by decide +kernel, by decide +kernel, Nat.le_of_ble_eq_true rfl, _, Or.inl xwt_813, Or.inr ⟨xd_149_245, xwt_815, xws_79, ⟨_, _, _, rfl, rfl⟩, by decide +kernel⟩⟩
theorem xk_149_136 : xk_OkA xp_F (xp_P sc) xp_cl xp_BW xp_NW xp_SW xp_exn 149 136 (.aload 0) := Or.inr ⟨0, rfl, xd_149_248, rfl⟩
theorem xk_149_137 : xk_OkA xp_F (xp_P sc) xp_cl xp_BW xp_NW xp_SW xp_exn 149 137 (.getfield 136) := ⟨_, xd_149_249, rfl, ⟨_, _, _, rfl, by decide, xu_4, Or.inl xwt_762⟩⟩
theorem xk_149_138 : xk_OkA xp_F (xp_P sc) xp_cl xp_BW xp_NW xp_SW xp_exn 149 138 (.ifCond .ge 141) := ⟨_, xd_149_252, by unfold xf_to; decide +kernel, rfl⟩
theorem xk_149_139 : xk_OkA xp_F (xp_P sc) xp_cl xp_BW xp_NW xp_SW xp_exn 149 139 (.iconst 0) := Or.inl ⟨xd_149_255, rfl⟩
theorem xk_149_140 : xk_OkA xp_F (xp_P sc) xp_cl xp_BW xp_NW xp_SW xp_exn 149 140 (.goto 145) := ⟨_, xd_149_256, by unfold xf_to; decide +kernel⟩
theorem xk_149_141 : xk_OkA xp_F (xp_P sc) xp_cl xp_BW xp_NW xp_SW xp_exn 149 141 (.aload 0) := Or.inr ⟨0, rfl, xd_149_259, rfl⟩
theorem xk_149_142 : xk_OkA xp_F (xp_P sc) xp_cl xp_BW xp_NW xp_SW xp_exn 149 142 (.aload 0) := Or.inr ⟨0, rfl, xd_149_260, rfl⟩
theorem xk_149_143 : xk_OkA xp_F (xp_P sc) xp_cl xp_BW xp_NW xp_SW xp_exn 149 143 (.getfield 136) := ⟨_, xd_149_261, rfl, ⟨_, _, _, rfl, by decide, xu_4, Or.inl xwt_762⟩⟩
theorem xk_149_144 : xk_OkA xp_F (xp_P sc) xp_cl xp_BW xp_NW xp_SW xp_exn 149 144 (.invokeinterface 117 2) := ⟨rfl, Or.inl ⟨xwt_844, rfl⟩, rfl, rfl, xwt_5, by decide +kernel, by decide +kernel, Nat.le_of_ble_eq_true rfl, _, Or.inl xwt_841, Or.inr ⟨xd_149_264, xwt_843, xws_85, ⟨_, _, _, rfl, rfl⟩, by decide +kernel⟩⟩
theorem xk_149_145 : xk_OkA xp_F (xp_P sc) xp_cl xp_BW xp_NW xp_SW xp_exn 149 145 (.istore 2) := Or.inr ⟨2, rfl, xd_149_267, rfl⟩
theorem xk_149_146 : xk_OkA xp_F (xp_P sc) xp_cl xp_BW xp_NW xp_SW xp_exn 149 146 (.aload 0) := Or.inr ⟨0, rfl, xd_149_268, rfl⟩
theorem xk_149_147 : xk_OkA xp_F (xp_P sc) xp_cl xp_BW xp_NW xp_SW xp_exn 149 147 (.iload 2) := Or.inr ⟨2, rfl, xd_149_269, rfl⟩
theorem xk_149_148 : xk_OkA xp_F (xp_P sc) xp_cl xp_BW xp_NW xp_SW xp_exn 149 148 (.ifCond .ne 151) := ⟨_, xd_149_270, by unfold xf_to; decide +kernel, rfl⟩
theorem xk_149_149 : xk_OkA xp_F (xp_P sc) xp_cl xp_BW xp_NW xp_SW xp_exn 149 149 (.iconst (-1)) := Or.inl ⟨xd_149_273, rfl⟩
theorem xk_149_150 : xk_OkA xp_F (xp_P sc) xp_cl xp_BW xp_NW xp_SW xp_exn 149 150 (.goto 153) := ⟨_, xd_149_274, by unfold xf_to; decide +kernel⟩
theorem xk_149_151 : xk_OkA xp_F (xp_P sc) xp_cl xp_BW xp_NW xp_SW xp_exn 149 151 (.aload 0) := Or.inr ⟨0, rfl, xd_149_277, rfl⟩
theorem xk_149_152 : xk_OkA xp_F (xp_P sc) xp_cl xp_BW xp_NW xp_SW xp_exn 149 152 (.getfield 136) := ⟨_, xd_149_278, rfl, ⟨_, _, _, rfl, by decide, xu_4, Or.inl xwt_762⟩⟩
theorem xk_149_153 : xk_OkA xp_F (xp_P sc) xp_cl xp_BW xp_NW xp_SW xp_exn 149 153 (.putfield 136) := ⟨_, xd_149_281, rfl, ⟨_, _, _, rfl, by decide, xu_4, Or.inl xwt_762⟩, xf_4_8⟩
theorem xk_149_154 : xk_OkA xp_F (xp_P sc) xp_cl xp_BW xp_NW xp_SW xp_exn 149 154 (.aload 0) := Or.inr ⟨0, rfl, xd_149_284, rfl⟩
theorem xk_149_155 : xk_OkA xp_F (xp_P sc) xp_cl xp_BW xp_NW xp_SW xp_exn 149 155 (.iload 2) := Or.inr ⟨2, rfl, xd_149_285, rfl⟩
theorem xk_149_156 : xk_OkA xp_F (xp_P sc) xp_cl xp_BW xp_NW xp_SW xp_exn 149 156 (.invokeinterface 124 2) := ⟨rfl, Or.inl ⟨xwt_836, rfl⟩, rfl, rfl, xwt_5, by decide +kernel, by decide +kernel, Nat.le_of_ble_eq_true rfl, _, Or.inl xwt_833, Or.inr ⟨xd_149_286, xwt_835, xws_84, ⟨_, _, _, rfl, rfl⟩, by decide +kernel⟩⟩
theorem xk_149_157 : xk_OkA xp_F (xp_P sc) xp_cl xp_BW xp_NW xp_SW xp_exn 149 157 (.ireturn) := ⟨xd_149_289, rfl⟩
theorem xl_149 : xk_OkL xp_F (xp_P sc) xp_cl xp_BW xp_NW xp_SW xp_exn 149 0 xc_149 := ⟨xk_149_0, xk_149_1, xk_149_2, xk_149_3, xk_149_4, xk_149_5, xk_149_6, xk_149_7, xk_149_8, xk_149_9, xk_149_10, xk_149_11, xk_149_12, xk_149_13, xk_149_14, xk_149_15, xk_149_16, xk_149_17, xk_149_18, xk_149_19, xk_149_20, xk_149_21, xk_149_22, xk_149_23, xk_149_24, xk_149_25, xk_149_26, xk_149_27, xk_149_28, xk_149_29, xk_149_30, xk_149_31, xk_149_32, xk_149_33, xk_149_34, xk_149_35, xk_149_36, xk_149_37, xk_149_38, xk_149_39, xk_149_40, xk_149_41, xk_149_42, xk_149_43, xk_149_44, xk_149_45, xk_149_46, xk_149_47, xk_149_48, xk_149_49, xk_149_50, xk_149_51, xk_149_52, xk_149_53, xk_149_54, xk_149_55, xk_149_56, xk_149_57, xk_149_58, xk_149_59, xk_149_60, xk_149_61, xk_149_62, xk_149_63, xk_149_64, xk_149_65, xk_149_66, xk_149_67, xk_149_68, xk_149_69, xk_149_70, xk_149_71, xk_149_72, xk_149_73, xk_149_74, xk_149_75, xk_149_76, xk_149_77, xk_149_78, xk_149_79, xk_149_80, xk_149_81, xk_149_82, xk_149_83, xk_149_84, xk_149_85, xk_149_86, xk_149_87, xk_149_88, xk_149_89, xk_149_90, xk_149_91, xk_149_92, xk_149_93, xk_149_94, xk_149_95, xk_149_96, xk_149_97, xk_149_98, xk_149_99, xk_149_100, xk_149_101, xk_149_102, xk_149_103, xk_149_104, xk_149_105, xk_149_106, xk_149_107, xk_149_108, xk_149_109, xk_149_110, xk_149_111, xk_149_112, xk_149_113, xk_149_114, xk_149_115, xk_149_116, xk_149_117, xk_149_118, xk_149_119, xk_149_120, xk_149_121, xk_149_122, xk_149_123, xk_149_124, xk_149_125, xk_149_126, xk_149_127, xk_149_128, xk_149_129, xk_149_130, xk_149_131, xk_149_132, xk_149_133, xk_149_134, xk_149_135, xk_149_136, xk_149_137, xk_149_138, xk_149_139, xk_149_140, xk_149_141, xk_149_142, xk_149_143, xk_149_144, xk_149_145, xk_149_146, xk_149_147, xk_149_148, xk_149_149, xk_149_150, xk_149_151, xk_149_152, xk_149_153, xk_149_154, xk_149_155, xk_149_156, xk_149_157, trivial⟩
end XkOk6
