/-! The instructions of the methods, one by one: written by wip/whole/gen_tables.py. -/
section XkOk4
variable {sc : Nat × (Nat → Int32)}
theorem xd_107_0 : decode prog_6_method_2_code 0 = .ok (.aload_n 0, 1) := by decide +kernel
theorem xd_107_1 : decode prog_6_method_2_code 1 = .ok (.getfield 37, 3) := by decide +kernel
theorem xd_107_4 : decode prog_6_method_2_code 4 = .ok (.ireturn, 1) := by decide +kernel
theorem xk_107_0 : xk_OkA xp_F (xp_P sc) xp_cl xp_BW xp_NW xp_SW xp_exn 107 0 (.aload 0) := Or.inr ⟨0, rfl, xd_107_0, rfl⟩
theorem xk_107_1 : xk_OkA xp_F (xp_P sc) xp_cl xp_BW xp_NW xp_SW xp_exn 107 1 (.getfield 128) := ⟨_, xd_107_1, rfl, ⟨_, _, _, rfl, by decide, xu_4, Or.inl xwt_754⟩⟩
theorem xk_107_2 : xk_OkA xp_F (xp_P sc) xp_cl xp_BW xp_NW xp_SW xp_exn 107 2 (.ireturn) := ⟨xd_107_4, rfl⟩
theorem xl_107 : xk_OkL xp_F (xp_P sc) xp_cl xp_BW xp_NW xp_SW xp_exn 107 0 xc_107 := ⟨xk_107_0, xk_107_1, xk_107_2, trivial⟩
theorem xd_108_0 : decode prog_6_method_3_code 0 = .ok (.iload_n 0, 1) := by decide +kernel
theorem xd_108_1 : decode prog_6_method_3_code 1 = .ok (.ifCond .lt 12, 3) := by decide +kernel
theorem xd_108_4 : decode prog_6_method_3_code 4 = .ok (.iload_n 0, 1) := by decide +kernel
theorem xd_108_5 : decode prog_6_method_3_code 5 = .ok (.iconst 4, 1) := by decide +kernel
theorem xd_108_6 : decode prog_6_method_3_code 6 = .ok (.if_icmp .ge 7, 3) := by decide +kernel
theorem xd_108_9 : decode prog_6_method_3_code 9 = .ok (.iconst 1, 1) := by decide +kernel
theorem xd_108_10 : decode prog_6_method_3_code 10 = .ok (.goto 4, 3) := by decide +kernel
theorem xd_108_13 : decode prog_6_method_3_code 13 = .ok (.iconst 0, 1) := by decide +kernel
theorem xd_108_14 : decode prog_6_method_3_code 14 = .ok (.ireturn, 1) := by decide +kernel
theorem xk_108_0 : xk_OkA xp_F (xp_P sc) xp_cl xp_BW xp_NW xp_SW xp_exn 108 0 (.iload 0) := Or.inr ⟨0, rfl, xd_108_0, rfl⟩
theorem xk_108_1 : xk_OkA xp_F (xp_P sc) xp_cl xp_BW xp_NW xp_SW xp_exn 108 1 (.ifCond .lt 7) := ⟨_, xd_108_1, by unfold xf_to; decide +kernel, rfl⟩
theorem xk_108_2 : xk_OkA xp_F (xp_P sc) xp_cl xp_BW xp_NW xp_SW xp_exn 108 2 (.iload 0) := Or.inr ⟨0, rfl, xd_108_4, rfl⟩
theorem xk_108_3 : xk_OkA xp_F (xp_P sc) xp_cl xp_BW xp_NW xp_SW xp_exn 108 3 (.iconst 4) := Or.inl ⟨xd_108_5, rfl⟩
theorem xk_108_4 : xk_OkA xp_F (xp_P sc) xp_cl xp_BW xp_NW xp_SW xp_exn 108 4 (.if_icmp .ge 7) := ⟨_, xd_108_6, by unfold xf_to; decide +kernel, rfl⟩
theorem xk_108_5 : xk_OkA xp_F (xp_P sc) xp_cl xp_BW xp_NW xp_SW xp_exn 108 5 (.iconst 1) := Or.inl ⟨xd_108_9, rfl⟩
theorem xk_108_6 : xk_OkA xp_F (xp_P sc) xp_cl xp_BW xp_NW xp_SW xp_exn 108 6 (.goto 8) := ⟨_, xd_108_10, by unfold xf_to; decide +kernel⟩
theorem xk_108_7 : xk_OkA xp_F (xp_P sc) xp_cl xp_BW xp_NW xp_SW xp_exn 108 7 (.iconst 0) := Or.inl ⟨xd_108_13, rfl⟩
theorem xk_108_8 : xk_OkA xp_F (xp_P sc) xp_cl xp_BW xp_NW xp_SW xp_exn 108 8 (.freturn) := ⟨xd_108_14, rfl⟩
theorem xl_108 : xk_OkL xp_F (xp_P sc) xp_cl xp_BW xp_NW xp_SW xp_exn 108 0 xc_108 := ⟨xk_108_0, xk_108_1, xk_108_2, xk_108_3, xk_108_4, xk_108_5, xk_108_6, xk_108_7, xk_108_8, trivial⟩
theorem xd_109_0 : decode prog_6_method_4_code 0 = .ok (.aload_n 0, 1) := by decide +kernel
theorem xd_109_1 : decode prog_6_method_4_code 1 = .ok (.getfield 20, 3) := by decide +kernel
theorem xd_109_4 : decode prog_6_method_4_code 4 = .ok (.ifCond .ne 5, 3) := by decide +kernel
theorem xd_109_7 : decode prog_6_method_4_code 7 = .ok (.iconst 0, 1) := by decide +kernel
theorem xd_109_8 : decode prog_6_method_4_code 8 = .ok (.ireturn, 1) := by decide +kernel
theorem xd_109_9 : decode prog_6_method_4_code 9 = .ok (.aload_n 0, 1) := by decide +kernel
theorem xd_109_10 : decode prog_6_method_4_code 10 = .ok (.getfield 24, 3) := by decide +kernel
theorem xd_109_13 : decode prog_6_method_4_code 13 = .ok (.ifCond .ne 20, 3) := by decide +kernel
theorem xd_109_16 : decode prog_6_method_4_code 16 = .ok (.aload_n 0, 1) := by decide +kernel
theorem xd_109_17 : decode prog_6_method_4_code 17 = .ok (.iconst 0, 1) := by decide +kernel
theorem xd_109_18 : decode prog_6_method_4_code 18 = .ok (.putfield 20, 3) := by decide +kernel
theorem xd_109_21 : decode prog_6_method_4_code 21 = .ok (.aload_n 0, 1) := by decide +kernel
theorem xd_109_22 : decode prog_6_method_4_code 22 = .ok (.iconst (-1), 1) := by decide +kernel
theorem xd_109_23 : decode prog_6_method_4_code 23 = .ok (.putfield 24, 3) := by decide +kernel
theorem xd_109_26 : decode prog_6_method_4_code 26 = .ok (.aload_n 0, 1) := by decide +kernel
theorem xd_109_27 : decode prog_6_method_4_code 27 = .ok (.iconst (-1), 1) := by decide +kernel
theorem xd_109_28 : decode prog_6_method_4_code 28 = .ok (.putfield 34, 3) := by decide +kernel
theorem xd_109_31 : decode prog_6_method_4_code 31 = .ok (.iconst 0, 1) := by decide +kernel
theorem xd_109_32 : decode prog_6_method_4_code 32 = .ok (.ireturn, 1) := by decide +kernel
theorem xd_109_33 : decode prog_6_method_4_code 33 = .ok (.aload_n 0, 1) := by decide +kernel
theorem xd_109_34 : decode prog_6_method_4_code 34 = .ok (.aload_n 0, 1) := by decide +kernel
theorem xd_109_35 : decode prog_6_method_4_code 35 = .ok (.getfield 24, 3) := by decide +kernel
theorem xd_109_38 : decode prog_6_method_4_code 38 = .ok (.ifCond .le 12, 3) := by decide +kernel
theorem xd_109_41 : decode prog_6_method_4_code 41 = .ok (.aload_n 0, 1) := by decide +kernel
theorem xd_109_42 : decode prog_6_method_4_code 42 = .ok (.getfield 24, 3) := by decide +kernel
theorem xd_109_45 : decode prog_6_method_4_code 45 = .ok (.iconst 1, 1) := by decide +kernel
theorem xd_109_46 : decode prog_6_method_4_code 46 = .ok (.isub, 1) := by decide +kernel
theorem xd_109_47 : decode prog_6_method_4_code 47 = .ok (.goto 7, 3) := by decide +kernel
theorem xd_109_50 : decode prog_6_method_4_code 50 = .ok (.aload_n 0, 1) := by decide +kernel
theorem xd_109_51 : decode prog_6_method_4_code 51 = .ok (.getfield 24, 3) := by decide +kernel
theorem xd_109_54 : decode prog_6_method_4_code 54 = .ok (.putfield 24, 3) := by decide +kernel
theorem xd_109_57 : decode prog_6_method_4_code 57 = .ok (.iconst 1, 1) := by decide +kernel
theorem xd_109_58 : decode prog_6_method_4_code 58 = .ok (.ireturn, 1) := by decide +kernel
theorem xk_109_0 : xk_OkA xp_F (xp_P sc) xp_cl xp_BW xp_NW xp_SW xp_exn 109 0 (.aload 0) := Or.inr ⟨0, rfl, xd_109_0, rfl⟩
theorem xk_109_1 : xk_OkA xp_F (xp_P sc) xp_cl xp_BW xp_NW xp_SW xp_exn 109 1 (.getfield 132) := ⟨_, xd_109_1, rfl, ⟨_, _, _, rfl, by decide, xu_4, Or.inl xwt_758⟩⟩
theorem xk_109_2 : xk_OkA xp_F (xp_P sc) xp_cl xp_BW xp_NW xp_SW xp_exn 109 2 (.ifCond .ne 5) := ⟨_, xd_109_4, by unfold xf_to; decide +kernel, rfl⟩
theorem xk_109_3 : xk_OkA xp_F (xp_P sc) xp_cl xp_BW xp_NW xp_SW xp_exn 109 3 (.iconst 0) := Or.inl ⟨xd_109_7, rfl⟩
theorem xk_109_4 : xk_OkA xp_F (xp_P sc) xp_cl xp_BW xp_NW xp_SW xp_exn 109 4 (.freturn) := ⟨xd_109_8, rfl⟩
theorem xk_109_5 : xk_OkA xp_F (xp_P sc) xp_cl xp_BW xp_NW xp_SW xp_exn 109 5 (.aload 0) := Or.inr ⟨0, rfl, xd_109_9, rfl⟩
theorem xk_109_6 : xk_OkA xp_F (xp_P sc) xp_cl xp_BW xp_NW xp_SW xp_exn 109 6 (.getfield 133) := ⟨_, xd_109_10, rfl, ⟨_, _, _, rfl, by decide, xu_4, Or.inl xwt_759⟩⟩
theorem xk_109_7 : xk_OkA xp_F (xp_P sc) xp_cl xp_BW xp_NW xp_SW xp_exn 109 7 (.ifCond .ne 19) := ⟨_, xd_109_13, by unfold xf_to; decide +kernel, rfl⟩
theorem xk_109_8 : xk_OkA xp_F (xp_P sc) xp_cl xp_BW xp_NW xp_SW xp_exn 109 8 (.aload 0) := Or.inr ⟨0, rfl, xd_109_16, rfl⟩
theorem xk_109_9 : xk_OkA xp_F (xp_P sc) xp_cl xp_BW xp_NW xp_SW xp_exn 109 9 (.iconst 0) := Or.inl ⟨xd_109_17, rfl⟩
theorem xk_109_10 : xk_OkA xp_F (xp_P sc) xp_cl xp_BW xp_NW xp_SW xp_exn 109 10 (.putstatic 132) := ⟨_, xd_109_18, rfl, ⟨_, _, _, rfl, by decide, xu_4, Or.inl xwt_758⟩, xf_4_4⟩
theorem xk_109_11 : xk_OkA xp_F (xp_P sc) xp_cl xp_BW xp_NW xp_SW xp_exn 109 11 (.aload 0) := Or.inr ⟨0, rfl, xd_109_21, rfl⟩
theorem xk_109_12 : xk_OkA xp_F (xp_P sc) xp_cl xp_BW xp_NW xp_SW xp_exn 109 12 (.iconst (-1)) := Or.inl ⟨xd_109_22, rfl⟩
theorem xk_109_13 : xk_OkA xp_F (xp_P sc) xp_cl xp_BW xp_NW xp_SW xp_exn 109 13 (.putfield 133) := ⟨_, xd_109_23, rfl, ⟨_, _, _, rfl, by decide, xu_4, Or.inl xwt_759⟩, xf_4_5⟩
theorem xk_109_14 : xk_OkA xp_F (xp_P sc) xp_cl xp_BW xp_NW xp_SW xp_exn 109 14 (.aload 0) := Or.inr ⟨0, rfl, xd_109_26, rfl⟩
theorem xk_109_15 : xk_OkA xp_F (xp_P sc) xp_cl xp_BW xp_NW xp_SW xp_exn 109 15 (.iconst (-1)) := Or.inl ⟨xd_109_27, rfl⟩
theorem xk_109_16 : xk_OkA xp_F (xp_P sc) xp_cl xp_BW xp_NW xp_SW xp_exn 109 16 (.putfield 136) := ⟨_, xd_109_28, rfl, ⟨_, _, _, rfl, by decide, xu_4, Or.inl xwt_762⟩, xf_4_8⟩
theorem xk_109_17 : xk_OkA xp_F (xp_P sc) xp_cl xp_BW xp_NW xp_SW xp_exn 109 17 (.iconst 0) := Or.inl ⟨xd_109_31, rfl⟩
theorem xk_109_18 : xk_OkA xp_F (xp_P sc) xp_cl xp_BW xp_NW xp_SW xp_exn 109 18 (.freturn) := ⟨xd_109_32, rfl⟩
theorem xk_109_19 : xk_OkA xp_F (xp_P sc) xp_cl xp_BW xp_NW xp_SW xp_exn 109 19 (.aload 0) := Or.inr ⟨0, rfl, xd_109_33, rfl⟩
theorem xk_109_20 : xk_OkA xp_F (xp_P sc) xp_cl xp_BW xp_NW xp_SW xp_exn 109 20 (.aload 0) := Or.inr ⟨0, rfl, xd_109_34, rfl⟩
theorem xk_109_21 : xk_OkA xp_F (xp_P sc) xp_cl xp_BW xp_NW xp_SW xp_exn 109 21 (.getfield 133) := ⟨_, xd_109_35, rfl, ⟨_, _, _, rfl, by decide, xu_4, Or.inl xwt_759⟩⟩
theorem xk_109_22 : xk_OkA xp_F (xp_P sc) xp_cl xp_BW xp_NW xp_SW xp_exn 109 22 (.ifCond .le 28) := ⟨_, xd_109_38, by unfold xf_to; decide +kernel, rfl⟩
theorem xk_109_23 : xk_OkA xp_F (xp_P sc) xp_cl xp_BW xp_NW xp_SW xp_exn 109 23 (.aload 0) := Or.inr ⟨0, rfl, xd_109_41, rfl⟩
theorem xk_109_24 : xk_OkA xp_F (xp_P sc) xp_cl xp_BW xp_NW xp_SW xp_exn 109 24 (.getfield 133) := ⟨_, xd_109_42, rfl, ⟨_, _, _, rfl, by decide, xu_4, Or.inl xwt_759⟩⟩
theorem xk_109_25 : xk_OkA xp_F (xp_P sc) xp_cl xp_BW xp_NW xp_SW xp_exn 109 25 (.iconst 1) := Or.inl ⟨xd_109_45, rfl⟩
theorem xk_109_26 : xk_OkA xp_F (xp_P sc) xp_cl xp_BW xp_NW xp_SW xp_exn 109 26 (.isub) := ⟨xd_109_46, rfl⟩
theorem xk_109_27 : xk_OkA xp_F (xp_P sc) xp_cl xp_BW xp_NW xp_SW xp_exn 109 27 (.goto 30) := ⟨_, xd_109_47, by unfold xf_to; decide +kernel⟩
theorem xk_109_28 : xk_OkA xp_F (xp_P sc) xp_cl xp_BW xp_NW xp_SW xp_exn 109 28 (.aload 0) := Or.inr ⟨0, rfl, xd_109_50, rfl⟩
theorem xk_109_29 : xk_OkA xp_F (xp_P sc) xp_cl xp_BW xp_NW xp_SW xp_exn 109 29 (.getfield 133) := ⟨_, xd_109_51, rfl, ⟨_, _, _, rfl, by decide, xu_4, Or.inl xwt_759⟩⟩
theorem xk_109_30 : xk_OkA xp_F (xp_P sc) xp_cl xp_BW xp_NW xp_SW xp_exn 109 30 (.putfield 133) := ⟨_, xd_109_54, rfl, ⟨_, _, _, rfl, by decide, xu_4, Or.inl xwt_759⟩, xf_4_5⟩
theorem xk_109_31 : xk_OkA xp_F (xp_P sc) xp_cl xp_BW xp_NW xp_SW xp_exn 109 31 (.iconst 1) := Or.inl ⟨xd_109_57, rfl⟩
theorem xk_109_32 : xk_OkA xp_F (xp_P sc) xp_cl xp_BW xp_NW xp_SW xp_exn 109 32 (.freturn) := ⟨xd_109_58, rfl⟩
theorem xl_109 : xk_OkL xp_F (xp_P sc) xp_cl xp_BW xp_NW xp_SW xp_exn 109 0 xc_109 := ⟨xk_109_0, xk_109_1, xk_109_2, xk_109_3, xk_109_4, xk_109_5, xk_109_6, xk_109_7, xk_109_8, xk_109_9, xk_109_10, xk_109_11, xk_109_12, xk_109_13, xk_109_14, xk_109_15, xk_109_16, xk_109_17, xk_109_18, xk_109_19, xk_109_20, xk_109_21, xk_109_22, xk_109_23, xk_109_24, xk_109_25, xk_109_26, xk_109_27, xk_109_28, xk_109_29, xk_109_30, xk_109_31, xk_109_32, trivial⟩
theorem xd_110_0 : decode prog_6_method_5_code 0 = .ok (.aload_n 0, 1) := by decide +kernel
theorem xd_110_1 : decode prog_6_method_5_code 1 = .ok (.invokevirtual 40, 3) := by decide +kernel
theorem xd_110_4 : decode prog_6_method_5_code 4 = .ok (.ifCond .eq 16, 3) := by decide +kernel
theorem xd_110_7 : decode prog_6_method_5_code 7 = .ok (.aload_n 0, 1) := by decide +kernel
theorem xd_110_8 : decode prog_6_method_5_code 8 = .ok (.getfield 17, 3) := by decide +kernel
theorem xd_110_11 : decode prog_6_method_5_code 11 = .ok (.iconst 4, 1) := by decide +kernel
theorem xd_110_12 : decode prog_6_method_5_code 12 = .ok (.iload_n 1, 1) := by decide +kernel
theorem xd_110_13 : decode prog_6_method_5_code 13 = .ok (.iconst 1, 1) := by decide +kernel
theorem xd_110_14 : decode prog_6_method_5_code 14 = .ok (.isub, 1) := by decide +kernel
theorem xd_110_15 : decode prog_6_method_5_code 15 = .ok (.imul, 1) := by decide +kernel
theorem xd_110_16 : decode prog_6_method_5_code 16 = .ok (.iload_n 2, 1) := by decide +kernel
theorem xd_110_17 : decode prog_6_method_5_code 17 = .ok (.iadd, 1) := by decide +kernel
theorem xd_110_18 : decode prog_6_method_5_code 18 = .ok (.iload_n 3, 1) := by decide +kernel
theorem xd_110_19 : decode prog_6_method_5_code 19 = .ok (.iastore, 1) := by decide +kernel
theorem xd_110_20 : decode prog_6_method_5_code 20 = .ok (.return_, 1) := by decide +kernel
theorem xk_110_0 : xk_OkA xp_F (xp_P sc) xp_cl xp_BW xp_NW xp_SW xp_exn 110 0 (.aload 0) := Or.inr ⟨0, rfl, xd_110_0, rfl⟩
theorem xk_110_1 : xk_OkA xp_F (xp_P sc) xp_cl xp_BW xp_NW xp_SW xp_exn 110 1 (.invokeinterface 109 1) := ⟨rfl, Or.inl ⟨xwt_832, rfl⟩, rfl, rfl, xwt_5, by decide +kernel, by decide +kernel, Nat.le_of_ble_eq_true rfl, _, Or.inl xwt_829, Or.inr ⟨xd_110_1, xwt_831, xws_83, ⟨_, _, _, rfl, rfl⟩, by decide +kernel⟩⟩
theorem xk_110_2 : xk_OkA xp_F (xp_P sc) xp_cl xp_BW xp_NW xp_SW xp_exn 110 2 (.ifCond .eq 14) := ⟨_, xd_110_4, by unfold xf_to; decide +kernel, rfl⟩
theorem xk_110_3 : xk_OkA xp_F (xp_P sc) xp_cl xp_BW xp_NW xp_SW xp_exn 110 3 (.aload 0) := Or.inr ⟨0, rfl, xd_110_7, rfl⟩
theorem xk_110_4 : xk_OkA xp_F (xp_P sc) xp_cl xp_BW xp_NW xp_SW xp_exn 110 4 (.getfield 131) := ⟨_, xd_110_8, rfl, ⟨_, _, _, rfl, by decide, xu_4, Or.inl xwt_757⟩⟩
theorem xk_110_5 : xk_OkA xp_F (xp_P sc) xp_cl xp_BW xp_NW xp_SW xp_exn 110 5 (.iconst 4) := Or.inl ⟨xd_110_11, rfl⟩
theorem xk_110_6 : xk_OkA xp_F (xp_P sc) xp_cl xp_BW xp_NW xp_SW xp_exn 110 6 (.iload 1) := Or.inr ⟨1, rfl, xd_110_12, rfl⟩
theorem xk_110_7 : xk_OkA xp_F (xp_P sc) xp_cl xp_BW xp_NW xp_SW xp_exn 110 7 (.iconst 1) := Or.inl ⟨xd_110_13, rfl⟩
theorem xk_110_8 : xk_OkA xp_F (xp_P sc) xp_cl xp_BW xp_NW xp_SW xp_exn 110 8 (.isub) := ⟨xd_110_14, rfl⟩
theorem xk_110_9 : xk_OkA xp_F (xp_P sc) xp_cl xp_BW xp_NW xp_SW xp_exn 110 9 (.imul) := ⟨xd_110_15, rfl⟩
theorem xk_110_10 : xk_OkA xp_F (xp_P sc) xp_cl xp_BW xp_NW xp_SW xp_exn 110 10 (.iload 2) := Or.inr ⟨2, rfl, xd_110_16, rfl⟩
theorem xk_110_11 : xk_OkA xp_F (xp_P sc) xp_cl xp_BW xp_NW xp_SW xp_exn 110 11 (.iadd) := ⟨xd_110_17, rfl⟩
theorem xk_110_12 : xk_OkA xp_F (xp_P sc) xp_cl xp_BW xp_NW xp_SW xp_exn 110 12 (.iload 3) := Or.inr ⟨3, rfl, xd_110_18, rfl⟩
theorem xk_110_13 : xk_OkA xp_F (xp_P sc) xp_cl xp_BW xp_NW xp_SW xp_exn 110 13 (.iastore) := ⟨xd_110_19, rfl⟩
theorem xk_110_14 : xk_OkA xp_F (xp_P sc) xp_cl xp_BW xp_NW xp_SW xp_exn 110 14 (.return_) := ⟨xd_110_20, rfl⟩
theorem xl_110 : xk_OkL xp_F (xp_P sc) xp_cl xp_BW xp_NW xp_SW xp_exn 110 0 xc_110 := ⟨xk_110_0, xk_110_1, xk_110_2, xk_110_3, xk_110_4, xk_110_5, xk_110_6, xk_110_7, xk_110_8, xk_110_9, xk_110_10, xk_110_11, xk_110_12, xk_110_13, xk_110_14, trivial⟩
theorem xd_111_0 : decode prog_6_method_6_code 0 = .ok (.aload_n 0, 1) := by decide +kernel
theorem xd_111_1 : decode prog_6_method_6_code 1 = .ok (.getfield 17, 3) := by decide +kernel
theorem xd_111_4 : decode prog_6_method_6_code 4 = .ok (.iconst 4, 1) := by decide +kernel
theorem xd_111_5 : decode prog_6_method_6_code 5 = .ok (.iload_n 1, 1) := by decide +kernel
theorem xd_111_6 : decode prog_6_method_6_code 6 = .ok (.iconst 1, 1) := by decide +kernel
theorem xd_111_7 : decode prog_6_method_6_code 7 = .ok (.isub, 1) := by decide +kernel
theorem xd_111_8 : decode prog_6_method_6_code 8 = .ok (.imul, 1) := by decide +kernel
theorem xd_111_9 : decode prog_6_method_6_code 9 = .ok (.iload_n 2, 1) := by decide +kernel
theorem xd_111_10 : decode prog_6_method_6_code 10 = .ok (.iadd, 1) := by decide +kernel
theorem xd_111_11 : decode prog_6_method_6_code 11 = .ok (.iaload, 1) := by decide +kernel
theorem xd_111_12 : decode prog_6_method_6_code 12 = .ok (.ireturn, 1) := by decide +kernel
theorem xk_111_0 : xk_OkA xp_F (xp_P sc) xp_cl xp_BW xp_NW xp_SW xp_exn 111 0 (.aload 0) := Or.inr ⟨0, rfl, xd_111_0, rfl⟩
theorem xk_111_1 : xk_OkA xp_F (xp_P sc) xp_cl xp_BW xp_NW xp_SW xp_exn 111 1 (.getfield 131) := ⟨_, xd_111_1, rfl, ⟨_, _, _, rfl, by decide, xu_4, Or.inl xwt_757⟩⟩
theorem xk_111_2 : xk_OkA xp_F (xp_P sc) xp_cl xp_BW xp_NW xp_SW xp_exn 111 2 (.iconst 4) := Or.inl ⟨xd_111_4, rfl⟩
theorem xk_111_3 : xk_OkA xp_F (xp_P sc) xp_cl xp_BW xp_NW xp_SW xp_exn 111 3 (.iload 1) := Or.inr ⟨1, rfl, xd_111_5, rfl⟩
theorem xk_111_4 : xk_OkA xp_F (xp_P sc) xp_cl xp_BW xp_NW xp_SW xp_exn 111 4 (.iconst 1) := Or.inl ⟨xd_111_6, rfl⟩
theorem xk_111_5 : xk_OkA xp_F (xp_P sc) xp_cl xp_BW xp_NW xp_SW xp_exn 111 5 (.isub) := ⟨xd_111_7, rfl⟩
theorem xk_111_6 : xk_OkA xp_F (xp_P sc) xp_cl xp_BW xp_NW xp_SW xp_exn 111 6 (.imul) := ⟨xd_111_8, rfl⟩
theorem xk_111_7 : xk_OkA xp_F (xp_P sc) xp_cl xp_BW xp_NW xp_SW xp_exn 111 7 (.iload 2) := Or.inr ⟨2, rfl, xd_111_9, rfl⟩
theorem xk_111_8 : xk_OkA xp_F (xp_P sc) xp_cl xp_BW xp_NW xp_SW xp_exn 111 8 (.iadd) := ⟨xd_111_10, rfl⟩
theorem xk_111_9 : xk_OkA xp_F (xp_P sc) xp_cl xp_BW xp_NW xp_SW xp_exn 111 9 (.iaload) := ⟨xd_111_11, rfl⟩
theorem xk_111_10 : xk_OkA xp_F (xp_P sc) xp_cl xp_BW xp_NW xp_SW xp_exn 111 10 (.ireturn) := ⟨xd_111_12, rfl⟩
theorem xl_111 : xk_OkL xp_F (xp_P sc) xp_cl xp_BW xp_NW xp_SW xp_exn 111 0 xc_111 := ⟨xk_111_0, xk_111_1, xk_111_2, xk_111_3, xk_111_4, xk_111_5, xk_111_6, xk_111_7, xk_111_8, xk_111_9, xk_111_10, trivial⟩
theorem xd_112_0 : decode prog_6_method_7_code 0 = .ok (.aload_n 0, 1) := by decide +kernel
theorem xd_112_1 : decode prog_6_method_7_code 1 = .ok (.iconst 5, 1) := by decide +kernel
theorem xd_112_2 : decode prog_6_method_7_code 2 = .ok (.iload_n 1, 1) := by decide +kernel
theorem xd_112_3 : decode prog_6_method_7_code 3 = .ok (.iadd, 1) := by decide +kernel
theorem xd_112_4 : decode prog_6_method_7_code 4 = .ok (.iaload, 1) := by decide +kernel
theorem xd_112_5 : decode prog_6_method_7_code 5 = .ok (.ifCond .ne 7, 3) := by decide +kernel
theorem xd_112_8 : decode prog_6_method_7_code 8 = .ok (.iconst (-1), 1) := by decide +kernel
theorem xd_112_9 : decode prog_6_method_7_code 9 = .ok (.goto 12, 3) := by decide +kernel
theorem xd_112_12 : decode prog_6_method_7_code 12 = .ok (.aload_n 0, 1) := by decide +kernel
theorem xd_112_13 : decode prog_6_method_7_code 13 = .ok (.iconst 5, 1) := by decide +kernel
theorem xd_112_14 : decode prog_6_method_7_code 14 = .ok (.iload_n 1, 1) := by decide +kernel
theorem xd_112_15 : decode prog_6_method_7_code 15 = .ok (.iadd, 1) := by decide +kernel
theorem xd_112_16 : decode prog_6_method_7_code 16 = .ok (.iaload, 1) := by decide +kernel
theorem xd_112_17 : decode prog_6_method_7_code 17 = .ok (.iconst 4, 1) := by decide +kernel
theorem xd_112_18 : decode prog_6_method_7_code 18 = .ok (.irem, 1) := by decide +kernel
theorem xd_112_19 : decode prog_6_method_7_code 19 = .ok (.iconst 1, 1) := by decide +kernel
theorem xd_112_20 : decode prog_6_method_7_code 20 = .ok (.isub, 1) := by decide +kernel
theorem xd_112_21 : decode prog_6_method_7_code 21 = .ok (.ireturn, 1) := by decide +kernel
theorem xk_112_0 : xk_OkA xp_F (xp_P sc) xp_cl xp_BW xp_NW xp_SW xp_exn 112 0 (.aload 0) := Or.inr ⟨0, rfl, xd_112_0, rfl⟩
theorem xk_112_1 : xk_OkA xp_F (xp_P sc) xp_cl xp_BW xp_NW xp_SW xp_exn 112 1 (.iconst 5) := Or.inl ⟨xd_112_1, rfl⟩
theorem xk_112_2 : xk_OkA xp_F (xp_P sc) xp_cl xp_BW xp_NW xp_SW xp_exn 112 2 (.iload 1) := Or.inr ⟨1, rfl, xd_112_2, rfl⟩
theorem xk_112_3 : xk_OkA xp_F (xp_P sc) xp_cl xp_BW xp_NW xp_SW xp_exn 112 3 (.iadd) := ⟨xd_112_3, rfl⟩
theorem xk_112_4 : xk_OkA xp_F (xp_P sc) xp_cl xp_BW xp_NW xp_SW xp_exn 112 4 (.iaload) := ⟨xd_112_4, rfl⟩
theorem xk_112_5 : xk_OkA xp_F (xp_P sc) xp_cl xp_BW xp_NW xp_SW xp_exn 112 5 (.ifCond .ne 8) := ⟨_, xd_112_5, by unfold xf_to; decide +kernel, rfl⟩
theorem xk_112_6 : xk_OkA xp_F (xp_P sc) xp_cl xp_BW xp_NW xp_SW xp_exn 112 6 (.iconst (-1)) := Or.inl ⟨xd_112_8, rfl⟩
theorem xk_112_7 : xk_OkA xp_F (xp_P sc) xp_cl xp_BW xp_NW xp_SW xp_exn 112 7 (.goto 17) := ⟨_, xd_112_9, by unfold xf_to; decide +kernel⟩
theorem xk_112_8 : xk_OkA xp_F (xp_P sc) xp_cl xp_BW xp_NW xp_SW xp_exn 112 8 (.aload 0) := Or.inr ⟨0, rfl, xd_112_12, rfl⟩
theorem xk_112_9 : xk_OkA xp_F (xp_P sc) xp_cl xp_BW xp_NW xp_SW xp_exn 112 9 (.iconst 5) := Or.inl ⟨xd_112_13, rfl⟩
theorem xk_112_10 : xk_OkA xp_F (xp_P sc) xp_cl xp_BW xp_NW xp_SW xp_exn 112 10 (.iload 1) := Or.inr ⟨1, rfl, xd_112_14, rfl⟩
theorem xk_112_11 : xk_OkA xp_F (xp_P sc) xp_cl xp_BW xp_NW xp_SW xp_exn 112 11 (.iadd) := ⟨xd_112_15, rfl⟩
theorem xk_112_12 : xk_OkA xp_F (xp_P sc) xp_cl xp_BW xp_NW xp_SW xp_exn 112 12 (.iaload) := ⟨xd_112_16, rfl⟩
theorem xk_112_13 : xk_OkA xp_F (xp_P sc) xp_cl xp_BW xp_NW xp_SW xp_exn 112 13 (.iconst 4) := Or.inl ⟨xd_112_17, rfl⟩
theorem xk_112_14 : xk_OkA xp_F (xp_P sc) xp_cl xp_BW xp_NW xp_SW xp_exn 112 14 (.irem) := ⟨xd_112_18, rfl⟩
theorem xk_112_15 : xk_OkA xp_F (xp_P sc) xp_cl xp_BW xp_NW xp_SW xp_exn 112 15 (.iconst 1) := Or.inl ⟨xd_112_19, rfl⟩
theorem xk_112_16 : xk_OkA xp_F (xp_P sc) xp_cl xp_BW xp_NW xp_SW xp_exn 112 16 (.isub) := ⟨xd_112_20, rfl⟩
theorem xk_112_17 : xk_OkA xp_F (xp_P sc) xp_cl xp_BW xp_NW xp_SW xp_exn 112 17 (.ireturn) := ⟨xd_112_21, rfl⟩
theorem xl_112 : xk_OkL xp_F (xp_P sc) xp_cl xp_BW xp_NW xp_SW xp_exn 112 0 xc_112 := ⟨xk_112_0, xk_112_1, xk_112_2, xk_112_3, xk_112_4, xk_112_5, xk_112_6, xk_112_7, xk_112_8, xk_112_9, xk_112_10, xk_112_11, xk_112_12, xk_112_13, xk_112_14, xk_112_15, xk_112_16, xk_112_17, trivial⟩
theorem xd_113_0 : decode prog_6_method_8_code 0 = .ok (.aload_n 0, 1) := by decide +kernel
theorem xd_113_1 : decode prog_6_method_8_code 1 = .ok (.iconst 5, 1) := by decide +kernel
theorem xd_113_2 : decode prog_6_method_8_code 2 = .ok (.iload_n 1, 1) := by decide +kernel
theorem xd_113_3 : decode prog_6_method_8_code 3 = .ok (.iadd, 1) := by decide +kernel
theorem xd_113_4 : decode prog_6_method_8_code 4 = .ok (.iaload, 1) := by decide +kernel
theorem xd_113_5 : decode prog_6_method_8_code 5 = .ok (.iconst 4, 1) := by decide +kernel
theorem xd_113_6 : decode prog_6_method_8_code 6 = .ok (.idiv, 1) := by decide +kernel
theorem xd_113_7 : decode prog_6_method_8_code 7 = .ok (.bipush 8, 2) := by decide +kernel
theorem xd_113_9 : decode prog_6_method_8_code 9 = .ok (.irem, 1) := by decide +kernel
theorem xd_113_10 : decode prog_6_method_8_code 10 = .ok (.ireturn, 1) := by decide +kernel
theorem xk_113_0 : xk_OkA xp_F (xp_P sc) xp_cl xp_BW xp_NW xp_SW xp_exn 113 0 (.aload 0) := Or.inr ⟨0, rfl, xd_113_0, rfl⟩
theorem xk_113_1 : xk_OkA xp_F (xp_P sc) xp_cl xp_BW xp_NW xp_SW xp_exn 113 1 (.iconst 5) := Or.inl ⟨xd_113_1, rfl⟩
theorem xk_113_2 : xk_OkA xp_F (xp_P sc) xp_cl xp_BW xp_NW xp_SW xp_exn 113 2 (.iload 1) := Or.inr ⟨1, rfl, xd_113_2, rfl⟩
theorem xk_113_3 : xk_OkA xp_F (xp_P sc) xp_cl xp_BW xp_NW xp_SW xp_exn 113 3 (.iadd) := ⟨xd_113_3, rfl⟩
theorem xk_113_4 : xk_OkA xp_F (xp_P sc) xp_cl xp_BW xp_NW xp_SW xp_exn 113 4 (.iaload) := ⟨xd_113_4, rfl⟩
theorem xk_113_5 : xk_OkA xp_F (xp_P sc) xp_cl xp_BW xp_NW xp_SW xp_exn 113 5 (.iconst 4) := Or.inl ⟨xd_113_5, rfl⟩
theorem xk_113_6 : xk_OkA xp_F (xp_P sc) xp_cl xp_BW xp_NW xp_SW xp_exn 113 6 (.idiv) := ⟨xd_113_6, rfl⟩
theorem xk_113_7 : xk_OkA xp_F (xp_P sc) xp_cl xp_BW xp_NW xp_SW xp_exn 113 7 (.iconst 8) := Or.inr (Or.inl ⟨xd_113_7, by decide +kernel, rfl⟩)
theorem xk_113_8 : xk_OkA xp_F (xp_P sc) xp_cl xp_BW xp_NW xp_SW xp_exn 113 8 (.irem) := ⟨xd_113_9, rfl⟩
theorem xk_113_9 : xk_OkA xp_F (xp_P sc) xp_cl xp_BW xp_NW xp_SW xp_exn 113 9 (.ireturn) := ⟨xd_113_10, rfl⟩
theorem xl_113 : xk_OkL xp_F (xp_P sc) xp_cl xp_BW xp_NW xp_SW xp_exn 113 0 xc_113 := ⟨xk_113_0, xk_113_1, xk_113_2, xk_113_3, xk_113_4, xk_113_5, xk_113_6, xk_113_7, xk_113_8, xk_113_9, trivial⟩
theorem xd_114_0 : decode prog_6_method_9_code 0 = .ok (.aload_n 0, 1) := by decide +kernel
theorem xd_114_1 : decode prog_6_method_9_code 1 = .ok (.iconst 5, 1) := by decide +kernel
theorem xd_114_2 : decode prog_6_method_9_code 2 = .ok (.iload_n 1, 1) := by decide +kernel
theorem xd_114_3 : decode prog_6_method_9_code 3 = .ok (.iadd, 1) := by decide +kernel
theorem xd_114_4 : decode prog_6_method_9_code 4 = .ok (.iaload, 1) := by decide +kernel
theorem xd_114_5 : decode prog_6_method_9_code 5 = .ok (.bipush 32, 2) := by decide +kernel
theorem xd_114_7 : decode prog_6_method_9_code 7 = .ok (.idiv, 1) := by decide +kernel
theorem xd_114_8 : decode prog_6_method_9_code 8 = .ok (.ireturn, 1) := by decide +kernel
theorem xk_114_0 : xk_OkA xp_F (xp_P sc) xp_cl xp_BW xp_NW xp_SW xp_exn 114 0 (.aload 0) := Or.inr ⟨0, rfl, xd_114_0, rfl⟩
theorem xk_114_1 : xk_OkA xp_F (xp_P sc) xp_cl xp_BW xp_NW xp_SW xp_exn 114 1 (.iconst 5) := Or.inl ⟨xd_114_1, rfl⟩
theorem xk_114_2 : xk_OkA xp_F (xp_P sc) xp_cl xp_BW xp_NW xp_SW xp_exn 114 2 (.iload 1) := Or.inr ⟨1, rfl, xd_114_2, rfl⟩
theorem xk_114_3 : xk_OkA xp_F (xp_P sc) xp_cl xp_BW xp_NW xp_SW xp_exn 114 3 (.iadd) := ⟨xd_114_3, rfl⟩
theorem xk_114_4 : xk_OkA xp_F (xp_P sc) xp_cl xp_BW xp_NW xp_SW xp_exn 114 4 (.iaload) := ⟨xd_114_4, rfl⟩
theorem xk_114_5 : xk_OkA xp_F (xp_P sc) xp_cl xp_BW xp_NW xp_SW xp_exn 114 5 (.iconst 32) := Or.inr (Or.inl ⟨xd_114_5, by decide +kernel, rfl⟩)
theorem xk_114_6 : xk_OkA xp_F (xp_P sc) xp_cl xp_BW xp_NW xp_SW xp_exn 114 6 (.idiv) := ⟨xd_114_7, rfl⟩
theorem xk_114_7 : xk_OkA xp_F (xp_P sc) xp_cl xp_BW xp_NW xp_SW xp_exn 114 7 (.ireturn) := ⟨xd_114_8, rfl⟩
theorem xl_114 : xk_OkL xp_F (xp_P sc) xp_cl xp_BW xp_NW xp_SW xp_exn 114 0 xc_114 := ⟨xk_114_0, xk_114_1, xk_114_2, xk_114_3, xk_114_4, xk_114_5, xk_114_6, xk_114_7, trivial⟩
theorem xd_115_0 : decode prog_6_method_10_code 0 = .ok (.iload_n 1, 1) := by decide +kernel
theorem xd_115_1 : decode prog_6_method_10_code 1 = .ok (.ifCond .lt 23, 3) := by decide +kernel
theorem xd_115_4 : decode prog_6_method_10_code 4 = .ok (.iload_n 1, 1) := by decide +kernel
theorem xd_115_5 : decode prog_6_method_10_code 5 = .ok (.iconst 4, 1) := by decide +kernel
theorem xd_115_6 : decode prog_6_method_10_code 6 = .ok (.if_icmp .ge 18, 3) := by decide +kernel
theorem xd_115_9 : decode prog_6_method_10_code 9 = .ok (.aload_n 0, 1) := by decide +kernel
theorem xd_115_10 : decode prog_6_method_10_code 10 = .ok (.getfield 28, 3) := by decide +kernel
theorem xd_115_13 : decode prog_6_method_10_code 13 = .ok (.iconst 5, 1) := by decide +kernel
theorem xd_115_14 : decode prog_6_method_10_code 14 = .ok (.iload_n 1, 1) := by decide +kernel
theorem xd_115_15 : decode prog_6_method_10_code 15 = .ok (.iadd, 1) := by decide +kernel
theorem xd_115_16 : decode prog_6_method_10_code 16 = .ok (.iaload, 1) := by decide +kernel
theorem xd_115_17 : decode prog_6_method_10_code 17 = .ok (.ifCond .eq 7, 3) := by decide +kernel
theorem xd_115_20 : decode prog_6_method_10_code 20 = .ok (.iconst 1, 1) := by decide +kernel
theorem xd_115_21 : decode prog_6_method_10_code 21 = .ok (.goto 4, 3) := by decide +kernel
theorem xd_115_24 : decode prog_6_method_10_code 24 = .ok (.iconst 0, 1) := by decide +kernel
theorem xd_115_25 : decode prog_6_method_10_code 25 = .ok (.ireturn, 1) := by decide +kernel
theorem xk_115_0 : xk_OkA xp_F (xp_P sc) xp_cl xp_BW xp_NW xp_SW xp_exn 115 0 (.iload 1) := Or.inr ⟨1, rfl, xd_115_0, rfl⟩
theorem xk_115_1 : xk_OkA xp_F (xp_P sc) xp_cl xp_BW xp_NW xp_SW xp_exn 115 1 (.ifCond .lt 14) := ⟨_, xd_115_1, by unfold xf_to; decide +kernel, rfl⟩
theorem xk_115_2 : xk_OkA xp_F (xp_P sc) xp_cl xp_BW xp_NW xp_SW xp_exn 115 2 (.iload 1) := Or.inr ⟨1, rfl, xd_115_4, rfl⟩
theorem xk_115_3 : xk_OkA xp_F (xp_P sc) xp_cl xp_BW xp_NW xp_SW xp_exn 115 3 (.iconst 4) := Or.inl ⟨xd_115_5, rfl⟩
theorem xk_115_4 : xk_OkA xp_F (xp_P sc) xp_cl xp_BW xp_NW xp_SW xp_exn 115 4 (.if_icmp .ge 14) := ⟨_, xd_115_6, by unfold xf_to; decide +kernel, rfl⟩
theorem xk_115_5 : xk_OkA xp_F (xp_P sc) xp_cl xp_BW xp_NW xp_SW xp_exn 115 5 (.aload 0) := Or.inr ⟨0, rfl, xd_115_9, rfl⟩
theorem xk_115_6 : xk_OkA xp_F (xp_P sc) xp_cl xp_BW xp_NW xp_SW xp_exn 115 6 (.getfield 134) := ⟨_, xd_115_10, rfl, ⟨_, _, _, rfl, by decide, xu_4, Or.inl xwt_760⟩⟩
theorem xk_115_7 : xk_OkA xp_F (xp_P sc) xp_cl xp_BW xp_NW xp_SW xp_exn 115 7 (.iconst 5) := Or.inl ⟨xd_115_13, rfl⟩
theorem xk_115_8 : xk_OkA xp_F (xp_P sc) xp_cl xp_BW xp_NW xp_SW xp_exn 115 8 (.iload 1) := Or.inr ⟨1, rfl, xd_115_14, rfl⟩
theorem xk_115_9 : xk_OkA xp_F (xp_P sc) xp_cl xp_BW xp_NW xp_SW xp_exn 115 9 (.iadd) := ⟨xd_115_15, rfl⟩
theorem xk_115_10 : xk_OkA xp_F (xp_P sc) xp_cl xp_BW xp_NW xp_SW xp_exn 115 10 (.iaload) := ⟨xd_115_16, rfl⟩
theorem xk_115_11 : xk_OkA xp_F (xp_P sc) xp_cl xp_BW xp_NW xp_SW xp_exn 115 11 (.ifCond .eq 14) := ⟨_, xd_115_17, by unfold xf_to; decide +kernel, rfl⟩
theorem xk_115_12 : xk_OkA xp_F (xp_P sc) xp_cl xp_BW xp_NW xp_SW xp_exn 115 12 (.iconst 1) := Or.inl ⟨xd_115_20, rfl⟩
theorem xk_115_13 : xk_OkA xp_F (xp_P sc) xp_cl xp_BW xp_NW xp_SW xp_exn 115 13 (.goto 15) := ⟨_, xd_115_21, by unfold xf_to; decide +kernel⟩
theorem xk_115_14 : xk_OkA xp_F (xp_P sc) xp_cl xp_BW xp_NW xp_SW xp_exn 115 14 (.iconst 0) := Or.inl ⟨xd_115_24, rfl⟩
theorem xk_115_15 : xk_OkA xp_F (xp_P sc) xp_cl xp_BW xp_NW xp_SW xp_exn 115 15 (.freturn) := ⟨xd_115_25, rfl⟩
theorem xl_115 : xk_OkL xp_F (xp_P sc) xp_cl xp_BW xp_NW xp_SW xp_exn 115 0 xc_115 := ⟨xk_115_0, xk_115_1, xk_115_2, xk_115_3, xk_115_4, xk_115_5, xk_115_6, xk_115_7, xk_115_8, xk_115_9, xk_115_10, xk_115_11, xk_115_12, xk_115_13, xk_115_14, xk_115_15, trivial⟩
theorem xd_116_0 : decode prog_6_method_11_code 0 = .ok (.iconst 0, 1) := by decide +kernel
theorem xd_116_1 : decode prog_6_method_11_code 1 = .ok (.istore_n 2, 1) := by decide +kernel
theorem xd_116_2 : decode prog_6_method_11_code 2 = .ok (.bipush 9, 2) := by decide +kernel
theorem xd_116_4 : decode prog_6_method_11_code 4 = .ok (.istore_n 3, 1) := by decide +kernel
theorem xd_116_5 : decode prog_6_method_11_code 5 = .ok (.iload_n 3, 1) := by decide +kernel
theorem xd_116_6 : decode prog_6_method_11_code 6 = .ok (.bipush 49, 2) := by decide +kernel
theorem xd_116_8 : decode prog_6_method_11_code 8 = .ok (.if_icmp .ge 26, 3) := by decide +kernel
theorem xd_116_11 : decode prog_6_method_11_code 11 = .ok (.iload_n 2, 1) := by decide +kernel
theorem xd_116_12 : decode prog_6_method_11_code 12 = .ok (.ifCond .ne 10, 3) := by decide +kernel
theorem xd_116_15 : decode prog_6_method_11_code 15 = .ok (.aload_n 0, 1) := by decide +kernel
theorem xd_116_16 : decode prog_6_method_11_code 16 = .ok (.iload_n 3, 1) := by decide +kernel
theorem xd_116_17 : decode prog_6_method_11_code 17 = .ok (.iaload, 1) := by decide +kernel
theorem xd_116_18 : decode prog_6_method_11_code 18 = .ok (.iload_n 1, 1) := by decide +kernel
theorem xd_116_19 : decode prog_6_method_11_code 19 = .ok (.if_icmp .ne 7, 3) := by decide +kernel
theorem xd_116_22 : decode prog_6_method_11_code 22 = .ok (.iconst 1, 1) := by decide +kernel
theorem xd_116_23 : decode prog_6_method_11_code 23 = .ok (.goto 4, 3) := by decide +kernel
theorem xd_116_26 : decode prog_6_method_11_code 26 = .ok (.iconst 0, 1) := by decide +kernel
theorem xd_116_27 : decode prog_6_method_11_code 27 = .ok (.istore_n 2, 1) := by decide +kernel
theorem xd_116_28 : decode prog_6_method_11_code 28 = .ok (.iinc 3 (1), 3) := by decide +kernel
theorem xd_116_31 : decode prog_6_method_11_code 31 = .ok (.goto (-26), 3) := by decide +kernel
theorem xd_116_34 : decode prog_6_method_11_code 34 = .ok (.iload_n 2, 1) := by decide +kernel
theorem xd_116_35 : decode prog_6_method_11_code 35 = .ok (.ireturn, 1) := by decide +kernel
theorem xk_116_0 : xk_OkA xp_F (xp_P sc) xp_cl xp_BW xp_NW xp_SW xp_exn 116 0 (.iconst 0) := Or.inl ⟨xd_116_0, rfl⟩
theorem xk_116_1 : xk_OkA xp_F (xp_P sc) xp_cl xp_BW xp_NW xp_SW xp_exn 116 1 (.istore 2) := Or.inr ⟨2, rfl, xd_116_1, rfl⟩
theorem xk_116_2 : xk_OkA xp_F (xp_P sc) xp_cl xp_BW xp_NW xp_SW xp_exn 116 2 (.iconst 9) := Or.inr (Or.inl ⟨xd_116_2, by decide +kernel, rfl⟩)
theorem xk_116_3 : xk_OkA xp_F (xp_P sc) xp_cl xp_BW xp_NW xp_SW xp_exn 116 3 (.istore 3) := Or.inr ⟨3, rfl, xd_116_4, rfl⟩
theorem xk_116_4 : xk_OkA xp_F (xp_P sc) xp_cl xp_BW xp_NW xp_SW xp_exn 116 4 (.iload 3) := Or.inr ⟨3, rfl, xd_116_5, rfl⟩
theorem xk_116_5 : xk_OkA xp_F (xp_P sc) xp_cl xp_BW xp_NW xp_SW xp_exn 116 5 (.iconst 49) := Or.inr (Or.inl ⟨xd_116_6, by decide +kernel, rfl⟩)
theorem xk_116_6 : xk_OkA xp_F (xp_P sc) xp_cl xp_BW xp_NW xp_SW xp_exn 116 6 (.if_icmp .ge 20) := ⟨_, xd_116_8, by unfold xf_to; decide +kernel, rfl⟩
theorem xk_116_7 : xk_OkA xp_F (xp_P sc) xp_cl xp_BW xp_NW xp_SW xp_exn 116 7 (.iload 2) := Or.inr ⟨2, rfl, xd_116_11, rfl⟩
theorem xk_116_8 : xk_OkA xp_F (xp_P sc) xp_cl xp_BW xp_NW xp_SW xp_exn 116 8 (.ifCond .ne 14) := ⟨_, xd_116_12, by unfold xf_to; decide +kernel, rfl⟩
theorem xk_116_9 : xk_OkA xp_F (xp_P sc) xp_cl xp_BW xp_NW xp_SW xp_exn 116 9 (.aload 0) := Or.inr ⟨0, rfl, xd_116_15, rfl⟩
theorem xk_116_10 : xk_OkA xp_F (xp_P sc) xp_cl xp_BW xp_NW xp_SW xp_exn 116 10 (.iload 3) := Or.inr ⟨3, rfl, xd_116_16, rfl⟩
theorem xk_116_11 : xk_OkA xp_F (xp_P sc) xp_cl xp_BW xp_NW xp_SW xp_exn 116 11 (.iaload) := ⟨xd_116_17, rfl⟩
theorem xk_116_12 : xk_OkA xp_F (xp_P sc) xp_cl xp_BW xp_NW xp_SW xp_exn 116 12 (.iload 1) := Or.inr ⟨1, rfl, xd_116_18, rfl⟩
theorem xk_116_13 : xk_OkA xp_F (xp_P sc) xp_cl xp_BW xp_NW xp_SW xp_exn 116 13 (.if_icmp .ne 16) := ⟨_, xd_116_19, by unfold xf_to; decide +kernel, rfl⟩
theorem xk_116_14 : xk_OkA xp_F (xp_P sc) xp_cl xp_BW xp_NW xp_SW xp_exn 116 14 (.iconst 1) := Or.inl ⟨xd_116_22, rfl⟩
theorem xk_116_15 : xk_OkA xp_F (xp_P sc) xp_cl xp_BW xp_NW xp_SW xp_exn 116 15 (.goto 17) := ⟨_, xd_116_23, by unfold xf_to; decide +kernel⟩
theorem xk_116_16 : xk_OkA xp_F (xp_P sc) xp_cl xp_BW xp_NW xp_SW xp_exn 116 16 (.iconst 0) := Or.inl ⟨xd_116_26, rfl⟩
theorem xk_116_17 : xk_OkA xp_F (xp_P sc) xp_cl xp_BW xp_NW xp_SW xp_exn 116 17 (.istore 2) := Or.inr ⟨2, rfl, xd_116_27, rfl⟩
theorem xk_116_18 : xk_OkA xp_F (xp_P sc) xp_cl xp_BW xp_NW xp_SW xp_exn 116 18 (.iinc 3 (1)) := ⟨xd_116_28, rfl⟩
theorem xk_116_19 : xk_OkA xp_F (xp_P sc) xp_cl xp_BW xp_NW xp_SW xp_exn 116 19 (.goto 4) := ⟨_, xd_116_31, by unfold xf_to; decide +kernel⟩
theorem xk_116_20 : xk_OkA xp_F (xp_P sc) xp_cl xp_BW xp_NW xp_SW xp_exn 116 20 (.iload 2) := Or.inr ⟨2, rfl, xd_116_34, rfl⟩
theorem xk_116_21 : xk_OkA xp_F (xp_P sc) xp_cl xp_BW xp_NW xp_SW xp_exn 116 21 (.freturn) := ⟨xd_116_35, rfl⟩
theorem xl_116 : xk_OkL xp_F (xp_P sc) xp_cl xp_BW xp_NW xp_SW xp_exn 116 0 xc_116 := ⟨xk_116_0, xk_116_1, xk_116_2, xk_116_3, xk_116_4, xk_116_5, xk_116_6, xk_116_7, xk_116_8, xk_116_9, xk_116_10, xk_116_11, xk_116_12, xk_116_13, xk_116_14, xk_116_15, xk_116_16, xk_116_17, xk_116_18, xk_116_19, xk_116_20, xk_116_21, trivial⟩
theorem xd_117_0 : decode prog_6_method_12_code 0 = .ok (.iconst 0, 1) := by decide +kernel
theorem xd_117_1 : decode prog_6_method_12_code 1 = .ok (.istore_n 2, 1) := by decide +kernel
theorem xd_117_2 : decode prog_6_method_12_code 2 = .ok (.bipush 9, 2) := by decide +kernel
theorem xd_117_4 : decode prog_6_method_12_code 4 = .ok (.istore_n 3, 1) := by decide +kernel
theorem xd_117_5 : decode prog_6_method_12_code 5 = .ok (.iload_n 3, 1) := by decide +kernel
theorem xd_117_6 : decode prog_6_method_12_code 6 = .ok (.bipush 49, 2) := by decide +kernel
theorem xd_117_8 : decode prog_6_method_12_code 8 = .ok (.if_icmp .ge 41, 3) := by decide +kernel
theorem xd_117_11 : decode prog_6_method_12_code 11 = .ok (.aload_n 0, 1) := by decide +kernel
theorem xd_117_12 : decode prog_6_method_12_code 12 = .ok (.getfield 28, 3) := by decide +kernel
theorem xd_117_15 : decode prog_6_method_12_code 15 = .ok (.iload_n 3, 1) := by decide +kernel
theorem xd_117_16 : decode prog_6_method_12_code 16 = .ok (.iaload, 1) := by decide +kernel
theorem xd_117_17 : decode prog_6_method_12_code 17 = .ok (.ifCond .le 24, 3) := by decide +kernel
theorem xd_117_20 : decode prog_6_method_12_code 20 = .ok (.aload_n 0, 1) := by decide +kernel
theorem xd_117_21 : decode prog_6_method_12_code 21 = .ok (.getfield 28, 3) := by decide +kernel
theorem xd_117_24 : decode prog_6_method_12_code 24 = .ok (.iload_n 3, 1) := by decide +kernel
theorem xd_117_25 : decode prog_6_method_12_code 25 = .ok (.iaload, 1) := by decide +kernel
theorem xd_117_26 : decode prog_6_method_12_code 26 = .ok (.iconst 1, 1) := by decide +kernel
theorem xd_117_27 : decode prog_6_method_12_code 27 = .ok (.isub, 1) := by decide +kernel
theorem xd_117_28 : decode prog_6_method_12_code 28 = .ok (.bipush 8, 2) := by decide +kernel
theorem xd_117_30 : decode prog_6_method_12_code 30 = .ok (.idiv, 1) := by decide +kernel
theorem xd_117_31 : decode prog_6_method_12_code 31 = .ok (.iload_n 1, 1) := by decide +kernel
theorem xd_117_32 : decode prog_6_method_12_code 32 = .ok (.if_icmp .ne 9, 3) := by decide +kernel
theorem xd_117_35 : decode prog_6_method_12_code 35 = .ok (.iload_n 2, 1) := by decide +kernel
theorem xd_117_36 : decode prog_6_method_12_code 36 = .ok (.iconst 1, 1) := by decide +kernel
theorem xd_117_37 : decode prog_6_method_12_code 37 = .ok (.iadd, 1) := by decide +kernel
theorem xd_117_38 : decode prog_6_method_12_code 38 = .ok (.goto 4, 3) := by decide +kernel
theorem xd_117_41 : decode prog_6_method_12_code 41 = .ok (.iload_n 2, 1) := by decide +kernel
theorem xd_117_42 : decode prog_6_method_12_code 42 = .ok (.istore_n 2, 1) := by decide +kernel
theorem xd_117_43 : decode prog_6_method_12_code 43 = .ok (.iinc 3 (1), 3) := by decide +kernel
theorem xd_117_46 : decode prog_6_method_12_code 46 = .ok (.goto (-41), 3) := by decide +kernel
theorem xd_117_49 : decode prog_6_method_12_code 49 = .ok (.iload_n 2, 1) := by decide +kernel
theorem xd_117_50 : decode prog_6_method_12_code 50 = .ok (.ireturn, 1) := by decide +kernel
theorem xk_117_0 : xk_OkA xp_F (xp_P sc) xp_cl xp_BW xp_NW xp_SW xp_exn 117 0 (.iconst 0) := Or.inl ⟨xd_117_0, rfl⟩
theorem xk_117_1 : xk_OkA xp_F (xp_P sc) xp_cl xp_BW xp_NW xp_SW xp_exn 117 1 (.istore 2) := Or.inr ⟨2, rfl, xd_117_1, rfl⟩
theorem xk_117_2 : xk_OkA xp_F (xp_P sc) xp_cl xp_BW xp_NW xp_SW xp_exn 117 2 (.iconst 9) := Or.inr (Or.inl ⟨xd_117_2, by decide +kernel, rfl⟩)
theorem xk_117_3 : xk_OkA xp_F (xp_P sc) xp_cl xp_BW xp_NW xp_SW xp_exn 117 3 (.istore 3) := Or.inr ⟨3, rfl, xd_117_4, rfl⟩
theorem xk_117_4 : xk_OkA xp_F (xp_P sc) xp_cl xp_BW xp_NW xp_SW xp_exn 117 4 (.iload 3) := Or.inr ⟨3, rfl, xd_117_5, rfl⟩
theorem xk_117_5 : xk_OkA xp_F (xp_P sc) xp_cl xp_BW xp_NW xp_SW xp_exn 117 5 (.iconst 49) := Or.inr (Or.inl ⟨xd_117_6, by decide +kernel, rfl⟩)
theorem xk_117_6 : xk_OkA xp_F (xp_P sc) xp_cl xp_BW xp_NW xp_SW xp_exn 117 6 (.if_icmp .ge 30) := ⟨_, xd_117_8, by unfold xf_to; decide +kernel, rfl⟩
theorem xk_117_7 : xk_OkA xp_F (xp_P sc) xp_cl xp_BW xp_NW xp_SW xp_exn 117 7 (.aload 0) := Or.inr ⟨0, rfl, xd_117_11, rfl⟩
theorem xk_117_8 : xk_OkA xp_F (xp_P sc) xp_cl xp_BW xp_NW xp_SW xp_exn 117 8 (.getfield 134) := ⟨_, xd_117_12, rfl, ⟨_, _, _, rfl, by decide, xu_4, Or.inl xwt_760⟩⟩
theorem xk_117_9 : xk_OkA xp_F (xp_P sc) xp_cl xp_BW xp_NW xp_SW xp_exn 117 9 (.iload 3) := Or.inr ⟨3, rfl, xd_117_15, rfl⟩
theorem xk_117_10 : xk_OkA xp_F (xp_P sc) xp_cl xp_BW xp_NW xp_SW xp_exn 117 10 (.iaload) := ⟨xd_117_16, rfl⟩
theorem xk_117_11 : xk_OkA xp_F (xp_P sc) xp_cl xp_BW xp_NW xp_SW xp_exn 117 11 (.ifCond .le 26) := ⟨_, xd_117_17, by unfold xf_to; decide +kernel, rfl⟩
theorem xk_117_12 : xk_OkA xp_F (xp_P sc) xp_cl xp_BW xp_NW xp_SW xp_exn 117 12 (.aload 0) := Or.inr ⟨0, rfl, xd_117_20, rfl⟩
theorem xk_117_13 : xk_OkA xp_F (xp_P sc) xp_cl xp_BW xp_NW xp_SW xp_exn 117 13 (.getfield 134) := ⟨_, xd_117_21, rfl, ⟨_, _, _, rfl, by decide, xu_4, Or.inl xwt_760⟩⟩
theorem xk_117_14 : xk_OkA xp_F (xp_P sc) xp_cl xp_BW xp_NW xp_SW xp_exn 117 14 (.iload 3) := Or.inr ⟨3, rfl, xd_117_24, rfl⟩
theorem xk_117_15 : xk_OkA xp_F (xp_P sc) xp_cl xp_BW xp_NW xp_SW xp_exn 117 15 (.iaload) := ⟨xd_117_25, rfl⟩
theorem xk_117_16 : xk_OkA xp_F (xp_P sc) xp_cl xp_BW xp_NW xp_SW xp_exn 117 16 (.iconst 1) := Or.inl ⟨xd_117_26, rfl⟩
theorem xk_117_17 : xk_OkA xp_F (xp_P sc) xp_cl xp_BW xp_NW xp_SW xp_exn 117 17 (.isub) := ⟨xd_117_27, rfl⟩
theorem xk_117_18 : xk_OkA xp_F (xp_P sc) xp_cl xp_BW xp_NW xp_SW xp_exn 117 18 (.iconst 8) := Or.inr (Or.inl ⟨xd_117_28, by decide +kernel, rfl⟩)
theorem xk_117_19 : xk_OkA xp_F (xp_P sc) xp_cl xp_BW xp_NW xp_SW xp_exn 117 19 (.idiv) := ⟨xd_117_30, rfl⟩
theorem xk_117_20 : xk_OkA xp_F (xp_P sc) xp_cl xp_BW xp_NW xp_SW xp_exn 117 20 (.iload 1) := Or.inr ⟨1, rfl, xd_117_31, rfl⟩
theorem xk_117_21 : xk_OkA xp_F (xp_P sc) xp_cl xp_BW xp_NW xp_SW xp_exn 117 21 (.if_icmp .ne 26) := ⟨_, xd_117_32, by unfold xf_to; decide +kernel, rfl⟩
theorem xk_117_22 : xk_OkA xp_F (xp_P sc) xp_cl xp_BW xp_NW xp_SW xp_exn 117 22 (.iload 2) := Or.inr ⟨2, rfl, xd_117_35, rfl⟩
theorem xk_117_23 : xk_OkA xp_F (xp_P sc) xp_cl xp_BW xp_NW xp_SW xp_exn 117 23 (.iconst 1) := Or.inl ⟨xd_117_36, rfl⟩
theorem xk_117_24 : xk_OkA xp_F (xp_P sc) xp_cl xp_BW xp_NW xp_SW xp_exn 117 24 (.iadd) := ⟨xd_117_37, rfl⟩
theorem xk_117_25 : xk_OkA xp_F (xp_P sc) xp_cl xp_BW xp_NW xp_SW xp_exn 117 25 (.goto 27) := ⟨_, xd_117_38, by unfold xf_to; decide +kernel⟩
theorem xk_117_26 : xk_OkA xp_F (xp_P sc) xp_cl xp_BW xp_NW xp_SW xp_exn 117 26 (.iload 2) := Or.inr ⟨2, rfl, xd_117_41, rfl⟩
theorem xk_117_27 : xk_OkA xp_F (xp_P sc) xp_cl xp_BW xp_NW xp_SW xp_exn 117 27 (.istore 2) := Or.inr ⟨2, rfl, xd_117_42, rfl⟩
theorem xk_117_28 : xk_OkA xp_F (xp_P sc) xp_cl xp_BW xp_NW xp_SW xp_exn 117 28 (.iinc 3 (1)) := ⟨xd_117_43, rfl⟩
theorem xk_117_29 : xk_OkA xp_F (xp_P sc) xp_cl xp_BW xp_NW xp_SW xp_exn 117 29 (.goto 4) := ⟨_, xd_117_46, by unfold xf_to; decide +kernel⟩
theorem xk_117_30 : xk_OkA xp_F (xp_P sc) xp_cl xp_BW xp_NW xp_SW xp_exn 117 30 (.iload 2) := Or.inr ⟨2, rfl, xd_117_49, rfl⟩
theorem xk_117_31 : xk_OkA xp_F (xp_P sc) xp_cl xp_BW xp_NW xp_SW xp_exn 117 31 (.ireturn) := ⟨xd_117_50, rfl⟩
theorem xl_117 : xk_OkL xp_F (xp_P sc) xp_cl xp_BW xp_NW xp_SW xp_exn 117 0 xc_117 := ⟨xk_117_0, xk_117_1, xk_117_2, xk_117_3, xk_117_4, xk_117_5, xk_117_6, xk_117_7, xk_117_8, xk_117_9, xk_117_10, xk_117_11, xk_117_12, xk_117_13, xk_117_14, xk_117_15, xk_117_16, xk_117_17, xk_117_18, xk_117_19, xk_117_20, xk_117_21, xk_117_22, xk_117_23, xk_117_24, xk_117_25, xk_117_26, xk_117_27, xk_117_28, xk_117_29, xk_117_30, xk_117_31, trivial⟩
theorem xd_118_0 : decode prog_6_method_13_code 0 = .ok (.iconst 0, 1) := by decide +kernel
theorem xd_118_1 : decode prog_6_method_13_code 1 = .ok (.istore_n 1, 1) := by decide +kernel
theorem xd_118_2 : decode prog_6_method_13_code 2 = .ok (.iconst 0, 1) := by decide +kernel
theorem xd_118_3 : decode prog_6_method_13_code 3 = .ok (.istore_n 2, 1) := by decide +kernel
theorem xd_118_4 : decode prog_6_method_13_code 4 = .ok (.iload_n 2, 1) := by decide +kernel
theorem xd_118_5 : decode prog_6_method_13_code 5 = .ok (.iconst 4, 1) := by decide +kernel
theorem xd_118_6 : decode prog_6_method_13_code 6 = .ok (.if_icmp .ge 39, 3) := by decide +kernel
theorem xd_118_9 : decode prog_6_method_13_code 9 = .ok (.iload_n 1, 1) := by decide +kernel
theorem xd_118_10 : decode prog_6_method_13_code 10 = .ok (.ifCond .ne 23, 3) := by decide +kernel
theorem xd_118_13 : decode prog_6_method_13_code 13 = .ok (.aload_n 0, 1) := by decide +kernel
theorem xd_118_14 : decode prog_6_method_13_code 14 = .ok (.getfield 28, 3) := by decide +kernel
theorem xd_118_17 : decode prog_6_method_13_code 17 = .ok (.iconst 1, 1) := by decide +kernel
theorem xd_118_18 : decode prog_6_method_13_code 18 = .ok (.iload_n 2, 1) := by decide +kernel
theorem xd_118_19 : decode prog_6_method_13_code 19 = .ok (.iadd, 1) := by decide +kernel
theorem xd_118_20 : decode prog_6_method_13_code 20 = .ok (.iaload, 1) := by decide +kernel
theorem xd_118_21 : decode prog_6_method_13_code 21 = .ok (.ifCond .le 16, 3) := by decide +kernel
theorem xd_118_24 : decode prog_6_method_13_code 24 = .ok (.aload_n 0, 1) := by decide +kernel
theorem xd_118_25 : decode prog_6_method_13_code 25 = .ok (.getfield 7, 3) := by decide +kernel
theorem xd_118_28 : decode prog_6_method_13_code 28 = .ok (.iload_n 2, 1) := by decide +kernel
theorem xd_118_29 : decode prog_6_method_13_code 29 = .ok (.baload, 1) := by decide +kernel
theorem xd_118_30 : decode prog_6_method_13_code 30 = .ok (.ifCond .ne 7, 3) := by decide +kernel
theorem xd_118_33 : decode prog_6_method_13_code 33 = .ok (.iconst 1, 1) := by decide +kernel
theorem xd_118_34 : decode prog_6_method_13_code 34 = .ok (.goto 4, 3) := by decide +kernel
theorem xd_118_37 : decode prog_6_method_13_code 37 = .ok (.iconst 0, 1) := by decide +kernel
theorem xd_118_38 : decode prog_6_method_13_code 38 = .ok (.istore_n 1, 1) := by decide +kernel
theorem xd_118_39 : decode prog_6_method_13_code 39 = .ok (.iinc 2 (1), 3) := by decide +kernel
theorem xd_118_42 : decode prog_6_method_13_code 42 = .ok (.goto (-38), 3) := by decide +kernel
theorem xd_118_45 : decode prog_6_method_13_code 45 = .ok (.iload_n 1, 1) := by decide +kernel
theorem xd_118_46 : decode prog_6_method_13_code 46 = .ok (.ireturn, 1) := by decide +kernel
theorem xk_118_0 : xk_OkA xp_F (xp_P sc) xp_cl xp_BW xp_NW xp_SW xp_exn 118 0 (.iconst 0) := Or.inl ⟨xd_118_0, rfl⟩
theorem xk_118_1 : xk_OkA xp_F (xp_P sc) xp_cl xp_BW xp_NW xp_SW xp_exn 118 1 (.istore 1) := Or.inr ⟨1, rfl, xd_118_1, rfl⟩
theorem xk_118_2 : xk_OkA xp_F (xp_P sc) xp_cl xp_BW xp_NW xp_SW xp_exn 118 2 (.iconst 0) := Or.inl ⟨xd_118_2, rfl⟩
theorem xk_118_3 : xk_OkA xp_F (xp_P sc) xp_cl xp_BW xp_NW xp_SW xp_exn 118 3 (.istore 2) := Or.inr ⟨2, rfl, xd_118_3, rfl⟩
theorem xk_118_4 : xk_OkA xp_F (xp_P sc) xp_cl xp_BW xp_NW xp_SW xp_exn 118 4 (.iload 2) := Or.inr ⟨2, rfl, xd_118_4, rfl⟩
theorem xk_118_5 : xk_OkA xp_F (xp_P sc) xp_cl xp_BW xp_NW xp_SW xp_exn 118 5 (.iconst 4) := Or.inl ⟨xd_118_5, rfl⟩
theorem xk_118_6 : xk_OkA xp_F (xp_P sc) xp_cl xp_BW xp_NW xp_SW xp_exn 118 6 (.if_icmp .ge 27) := ⟨_, xd_118_6, by unfold xf_to; decide +kernel, rfl⟩
theorem xk_118_7 : xk_OkA xp_F (xp_P sc) xp_cl xp_BW xp_NW xp_SW xp_exn 118 7 (.iload 1) := Or.inr ⟨1, rfl, xd_118_9, rfl⟩
theorem xk_118_8 : xk_OkA xp_F (xp_P sc) xp_cl xp_BW xp_NW xp_SW xp_exn 118 8 (.ifCond .ne 21) := ⟨_, xd_118_10, by unfold xf_to; decide +kernel, rfl⟩
theorem xk_118_9 : xk_OkA xp_F (xp_P sc) xp_cl xp_BW xp_NW xp_SW xp_exn 118 9 (.aload 0) := Or.inr ⟨0, rfl, xd_118_13, rfl⟩
theorem xk_118_10 : xk_OkA xp_F (xp_P sc) xp_cl xp_BW xp_NW xp_SW xp_exn 118 10 (.getfield 134) := ⟨_, xd_118_14, rfl, ⟨_, _, _, rfl, by decide, xu_4, Or.inl xwt_760⟩⟩
theorem xk_118_11 : xk_OkA xp_F (xp_P sc) xp_cl xp_BW xp_NW xp_SW xp_exn 118 11 (.iconst 1) := Or.inl ⟨xd_118_17, rfl⟩
theorem xk_118_12 : xk_OkA xp_F (xp_P sc) xp_cl xp_BW xp_NW xp_SW xp_exn 118 12 (.iload 2) := Or.inr ⟨2, rfl, xd_118_18, rfl⟩
theorem xk_118_13 : xk_OkA xp_F (xp_P sc) xp_cl xp_BW xp_NW xp_SW xp_exn 118 13 (.iadd) := ⟨xd_118_19, rfl⟩
theorem xk_118_14 : xk_OkA xp_F (xp_P sc) xp_cl xp_BW xp_NW xp_SW xp_exn 118 14 (.iaload) := ⟨xd_118_20, rfl⟩
theorem xk_118_15 : xk_OkA xp_F (xp_P sc) xp_cl xp_BW xp_NW xp_SW xp_exn 118 15 (.ifCond .le 23) := ⟨_, xd_118_21, by unfold xf_to; decide +kernel, rfl⟩
theorem xk_118_16 : xk_OkA xp_F (xp_P sc) xp_cl xp_BW xp_NW xp_SW xp_exn 118 16 (.aload 0) := Or.inr ⟨0, rfl, xd_118_24, rfl⟩
theorem xk_118_17 : xk_OkA xp_F (xp_P sc) xp_cl xp_BW xp_NW xp_SW xp_exn 118 17 (.getfield 129) := ⟨_, xd_118_25, rfl, ⟨_, _, _, rfl, by decide, xu_4, Or.inl xwt_755⟩⟩
theorem xk_118_18 : xk_OkA xp_F (xp_P sc) xp_cl xp_BW xp_NW xp_SW xp_exn 118 18 (.iload 2) := Or.inr ⟨2, rfl, xd_118_28, rfl⟩
theorem xk_118_19 : xk_OkA xp_F (xp_P sc) xp_cl xp_BW xp_NW xp_SW xp_exn 118 19 (.baload) := ⟨xd_118_29, rfl⟩
theorem xk_118_20 : xk_OkA xp_F (xp_P sc) xp_cl xp_BW xp_NW xp_SW xp_exn 118 20 (.ifCond .ne 23) := ⟨_, xd_118_30, by unfold xf_to; decide +kernel, rfl⟩
theorem xk_118_21 : xk_OkA xp_F (xp_P sc) xp_cl xp_BW xp_NW xp_SW xp_exn 118 21 (.iconst 1) := Or.inl ⟨xd_118_33, rfl⟩
theorem xk_118_22 : xk_OkA xp_F (xp_P sc) xp_cl xp_BW xp_NW xp_SW xp_exn 118 22 (.goto 24) := ⟨_, xd_118_34, by unfold xf_to; decide +kernel⟩
theorem xk_118_23 : xk_OkA xp_F (xp_P sc) xp_cl xp_BW xp_NW xp_SW xp_exn 118 23 (.iconst 0) := Or.inl ⟨xd_118_37, rfl⟩
theorem xk_118_24 : xk_OkA xp_F (xp_P sc) xp_cl xp_BW xp_NW xp_SW xp_exn 118 24 (.istore 1) := Or.inr ⟨1, rfl, xd_118_38, rfl⟩
theorem xk_118_25 : xk_OkA xp_F (xp_P sc) xp_cl xp_BW xp_NW xp_SW xp_exn 118 25 (.iinc 2 (1)) := ⟨xd_118_39, rfl⟩
theorem xk_118_26 : xk_OkA xp_F (xp_P sc) xp_cl xp_BW xp_NW xp_SW xp_exn 118 26 (.goto 4) := ⟨_, xd_118_42, by unfold xf_to; decide +kernel⟩
theorem xk_118_27 : xk_OkA xp_F (xp_P sc) xp_cl xp_BW xp_NW xp_SW xp_exn 118 27 (.iload 1) := Or.inr ⟨1, rfl, xd_118_45, rfl⟩
theorem xk_118_28 : xk_OkA xp_F (xp_P sc) xp_cl xp_BW xp_NW xp_SW xp_exn 118 28 (.freturn) := ⟨xd_118_46, rfl⟩
theorem xl_118 : xk_OkL xp_F (xp_P sc) xp_cl xp_BW xp_NW xp_SW xp_exn 118 0 xc_118 := ⟨xk_118_0, xk_118_1, xk_118_2, xk_118_3, xk_118_4, xk_118_5, xk_118_6, xk_118_7, xk_118_8, xk_118_9, xk_118_10, xk_118_11, xk_118_12, xk_118_13, xk_118_14, xk_118_15, xk_118_16, xk_118_17, xk_118_18, xk_118_19, xk_118_20, xk_118_21, xk_118_22, xk_118_23, xk_118_24, xk_118_25, xk_118_26, xk_118_27, xk_118_28, trivial⟩
theorem xd_119_0 : decode prog_6_method_14_code 0 = .ok (.iconst 0, 1) := by decide +kernel
theorem xd_119_1 : decode prog_6_method_14_code 1 = .ok (.istore_n 1, 1) := by decide +kernel
theorem xd_119_2 : decode prog_6_method_14_code 2 = .ok (.iload_n 1, 1) := by decide +kernel
theorem xd_119_3 : decode prog_6_method_14_code 3 = .ok (.bipush 51, 2) := by decide +kernel
theorem xd_119_5 : decode prog_6_method_14_code 5 = .ok (.if_icmp .ge 21, 3) := by decide +kernel
theorem xd_119_8 : decode prog_6_method_14_code 8 = .ok (.aload_n 0, 1) := by decide +kernel
theorem xd_119_9 : decode prog_6_method_14_code 9 = .ok (.getfield 31, 3) := by decide +kernel
theorem xd_119_12 : decode prog_6_method_14_code 12 = .ok (.iload_n 1, 1) := by decide +kernel
theorem xd_119_13 : decode prog_6_method_14_code 13 = .ok (.aload_n 0, 1) := by decide +kernel
theorem xd_119_14 : decode prog_6_method_14_code 14 = .ok (.getfield 28, 3) := by decide +kernel
theorem xd_119_17 : decode prog_6_method_14_code 17 = .ok (.iload_n 1, 1) := by decide +kernel
theorem xd_119_18 : decode prog_6_method_14_code 18 = .ok (.iaload, 1) := by decide +kernel
theorem xd_119_19 : decode prog_6_method_14_code 19 = .ok (.iastore, 1) := by decide +kernel
theorem xd_119_20 : decode prog_6_method_14_code 20 = .ok (.iinc 1 (1), 3) := by decide +kernel
theorem xd_119_23 : decode prog_6_method_14_code 23 = .ok (.goto (-21), 3) := by decide +kernel
theorem xd_119_26 : decode prog_6_method_14_code 26 = .ok (.return_, 1) := by decide +kernel
theorem xk_119_0 : xk_OkA xp_F (xp_P sc) xp_cl xp_BW xp_NW xp_SW xp_exn 119 0 (.iconst 0) := Or.inl ⟨xd_119_0, rfl⟩
theorem xk_119_1 : xk_OkA xp_F (xp_P sc) xp_cl xp_BW xp_NW xp_SW xp_exn 119 1 (.istore 1) := Or.inr ⟨1, rfl, xd_119_1, rfl⟩
theorem xk_119_2 : xk_OkA xp_F (xp_P sc) xp_cl xp_BW xp_NW xp_SW xp_exn 119 2 (.iload 1) := Or.inr ⟨1, rfl, xd_119_2, rfl⟩
theorem xk_119_3 : xk_OkA xp_F (xp_P sc) xp_cl xp_BW xp_NW xp_SW xp_exn 119 3 (.iconst 51) := Or.inr (Or.inl ⟨xd_119_3, by decide +kernel, rfl⟩)
theorem xk_119_4 : xk_OkA xp_F (xp_P sc) xp_cl xp_BW xp_NW xp_SW xp_exn 119 4 (.if_icmp .ge 15) := ⟨_, xd_119_5, by unfold xf_to; decide +kernel, rfl⟩
theorem xk_119_5 : xk_OkA xp_F (xp_P sc) xp_cl xp_BW xp_NW xp_SW xp_exn 119 5 (.aload 0) := Or.inr ⟨0, rfl, xd_119_8, rfl⟩
theorem xk_119_6 : xk_OkA xp_F (xp_P sc) xp_cl xp_BW xp_NW xp_SW xp_exn 119 6 (.getfield 135) := ⟨_, xd_119_9, rfl, ⟨_, _, _, rfl, by decide, xu_4, Or.inl xwt_761⟩⟩
theorem xk_119_7 : xk_OkA xp_F (xp_P sc) xp_cl xp_BW xp_NW xp_SW xp_exn 119 7 (.iload 1) := Or.inr ⟨1, rfl, xd_119_12, rfl⟩
theorem xk_119_8 : xk_OkA xp_F (xp_P sc) xp_cl xp_BW xp_NW xp_SW xp_exn 119 8 (.aload 0) := Or.inr ⟨0, rfl, xd_119_13, rfl⟩
theorem xk_119_9 : xk_OkA xp_F (xp_P sc) xp_cl xp_BW xp_NW xp_SW xp_exn 119 9 (.getfield 134) := ⟨_, xd_119_14, rfl, ⟨_, _, _, rfl, by decide, xu_4, Or.inl xwt_760⟩⟩
theorem xk_119_10 : xk_OkA xp_F (xp_P sc) xp_cl xp_BW xp_NW xp_SW xp_exn 119 10 (.iload 1) := Or.inr ⟨1, rfl, xd_119_17, rfl⟩
theorem xk_119_11 : xk_OkA xp_F (xp_P sc) xp_cl xp_BW xp_NW xp_SW xp_exn 119 11 (.iaload) := ⟨xd_119_18, rfl⟩
theorem xk_119_12 : xk_OkA xp_F (xp_P sc) xp_cl xp_BW xp_NW xp_SW xp_exn 119 12 (.iastore) := ⟨xd_119_19, rfl⟩
theorem xk_119_13 : xk_OkA xp_F (xp_P sc) xp_cl xp_BW xp_NW xp_SW xp_exn 119 13 (.iinc 1 (1)) := ⟨xd_119_20, rfl⟩
theorem xk_119_14 : xk_OkA xp_F (xp_P sc) xp_cl xp_BW xp_NW xp_SW xp_exn 119 14 (.goto 2) := ⟨_, xd_119_23, by unfold xf_to; decide +kernel⟩
theorem xk_119_15 : xk_OkA xp_F (xp_P sc) xp_cl xp_BW xp_NW xp_SW xp_exn 119 15 (.return_) := ⟨xd_119_26, rfl⟩
theorem xl_119 : xk_OkL xp_F (xp_P sc) xp_cl xp_BW xp_NW xp_SW xp_exn 119 0 xc_119 := ⟨xk_119_0, xk_119_1, xk_119_2, xk_119_3, xk_119_4, xk_119_5, xk_119_6, xk_119_7, xk_119_8, xk_119_9, xk_119_10, xk_119_11, xk_119_12, xk_119_13, xk_119_14, xk_119_15, trivial⟩
theorem xd_120_0 : decode prog_6_method_15_code 0 = .ok (.bipush 102, 2) := by decide +kernel
theorem xd_120_2 : decode prog_6_method_15_code 2 = .ok (.iload_n 1, 1) := by decide +kernel
theorem xd_120_3 : decode prog_6_method_15_code 3 = .ok (.imul, 1) := by decide +kernel
theorem xd_120_4 : decode prog_6_method_15_code 4 = .ok (.bipush 51, 2) := by decide +kernel
theorem xd_120_6 : decode prog_6_method_15_code 6 = .ok (.iload_n 2, 1) := by decide +kernel
theorem xd_120_7 : decode prog_6_method_15_code 7 = .ok (.imul, 1) := by decide +kernel
theorem xd_120_8 : decode prog_6_method_15_code 8 = .ok (.iadd, 1) := by decide +kernel
theorem xd_120_9 : decode prog_6_method_15_code 9 = .ok (.istore_n 3, 1) := by decide +kernel
theorem xd_120_10 : decode prog_6_method_15_code 10 = .ok (.iconst 0, 1) := by decide +kernel
theorem xd_120_11 : decode prog_6_method_15_code 11 = .ok (.istore 4, 2) := by decide +kernel
theorem xd_120_13 : decode prog_6_method_15_code 13 = .ok (.iconst 0, 1) := by decide +kernel
theorem xd_120_14 : decode prog_6_method_15_code 14 = .ok (.istore 5, 2) := by decide +kernel
theorem xd_120_16 : decode prog_6_method_15_code 16 = .ok (.iload 5, 2) := by decide +kernel
theorem xd_120_18 : decode prog_6_method_15_code 18 = .ok (.bipush 49, 2) := by decide +kernel
theorem xd_120_20 : decode prog_6_method_15_code 20 = .ok (.if_icmp .ge 28, 3) := by decide +kernel
theorem xd_120_23 : decode prog_6_method_15_code 23 = .ok (.iload 4, 2) := by decide +kernel
theorem xd_120_25 : decode prog_6_method_15_code 25 = .ok (.aload_n 0, 1) := by decide +kernel
theorem xd_120_26 : decode prog_6_method_15_code 26 = .ok (.getfield 13, 3) := by decide +kernel
theorem xd_120_29 : decode prog_6_method_15_code 29 = .ok (.iload_n 3, 1) := by decide +kernel
theorem xd_120_30 : decode prog_6_method_15_code 30 = .ok (.iload 5, 2) := by decide +kernel
theorem xd_120_32 : decode prog_6_method_15_code 32 = .ok (.iadd, 1) := by decide +kernel
theorem xd_120_33 : decode prog_6_method_15_code 33 = .ok (.iaload, 1) := by decide +kernel
theorem xd_120_34 : decode prog_6_method_15_code 34 = .ok (.iload 5, 2) := by decide +kernel
theorem xd_120_36 : decode prog_6_method_15_code 36 = .ok (.iconst 1, 1) := by decide +kernel
theorem xd_120_37 : decode prog_6_method_15_code 37 = .ok (.iadd, 1) := by decide +kernel
theorem xd_120_38 : decode prog_6_method_15_code 38 = .ok (.imul, 1) := by decide +kernel
theorem xd_120_39 : decode prog_6_method_15_code 39 = .ok (.iadd, 1) := by decide +kernel
theorem xd_120_40 : decode prog_6_method_15_code 40 = .ok (.istore 4, 2) := by decide +kernel
theorem xd_120_42 : decode prog_6_method_15_code 42 = .ok (.iinc 5 (1), 3) := by decide +kernel
theorem xd_120_45 : decode prog_6_method_15_code 45 = .ok (.goto (-29), 3) := by decide +kernel
theorem xd_120_48 : decode prog_6_method_15_code 48 = .ok (.iload 4, 2) := by decide +kernel
theorem xd_120_50 : decode prog_6_method_15_code 50 = .ok (.aload_n 0, 1) := by decide +kernel
theorem xd_120_51 : decode prog_6_method_15_code 51 = .ok (.getfield 13, 3) := by decide +kernel
theorem xd_120_54 : decode prog_6_method_15_code 54 = .ok (.iload_n 3, 1) := by decide +kernel
theorem xd_120_55 : decode prog_6_method_15_code 55 = .ok (.bipush 49, 2) := by decide +kernel
theorem xd_120_57 : decode prog_6_method_15_code 57 = .ok (.iadd, 1) := by decide +kernel
theorem xd_120_58 : decode prog_6_method_15_code 58 = .ok (.iaload, 1) := by decide +kernel
theorem xd_120_59 : decode prog_6_method_15_code 59 = .ok (.if_icmp .ne 34, 3) := by decide +kernel
theorem xd_120_62 : decode prog_6_method_15_code 62 = .ok (.aload_n 0, 1) := by decide +kernel
theorem xd_120_63 : decode prog_6_method_15_code 63 = .ok (.getfield 13, 3) := by decide +kernel
theorem xd_120_66 : decode prog_6_method_15_code 66 = .ok (.iload_n 3, 1) := by decide +kernel
theorem xd_120_67 : decode prog_6_method_15_code 67 = .ok (.bipush 50, 2) := by decide +kernel
theorem xd_120_69 : decode prog_6_method_15_code 69 = .ok (.iadd, 1) := by decide +kernel
theorem xd_120_70 : decode prog_6_method_15_code 70 = .ok (.iaload, 1) := by decide +kernel
theorem xd_120_71 : decode prog_6_method_15_code 71 = .ok (.aload_n 0, 1) := by decide +kernel
theorem xd_120_72 : decode prog_6_method_15_code 72 = .ok (.getfield 13, 3) := by decide +kernel
theorem xd_120_75 : decode prog_6_method_15_code 75 = .ok (.iload_n 3, 1) := by decide +kernel
theorem xd_120_76 : decode prog_6_method_15_code 76 = .ok (.iaload, 1) := by decide +kernel
theorem xd_120_77 : decode prog_6_method_15_code 77 = .ok (.if_icmp .ne 16, 3) := by decide +kernel
theorem xd_120_80 : decode prog_6_method_15_code 80 = .ok (.aload_n 0, 1) := by decide +kernel
theorem xd_120_81 : decode prog_6_method_15_code 81 = .ok (.getfield 13, 3) := by decide +kernel
theorem xd_120_84 : decode prog_6_method_15_code 84 = .ok (.iload_n 3, 1) := by decide +kernel
theorem xd_120_85 : decode prog_6_method_15_code 85 = .ok (.iaload, 1) := by decide +kernel
theorem xd_120_86 : decode prog_6_method_15_code 86 = .ok (.ifCond .le 7, 3) := by decide +kernel
theorem xd_120_89 : decode prog_6_method_15_code 89 = .ok (.iconst 1, 1) := by decide +kernel
theorem xd_120_90 : decode prog_6_method_15_code 90 = .ok (.goto 4, 3) := by decide +kernel
theorem xd_120_93 : decode prog_6_method_15_code 93 = .ok (.iconst 0, 1) := by decide +kernel
theorem xd_120_94 : decode prog_6_method_15_code 94 = .ok (.istore 5, 2) := by decide +kernel
theorem xd_120_96 : decode prog_6_method_15_code 96 = .ok (.iload 5, 2) := by decide +kernel
theorem xd_120_98 : decode prog_6_method_15_code 98 = .ok (.ifCond .eq 12, 3) := by decide +kernel
theorem xd_120_101 : decode prog_6_method_15_code 101 = .ok (.aload_n 0, 1) := by decide +kernel
theorem xd_120_102 : decode prog_6_method_15_code 102 = .ok (.getfield 13, 3) := by decide +kernel
theorem xd_120_105 : decode prog_6_method_15_code 105 = .ok (.iload_n 3, 1) := by decide +kernel
theorem xd_120_106 : decode prog_6_method_15_code 106 = .ok (.iaload, 1) := by decide +kernel
theorem xd_120_107 : decode prog_6_method_15_code 107 = .ok (.goto 4, 3) := by decide +kernel
theorem xd_120_110 : decode prog_6_method_15_code 110 = .ok (.iconst 0, 1) := by decide +kernel
theorem xd_120_111 : decode prog_6_method_15_code 111 = .ok (.ireturn, 1) := by decide +kernel
theorem xk_120_0 : xk_OkA xp_F (xp_P sc) xp_cl xp_BW xp_NW xp_SW xp_exn 120 0 (.iconst 102) := Or.inr (Or.inl ⟨xd_120_0, by decide +kernel, rfl⟩)
theorem xk_120_1 : xk_OkA xp_F (xp_P sc) xp_cl xp_BW xp_NW xp_SW xp_exn 120 1 (.iload 1) := Or.inr ⟨1, rfl, xd_120_2, rfl⟩
theorem xk_120_2 : xk_OkA xp_F (xp_P sc) xp_cl xp_BW xp_NW xp_SW xp_exn 120 2 (.imul) := ⟨xd_120_3, rfl⟩
theorem xk_120_3 : xk_OkA xp_F (xp_P sc) xp_cl xp_BW xp_NW xp_SW xp_exn 120 3 (.iconst 51) := Or.inr (Or.inl ⟨xd_120_4, by decide +kernel, rfl⟩)
theorem xk_120_4 : xk_OkA xp_F (xp_P sc) xp_cl xp_BW xp_NW xp_SW xp_exn 120 4 (.iload 2) := Or.inr ⟨2, rfl, xd_120_6, rfl⟩
theorem xk_120_5 : xk_OkA xp_F (xp_P sc) xp_cl xp_BW xp_NW xp_SW xp_exn 120 5 (.imul) := ⟨xd_120_7, rfl⟩
theorem xk_120_6 : xk_OkA xp_F (xp_P sc) xp_cl xp_BW xp_NW xp_SW xp_exn 120 6 (.iadd) := ⟨xd_120_8, rfl⟩
theorem xk_120_7 : xk_OkA xp_F (xp_P sc) xp_cl xp_BW xp_NW xp_SW xp_exn 120 7 (.istore 3) := Or.inr ⟨3, rfl, xd_120_9, rfl⟩
theorem xk_120_8 : xk_OkA xp_F (xp_P sc) xp_cl xp_BW xp_NW xp_SW xp_exn 120 8 (.iconst 0) := Or.inl ⟨xd_120_10, rfl⟩
theorem xk_120_9 : xk_OkA xp_F (xp_P sc) xp_cl xp_BW xp_NW xp_SW xp_exn 120 9 (.istore 4) := Or.inl ⟨xd_120_11, rfl⟩
theorem xk_120_10 : xk_OkA xp_F (xp_P sc) xp_cl xp_BW xp_NW xp_SW xp_exn 120 10 (.iconst 0) := Or.inl ⟨xd_120_13, rfl⟩
theorem xk_120_11 : xk_OkA xp_F (xp_P sc) xp_cl xp_BW xp_NW xp_SW xp_exn 120 11 (.istore 5) := Or.inl ⟨xd_120_14, rfl⟩
theorem xk_120_12 : xk_OkA xp_F (xp_P sc) xp_cl xp_BW xp_NW xp_SW xp_exn 120 12 (.iload 5) := Or.inl ⟨xd_120_16, rfl⟩
theorem xk_120_13 : xk_OkA xp_F (xp_P sc) xp_cl xp_BW xp_NW xp_SW xp_exn 120 13 (.iconst 49) := Or.inr (Or.inl ⟨xd_120_18, by decide +kernel, rfl⟩)
theorem xk_120_14 : xk_OkA xp_F (xp_P sc) xp_cl xp_BW xp_NW xp_SW xp_exn 120 14 (.if_icmp .ge 30) := ⟨_, xd_120_20, by unfold xf_to; decide +kernel, rfl⟩
theorem xk_120_15 : xk_OkA xp_F (xp_P sc) xp_cl xp_BW xp_NW xp_SW xp_exn 120 15 (.iload 4) := Or.inl ⟨xd_120_23, rfl⟩
theorem xk_120_16 : xk_OkA xp_F (xp_P sc) xp_cl xp_BW xp_NW xp_SW xp_exn 120 16 (.aload 0) := Or.inr ⟨0, rfl, xd_120_25, rfl⟩
theorem xk_120_17 : xk_OkA xp_F (xp_P sc) xp_cl xp_BW xp_NW xp_SW xp_exn 120 17 (.getfield 130) := ⟨_, xd_120_26, rfl, ⟨_, _, _, rfl, by decide, xu_4, Or.inl xwt_756⟩⟩
theorem xk_120_18 : xk_OkA xp_F (xp_P sc) xp_cl xp_BW xp_NW xp_SW xp_exn 120 18 (.iload 3) := Or.inr ⟨3, rfl, xd_120_29, rfl⟩
theorem xk_120_19 : xk_OkA xp_F (xp_P sc) xp_cl xp_BW xp_NW xp_SW xp_exn 120 19 (.iload 5) := Or.inl ⟨xd_120_30, rfl⟩
theorem xk_120_20 : xk_OkA xp_F (xp_P sc) xp_cl xp_BW xp_NW xp_SW xp_exn 120 20 (.iadd) := ⟨xd_120_32, rfl⟩
theorem xk_120_21 : xk_OkA xp_F (xp_P sc) xp_cl xp_BW xp_NW xp_SW xp_exn 120 21 (.iaload) := ⟨xd_120_33, rfl⟩
theorem xk_120_22 : xk_OkA xp_F (xp_P sc) xp_cl xp_BW xp_NW xp_SW xp_exn 120 22 (.iload 5) := Or.inl ⟨xd_120_34, rfl⟩
theorem xk_120_23 : xk_OkA xp_F (xp_P sc) xp_cl xp_BW xp_NW xp_SW xp_exn 120 23 (.iconst 1) := Or.inl ⟨xd_120_36, rfl⟩
theorem xk_120_24 : xk_OkA xp_F (xp_P sc) xp_cl xp_BW xp_NW xp_SW xp_exn 120 24 (.iadd) := ⟨xd_120_37, rfl⟩
theorem xk_120_25 : xk_OkA xp_F (xp_P sc) xp_cl xp_BW xp_NW xp_SW xp_exn 120 25 (.imul) := ⟨xd_120_38, rfl⟩
theorem xk_120_26 : xk_OkA xp_F (xp_P sc) xp_cl xp_BW xp_NW xp_SW xp_exn 120 26 (.iadd) := ⟨xd_120_39, rfl⟩
theorem xk_120_27 : xk_OkA xp_F (xp_P sc) xp_cl xp_BW xp_NW xp_SW xp_exn 120 27 (.istore 4) := Or.inl ⟨xd_120_40, rfl⟩
theorem xk_120_28 : xk_OkA xp_F (xp_P sc) xp_cl xp_BW xp_NW xp_SW xp_exn 120 28 (.iinc 5 (1)) := ⟨xd_120_42, rfl⟩
theorem xk_120_29 : xk_OkA xp_F (xp_P sc) xp_cl xp_BW xp_NW xp_SW xp_exn 120 29 (.goto 12) := ⟨_, xd_120_45, by unfold xf_to; decide +kernel⟩
theorem xk_120_30 : xk_OkA xp_F (xp_P sc) xp_cl xp_BW xp_NW xp_SW xp_exn 120 30 (.iload 4) := Or.inl ⟨xd_120_48, rfl⟩
theorem xk_120_31 : xk_OkA xp_F (xp_P sc) xp_cl xp_BW xp_NW xp_SW xp_exn 120 31 (.aload 0) := Or.inr ⟨0, rfl, xd_120_50, rfl⟩
theorem xk_120_32 : xk_OkA xp_F (xp_P sc) xp_cl xp_BW xp_NW xp_SW xp_exn 120 32 (.getfield 130) := ⟨_, xd_120_51, rfl, ⟨_, _, _, rfl, by decide, xu_4, Or.inl xwt_756⟩⟩
theorem xk_120_33 : xk_OkA xp_F (xp_P sc) xp_cl xp_BW xp_NW xp_SW xp_exn 120 33 (.iload 3) := Or.inr ⟨3, rfl, xd_120_54, rfl⟩
theorem xk_120_34 : xk_OkA xp_F (xp_P sc) xp_cl xp_BW xp_NW xp_SW xp_exn 120 34 (.iconst 49) := Or.inr (Or.inl ⟨xd_120_55, by decide +kernel, rfl⟩)
theorem xk_120_35 : xk_OkA xp_F (xp_P sc) xp_cl xp_BW xp_NW xp_SW xp_exn 120 35 (.iadd) := ⟨xd_120_57, rfl⟩
theorem xk_120_36 : xk_OkA xp_F (xp_P sc) xp_cl xp_BW xp_NW xp_SW xp_exn 120 36 (.iaload) := ⟨xd_120_58, rfl⟩
theorem xk_120_37 : xk_OkA xp_F (xp_P sc) xp_cl xp_BW xp_NW xp_SW xp_exn 120 37 (.if_icmp .ne 56) := ⟨_, xd_120_59, by unfold xf_to; decide +kernel, rfl⟩
theorem xk_120_38 : xk_OkA xp_F (xp_P sc) xp_cl xp_BW xp_NW xp_SW xp_exn 120 38 (.aload 0) := Or.inr ⟨0, rfl, xd_120_62, rfl⟩
theorem xk_120_39 : xk_OkA xp_F (xp_P sc) xp_cl xp_BW xp_NW xp_SW xp_exn 120 39 (.getfield 130) := ⟨_, xd_120_63, rfl, ⟨_, _, _, rfl, by decide, xu_4, Or.inl xwt_756⟩⟩
theorem xk_120_40 : xk_OkA xp_F (xp_P sc) xp_cl xp_BW xp_NW xp_SW xp_exn 120 40 (.iload 3) := Or.inr ⟨3, rfl, xd_120_66, rfl⟩
theorem xk_120_41 : xk_OkA xp_F (xp_P sc) xp_cl xp_BW xp_NW xp_SW xp_exn 120 41 (.iconst 50) := Or.inr (Or.inl ⟨xd_120_67, by decide +kernel, rfl⟩)
theorem xk_120_42 : xk_OkA xp_F (xp_P sc) xp_cl xp_BW xp_NW xp_SW xp_exn 120 42 (.iadd) := ⟨xd_120_69, rfl⟩
theorem xk_120_43 : xk_OkA xp_F (xp_P sc) xp_cl xp_BW xp_NW xp_SW xp_exn 120 43 (.iaload) := ⟨xd_120_70, rfl⟩
theorem xk_120_44 : xk_OkA xp_F (xp_P sc) xp_cl xp_BW xp_NW xp_SW xp_exn 120 44 (.aload 0) := Or.inr ⟨0, rfl, xd_120_71, rfl⟩
theorem xk_120_45 : xk_OkA xp_F (xp_P sc) xp_cl xp_BW xp_NW xp_SW xp_exn 120 45 (.getfield 130) := ⟨_, xd_120_72, rfl, ⟨_, _, _, rfl, by decide, xu_4, Or.inl xwt_756⟩⟩
theorem xk_120_46 : xk_OkA xp_F (xp_P sc) xp_cl xp_BW xp_NW xp_SW xp_exn 120 46 (.iload 3) := Or.inr ⟨3, rfl, xd_120_75, rfl⟩
theorem xk_120_47 : xk_OkA xp_F (xp_P sc) xp_cl xp_BW xp_NW xp_SW xp_exn 120 47 (.iaload) := ⟨xd_120_76, rfl⟩
theorem xk_120_48 : xk_OkA xp_F (xp_P sc) xp_cl xp_BW xp_NW xp_SW xp_exn 120 48 (.if_icmp .ne 56) := ⟨_, xd_120_77, by unfold xf_to; decide +kernel, rfl⟩
theorem xk_120_49 : xk_OkA xp_F (xp_P sc) xp_cl xp_BW xp_NW xp_SW xp_exn 120 49 (.aload 0) := Or.inr ⟨0, rfl, xd_120_80, rfl⟩
theorem xk_120_50 : xk_OkA xp_F (xp_P sc) xp_cl xp_BW xp_NW xp_SW xp_exn 120 50 (.getfield 130) := ⟨_, xd_120_81, rfl, ⟨_, _, _, rfl, by decide, xu_4, Or.inl xwt_756⟩⟩
theorem xk_120_51 : xk_OkA xp_F (xp_P sc) xp_cl xp_BW xp_NW xp_SW xp_exn 120 51 (.iload 3) := Or.inr ⟨3, rfl, xd_120_84, rfl⟩
theorem xk_120_52 : xk_OkA xp_F (xp_P sc) xp_cl xp_BW xp_NW xp_SW xp_exn 120 52 (.iaload) := ⟨xd_120_85, rfl⟩
theorem xk_120_53 : xk_OkA xp_F (xp_P sc) xp_cl xp_BW xp_NW xp_SW xp_exn 120 53 (.ifCond .le 56) := ⟨_, xd_120_86, by unfold xf_to; decide +kernel, rfl⟩
theorem xk_120_54 : xk_OkA xp_F (xp_P sc) xp_cl xp_BW xp_NW xp_SW xp_exn 120 54 (.iconst 1) := Or.inl ⟨xd_120_89, rfl⟩
theorem xk_120_55 : xk_OkA xp_F (xp_P sc) xp_cl xp_BW xp_NW xp_SW xp_exn 120 55 (.goto 57) := ⟨_, xd_120_90, by unfold xf_to; decide +kernel⟩
theorem xk_120_56 : xk_OkA xp_F (xp_P sc) xp_cl xp_BW xp_NW xp_SW xp_exn 120 56 (.iconst 0) := Or.inl ⟨xd_120_93, rfl⟩
theorem xk_120_57 : xk_OkA xp_F (xp_P sc) xp_cl xp_BW xp_NW xp_SW xp_exn 120 57 (.istore 5) := Or.inl ⟨xd_120_94, rfl⟩
theorem xk_120_58 : xk_OkA xp_F (xp_P sc) xp_cl xp_BW xp_NW xp_SW xp_exn 120 58 (.iload 5) := Or.inl ⟨xd_120_96, rfl⟩
theorem xk_120_59 : xk_OkA xp_F (xp_P sc) xp_cl xp_BW xp_NW xp_SW xp_exn 120 59 (.ifCond .eq 65) := ⟨_, xd_120_98, by unfold xf_to; decide +kernel, rfl⟩
theorem xk_120_60 : xk_OkA xp_F (xp_P sc) xp_cl xp_BW xp_NW xp_SW xp_exn 120 60 (.aload 0) := Or.inr ⟨0, rfl, xd_120_101, rfl⟩
theorem xk_120_61 : xk_OkA xp_F (xp_P sc) xp_cl xp_BW xp_NW xp_SW xp_exn 120 61 (.getfield 130) := ⟨_, xd_120_102, rfl, ⟨_, _, _, rfl, by decide, xu_4, Or.inl xwt_756⟩⟩
theorem xk_120_62 : xk_OkA xp_F (xp_P sc) xp_cl xp_BW xp_NW xp_SW xp_exn 120 62 (.iload 3) := Or.inr ⟨3, rfl, xd_120_105, rfl⟩
theorem xk_120_63 : xk_OkA xp_F (xp_P sc) xp_cl xp_BW xp_NW xp_SW xp_exn 120 63 (.iaload) := ⟨xd_120_106, rfl⟩
theorem xk_120_64 : xk_OkA xp_F (xp_P sc) xp_cl xp_BW xp_NW xp_SW xp_exn 120 64 (.goto 66) := ⟨_, xd_120_107, by unfold xf_to; decide +kernel⟩
theorem xk_120_65 : xk_OkA xp_F (xp_P sc) xp_cl xp_BW xp_NW xp_SW xp_exn 120 65 (.iconst 0) := Or.inl ⟨xd_120_110, rfl⟩
theorem xk_120_66 : xk_OkA xp_F (xp_P sc) xp_cl xp_BW xp_NW xp_SW xp_exn 120 66 (.ireturn) := ⟨xd_120_111, rfl⟩
theorem xl_120 : xk_OkL xp_F (xp_P sc) xp_cl xp_BW xp_NW xp_SW xp_exn 120 0 xc_120 := ⟨xk_120_0, xk_120_1, xk_120_2, xk_120_3, xk_120_4, xk_120_5, xk_120_6, xk_120_7, xk_120_8, xk_120_9, xk_120_10, xk_120_11, xk_120_12, xk_120_13, xk_120_14, xk_120_15, xk_120_16, xk_120_17, xk_120_18, xk_120_19, xk_120_20, xk_120_21, xk_120_22, xk_120_23, xk_120_24, xk_120_25, xk_120_26, xk_120_27, xk_120_28, xk_120_29, xk_120_30, xk_120_31, xk_120_32, xk_120_33, xk_120_34, xk_120_35, xk_120_36, xk_120_37, xk_120_38, xk_120_39, xk_120_40, xk_120_41, xk_120_42, xk_120_43, xk_120_44, xk_120_45, xk_120_46, xk_120_47, xk_120_48, xk_120_49, xk_120_50, xk_120_51, xk_120_52, xk_120_53, xk_120_54, xk_120_55, xk_120_56, xk_120_57, xk_120_58, xk_120_59, xk_120_60, xk_120_61, xk_120_62, xk_120_63, xk_120_64, xk_120_65, xk_120_66, trivial⟩
theorem xd_121_0 : decode prog_6_method_16_code 0 = .ok (.aload_n 0, 1) := by decide +kernel
theorem xd_121_1 : decode prog_6_method_16_code 1 = .ok (.iload_n 1, 1) := by decide +kernel
theorem xd_121_2 : decode prog_6_method_16_code 2 = .ok (.iconst 0, 1) := by decide +kernel
theorem xd_121_3 : decode prog_6_method_16_code 3 = .ok (.invokevirtual 44, 3) := by decide +kernel
theorem xd_121_6 : decode prog_6_method_16_code 6 = .ok (.istore_n 2, 1) := by decide +kernel
theorem xd_121_7 : decode prog_6_method_16_code 7 = .ok (.aload_n 0, 1) := by decide +kernel
theorem xd_121_8 : decode prog_6_method_16_code 8 = .ok (.iload_n 1, 1) := by decide +kernel
theorem xd_121_9 : decode prog_6_method_16_code 9 = .ok (.iconst 1, 1) := by decide +kernel
theorem xd_121_10 : decode prog_6_method_16_code 10 = .ok (.invokevirtual 44, 3) := by decide +kernel
theorem xd_121_13 : decode prog_6_method_16_code 13 = .ok (.istore_n 3, 1) := by decide +kernel
theorem xd_121_14 : decode prog_6_method_16_code 14 = .ok (.iload_n 2, 1) := by decide +kernel
theorem xd_121_15 : decode prog_6_method_16_code 15 = .ok (.ifCond .eq 7, 3) := by decide +kernel
theorem xd_121_18 : decode prog_6_method_16_code 18 = .ok (.iload_n 3, 1) := by decide +kernel
theorem xd_121_19 : decode prog_6_method_16_code 19 = .ok (.ifCond .ne 13, 3) := by decide +kernel
theorem xd_121_22 : decode prog_6_method_16_code 22 = .ok (.iload_n 2, 1) := by decide +kernel
theorem xd_121_23 : decode prog_6_method_16_code 23 = .ok (.ifCond .ne 7, 3) := by decide +kernel
theorem xd_121_26 : decode prog_6_method_16_code 26 = .ok (.iconst 0, 1) := by decide +kernel
theorem xd_121_27 : decode prog_6_method_16_code 27 = .ok (.goto 4, 3) := by decide +kernel
theorem xd_121_30 : decode prog_6_method_16_code 30 = .ok (.iconst 1, 1) := by decide +kernel
theorem xd_121_31 : decode prog_6_method_16_code 31 = .ok (.ireturn, 1) := by decide +kernel
theorem xd_121_32 : decode prog_6_method_16_code 32 = .ok (.iload_n 2, 1) := by decide +kernel
theorem xd_121_33 : decode prog_6_method_16_code 33 = .ok (.iload_n 3, 1) := by decide +kernel
theorem xd_121_34 : decode prog_6_method_16_code 34 = .ok (.if_icmp .ge 7, 3) := by decide +kernel
theorem xd_121_37 : decode prog_6_method_16_code 37 = .ok (.iconst 0, 1) := by decide +kernel
theorem xd_121_38 : decode prog_6_method_16_code 38 = .ok (.goto 4, 3) := by decide +kernel
theorem xd_121_41 : decode prog_6_method_16_code 41 = .ok (.iconst 1, 1) := by decide +kernel
theorem xd_121_42 : decode prog_6_method_16_code 42 = .ok (.ireturn, 1) := by decide +kernel
theorem xk_121_0 : xk_OkA xp_F (xp_P sc) xp_cl xp_BW xp_NW xp_SW xp_exn 121 0 (.aload 0) := Or.inr ⟨0, rfl, xd_121_0, rfl⟩
theorem xk_121_1 : xk_OkA xp_F (xp_P sc) xp_cl xp_BW xp_NW xp_SW xp_exn 121 1 (.iload 1) := Or.inr ⟨1, rfl, xd_121_1, rfl⟩
theorem xk_121_2 : xk_OkA xp_F (xp_P sc) xp_cl xp_BW xp_NW xp_SW xp_exn 121 2 (.iconst 0) := Or.inl ⟨xd_121_2, rfl⟩
theorem xk_121_3 : xk_OkA xp_F (xp_P sc) xp_cl xp_BW xp_NW xp_SW xp_exn 121 3 (.invokeinterface 120 3) := ⟨rfl, Or.inl ⟨xwt_828, rfl⟩, rfl, rfl, xwt_5, by decide +kernel, by decide +kernel, Nat.le_of_ble_eq_true rfl, _, Or.inl xwt_825, Or.inr ⟨xd_121_3, xwt_827, xws_82, ⟨_, _, _, rfl, rfl⟩, by decide +kernel⟩⟩
theorem xk_121_4 : xk_OkA xp_F (xp_P sc) xp_cl xp_BW xp_NW xp_SW xp_exn 121 4 (.istore 2) := Or.inr ⟨2, rfl, xd_121_6, rfl⟩
theorem xk_121_5 : xk_OkA xp_F (xp_P sc) xp_cl xp_BW xp_NW xp_SW xp_exn 121 5 (.aload 0) := Or.inr ⟨0, rfl, xd_121_7, rfl⟩
theorem xk_121_6 : xk_OkA xp_F (xp_P sc) xp_cl xp_BW xp_NW xp_SW xp_exn 121 6 (.iload 1) := Or.inr ⟨1, rfl, xd_121_8, rfl⟩
theorem xk_121_7 : xk_OkA xp_F (xp_P sc) xp_cl xp_BW xp_NW xp_SW xp_exn 121 7 (.iconst 1) := Or.inl ⟨xd_121_9, rfl⟩
theorem xk_121_8 : xk_OkA xp_F (xp_P sc) xp_cl xp_BW xp_NW xp_SW xp_exn 121 8 (.invokeinterface 120 3) := ⟨rfl, Or.inl ⟨xwt_828, rfl⟩, rfl, rfl, xwt_5, by decide +kernel, by decide +kernel, Nat.le_of_ble_eq_true rfl, _, Or.inl xwt_825, Or.inr ⟨xd_121_10, xwt_827, xws_82, ⟨_, _, _, rfl, rfl⟩, by decide +kernel⟩⟩
theorem xk_121_9 : xk_OkA xp_F (xp_P sc) xp_cl xp_BW xp_NW xp_SW xp_exn 121 9 (.istore 3) := Or.inr ⟨3, rfl, xd_121_13, rfl⟩
theorem xk_121_10 : xk_OkA xp_F (xp_P sc) xp_cl xp_BW xp_NW xp_SW xp_exn 121 10 (.iload 2) := Or.inr ⟨2, rfl, xd_121_14, rfl⟩
theorem xk_121_11 : xk_OkA xp_F (xp_P sc) xp_cl xp_BW xp_NW xp_SW xp_exn 121 11 (.ifCond .eq 14) := ⟨_, xd_121_15, by unfold xf_to; decide +kernel, rfl⟩
theorem xk_121_12 : xk_OkA xp_F (xp_P sc) xp_cl xp_BW xp_NW xp_SW xp_exn 121 12 (.iload 3) := Or.inr ⟨3, rfl, xd_121_18, rfl⟩
theorem xk_121_13 : xk_OkA xp_F (xp_P sc) xp_cl xp_BW xp_NW xp_SW xp_exn 121 13 (.ifCond .ne 20) := ⟨_, xd_121_19, by unfold xf_to; decide +kernel, rfl⟩
theorem xk_121_14 : xk_OkA xp_F (xp_P sc) xp_cl xp_BW xp_NW xp_SW xp_exn 121 14 (.iload 2) := Or.inr ⟨2, rfl, xd_121_22, rfl⟩
theorem xk_121_15 : xk_OkA xp_F (xp_P sc) xp_cl xp_BW xp_NW xp_SW xp_exn 121 15 (.ifCond .ne 18) := ⟨_, xd_121_23, by unfold xf_to; decide +kernel, rfl⟩
theorem xk_121_16 : xk_OkA xp_F (xp_P sc) xp_cl xp_BW xp_NW xp_SW xp_exn 121 16 (.iconst 0) := Or.inl ⟨xd_121_26, rfl⟩
theorem xk_121_17 : xk_OkA xp_F (xp_P sc) xp_cl xp_BW xp_NW xp_SW xp_exn 121 17 (.goto 19) := ⟨_, xd_121_27, by unfold xf_to; decide +kernel⟩
theorem xk_121_18 : xk_OkA xp_F (xp_P sc) xp_cl xp_BW xp_NW xp_SW xp_exn 121 18 (.iconst 1) := Or.inl ⟨xd_121_30, rfl⟩
theorem xk_121_19 : xk_OkA xp_F (xp_P sc) xp_cl xp_BW xp_NW xp_SW xp_exn 121 19 (.ireturn) := ⟨xd_121_31, rfl⟩
theorem xk_121_20 : xk_OkA xp_F (xp_P sc) xp_cl xp_BW xp_NW xp_SW xp_exn 121 20 (.iload 2) := Or.inr ⟨2, rfl, xd_121_32, rfl⟩
theorem xk_121_21 : xk_OkA xp_F (xp_P sc) xp_cl xp_BW xp_NW xp_SW xp_exn 121 21 (.iload 3) := Or.inr ⟨3, rfl, xd_121_33, rfl⟩
theorem xk_121_22 : xk_OkA xp_F (xp_P sc) xp_cl xp_BW xp_NW xp_SW xp_exn 121 22 (.if_icmp .ge 25) := ⟨_, xd_121_34, by unfold xf_to; decide +kernel, rfl⟩
theorem xk_121_23 : xk_OkA xp_F (xp_P sc) xp_cl xp_BW xp_NW xp_SW xp_exn 121 23 (.iconst 0) := Or.inl ⟨xd_121_37, rfl⟩
theorem xk_121_24 : xk_OkA xp_F (xp_P sc) xp_cl xp_BW xp_NW xp_SW xp_exn 121 24 (.goto 26) := ⟨_, xd_121_38, by unfold xf_to; decide +kernel⟩
theorem xk_121_25 : xk_OkA xp_F (xp_P sc) xp_cl xp_BW xp_NW xp_SW xp_exn 121 25 (.iconst 1) := Or.inl ⟨xd_121_41, rfl⟩
theorem xk_121_26 : xk_OkA xp_F (xp_P sc) xp_cl xp_BW xp_NW xp_SW xp_exn 121 26 (.ireturn) := ⟨xd_121_42, rfl⟩
theorem xl_121 : xk_OkL xp_F (xp_P sc) xp_cl xp_BW xp_NW xp_SW xp_exn 121 0 xc_121 := ⟨xk_121_0, xk_121_1, xk_121_2, xk_121_3, xk_121_4, xk_121_5, xk_121_6, xk_121_7, xk_121_8, xk_121_9, xk_121_10, xk_121_11, xk_121_12, xk_121_13, xk_121_14, xk_121_15, xk_121_16, xk_121_17, xk_121_18, xk_121_19, xk_121_20, xk_121_21, xk_121_22, xk_121_23, xk_121_24, xk_121_25, xk_121_26, trivial⟩
theorem xd_122_0 : decode prog_6_method_17_code 0 = .ok (.bipush 102, 2) := by decide +kernel
theorem xd_122_2 : decode prog_6_method_17_code 2 = .ok (.iload_n 1, 1) := by decide +kernel
theorem xd_122_3 : decode prog_6_method_17_code 3 = .ok (.imul, 1) := by decide +kernel
theorem xd_122_4 : decode prog_6_method_17_code 4 = .ok (.bipush 51, 2) := by decide +kernel
theorem xd_122_6 : decode prog_6_method_17_code 6 = .ok (.aload_n 0, 1) := by decide +kernel
theorem xd_122_7 : decode prog_6_method_17_code 7 = .ok (.iload_n 1, 1) := by decide +kernel
theorem xd_122_8 : decode prog_6_method_17_code 8 = .ok (.invokevirtual 48, 3) := by decide +kernel
theorem xd_122_11 : decode prog_6_method_17_code 11 = .ok (.imul, 1) := by decide +kernel
theorem xd_122_12 : decode prog_6_method_17_code 12 = .ok (.iadd, 1) := by decide +kernel
theorem xd_122_13 : decode prog_6_method_17_code 13 = .ok (.istore_n 3, 1) := by decide +kernel
theorem xd_122_14 : decode prog_6_method_17_code 14 = .ok (.iconst 0, 1) := by decide +kernel
theorem xd_122_15 : decode prog_6_method_17_code 15 = .ok (.istore 4, 2) := by decide +kernel
theorem xd_122_17 : decode prog_6_method_17_code 17 = .ok (.iload 4, 2) := by decide +kernel
theorem xd_122_19 : decode prog_6_method_17_code 19 = .ok (.bipush 51, 2) := by decide +kernel
theorem xd_122_21 : decode prog_6_method_17_code 21 = .ok (.if_icmp .ge 36, 3) := by decide +kernel
theorem xd_122_24 : decode prog_6_method_17_code 24 = .ok (.aload_n 0, 1) := by decide +kernel
theorem xd_122_25 : decode prog_6_method_17_code 25 = .ok (.getfield 20, 3) := by decide +kernel
theorem xd_122_28 : decode prog_6_method_17_code 28 = .ok (.ifCond .eq 29, 3) := by decide +kernel
theorem xd_122_31 : decode prog_6_method_17_code 31 = .ok (.aload_n 0, 1) := by decide +kernel
theorem xd_122_32 : decode prog_6_method_17_code 32 = .ok (.invokevirtual 40, 3) := by decide +kernel
theorem xd_122_35 : decode prog_6_method_17_code 35 = .ok (.ifCond .eq 16, 3) := by decide +kernel
theorem xd_122_38 : decode prog_6_method_17_code 38 = .ok (.aload_n 0, 1) := by decide +kernel
theorem xd_122_39 : decode prog_6_method_17_code 39 = .ok (.getfield 13, 3) := by decide +kernel
theorem xd_122_42 : decode prog_6_method_17_code 42 = .ok (.iload_n 3, 1) := by decide +kernel
theorem xd_122_43 : decode prog_6_method_17_code 43 = .ok (.iload 4, 2) := by decide +kernel
theorem xd_122_45 : decode prog_6_method_17_code 45 = .ok (.iadd, 1) := by decide +kernel
theorem xd_122_46 : decode prog_6_method_17_code 46 = .ok (.aload_n 2, 1) := by decide +kernel
theorem xd_122_47 : decode prog_6_method_17_code 47 = .ok (.iload 4, 2) := by decide +kernel
theorem xd_122_49 : decode prog_6_method_17_code 49 = .ok (.iaload, 1) := by decide +kernel
theorem xd_122_50 : decode prog_6_method_17_code 50 = .ok (.iastore, 1) := by decide +kernel
theorem xd_122_51 : decode prog_6_method_17_code 51 = .ok (.iinc 4 (1), 3) := by decide +kernel
theorem xd_122_54 : decode prog_6_method_17_code 54 = .ok (.goto (-37), 3) := by decide +kernel
theorem xd_122_57 : decode prog_6_method_17_code 57 = .ok (.return_, 1) := by decide +kernel
theorem xk_122_0 : xk_OkA xp_F (xp_P sc) xp_cl xp_BW xp_NW xp_SW xp_exn 122 0 (.iconst 102) := Or.inr (Or.inl ⟨xd_122_0, by decide +kernel, rfl⟩)
theorem xk_122_1 : xk_OkA xp_F (xp_P sc) xp_cl xp_BW xp_NW xp_SW xp_exn 122 1 (.iload 1) := Or.inr ⟨1, rfl, xd_122_2, rfl⟩
theorem xk_122_2 : xk_OkA xp_F (xp_P sc) xp_cl xp_BW xp_NW xp_SW xp_exn 122 2 (.imul) := ⟨xd_122_3, rfl⟩
theorem xk_122_3 : xk_OkA xp_F (xp_P sc) xp_cl xp_BW xp_NW xp_SW xp_exn 122 3 (.iconst 51) := Or.inr (Or.inl ⟨xd_122_4, by decide +kernel, rfl⟩)
theorem xk_122_4 : xk_OkA xp_F (xp_P sc) xp_cl xp_BW xp_NW xp_SW xp_exn 122 4 (.aload 0) := Or.inr ⟨0, rfl, xd_122_6, rfl⟩
theorem xk_122_5 : xk_OkA xp_F (xp_P sc) xp_cl xp_BW xp_NW xp_SW xp_exn 122 5 (.iload 1) := Or.inr ⟨1, rfl, xd_122_7, rfl⟩
theorem xk_122_6 : xk_OkA xp_F (xp_P sc) xp_cl xp_BW xp_NW xp_SW xp_exn 122 6 (.invokeinterface 121 2) := ⟨rfl, Or.inl ⟨xwt_824, rfl⟩, rfl, rfl, xwt_5, by decide +kernel, by decide +kernel, Nat.le_of_ble_eq_true rfl, _, Or.inl xwt_821, Or.inr ⟨xd_122_8, xwt_823, xws_81, ⟨_, _, _, rfl, rfl⟩, by decide +kernel⟩⟩
theorem xk_122_7 : xk_OkA xp_F (xp_P sc) xp_cl xp_BW xp_NW xp_SW xp_exn 122 7 (.imul) := ⟨xd_122_11, rfl⟩
theorem xk_122_8 : xk_OkA xp_F (xp_P sc) xp_cl xp_BW xp_NW xp_SW xp_exn 122 8 (.iadd) := ⟨xd_122_12, rfl⟩
theorem xk_122_9 : xk_OkA xp_F (xp_P sc) xp_cl xp_BW xp_NW xp_SW xp_exn 122 9 (.istore 3) := Or.inr ⟨3, rfl, xd_122_13, rfl⟩
theorem xk_122_10 : xk_OkA xp_F (xp_P sc) xp_cl xp_BW xp_NW xp_SW xp_exn 122 10 (.iconst 0) := Or.inl ⟨xd_122_14, rfl⟩
theorem xk_122_11 : xk_OkA xp_F (xp_P sc) xp_cl xp_BW xp_NW xp_SW xp_exn 122 11 (.istore 4) := Or.inl ⟨xd_122_15, rfl⟩
theorem xk_122_12 : xk_OkA xp_F (xp_P sc) xp_cl xp_BW xp_NW xp_SW xp_exn 122 12 (.iload 4) := Or.inl ⟨xd_122_17, rfl⟩
theorem xk_122_13 : xk_OkA xp_F (xp_P sc) xp_cl xp_BW xp_NW xp_SW xp_exn 122 13 (.iconst 51) := Or.inr (Or.inl ⟨xd_122_19, by decide +kernel, rfl⟩)
theorem xk_122_14 : xk_OkA xp_F (xp_P sc) xp_cl xp_BW xp_NW xp_SW xp_exn 122 14 (.if_icmp .ge 32) := ⟨_, xd_122_21, by unfold xf_to; decide +kernel, rfl⟩
theorem xk_122_15 : xk_OkA xp_F (xp_P sc) xp_cl xp_BW xp_NW xp_SW xp_exn 122 15 (.aload 0) := Or.inr ⟨0, rfl, xd_122_24, rfl⟩
theorem xk_122_16 : xk_OkA xp_F (xp_P sc) xp_cl xp_BW xp_NW xp_SW xp_exn 122 16 (.getfield 132) := ⟨_, xd_122_25, rfl, ⟨_, _, _, rfl, by decide, xu_4, Or.inl xwt_758⟩⟩
theorem xk_122_17 : xk_OkA xp_F (xp_P sc) xp_cl xp_BW xp_NW xp_SW xp_exn 122 17 (.ifCond .eq 32) := ⟨_, xd_122_28, by unfold xf_to; decide +kernel, rfl⟩
theorem xk_122_18 : xk_OkA xp_F (xp_P sc) xp_cl xp_BW xp_NW xp_SW xp_exn 122 18 (.aload 0) := Or.inr ⟨0, rfl, xd_122_31, rfl⟩
theorem xk_122_19 : xk_OkA xp_F (xp_P sc) xp_cl xp_BW xp_NW xp_SW xp_exn 122 19 (.invokeinterface 109 1) := ⟨rfl, Or.inl ⟨xwt_832, rfl⟩, rfl, rfl, xwt_5, by decide +kernel, by decide +kernel, Nat.le_of_ble_eq_true rfl, _, Or.inl xwt_829, Or.inr ⟨xd_122_32, xwt_831, xws_83, ⟨_, _, _, rfl, rfl⟩, by decide +kernel⟩⟩
theorem xk_122_20 : xk_OkA xp_F (xp_P sc) xp_cl xp_BW xp_NW xp_SW xp_exn 122 20 (.ifCond .eq 30) := ⟨_, xd_122_35, by unfold xf_to; decide +kernel, rfl⟩
theorem xk_122_21 : xk_OkA xp_F (xp_P sc) xp_cl xp_BW xp_NW xp_SW xp_exn 122 21 (.aload 0) := Or.inr ⟨0, rfl, xd_122_38, rfl⟩
theorem xk_122_22 : xk_OkA xp_F (xp_P sc) xp_cl xp_BW xp_NW xp_SW xp_exn 122 22 (.getfield 130) := ⟨_, xd_122_39, rfl, ⟨_, _, _, rfl, by decide, xu_4, Or.inl xwt_756⟩⟩
theorem xk_122_23 : xk_OkA xp_F (xp_P sc) xp_cl xp_BW xp_NW xp_SW xp_exn 122 23 (.iload 3) := Or.inr ⟨3, rfl, xd_122_42, rfl⟩
theorem xk_122_24 : xk_OkA xp_F (xp_P sc) xp_cl xp_BW xp_NW xp_SW xp_exn 122 24 (.iload 4) := Or.inl ⟨xd_122_43, rfl⟩
theorem xk_122_25 : xk_OkA xp_F (xp_P sc) xp_cl xp_BW xp_NW xp_SW xp_exn 122 25 (.iadd) := ⟨xd_122_45, rfl⟩
theorem xk_122_26 : xk_OkA xp_F (xp_P sc) xp_cl xp_BW xp_NW xp_SW xp_exn 122 26 (.aload 2) := Or.inr ⟨2, rfl, xd_122_46, rfl⟩
theorem xk_122_27 : xk_OkA xp_F (xp_P sc) xp_cl xp_BW xp_NW xp_SW xp_exn 122 27 (.iload 4) := Or.inl ⟨xd_122_47, rfl⟩
theorem xk_122_28 : xk_OkA xp_F (xp_P sc) xp_cl xp_BW xp_NW xp_SW xp_exn 122 28 (.iaload) := ⟨xd_122_49, rfl⟩
theorem xk_122_29 : xk_OkA xp_F (xp_P sc) xp_cl xp_BW xp_NW xp_SW xp_exn 122 29 (.iastore) := ⟨xd_122_50, rfl⟩
theorem xk_122_30 : xk_OkA xp_F (xp_P sc) xp_cl xp_BW xp_NW xp_SW xp_exn 122 30 (.iinc 4 (1)) := ⟨xd_122_51, rfl⟩
theorem xk_122_31 : xk_OkA xp_F (xp_P sc) xp_cl xp_BW xp_NW xp_SW xp_exn 122 31 (.goto 12) := ⟨_, xd_122_54, by unfold xf_to; decide +kernel⟩
theorem xk_122_32 : xk_OkA xp_F (xp_P sc) xp_cl xp_BW xp_NW xp_SW xp_exn 122 32 (.return_) := ⟨xd_122_57, rfl⟩
theorem xl_122 : xk_OkL xp_F (xp_P sc) xp_cl xp_BW xp_NW xp_SW xp_exn 122 0 xc_122 := ⟨xk_122_0, xk_122_1, xk_122_2, xk_122_3, xk_122_4, xk_122_5, xk_122_6, xk_122_7, xk_122_8, xk_122_9, xk_122_10, xk_122_11, xk_122_12, xk_122_13, xk_122_14, xk_122_15, xk_122_16, xk_122_17, xk_122_18, xk_122_19, xk_122_20, xk_122_21, xk_122_22, xk_122_23, xk_122_24, xk_122_25, xk_122_26, xk_122_27, xk_122_28, xk_122_29, xk_122_30, xk_122_31, xk_122_32, trivial⟩
theorem xd_123_0 : decode prog_6_method_18_code 0 = .ok (.aload_n 0, 1) := by decide +kernel
theorem xd_123_1 : decode prog_6_method_18_code 1 = .ok (.getfield 31, 3) := by decide +kernel
theorem xd_123_4 : decode prog_6_method_18_code 4 = .ok (.iconst 0, 1) := by decide +kernel
theorem xd_123_5 : decode prog_6_method_18_code 5 = .ok (.aload_n 0, 1) := by decide +kernel
theorem xd_123_6 : decode prog_6_method_18_code 6 = .ok (.getfield 28, 3) := by decide +kernel
theorem xd_123_9 : decode prog_6_method_18_code 9 = .ok (.iconst 0, 1) := by decide +kernel
theorem xd_123_10 : decode prog_6_method_18_code 10 = .ok (.iaload, 1) := by decide +kernel
theorem xd_123_11 : decode prog_6_method_18_code 11 = .ok (.aload_n 0, 1) := by decide +kernel
theorem xd_123_12 : decode prog_6_method_18_code 12 = .ok (.invokevirtual 52, 3) := by decide +kernel
theorem xd_123_15 : decode prog_6_method_18_code 15 = .ok (.ifCond .eq 7, 3) := by decide +kernel
theorem xd_123_18 : decode prog_6_method_18_code 18 = .ok (.iconst 2, 1) := by decide +kernel
theorem xd_123_19 : decode prog_6_method_18_code 19 = .ok (.goto 4, 3) := by decide +kernel
theorem xd_123_22 : decode prog_6_method_18_code 22 = .ok (.iconst 1, 1) := by decide +kernel
theorem xd_123_23 : decode prog_6_method_18_code 23 = .ok (.iadd, 1) := by decide +kernel
theorem xd_123_24 : decode prog_6_method_18_code 24 = .ok (.iastore, 1) := by decide +kernel
theorem xd_123_25 : decode prog_6_method_18_code 25 = .ok (.aload_n 0, 1) := by decide +kernel
theorem xd_123_26 : decode prog_6_method_18_code 26 = .ok (.getfield 31, 3) := by decide +kernel
theorem xd_123_29 : decode prog_6_method_18_code 29 = .ok (.bipush 50, 2) := by decide +kernel
theorem xd_123_31 : decode prog_6_method_18_code 31 = .ok (.aload_n 0, 1) := by decide +kernel
theorem xd_123_32 : decode prog_6_method_18_code 32 = .ok (.getfield 31, 3) := by decide +kernel
theorem xd_123_35 : decode prog_6_method_18_code 35 = .ok (.iconst 0, 1) := by decide +kernel
theorem xd_123_36 : decode prog_6_method_18_code 36 = .ok (.iaload, 1) := by decide +kernel
theorem xd_123_37 : decode prog_6_method_18_code 37 = .ok (.iastore, 1) := by decide +kernel
theorem xd_123_38 : decode prog_6_method_18_code 38 = .ok (.aload_n 0, 1) := by decide +kernel
theorem xd_123_39 : decode prog_6_method_18_code 39 = .ok (.getfield 31, 3) := by decide +kernel
theorem xd_123_42 : decode prog_6_method_18_code 42 = .ok (.bipush 49, 2) := by decide +kernel
theorem xd_123_44 : decode prog_6_method_18_code 44 = .ok (.iconst 0, 1) := by decide +kernel
theorem xd_123_45 : decode prog_6_method_18_code 45 = .ok (.iastore, 1) := by decide +kernel
theorem xd_123_46 : decode prog_6_method_18_code 46 = .ok (.iconst 0, 1) := by decide +kernel
theorem xd_123_47 : decode prog_6_method_18_code 47 = .ok (.istore_n 1, 1) := by decide +kernel
theorem xd_123_48 : decode prog_6_method_18_code 48 = .ok (.iload_n 1, 1) := by decide +kernel
theorem xd_123_49 : decode prog_6_method_18_code 49 = .ok (.bipush 49, 2) := by decide +kernel
theorem xd_123_51 : decode prog_6_method_18_code 51 = .ok (.if_icmp .ge 34, 3) := by decide +kernel
theorem xd_123_54 : decode prog_6_method_18_code 54 = .ok (.aload_n 0, 1) := by decide +kernel
theorem xd_123_55 : decode prog_6_method_18_code 55 = .ok (.getfield 31, 3) := by decide +kernel
theorem xd_123_58 : decode prog_6_method_18_code 58 = .ok (.bipush 49, 2) := by decide +kernel
theorem xd_123_60 : decode prog_6_method_18_code 60 = .ok (.aload_n 0, 1) := by decide +kernel
theorem xd_123_61 : decode prog_6_method_18_code 61 = .ok (.getfield 31, 3) := by decide +kernel
theorem xd_123_64 : decode prog_6_method_18_code 64 = .ok (.bipush 49, 2) := by decide +kernel
theorem xd_123_66 : decode prog_6_method_18_code 66 = .ok (.iaload, 1) := by decide +kernel
theorem xd_123_67 : decode prog_6_method_18_code 67 = .ok (.aload_n 0, 1) := by decide +kernel
theorem xd_123_68 : decode prog_6_method_18_code 68 = .ok (.getfield 31, 3) := by decide +kernel
theorem xd_123_71 : decode prog_6_method_18_code 71 = .ok (.iload_n 1, 1) := by decide +kernel
theorem xd_123_72 : decode prog_6_method_18_code 72 = .ok (.iaload, 1) := by decide +kernel
theorem xd_123_73 : decode prog_6_method_18_code 73 = .ok (.iload_n 1, 1) := by decide +kernel
theorem xd_123_74 : decode prog_6_method_18_code 74 = .ok (.iconst 1, 1) := by decide +kernel
theorem xd_123_75 : decode prog_6_method_18_code 75 = .ok (.iadd, 1) := by decide +kernel
theorem xd_123_76 : decode prog_6_method_18_code 76 = .ok (.imul, 1) := by decide +kernel
theorem xd_123_77 : decode prog_6_method_18_code 77 = .ok (.iadd, 1) := by decide +kernel
theorem xd_123_78 : decode prog_6_method_18_code 78 = .ok (.iastore, 1) := by decide +kernel
theorem xd_123_79 : decode prog_6_method_18_code 79 = .ok (.iinc 1 (1), 3) := by decide +kernel
theorem xd_123_82 : decode prog_6_method_18_code 82 = .ok (.goto (-34), 3) := by decide +kernel
theorem xd_123_85 : decode prog_6_method_18_code 85 = .ok (.iconst 0, 1) := by decide +kernel
theorem xd_123_86 : decode prog_6_method_18_code 86 = .ok (.istore_n 1, 1) := by decide +kernel
theorem xd_123_87 : decode prog_6_method_18_code 87 = .ok (.iload_n 1, 1) := by decide +kernel
theorem xd_123_88 : decode prog_6_method_18_code 88 = .ok (.iconst 4, 1) := by decide +kernel
theorem xd_123_89 : decode prog_6_method_18_code 89 = .ok (.if_icmp .ge 45, 3) := by decide +kernel
theorem xd_123_92 : decode prog_6_method_18_code 92 = .ok (.aload_n 0, 1) := by decide +kernel
theorem xd_123_93 : decode prog_6_method_18_code 93 = .ok (.getfield 20, 3) := by decide +kernel
theorem xd_123_96 : decode prog_6_method_18_code 96 = .ok (.ifCond .eq 38, 3) := by decide +kernel
theorem xd_123_99 : decode prog_6_method_18_code 99 = .ok (.aload_n 0, 1) := by decide +kernel
theorem xd_123_100 : decode prog_6_method_18_code 100 = .ok (.getfield 31, 3) := by decide +kernel
theorem xd_123_103 : decode prog_6_method_18_code 103 = .ok (.iconst 1, 1) := by decide +kernel
theorem xd_123_104 : decode prog_6_method_18_code 104 = .ok (.iload_n 1, 1) := by decide +kernel
theorem xd_123_105 : decode prog_6_method_18_code 105 = .ok (.iadd, 1) := by decide +kernel
theorem xd_123_106 : decode prog_6_method_18_code 106 = .ok (.iaload, 1) := by decide +kernel
theorem xd_123_107 : decode prog_6_method_18_code 107 = .ok (.ifCond .le 21, 3) := by decide +kernel
theorem xd_123_110 : decode prog_6_method_18_code 110 = .ok (.aload_n 0, 1) := by decide +kernel
theorem xd_123_111 : decode prog_6_method_18_code 111 = .ok (.getfield 7, 3) := by decide +kernel
theorem xd_123_114 : decode prog_6_method_18_code 114 = .ok (.iload_n 1, 1) := by decide +kernel
theorem xd_123_115 : decode prog_6_method_18_code 115 = .ok (.baload, 1) := by decide +kernel
theorem xd_123_116 : decode prog_6_method_18_code 116 = .ok (.ifCond .eq 12, 3) := by decide +kernel
theorem xd_123_119 : decode prog_6_method_18_code 119 = .ok (.aload_n 0, 1) := by decide +kernel
theorem xd_123_120 : decode prog_6_method_18_code 120 = .ok (.iload_n 1, 1) := by decide +kernel
theorem xd_123_121 : decode prog_6_method_18_code 121 = .ok (.aload_n 0, 1) := by decide +kernel
theorem xd_123_122 : decode prog_6_method_18_code 122 = .ok (.getfield 31, 3) := by decide +kernel
theorem xd_123_125 : decode prog_6_method_18_code 125 = .ok (.invokevirtual 55, 3) := by decide +kernel
theorem xd_123_128 : decode prog_6_method_18_code 128 = .ok (.iinc 1 (1), 3) := by decide +kernel
theorem xd_123_131 : decode prog_6_method_18_code 131 = .ok (.goto (-44), 3) := by decide +kernel
theorem xd_123_134 : decode prog_6_method_18_code 134 = .ok (.aload_n 0, 1) := by decide +kernel
theorem xd_123_135 : decode prog_6_method_18_code 135 = .ok (.getfield 20, 3) := by decide +kernel
theorem xd_123_138 : decode prog_6_method_18_code 138 = .ok (.ifCond .ne 4, 3) := by decide +kernel
theorem xd_123_141 : decode prog_6_method_18_code 141 = .ok (.return_, 1) := by decide +kernel
theorem xd_123_142 : decode prog_6_method_18_code 142 = .ok (.bipush 9, 2) := by decide +kernel
theorem xd_123_144 : decode prog_6_method_18_code 144 = .ok (.bipush 10, 2) := by decide +kernel
theorem xd_123_146 : decode prog_6_method_18_code 146 = .ok (.aload_n 0, 1) := by decide +kernel
theorem xd_123_147 : decode prog_6_method_18_code 147 = .ok (.getfield 59, 3) := by decide +kernel
theorem xd_123_150 : decode prog_6_method_18_code 150 = .ok (.imul, 1) := by decide +kernel
theorem xd_123_151 : decode prog_6_method_18_code 151 = .ok (.iadd, 1) := by decide +kernel
theorem xd_123_152 : decode prog_6_method_18_code 152 = .ok (.aload_n 0, 1) := by decide +kernel
theorem xd_123_153 : decode prog_6_method_18_code 153 = .ok (.getfield 62, 3) := by decide +kernel
theorem xd_123_156 : decode prog_6_method_18_code 156 = .ok (.iadd, 1) := by decide +kernel
theorem xd_123_157 : decode prog_6_method_18_code 157 = .ok (.istore_n 1, 1) := by decide +kernel
theorem xd_123_158 : decode prog_6_method_18_code 158 = .ok (.aload_n 0, 1) := by decide +kernel
theorem xd_123_159 : decode prog_6_method_18_code 159 = .ok (.aload_n 0, 1) := by decide +kernel
theorem xd_123_160 : decode prog_6_method_18_code 160 = .ok (.getfield 65, 3) := by decide +kernel
theorem xd_123_163 : decode prog_6_method_18_code 163 = .ok (.ifCond .le 22, 3) := by decide +kernel
theorem xd_123_166 : decode prog_6_method_18_code 166 = .ok (.aload_n 0, 1) := by decide +kernel
theorem xd_123_167 : decode prog_6_method_18_code 167 = .ok (.getfield 31, 3) := by decide +kernel
theorem xd_123_170 : decode prog_6_method_18_code 170 = .ok (.iload_n 1, 1) := by decide +kernel
theorem xd_123_171 : decode prog_6_method_18_code 171 = .ok (.iaload, 1) := by decide +kernel
theorem xd_123_172 : decode prog_6_method_18_code 172 = .ok (.aload_n 0, 1) := by decide +kernel
theorem xd_123_173 : decode prog_6_method_18_code 173 = .ok (.getfield 28, 3) := by decide +kernel
theorem xd_123_176 : decode prog_6_method_18_code 176 = .ok (.iload_n 1, 1) := by decide +kernel
theorem xd_123_177 : decode prog_6_method_18_code 177 = .ok (.iaload, 1) := by decide +kernel
theorem xd_123_178 : decode prog_6_method_18_code 178 = .ok (.if_icmp .eq 7, 3) := by decide +kernel
theorem xd_123_181 : decode prog_6_method_18_code 181 = .ok (.iconst 0, 1) := by decide +kernel
theorem xd_123_182 : decode prog_6_method_18_code 182 = .ok (.goto 7, 3) := by decide +kernel
theorem xd_123_185 : decode prog_6_method_18_code 185 = .ok (.aload_n 0, 1) := by decide +kernel
theorem xd_123_186 : decode prog_6_method_18_code 186 = .ok (.getfield 65, 3) := by decide +kernel
theorem xd_123_189 : decode prog_6_method_18_code 189 = .ok (.putfield 65, 3) := by decide +kernel
theorem xd_123_192 : decode prog_6_method_18_code 192 = .ok (.iconst 0, 1) := by decide +kernel
theorem xd_123_193 : decode prog_6_method_18_code 193 = .ok (.istore_n 2, 1) := by decide +kernel
theorem xd_123_194 : decode prog_6_method_18_code 194 = .ok (.iload_n 2, 1) := by decide +kernel
theorem xd_123_195 : decode prog_6_method_18_code 195 = .ok (.bipush 51, 2) := by decide +kernel
theorem xd_123_197 : decode prog_6_method_18_code 197 = .ok (.if_icmp .ge 21, 3) := by decide +kernel
theorem xd_123_200 : decode prog_6_method_18_code 200 = .ok (.aload_n 0, 1) := by decide +kernel
theorem xd_123_201 : decode prog_6_method_18_code 201 = .ok (.getfield 28, 3) := by decide +kernel
theorem xd_123_204 : decode prog_6_method_18_code 204 = .ok (.iload_n 2, 1) := by decide +kernel
theorem xd_123_205 : decode prog_6_method_18_code 205 = .ok (.aload_n 0, 1) := by decide +kernel
theorem xd_123_206 : decode prog_6_method_18_code 206 = .ok (.getfield 31, 3) := by decide +kernel
theorem xd_123_209 : decode prog_6_method_18_code 209 = .ok (.iload_n 2, 1) := by decide +kernel
theorem xd_123_210 : decode prog_6_method_18_code 210 = .ok (.iaload, 1) := by decide +kernel
theorem xd_123_211 : decode prog_6_method_18_code 211 = .ok (.iastore, 1) := by decide +kernel
theorem xd_123_212 : decode prog_6_method_18_code 212 = .ok (.iinc 2 (1), 3) := by decide +kernel
theorem xd_123_215 : decode prog_6_method_18_code 215 = .ok (.goto (-21), 3) := by decide +kernel
theorem xd_123_218 : decode prog_6_method_18_code 218 = .ok (.return_, 1) := by decide +kernel
theorem xk_123_0 : xk_OkA xp_F (xp_P sc) xp_cl xp_BW xp_NW xp_SW xp_exn 123 0 (.aload 0) := Or.inr ⟨0, rfl, xd_123_0, rfl⟩
theorem xk_123_1 : xk_OkA xp_F (xp_P sc) xp_cl xp_BW xp_NW xp_SW xp_exn 123 1 (.getfield 135) := ⟨_, xd_123_1, rfl, ⟨_, _, _, rfl, by decide, xu_4, Or.inl xwt_761⟩⟩
theorem xk_123_2 : xk_OkA xp_F (xp_P sc) xp_cl xp_BW xp_NW xp_SW xp_exn 123 2 (.iconst 0) := Or.inl ⟨xd_123_4, rfl⟩
theorem xk_123_3 : xk_OkA xp_F (xp_P sc) xp_cl xp_BW xp_NW xp_SW xp_exn 123 3 (.aload 0) := Or.inr ⟨0, rfl, xd_123_5, rfl⟩
theorem xk_123_4 : xk_OkA xp_F (xp_P sc) xp_cl xp_BW xp_NW xp_SW xp_exn 123 4 (.getfield 134) := ⟨_, xd_123_6, rfl, ⟨_, _, _, rfl, by decide, xu_4, Or.inl xwt_760⟩⟩
theorem xk_123_5 : xk_OkA xp_F (xp_P sc) xp_cl xp_BW xp_NW xp_SW xp_exn 123 5 (.iconst 0) := Or.inl ⟨xd_123_9, rfl⟩
theorem xk_123_6 : xk_OkA xp_F (xp_P sc) xp_cl xp_BW xp_NW xp_SW xp_exn 123 6 (.iaload) := ⟨xd_123_10, rfl⟩
theorem xk_123_7 : xk_OkA xp_F (xp_P sc) xp_cl xp_BW xp_NW xp_SW xp_exn 123 7 (.aload 0) := Or.inr ⟨0, rfl, xd_123_11, rfl⟩
theorem xk_123_8 : xk_OkA xp_F (xp_P sc) xp_cl xp_BW xp_NW xp_SW xp_exn 123 8 (.invokeinterface 118 1) := ⟨rfl, Or.inl ⟨xwt_808, rfl⟩, rfl, rfl, xwt_5, by decide +kernel, by decide +kernel, Nat.le_of_ble_eq_true rfl, _, Or.inl xwt_805, Or.inr ⟨xd_123_12, xwt_807, xws_77, ⟨_, _, _, rfl, rfl⟩, by decide +kernel⟩⟩
theorem xk_123_9 : xk_OkA xp_F (xp_P sc) xp_cl xp_BW xp_NW xp_SW xp_exn 123 9 (.ifCond .eq 12) := ⟨_, xd_123_15, by unfold xf_to; decide +kernel, rfl⟩
theorem xk_123_10 : xk_OkA xp_F (xp_P sc) xp_cl xp_BW xp_NW xp_SW xp_exn 123 10 (.iconst 2) := Or.inl ⟨xd_123_18, rfl⟩
theorem xk_123_11 : xk_OkA xp_F (xp_P sc) xp_cl xp_BW xp_NW xp_SW xp_exn 123 11 (.goto 13) := ⟨_, xd_123_19, by unfold xf_to; decide +kernel⟩
theorem xk_123_12 : xk_OkA xp_F (xp_P sc) xp_cl xp_BW xp_NW xp_SW xp_exn 123 12 (.iconst 1) := Or.inl ⟨xd_123_22, rfl⟩
theorem xk_123_13 : xk_OkA xp_F (xp_P sc) xp_cl xp_BW xp_NW xp_SW xp_exn 123 13 (.iadd) := ⟨xd_123_23, rfl⟩
theorem xk_123_14 : xk_OkA xp_F (xp_P sc) xp_cl xp_BW xp_NW xp_SW xp_exn 123 14 (.iastore) := ⟨xd_123_24, rfl⟩
theorem xk_123_15 : xk_OkA xp_F (xp_P sc) xp_cl xp_BW xp_NW xp_SW xp_exn 123 15 (.aload 0) := Or.inr ⟨0, rfl, xd_123_25, rfl⟩
theorem xk_123_16 : xk_OkA xp_F (xp_P sc) xp_cl xp_BW xp_NW xp_SW xp_exn 123 16 (.getfield 135) := ⟨_, xd_123_26, rfl, ⟨_, _, _, rfl, by decide, xu_4, Or.inl xwt_761⟩⟩
theorem xk_123_17 : xk_OkA xp_F (xp_P sc) xp_cl xp_BW xp_NW xp_SW xp_exn 123 17 (.iconst 50) := Or.inr (Or.inl ⟨xd_123_29, by decide +kernel, rfl⟩)
theorem xk_123_18 : xk_OkA xp_F (xp_P sc) xp_cl xp_BW xp_NW xp_SW xp_exn 123 18 (.aload 0) := Or.inr ⟨0, rfl, xd_123_31, rfl⟩
theorem xk_123_19 : xk_OkA xp_F (xp_P sc) xp_cl xp_BW xp_NW xp_SW xp_exn 123 19 (.getfield 135) := ⟨_, xd_123_32, rfl, ⟨_, _, _, rfl, by decide, xu_4, Or.inl xwt_761⟩⟩
theorem xk_123_20 : xk_OkA xp_F (xp_P sc) xp_cl xp_BW xp_NW xp_SW xp_exn 123 20 (.iconst 0) := Or.inl ⟨xd_123_35, rfl⟩
theorem xk_123_21 : xk_OkA xp_F (xp_P sc) xp_cl xp_BW xp_NW xp_SW xp_exn 123 21 (.iaload) := ⟨xd_123_36, rfl⟩
theorem xk_123_22 : xk_OkA xp_F (xp_P sc) xp_cl xp_BW xp_NW xp_SW xp_exn 123 22 (.iastore) := ⟨xd_123_37, rfl⟩
theorem xk_123_23 : xk_OkA xp_F (xp_P sc) xp_cl xp_BW xp_NW xp_SW xp_exn 123 23 (.aload 0) := Or.inr ⟨0, rfl, xd_123_38, rfl⟩
theorem xk_123_24 : xk_OkA xp_F (xp_P sc) xp_cl xp_BW xp_NW xp_SW xp_exn 123 24 (.getfield 135) := ⟨_, xd_123_39, rfl, ⟨_, _, _, rfl, by decide, xu_4, Or.inl xwt_761⟩⟩
theorem xk_123_25 : xk_OkA xp_F (xp_P sc) xp_cl xp_BW xp_NW xp_SW xp_exn 123 25 (.iconst 49) := Or.inr (Or.inl ⟨xd_123_42, by decide +kernel, rfl⟩)
theorem xk_123_26 : xk_OkA xp_F (xp_P sc) xp_cl xp_BW xp_NW xp_SW xp_exn 123 26 (.iconst 0) := Or.inl ⟨xd_123_44, rfl⟩
theorem xk_123_27 : xk_OkA xp_F (xp_P sc) xp_cl xp_BW xp_NW xp_SW xp_exn 123 27 (.iastore) := ⟨xd_123_45, rfl⟩
theorem xk_123_28 : xk_OkA xp_F (xp_P sc) xp_cl xp_BW xp_NW xp_SW xp_exn 123 28 (.iconst 0) := Or.inl ⟨xd_123_46, rfl⟩
theorem xk_123_29 : xk_OkA xp_F (xp_P sc) xp_cl xp_BW xp_NW xp_SW xp_exn 123 29 (.istore 1) := Or.inr ⟨1, rfl, xd_123_47, rfl⟩
theorem xk_123_30 : xk_OkA xp_F (xp_P sc) xp_cl xp_BW xp_NW xp_SW xp_exn 123 30 (.iload 1) := Or.inr ⟨1, rfl, xd_123_48, rfl⟩
theorem xk_123_31 : xk_OkA xp_F (xp_P sc) xp_cl xp_BW xp_NW xp_SW xp_exn 123 31 (.iconst 49) := Or.inr (Or.inl ⟨xd_123_49, by decide +kernel, rfl⟩)
theorem xk_123_32 : xk_OkA xp_F (xp_P sc) xp_cl xp_BW xp_NW xp_SW xp_exn 123 32 (.if_icmp .ge 52) := ⟨_, xd_123_51, by unfold xf_to; decide +kernel, rfl⟩
theorem xk_123_33 : xk_OkA xp_F (xp_P sc) xp_cl xp_BW xp_NW xp_SW xp_exn 123 33 (.aload 0) := Or.inr ⟨0, rfl, xd_123_54, rfl⟩
theorem xk_123_34 : xk_OkA xp_F (xp_P sc) xp_cl xp_BW xp_NW xp_SW xp_exn 123 34 (.getfield 135) := ⟨_, xd_123_55, rfl, ⟨_, _, _, rfl, by decide, xu_4, Or.inl xwt_761⟩⟩
theorem xk_123_35 : xk_OkA xp_F (xp_P sc) xp_cl xp_BW xp_NW xp_SW xp_exn 123 35 (.iconst 49) := Or.inr (Or.inl ⟨xd_123_58, by decide +kernel, rfl⟩)
theorem xk_123_36 : xk_OkA xp_F (xp_P sc) xp_cl xp_BW xp_NW xp_SW xp_exn 123 36 (.aload 0) := Or.inr ⟨0, rfl, xd_123_60, rfl⟩
theorem xk_123_37 : xk_OkA xp_F (xp_P sc) xp_cl xp_BW xp_NW xp_SW xp_exn 123 37 (.getfield 135) := ⟨_, xd_123_61, rfl, ⟨_, _, _, rfl, by decide, xu_4, Or.inl xwt_761⟩⟩
theorem xk_123_38 : xk_OkA xp_F (xp_P sc) xp_cl xp_BW xp_NW xp_SW xp_exn 123 38 (.iconst 49) := Or.inr (Or.inl ⟨xd_123_64, by decide +kernel, rfl⟩)
theorem xk_123_39 : xk_OkA xp_F (xp_P sc) xp_cl xp_BW xp_NW xp_SW xp_exn 123 39 (.iaload) := ⟨xd_123_66, rfl⟩
theorem xk_123_40 : xk_OkA xp_F (xp_P sc) xp_cl xp_BW xp_NW xp_SW xp_exn 123 40 (.aload 0) := Or.inr ⟨0, rfl, xd_123_67, rfl⟩
theorem xk_123_41 : xk_OkA xp_F (xp_P sc) xp_cl xp_BW xp_NW xp_SW xp_exn 123 41 (.getfield 135) := ⟨_, xd_123_68, rfl, ⟨_, _, _, rfl, by decide, xu_4, Or.inl xwt_761⟩⟩
theorem xk_123_42 : xk_OkA xp_F (xp_P sc) xp_cl xp_BW xp_NW xp_SW xp_exn 123 42 (.iload 1) := Or.inr ⟨1, rfl, xd_123_71, rfl⟩
theorem xk_123_43 : xk_OkA xp_F (xp_P sc) xp_cl xp_BW xp_NW xp_SW xp_exn 123 43 (.iaload) := ⟨xd_123_72, rfl⟩
theorem xk_123_44 : xk_OkA xp_F (xp_P sc) xp_cl xp_BW xp_NW xp_SW xp_exn 123 44 (.iload 1) := Or.inr ⟨1, rfl, xd_123_73, rfl⟩
theorem xk_123_45 : xk_OkA xp_F (xp_P sc) xp_cl xp_BW xp_NW xp_SW xp_exn 123 45 (.iconst 1) := Or.inl ⟨xd_123_74, rfl⟩
theorem xk_123_46 : xk_OkA xp_F (xp_P sc) xp_cl xp_BW xp_NW xp_SW xp_exn 123 46 (.iadd) := ⟨xd_123_75, rfl⟩
theorem xk_123_47 : xk_OkA xp_F (xp_P sc) xp_cl xp_BW xp_NW xp_SW xp_exn 123 47 (.imul) := ⟨xd_123_76, rfl⟩
theorem xk_123_48 : xk_OkA xp_F (xp_P sc) xp_cl xp_BW xp_NW xp_SW xp_exn 123 48 (.iadd) := ⟨xd_123_77, rfl⟩
theorem xk_123_49 : xk_OkA xp_F (xp_P sc) xp_cl xp_BW xp_NW xp_SW xp_exn 123 49 (.iastore) := ⟨xd_123_78, rfl⟩
theorem xk_123_50 : xk_OkA xp_F (xp_P sc) xp_cl xp_BW xp_NW xp_SW xp_exn 123 50 (.iinc 1 (1)) := ⟨xd_123_79, rfl⟩
theorem xk_123_51 : xk_OkA xp_F (xp_P sc) xp_cl xp_BW xp_NW xp_SW xp_exn 123 51 (.goto 30) := ⟨_, xd_123_82, by unfold xf_to; decide +kernel⟩
theorem xk_123_52 : xk_OkA xp_F (xp_P sc) xp_cl xp_BW xp_NW xp_SW xp_exn 123 52 (.iconst 0) := Or.inl ⟨xd_123_85, rfl⟩
theorem xk_123_53 : xk_OkA xp_F (xp_P sc) xp_cl xp_BW xp_NW xp_SW xp_exn 123 53 (.istore 1) := Or.inr ⟨1, rfl, xd_123_86, rfl⟩
theorem xk_123_54 : xk_OkA xp_F (xp_P sc) xp_cl xp_BW xp_NW xp_SW xp_exn 123 54 (.iload 1) := Or.inr ⟨1, rfl, xd_123_87, rfl⟩
theorem xk_123_55 : xk_OkA xp_F (xp_P sc) xp_cl xp_BW xp_NW xp_SW xp_exn 123 55 (.iconst 4) := Or.inl ⟨xd_123_88, rfl⟩
theorem xk_123_56 : xk_OkA xp_F (xp_P sc) xp_cl xp_BW xp_NW xp_SW xp_exn 123 56 (.if_icmp .ge 79) := ⟨_, xd_123_89, by unfold xf_to; decide +kernel, rfl⟩
theorem xk_123_57 : xk_OkA xp_F (xp_P sc) xp_cl xp_BW xp_NW xp_SW xp_exn 123 57 (.aload 0) := Or.inr ⟨0, rfl, xd_123_92, rfl⟩
theorem xk_123_58 : xk_OkA xp_F (xp_P sc) xp_cl xp_BW xp_NW xp_SW xp_exn 123 58 (.getfield 132) := ⟨_, xd_123_93, rfl, ⟨_, _, _, rfl, by decide, xu_4, Or.inl xwt_758⟩⟩
theorem xk_123_59 : xk_OkA xp_F (xp_P sc) xp_cl xp_BW xp_NW xp_SW xp_exn 123 59 (.ifCond .eq 79) := ⟨_, xd_123_96, by unfold xf_to; decide +kernel, rfl⟩
theorem xk_123_60 : xk_OkA xp_F (xp_P sc) xp_cl xp_BW xp_NW xp_SW xp_exn 123 60 (.aload 0) := Or.inr ⟨0, rfl, xd_123_99, rfl⟩
theorem xk_123_61 : xk_OkA xp_F (xp_P sc) xp_cl xp_BW xp_NW xp_SW xp_exn 123 61 (.getfield 135) := ⟨_, xd_123_100, rfl, ⟨_, _, _, rfl, by decide, xu_4, Or.inl xwt_761⟩⟩
theorem xk_123_62 : xk_OkA xp_F (xp_P sc) xp_cl xp_BW xp_NW xp_SW xp_exn 123 62 (.iconst 1) := Or.inl ⟨xd_123_103, rfl⟩
theorem xk_123_63 : xk_OkA xp_F (xp_P sc) xp_cl xp_BW xp_NW xp_SW xp_exn 123 63 (.iload 1) := Or.inr ⟨1, rfl, xd_123_104, rfl⟩
theorem xk_123_64 : xk_OkA xp_F (xp_P sc) xp_cl xp_BW xp_NW xp_SW xp_exn 123 64 (.iadd) := ⟨xd_123_105, rfl⟩
theorem xk_123_65 : xk_OkA xp_F (xp_P sc) xp_cl xp_BW xp_NW xp_SW xp_exn 123 65 (.iaload) := ⟨xd_123_106, rfl⟩
theorem xk_123_66 : xk_OkA xp_F (xp_P sc) xp_cl xp_BW xp_NW xp_SW xp_exn 123 66 (.ifCond .le 77) := ⟨_, xd_123_107, by unfold xf_to; decide +kernel, rfl⟩
theorem xk_123_67 : xk_OkA xp_F (xp_P sc) xp_cl xp_BW xp_NW xp_SW xp_exn 123 67 (.aload 0) := Or.inr ⟨0, rfl, xd_123_110, rfl⟩
theorem xk_123_68 : xk_OkA xp_F (xp_P sc) xp_cl xp_BW xp_NW xp_SW xp_exn 123 68 (.getfield 129) := ⟨_, xd_123_111, rfl, ⟨_, _, _, rfl, by decide, xu_4, Or.inl xwt_755⟩⟩
theorem xk_123_69 : xk_OkA xp_F (xp_P sc) xp_cl xp_BW xp_NW xp_SW xp_exn 123 69 (.iload 1) := Or.inr ⟨1, rfl, xd_123_114, rfl⟩
theorem xk_123_70 : xk_OkA xp_F (xp_P sc) xp_cl xp_BW xp_NW xp_SW xp_exn 123 70 (.baload) := ⟨xd_123_115, rfl⟩
theorem xk_123_71 : xk_OkA xp_F (xp_P sc) xp_cl xp_BW xp_NW xp_SW xp_exn 123 71 (.ifCond .eq 77) := ⟨_, xd_123_116, by unfold xf_to; decide +kernel, rfl⟩
theorem xk_123_72 : xk_OkA xp_F (xp_P sc) xp_cl xp_BW xp_NW xp_SW xp_exn 123 72 (.aload 0) := Or.inr ⟨0, rfl, xd_123_119, rfl⟩
theorem xk_123_73 : xk_OkA xp_F (xp_P sc) xp_cl xp_BW xp_NW xp_SW xp_exn 123 73 (.iload 1) := Or.inr ⟨1, rfl, xd_123_120, rfl⟩
theorem xk_123_74 : xk_OkA xp_F (xp_P sc) xp_cl xp_BW xp_NW xp_SW xp_exn 123 74 (.aload 0) := Or.inr ⟨0, rfl, xd_123_121, rfl⟩
theorem xk_123_75 : xk_OkA xp_F (xp_P sc) xp_cl xp_BW xp_NW xp_SW xp_exn 123 75 (.getfield 135) := ⟨_, xd_123_122, rfl, ⟨_, _, _, rfl, by decide, xu_4, Or.inl xwt_761⟩⟩
theorem xk_123_76 : xk_OkA xp_F (xp_P sc) xp_cl xp_BW xp_NW xp_SW xp_exn 123 76 (.invokeinterface 122 3) := ⟨rfl, Or.inl ⟨xwt_820, rfl⟩, rfl, rfl, xwt_5, by decide +kernel, by decide +kernel, Nat.le_of_ble_eq_true rfl, _, Or.inl xwt_817, Or.inr ⟨xd_123_125, xwt_819, xws_80, ⟨_, _, _, rfl, rfl⟩, by decide +kernel⟩⟩
theorem xk_123_77 : xk_OkA xp_F (xp_P sc) xp_cl xp_BW xp_NW xp_SW xp_exn 123 77 (.iinc 1 (1)) := ⟨xd_123_128, rfl⟩
theorem xk_123_78 : xk_OkA xp_F (xp_P sc) xp_cl xp_BW xp_NW xp_SW xp_exn 123 78 (.goto 54) := ⟨_, xd_123_131, by unfold xf_to; decide +kernel⟩
theorem xk_123_79 : xk_OkA xp_F (xp_P sc) xp_cl xp_BW xp_NW xp_SW xp_exn 123 79 (.aload 0) := Or.inr ⟨0, rfl, xd_123_134, rfl⟩
theorem xk_123_80 : xk_OkA xp_F (xp_P sc) xp_cl xp_BW xp_NW xp_SW xp_exn 123 80 (.getfield 132) := ⟨_, xd_123_135, rfl, ⟨_, _, _, rfl, by decide, xu_4, Or.inl xwt_758⟩⟩
theorem xk_123_81 : xk_OkA xp_F (xp_P sc) xp_cl xp_BW xp_NW xp_SW xp_exn 123 81 (.ifCond .ne 83) := ⟨_, xd_123_138, by unfold xf_to; decide +kernel, rfl⟩
theorem xk_123_82 : xk_OkA xp_F (xp_P sc) xp_cl xp_BW xp_NW xp_SW xp_exn 123 82 (.return_) := ⟨xd_123_141, rfl⟩
theorem xk_123_83 : xk_OkA xp_F (xp_P sc) xp_cl xp_BW xp_NW xp_SW xp_exn 123 83 (.iconst 9) := Or.inr (Or.inl ⟨xd_123_142, by decide +kernel, rfl⟩)
theorem xk_123_84 : xk_OkA xp_F (xp_P sc) xp_cl xp_BW xp_NW xp_SW xp_exn 123 84 (.iconst 10) := Or.inr (Or.inl ⟨xd_123_144, by decide +kernel, rfl⟩)
theorem xk_123_85 : xk_OkA xp_F (xp_P sc) xp_cl xp_BW xp_NW xp_SW xp_exn 123 85 (.aload 0) := Or.inr ⟨0, rfl, xd_123_146, rfl⟩
theorem xk_123_86 : xk_OkA xp_F (xp_P sc) xp_cl xp_BW xp_NW xp_SW xp_exn 123 86 (.getfield 137) := ⟨_, xd_123_147, rfl, ⟨_, _, _, rfl, by decide, xu_4, Or.inl xwt_763⟩⟩
theorem xk_123_87 : xk_OkA xp_F (xp_P sc) xp_cl xp_BW xp_NW xp_SW xp_exn 123 87 (.imul) := ⟨xd_123_150, rfl⟩
theorem xk_123_88 : xk_OkA xp_F (xp_P sc) xp_cl xp_BW xp_NW xp_SW xp_exn 123 88 (.iadd) := ⟨xd_123_151, rfl⟩
theorem xk_123_89 : xk_OkA xp_F (xp_P sc) xp_cl xp_BW xp_NW xp_SW xp_exn 123 89 (.aload 0) := Or.inr ⟨0, rfl, xd_123_152, rfl⟩
theorem xk_123_90 : xk_OkA xp_F (xp_P sc) xp_cl xp_BW xp_NW xp_SW xp_exn 123 90 (.getfield 138) := ⟨_, xd_123_153, rfl, ⟨_, _, _, rfl, by decide, xu_4, Or.inl xwt_764⟩⟩
theorem xk_123_91 : xk_OkA xp_F (xp_P sc) xp_cl xp_BW xp_NW xp_SW xp_exn 123 91 (.iadd) := ⟨xd_123_156, rfl⟩
theorem xk_123_92 : xk_OkA xp_F (xp_P sc) xp_cl xp_BW xp_NW xp_SW xp_exn 123 92 (.istore 1) := Or.inr ⟨1, rfl, xd_123_157, rfl⟩
theorem xk_123_93 : xk_OkA xp_F (xp_P sc) xp_cl xp_BW xp_NW xp_SW xp_exn 123 93 (.aload 0) := Or.inr ⟨0, rfl, xd_123_158, rfl⟩
theorem xk_123_94 : xk_OkA xp_F (xp_P sc) xp_cl xp_BW xp_NW xp_SW xp_exn 123 94 (.aload 0) := Or.inr ⟨0, rfl, xd_123_159, rfl⟩
theorem xk_123_95 : xk_OkA xp_F (xp_P sc) xp_cl xp_BW xp_NW xp_SW xp_exn 123 95 (.getfield 139) := ⟨_, xd_123_160, rfl, ⟨_, _, _, rfl, by decide, xu_4, Or.inl xwt_765⟩⟩
theorem xk_123_96 : xk_OkA xp_F (xp_P sc) xp_cl xp_BW xp_NW xp_SW xp_exn 123 96 (.ifCond .le 108) := ⟨_, xd_123_163, by unfold xf_to; decide +kernel, rfl⟩
theorem xk_123_97 : xk_OkA xp_F (xp_P sc) xp_cl xp_BW xp_NW xp_SW xp_exn 123 97 (.aload 0) := Or.inr ⟨0, rfl, xd_123_166, rfl⟩
theorem xk_123_98 : xk_OkA xp_F (xp_P sc) xp_cl xp_BW xp_NW xp_SW xp_exn 123 98 (.getfield 135) := ⟨_, xd_123_167, rfl, ⟨_, _, _, rfl, by decide, xu_4, Or.inl xwt_761⟩⟩
theorem xk_123_99 : xk_OkA xp_F (xp_P sc) xp_cl xp_BW xp_NW xp_SW xp_exn 123 99 (.iload 1) := Or.inr ⟨1, rfl, xd_123_170, rfl⟩
theorem xk_123_100 : xk_OkA xp_F (xp_P sc) xp_cl xp_BW xp_NW xp_SW xp_exn 123 100 (.iaload) := ⟨xd_123_171, rfl⟩
theorem xk_123_101 : xk_OkA xp_F (xp_P sc) xp_cl xp_BW xp_NW xp_SW xp_exn 123 101 (.aload 0) := Or.inr ⟨0, rfl, xd_123_172, rfl⟩
theorem xk_123_102 : xk_OkA xp_F (xp_P sc) xp_cl xp_BW xp_NW xp_SW xp_exn 123 102 (.getfield 134) := ⟨_, xd_123_173, rfl, ⟨_, _, _, rfl, by decide, xu_4, Or.inl xwt_760⟩⟩
theorem xk_123_103 : xk_OkA xp_F (xp_P sc) xp_cl xp_BW xp_NW xp_SW xp_exn 123 103 (.iload 1) := Or.inr ⟨1, rfl, xd_123_176, rfl⟩
theorem xk_123_104 : xk_OkA xp_F (xp_P sc) xp_cl xp_BW xp_NW xp_SW xp_exn 123 104 (.iaload) := ⟨xd_123_177, rfl⟩
theorem xk_123_105 : xk_OkA xp_F (xp_P sc) xp_cl xp_BW xp_NW xp_SW xp_exn 123 105 (.if_icmp .eq 108) := ⟨_, xd_123_178, by unfold xf_to; decide +kernel, rfl⟩
theorem xk_123_106 : xk_OkA xp_F (xp_P sc) xp_cl xp_BW xp_NW xp_SW xp_exn 123 106 (.iconst 0) := Or.inl ⟨xd_123_181, rfl⟩
theorem xk_123_107 : xk_OkA xp_F (xp_P sc) xp_cl xp_BW xp_NW xp_SW xp_exn 123 107 (.goto 110) := ⟨_, xd_123_182, by unfold xf_to; decide +kernel⟩
theorem xk_123_108 : xk_OkA xp_F (xp_P sc) xp_cl xp_BW xp_NW xp_SW xp_exn 123 108 (.aload 0) := Or.inr ⟨0, rfl, xd_123_185, rfl⟩
theorem xk_123_109 : xk_OkA xp_F (xp_P sc) xp_cl xp_BW xp_NW xp_SW xp_exn 123 109 (.getfield 139) := ⟨_, xd_123_186, rfl, ⟨_, _, _, rfl, by decide, xu_4, Or.inl xwt_765⟩⟩
theorem xk_123_110 : xk_OkA xp_F (xp_P sc) xp_cl xp_BW xp_NW xp_SW xp_exn 123 110 (.putfield 139) := ⟨_, xd_123_189, rfl, ⟨_, _, _, rfl, by decide, xu_4, Or.inl xwt_765⟩, xf_4_11⟩
theorem xk_123_111 : xk_OkA xp_F (xp_P sc) xp_cl xp_BW xp_NW xp_SW xp_exn 123 111 (.iconst 0) := Or.inl ⟨xd_123_192, rfl⟩
theorem xk_123_112 : xk_OkA xp_F (xp_P sc) xp_cl xp_BW xp_NW xp_SW xp_exn 123 112 (.istore 2) := Or.inr ⟨2, rfl, xd_123_193, rfl⟩
theorem xk_123_113 : xk_OkA xp_F (xp_P sc) xp_cl xp_BW xp_NW xp_SW xp_exn 123 113 (.iload 2) := Or.inr ⟨2, rfl, xd_123_194, rfl⟩
theorem xk_123_114 : xk_OkA xp_F (xp_P sc) xp_cl xp_BW xp_NW xp_SW xp_exn 123 114 (.iconst 51) := Or.inr (Or.inl ⟨xd_123_195, by decide +kernel, rfl⟩)
theorem xk_123_115 : xk_OkA xp_F (xp_P sc) xp_cl xp_BW xp_NW xp_SW xp_exn 123 115 (.if_icmp .ge 126) := ⟨_, xd_123_197, by unfold xf_to; decide +kernel, rfl⟩
theorem xk_123_116 : xk_OkA xp_F (xp_P sc) xp_cl xp_BW xp_NW xp_SW xp_exn 123 116 (.aload 0) := Or.inr ⟨0, rfl, xd_123_200, rfl⟩
theorem xk_123_117 : xk_OkA xp_F (xp_P sc) xp_cl xp_BW xp_NW xp_SW xp_exn 123 117 (.getfield 134) := ⟨_, xd_123_201, rfl, ⟨_, _, _, rfl, by decide, xu_4, Or.inl xwt_760⟩⟩
theorem xk_123_118 : xk_OkA xp_F (xp_P sc) xp_cl xp_BW xp_NW xp_SW xp_exn 123 118 (.iload 2) := Or.inr ⟨2, rfl, xd_123_204, rfl⟩
theorem xk_123_119 : xk_OkA xp_F (xp_P sc) xp_cl xp_BW xp_NW xp_SW xp_exn 123 119 (.aload 0) := Or.inr ⟨0, rfl, xd_123_205, rfl⟩
theorem xk_123_120 : xk_OkA xp_F (xp_P sc) xp_cl xp_BW xp_NW xp_SW xp_exn 123 120 (.getfield 135) := ⟨_, xd_123_206, rfl, ⟨_, _, _, rfl, by decide, xu_4, Or.inl xwt_761⟩⟩
theorem xk_123_121 : xk_OkA xp_F (xp_P sc) xp_cl xp_BW xp_NW xp_SW xp_exn 123 121 (.iload 2) := Or.inr ⟨2, rfl, xd_123_209, rfl⟩
theorem xk_123_122 : xk_OkA xp_F (xp_P sc) xp_cl xp_BW xp_NW xp_SW xp_exn 123 122 (.iaload) := ⟨xd_123_210, rfl⟩
theorem xk_123_123 : xk_OkA xp_F (xp_P sc) xp_cl xp_BW xp_NW xp_SW xp_exn 123 123 (.iastore) := ⟨xd_123_211, rfl⟩
theorem xk_123_124 : xk_OkA xp_F (xp_P sc) xp_cl xp_BW xp_NW xp_SW xp_exn 123 124 (.iinc 2 (1)) := ⟨xd_123_212, rfl⟩
theorem xk_123_125 : xk_OkA xp_F (xp_P sc) xp_cl xp_BW xp_NW xp_SW xp_exn 123 125 (.goto 113) := ⟨_, xd_123_215, by unfold xf_to; decide +kernel⟩
theorem xk_123_126 : xk_OkA xp_F (xp_P sc) xp_cl xp_BW xp_NW xp_SW xp_exn 123 126 (.return_) := ⟨xd_123_218, rfl⟩
theorem xl_123 : xk_OkL xp_F (xp_P sc) xp_cl xp_BW xp_NW xp_SW xp_exn 123 0 xc_123 := ⟨xk_123_0, xk_123_1, xk_123_2, xk_123_3, xk_123_4, xk_123_5, xk_123_6, xk_123_7, xk_123_8, xk_123_9, xk_123_10, xk_123_11, xk_123_12, xk_123_13, xk_123_14, xk_123_15, xk_123_16, xk_123_17, xk_123_18, xk_123_19, xk_123_20, xk_123_21, xk_123_22, xk_123_23, xk_123_24, xk_123_25, xk_123_26, xk_123_27, xk_123_28, xk_123_29, xk_123_30, xk_123_31, xk_123_32, xk_123_33, xk_123_34, xk_123_35, xk_123_36, xk_123_37, xk_123_38, xk_123_39, xk_123_40, xk_123_41, xk_123_42, xk_123_43, xk_123_44, xk_123_45, xk_123_46, xk_123_47, xk_123_48, xk_123_49, xk_123_50, xk_123_51, xk_123_52, xk_123_53, xk_123_54, xk_123_55, xk_123_56, xk_123_57, xk_123_58, xk_123_59, xk_123_60, xk_123_61, xk_123_62, xk_123_63, xk_123_64, xk_123_65, xk_123_66, xk_123_67, xk_123_68, xk_123_69, xk_123_70, xk_123_71, xk_123_72, xk_123_73, xk_123_74, xk_123_75, xk_123_76, xk_123_77, xk_123_78, xk_123_79, xk_123_80, xk_123_81, xk_123_82, xk_123_83, xk_123_84, xk_123_85, xk_123_86, xk_123_87, xk_123_88, xk_123_89, xk_123_90, xk_123_91, xk_123_92, xk_123_93, xk_123_94, xk_123_95, xk_123_96, xk_123_97, xk_123_98, xk_123_99, xk_123_100, xk_123_101, xk_123_102, xk_123_103, xk_123_104, xk_123_105, xk_123_106, xk_123_107, xk_123_108, xk_123_109, xk_123_110, xk_123_111, xk_123_112, xk_123_113, xk_123_114, xk_123_115, xk_123_116, xk_123_117, xk_123_118, xk_123_119, xk_123_120, xk_123_121, xk_123_122, xk_123_123, xk_123_124, xk_123_125, xk_123_126, trivial⟩
theorem xd_124_0 : decode prog_6_method_19_code 0 = .ok (.aload_n 0, 1) := by decide +kernel
theorem xd_124_1 : decode prog_6_method_19_code 1 = .ok (.aload_n 0, 1) := by decide +kernel
theorem xd_124_2 : decode prog_6_method_19_code 2 = .ok (.getfield 20, 3) := by decide +kernel
theorem xd_124_5 : decode prog_6_method_19_code 5 = .ok (.ifCond .eq 7, 3) := by decide +kernel
theorem xd_124_8 : decode prog_6_method_19_code 8 = .ok (.iconst 0, 1) := by decide +kernel
theorem xd_124_9 : decode prog_6_method_19_code 9 = .ok (.goto 4, 3) := by decide +kernel
theorem xd_124_12 : decode prog_6_method_19_code 12 = .ok (.iconst 1, 1) := by decide +kernel
theorem xd_124_13 : decode prog_6_method_19_code 13 = .ok (.putfield 37, 3) := by decide +kernel
theorem xd_124_16 : decode prog_6_method_19_code 16 = .ok (.aload_n 0, 1) := by decide +kernel
theorem xd_124_17 : decode prog_6_method_19_code 17 = .ok (.getfield 20, 3) := by decide +kernel
theorem xd_124_20 : decode prog_6_method_19_code 20 = .ok (.ifCond .eq 7, 3) := by decide +kernel
theorem xd_124_23 : decode prog_6_method_19_code 23 = .ok (.iload_n 1, 1) := by decide +kernel
theorem xd_124_24 : decode prog_6_method_19_code 24 = .ok (.goto 4, 3) := by decide +kernel
theorem xd_124_27 : decode prog_6_method_19_code 27 = .ok (.iconst 0, 1) := by decide +kernel
theorem xd_124_28 : decode prog_6_method_19_code 28 = .ok (.ireturn, 1) := by decide +kernel
theorem xk_124_0 : xk_OkA xp_F (xp_P sc) xp_cl xp_BW xp_NW xp_SW xp_exn 124 0 (.aload 0) := Or.inr ⟨0, rfl, xd_124_0, rfl⟩
theorem xk_124_1 : xk_OkA xp_F (xp_P sc) xp_cl xp_BW xp_NW xp_SW xp_exn 124 1 (.aload 0) := Or.inr ⟨0, rfl, xd_124_1, rfl⟩
theorem xk_124_2 : xk_OkA xp_F (xp_P sc) xp_cl xp_BW xp_NW xp_SW xp_exn 124 2 (.getfield 132) := ⟨_, xd_124_2, rfl, ⟨_, _, _, rfl, by decide, xu_4, Or.inl xwt_758⟩⟩
theorem xk_124_3 : xk_OkA xp_F (xp_P sc) xp_cl xp_BW xp_NW xp_SW xp_exn 124 3 (.ifCond .eq 6) := ⟨_, xd_124_5, by unfold xf_to; decide +kernel, rfl⟩
theorem xk_124_4 : xk_OkA xp_F (xp_P sc) xp_cl xp_BW xp_NW xp_SW xp_exn 124 4 (.iconst 0) := Or.inl ⟨xd_124_8, rfl⟩
theorem xk_124_5 : xk_OkA xp_F (xp_P sc) xp_cl xp_BW xp_NW xp_SW xp_exn 124 5 (.goto 7) := ⟨_, xd_124_9, by unfold xf_to; decide +kernel⟩
theorem xk_124_6 : xk_OkA xp_F (xp_P sc) xp_cl xp_BW xp_NW xp_SW xp_exn 124 6 (.iconst 1) := Or.inl ⟨xd_124_12, rfl⟩
theorem xk_124_7 : xk_OkA xp_F (xp_P sc) xp_cl xp_BW xp_NW xp_SW xp_exn 124 7 (.putfield 128) := ⟨_, xd_124_13, rfl, ⟨_, _, _, rfl, by decide, xu_4, Or.inl xwt_754⟩, xf_4_0⟩
theorem xk_124_8 : xk_OkA xp_F (xp_P sc) xp_cl xp_BW xp_NW xp_SW xp_exn 124 8 (.aload 0) := Or.inr ⟨0, rfl, xd_124_16, rfl⟩
theorem xk_124_9 : xk_OkA xp_F (xp_P sc) xp_cl xp_BW xp_NW xp_SW xp_exn 124 9 (.getfield 132) := ⟨_, xd_124_17, rfl, ⟨_, _, _, rfl, by decide, xu_4, Or.inl xwt_758⟩⟩
theorem xk_124_10 : xk_OkA xp_F (xp_P sc) xp_cl xp_BW xp_NW xp_SW xp_exn 124 10 (.ifCond .eq 13) := ⟨_, xd_124_20, by unfold xf_to; decide +kernel, rfl⟩
theorem xk_124_11 : xk_OkA xp_F (xp_P sc) xp_cl xp_BW xp_NW xp_SW xp_exn 124 11 (.iload 1) := Or.inr ⟨1, rfl, xd_124_23, rfl⟩
theorem xk_124_12 : xk_OkA xp_F (xp_P sc) xp_cl xp_BW xp_NW xp_SW xp_exn 124 12 (.goto 14) := ⟨_, xd_124_24, by unfold xf_to; decide +kernel⟩
theorem xk_124_13 : xk_OkA xp_F (xp_P sc) xp_cl xp_BW xp_NW xp_SW xp_exn 124 13 (.iconst 0) := Or.inl ⟨xd_124_27, rfl⟩
theorem xk_124_14 : xk_OkA xp_F (xp_P sc) xp_cl xp_BW xp_NW xp_SW xp_exn 124 14 (.ireturn) := ⟨xd_124_28, rfl⟩
theorem xl_124 : xk_OkL xp_F (xp_P sc) xp_cl xp_BW xp_NW xp_SW xp_exn 124 0 xc_124 := ⟨xk_124_0, xk_124_1, xk_124_2, xk_124_3, xk_124_4, xk_124_5, xk_124_6, xk_124_7, xk_124_8, xk_124_9, xk_124_10, xk_124_11, xk_124_12, xk_124_13, xk_124_14, trivial⟩
theorem xd_125_0 : decode prog_6_method_20_code 0 = .ok (.aload_n 1, 1) := by decide +kernel
theorem xd_125_1 : decode prog_6_method_20_code 1 = .ok (.iload_n 2, 1) := by decide +kernel
theorem xd_125_2 : decode prog_6_method_20_code 2 = .ok (.invokestatic 68, 3) := by decide +kernel
theorem xd_125_5 : decode prog_6_method_20_code 5 = .ok (.ifCond .ne 22, 3) := by decide +kernel
theorem xd_125_8 : decode prog_6_method_20_code 8 = .ok (.aload_n 0, 1) := by decide +kernel
theorem xd_125_9 : decode prog_6_method_20_code 9 = .ok (.getfield 34, 3) := by decide +kernel
theorem xd_125_12 : decode prog_6_method_20_code 12 = .ok (.ifCond .lt 11, 3) := by decide +kernel
theorem xd_125_15 : decode prog_6_method_20_code 15 = .ok (.aload_n 0, 1) := by decide +kernel
theorem xd_125_16 : decode prog_6_method_20_code 16 = .ok (.getfield 65, 3) := by decide +kernel
theorem xd_125_19 : decode prog_6_method_20_code 19 = .ok (.iload_n 2, 1) := by decide +kernel
theorem xd_125_20 : decode prog_6_method_20_code 20 = .ok (.if_icmp .eq 7, 3) := by decide +kernel
theorem xd_125_23 : decode prog_6_method_20_code 23 = .ok (.iconst 1, 1) := by decide +kernel
theorem xd_125_24 : decode prog_6_method_20_code 24 = .ok (.goto 4, 3) := by decide +kernel
theorem xd_125_27 : decode prog_6_method_20_code 27 = .ok (.iconst 0, 1) := by decide +kernel
theorem xd_125_28 : decode prog_6_method_20_code 28 = .ok (.ireturn, 1) := by decide +kernel
theorem xk_125_0 : xk_OkA xp_F (xp_P sc) xp_cl xp_BW xp_NW xp_SW xp_exn 125 0 (.aload 1) := Or.inr ⟨1, rfl, xd_125_0, rfl⟩
theorem xk_125_1 : xk_OkA xp_F (xp_P sc) xp_cl xp_BW xp_NW xp_SW xp_exn 125 1 (.iload 2) := Or.inr ⟨2, rfl, xd_125_1, rfl⟩
theorem xk_125_2 : xk_OkA xp_F (xp_P sc) xp_cl xp_BW xp_NW xp_SW xp_exn 125 2 (.invokeinterface 116 2) := ⟨rfl, Or.inl ⟨xwt_894, rfl⟩, rfl, rfl, xwt_5, by decide +kernel, by decide +kernel, Nat.le_of_ble_eq_true rfl, _, Or.inl xwt_892, Or.inl ⟨xd_125_2, xwt_893, rfl, by decide +kernel⟩⟩
theorem xk_125_3 : xk_OkA xp_F (xp_P sc) xp_cl xp_BW xp_NW xp_SW xp_exn 125 3 (.ifCond .ne 13) := ⟨_, xd_125_5, by unfold xf_to; decide +kernel, rfl⟩
theorem xk_125_4 : xk_OkA xp_F (xp_P sc) xp_cl xp_BW xp_NW xp_SW xp_exn 125 4 (.aload 0) := Or.inr ⟨0, rfl, xd_125_8, rfl⟩
theorem xk_125_5 : xk_OkA xp_F (xp_P sc) xp_cl xp_BW xp_NW xp_SW xp_exn 125 5 (.getfield 136) := ⟨_, xd_125_9, rfl, ⟨_, _, _, rfl, by decide, xu_4, Or.inl xwt_762⟩⟩
theorem xk_125_6 : xk_OkA xp_F (xp_P sc) xp_cl xp_BW xp_NW xp_SW xp_exn 125 6 (.ifCond .lt 11) := ⟨_, xd_125_12, by unfold xf_to; decide +kernel, rfl⟩
theorem xk_125_7 : xk_OkA xp_F (xp_P sc) xp_cl xp_BW xp_NW xp_SW xp_exn 125 7 (.aload 0) := Or.inr ⟨0, rfl, xd_125_15, rfl⟩
theorem xk_125_8 : xk_OkA xp_F (xp_P sc) xp_cl xp_BW xp_NW xp_SW xp_exn 125 8 (.getfield 139) := ⟨_, xd_125_16, rfl, ⟨_, _, _, rfl, by decide, xu_4, Or.inl xwt_765⟩⟩
theorem xk_125_9 : xk_OkA xp_F (xp_P sc) xp_cl xp_BW xp_NW xp_SW xp_exn 125 9 (.iload 2) := Or.inr ⟨2, rfl, xd_125_19, rfl⟩
theorem xk_125_10 : xk_OkA xp_F (xp_P sc) xp_cl xp_BW xp_NW xp_SW xp_exn 125 10 (.if_icmp .eq 13) := ⟨_, xd_125_20, by unfold xf_to; decide +kernel, rfl⟩
theorem xk_125_11 : xk_OkA xp_F (xp_P sc) xp_cl xp_BW xp_NW xp_SW xp_exn 125 11 (.iconst 1) := Or.inl ⟨xd_125_23, rfl⟩
theorem xk_125_12 : xk_OkA xp_F (xp_P sc) xp_cl xp_BW xp_NW xp_SW xp_exn 125 12 (.goto 14) := ⟨_, xd_125_24, by unfold xf_to; decide +kernel⟩
theorem xk_125_13 : xk_OkA xp_F (xp_P sc) xp_cl xp_BW xp_NW xp_SW xp_exn 125 13 (.iconst 0) := Or.inl ⟨xd_125_27, rfl⟩
theorem xk_125_14 : xk_OkA xp_F (xp_P sc) xp_cl xp_BW xp_NW xp_SW xp_exn 125 14 (.freturn) := ⟨xd_125_28, rfl⟩
theorem xl_125 : xk_OkL xp_F (xp_P sc) xp_cl xp_BW xp_NW xp_SW xp_exn 125 0 xc_125 := ⟨xk_125_0, xk_125_1, xk_125_2, xk_125_3, xk_125_4, xk_125_5, xk_125_6, xk_125_7, xk_125_8, xk_125_9, xk_125_10, xk_125_11, xk_125_12, xk_125_13, xk_125_14, trivial⟩
theorem xd_126_0 : decode prog_6_method_21_code 0 = .ok (.iconst 0, 1) := by decide +kernel
theorem xd_126_1 : decode prog_6_method_21_code 1 = .ok (.istore_n 3, 1) := by decide +kernel
theorem xd_126_2 : decode prog_6_method_21_code 2 = .ok (.iconst 0, 1) := by decide +kernel
theorem xd_126_3 : decode prog_6_method_21_code 3 = .ok (.istore 4, 2) := by decide +kernel
theorem xd_126_5 : decode prog_6_method_21_code 5 = .ok (.iload 4, 2) := by decide +kernel
theorem xd_126_7 : decode prog_6_method_21_code 7 = .ok (.aload_n 1, 1) := by decide +kernel
theorem xd_126_8 : decode prog_6_method_21_code 8 = .ok (.iconst 1, 1) := by decide +kernel
theorem xd_126_9 : decode prog_6_method_21_code 9 = .ok (.iload_n 2, 1) := by decide +kernel
theorem xd_126_10 : decode prog_6_method_21_code 10 = .ok (.iadd, 1) := by decide +kernel
theorem xd_126_11 : decode prog_6_method_21_code 11 = .ok (.iaload, 1) := by decide +kernel
theorem xd_126_12 : decode prog_6_method_21_code 12 = .ok (.if_icmp .ge 34, 3) := by decide +kernel
theorem xd_126_15 : decode prog_6_method_21_code 15 = .ok (.aload_n 0, 1) := by decide +kernel
theorem xd_126_16 : decode prog_6_method_21_code 16 = .ok (.aload_n 1, 1) := by decide +kernel
theorem xd_126_17 : decode prog_6_method_21_code 17 = .ok (.iconst 1, 1) := by decide +kernel
theorem xd_126_18 : decode prog_6_method_21_code 18 = .ok (.bipush 8, 2) := by decide +kernel
theorem xd_126_20 : decode prog_6_method_21_code 20 = .ok (.iload_n 2, 1) := by decide +kernel
theorem xd_126_21 : decode prog_6_method_21_code 21 = .ok (.imul, 1) := by decide +kernel
theorem xd_126_22 : decode prog_6_method_21_code 22 = .ok (.iadd, 1) := by decide +kernel
theorem xd_126_23 : decode prog_6_method_21_code 23 = .ok (.iload 4, 2) := by decide +kernel
theorem xd_126_25 : decode prog_6_method_21_code 25 = .ok (.iadd, 1) := by decide +kernel
theorem xd_126_26 : decode prog_6_method_21_code 26 = .ok (.invokevirtual 72, 3) := by decide +kernel
theorem xd_126_29 : decode prog_6_method_21_code 29 = .ok (.ifCond .eq 9, 3) := by decide +kernel
theorem xd_126_32 : decode prog_6_method_21_code 32 = .ok (.iload_n 3, 1) := by decide +kernel
theorem xd_126_33 : decode prog_6_method_21_code 33 = .ok (.iconst 1, 1) := by decide +kernel
theorem xd_126_34 : decode prog_6_method_21_code 34 = .ok (.iadd, 1) := by decide +kernel
theorem xd_126_35 : decode prog_6_method_21_code 35 = .ok (.goto 4, 3) := by decide +kernel
theorem xd_126_38 : decode prog_6_method_21_code 38 = .ok (.iload_n 3, 1) := by decide +kernel
theorem xd_126_39 : decode prog_6_method_21_code 39 = .ok (.istore_n 3, 1) := by decide +kernel
theorem xd_126_40 : decode prog_6_method_21_code 40 = .ok (.iinc 4 (1), 3) := by decide +kernel
theorem xd_126_43 : decode prog_6_method_21_code 43 = .ok (.goto (-38), 3) := by decide +kernel
theorem xd_126_46 : decode prog_6_method_21_code 46 = .ok (.iload_n 3, 1) := by decide +kernel
theorem xd_126_47 : decode prog_6_method_21_code 47 = .ok (.ireturn, 1) := by decide +kernel
theorem xk_126_0 : xk_OkA xp_F (xp_P sc) xp_cl xp_BW xp_NW xp_SW xp_exn 126 0 (.iconst 0) := Or.inl ⟨xd_126_0, rfl⟩
theorem xk_126_1 : xk_OkA xp_F (xp_P sc) xp_cl xp_BW xp_NW xp_SW xp_exn 126 1 (.istore 3) := Or.inr ⟨3, rfl, xd_126_1, rfl⟩
theorem xk_126_2 : xk_OkA xp_F (xp_P sc) xp_cl xp_BW xp_NW xp_SW xp_exn 126 2 (.iconst 0) := Or.inl ⟨xd_126_2, rfl⟩
theorem xk_126_3 : xk_OkA xp_F (xp_P sc) xp_cl xp_BW xp_NW xp_SW xp_exn 126 3 (.istore 4) := Or.inl ⟨xd_126_3, rfl⟩
theorem xk_126_4 : xk_OkA xp_F (xp_P sc) xp_cl xp_BW xp_NW xp_SW xp_exn 126 4 (.iload 4) := Or.inl ⟨xd_126_5, rfl⟩
theorem xk_126_5 : xk_OkA xp_F (xp_P sc) xp_cl xp_BW xp_NW xp_SW xp_exn 126 5 (.aload 1) := Or.inr ⟨1, rfl, xd_126_7, rfl⟩
theorem xk_126_6 : xk_OkA xp_F (xp_P sc) xp_cl xp_BW xp_NW xp_SW xp_exn 126 6 (.iconst 1) := Or.inl ⟨xd_126_8, rfl⟩
theorem xk_126_7 : xk_OkA xp_F (xp_P sc) xp_cl xp_BW xp_NW xp_SW xp_exn 126 7 (.iload 2) := Or.inr ⟨2, rfl, xd_126_9, rfl⟩
theorem xk_126_8 : xk_OkA xp_F (xp_P sc) xp_cl xp_BW xp_NW xp_SW xp_exn 126 8 (.iadd) := ⟨xd_126_10, rfl⟩
theorem xk_126_9 : xk_OkA xp_F (xp_P sc) xp_cl xp_BW xp_NW xp_SW xp_exn 126 9 (.iaload) := ⟨xd_126_11, rfl⟩
theorem xk_126_10 : xk_OkA xp_F (xp_P sc) xp_cl xp_BW xp_NW xp_SW xp_exn 126 10 (.if_icmp .ge 30) := ⟨_, xd_126_12, by unfold xf_to; decide +kernel, rfl⟩
theorem xk_126_11 : xk_OkA xp_F (xp_P sc) xp_cl xp_BW xp_NW xp_SW xp_exn 126 11 (.aload 0) := Or.inr ⟨0, rfl, xd_126_15, rfl⟩
theorem xk_126_12 : xk_OkA xp_F (xp_P sc) xp_cl xp_BW xp_NW xp_SW xp_exn 126 12 (.aload 1) := Or.inr ⟨1, rfl, xd_126_16, rfl⟩
theorem xk_126_13 : xk_OkA xp_F (xp_P sc) xp_cl xp_BW xp_NW xp_SW xp_exn 126 13 (.iconst 1) := Or.inl ⟨xd_126_17, rfl⟩
theorem xk_126_14 : xk_OkA xp_F (xp_P sc) xp_cl xp_BW xp_NW xp_SW xp_exn 126 14 (.iconst 8) := Or.inr (Or.inl ⟨xd_126_18, by decide +kernel, rfl⟩)
theorem xk_126_15 : xk_OkA xp_F (xp_P sc) xp_cl xp_BW xp_NW xp_SW xp_exn 126 15 (.iload 2) := Or.inr ⟨2, rfl, xd_126_20, rfl⟩
theorem xk_126_16 : xk_OkA xp_F (xp_P sc) xp_cl xp_BW xp_NW xp_SW xp_exn 126 16 (.imul) := ⟨xd_126_21, rfl⟩
theorem xk_126_17 : xk_OkA xp_F (xp_P sc) xp_cl xp_BW xp_NW xp_SW xp_exn 126 17 (.iadd) := ⟨xd_126_22, rfl⟩
theorem xk_126_18 : xk_OkA xp_F (xp_P sc) xp_cl xp_BW xp_NW xp_SW xp_exn 126 18 (.iload 4) := Or.inl ⟨xd_126_23, rfl⟩
theorem xk_126_19 : xk_OkA xp_F (xp_P sc) xp_cl xp_BW xp_NW xp_SW xp_exn 126 19 (.iadd) := ⟨xd_126_25, rfl⟩
theorem xk_126_20 : xk_OkA xp_F (xp_P sc) xp_cl xp_BW xp_NW xp_SW xp_exn 126 20 (.invokeinterface 125 3) := ⟨rfl, Or.inl ⟨xwt_891, rfl⟩, rfl, rfl, xwt_5, by decide +kernel, by decide +kernel, Nat.le_of_ble_eq_true rfl, _, Or.inl xwt_888, Or.inr ⟨xd_126_26, xwt_890, xws_91, ⟨_, _, _, rfl, rfl⟩, by decide +kernel⟩⟩
theorem xk_126_21 : xk_OkA xp_F (xp_P sc) xp_cl xp_BW xp_NW xp_SW xp_exn 126 21 (.ifCond .eq 26) := ⟨_, xd_126_29, by unfold xf_to; decide +kernel, rfl⟩
theorem xk_126_22 : xk_OkA xp_F (xp_P sc) xp_cl xp_BW xp_NW xp_SW xp_exn 126 22 (.iload 3) := Or.inr ⟨3, rfl, xd_126_32, rfl⟩
theorem xk_126_23 : xk_OkA xp_F (xp_P sc) xp_cl xp_BW xp_NW xp_SW xp_exn 126 23 (.iconst 1) := Or.inl ⟨xd_126_33, rfl⟩
theorem xk_126_24 : xk_OkA xp_F (xp_P sc) xp_cl xp_BW xp_NW xp_SW xp_exn 126 24 (.iadd) := ⟨xd_126_34, rfl⟩
theorem xk_126_25 : xk_OkA xp_F (xp_P sc) xp_cl xp_BW xp_NW xp_SW xp_exn 126 25 (.goto 27) := ⟨_, xd_126_35, by unfold xf_to; decide +kernel⟩
theorem xk_126_26 : xk_OkA xp_F (xp_P sc) xp_cl xp_BW xp_NW xp_SW xp_exn 126 26 (.iload 3) := Or.inr ⟨3, rfl, xd_126_38, rfl⟩
theorem xk_126_27 : xk_OkA xp_F (xp_P sc) xp_cl xp_BW xp_NW xp_SW xp_exn 126 27 (.istore 3) := Or.inr ⟨3, rfl, xd_126_39, rfl⟩
theorem xk_126_28 : xk_OkA xp_F (xp_P sc) xp_cl xp_BW xp_NW xp_SW xp_exn 126 28 (.iinc 4 (1)) := ⟨xd_126_40, rfl⟩
theorem xk_126_29 : xk_OkA xp_F (xp_P sc) xp_cl xp_BW xp_NW xp_SW xp_exn 126 29 (.goto 4) := ⟨_, xd_126_43, by unfold xf_to; decide +kernel⟩
theorem xk_126_30 : xk_OkA xp_F (xp_P sc) xp_cl xp_BW xp_NW xp_SW xp_exn 126 30 (.iload 3) := Or.inr ⟨3, rfl, xd_126_46, rfl⟩
theorem xk_126_31 : xk_OkA xp_F (xp_P sc) xp_cl xp_BW xp_NW xp_SW xp_exn 126 31 (.ireturn) := ⟨xd_126_47, rfl⟩
theorem xl_126 : xk_OkL xp_F (xp_P sc) xp_cl xp_BW xp_NW xp_SW xp_exn 126 0 xc_126 := ⟨xk_126_0, xk_126_1, xk_126_2, xk_126_3, xk_126_4, xk_126_5, xk_126_6, xk_126_7, xk_126_8, xk_126_9, xk_126_10, xk_126_11, xk_126_12, xk_126_13, xk_126_14, xk_126_15, xk_126_16, xk_126_17, xk_126_18, xk_126_19, xk_126_20, xk_126_21, xk_126_22, xk_126_23, xk_126_24, xk_126_25, xk_126_26, xk_126_27, xk_126_28, xk_126_29, xk_126_30, xk_126_31, trivial⟩
theorem xd_127_0 : decode prog_6_method_22_code 0 = .ok (.aload_n 0, 1) := by decide +kernel
theorem xd_127_1 : decode prog_6_method_22_code 1 = .ok (.iload_n 1, 1) := by decide +kernel
theorem xd_127_2 : decode prog_6_method_22_code 2 = .ok (.invokestatic 75, 3) := by decide +kernel
theorem xd_127_5 : decode prog_6_method_22_code 5 = .ok (.istore 4, 2) := by decide +kernel
theorem xd_127_7 : decode prog_6_method_22_code 7 = .ok (.iload 4, 2) := by decide +kernel
theorem xd_127_9 : decode prog_6_method_22_code 9 = .ok (.iconst 1, 1) := by decide +kernel
theorem xd_127_10 : decode prog_6_method_22_code 10 = .ok (.if_icmp .ne 41, 3) := by decide +kernel
theorem xd_127_13 : decode prog_6_method_22_code 13 = .ok (.iload_n 2, 1) := by decide +kernel
theorem xd_127_14 : decode prog_6_method_22_code 14 = .ok (.iconst 2, 1) := by decide +kernel
theorem xd_127_15 : decode prog_6_method_22_code 15 = .ok (.idiv, 1) := by decide +kernel
theorem xd_127_16 : decode prog_6_method_22_code 16 = .ok (.aload_n 0, 1) := by decide +kernel
theorem xd_127_17 : decode prog_6_method_22_code 17 = .ok (.iload_n 1, 1) := by decide +kernel
theorem xd_127_18 : decode prog_6_method_22_code 18 = .ok (.invokestatic 79, 3) := by decide +kernel
theorem xd_127_21 : decode prog_6_method_22_code 21 = .ok (.idiv, 1) := by decide +kernel
theorem xd_127_22 : decode prog_6_method_22_code 22 = .ok (.iload_n 3, 1) := by decide +kernel
theorem xd_127_23 : decode prog_6_method_22_code 23 = .ok (.iconst 2, 1) := by decide +kernel
theorem xd_127_24 : decode prog_6_method_22_code 24 = .ok (.idiv, 1) := by decide +kernel
theorem xd_127_25 : decode prog_6_method_22_code 25 = .ok (.aload_n 0, 1) := by decide +kernel
theorem xd_127_26 : decode prog_6_method_22_code 26 = .ok (.iload_n 1, 1) := by decide +kernel
theorem xd_127_27 : decode prog_6_method_22_code 27 = .ok (.invokestatic 79, 3) := by decide +kernel
theorem xd_127_30 : decode prog_6_method_22_code 30 = .ok (.idiv, 1) := by decide +kernel
theorem xd_127_31 : decode prog_6_method_22_code 31 = .ok (.if_icmp .ne 16, 3) := by decide +kernel
theorem xd_127_34 : decode prog_6_method_22_code 34 = .ok (.iload_n 2, 1) := by decide +kernel
theorem xd_127_35 : decode prog_6_method_22_code 35 = .ok (.iconst 2, 1) := by decide +kernel
theorem xd_127_36 : decode prog_6_method_22_code 36 = .ok (.idiv, 1) := by decide +kernel
theorem xd_127_37 : decode prog_6_method_22_code 37 = .ok (.iload_n 3, 1) := by decide +kernel
theorem xd_127_38 : decode prog_6_method_22_code 38 = .ok (.iconst 2, 1) := by decide +kernel
theorem xd_127_39 : decode prog_6_method_22_code 39 = .ok (.idiv, 1) := by decide +kernel
theorem xd_127_40 : decode prog_6_method_22_code 40 = .ok (.if_icmp .eq 7, 3) := by decide +kernel
theorem xd_127_43 : decode prog_6_method_22_code 43 = .ok (.iconst 1, 1) := by decide +kernel
theorem xd_127_44 : decode prog_6_method_22_code 44 = .ok (.goto 32, 3) := by decide +kernel
theorem xd_127_47 : decode prog_6_method_22_code 47 = .ok (.iconst 0, 1) := by decide +kernel
theorem xd_127_48 : decode prog_6_method_22_code 48 = .ok (.goto 28, 3) := by decide +kernel
theorem xd_127_51 : decode prog_6_method_22_code 51 = .ok (.iload 4, 2) := by decide +kernel
theorem xd_127_53 : decode prog_6_method_22_code 53 = .ok (.iconst 2, 1) := by decide +kernel
theorem xd_127_54 : decode prog_6_method_22_code 54 = .ok (.if_icmp .ne 21, 3) := by decide +kernel
theorem xd_127_57 : decode prog_6_method_22_code 57 = .ok (.iload_n 2, 1) := by decide +kernel
theorem xd_127_58 : decode prog_6_method_22_code 58 = .ok (.iconst 2, 1) := by decide +kernel
theorem xd_127_59 : decode prog_6_method_22_code 59 = .ok (.idiv, 1) := by decide +kernel
theorem xd_127_60 : decode prog_6_method_22_code 60 = .ok (.iload_n 3, 1) := by decide +kernel
theorem xd_127_61 : decode prog_6_method_22_code 61 = .ok (.iconst 2, 1) := by decide +kernel
theorem xd_127_62 : decode prog_6_method_22_code 62 = .ok (.idiv, 1) := by decide +kernel
theorem xd_127_63 : decode prog_6_method_22_code 63 = .ok (.if_icmp .ne 12, 3) := by decide +kernel
theorem xd_127_66 : decode prog_6_method_22_code 66 = .ok (.iload_n 2, 1) := by decide +kernel
theorem xd_127_67 : decode prog_6_method_22_code 67 = .ok (.iload_n 3, 1) := by decide +kernel
theorem xd_127_68 : decode prog_6_method_22_code 68 = .ok (.if_icmp .eq 7, 3) := by decide +kernel
theorem xd_127_71 : decode prog_6_method_22_code 71 = .ok (.iconst 1, 1) := by decide +kernel
theorem xd_127_72 : decode prog_6_method_22_code 72 = .ok (.goto 4, 3) := by decide +kernel
theorem xd_127_75 : decode prog_6_method_22_code 75 = .ok (.iconst 0, 1) := by decide +kernel
theorem xd_127_76 : decode prog_6_method_22_code 76 = .ok (.ireturn, 1) := by decide +kernel
theorem xk_127_0 : xk_OkA xp_F (xp_P sc) xp_cl xp_BW xp_NW xp_SW xp_exn 127 0 (.aload 0) := Or.inr ⟨0, rfl, xd_127_0, rfl⟩
theorem xk_127_1 : xk_OkA xp_F (xp_P sc) xp_cl xp_BW xp_NW xp_SW xp_exn 127 1 (.iload 1) := Or.inr ⟨1, rfl, xd_127_1, rfl⟩
theorem xk_127_2 : xk_OkA xp_F (xp_P sc) xp_cl xp_BW xp_NW xp_SW xp_exn 127 2 (.invokeinterface 112 2) := ⟨rfl, Or.inl ⟨xwt_869, rfl⟩, rfl, rfl, xwt_5, by decide +kernel, by decide +kernel, Nat.le_of_ble_eq_true rfl, _, Or.inl xwt_867, Or.inl ⟨xd_127_2, xwt_868, rfl, by decide +kernel⟩⟩
theorem xk_127_3 : xk_OkA xp_F (xp_P sc) xp_cl xp_BW xp_NW xp_SW xp_exn 127 3 (.istore 4) := Or.inl ⟨xd_127_5, rfl⟩
theorem xk_127_4 : xk_OkA xp_F (xp_P sc) xp_cl xp_BW xp_NW xp_SW xp_exn 127 4 (.iload 4) := Or.inl ⟨xd_127_7, rfl⟩
theorem xk_127_5 : xk_OkA xp_F (xp_P sc) xp_cl xp_BW xp_NW xp_SW xp_exn 127 5 (.iconst 1) := Or.inl ⟨xd_127_9, rfl⟩
theorem xk_127_6 : xk_OkA xp_F (xp_P sc) xp_cl xp_BW xp_NW xp_SW xp_exn 127 6 (.if_icmp .ne 33) := ⟨_, xd_127_10, by unfold xf_to; decide +kernel, rfl⟩
theorem xk_127_7 : xk_OkA xp_F (xp_P sc) xp_cl xp_BW xp_NW xp_SW xp_exn 127 7 (.iload 2) := Or.inr ⟨2, rfl, xd_127_13, rfl⟩
theorem xk_127_8 : xk_OkA xp_F (xp_P sc) xp_cl xp_BW xp_NW xp_SW xp_exn 127 8 (.iconst 2) := Or.inl ⟨xd_127_14, rfl⟩
theorem xk_127_9 : xk_OkA xp_F (xp_P sc) xp_cl xp_BW xp_NW xp_SW xp_exn 127 9 (.idiv) := ⟨xd_127_15, rfl⟩
theorem xk_127_10 : xk_OkA xp_F (xp_P sc) xp_cl xp_BW xp_NW xp_SW xp_exn 127 10 (.aload 0) := Or.inr ⟨0, rfl, xd_127_16, rfl⟩
theorem xk_127_11 : xk_OkA xp_F (xp_P sc) xp_cl xp_BW xp_NW xp_SW xp_exn 127 11 (.iload 1) := Or.inr ⟨1, rfl, xd_127_17, rfl⟩
theorem xk_127_12 : xk_OkA xp_F (xp_P sc) xp_cl xp_BW xp_NW xp_SW xp_exn 127 12 (.invokeinterface 113 2) := ⟨rfl, Or.inl ⟨xwt_883, rfl⟩, rfl, rfl, xwt_5, by decide +kernel, by decide +kernel, Nat.le_of_ble_eq_true rfl, _, Or.inl xwt_881, Or.inl ⟨xd_127_18, xwt_882, rfl, by decide +kernel⟩⟩
theorem xk_127_13 : xk_OkA xp_F (xp_P sc) xp_cl xp_BW xp_NW xp_SW xp_exn 127 13 (.idiv) := ⟨xd_127_21, rfl⟩
theorem xk_127_14 : xk_OkA xp_F (xp_P sc) xp_cl xp_BW xp_NW xp_SW xp_exn 127 14 (.iload 3) := Or.inr ⟨3, rfl, xd_127_22, rfl⟩
theorem xk_127_15 : xk_OkA xp_F (xp_P sc) xp_cl xp_BW xp_NW xp_SW xp_exn 127 15 (.iconst 2) := Or.inl ⟨xd_127_23, rfl⟩
theorem xk_127_16 : xk_OkA xp_F (xp_P sc) xp_cl xp_BW xp_NW xp_SW xp_exn 127 16 (.idiv) := ⟨xd_127_24, rfl⟩
theorem xk_127_17 : xk_OkA xp_F (xp_P sc) xp_cl xp_BW xp_NW xp_SW xp_exn 127 17 (.aload 0) := Or.inr ⟨0, rfl, xd_127_25, rfl⟩
theorem xk_127_18 : xk_OkA xp_F (xp_P sc) xp_cl xp_BW xp_NW xp_SW xp_exn 127 18 (.iload 1) := Or.inr ⟨1, rfl, xd_127_26, rfl⟩
theorem xk_127_19 : xk_OkA xp_F (xp_P sc) xp_cl xp_BW xp_NW xp_SW xp_exn 127 19 (.invokeinterface 113 2) := ⟨rfl, Or.inl ⟨xwt_883, rfl⟩, rfl, rfl, xwt_5, by decide +kernel, by decide +kernel, Nat.le_of_ble_eq_true rfl, _, Or.inl xwt_881, Or.inl ⟨xd_127_27, xwt_882, rfl, by decide +kernel⟩⟩
theorem xk_127_20 : xk_OkA xp_F (xp_P sc) xp_cl xp_BW xp_NW xp_SW xp_exn 127 20 (.idiv) := ⟨xd_127_30, rfl⟩
theorem xk_127_21 : xk_OkA xp_F (xp_P sc) xp_cl xp_BW xp_NW xp_SW xp_exn 127 21 (.if_icmp .ne 31) := ⟨_, xd_127_31, by unfold xf_to; decide +kernel, rfl⟩
theorem xk_127_22 : xk_OkA xp_F (xp_P sc) xp_cl xp_BW xp_NW xp_SW xp_exn 127 22 (.iload 2) := Or.inr ⟨2, rfl, xd_127_34, rfl⟩
theorem xk_127_23 : xk_OkA xp_F (xp_P sc) xp_cl xp_BW xp_NW xp_SW xp_exn 127 23 (.iconst 2) := Or.inl ⟨xd_127_35, rfl⟩
theorem xk_127_24 : xk_OkA xp_F (xp_P sc) xp_cl xp_BW xp_NW xp_SW xp_exn 127 24 (.idiv) := ⟨xd_127_36, rfl⟩
theorem xk_127_25 : xk_OkA xp_F (xp_P sc) xp_cl xp_BW xp_NW xp_SW xp_exn 127 25 (.iload 3) := Or.inr ⟨3, rfl, xd_127_37, rfl⟩
theorem xk_127_26 : xk_OkA xp_F (xp_P sc) xp_cl xp_BW xp_NW xp_SW xp_exn 127 26 (.iconst 2) := Or.inl ⟨xd_127_38, rfl⟩
theorem xk_127_27 : xk_OkA xp_F (xp_P sc) xp_cl xp_BW xp_NW xp_SW xp_exn 127 27 (.idiv) := ⟨xd_127_39, rfl⟩
theorem xk_127_28 : xk_OkA xp_F (xp_P sc) xp_cl xp_BW xp_NW xp_SW xp_exn 127 28 (.if_icmp .eq 31) := ⟨_, xd_127_40, by unfold xf_to; decide +kernel, rfl⟩
theorem xk_127_29 : xk_OkA xp_F (xp_P sc) xp_cl xp_BW xp_NW xp_SW xp_exn 127 29 (.iconst 1) := Or.inl ⟨xd_127_43, rfl⟩
theorem xk_127_30 : xk_OkA xp_F (xp_P sc) xp_cl xp_BW xp_NW xp_SW xp_exn 127 30 (.goto 49) := ⟨_, xd_127_44, by unfold xf_to; decide +kernel⟩
theorem xk_127_31 : xk_OkA xp_F (xp_P sc) xp_cl xp_BW xp_NW xp_SW xp_exn 127 31 (.iconst 0) := Or.inl ⟨xd_127_47, rfl⟩
theorem xk_127_32 : xk_OkA xp_F (xp_P sc) xp_cl xp_BW xp_NW xp_SW xp_exn 127 32 (.goto 49) := ⟨_, xd_127_48, by unfold xf_to; decide +kernel⟩
theorem xk_127_33 : xk_OkA xp_F (xp_P sc) xp_cl xp_BW xp_NW xp_SW xp_exn 127 33 (.iload 4) := Or.inl ⟨xd_127_51, rfl⟩
theorem xk_127_34 : xk_OkA xp_F (xp_P sc) xp_cl xp_BW xp_NW xp_SW xp_exn 127 34 (.iconst 2) := Or.inl ⟨xd_127_53, rfl⟩
theorem xk_127_35 : xk_OkA xp_F (xp_P sc) xp_cl xp_BW xp_NW xp_SW xp_exn 127 35 (.if_icmp .ne 48) := ⟨_, xd_127_54, by unfold xf_to; decide +kernel, rfl⟩
theorem xk_127_36 : xk_OkA xp_F (xp_P sc) xp_cl xp_BW xp_NW xp_SW xp_exn 127 36 (.iload 2) := Or.inr ⟨2, rfl, xd_127_57, rfl⟩
theorem xk_127_37 : xk_OkA xp_F (xp_P sc) xp_cl xp_BW xp_NW xp_SW xp_exn 127 37 (.iconst 2) := Or.inl ⟨xd_127_58, rfl⟩
theorem xk_127_38 : xk_OkA xp_F (xp_P sc) xp_cl xp_BW xp_NW xp_SW xp_exn 127 38 (.idiv) := ⟨xd_127_59, rfl⟩
theorem xk_127_39 : xk_OkA xp_F (xp_P sc) xp_cl xp_BW xp_NW xp_SW xp_exn 127 39 (.iload 3) := Or.inr ⟨3, rfl, xd_127_60, rfl⟩
theorem xk_127_40 : xk_OkA xp_F (xp_P sc) xp_cl xp_BW xp_NW xp_SW xp_exn 127 40 (.iconst 2) := Or.inl ⟨xd_127_61, rfl⟩
theorem xk_127_41 : xk_OkA xp_F (xp_P sc) xp_cl xp_BW xp_NW xp_SW xp_exn 127 41 (.idiv) := ⟨xd_127_62, rfl⟩
theorem xk_127_42 : xk_OkA xp_F (xp_P sc) xp_cl xp_BW xp_NW xp_SW xp_exn 127 42 (.if_icmp .ne 48) := ⟨_, xd_127_63, by unfold xf_to; decide +kernel, rfl⟩
theorem xk_127_43 : xk_OkA xp_F (xp_P sc) xp_cl xp_BW xp_NW xp_SW xp_exn 127 43 (.iload 2) := Or.inr ⟨2, rfl, xd_127_66, rfl⟩
theorem xk_127_44 : xk_OkA xp_F (xp_P sc) xp_cl xp_BW xp_NW xp_SW xp_exn 127 44 (.iload 3) := Or.inr ⟨3, rfl, xd_127_67, rfl⟩
theorem xk_127_45 : xk_OkA xp_F (xp_P sc) xp_cl xp_BW xp_NW xp_SW xp_exn 127 45 (.if_icmp .eq 48) := ⟨_, xd_127_68, by unfold xf_to; decide +kernel, rfl⟩
theorem xk_127_46 : xk_OkA xp_F (xp_P sc) xp_cl xp_BW xp_NW xp_SW xp_exn 127 46 (.iconst 1) := Or.inl ⟨xd_127_71, rfl⟩
theorem xk_127_47 : xk_OkA xp_F (xp_P sc) xp_cl xp_BW xp_NW xp_SW xp_exn 127 47 (.goto 49) := ⟨_, xd_127_72, by unfold xf_to; decide +kernel⟩
theorem xk_127_48 : xk_OkA xp_F (xp_P sc) xp_cl xp_BW xp_NW xp_SW xp_exn 127 48 (.iconst 0) := Or.inl ⟨xd_127_75, rfl⟩
theorem xk_127_49 : xk_OkA xp_F (xp_P sc) xp_cl xp_BW xp_NW xp_SW xp_exn 127 49 (.freturn) := ⟨xd_127_76, rfl⟩
theorem xl_127 : xk_OkL xp_F (xp_P sc) xp_cl xp_BW xp_NW xp_SW xp_exn 127 0 xc_127 := ⟨xk_127_0, xk_127_1, xk_127_2, xk_127_3, xk_127_4, xk_127_5, xk_127_6, xk_127_7, xk_127_8, xk_127_9, xk_127_10, xk_127_11, xk_127_12, xk_127_13, xk_127_14, xk_127_15, xk_127_16, xk_127_17, xk_127_18, xk_127_19, xk_127_20, xk_127_21, xk_127_22, xk_127_23, xk_127_24, xk_127_25, xk_127_26, xk_127_27, xk_127_28, xk_127_29, xk_127_30, xk_127_31, xk_127_32, xk_127_33, xk_127_34, xk_127_35, xk_127_36, xk_127_37, xk_127_38, xk_127_39, xk_127_40, xk_127_41, xk_127_42, xk_127_43, xk_127_44, xk_127_45, xk_127_46, xk_127_47, xk_127_48, xk_127_49, trivial⟩
theorem xd_128_0 : decode prog_6_method_23_code 0 = .ok (.aload_n 0, 1) := by decide +kernel
theorem xd_128_1 : decode prog_6_method_23_code 1 = .ok (.getfield 34, 3) := by decide +kernel
theorem xd_128_4 : decode prog_6_method_23_code 4 = .ok (.ifCond .lt 49, 3) := by decide +kernel
theorem xd_128_7 : decode prog_6_method_23_code 7 = .ok (.aload_n 0, 1) := by decide +kernel
theorem xd_128_8 : decode prog_6_method_23_code 8 = .ok (.getfield 65, 3) := by decide +kernel
theorem xd_128_11 : decode prog_6_method_23_code 11 = .ok (.ifCond .le 42, 3) := by decide +kernel
theorem xd_128_14 : decode prog_6_method_23_code 14 = .ok (.aload_n 0, 1) := by decide +kernel
theorem xd_128_15 : decode prog_6_method_23_code 15 = .ok (.getfield 59, 3) := by decide +kernel
theorem xd_128_18 : decode prog_6_method_23_code 18 = .ok (.iload_n 2, 1) := by decide +kernel
theorem xd_128_19 : decode prog_6_method_23_code 19 = .ok (.if_icmp .ne 34, 3) := by decide +kernel
theorem xd_128_22 : decode prog_6_method_23_code 22 = .ok (.aload_n 0, 1) := by decide +kernel
theorem xd_128_23 : decode prog_6_method_23_code 23 = .ok (.getfield 65, 3) := by decide +kernel
theorem xd_128_26 : decode prog_6_method_23_code 26 = .ok (.iconst 1, 1) := by decide +kernel
theorem xd_128_27 : decode prog_6_method_23_code 27 = .ok (.isub, 1) := by decide +kernel
theorem xd_128_28 : decode prog_6_method_23_code 28 = .ok (.bipush 8, 2) := by decide +kernel
theorem xd_128_30 : decode prog_6_method_23_code 30 = .ok (.idiv, 1) := by decide +kernel
theorem xd_128_31 : decode prog_6_method_23_code 31 = .ok (.iload 4, 2) := by decide +kernel
theorem xd_128_33 : decode prog_6_method_23_code 33 = .ok (.if_icmp .ne 20, 3) := by decide +kernel
theorem xd_128_36 : decode prog_6_method_23_code 36 = .ok (.aload_n 1, 1) := by decide +kernel
theorem xd_128_37 : decode prog_6_method_23_code 37 = .ok (.iload_n 2, 1) := by decide +kernel
theorem xd_128_38 : decode prog_6_method_23_code 38 = .ok (.aload_n 0, 1) := by decide +kernel
theorem xd_128_39 : decode prog_6_method_23_code 39 = .ok (.getfield 62, 3) := by decide +kernel
theorem xd_128_42 : decode prog_6_method_23_code 42 = .ok (.iload_n 3, 1) := by decide +kernel
theorem xd_128_43 : decode prog_6_method_23_code 43 = .ok (.invokestatic 82, 3) := by decide +kernel
theorem xd_128_46 : decode prog_6_method_23_code 46 = .ok (.ifCond .eq 7, 3) := by decide +kernel
theorem xd_128_49 : decode prog_6_method_23_code 49 = .ok (.iconst 1, 1) := by decide +kernel
theorem xd_128_50 : decode prog_6_method_23_code 50 = .ok (.goto 4, 3) := by decide +kernel
theorem xd_128_53 : decode prog_6_method_23_code 53 = .ok (.iconst 0, 1) := by decide +kernel
theorem xd_128_54 : decode prog_6_method_23_code 54 = .ok (.istore 5, 2) := by decide +kernel
theorem xd_128_56 : decode prog_6_method_23_code 56 = .ok (.iconst 0, 1) := by decide +kernel
theorem xd_128_57 : decode prog_6_method_23_code 57 = .ok (.istore 6, 2) := by decide +kernel
theorem xd_128_59 : decode prog_6_method_23_code 59 = .ok (.iload 6, 2) := by decide +kernel
theorem xd_128_61 : decode prog_6_method_23_code 61 = .ok (.iconst 2, 1) := by decide +kernel
theorem xd_128_62 : decode prog_6_method_23_code 62 = .ok (.aload_n 1, 1) := by decide +kernel
theorem xd_128_63 : decode prog_6_method_23_code 63 = .ok (.iload_n 2, 1) := by decide +kernel
theorem xd_128_64 : decode prog_6_method_23_code 64 = .ok (.invokestatic 86, 3) := by decide +kernel
theorem xd_128_67 : decode prog_6_method_23_code 67 = .ok (.imul, 1) := by decide +kernel
theorem xd_128_68 : decode prog_6_method_23_code 68 = .ok (.if_icmp .ge 63, 3) := by decide +kernel
theorem xd_128_71 : decode prog_6_method_23_code 71 = .ok (.aload_n 1, 1) := by decide +kernel
theorem xd_128_72 : decode prog_6_method_23_code 72 = .ok (.bipush 9, 2) := by decide +kernel
theorem xd_128_74 : decode prog_6_method_23_code 74 = .ok (.bipush 10, 2) := by decide +kernel
theorem xd_128_76 : decode prog_6_method_23_code 76 = .ok (.iload_n 2, 1) := by decide +kernel
theorem xd_128_77 : decode prog_6_method_23_code 77 = .ok (.imul, 1) := by decide +kernel
theorem xd_128_78 : decode prog_6_method_23_code 78 = .ok (.iadd, 1) := by decide +kernel
theorem xd_128_79 : decode prog_6_method_23_code 79 = .ok (.iload 6, 2) := by decide +kernel
theorem xd_128_81 : decode prog_6_method_23_code 81 = .ok (.iadd, 1) := by decide +kernel
theorem xd_128_82 : decode prog_6_method_23_code 82 = .ok (.iaload, 1) := by decide +kernel
theorem xd_128_83 : decode prog_6_method_23_code 83 = .ok (.istore 7, 2) := by decide +kernel
theorem xd_128_85 : decode prog_6_method_23_code 85 = .ok (.iload 5, 2) := by decide +kernel
theorem xd_128_87 : decode prog_6_method_23_code 87 = .ok (.ifCond .ne 31, 3) := by decide +kernel
theorem xd_128_90 : decode prog_6_method_23_code 90 = .ok (.aload_n 1, 1) := by decide +kernel
theorem xd_128_91 : decode prog_6_method_23_code 91 = .ok (.iload_n 2, 1) := by decide +kernel
theorem xd_128_92 : decode prog_6_method_23_code 92 = .ok (.iload 6, 2) := by decide +kernel
theorem xd_128_94 : decode prog_6_method_23_code 94 = .ok (.iload_n 3, 1) := by decide +kernel
theorem xd_128_95 : decode prog_6_method_23_code 95 = .ok (.invokestatic 82, 3) := by decide +kernel
theorem xd_128_98 : decode prog_6_method_23_code 98 = .ok (.ifCond .eq 24, 3) := by decide +kernel
theorem xd_128_101 : decode prog_6_method_23_code 101 = .ok (.iload 7, 2) := by decide +kernel
theorem xd_128_103 : decode prog_6_method_23_code 103 = .ok (.ifCond .le 19, 3) := by decide +kernel
theorem xd_128_106 : decode prog_6_method_23_code 106 = .ok (.iload 7, 2) := by decide +kernel
theorem xd_128_108 : decode prog_6_method_23_code 108 = .ok (.iconst 1, 1) := by decide +kernel
theorem xd_128_109 : decode prog_6_method_23_code 109 = .ok (.isub, 1) := by decide +kernel
theorem xd_128_110 : decode prog_6_method_23_code 110 = .ok (.bipush 8, 2) := by decide +kernel
theorem xd_128_112 : decode prog_6_method_23_code 112 = .ok (.idiv, 1) := by decide +kernel
theorem xd_128_113 : decode prog_6_method_23_code 113 = .ok (.iload 4, 2) := by decide +kernel
theorem xd_128_115 : decode prog_6_method_23_code 115 = .ok (.if_icmp .ne 7, 3) := by decide +kernel
theorem xd_128_118 : decode prog_6_method_23_code 118 = .ok (.iconst 1, 1) := by decide +kernel
theorem xd_128_119 : decode prog_6_method_23_code 119 = .ok (.goto 4, 3) := by decide +kernel
theorem xd_128_122 : decode prog_6_method_23_code 122 = .ok (.iconst 0, 1) := by decide +kernel
theorem xd_128_123 : decode prog_6_method_23_code 123 = .ok (.istore 5, 2) := by decide +kernel
theorem xd_128_125 : decode prog_6_method_23_code 125 = .ok (.iinc 6 (1), 3) := by decide +kernel
theorem xd_128_128 : decode prog_6_method_23_code 128 = .ok (.goto (-69), 3) := by decide +kernel
theorem xd_128_131 : decode prog_6_method_23_code 131 = .ok (.iload 5, 2) := by decide +kernel
theorem xd_128_133 : decode prog_6_method_23_code 133 = .ok (.ireturn, 1) := by decide +kernel
theorem xk_128_0 : xk_OkA xp_F (xp_P sc) xp_cl xp_BW xp_NW xp_SW xp_exn 128 0 (.aload 0) := Or.inr ⟨0, rfl, xd_128_0, rfl⟩
theorem xk_128_1 : xk_OkA xp_F (xp_P sc) xp_cl xp_BW xp_NW xp_SW xp_exn 128 1 (.getfield 136) := ⟨_, xd_128_1, rfl, ⟨_, _, _, rfl, by decide, xu_4, Or.inl xwt_762⟩⟩
theorem xk_128_2 : xk_OkA xp_F (xp_P sc) xp_cl xp_BW xp_NW xp_SW xp_exn 128 2 (.ifCond .lt 27) := ⟨_, xd_128_4, by unfold xf_to; decide +kernel, rfl⟩
theorem xk_128_3 : xk_OkA xp_F (xp_P sc) xp_cl xp_BW xp_NW xp_SW xp_exn 128 3 (.aload 0) := Or.inr ⟨0, rfl, xd_128_7, rfl⟩
theorem xk_128_4 : xk_OkA xp_F (xp_P sc) xp_cl xp_BW xp_NW xp_SW xp_exn 128 4 (.getfield 139) := ⟨_, xd_128_8, rfl, ⟨_, _, _, rfl, by decide, xu_4, Or.inl xwt_765⟩⟩
theorem xk_128_5 : xk_OkA xp_F (xp_P sc) xp_cl xp_BW xp_NW xp_SW xp_exn 128 5 (.ifCond .le 27) := ⟨_, xd_128_11, by unfold xf_to; decide +kernel, rfl⟩
theorem xk_128_6 : xk_OkA xp_F (xp_P sc) xp_cl xp_BW xp_NW xp_SW xp_exn 128 6 (.aload 0) := Or.inr ⟨0, rfl, xd_128_14, rfl⟩
theorem xk_128_7 : xk_OkA xp_F (xp_P sc) xp_cl xp_BW xp_NW xp_SW xp_exn 128 7 (.getfield 137) := ⟨_, xd_128_15, rfl, ⟨_, _, _, rfl, by decide, xu_4, Or.inl xwt_763⟩⟩
theorem xk_128_8 : xk_OkA xp_F (xp_P sc) xp_cl xp_BW xp_NW xp_SW xp_exn 128 8 (.iload 2) := Or.inr ⟨2, rfl, xd_128_18, rfl⟩
theorem xk_128_9 : xk_OkA xp_F (xp_P sc) xp_cl xp_BW xp_NW xp_SW xp_exn 128 9 (.if_icmp .ne 27) := ⟨_, xd_128_19, by unfold xf_to; decide +kernel, rfl⟩
theorem xk_128_10 : xk_OkA xp_F (xp_P sc) xp_cl xp_BW xp_NW xp_SW xp_exn 128 10 (.aload 0) := Or.inr ⟨0, rfl, xd_128_22, rfl⟩
theorem xk_128_11 : xk_OkA xp_F (xp_P sc) xp_cl xp_BW xp_NW xp_SW xp_exn 128 11 (.getfield 139) := ⟨_, xd_128_23, rfl, ⟨_, _, _, rfl, by decide, xu_4, Or.inl xwt_765⟩⟩
theorem xk_128_12 : xk_OkA xp_F (xp_P sc) xp_cl xp_BW xp_NW xp_SW xp_exn 128 12 (.iconst 1) := Or.inl ⟨xd_128_26, rfl⟩
theorem xk_128_13 : xk_OkA xp_F (xp_P sc) xp_cl xp_BW xp_NW xp_SW xp_exn 128 13 (.isub) := ⟨xd_128_27, rfl⟩
theorem xk_128_14 : xk_OkA xp_F (xp_P sc) xp_cl xp_BW xp_NW xp_SW xp_exn 128 14 (.iconst 8) := Or.inr (Or.inl ⟨xd_128_28, by decide +kernel, rfl⟩)
theorem xk_128_15 : xk_OkA xp_F (xp_P sc) xp_cl xp_BW xp_NW xp_SW xp_exn 128 15 (.idiv) := ⟨xd_128_30, rfl⟩
theorem xk_128_16 : xk_OkA xp_F (xp_P sc) xp_cl xp_BW xp_NW xp_SW xp_exn 128 16 (.iload 4) := Or.inl ⟨xd_128_31, rfl⟩
theorem xk_128_17 : xk_OkA xp_F (xp_P sc) xp_cl xp_BW xp_NW xp_SW xp_exn 128 17 (.if_icmp .ne 27) := ⟨_, xd_128_33, by unfold xf_to; decide +kernel, rfl⟩
theorem xk_128_18 : xk_OkA xp_F (xp_P sc) xp_cl xp_BW xp_NW xp_SW xp_exn 128 18 (.aload 1) := Or.inr ⟨1, rfl, xd_128_36, rfl⟩
theorem xk_128_19 : xk_OkA xp_F (xp_P sc) xp_cl xp_BW xp_NW xp_SW xp_exn 128 19 (.iload 2) := Or.inr ⟨2, rfl, xd_128_37, rfl⟩
theorem xk_128_20 : xk_OkA xp_F (xp_P sc) xp_cl xp_BW xp_NW xp_SW xp_exn 128 20 (.aload 0) := Or.inr ⟨0, rfl, xd_128_38, rfl⟩
theorem xk_128_21 : xk_OkA xp_F (xp_P sc) xp_cl xp_BW xp_NW xp_SW xp_exn 128 21 (.getfield 138) := ⟨_, xd_128_39, rfl, ⟨_, _, _, rfl, by decide, xu_4, Or.inl xwt_764⟩⟩
theorem xk_128_22 : xk_OkA xp_F (xp_P sc) xp_cl xp_BW xp_NW xp_SW xp_exn 128 22 (.iload 3) := Or.inr ⟨3, rfl, xd_128_42, rfl⟩
theorem xk_128_23 : xk_OkA xp_F (xp_P sc) xp_cl xp_BW xp_NW xp_SW xp_exn 128 23 (.invokeinterface 127 4) := ⟨rfl, Or.inl ⟨xwt_880, rfl⟩, rfl, rfl, xwt_5, by decide +kernel, by decide +kernel, Nat.le_of_ble_eq_true rfl, _, Or.inl xwt_878, Or.inl ⟨xd_128_43, xwt_879, rfl, by decide +kernel⟩⟩
theorem xk_128_24 : xk_OkA xp_F (xp_P sc) xp_cl xp_BW xp_NW xp_SW xp_exn 128 24 (.ifCond .eq 27) := ⟨_, xd_128_46, by unfold xf_to; decide +kernel, rfl⟩
theorem xk_128_25 : xk_OkA xp_F (xp_P sc) xp_cl xp_BW xp_NW xp_SW xp_exn 128 25 (.iconst 1) := Or.inl ⟨xd_128_49, rfl⟩
theorem xk_128_26 : xk_OkA xp_F (xp_P sc) xp_cl xp_BW xp_NW xp_SW xp_exn 128 26 (.goto 28) := ⟨_, xd_128_50, by unfold xf_to; decide +kernel⟩
theorem xk_128_27 : xk_OkA xp_F (xp_P sc) xp_cl xp_BW xp_NW xp_SW xp_exn 128 27 (.iconst 0) := Or.inl ⟨xd_128_53, rfl⟩
theorem xk_128_28 : xk_OkA xp_F (xp_P sc) xp_cl xp_BW xp_NW xp_SW xp_exn 128 28 (.istore 5) := Or.inl ⟨xd_128_54, rfl⟩
theorem xk_128_29 : xk_OkA xp_F (xp_P sc) xp_cl xp_BW xp_NW xp_SW xp_exn 128 29 (.iconst 0) := Or.inl ⟨xd_128_56, rfl⟩
theorem xk_128_30 : xk_OkA xp_F (xp_P sc) xp_cl xp_BW xp_NW xp_SW xp_exn 128 30 (.istore 6) := Or.inl ⟨xd_128_57, rfl⟩
theorem xk_128_31 : xk_OkA xp_F (xp_P sc) xp_cl xp_BW xp_NW xp_SW xp_exn 128 31 (.iload 6) := Or.inl ⟨xd_128_59, rfl⟩
theorem xk_128_32 : xk_OkA xp_F (xp_P sc) xp_cl xp_BW xp_NW xp_SW xp_exn 128 32 (.iconst 2) := Or.inl ⟨xd_128_61, rfl⟩
theorem xk_128_33 : xk_OkA xp_F (xp_P sc) xp_cl xp_BW xp_NW xp_SW xp_exn 128 33 (.aload 1) := Or.inr ⟨1, rfl, xd_128_62, rfl⟩
theorem xk_128_34 : xk_OkA xp_F (xp_P sc) xp_cl xp_BW xp_NW xp_SW xp_exn 128 34 (.iload 2) := Or.inr ⟨2, rfl, xd_128_63, rfl⟩
theorem xk_128_35 : xk_OkA xp_F (xp_P sc) xp_cl xp_BW xp_NW xp_SW xp_exn 128 35 (.invokeinterface 114 2) := ⟨rfl, Or.inl ⟨xwt_866, rfl⟩, rfl, rfl, xwt_5, by decide +kernel, by decide +kernel, Nat.le_of_ble_eq_true rfl, _, Or.inl xwt_864, Or.inl ⟨xd_128_64, xwt_865, rfl, by decide +kernel⟩⟩
theorem xk_128_36 : xk_OkA xp_F (xp_P sc) xp_cl xp_BW xp_NW xp_SW xp_exn 128 36 (.imul) := ⟨xd_128_67, rfl⟩
theorem xk_128_37 : xk_OkA xp_F (xp_P sc) xp_cl xp_BW xp_NW xp_SW xp_exn 128 37 (.if_icmp .ge 71) := ⟨_, xd_128_68, by unfold xf_to; decide +kernel, rfl⟩
theorem xk_128_38 : xk_OkA xp_F (xp_P sc) xp_cl xp_BW xp_NW xp_SW xp_exn 128 38 (.aload 1) := Or.inr ⟨1, rfl, xd_128_71, rfl⟩
theorem xk_128_39 : xk_OkA xp_F (xp_P sc) xp_cl xp_BW xp_NW xp_SW xp_exn 128 39 (.iconst 9) := Or.inr (Or.inl ⟨xd_128_72, by decide +kernel, rfl⟩)
theorem xk_128_40 : xk_OkA xp_F (xp_P sc) xp_cl xp_BW xp_NW xp_SW xp_exn 128 40 (.iconst 10) := Or.inr (Or.inl ⟨xd_128_74, by decide +kernel, rfl⟩)
theorem xk_128_41 : xk_OkA xp_F (xp_P sc) xp_cl xp_BW xp_NW xp_SW xp_exn 128 41 (.iload 2) := Or.inr ⟨2, rfl, xd_128_76, rfl⟩
theorem xk_128_42 : xk_OkA xp_F (xp_P sc) xp_cl xp_BW xp_NW xp_SW xp_exn 128 42 (.imul) := ⟨xd_128_77, rfl⟩
theorem xk_128_43 : xk_OkA xp_F (xp_P sc) xp_cl xp_BW xp_NW xp_SW xp_exn 128 43 (.iadd) := ⟨xd_128_78, rfl⟩
theorem xk_128_44 : xk_OkA xp_F (xp_P sc) xp_cl xp_BW xp_NW xp_SW xp_exn 128 44 (.iload 6) := Or.inl ⟨xd_128_79, rfl⟩
theorem xk_128_45 : xk_OkA xp_F (xp_P sc) xp_cl xp_BW xp_NW xp_SW xp_exn 128 45 (.iadd) := ⟨xd_128_81, rfl⟩
theorem xk_128_46 : xk_OkA xp_F (xp_P sc) xp_cl xp_BW xp_NW xp_SW xp_exn 128 46 (.iaload) := ⟨xd_128_82, rfl⟩
theorem xk_128_47 : xk_OkA xp_F (xp_P sc) xp_cl xp_BW xp_NW xp_SW xp_exn 128 47 (.istore 7) := Or.inl ⟨xd_128_83, rfl⟩
theorem xk_128_48 : xk_OkA xp_F (xp_P sc) xp_cl xp_BW xp_NW xp_SW xp_exn 128 48 (.iload 5) := Or.inl ⟨xd_128_85, rfl⟩
theorem xk_128_49 : xk_OkA xp_F (xp_P sc) xp_cl xp_BW xp_NW xp_SW xp_exn 128 49 (.ifCond .ne 65) := ⟨_, xd_128_87, by unfold xf_to; decide +kernel, rfl⟩
theorem xk_128_50 : xk_OkA xp_F (xp_P sc) xp_cl xp_BW xp_NW xp_SW xp_exn 128 50 (.aload 1) := Or.inr ⟨1, rfl, xd_128_90, rfl⟩
theorem xk_128_51 : xk_OkA xp_F (xp_P sc) xp_cl xp_BW xp_NW xp_SW xp_exn 128 51 (.iload 2) := Or.inr ⟨2, rfl, xd_128_91, rfl⟩
theorem xk_128_52 : xk_OkA xp_F (xp_P sc) xp_cl xp_BW xp_NW xp_SW xp_exn 128 52 (.iload 6) := Or.inl ⟨xd_128_92, rfl⟩
theorem xk_128_53 : xk_OkA xp_F (xp_P sc) xp_cl xp_BW xp_NW xp_SW xp_exn 128 53 (.iload 3) := Or.inr ⟨3, rfl, xd_128_94, rfl⟩
theorem xk_128_54 : xk_OkA xp_F (xp_P sc) xp_cl xp_BW xp_NW xp_SW xp_exn 128 54 (.invokeinterface 127 4) := ⟨rfl, Or.inl ⟨xwt_880, rfl⟩, rfl, rfl, xwt_5, by decide +kernel, by decide +kernel, Nat.le_of_ble_eq_true rfl, _, Or.inl xwt_878, Or.inl ⟨xd_128_95, xwt_879, rfl, by decide +kernel⟩⟩
theorem xk_128_55 : xk_OkA xp_F (xp_P sc) xp_cl xp_BW xp_NW xp_SW xp_exn 128 55 (.ifCond .eq 67) := ⟨_, xd_128_98, by unfold xf_to; decide +kernel, rfl⟩
theorem xk_128_56 : xk_OkA xp_F (xp_P sc) xp_cl xp_BW xp_NW xp_SW xp_exn 128 56 (.iload 7) := Or.inl ⟨xd_128_101, rfl⟩
theorem xk_128_57 : xk_OkA xp_F (xp_P sc) xp_cl xp_BW xp_NW xp_SW xp_exn 128 57 (.ifCond .le 67) := ⟨_, xd_128_103, by unfold xf_to; decide +kernel, rfl⟩
theorem xk_128_58 : xk_OkA xp_F (xp_P sc) xp_cl xp_BW xp_NW xp_SW xp_exn 128 58 (.iload 7) := Or.inl ⟨xd_128_106, rfl⟩
theorem xk_128_59 : xk_OkA xp_F (xp_P sc) xp_cl xp_BW xp_NW xp_SW xp_exn 128 59 (.iconst 1) := Or.inl ⟨xd_128_108, rfl⟩
theorem xk_128_60 : xk_OkA xp_F (xp_P sc) xp_cl xp_BW xp_NW xp_SW xp_exn 128 60 (.isub) := ⟨xd_128_109, rfl⟩
theorem xk_128_61 : xk_OkA xp_F (xp_P sc) xp_cl xp_BW xp_NW xp_SW xp_exn 128 61 (.iconst 8) := Or.inr (Or.inl ⟨xd_128_110, by decide +kernel, rfl⟩)
theorem xk_128_62 : xk_OkA xp_F (xp_P sc) xp_cl xp_BW xp_NW xp_SW xp_exn 128 62 (.idiv) := ⟨xd_128_112, rfl⟩
theorem xk_128_63 : xk_OkA xp_F (xp_P sc) xp_cl xp_BW xp_NW xp_SW xp_exn 128 63 (.iload 4) := Or.inl ⟨xd_128_113, rfl⟩
theorem xk_128_64 : xk_OkA xp_F (xp_P sc) xp_cl xp_BW xp_NW xp_SW xp_exn 128 64 (.if_icmp .ne 67) := ⟨_, xd_128_115, by unfold xf_to; decide +kernel, rfl⟩
theorem xk_128_65 : xk_OkA xp_F (xp_P sc) xp_cl xp_BW xp_NW xp_SW xp_exn 128 65 (.iconst 1) := Or.inl ⟨xd_128_118, rfl⟩
theorem xk_128_66 : xk_OkA xp_F (xp_P sc) xp_cl xp_BW xp_NW xp_SW xp_exn 128 66 (.goto 68) := ⟨_, xd_128_119, by unfold xf_to; decide +kernel⟩
theorem xk_128_67 : xk_OkA xp_F (xp_P sc) xp_cl xp_BW xp_NW xp_SW xp_exn 128 67 (.iconst 0) := Or.inl ⟨xd_128_122, rfl⟩
theorem xk_128_68 : xk_OkA xp_F (xp_P sc) xp_cl xp_BW xp_NW xp_SW xp_exn 128 68 (.istore 5) := Or.inl ⟨xd_128_123, rfl⟩
theorem xk_128_69 : xk_OkA xp_F (xp_P sc) xp_cl xp_BW xp_NW xp_SW xp_exn 128 69 (.iinc 6 (1)) := ⟨xd_128_125, rfl⟩
theorem xk_128_70 : xk_OkA xp_F (xp_P sc) xp_cl xp_BW xp_NW xp_SW xp_exn 128 70 (.goto 31) := ⟨_, xd_128_128, by unfold xf_to; decide +kernel⟩
theorem xk_128_71 : xk_OkA xp_F (xp_P sc) xp_cl xp_BW xp_NW xp_SW xp_exn 128 71 (.iload 5) := Or.inl ⟨xd_128_131, rfl⟩
theorem xk_128_72 : xk_OkA xp_F (xp_P sc) xp_cl xp_BW xp_NW xp_SW xp_exn 128 72 (.freturn) := ⟨xd_128_133, rfl⟩
theorem xl_128 : xk_OkL xp_F (xp_P sc) xp_cl xp_BW xp_NW xp_SW xp_exn 128 0 xc_128 := ⟨xk_128_0, xk_128_1, xk_128_2, xk_128_3, xk_128_4, xk_128_5, xk_128_6, xk_128_7, xk_128_8, xk_128_9, xk_128_10, xk_128_11, xk_128_12, xk_128_13, xk_128_14, xk_128_15, xk_128_16, xk_128_17, xk_128_18, xk_128_19, xk_128_20, xk_128_21, xk_128_22, xk_128_23, xk_128_24, xk_128_25, xk_128_26, xk_128_27, xk_128_28, xk_128_29, xk_128_30, xk_128_31, xk_128_32, xk_128_33, xk_128_34, xk_128_35, xk_128_36, xk_128_37, xk_128_38, xk_128_39, xk_128_40, xk_128_41, xk_128_42, xk_128_43, xk_128_44, xk_128_45, xk_128_46, xk_128_47, xk_128_48, xk_128_49, xk_128_50, xk_128_51, xk_128_52, xk_128_53, xk_128_54, xk_128_55, xk_128_56, xk_128_57, xk_128_58, xk_128_59, xk_128_60, xk_128_61, xk_128_62, xk_128_63, xk_128_64, xk_128_65, xk_128_66, xk_128_67, xk_128_68, xk_128_69, xk_128_70, xk_128_71, xk_128_72, trivial⟩
theorem xd_129_0 : decode prog_6_method_24_code 0 = .ok (.iconst (-1), 1) := by decide +kernel
theorem xd_129_1 : decode prog_6_method_24_code 1 = .ok (.istore 5, 2) := by decide +kernel
theorem xd_129_3 : decode prog_6_method_24_code 3 = .ok (.iconst 0, 1) := by decide +kernel
theorem xd_129_4 : decode prog_6_method_24_code 4 = .ok (.istore 6, 2) := by decide +kernel
theorem xd_129_6 : decode prog_6_method_24_code 6 = .ok (.iconst 3, 1) := by decide +kernel
theorem xd_129_7 : decode prog_6_method_24_code 7 = .ok (.istore 7, 2) := by decide +kernel
theorem xd_129_9 : decode prog_6_method_24_code 9 = .ok (.iload 7, 2) := by decide +kernel
theorem xd_129_11 : decode prog_6_method_24_code 11 = .ok (.ifCond .lt 88, 3) := by decide +kernel
theorem xd_129_14 : decode prog_6_method_24_code 14 = .ok (.iload 7, 2) := by decide +kernel
theorem xd_129_16 : decode prog_6_method_24_code 16 = .ok (.iload 4, 2) := by decide +kernel
theorem xd_129_18 : decode prog_6_method_24_code 18 = .ok (.if_icmp .eq 25, 3) := by decide +kernel
theorem xd_129_21 : decode prog_6_method_24_code 21 = .ok (.aload_n 0, 1) := by decide +kernel
theorem xd_129_22 : decode prog_6_method_24_code 22 = .ok (.getfield 7, 3) := by decide +kernel
theorem xd_129_25 : decode prog_6_method_24_code 25 = .ok (.iload 7, 2) := by decide +kernel
theorem xd_129_27 : decode prog_6_method_24_code 27 = .ok (.baload, 1) := by decide +kernel
theorem xd_129_28 : decode prog_6_method_24_code 28 = .ok (.ifCond .eq 15, 3) := by decide +kernel
theorem xd_129_31 : decode prog_6_method_24_code 31 = .ok (.aload_n 0, 1) := by decide +kernel
theorem xd_129_32 : decode prog_6_method_24_code 32 = .ok (.aload_n 1, 1) := by decide +kernel
theorem xd_129_33 : decode prog_6_method_24_code 33 = .ok (.iload_n 2, 1) := by decide +kernel
theorem xd_129_34 : decode prog_6_method_24_code 34 = .ok (.iload_n 3, 1) := by decide +kernel
theorem xd_129_35 : decode prog_6_method_24_code 35 = .ok (.iload 7, 2) := by decide +kernel
theorem xd_129_37 : decode prog_6_method_24_code 37 = .ok (.invokevirtual 89, 3) := by decide +kernel
theorem xd_129_40 : decode prog_6_method_24_code 40 = .ok (.ifCond .eq 7, 3) := by decide +kernel
theorem xd_129_43 : decode prog_6_method_24_code 43 = .ok (.iconst 0, 1) := by decide +kernel
theorem xd_129_44 : decode prog_6_method_24_code 44 = .ok (.goto 10, 3) := by decide +kernel
theorem xd_129_47 : decode prog_6_method_24_code 47 = .ok (.aload_n 0, 1) := by decide +kernel
theorem xd_129_48 : decode prog_6_method_24_code 48 = .ok (.aload_n 1, 1) := by decide +kernel
theorem xd_129_49 : decode prog_6_method_24_code 49 = .ok (.iload 7, 2) := by decide +kernel
theorem xd_129_51 : decode prog_6_method_24_code 51 = .ok (.invokevirtual 92, 3) := by decide +kernel
theorem xd_129_54 : decode prog_6_method_24_code 54 = .ok (.istore 8, 2) := by decide +kernel
theorem xd_129_56 : decode prog_6_method_24_code 56 = .ok (.iload 8, 2) := by decide +kernel
theorem xd_129_58 : decode prog_6_method_24_code 58 = .ok (.ifCond .le 15, 3) := by decide +kernel
theorem xd_129_61 : decode prog_6_method_24_code 61 = .ok (.iload 8, 2) := by decide +kernel
theorem xd_129_63 : decode prog_6_method_24_code 63 = .ok (.iload 6, 2) := by decide +kernel
theorem xd_129_65 : decode prog_6_method_24_code 65 = .ok (.if_icmp .lt 8, 3) := by decide +kernel
theorem xd_129_68 : decode prog_6_method_24_code 68 = .ok (.iload 7, 2) := by decide +kernel
theorem xd_129_70 : decode prog_6_method_24_code 70 = .ok (.goto 5, 3) := by decide +kernel
theorem xd_129_73 : decode prog_6_method_24_code 73 = .ok (.iload 5, 2) := by decide +kernel
theorem xd_129_75 : decode prog_6_method_24_code 75 = .ok (.istore 5, 2) := by decide +kernel
theorem xd_129_77 : decode prog_6_method_24_code 77 = .ok (.iload 8, 2) := by decide +kernel
theorem xd_129_79 : decode prog_6_method_24_code 79 = .ok (.iload 6, 2) := by decide +kernel
theorem xd_129_81 : decode prog_6_method_24_code 81 = .ok (.if_icmp .le 8, 3) := by decide +kernel
theorem xd_129_84 : decode prog_6_method_24_code 84 = .ok (.iload 8, 2) := by decide +kernel
theorem xd_129_86 : decode prog_6_method_24_code 86 = .ok (.goto 5, 3) := by decide +kernel
theorem xd_129_89 : decode prog_6_method_24_code 89 = .ok (.iload 6, 2) := by decide +kernel
theorem xd_129_91 : decode prog_6_method_24_code 91 = .ok (.istore 6, 2) := by decide +kernel
theorem xd_129_93 : decode prog_6_method_24_code 93 = .ok (.iinc 7 (-1), 3) := by decide +kernel
theorem xd_129_96 : decode prog_6_method_24_code 96 = .ok (.goto (-87), 3) := by decide +kernel
theorem xd_129_99 : decode prog_6_method_24_code 99 = .ok (.iload 5, 2) := by decide +kernel
theorem xd_129_101 : decode prog_6_method_24_code 101 = .ok (.ifCond .ge 5, 3) := by decide +kernel
theorem xd_129_104 : decode prog_6_method_24_code 104 = .ok (.iconst 0, 1) := by decide +kernel
theorem xd_129_105 : decode prog_6_method_24_code 105 = .ok (.ireturn, 1) := by decide +kernel
theorem xd_129_106 : decode prog_6_method_24_code 106 = .ok (.iconst 0, 1) := by decide +kernel
theorem xd_129_107 : decode prog_6_method_24_code 107 = .ok (.istore 7, 2) := by decide +kernel
theorem xd_129_109 : decode prog_6_method_24_code 109 = .ok (.iload 7, 2) := by decide +kernel
theorem xd_129_111 : decode prog_6_method_24_code 111 = .ok (.bipush 8, 2) := by decide +kernel
theorem xd_129_113 : decode prog_6_method_24_code 113 = .ok (.if_icmp .ge 38, 3) := by decide +kernel
theorem xd_129_116 : decode prog_6_method_24_code 116 = .ok (.aload_n 0, 1) := by decide +kernel
theorem xd_129_117 : decode prog_6_method_24_code 117 = .ok (.aload_n 1, 1) := by decide +kernel
theorem xd_129_118 : decode prog_6_method_24_code 118 = .ok (.iconst 1, 1) := by decide +kernel
theorem xd_129_119 : decode prog_6_method_24_code 119 = .ok (.bipush 8, 2) := by decide +kernel
theorem xd_129_121 : decode prog_6_method_24_code 121 = .ok (.iload 5, 2) := by decide +kernel
theorem xd_129_123 : decode prog_6_method_24_code 123 = .ok (.imul, 1) := by decide +kernel
theorem xd_129_124 : decode prog_6_method_24_code 124 = .ok (.iadd, 1) := by decide +kernel
theorem xd_129_125 : decode prog_6_method_24_code 125 = .ok (.iload 7, 2) := by decide +kernel
theorem xd_129_127 : decode prog_6_method_24_code 127 = .ok (.iadd, 1) := by decide +kernel
theorem xd_129_128 : decode prog_6_method_24_code 128 = .ok (.invokevirtual 72, 3) := by decide +kernel
theorem xd_129_131 : decode prog_6_method_24_code 131 = .ok (.ifCond .eq 14, 3) := by decide +kernel
theorem xd_129_134 : decode prog_6_method_24_code 134 = .ok (.iconst 1, 1) := by decide +kernel
theorem xd_129_135 : decode prog_6_method_24_code 135 = .ok (.bipush 8, 2) := by decide +kernel
theorem xd_129_137 : decode prog_6_method_24_code 137 = .ok (.iload 5, 2) := by decide +kernel
theorem xd_129_139 : decode prog_6_method_24_code 139 = .ok (.imul, 1) := by decide +kernel
theorem xd_129_140 : decode prog_6_method_24_code 140 = .ok (.iadd, 1) := by decide +kernel
theorem xd_129_141 : decode prog_6_method_24_code 141 = .ok (.iload 7, 2) := by decide +kernel
theorem xd_129_143 : decode prog_6_method_24_code 143 = .ok (.iadd, 1) := by decide +kernel
theorem xd_129_144 : decode prog_6_method_24_code 144 = .ok (.ireturn, 1) := by decide +kernel
theorem xd_129_145 : decode prog_6_method_24_code 145 = .ok (.iinc 7 (1), 3) := by decide +kernel
theorem xd_129_148 : decode prog_6_method_24_code 148 = .ok (.goto (-39), 3) := by decide +kernel
theorem xd_129_151 : decode prog_6_method_24_code 151 = .ok (.iconst 0, 1) := by decide +kernel
theorem xd_129_152 : decode prog_6_method_24_code 152 = .ok (.ireturn, 1) := by decide +kernel
theorem xk_129_0 : xk_OkA xp_F (xp_P sc) xp_cl xp_BW xp_NW xp_SW xp_exn 129 0 (.iconst (-1)) := Or.inl ⟨xd_129_0, rfl⟩
theorem xk_129_1 : xk_OkA xp_F (xp_P sc) xp_cl xp_BW xp_NW xp_SW xp_exn 129 1 (.istore 5) := Or.inl ⟨xd_129_1, rfl⟩
theorem xk_129_2 : xk_OkA xp_F (xp_P sc) xp_cl xp_BW xp_NW xp_SW xp_exn 129 2 (.iconst 0) := Or.inl ⟨xd_129_3, rfl⟩
theorem xk_129_3 : xk_OkA xp_F (xp_P sc) xp_cl xp_BW xp_NW xp_SW xp_exn 129 3 (.istore 6) := Or.inl ⟨xd_129_4, rfl⟩
theorem xk_129_4 : xk_OkA xp_F (xp_P sc) xp_cl xp_BW xp_NW xp_SW xp_exn 129 4 (.iconst 3) := Or.inl ⟨xd_129_6, rfl⟩
theorem xk_129_5 : xk_OkA xp_F (xp_P sc) xp_cl xp_BW xp_NW xp_SW xp_exn 129 5 (.istore 7) := Or.inl ⟨xd_129_7, rfl⟩
theorem xk_129_6 : xk_OkA xp_F (xp_P sc) xp_cl xp_BW xp_NW xp_SW xp_exn 129 6 (.iload 7) := Or.inl ⟨xd_129_9, rfl⟩
theorem xk_129_7 : xk_OkA xp_F (xp_P sc) xp_cl xp_BW xp_NW xp_SW xp_exn 129 7 (.ifCond .lt 48) := ⟨_, xd_129_11, by unfold xf_to; decide +kernel, rfl⟩
theorem xk_129_8 : xk_OkA xp_F (xp_P sc) xp_cl xp_BW xp_NW xp_SW xp_exn 129 8 (.iload 7) := Or.inl ⟨xd_129_14, rfl⟩
theorem xk_129_9 : xk_OkA xp_F (xp_P sc) xp_cl xp_BW xp_NW xp_SW xp_exn 129 9 (.iload 4) := Or.inl ⟨xd_129_16, rfl⟩
theorem xk_129_10 : xk_OkA xp_F (xp_P sc) xp_cl xp_BW xp_NW xp_SW xp_exn 129 10 (.if_icmp .eq 23) := ⟨_, xd_129_18, by unfold xf_to; decide +kernel, rfl⟩
theorem xk_129_11 : xk_OkA xp_F (xp_P sc) xp_cl xp_BW xp_NW xp_SW xp_exn 129 11 (.aload 0) := Or.inr ⟨0, rfl, xd_129_21, rfl⟩
theorem xk_129_12 : xk_OkA xp_F (xp_P sc) xp_cl xp_BW xp_NW xp_SW xp_exn 129 12 (.getfield 129) := ⟨_, xd_129_22, rfl, ⟨_, _, _, rfl, by decide, xu_4, Or.inl xwt_755⟩⟩
theorem xk_129_13 : xk_OkA xp_F (xp_P sc) xp_cl xp_BW xp_NW xp_SW xp_exn 129 13 (.iload 7) := Or.inl ⟨xd_129_25, rfl⟩
theorem xk_129_14 : xk_OkA xp_F (xp_P sc) xp_cl xp_BW xp_NW xp_SW xp_exn 129 14 (.baload) := ⟨xd_129_27, rfl⟩
theorem xk_129_15 : xk_OkA xp_F (xp_P sc) xp_cl xp_BW xp_NW xp_SW xp_exn 129 15 (.ifCond .eq 23) := ⟨_, xd_129_28, by unfold xf_to; decide +kernel, rfl⟩
theorem xk_129_16 : xk_OkA xp_F (xp_P sc) xp_cl xp_BW xp_NW xp_SW xp_exn 129 16 (.aload 0) := Or.inr ⟨0, rfl, xd_129_31, rfl⟩
theorem xk_129_17 : xk_OkA xp_F (xp_P sc) xp_cl xp_BW xp_NW xp_SW xp_exn 129 17 (.aload 1) := Or.inr ⟨1, rfl, xd_129_32, rfl⟩
theorem xk_129_18 : xk_OkA xp_F (xp_P sc) xp_cl xp_BW xp_NW xp_SW xp_exn 129 18 (.iload 2) := Or.inr ⟨2, rfl, xd_129_33, rfl⟩
theorem xk_129_19 : xk_OkA xp_F (xp_P sc) xp_cl xp_BW xp_NW xp_SW xp_exn 129 19 (.iload 3) := Or.inr ⟨3, rfl, xd_129_34, rfl⟩
theorem xk_129_20 : xk_OkA xp_F (xp_P sc) xp_cl xp_BW xp_NW xp_SW xp_exn 129 20 (.iload 7) := Or.inl ⟨xd_129_35, rfl⟩
theorem xk_129_21 : xk_OkA xp_F (xp_P sc) xp_cl xp_BW xp_NW xp_SW xp_exn 129 21 (.invokeinterface 128 5) := ⟨rfl, Or.inl ⟨xwt_877, rfl⟩, rfl, rfl, xwt_5, by decide +kernel, by decide +kernel, Nat.le_of_ble_eq_true rfl, _, Or.inl xwt_874, Or.inr ⟨xd_129_37, xwt_876, xws_89, ⟨_, _, _, rfl, rfl⟩, by decide +kernel⟩⟩
theorem xk_129_22 : xk_OkA xp_F (xp_P sc) xp_cl xp_BW xp_NW xp_SW xp_exn 129 22 (.ifCond .eq 25) := ⟨_, xd_129_40, by unfold xf_to; decide +kernel, rfl⟩
theorem xk_129_23 : xk_OkA xp_F (xp_P sc) xp_cl xp_BW xp_NW xp_SW xp_exn 129 23 (.iconst 0) := Or.inl ⟨xd_129_43, rfl⟩
theorem xk_129_24 : xk_OkA xp_F (xp_P sc) xp_cl xp_BW xp_NW xp_SW xp_exn 129 24 (.goto 29) := ⟨_, xd_129_44, by unfold xf_to; decide +kernel⟩
theorem xk_129_25 : xk_OkA xp_F (xp_P sc) xp_cl xp_BW xp_NW xp_SW xp_exn 129 25 (.aload 0) := Or.inr ⟨0, rfl, xd_129_47, rfl⟩
theorem xk_129_26 : xk_OkA xp_F (xp_P sc) xp_cl xp_BW xp_NW xp_SW xp_exn 129 26 (.aload 1) := Or.inr ⟨1, rfl, xd_129_48, rfl⟩
theorem xk_129_27 : xk_OkA xp_F (xp_P sc) xp_cl xp_BW xp_NW xp_SW xp_exn 129 27 (.iload 7) := Or.inl ⟨xd_129_49, rfl⟩
theorem xk_129_28 : xk_OkA xp_F (xp_P sc) xp_cl xp_BW xp_NW xp_SW xp_exn 129 28 (.invokeinterface 126 3) := ⟨rfl, Or.inl ⟨xwt_887, rfl⟩, rfl, rfl, xwt_5, by decide +kernel, by decide +kernel, Nat.le_of_ble_eq_true rfl, _, Or.inl xwt_884, Or.inr ⟨xd_129_51, xwt_886, xws_90, ⟨_, _, _, rfl, rfl⟩, by decide +kernel⟩⟩
theorem xk_129_29 : xk_OkA xp_F (xp_P sc) xp_cl xp_BW xp_NW xp_SW xp_exn 129 29 (.istore 8) := Or.inl ⟨xd_129_54, rfl⟩
theorem xk_129_30 : xk_OkA xp_F (xp_P sc) xp_cl xp_BW xp_NW xp_SW xp_exn 129 30 (.iload 8) := Or.inl ⟨xd_129_56, rfl⟩
theorem xk_129_31 : xk_OkA xp_F (xp_P sc) xp_cl xp_BW xp_NW xp_SW xp_exn 129 31 (.ifCond .le 37) := ⟨_, xd_129_58, by unfold xf_to; decide +kernel, rfl⟩
theorem xk_129_32 : xk_OkA xp_F (xp_P sc) xp_cl xp_BW xp_NW xp_SW xp_exn 129 32 (.iload 8) := Or.inl ⟨xd_129_61, rfl⟩
theorem xk_129_33 : xk_OkA xp_F (xp_P sc) xp_cl xp_BW xp_NW xp_SW xp_exn 129 33 (.iload 6) := Or.inl ⟨xd_129_63, rfl⟩
theorem xk_129_34 : xk_OkA xp_F (xp_P sc) xp_cl xp_BW xp_NW xp_SW xp_exn 129 34 (.if_icmp .lt 37) := ⟨_, xd_129_65, by unfold xf_to; decide +kernel, rfl⟩
theorem xk_129_35 : xk_OkA xp_F (xp_P sc) xp_cl xp_BW xp_NW xp_SW xp_exn 129 35 (.iload 7) := Or.inl ⟨xd_129_68, rfl⟩
theorem xk_129_36 : xk_OkA xp_F (xp_P sc) xp_cl xp_BW xp_NW xp_SW xp_exn 129 36 (.goto 38) := ⟨_, xd_129_70, by unfold xf_to; decide +kernel⟩
theorem xk_129_37 : xk_OkA xp_F (xp_P sc) xp_cl xp_BW xp_NW xp_SW xp_exn 129 37 (.iload 5) := Or.inl ⟨xd_129_73, rfl⟩
theorem xk_129_38 : xk_OkA xp_F (xp_P sc) xp_cl xp_BW xp_NW xp_SW xp_exn 129 38 (.istore 5) := Or.inl ⟨xd_129_75, rfl⟩
theorem xk_129_39 : xk_OkA xp_F (xp_P sc) xp_cl xp_BW xp_NW xp_SW xp_exn 129 39 (.iload 8) := Or.inl ⟨xd_129_77, rfl⟩
theorem xk_129_40 : xk_OkA xp_F (xp_P sc) xp_cl xp_BW xp_NW xp_SW xp_exn 129 40 (.iload 6) := Or.inl ⟨xd_129_79, rfl⟩
theorem xk_129_41 : xk_OkA xp_F (xp_P sc) xp_cl xp_BW xp_NW xp_SW xp_exn 129 41 (.if_icmp .le 44) := ⟨_, xd_129_81, by unfold xf_to; decide +kernel, rfl⟩
theorem xk_129_42 : xk_OkA xp_F (xp_P sc) xp_cl xp_BW xp_NW xp_SW xp_exn 129 42 (.iload 8) := Or.inl ⟨xd_129_84, rfl⟩
theorem xk_129_43 : xk_OkA xp_F (xp_P sc) xp_cl xp_BW xp_NW xp_SW xp_exn 129 43 (.goto 45) := ⟨_, xd_129_86, by unfold xf_to; decide +kernel⟩
theorem xk_129_44 : xk_OkA xp_F (xp_P sc) xp_cl xp_BW xp_NW xp_SW xp_exn 129 44 (.iload 6) := Or.inl ⟨xd_129_89, rfl⟩
theorem xk_129_45 : xk_OkA xp_F (xp_P sc) xp_cl xp_BW xp_NW xp_SW xp_exn 129 45 (.istore 6) := Or.inl ⟨xd_129_91, rfl⟩
theorem xk_129_46 : xk_OkA xp_F (xp_P sc) xp_cl xp_BW xp_NW xp_SW xp_exn 129 46 (.iinc 7 (-1)) := ⟨xd_129_93, rfl⟩
theorem xk_129_47 : xk_OkA xp_F (xp_P sc) xp_cl xp_BW xp_NW xp_SW xp_exn 129 47 (.goto 6) := ⟨_, xd_129_96, by unfold xf_to; decide +kernel⟩
theorem xk_129_48 : xk_OkA xp_F (xp_P sc) xp_cl xp_BW xp_NW xp_SW xp_exn 129 48 (.iload 5) := Or.inl ⟨xd_129_99, rfl⟩
theorem xk_129_49 : xk_OkA xp_F (xp_P sc) xp_cl xp_BW xp_NW xp_SW xp_exn 129 49 (.ifCond .ge 52) := ⟨_, xd_129_101, by unfold xf_to; decide +kernel, rfl⟩
theorem xk_129_50 : xk_OkA xp_F (xp_P sc) xp_cl xp_BW xp_NW xp_SW xp_exn 129 50 (.iconst 0) := Or.inl ⟨xd_129_104, rfl⟩
theorem xk_129_51 : xk_OkA xp_F (xp_P sc) xp_cl xp_BW xp_NW xp_SW xp_exn 129 51 (.ireturn) := ⟨xd_129_105, rfl⟩
theorem xk_129_52 : xk_OkA xp_F (xp_P sc) xp_cl xp_BW xp_NW xp_SW xp_exn 129 52 (.iconst 0) := Or.inl ⟨xd_129_106, rfl⟩
theorem xk_129_53 : xk_OkA xp_F (xp_P sc) xp_cl xp_BW xp_NW xp_SW xp_exn 129 53 (.istore 7) := Or.inl ⟨xd_129_107, rfl⟩
theorem xk_129_54 : xk_OkA xp_F (xp_P sc) xp_cl xp_BW xp_NW xp_SW xp_exn 129 54 (.iload 7) := Or.inl ⟨xd_129_109, rfl⟩
theorem xk_129_55 : xk_OkA xp_F (xp_P sc) xp_cl xp_BW xp_NW xp_SW xp_exn 129 55 (.iconst 8) := Or.inr (Or.inl ⟨xd_129_111, by decide +kernel, rfl⟩)
theorem xk_129_56 : xk_OkA xp_F (xp_P sc) xp_cl xp_BW xp_NW xp_SW xp_exn 129 56 (.if_icmp .ge 78) := ⟨_, xd_129_113, by unfold xf_to; decide +kernel, rfl⟩
theorem xk_129_57 : xk_OkA xp_F (xp_P sc) xp_cl xp_BW xp_NW xp_SW xp_exn 129 57 (.aload 0) := Or.inr ⟨0, rfl, xd_129_116, rfl⟩
theorem xk_129_58 : xk_OkA xp_F (xp_P sc) xp_cl xp_BW xp_NW xp_SW xp_exn 129 58 (.aload 1) := Or.inr ⟨1, rfl, xd_129_117, rfl⟩
theorem xk_129_59 : xk_OkA xp_F (xp_P sc) xp_cl xp_BW xp_NW xp_SW xp_exn 129 59 (.iconst 1) := Or.inl ⟨xd_129_118, rfl⟩
theorem xk_129_60 : xk_OkA xp_F (xp_P sc) xp_cl xp_BW xp_NW xp_SW xp_exn 129 60 (.iconst 8) := Or.inr (Or.inl ⟨xd_129_119, by decide +kernel, rfl⟩)
theorem xk_129_61 : xk_OkA xp_F (xp_P sc) xp_cl xp_BW xp_NW xp_SW xp_exn 129 61 (.iload 5) := Or.inl ⟨xd_129_121, rfl⟩
theorem xk_129_62 : xk_OkA xp_F (xp_P sc) xp_cl xp_BW xp_NW xp_SW xp_exn 129 62 (.imul) := ⟨xd_129_123, rfl⟩
theorem xk_129_63 : xk_OkA xp_F (xp_P sc) xp_cl xp_BW xp_NW xp_SW xp_exn 129 63 (.iadd) := ⟨xd_129_124, rfl⟩
theorem xk_129_64 : xk_OkA xp_F (xp_P sc) xp_cl xp_BW xp_NW xp_SW xp_exn 129 64 (.iload 7) := Or.inl ⟨xd_129_125, rfl⟩
theorem xk_129_65 : xk_OkA xp_F (xp_P sc) xp_cl xp_BW xp_NW xp_SW xp_exn 129 65 (.iadd) := ⟨xd_129_127, rfl⟩
theorem xk_129_66 : xk_OkA xp_F (xp_P sc) xp_cl xp_BW xp_NW xp_SW xp_exn 129 66 (.invokeinterface 125 3) := ⟨rfl, Or.inl ⟨xwt_891, rfl⟩, rfl, rfl, xwt_5, by decide +kernel, by decide +kernel, Nat.le_of_ble_eq_true rfl, _, Or.inl xwt_888, Or.inr ⟨xd_129_128, xwt_890, xws_91, ⟨_, _, _, rfl, rfl⟩, by decide +kernel⟩⟩
theorem xk_129_67 : xk_OkA xp_F (xp_P sc) xp_cl xp_BW xp_NW xp_SW xp_exn 129 67 (.ifCond .eq 76) := ⟨_, xd_129_131, by unfold xf_to; decide +kernel, rfl⟩
theorem xk_129_68 : xk_OkA xp_F (xp_P sc) xp_cl xp_BW xp_NW xp_SW xp_exn 129 68 (.iconst 1) := Or.inl ⟨xd_129_134, rfl⟩
theorem xk_129_69 : xk_OkA xp_F (xp_P sc) xp_cl xp_BW xp_NW xp_SW xp_exn 129 69 (.iconst 8) := Or.inr (Or.inl ⟨xd_129_135, by decide +kernel, rfl⟩)
theorem xk_129_70 : xk_OkA xp_F (xp_P sc) xp_cl xp_BW xp_NW xp_SW xp_exn 129 70 (.iload 5) := Or.inl ⟨xd_129_137, rfl⟩
theorem xk_129_71 : xk_OkA xp_F (xp_P sc) xp_cl xp_BW xp_NW xp_SW xp_exn 129 71 (.imul) := ⟨xd_129_139, rfl⟩
theorem xk_129_72 : xk_OkA xp_F (xp_P sc) xp_cl xp_BW xp_NW xp_SW xp_exn 129 72 (.iadd) := ⟨xd_129_140, rfl⟩
theorem xk_129_73 : xk_OkA xp_F (xp_P sc) xp_cl xp_BW xp_NW xp_SW xp_exn 129 73 (.iload 7) := Or.inl ⟨xd_129_141, rfl⟩
theorem xk_129_74 : xk_OkA xp_F (xp_P sc) xp_cl xp_BW xp_NW xp_SW xp_exn 129 74 (.iadd) := ⟨xd_129_143, rfl⟩
theorem xk_129_75 : xk_OkA xp_F (xp_P sc) xp_cl xp_BW xp_NW xp_SW xp_exn 129 75 (.ireturn) := ⟨xd_129_144, rfl⟩
theorem xk_129_76 : xk_OkA xp_F (xp_P sc) xp_cl xp_BW xp_NW xp_SW xp_exn 129 76 (.iinc 7 (1)) := ⟨xd_129_145, rfl⟩
theorem xk_129_77 : xk_OkA xp_F (xp_P sc) xp_cl xp_BW xp_NW xp_SW xp_exn 129 77 (.goto 54) := ⟨_, xd_129_148, by unfold xf_to; decide +kernel⟩
theorem xk_129_78 : xk_OkA xp_F (xp_P sc) xp_cl xp_BW xp_NW xp_SW xp_exn 129 78 (.iconst 0) := Or.inl ⟨xd_129_151, rfl⟩
theorem xk_129_79 : xk_OkA xp_F (xp_P sc) xp_cl xp_BW xp_NW xp_SW xp_exn 129 79 (.ireturn) := ⟨xd_129_152, rfl⟩
theorem xl_129 : xk_OkL xp_F (xp_P sc) xp_cl xp_BW xp_NW xp_SW xp_exn 129 0 xc_129 := ⟨xk_129_0, xk_129_1, xk_129_2, xk_129_3, xk_129_4, xk_129_5, xk_129_6, xk_129_7, xk_129_8, xk_129_9, xk_129_10, xk_129_11, xk_129_12, xk_129_13, xk_129_14, xk_129_15, xk_129_16, xk_129_17, xk_129_18, xk_129_19, xk_129_20, xk_129_21, xk_129_22, xk_129_23, xk_129_24, xk_129_25, xk_129_26, xk_129_27, xk_129_28, xk_129_29, xk_129_30, xk_129_31, xk_129_32, xk_129_33, xk_129_34, xk_129_35, xk_129_36, xk_129_37, xk_129_38, xk_129_39, xk_129_40, xk_129_41, xk_129_42, xk_129_43, xk_129_44, xk_129_45, xk_129_46, xk_129_47, xk_129_48, xk_129_49, xk_129_50, xk_129_51, xk_129_52, xk_129_53, xk_129_54, xk_129_55, xk_129_56, xk_129_57, xk_129_58, xk_129_59, xk_129_60, xk_129_61, xk_129_62, xk_129_63, xk_129_64, xk_129_65, xk_129_66, xk_129_67, xk_129_68, xk_129_69, xk_129_70, xk_129_71, xk_129_72, xk_129_73, xk_129_74, xk_129_75, xk_129_76, xk_129_77, xk_129_78, xk_129_79, trivial⟩
end XkOk4
