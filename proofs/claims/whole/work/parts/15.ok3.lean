/-! The instructions of the methods, one by one: written by wip/whole/gen_tables.py. -/
section XkOk3
variable {sc : Nat × (Nat → Int32)}
theorem xd_80_0 : decode prog_1_method_42_code 0 = .ok (.iconst 0, 1) := by decide +kernel
theorem xd_80_1 : decode prog_1_method_42_code 1 = .ok (.istore_n 3, 1) := by decide +kernel
theorem xd_80_2 : decode prog_1_method_42_code 2 = .ok (.iload_n 3, 1) := by decide +kernel
theorem xd_80_3 : decode prog_1_method_42_code 3 = .ok (.iconst 2, 1) := by decide +kernel
theorem xd_80_4 : decode prog_1_method_42_code 4 = .ok (.if_icmp .ge 29, 3) := by decide +kernel
theorem xd_80_7 : decode prog_1_method_42_code 7 = .ok (.iload_n 1, 1) := by decide +kernel
theorem xd_80_8 : decode prog_1_method_42_code 8 = .ok (.iload_n 2, 1) := by decide +kernel
theorem xd_80_9 : decode prog_1_method_42_code 9 = .ok (.iload_n 3, 1) := by decide +kernel
theorem xd_80_10 : decode prog_1_method_42_code 10 = .ok (.invokestatic 186, 3) := by decide +kernel
theorem xd_80_13 : decode prog_1_method_42_code 13 = .ok (.istore 4, 2) := by decide +kernel
theorem xd_80_15 : decode prog_1_method_42_code 15 = .ok (.aload_n 0, 1) := by decide +kernel
theorem xd_80_16 : decode prog_1_method_42_code 16 = .ok (.iload 4, 2) := by decide +kernel
theorem xd_80_18 : decode prog_1_method_42_code 18 = .ok (.invokevirtual 190, 3) := by decide +kernel
theorem xd_80_21 : decode prog_1_method_42_code 21 = .ok (.ifCond .eq 6, 3) := by decide +kernel
theorem xd_80_24 : decode prog_1_method_42_code 24 = .ok (.iload 4, 2) := by decide +kernel
theorem xd_80_26 : decode prog_1_method_42_code 26 = .ok (.ireturn, 1) := by decide +kernel
theorem xd_80_27 : decode prog_1_method_42_code 27 = .ok (.iinc 3 (1), 3) := by decide +kernel
theorem xd_80_30 : decode prog_1_method_42_code 30 = .ok (.goto (-28), 3) := by decide +kernel
theorem xd_80_33 : decode prog_1_method_42_code 33 = .ok (.iconst (-1), 1) := by decide +kernel
theorem xd_80_34 : decode prog_1_method_42_code 34 = .ok (.ireturn, 1) := by decide +kernel
theorem xk_80_0 : xk_OkA xp_F (xp_P sc) xp_cl xp_BW xp_NW xp_SW xp_exn 80 0 (.iconst 0) := Or.inl ⟨xd_80_0, rfl⟩
theorem xk_80_1 : xk_OkA xp_F (xp_P sc) xp_cl xp_BW xp_NW xp_SW xp_exn 80 1 (.istore 3) := Or.inr ⟨3, rfl, xd_80_1, rfl⟩
theorem xk_80_2 : xk_OkA xp_F (xp_P sc) xp_cl xp_BW xp_NW xp_SW xp_exn 80 2 (.iload 3) := Or.inr ⟨3, rfl, xd_80_2, rfl⟩
theorem xk_80_3 : xk_OkA xp_F (xp_P sc) xp_cl xp_BW xp_NW xp_SW xp_exn 80 3 (.iconst 2) := Or.inl ⟨xd_80_3, rfl⟩
theorem xk_80_4 : xk_OkA xp_F (xp_P sc) xp_cl xp_BW xp_NW xp_SW xp_exn 80 4 (.if_icmp .ge 18) := ⟨_, xd_80_4, by unfold xf_to; decide +kernel, rfl⟩
theorem xk_80_5 : xk_OkA xp_F (xp_P sc) xp_cl xp_BW xp_NW xp_SW xp_exn 80 5 (.iload 1) := Or.inr ⟨1, rfl, xd_80_7, rfl⟩
theorem xk_80_6 : xk_OkA xp_F (xp_P sc) xp_cl xp_BW xp_NW xp_SW xp_exn 80 6 (.iload 2) := Or.inr ⟨2, rfl, xd_80_8, rfl⟩
theorem xk_80_7 : xk_OkA xp_F (xp_P sc) xp_cl xp_BW xp_NW xp_SW xp_exn 80 7 (.iload 3) := Or.inr ⟨3, rfl, xd_80_9, rfl⟩
theorem xk_80_8 : xk_OkA xp_F (xp_P sc) xp_cl xp_BW xp_NW xp_SW xp_exn 80 8 (.invokeinterface 74 3) := ⟨rfl, Or.inl ⟨xwt_435, rfl⟩, rfl, rfl, xwt_1, by decide +kernel, by decide +kernel, Nat.le_of_ble_eq_true rfl, _, Or.inl xwt_433, Or.inl ⟨xd_80_10, xwt_434, rfl, by decide +kernel⟩⟩
theorem xk_80_9 : xk_OkA xp_F (xp_P sc) xp_cl xp_BW xp_NW xp_SW xp_exn 80 9 (.istore 4) := Or.inl ⟨xd_80_13, rfl⟩
theorem xk_80_10 : xk_OkA xp_F (xp_P sc) xp_cl xp_BW xp_NW xp_SW xp_exn 80 10 (.aload 0) := Or.inr ⟨0, rfl, xd_80_15, rfl⟩
theorem xk_80_11 : xk_OkA xp_F (xp_P sc) xp_cl xp_BW xp_NW xp_SW xp_exn 80 11 (.iload 4) := Or.inl ⟨xd_80_16, rfl⟩
theorem xk_80_12 : xk_OkA xp_F (xp_P sc) xp_cl xp_BW xp_NW xp_SW xp_exn 80 12 (.invokeinterface 79 2) := ⟨rfl, Or.inl ⟨xwt_594, rfl⟩, rfl, rfl, xwt_1, by decide +kernel, by decide +kernel, Nat.le_of_ble_eq_true rfl, _, Or.inl xwt_591, Or.inr ⟨xd_80_18, xwt_593, xws_59, ⟨_, _, _, rfl, rfl⟩, by decide +kernel⟩⟩
theorem xk_80_13 : xk_OkA xp_F (xp_P sc) xp_cl xp_BW xp_NW xp_SW xp_exn 80 13 (.ifCond .eq 16) := ⟨_, xd_80_21, by unfold xf_to; decide +kernel, rfl⟩
theorem xk_80_14 : xk_OkA xp_F (xp_P sc) xp_cl xp_BW xp_NW xp_SW xp_exn 80 14 (.iload 4) := Or.inl ⟨xd_80_24, rfl⟩
theorem xk_80_15 : xk_OkA xp_F (xp_P sc) xp_cl xp_BW xp_NW xp_SW xp_exn 80 15 (.ireturn) := ⟨xd_80_26, rfl⟩
theorem xk_80_16 : xk_OkA xp_F (xp_P sc) xp_cl xp_BW xp_NW xp_SW xp_exn 80 16 (.iinc 3 (1)) := ⟨xd_80_27, rfl⟩
theorem xk_80_17 : xk_OkA xp_F (xp_P sc) xp_cl xp_BW xp_NW xp_SW xp_exn 80 17 (.goto 2) := ⟨_, xd_80_30, by unfold xf_to; decide +kernel⟩
theorem xk_80_18 : xk_OkA xp_F (xp_P sc) xp_cl xp_BW xp_NW xp_SW xp_exn 80 18 (.iconst (-1)) := Or.inl ⟨xd_80_33, rfl⟩
theorem xk_80_19 : xk_OkA xp_F (xp_P sc) xp_cl xp_BW xp_NW xp_SW xp_exn 80 19 (.ireturn) := ⟨xd_80_34, rfl⟩
theorem xl_80 : xk_OkL xp_F (xp_P sc) xp_cl xp_BW xp_NW xp_SW xp_exn 80 0 xc_80 := ⟨xk_80_0, xk_80_1, xk_80_2, xk_80_3, xk_80_4, xk_80_5, xk_80_6, xk_80_7, xk_80_8, xk_80_9, xk_80_10, xk_80_11, xk_80_12, xk_80_13, xk_80_14, xk_80_15, xk_80_16, xk_80_17, xk_80_18, xk_80_19, trivial⟩
theorem xd_81_0 : decode prog_1_method_43_code 0 = .ok (.aload_n 0, 1) := by decide +kernel
theorem xd_81_1 : decode prog_1_method_43_code 1 = .ok (.iconst 0, 1) := by decide +kernel
theorem xd_81_2 : decode prog_1_method_43_code 2 = .ok (.putfield 33, 3) := by decide +kernel
theorem xd_81_5 : decode prog_1_method_43_code 5 = .ok (.aload_n 0, 1) := by decide +kernel
theorem xd_81_6 : decode prog_1_method_43_code 6 = .ok (.iconst (-1), 1) := by decide +kernel
theorem xd_81_7 : decode prog_1_method_43_code 7 = .ok (.putfield 37, 3) := by decide +kernel
theorem xd_81_10 : decode prog_1_method_43_code 10 = .ok (.aload_n 0, 1) := by decide +kernel
theorem xd_81_11 : decode prog_1_method_43_code 11 = .ok (.getfield 29, 3) := by decide +kernel
theorem xd_81_14 : decode prog_1_method_43_code 14 = .ok (.invokevirtual 107, 3) := by decide +kernel
theorem xd_81_17 : decode prog_1_method_43_code 17 = .ok (.return_, 1) := by decide +kernel
theorem xk_81_0 : xk_OkA xp_F (xp_P sc) xp_cl xp_BW xp_NW xp_SW xp_exn 81 0 (.aload 0) := Or.inr ⟨0, rfl, xd_81_0, rfl⟩
theorem xk_81_1 : xk_OkA xp_F (xp_P sc) xp_cl xp_BW xp_NW xp_SW xp_exn 81 1 (.iconst 0) := Or.inl ⟨xd_81_1, rfl⟩
theorem xk_81_2 : xk_OkA xp_F (xp_P sc) xp_cl xp_BW xp_NW xp_SW xp_exn 81 2 (.putstatic 100) := ⟨_, xd_81_2, rfl, ⟨_, _, _, rfl, by decide, xu_3, Or.inl xwt_81⟩, xf_3_4⟩
theorem xk_81_3 : xk_OkA xp_F (xp_P sc) xp_cl xp_BW xp_NW xp_SW xp_exn 81 3 (.aload 0) := Or.inr ⟨0, rfl, xd_81_5, rfl⟩
theorem xk_81_4 : xk_OkA xp_F (xp_P sc) xp_cl xp_BW xp_NW xp_SW xp_exn 81 4 (.iconst (-1)) := Or.inl ⟨xd_81_6, rfl⟩
theorem xk_81_5 : xk_OkA xp_F (xp_P sc) xp_cl xp_BW xp_NW xp_SW xp_exn 81 5 (.putfield 101) := ⟨_, xd_81_7, rfl, ⟨_, _, _, rfl, by decide, xu_3, Or.inl xwt_82⟩, xf_3_5⟩
theorem xk_81_6 : xk_OkA xp_F (xp_P sc) xp_cl xp_BW xp_NW xp_SW xp_exn 81 6 (.aload 0) := Or.inr ⟨0, rfl, xd_81_10, rfl⟩
theorem xk_81_7 : xk_OkA xp_F (xp_P sc) xp_cl xp_BW xp_NW xp_SW xp_exn 81 7 (.getfield 99) := ⟨_, xd_81_11, rfl, ⟨_, _, _, rfl, by decide, xu_3, Or.inl xwt_80⟩⟩
theorem xk_81_8 : xk_OkA xp_F (xp_P sc) xp_cl xp_BW xp_NW xp_SW xp_exn 81 8 (.invokeinterface 13 1) := ⟨rfl, Or.inl ⟨xwt_313, rfl⟩, rfl, rfl, xwt_4, by decide +kernel, by decide +kernel, Nat.le_of_ble_eq_true rfl, _, Or.inr ⟨_, xwn_310⟩, Or.inr ⟨xd_81_14, xwt_312, xws_20, ⟨_, _, _, rfl, rfl⟩, by decide +kernel⟩⟩
theorem xk_81_9 : xk_OkA xp_F (xp_P sc) xp_cl xp_BW xp_NW xp_SW xp_exn 81 9 (.return_) := ⟨xd_81_17, rfl⟩
theorem xl_81 : xk_OkL xp_F (xp_P sc) xp_cl xp_BW xp_NW xp_SW xp_exn 81 0 xc_81 := ⟨xk_81_0, xk_81_1, xk_81_2, xk_81_3, xk_81_4, xk_81_5, xk_81_6, xk_81_7, xk_81_8, xk_81_9, trivial⟩
theorem xd_82_0 : decode prog_1_method_44_code 0 = .ok (.aload_n 0, 1) := by decide +kernel
theorem xd_82_1 : decode prog_1_method_44_code 1 = .ok (.getfield 37, 3) := by decide +kernel
theorem xd_82_4 : decode prog_1_method_44_code 4 = .ok (.ifCond .ne 18, 3) := by decide +kernel
theorem xd_82_7 : decode prog_1_method_44_code 7 = .ok (.aload_n 0, 1) := by decide +kernel
theorem xd_82_8 : decode prog_1_method_44_code 8 = .ok (.invokevirtual 238, 3) := by decide +kernel
theorem xd_82_11 : decode prog_1_method_44_code 11 = .ok (.new 279, 3) := by decide +kernel
theorem xd_82_14 : decode prog_1_method_44_code 14 = .ok (.dup, 1) := by decide +kernel
theorem xd_82_15 : decode prog_1_method_44_code 15 = .ok (.ldc_w 301, 3) := by decide +kernel
theorem xd_82_18 : decode prog_1_method_44_code 18 = .ok (.invokespecial 283, 3) := by decide +kernel
theorem xd_82_21 : decode prog_1_method_44_code 21 = .ok (.athrow, 1) := by decide +kernel
theorem xd_82_22 : decode prog_1_method_44_code 22 = .ok (.aload_n 0, 1) := by decide +kernel
theorem xd_82_23 : decode prog_1_method_44_code 23 = .ok (.getfield 37, 3) := by decide +kernel
theorem xd_82_26 : decode prog_1_method_44_code 26 = .ok (.ifCond .le 13, 3) := by decide +kernel
theorem xd_82_29 : decode prog_1_method_44_code 29 = .ok (.aload_n 0, 1) := by decide +kernel
theorem xd_82_30 : decode prog_1_method_44_code 30 = .ok (.dup, 1) := by decide +kernel
theorem xd_82_31 : decode prog_1_method_44_code 31 = .ok (.getfield 37, 3) := by decide +kernel
theorem xd_82_34 : decode prog_1_method_44_code 34 = .ok (.iconst 1, 1) := by decide +kernel
theorem xd_82_35 : decode prog_1_method_44_code 35 = .ok (.isub, 1) := by decide +kernel
theorem xd_82_36 : decode prog_1_method_44_code 36 = .ok (.putfield 37, 3) := by decide +kernel
theorem xd_82_39 : decode prog_1_method_44_code 39 = .ok (.return_, 1) := by decide +kernel
theorem xk_82_0 : xk_OkA xp_F (xp_P sc) xp_cl xp_BW xp_NW xp_SW xp_exn 82 0 (.aload 0) := Or.inr ⟨0, rfl, xd_82_0, rfl⟩
theorem xk_82_1 : xk_OkA xp_F (xp_P sc) xp_cl xp_BW xp_NW xp_SW xp_exn 82 1 (.getfield 101) := ⟨_, xd_82_1, rfl, ⟨_, _, _, rfl, by decide, xu_3, Or.inl xwt_82⟩⟩
theorem xk_82_2 : xk_OkA xp_F (xp_P sc) xp_cl xp_BW xp_NW xp_SW xp_exn 82 2 (.ifCond .ne 6) := ⟨_, xd_82_4, by unfold xf_to; decide +kernel, rfl⟩
theorem xk_82_3 : xk_OkA xp_F (xp_P sc) xp_cl xp_BW xp_NW xp_SW xp_exn 82 3 (.aload 0) := Or.inr ⟨0, rfl, xd_82_7, rfl⟩
theorem xk_82_4 : xk_OkA xp_F (xp_P sc) xp_cl xp_BW xp_NW xp_SW xp_exn 82 4 (.invokeinterface 81 1) := ⟨rfl, Or.inl ⟨xwt_309, rfl⟩, rfl, rfl, xwt_1, by decide +kernel, by decide +kernel, Nat.le_of_ble_eq_true rfl, _, Or.inl xwt_306, Or.inr ⟨xd_82_8, xwt_308, xws_19, ⟨_, _, _, rfl, rfl⟩, by decide +kernel⟩⟩
theorem xk_82_5 : xk_OkA xp_F (xp_P sc) xp_cl xp_BW xp_NW xp_SW xp_exn 82 5 (.new 0) := ⟨279, 301, 283, _, xp_chain, xd_82_11, xd_82_14, List.mem_of_getElem? (i := 5) rfl, xwt_122, xwt_9, by decide +kernel, by decide +kernel, rfl, Or.inl ⟨xa_3_0, xo_3_0, by decide, by decide, Or.inr ⟨xd_82_15, xd_82_18, xd_82_21⟩⟩⟩
theorem xk_82_6 : xk_OkA xp_F (xp_P sc) xp_cl xp_BW xp_NW xp_SW xp_exn 82 6 (.aload 0) := Or.inr ⟨0, rfl, xd_82_22, rfl⟩
theorem xk_82_7 : xk_OkA xp_F (xp_P sc) xp_cl xp_BW xp_NW xp_SW xp_exn 82 7 (.getfield 101) := ⟨_, xd_82_23, rfl, ⟨_, _, _, rfl, by decide, xu_3, Or.inl xwt_82⟩⟩
theorem xk_82_8 : xk_OkA xp_F (xp_P sc) xp_cl xp_BW xp_NW xp_SW xp_exn 82 8 (.ifCond .le 15) := ⟨_, xd_82_26, by unfold xf_to; decide +kernel, rfl⟩
theorem xk_82_9 : xk_OkA xp_F (xp_P sc) xp_cl xp_BW xp_NW xp_SW xp_exn 82 9 (.aload 0) := Or.inr ⟨0, rfl, xd_82_29, rfl⟩
theorem xk_82_10 : xk_OkA xp_F (xp_P sc) xp_cl xp_BW xp_NW xp_SW xp_exn 82 10 (.dup) := ⟨xd_82_30, rfl⟩
theorem xk_82_11 : xk_OkA xp_F (xp_P sc) xp_cl xp_BW xp_NW xp_SW xp_exn 82 11 (.getfield 101) := ⟨_, xd_82_31, rfl, ⟨_, _, _, rfl, by decide, xu_3, Or.inl xwt_82⟩⟩
theorem xk_82_12 : xk_OkA xp_F (xp_P sc) xp_cl xp_BW xp_NW xp_SW xp_exn 82 12 (.iconst 1) := Or.inl ⟨xd_82_34, rfl⟩
theorem xk_82_13 : xk_OkA xp_F (xp_P sc) xp_cl xp_BW xp_NW xp_SW xp_exn 82 13 (.isub) := ⟨xd_82_35, rfl⟩
theorem xk_82_14 : xk_OkA xp_F (xp_P sc) xp_cl xp_BW xp_NW xp_SW xp_exn 82 14 (.putfield 101) := ⟨_, xd_82_36, rfl, ⟨_, _, _, rfl, by decide, xu_3, Or.inl xwt_82⟩, xf_3_5⟩
theorem xk_82_15 : xk_OkA xp_F (xp_P sc) xp_cl xp_BW xp_NW xp_SW xp_exn 82 15 (.return_) := ⟨xd_82_39, rfl⟩
theorem xl_82 : xk_OkL xp_F (xp_P sc) xp_cl xp_BW xp_NW xp_SW xp_exn 82 0 xc_82 := ⟨xk_82_0, xk_82_1, xk_82_2, xk_82_3, xk_82_4, xk_82_5, xk_82_6, xk_82_7, xk_82_8, xk_82_9, xk_82_10, xk_82_11, xk_82_12, xk_82_13, xk_82_14, xk_82_15, trivial⟩
theorem xd_83_0 : decode prog_1_method_45_code 0 = .ok (.aload_n 0, 1) := by decide +kernel
theorem xd_83_1 : decode prog_1_method_45_code 1 = .ok (.invokevirtual 303, 3) := by decide +kernel
theorem xd_83_4 : decode prog_1_method_45_code 4 = .ok (.aload_n 0, 1) := by decide +kernel
theorem xd_83_5 : decode prog_1_method_45_code 5 = .ok (.getfield 12, 3) := by decide +kernel
theorem xd_83_8 : decode prog_1_method_45_code 8 = .ok (.iload_n 1, 1) := by decide +kernel
theorem xd_83_9 : decode prog_1_method_45_code 9 = .ok (.iload_n 2, 1) := by decide +kernel
theorem xd_83_10 : decode prog_1_method_45_code 10 = .ok (.iload_n 3, 1) := by decide +kernel
theorem xd_83_11 : decode prog_1_method_45_code 11 = .ok (.invokevirtual 306, 3) := by decide +kernel
theorem xd_83_14 : decode prog_1_method_45_code 14 = .ok (.return_, 1) := by decide +kernel
theorem xk_83_0 : xk_OkA xp_F (xp_P sc) xp_cl xp_BW xp_NW xp_SW xp_exn 83 0 (.aload 0) := Or.inr ⟨0, rfl, xd_83_0, rfl⟩
theorem xk_83_1 : xk_OkA xp_F (xp_P sc) xp_cl xp_BW xp_NW xp_SW xp_exn 83 1 (.invokeinterface 82 1) := ⟨rfl, Or.inl ⟨xwt_305, rfl⟩, rfl, rfl, xwt_1, by decide +kernel, by decide +kernel, Nat.le_of_ble_eq_true rfl, _, Or.inl xwt_302, Or.inr ⟨xd_83_1, xwt_304, xws_18, ⟨_, _, _, rfl, rfl⟩, by decide +kernel⟩⟩
theorem xk_83_2 : xk_OkA xp_F (xp_P sc) xp_cl xp_BW xp_NW xp_SW xp_exn 83 2 (.aload 0) := Or.inr ⟨0, rfl, xd_83_4, rfl⟩
theorem xk_83_3 : xk_OkA xp_F (xp_P sc) xp_cl xp_BW xp_NW xp_SW xp_exn 83 3 (.getfield 96) := ⟨_, xd_83_5, rfl, ⟨_, _, _, rfl, by decide, xu_3, Or.inl xwt_77⟩⟩
theorem xk_83_4 : xk_OkA xp_F (xp_P sc) xp_cl xp_BW xp_NW xp_SW xp_exn 83 4 (.iload 1) := Or.inr ⟨1, rfl, xd_83_8, rfl⟩
theorem xk_83_5 : xk_OkA xp_F (xp_P sc) xp_cl xp_BW xp_NW xp_SW xp_exn 83 5 (.iload 2) := Or.inr ⟨2, rfl, xd_83_9, rfl⟩
theorem xk_83_6 : xk_OkA xp_F (xp_P sc) xp_cl xp_BW xp_NW xp_SW xp_exn 83 6 (.iload 3) := Or.inr ⟨3, rfl, xd_83_10, rfl⟩
theorem xk_83_7 : xk_OkA xp_F (xp_P sc) xp_cl xp_BW xp_NW xp_SW xp_exn 83 7 (.invokeinterface 10 4) := ⟨rfl, Or.inl ⟨xwt_469, rfl⟩, rfl, rfl, xwt_2, by decide +kernel, by decide +kernel, Nat.le_of_ble_eq_true rfl, _, Or.inr ⟨_, xwn_466⟩, Or.inr ⟨xd_83_11, xwt_468, xws_46, ⟨_, _, _, rfl, rfl⟩, by decide +kernel⟩⟩
theorem xk_83_8 : xk_OkA xp_F (xp_P sc) xp_cl xp_BW xp_NW xp_SW xp_exn 83 8 (.return_) := ⟨xd_83_14, rfl⟩
theorem xl_83 : xk_OkL xp_F (xp_P sc) xp_cl xp_BW xp_NW xp_SW xp_exn 83 0 xc_83 := ⟨xk_83_0, xk_83_1, xk_83_2, xk_83_3, xk_83_4, xk_83_5, xk_83_6, xk_83_7, xk_83_8, trivial⟩
theorem xd_84_0 : decode prog_1_method_46_code 0 = .ok (.aload_n 0, 1) := by decide +kernel
theorem xd_84_1 : decode prog_1_method_46_code 1 = .ok (.aload_n 0, 1) := by decide +kernel
theorem xd_84_2 : decode prog_1_method_46_code 2 = .ok (.getfield 19, 3) := by decide +kernel
theorem xd_84_5 : decode prog_1_method_46_code 5 = .ok (.iload_n 1, 1) := by decide +kernel
theorem xd_84_6 : decode prog_1_method_46_code 6 = .ok (.invokevirtual 199, 3) := by decide +kernel
theorem xd_84_9 : decode prog_1_method_46_code 9 = .ok (.iload_n 2, 1) := by decide +kernel
theorem xd_84_10 : decode prog_1_method_46_code 10 = .ok (.iload_n 3, 1) := by decide +kernel
theorem xd_84_11 : decode prog_1_method_46_code 11 = .ok (.invokevirtual 309, 3) := by decide +kernel
theorem xd_84_14 : decode prog_1_method_46_code 14 = .ok (.aload_n 0, 1) := by decide +kernel
theorem xd_84_15 : decode prog_1_method_46_code 15 = .ok (.getfield 29, 3) := by decide +kernel
theorem xd_84_18 : decode prog_1_method_46_code 18 = .ok (.iload_n 1, 1) := by decide +kernel
theorem xd_84_19 : decode prog_1_method_46_code 19 = .ok (.iload_n 2, 1) := by decide +kernel
theorem xd_84_20 : decode prog_1_method_46_code 20 = .ok (.invokevirtual 312, 3) := by decide +kernel
theorem xd_84_23 : decode prog_1_method_46_code 23 = .ok (.ifCond .eq 16, 3) := by decide +kernel
theorem xd_84_26 : decode prog_1_method_46_code 26 = .ok (.aload_n 0, 1) := by decide +kernel
theorem xd_84_27 : decode prog_1_method_46_code 27 = .ok (.aload_n 0, 1) := by decide +kernel
theorem xd_84_28 : decode prog_1_method_46_code 28 = .ok (.getfield 29, 3) := by decide +kernel
theorem xd_84_31 : decode prog_1_method_46_code 31 = .ok (.getfield 90, 3) := by decide +kernel
theorem xd_84_34 : decode prog_1_method_46_code 34 = .ok (.iload_n 2, 1) := by decide +kernel
theorem xd_84_35 : decode prog_1_method_46_code 35 = .ok (.iload_n 3, 1) := by decide +kernel
theorem xd_84_36 : decode prog_1_method_46_code 36 = .ok (.invokevirtual 309, 3) := by decide +kernel
theorem xd_84_39 : decode prog_1_method_46_code 39 = .ok (.return_, 1) := by decide +kernel
theorem xk_84_0 : xk_OkA xp_F (xp_P sc) xp_cl xp_BW xp_NW xp_SW xp_exn 84 0 (.aload 0) := Or.inr ⟨0, rfl, xd_84_0, rfl⟩
theorem xk_84_1 : xk_OkA xp_F (xp_P sc) xp_cl xp_BW xp_NW xp_SW xp_exn 84 1 (.aload 0) := Or.inr ⟨0, rfl, xd_84_1, rfl⟩
theorem xk_84_2 : xk_OkA xp_F (xp_P sc) xp_cl xp_BW xp_NW xp_SW xp_exn 84 2 (.getfield 97) := ⟨_, xd_84_2, rfl, ⟨_, _, _, rfl, by decide, xu_3, Or.inl xwt_78⟩⟩
theorem xk_84_3 : xk_OkA xp_F (xp_P sc) xp_cl xp_BW xp_NW xp_SW xp_exn 84 3 (.iload 1) := Or.inr ⟨1, rfl, xd_84_5, rfl⟩
theorem xk_84_4 : xk_OkA xp_F (xp_P sc) xp_cl xp_BW xp_NW xp_SW xp_exn 84 4 (.invokeinterface 34 2) := ⟨rfl, Or.inl ⟨xwt_322, rfl⟩, rfl, rfl, xwt_3, by decide +kernel, by decide +kernel, Nat.le_of_ble_eq_true rfl, _, Or.inr ⟨_, xwn_319⟩, Or.inr ⟨xd_84_6, xwt_321, xws_22, ⟨_, _, _, rfl, rfl⟩, by decide +kernel⟩⟩
theorem xk_84_5 : xk_OkA xp_F (xp_P sc) xp_cl xp_BW xp_NW xp_SW xp_exn 84 5 (.iload 2) := Or.inr ⟨2, rfl, xd_84_9, rfl⟩
theorem xk_84_6 : xk_OkA xp_F (xp_P sc) xp_cl xp_BW xp_NW xp_SW xp_exn 84 6 (.iload 3) := Or.inr ⟨3, rfl, xd_84_10, rfl⟩
theorem xk_84_7 : xk_OkA xp_F (xp_P sc) xp_cl xp_BW xp_NW xp_SW xp_exn 84 7 (.invokeinterface 83 4) := ⟨rfl, Or.inl ⟨xwt_465, rfl⟩, rfl, rfl, xwt_1, by decide +kernel, by decide +kernel, Nat.le_of_ble_eq_true rfl, _, Or.inl xwt_462, Or.inr ⟨xd_84_11, xwt_464, xws_45, ⟨_, _, _, rfl, rfl⟩, by decide +kernel⟩⟩
theorem xk_84_8 : xk_OkA xp_F (xp_P sc) xp_cl xp_BW xp_NW xp_SW xp_exn 84 8 (.aload 0) := Or.inr ⟨0, rfl, xd_84_14, rfl⟩
theorem xk_84_9 : xk_OkA xp_F (xp_P sc) xp_cl xp_BW xp_NW xp_SW xp_exn 84 9 (.getfield 99) := ⟨_, xd_84_15, rfl, ⟨_, _, _, rfl, by decide, xu_3, Or.inl xwt_80⟩⟩
theorem xk_84_10 : xk_OkA xp_F (xp_P sc) xp_cl xp_BW xp_NW xp_SW xp_exn 84 10 (.iload 1) := Or.inr ⟨1, rfl, xd_84_18, rfl⟩
theorem xk_84_11 : xk_OkA xp_F (xp_P sc) xp_cl xp_BW xp_NW xp_SW xp_exn 84 11 (.iload 2) := Or.inr ⟨2, rfl, xd_84_19, rfl⟩
theorem xk_84_12 : xk_OkA xp_F (xp_P sc) xp_cl xp_BW xp_NW xp_SW xp_exn 84 12 (.invokeinterface 16 3) := ⟨rfl, Or.inl ⟨xwt_611, rfl⟩, rfl, rfl, xwt_4, by decide +kernel, by decide +kernel, Nat.le_of_ble_eq_true rfl, _, Or.inr ⟨_, xwn_608⟩, Or.inr ⟨xd_84_20, xwt_610, xws_63, ⟨_, _, _, rfl, rfl⟩, by decide +kernel⟩⟩
theorem xk_84_13 : xk_OkA xp_F (xp_P sc) xp_cl xp_BW xp_NW xp_SW xp_exn 84 13 (.ifCond .eq 21) := ⟨_, xd_84_23, by unfold xf_to; decide +kernel, rfl⟩
theorem xk_84_14 : xk_OkA xp_F (xp_P sc) xp_cl xp_BW xp_NW xp_SW xp_exn 84 14 (.aload 0) := Or.inr ⟨0, rfl, xd_84_26, rfl⟩
theorem xk_84_15 : xk_OkA xp_F (xp_P sc) xp_cl xp_BW xp_NW xp_SW xp_exn 84 15 (.aload 0) := Or.inr ⟨0, rfl, xd_84_27, rfl⟩
theorem xk_84_16 : xk_OkA xp_F (xp_P sc) xp_cl xp_BW xp_NW xp_SW xp_exn 84 16 (.getfield 99) := ⟨_, xd_84_28, rfl, ⟨_, _, _, rfl, by decide, xu_3, Or.inl xwt_80⟩⟩
theorem xk_84_17 : xk_OkA xp_F (xp_P sc) xp_cl xp_BW xp_NW xp_SW xp_exn 84 17 (.getfield 34) := ⟨_, xd_84_31, rfl, ⟨_, _, _, rfl, by decide, xu_1, Or.inr ⟨_, xwn_65⟩⟩⟩
theorem xk_84_18 : xk_OkA xp_F (xp_P sc) xp_cl xp_BW xp_NW xp_SW xp_exn 84 18 (.iload 2) := Or.inr ⟨2, rfl, xd_84_34, rfl⟩
theorem xk_84_19 : xk_OkA xp_F (xp_P sc) xp_cl xp_BW xp_NW xp_SW xp_exn 84 19 (.iload 3) := Or.inr ⟨3, rfl, xd_84_35, rfl⟩
theorem xk_84_20 : xk_OkA xp_F (xp_P sc) xp_cl xp_BW xp_NW xp_SW xp_exn 84 20 (.invokeinterface 83 4) := ⟨rfl, Or.inl ⟨xwt_465, rfl⟩, rfl, rfl, xwt_1, by decide +kernel, by decide +kernel, Nat.le_of_ble_eq_true rfl, _, Or.inl xwt_462, Or.inr ⟨xd_84_36, xwt_464, xws_45, ⟨_, _, _, rfl, rfl⟩, by decide +kernel⟩⟩
theorem xk_84_21 : xk_OkA xp_F (xp_P sc) xp_cl xp_BW xp_NW xp_SW xp_exn 84 21 (.return_) := ⟨xd_84_39, rfl⟩
theorem xl_84 : xk_OkL xp_F (xp_P sc) xp_cl xp_BW xp_NW xp_SW xp_exn 84 0 xc_84 := ⟨xk_84_0, xk_84_1, xk_84_2, xk_84_3, xk_84_4, xk_84_5, xk_84_6, xk_84_7, xk_84_8, xk_84_9, xk_84_10, xk_84_11, xk_84_12, xk_84_13, xk_84_14, xk_84_15, xk_84_16, xk_84_17, xk_84_18, xk_84_19, xk_84_20, xk_84_21, trivial⟩
theorem xd_85_0 : decode prog_1_method_47_code 0 = .ok (.aload_n 0, 1) := by decide +kernel
theorem xd_85_1 : decode prog_1_method_47_code 1 = .ok (.getfield 23, 3) := by decide +kernel
theorem xd_85_4 : decode prog_1_method_47_code 4 = .ok (.aload_n 0, 1) := by decide +kernel
theorem xd_85_5 : decode prog_1_method_47_code 5 = .ok (.getfield 19, 3) := by decide +kernel
theorem xd_85_8 : decode prog_1_method_47_code 8 = .ok (.getfield 315, 3) := by decide +kernel
theorem xd_85_11 : decode prog_1_method_47_code 11 = .ok (.iconst 0, 1) := by decide +kernel
theorem xd_85_12 : decode prog_1_method_47_code 12 = .ok (.invokevirtual 319, 3) := by decide +kernel
theorem xd_85_15 : decode prog_1_method_47_code 15 = .ok (.return_, 1) := by decide +kernel
theorem xk_85_0 : xk_OkA xp_F (xp_P sc) xp_cl xp_BW xp_NW xp_SW xp_exn 85 0 (.aload 0) := Or.inr ⟨0, rfl, xd_85_0, rfl⟩
theorem xk_85_1 : xk_OkA xp_F (xp_P sc) xp_cl xp_BW xp_NW xp_SW xp_exn 85 1 (.getfield 98) := ⟨_, xd_85_1, rfl, ⟨_, _, _, rfl, by decide, xu_3, Or.inl xwt_79⟩⟩
theorem xk_85_2 : xk_OkA xp_F (xp_P sc) xp_cl xp_BW xp_NW xp_SW xp_exn 85 2 (.aload 0) := Or.inr ⟨0, rfl, xd_85_4, rfl⟩
theorem xk_85_3 : xk_OkA xp_F (xp_P sc) xp_cl xp_BW xp_NW xp_SW xp_exn 85 3 (.getfield 97) := ⟨_, xd_85_5, rfl, ⟨_, _, _, rfl, by decide, xu_3, Or.inl xwt_78⟩⟩
theorem xk_85_4 : xk_OkA xp_F (xp_P sc) xp_cl xp_BW xp_NW xp_SW xp_exn 85 4 (.getfield 64) := ⟨_, xd_85_8, rfl, ⟨_, _, _, rfl, by decide, xu_2, Or.inr ⟨_, xwn_50⟩⟩⟩
theorem xk_85_5 : xk_OkA xp_F (xp_P sc) xp_cl xp_BW xp_NW xp_SW xp_exn 85 5 (.iconst 0) := Or.inl ⟨xd_85_11, rfl⟩
theorem xk_85_6 : xk_OkA xp_F (xp_P sc) xp_cl xp_BW xp_NW xp_SW xp_exn 85 6 (.invokeinterface 17 3) := ⟨rfl, Or.inl ⟨xwt_263, rfl⟩, rfl, rfl, xwt_3, by decide +kernel, by decide +kernel, Nat.le_of_ble_eq_true rfl, _, Or.inr ⟨_, xwn_260⟩, Or.inr ⟨xd_85_12, xwt_262, xws_10, ⟨_, _, _, rfl, rfl⟩, by decide +kernel⟩⟩
theorem xk_85_7 : xk_OkA xp_F (xp_P sc) xp_cl xp_BW xp_NW xp_SW xp_exn 85 7 (.return_) := ⟨xd_85_15, rfl⟩
theorem xl_85 : xk_OkL xp_F (xp_P sc) xp_cl xp_BW xp_NW xp_SW xp_exn 85 0 xc_85 := ⟨xk_85_0, xk_85_1, xk_85_2, xk_85_3, xk_85_4, xk_85_5, xk_85_6, xk_85_7, trivial⟩
theorem xd_86_0 : decode prog_1_method_48_code 0 = .ok (.aload_n 0, 1) := by decide +kernel
theorem xd_86_1 : decode prog_1_method_48_code 1 = .ok (.getfield 23, 3) := by decide +kernel
theorem xd_86_4 : decode prog_1_method_48_code 4 = .ok (.aload_n 0, 1) := by decide +kernel
theorem xd_86_5 : decode prog_1_method_48_code 5 = .ok (.getfield 19, 3) := by decide +kernel
theorem xd_86_8 : decode prog_1_method_48_code 8 = .ok (.invokevirtual 255, 3) := by decide +kernel
theorem xd_86_11 : decode prog_1_method_48_code 11 = .ok (.aload_n 0, 1) := by decide +kernel
theorem xd_86_12 : decode prog_1_method_48_code 12 = .ok (.invokevirtual 290, 3) := by decide +kernel
theorem xd_86_15 : decode prog_1_method_48_code 15 = .ok (.ifCond .eq 7, 3) := by decide +kernel
theorem xd_86_18 : decode prog_1_method_48_code 18 = .ok (.iconst 2, 1) := by decide +kernel
theorem xd_86_19 : decode prog_1_method_48_code 19 = .ok (.goto 4, 3) := by decide +kernel
theorem xd_86_22 : decode prog_1_method_48_code 22 = .ok (.iconst 1, 1) := by decide +kernel
theorem xd_86_23 : decode prog_1_method_48_code 23 = .ok (.iadd, 1) := by decide +kernel
theorem xd_86_24 : decode prog_1_method_48_code 24 = .ok (.invokevirtual 323, 3) := by decide +kernel
theorem xd_86_27 : decode prog_1_method_48_code 27 = .ok (.iconst 0, 1) := by decide +kernel
theorem xd_86_28 : decode prog_1_method_48_code 28 = .ok (.istore_n 1, 1) := by decide +kernel
theorem xd_86_29 : decode prog_1_method_48_code 29 = .ok (.iload_n 1, 1) := by decide +kernel
theorem xd_86_30 : decode prog_1_method_48_code 30 = .ok (.iconst 4, 1) := by decide +kernel
theorem xd_86_31 : decode prog_1_method_48_code 31 = .ok (.if_icmp .ge 30, 3) := by decide +kernel
theorem xd_86_34 : decode prog_1_method_48_code 34 = .ok (.aload_n 0, 1) := by decide +kernel
theorem xd_86_35 : decode prog_1_method_48_code 35 = .ok (.aload_n 0, 1) := by decide +kernel
theorem xd_86_36 : decode prog_1_method_48_code 36 = .ok (.getfield 23, 3) := by decide +kernel
theorem xd_86_39 : decode prog_1_method_48_code 39 = .ok (.iload_n 1, 1) := by decide +kernel
theorem xd_86_40 : decode prog_1_method_48_code 40 = .ok (.invokevirtual 251, 3) := by decide +kernel
theorem xd_86_43 : decode prog_1_method_48_code 43 = .ok (.ifCond .eq 12, 3) := by decide +kernel
theorem xd_86_46 : decode prog_1_method_48_code 46 = .ok (.aload_n 0, 1) := by decide +kernel
theorem xd_86_47 : decode prog_1_method_48_code 47 = .ok (.aload_n 0, 1) := by decide +kernel
theorem xd_86_48 : decode prog_1_method_48_code 48 = .ok (.getfield 23, 3) := by decide +kernel
theorem xd_86_51 : decode prog_1_method_48_code 51 = .ok (.iload_n 1, 1) := by decide +kernel
theorem xd_86_52 : decode prog_1_method_48_code 52 = .ok (.invokevirtual 261, 3) := by decide +kernel
theorem xd_86_55 : decode prog_1_method_48_code 55 = .ok (.iinc 1 (1), 3) := by decide +kernel
theorem xd_86_58 : decode prog_1_method_48_code 58 = .ok (.goto (-29), 3) := by decide +kernel
theorem xd_86_61 : decode prog_1_method_48_code 61 = .ok (.aload_n 0, 1) := by decide +kernel
theorem xd_86_62 : decode prog_1_method_48_code 62 = .ok (.getfield 19, 3) := by decide +kernel
theorem xd_86_65 : decode prog_1_method_48_code 65 = .ok (.aload_n 0, 1) := by decide +kernel
theorem xd_86_66 : decode prog_1_method_48_code 66 = .ok (.getfield 23, 3) := by decide +kernel
theorem xd_86_69 : decode prog_1_method_48_code 69 = .ok (.getfield 315, 3) := by decide +kernel
theorem xd_86_72 : decode prog_1_method_48_code 72 = .ok (.iconst 0, 1) := by decide +kernel
theorem xd_86_73 : decode prog_1_method_48_code 73 = .ok (.invokevirtual 319, 3) := by decide +kernel
theorem xd_86_76 : decode prog_1_method_48_code 76 = .ok (.aload_n 0, 1) := by decide +kernel
theorem xd_86_77 : decode prog_1_method_48_code 77 = .ok (.getfield 29, 3) := by decide +kernel
theorem xd_86_80 : decode prog_1_method_48_code 80 = .ok (.getfield 212, 3) := by decide +kernel
theorem xd_86_83 : decode prog_1_method_48_code 83 = .ok (.iconst (-1), 1) := by decide +kernel
theorem xd_86_84 : decode prog_1_method_48_code 84 = .ok (.if_icmp .eq 28, 3) := by decide +kernel
theorem xd_86_87 : decode prog_1_method_48_code 87 = .ok (.aload_n 0, 1) := by decide +kernel
theorem xd_86_88 : decode prog_1_method_48_code 88 = .ok (.getfield 19, 3) := by decide +kernel
theorem xd_86_91 : decode prog_1_method_48_code 91 = .ok (.aload_n 0, 1) := by decide +kernel
theorem xd_86_92 : decode prog_1_method_48_code 92 = .ok (.getfield 29, 3) := by decide +kernel
theorem xd_86_95 : decode prog_1_method_48_code 95 = .ok (.getfield 212, 3) := by decide +kernel
theorem xd_86_98 : decode prog_1_method_48_code 98 = .ok (.invokevirtual 199, 3) := by decide +kernel
theorem xd_86_101 : decode prog_1_method_48_code 101 = .ok (.iconst (-1), 1) := by decide +kernel
theorem xd_86_102 : decode prog_1_method_48_code 102 = .ok (.if_icmp .ne 10, 3) := by decide +kernel
theorem xd_86_105 : decode prog_1_method_48_code 105 = .ok (.aload_n 0, 1) := by decide +kernel
theorem xd_86_106 : decode prog_1_method_48_code 106 = .ok (.getfield 29, 3) := by decide +kernel
theorem xd_86_109 : decode prog_1_method_48_code 109 = .ok (.invokevirtual 326, 3) := by decide +kernel
theorem xd_86_112 : decode prog_1_method_48_code 112 = .ok (.return_, 1) := by decide +kernel
theorem xk_86_0 : xk_OkA xp_F (xp_P sc) xp_cl xp_BW xp_NW xp_SW xp_exn 86 0 (.aload 0) := Or.inr ⟨0, rfl, xd_86_0, rfl⟩
theorem xk_86_1 : xk_OkA xp_F (xp_P sc) xp_cl xp_BW xp_NW xp_SW xp_exn 86 1 (.getfield 98) := ⟨_, xd_86_1, rfl, ⟨_, _, _, rfl, by decide, xu_3, Or.inl xwt_79⟩⟩
theorem xk_86_2 : xk_OkA xp_F (xp_P sc) xp_cl xp_BW xp_NW xp_SW xp_exn 86 2 (.aload 0) := Or.inr ⟨0, rfl, xd_86_4, rfl⟩
theorem xk_86_3 : xk_OkA xp_F (xp_P sc) xp_cl xp_BW xp_NW xp_SW xp_exn 86 3 (.getfield 97) := ⟨_, xd_86_5, rfl, ⟨_, _, _, rfl, by decide, xu_3, Or.inl xwt_78⟩⟩
theorem xk_86_4 : xk_OkA xp_F (xp_P sc) xp_cl xp_BW xp_NW xp_SW xp_exn 86 4 (.invokeinterface 21 1) := ⟨rfl, Or.inl ⟨xwt_107, rfl⟩, rfl, rfl, xwt_3, by decide +kernel, by decide +kernel, Nat.le_of_ble_eq_true rfl, _, Or.inr ⟨_, xwn_104⟩, Or.inr ⟨xd_86_8, xwt_106, xws_0, ⟨_, _, _, rfl, rfl⟩, by decide +kernel⟩⟩
theorem xk_86_5 : xk_OkA xp_F (xp_P sc) xp_cl xp_BW xp_NW xp_SW xp_exn 86 5 (.aload 0) := Or.inr ⟨0, rfl, xd_86_11, rfl⟩
theorem xk_86_6 : xk_OkA xp_F (xp_P sc) xp_cl xp_BW xp_NW xp_SW xp_exn 86 6 (.invokeinterface 70 1) := ⟨rfl, Or.inl ⟨xwt_250, rfl⟩, rfl, rfl, xwt_1, by decide +kernel, by decide +kernel, Nat.le_of_ble_eq_true rfl, _, Or.inl xwt_247, Or.inr ⟨xd_86_12, xwt_249, xws_7, ⟨_, _, _, rfl, rfl⟩, by decide +kernel⟩⟩
theorem xk_86_7 : xk_OkA xp_F (xp_P sc) xp_cl xp_BW xp_NW xp_SW xp_exn 86 7 (.ifCond .eq 10) := ⟨_, xd_86_15, by unfold xf_to; decide +kernel, rfl⟩
theorem xk_86_8 : xk_OkA xp_F (xp_P sc) xp_cl xp_BW xp_NW xp_SW xp_exn 86 8 (.iconst 2) := Or.inl ⟨xd_86_18, rfl⟩
theorem xk_86_9 : xk_OkA xp_F (xp_P sc) xp_cl xp_BW xp_NW xp_SW xp_exn 86 9 (.goto 11) := ⟨_, xd_86_19, by unfold xf_to; decide +kernel⟩
theorem xk_86_10 : xk_OkA xp_F (xp_P sc) xp_cl xp_BW xp_NW xp_SW xp_exn 86 10 (.iconst 1) := Or.inl ⟨xd_86_22, rfl⟩
theorem xk_86_11 : xk_OkA xp_F (xp_P sc) xp_cl xp_BW xp_NW xp_SW xp_exn 86 11 (.iadd) := ⟨xd_86_23, rfl⟩
theorem xk_86_12 : xk_OkA xp_F (xp_P sc) xp_cl xp_BW xp_NW xp_SW xp_exn 86 12 (.invokeinterface 19 2) := ⟨rfl, Or.inl ⟨xwt_278, rfl⟩, rfl, rfl, xwt_3, by decide +kernel, by decide +kernel, Nat.le_of_ble_eq_true rfl, _, Or.inr ⟨_, xwn_275⟩, Or.inr ⟨xd_86_24, xwt_277, xws_13, ⟨_, _, _, rfl, rfl⟩, by decide +kernel⟩⟩
theorem xk_86_13 : xk_OkA xp_F (xp_P sc) xp_cl xp_BW xp_NW xp_SW xp_exn 86 13 (.iconst 0) := Or.inl ⟨xd_86_27, rfl⟩
theorem xk_86_14 : xk_OkA xp_F (xp_P sc) xp_cl xp_BW xp_NW xp_SW xp_exn 86 14 (.istore 1) := Or.inr ⟨1, rfl, xd_86_28, rfl⟩
theorem xk_86_15 : xk_OkA xp_F (xp_P sc) xp_cl xp_BW xp_NW xp_SW xp_exn 86 15 (.iload 1) := Or.inr ⟨1, rfl, xd_86_29, rfl⟩
theorem xk_86_16 : xk_OkA xp_F (xp_P sc) xp_cl xp_BW xp_NW xp_SW xp_exn 86 16 (.iconst 4) := Or.inl ⟨xd_86_30, rfl⟩
theorem xk_86_17 : xk_OkA xp_F (xp_P sc) xp_cl xp_BW xp_NW xp_SW xp_exn 86 17 (.if_icmp .ge 31) := ⟨_, xd_86_31, by unfold xf_to; decide +kernel, rfl⟩
theorem xk_86_18 : xk_OkA xp_F (xp_P sc) xp_cl xp_BW xp_NW xp_SW xp_exn 86 18 (.aload 0) := Or.inr ⟨0, rfl, xd_86_34, rfl⟩
theorem xk_86_19 : xk_OkA xp_F (xp_P sc) xp_cl xp_BW xp_NW xp_SW xp_exn 86 19 (.aload 0) := Or.inr ⟨0, rfl, xd_86_35, rfl⟩
theorem xk_86_20 : xk_OkA xp_F (xp_P sc) xp_cl xp_BW xp_NW xp_SW xp_exn 86 20 (.getfield 98) := ⟨_, xd_86_36, rfl, ⟨_, _, _, rfl, by decide, xu_3, Or.inl xwt_79⟩⟩
theorem xk_86_21 : xk_OkA xp_F (xp_P sc) xp_cl xp_BW xp_NW xp_SW xp_exn 86 21 (.iload 1) := Or.inr ⟨1, rfl, xd_86_39, rfl⟩
theorem xk_86_22 : xk_OkA xp_F (xp_P sc) xp_cl xp_BW xp_NW xp_SW xp_exn 86 22 (.invokeinterface 87 3) := ⟨rfl, Or.inl ⟨xwt_285, rfl⟩, rfl, rfl, xwt_1, by decide +kernel, by decide +kernel, Nat.le_of_ble_eq_true rfl, _, Or.inl xwt_282, Or.inr ⟨xd_86_40, xwt_284, xws_14, ⟨_, _, _, rfl, rfl⟩, by decide +kernel⟩⟩
theorem xk_86_23 : xk_OkA xp_F (xp_P sc) xp_cl xp_BW xp_NW xp_SW xp_exn 86 23 (.ifCond .eq 29) := ⟨_, xd_86_43, by unfold xf_to; decide +kernel, rfl⟩
theorem xk_86_24 : xk_OkA xp_F (xp_P sc) xp_cl xp_BW xp_NW xp_SW xp_exn 86 24 (.aload 0) := Or.inr ⟨0, rfl, xd_86_46, rfl⟩
theorem xk_86_25 : xk_OkA xp_F (xp_P sc) xp_cl xp_BW xp_NW xp_SW xp_exn 86 25 (.aload 0) := Or.inr ⟨0, rfl, xd_86_47, rfl⟩
theorem xk_86_26 : xk_OkA xp_F (xp_P sc) xp_cl xp_BW xp_NW xp_SW xp_exn 86 26 (.getfield 98) := ⟨_, xd_86_48, rfl, ⟨_, _, _, rfl, by decide, xu_3, Or.inl xwt_79⟩⟩
theorem xk_86_27 : xk_OkA xp_F (xp_P sc) xp_cl xp_BW xp_NW xp_SW xp_exn 86 27 (.iload 1) := Or.inr ⟨1, rfl, xd_86_51, rfl⟩
theorem xk_86_28 : xk_OkA xp_F (xp_P sc) xp_cl xp_BW xp_NW xp_SW xp_exn 86 28 (.invokeinterface 88 3) := ⟨rfl, Or.inl ⟨xwt_289, rfl⟩, rfl, rfl, xwt_1, by decide +kernel, by decide +kernel, Nat.le_of_ble_eq_true rfl, _, Or.inl xwt_286, Or.inr ⟨xd_86_52, xwt_288, xws_15, ⟨_, _, _, rfl, rfl⟩, by decide +kernel⟩⟩
theorem xk_86_29 : xk_OkA xp_F (xp_P sc) xp_cl xp_BW xp_NW xp_SW xp_exn 86 29 (.iinc 1 (1)) := ⟨xd_86_55, rfl⟩
theorem xk_86_30 : xk_OkA xp_F (xp_P sc) xp_cl xp_BW xp_NW xp_SW xp_exn 86 30 (.goto 15) := ⟨_, xd_86_58, by unfold xf_to; decide +kernel⟩
theorem xk_86_31 : xk_OkA xp_F (xp_P sc) xp_cl xp_BW xp_NW xp_SW xp_exn 86 31 (.aload 0) := Or.inr ⟨0, rfl, xd_86_61, rfl⟩
theorem xk_86_32 : xk_OkA xp_F (xp_P sc) xp_cl xp_BW xp_NW xp_SW xp_exn 86 32 (.getfield 97) := ⟨_, xd_86_62, rfl, ⟨_, _, _, rfl, by decide, xu_3, Or.inl xwt_78⟩⟩
theorem xk_86_33 : xk_OkA xp_F (xp_P sc) xp_cl xp_BW xp_NW xp_SW xp_exn 86 33 (.aload 0) := Or.inr ⟨0, rfl, xd_86_65, rfl⟩
theorem xk_86_34 : xk_OkA xp_F (xp_P sc) xp_cl xp_BW xp_NW xp_SW xp_exn 86 34 (.getfield 98) := ⟨_, xd_86_66, rfl, ⟨_, _, _, rfl, by decide, xu_3, Or.inl xwt_79⟩⟩
theorem xk_86_35 : xk_OkA xp_F (xp_P sc) xp_cl xp_BW xp_NW xp_SW xp_exn 86 35 (.getfield 64) := ⟨_, xd_86_69, rfl, ⟨_, _, _, rfl, by decide, xu_2, Or.inr ⟨_, xwn_50⟩⟩⟩
theorem xk_86_36 : xk_OkA xp_F (xp_P sc) xp_cl xp_BW xp_NW xp_SW xp_exn 86 36 (.iconst 0) := Or.inl ⟨xd_86_72, rfl⟩
theorem xk_86_37 : xk_OkA xp_F (xp_P sc) xp_cl xp_BW xp_NW xp_SW xp_exn 86 37 (.invokeinterface 17 3) := ⟨rfl, Or.inl ⟨xwt_263, rfl⟩, rfl, rfl, xwt_3, by decide +kernel, by decide +kernel, Nat.le_of_ble_eq_true rfl, _, Or.inr ⟨_, xwn_260⟩, Or.inr ⟨xd_86_73, xwt_262, xws_10, ⟨_, _, _, rfl, rfl⟩, by decide +kernel⟩⟩
theorem xk_86_38 : xk_OkA xp_F (xp_P sc) xp_cl xp_BW xp_NW xp_SW xp_exn 86 38 (.aload 0) := Or.inr ⟨0, rfl, xd_86_76, rfl⟩
theorem xk_86_39 : xk_OkA xp_F (xp_P sc) xp_cl xp_BW xp_NW xp_SW xp_exn 86 39 (.getfield 99) := ⟨_, xd_86_77, rfl, ⟨_, _, _, rfl, by decide, xu_3, Or.inl xwt_80⟩⟩
theorem xk_86_40 : xk_OkA xp_F (xp_P sc) xp_cl xp_BW xp_NW xp_SW xp_exn 86 40 (.getfield 33) := ⟨_, xd_86_80, rfl, ⟨_, _, _, rfl, by decide, xu_1, Or.inr ⟨_, xwn_63⟩⟩⟩
theorem xk_86_41 : xk_OkA xp_F (xp_P sc) xp_cl xp_BW xp_NW xp_SW xp_exn 86 41 (.iconst (-1)) := Or.inl ⟨xd_86_83, rfl⟩
theorem xk_86_42 : xk_OkA xp_F (xp_P sc) xp_cl xp_BW xp_NW xp_SW xp_exn 86 42 (.if_icmp .eq 54) := ⟨_, xd_86_84, by unfold xf_to; decide +kernel, rfl⟩
theorem xk_86_43 : xk_OkA xp_F (xp_P sc) xp_cl xp_BW xp_NW xp_SW xp_exn 86 43 (.aload 0) := Or.inr ⟨0, rfl, xd_86_87, rfl⟩
theorem xk_86_44 : xk_OkA xp_F (xp_P sc) xp_cl xp_BW xp_NW xp_SW xp_exn 86 44 (.getfield 97) := ⟨_, xd_86_88, rfl, ⟨_, _, _, rfl, by decide, xu_3, Or.inl xwt_78⟩⟩
theorem xk_86_45 : xk_OkA xp_F (xp_P sc) xp_cl xp_BW xp_NW xp_SW xp_exn 86 45 (.aload 0) := Or.inr ⟨0, rfl, xd_86_91, rfl⟩
theorem xk_86_46 : xk_OkA xp_F (xp_P sc) xp_cl xp_BW xp_NW xp_SW xp_exn 86 46 (.getfield 99) := ⟨_, xd_86_92, rfl, ⟨_, _, _, rfl, by decide, xu_3, Or.inl xwt_80⟩⟩
theorem xk_86_47 : xk_OkA xp_F (xp_P sc) xp_cl xp_BW xp_NW xp_SW xp_exn 86 47 (.getfield 33) := ⟨_, xd_86_95, rfl, ⟨_, _, _, rfl, by decide, xu_1, Or.inr ⟨_, xwn_63⟩⟩⟩
theorem xk_86_48 : xk_OkA xp_F (xp_P sc) xp_cl xp_BW xp_NW xp_SW xp_exn 86 48 (.invokeinterface 34 2) := ⟨rfl, Or.inl ⟨xwt_322, rfl⟩, rfl, rfl, xwt_3, by decide +kernel, by decide +kernel, Nat.le_of_ble_eq_true rfl, _, Or.inr ⟨_, xwn_319⟩, Or.inr ⟨xd_86_98, xwt_321, xws_22, ⟨_, _, _, rfl, rfl⟩, by decide +kernel⟩⟩
theorem xk_86_49 : xk_OkA xp_F (xp_P sc) xp_cl xp_BW xp_NW xp_SW xp_exn 86 49 (.iconst (-1)) := Or.inl ⟨xd_86_101, rfl⟩
theorem xk_86_50 : xk_OkA xp_F (xp_P sc) xp_cl xp_BW xp_NW xp_SW xp_exn 86 50 (.if_icmp .ne 54) := ⟨_, xd_86_102, by unfold xf_to; decide +kernel, rfl⟩
theorem xk_86_51 : xk_OkA xp_F (xp_P sc) xp_cl xp_BW xp_NW xp_SW xp_exn 86 51 (.aload 0) := Or.inr ⟨0, rfl, xd_86_105, rfl⟩
theorem xk_86_52 : xk_OkA xp_F (xp_P sc) xp_cl xp_BW xp_NW xp_SW xp_exn 86 52 (.getfield 99) := ⟨_, xd_86_106, rfl, ⟨_, _, _, rfl, by decide, xu_3, Or.inl xwt_80⟩⟩
theorem xk_86_53 : xk_OkA xp_F (xp_P sc) xp_cl xp_BW xp_NW xp_SW xp_exn 86 53 (.invokeinterface 15 1) := ⟨rfl, Or.inl ⟨xwt_326, rfl⟩, rfl, rfl, xwt_4, by decide +kernel, by decide +kernel, Nat.le_of_ble_eq_true rfl, _, Or.inr ⟨_, xwn_323⟩, Or.inr ⟨xd_86_109, xwt_325, xws_23, ⟨_, _, _, rfl, rfl⟩, by decide +kernel⟩⟩
theorem xk_86_54 : xk_OkA xp_F (xp_P sc) xp_cl xp_BW xp_NW xp_SW xp_exn 86 54 (.return_) := ⟨xd_86_112, rfl⟩
theorem xl_86 : xk_OkL xp_F (xp_P sc) xp_cl xp_BW xp_NW xp_SW xp_exn 86 0 xc_86 := ⟨xk_86_0, xk_86_1, xk_86_2, xk_86_3, xk_86_4, xk_86_5, xk_86_6, xk_86_7, xk_86_8, xk_86_9, xk_86_10, xk_86_11, xk_86_12, xk_86_13, xk_86_14, xk_86_15, xk_86_16, xk_86_17, xk_86_18, xk_86_19, xk_86_20, xk_86_21, xk_86_22, xk_86_23, xk_86_24, xk_86_25, xk_86_26, xk_86_27, xk_86_28, xk_86_29, xk_86_30, xk_86_31, xk_86_32, xk_86_33, xk_86_34, xk_86_35, xk_86_36, xk_86_37, xk_86_38, xk_86_39, xk_86_40, xk_86_41, xk_86_42, xk_86_43, xk_86_44, xk_86_45, xk_86_46, xk_86_47, xk_86_48, xk_86_49, xk_86_50, xk_86_51, xk_86_52, xk_86_53, xk_86_54, trivial⟩
theorem xd_87_0 : decode prog_1_method_49_code 0 = .ok (.aload_n 1, 1) := by decide +kernel
theorem xd_87_1 : decode prog_1_method_49_code 1 = .ok (.iload_n 2, 1) := by decide +kernel
theorem xd_87_2 : decode prog_1_method_49_code 2 = .ok (.invokevirtual 55, 3) := by decide +kernel
theorem xd_87_5 : decode prog_1_method_49_code 5 = .ok (.ifCond .eq 18, 3) := by decide +kernel
theorem xd_87_8 : decode prog_1_method_49_code 8 = .ok (.aload_n 0, 1) := by decide +kernel
theorem xd_87_9 : decode prog_1_method_49_code 9 = .ok (.getfield 12, 3) := by decide +kernel
theorem xd_87_12 : decode prog_1_method_49_code 12 = .ok (.iload_n 2, 1) := by decide +kernel
theorem xd_87_13 : decode prog_1_method_49_code 13 = .ok (.invokevirtual 59, 3) := by decide +kernel
theorem xd_87_16 : decode prog_1_method_49_code 16 = .ok (.ifCond .ne 7, 3) := by decide +kernel
theorem xd_87_19 : decode prog_1_method_49_code 19 = .ok (.iconst 1, 1) := by decide +kernel
theorem xd_87_20 : decode prog_1_method_49_code 20 = .ok (.goto 4, 3) := by decide +kernel
theorem xd_87_23 : decode prog_1_method_49_code 23 = .ok (.iconst 0, 1) := by decide +kernel
theorem xd_87_24 : decode prog_1_method_49_code 24 = .ok (.ireturn, 1) := by decide +kernel
theorem xk_87_0 : xk_OkA xp_F (xp_P sc) xp_cl xp_BW xp_NW xp_SW xp_exn 87 0 (.aload 1) := Or.inr ⟨1, rfl, xd_87_0, rfl⟩
theorem xk_87_1 : xk_OkA xp_F (xp_P sc) xp_cl xp_BW xp_NW xp_SW xp_exn 87 1 (.iload 2) := Or.inr ⟨2, rfl, xd_87_1, rfl⟩
theorem xk_87_2 : xk_OkA xp_F (xp_P sc) xp_cl xp_BW xp_NW xp_SW xp_exn 87 2 (.invokeinterface 22 2) := ⟨rfl, Or.inl ⟨xwt_218, rfl⟩, rfl, rfl, xwt_3, by decide +kernel, by decide +kernel, Nat.le_of_ble_eq_true rfl, _, Or.inr ⟨_, xwn_215⟩, Or.inr ⟨xd_87_2, xwt_217, xws_3, ⟨_, _, _, rfl, rfl⟩, by decide +kernel⟩⟩
theorem xk_87_3 : xk_OkA xp_F (xp_P sc) xp_cl xp_BW xp_NW xp_SW xp_exn 87 3 (.ifCond .eq 11) := ⟨_, xd_87_5, by unfold xf_to; decide +kernel, rfl⟩
theorem xk_87_4 : xk_OkA xp_F (xp_P sc) xp_cl xp_BW xp_NW xp_SW xp_exn 87 4 (.aload 0) := Or.inr ⟨0, rfl, xd_87_8, rfl⟩
theorem xk_87_5 : xk_OkA xp_F (xp_P sc) xp_cl xp_BW xp_NW xp_SW xp_exn 87 5 (.getfield 96) := ⟨_, xd_87_9, rfl, ⟨_, _, _, rfl, by decide, xu_3, Or.inl xwt_77⟩⟩
theorem xk_87_6 : xk_OkA xp_F (xp_P sc) xp_cl xp_BW xp_NW xp_SW xp_exn 87 6 (.iload 2) := Or.inr ⟨2, rfl, xd_87_12, rfl⟩
theorem xk_87_7 : xk_OkA xp_F (xp_P sc) xp_cl xp_BW xp_NW xp_SW xp_exn 87 7 (.invokeinterface 0 2) := ⟨rfl, Or.inl ⟨xwt_226, rfl⟩, rfl, rfl, xwt_2, by decide +kernel, by decide +kernel, Nat.le_of_ble_eq_true rfl, _, Or.inr ⟨_, xwn_223⟩, Or.inr ⟨xd_87_13, xwt_225, xws_5, ⟨_, _, _, rfl, rfl⟩, by decide +kernel⟩⟩
theorem xk_87_8 : xk_OkA xp_F (xp_P sc) xp_cl xp_BW xp_NW xp_SW xp_exn 87 8 (.ifCond .ne 11) := ⟨_, xd_87_16, by unfold xf_to; decide +kernel, rfl⟩
theorem xk_87_9 : xk_OkA xp_F (xp_P sc) xp_cl xp_BW xp_NW xp_SW xp_exn 87 9 (.iconst 1) := Or.inl ⟨xd_87_19, rfl⟩
theorem xk_87_10 : xk_OkA xp_F (xp_P sc) xp_cl xp_BW xp_NW xp_SW xp_exn 87 10 (.goto 12) := ⟨_, xd_87_20, by unfold xf_to; decide +kernel⟩
theorem xk_87_11 : xk_OkA xp_F (xp_P sc) xp_cl xp_BW xp_NW xp_SW xp_exn 87 11 (.iconst 0) := Or.inl ⟨xd_87_23, rfl⟩
theorem xk_87_12 : xk_OkA xp_F (xp_P sc) xp_cl xp_BW xp_NW xp_SW xp_exn 87 12 (.freturn) := ⟨xd_87_24, rfl⟩
theorem xl_87 : xk_OkL xp_F (xp_P sc) xp_cl xp_BW xp_NW xp_SW xp_exn 87 0 xc_87 := ⟨xk_87_0, xk_87_1, xk_87_2, xk_87_3, xk_87_4, xk_87_5, xk_87_6, xk_87_7, xk_87_8, xk_87_9, xk_87_10, xk_87_11, xk_87_12, trivial⟩
theorem xd_88_0 : decode prog_1_method_50_code 0 = .ok (.aload_n 0, 1) := by decide +kernel
theorem xd_88_1 : decode prog_1_method_50_code 1 = .ok (.getfield 12, 3) := by decide +kernel
theorem xd_88_4 : decode prog_1_method_50_code 4 = .ok (.iload_n 2, 1) := by decide +kernel
theorem xd_88_5 : decode prog_1_method_50_code 5 = .ok (.invokevirtual 329, 3) := by decide +kernel
theorem xd_88_8 : decode prog_1_method_50_code 8 = .ok (.istore_n 3, 1) := by decide +kernel
theorem xd_88_9 : decode prog_1_method_50_code 9 = .ok (.iconst 0, 1) := by decide +kernel
theorem xd_88_10 : decode prog_1_method_50_code 10 = .ok (.istore 4, 2) := by decide +kernel
theorem xd_88_12 : decode prog_1_method_50_code 12 = .ok (.iload 4, 2) := by decide +kernel
theorem xd_88_14 : decode prog_1_method_50_code 14 = .ok (.bipush 51, 2) := by decide +kernel
theorem xd_88_16 : decode prog_1_method_50_code 16 = .ok (.if_icmp .ge 31, 3) := by decide +kernel
theorem xd_88_19 : decode prog_1_method_50_code 19 = .ok (.aload_n 0, 1) := by decide +kernel
theorem xd_88_20 : decode prog_1_method_50_code 20 = .ok (.invokevirtual 303, 3) := by decide +kernel
theorem xd_88_23 : decode prog_1_method_50_code 23 = .ok (.aload_n 0, 1) := by decide +kernel
theorem xd_88_24 : decode prog_1_method_50_code 24 = .ok (.getfield 12, 3) := by decide +kernel
theorem xd_88_27 : decode prog_1_method_50_code 27 = .ok (.iload_n 2, 1) := by decide +kernel
theorem xd_88_28 : decode prog_1_method_50_code 28 = .ok (.iload_n 3, 1) := by decide +kernel
theorem xd_88_29 : decode prog_1_method_50_code 29 = .ok (.iload 4, 2) := by decide +kernel
theorem xd_88_31 : decode prog_1_method_50_code 31 = .ok (.aload_n 1, 1) := by decide +kernel
theorem xd_88_32 : decode prog_1_method_50_code 32 = .ok (.getfield 315, 3) := by decide +kernel
theorem xd_88_35 : decode prog_1_method_50_code 35 = .ok (.iload 4, 2) := by decide +kernel
theorem xd_88_37 : decode prog_1_method_50_code 37 = .ok (.iaload, 1) := by decide +kernel
theorem xd_88_38 : decode prog_1_method_50_code 38 = .ok (.invokevirtual 332, 3) := by decide +kernel
theorem xd_88_41 : decode prog_1_method_50_code 41 = .ok (.iinc 4 (1), 3) := by decide +kernel
theorem xd_88_44 : decode prog_1_method_50_code 44 = .ok (.goto (-32), 3) := by decide +kernel
theorem xd_88_47 : decode prog_1_method_50_code 47 = .ok (.return_, 1) := by decide +kernel
theorem xk_88_0 : xk_OkA xp_F (xp_P sc) xp_cl xp_BW xp_NW xp_SW xp_exn 88 0 (.aload 0) := Or.inr ⟨0, rfl, xd_88_0, rfl⟩
theorem xk_88_1 : xk_OkA xp_F (xp_P sc) xp_cl xp_BW xp_NW xp_SW xp_exn 88 1 (.getfield 96) := ⟨_, xd_88_1, rfl, ⟨_, _, _, rfl, by decide, xu_3, Or.inl xwt_77⟩⟩
theorem xk_88_2 : xk_OkA xp_F (xp_P sc) xp_cl xp_BW xp_NW xp_SW xp_exn 88 2 (.iload 2) := Or.inr ⟨2, rfl, xd_88_4, rfl⟩
theorem xk_88_3 : xk_OkA xp_F (xp_P sc) xp_cl xp_BW xp_NW xp_SW xp_exn 88 3 (.invokeinterface 7 2) := ⟨rfl, Or.inl ⟨xwt_293, rfl⟩, rfl, rfl, xwt_2, by decide +kernel, by decide +kernel, Nat.le_of_ble_eq_true rfl, _, Or.inr ⟨_, xwn_290⟩, Or.inr ⟨xd_88_5, xwt_292, xws_16, ⟨_, _, _, rfl, rfl⟩, by decide +kernel⟩⟩
theorem xk_88_4 : xk_OkA xp_F (xp_P sc) xp_cl xp_BW xp_NW xp_SW xp_exn 88 4 (.istore 3) := Or.inr ⟨3, rfl, xd_88_8, rfl⟩
theorem xk_88_5 : xk_OkA xp_F (xp_P sc) xp_cl xp_BW xp_NW xp_SW xp_exn 88 5 (.iconst 0) := Or.inl ⟨xd_88_9, rfl⟩
theorem xk_88_6 : xk_OkA xp_F (xp_P sc) xp_cl xp_BW xp_NW xp_SW xp_exn 88 6 (.istore 4) := Or.inl ⟨xd_88_10, rfl⟩
theorem xk_88_7 : xk_OkA xp_F (xp_P sc) xp_cl xp_BW xp_NW xp_SW xp_exn 88 7 (.iload 4) := Or.inl ⟨xd_88_12, rfl⟩
theorem xk_88_8 : xk_OkA xp_F (xp_P sc) xp_cl xp_BW xp_NW xp_SW xp_exn 88 8 (.iconst 51) := Or.inr (Or.inl ⟨xd_88_14, by decide +kernel, rfl⟩)
theorem xk_88_9 : xk_OkA xp_F (xp_P sc) xp_cl xp_BW xp_NW xp_SW xp_exn 88 9 (.if_icmp .ge 24) := ⟨_, xd_88_16, by unfold xf_to; decide +kernel, rfl⟩
theorem xk_88_10 : xk_OkA xp_F (xp_P sc) xp_cl xp_BW xp_NW xp_SW xp_exn 88 10 (.aload 0) := Or.inr ⟨0, rfl, xd_88_19, rfl⟩
theorem xk_88_11 : xk_OkA xp_F (xp_P sc) xp_cl xp_BW xp_NW xp_SW xp_exn 88 11 (.invokeinterface 82 1) := ⟨rfl, Or.inl ⟨xwt_305, rfl⟩, rfl, rfl, xwt_1, by decide +kernel, by decide +kernel, Nat.le_of_ble_eq_true rfl, _, Or.inl xwt_302, Or.inr ⟨xd_88_20, xwt_304, xws_18, ⟨_, _, _, rfl, rfl⟩, by decide +kernel⟩⟩
theorem xk_88_12 : xk_OkA xp_F (xp_P sc) xp_cl xp_BW xp_NW xp_SW xp_exn 88 12 (.aload 0) := Or.inr ⟨0, rfl, xd_88_23, rfl⟩
theorem xk_88_13 : xk_OkA xp_F (xp_P sc) xp_cl xp_BW xp_NW xp_SW xp_exn 88 13 (.getfield 96) := ⟨_, xd_88_24, rfl, ⟨_, _, _, rfl, by decide, xu_3, Or.inl xwt_77⟩⟩
theorem xk_88_14 : xk_OkA xp_F (xp_P sc) xp_cl xp_BW xp_NW xp_SW xp_exn 88 14 (.iload 2) := Or.inr ⟨2, rfl, xd_88_27, rfl⟩
theorem xk_88_15 : xk_OkA xp_F (xp_P sc) xp_cl xp_BW xp_NW xp_SW xp_exn 88 15 (.iload 3) := Or.inr ⟨3, rfl, xd_88_28, rfl⟩
theorem xk_88_16 : xk_OkA xp_F (xp_P sc) xp_cl xp_BW xp_NW xp_SW xp_exn 88 16 (.iload 4) := Or.inl ⟨xd_88_29, rfl⟩
theorem xk_88_17 : xk_OkA xp_F (xp_P sc) xp_cl xp_BW xp_NW xp_SW xp_exn 88 17 (.aload 1) := Or.inr ⟨1, rfl, xd_88_31, rfl⟩
theorem xk_88_18 : xk_OkA xp_F (xp_P sc) xp_cl xp_BW xp_NW xp_SW xp_exn 88 18 (.getfield 64) := ⟨_, xd_88_32, rfl, ⟨_, _, _, rfl, by decide, xu_2, Or.inr ⟨_, xwn_50⟩⟩⟩
theorem xk_88_19 : xk_OkA xp_F (xp_P sc) xp_cl xp_BW xp_NW xp_SW xp_exn 88 19 (.iload 4) := Or.inl ⟨xd_88_35, rfl⟩
theorem xk_88_20 : xk_OkA xp_F (xp_P sc) xp_cl xp_BW xp_NW xp_SW xp_exn 88 20 (.iaload) := ⟨xd_88_37, rfl⟩
theorem xk_88_21 : xk_OkA xp_F (xp_P sc) xp_cl xp_BW xp_NW xp_SW xp_exn 88 21 (.invokeinterface 4 5) := ⟨rfl, Or.inl ⟨xwt_318, rfl⟩, rfl, rfl, xwt_2, by decide +kernel, by decide +kernel, Nat.le_of_ble_eq_true rfl, _, Or.inr ⟨_, xwn_315⟩, Or.inr ⟨xd_88_38, xwt_317, xws_21, ⟨_, _, _, rfl, rfl⟩, by decide +kernel⟩⟩
theorem xk_88_22 : xk_OkA xp_F (xp_P sc) xp_cl xp_BW xp_NW xp_SW xp_exn 88 22 (.iinc 4 (1)) := ⟨xd_88_41, rfl⟩
theorem xk_88_23 : xk_OkA xp_F (xp_P sc) xp_cl xp_BW xp_NW xp_SW xp_exn 88 23 (.goto 7) := ⟨_, xd_88_44, by unfold xf_to; decide +kernel⟩
theorem xk_88_24 : xk_OkA xp_F (xp_P sc) xp_cl xp_BW xp_NW xp_SW xp_exn 88 24 (.return_) := ⟨xd_88_47, rfl⟩
theorem xl_88 : xk_OkL xp_F (xp_P sc) xp_cl xp_BW xp_NW xp_SW xp_exn 88 0 xc_88 := ⟨xk_88_0, xk_88_1, xk_88_2, xk_88_3, xk_88_4, xk_88_5, xk_88_6, xk_88_7, xk_88_8, xk_88_9, xk_88_10, xk_88_11, xk_88_12, xk_88_13, xk_88_14, xk_88_15, xk_88_16, xk_88_17, xk_88_18, xk_88_19, xk_88_20, xk_88_21, xk_88_22, xk_88_23, xk_88_24, trivial⟩
theorem xd_89_0 : decode prog_1_method_51_code 0 = .ok (.iconst 0, 1) := by decide +kernel
theorem xd_89_1 : decode prog_1_method_51_code 1 = .ok (.istore_n 3, 1) := by decide +kernel
theorem xd_89_2 : decode prog_1_method_51_code 2 = .ok (.iload_n 3, 1) := by decide +kernel
theorem xd_89_3 : decode prog_1_method_51_code 3 = .ok (.iconst 2, 1) := by decide +kernel
theorem xd_89_4 : decode prog_1_method_51_code 4 = .ok (.if_icmp .ge 57, 3) := by decide +kernel
theorem xd_89_7 : decode prog_1_method_51_code 7 = .ok (.iload_n 1, 1) := by decide +kernel
theorem xd_89_8 : decode prog_1_method_51_code 8 = .ok (.iload_n 2, 1) := by decide +kernel
theorem xd_89_9 : decode prog_1_method_51_code 9 = .ok (.iload_n 3, 1) := by decide +kernel
theorem xd_89_10 : decode prog_1_method_51_code 10 = .ok (.invokestatic 186, 3) := by decide +kernel
theorem xd_89_13 : decode prog_1_method_51_code 13 = .ok (.istore 4, 2) := by decide +kernel
theorem xd_89_15 : decode prog_1_method_51_code 15 = .ok (.aload_n 0, 1) := by decide +kernel
theorem xd_89_16 : decode prog_1_method_51_code 16 = .ok (.getfield 19, 3) := by decide +kernel
theorem xd_89_19 : decode prog_1_method_51_code 19 = .ok (.iload 4, 2) := by decide +kernel
theorem xd_89_21 : decode prog_1_method_51_code 21 = .ok (.invokevirtual 199, 3) := by decide +kernel
theorem xd_89_24 : decode prog_1_method_51_code 24 = .ok (.iconst (-1), 1) := by decide +kernel
theorem xd_89_25 : decode prog_1_method_51_code 25 = .ok (.if_icmp .eq 30, 3) := by decide +kernel
theorem xd_89_28 : decode prog_1_method_51_code 28 = .ok (.aload_n 0, 1) := by decide +kernel
theorem xd_89_29 : decode prog_1_method_51_code 29 = .ok (.iload 4, 2) := by decide +kernel
theorem xd_89_31 : decode prog_1_method_51_code 31 = .ok (.invokevirtual 190, 3) := by decide +kernel
theorem xd_89_34 : decode prog_1_method_51_code 34 = .ok (.ifCond .ne 21, 3) := by decide +kernel
theorem xd_89_37 : decode prog_1_method_51_code 37 = .ok (.aload_n 0, 1) := by decide +kernel
theorem xd_89_38 : decode prog_1_method_51_code 38 = .ok (.invokevirtual 73, 3) := by decide +kernel
theorem xd_89_41 : decode prog_1_method_51_code 41 = .ok (.aload_n 0, 1) := by decide +kernel
theorem xd_89_42 : decode prog_1_method_51_code 42 = .ok (.getfield 23, 3) := by decide +kernel
theorem xd_89_45 : decode prog_1_method_51_code 45 = .ok (.iload 4, 2) := by decide +kernel
theorem xd_89_47 : decode prog_1_method_51_code 47 = .ok (.iconst (-1), 1) := by decide +kernel
theorem xd_89_48 : decode prog_1_method_51_code 48 = .ok (.invokevirtual 335, 3) := by decide +kernel
theorem xd_89_51 : decode prog_1_method_51_code 51 = .ok (.aload_n 0, 1) := by decide +kernel
theorem xd_89_52 : decode prog_1_method_51_code 52 = .ok (.invokevirtual 80, 3) := by decide +kernel
theorem xd_89_55 : decode prog_1_method_51_code 55 = .ok (.iinc 3 (1), 3) := by decide +kernel
theorem xd_89_58 : decode prog_1_method_51_code 58 = .ok (.goto (-56), 3) := by decide +kernel
theorem xd_89_61 : decode prog_1_method_51_code 61 = .ok (.return_, 1) := by decide +kernel
theorem xk_89_0 : xk_OkA xp_F (xp_P sc) xp_cl xp_BW xp_NW xp_SW xp_exn 89 0 (.iconst 0) := Or.inl ⟨xd_89_0, rfl⟩
theorem xk_89_1 : xk_OkA xp_F (xp_P sc) xp_cl xp_BW xp_NW xp_SW xp_exn 89 1 (.istore 3) := Or.inr ⟨3, rfl, xd_89_1, rfl⟩
theorem xk_89_2 : xk_OkA xp_F (xp_P sc) xp_cl xp_BW xp_NW xp_SW xp_exn 89 2 (.iload 3) := Or.inr ⟨3, rfl, xd_89_2, rfl⟩
theorem xk_89_3 : xk_OkA xp_F (xp_P sc) xp_cl xp_BW xp_NW xp_SW xp_exn 89 3 (.iconst 2) := Or.inl ⟨xd_89_3, rfl⟩
theorem xk_89_4 : xk_OkA xp_F (xp_P sc) xp_cl xp_BW xp_NW xp_SW xp_exn 89 4 (.if_icmp .ge 31) := ⟨_, xd_89_4, by unfold xf_to; decide +kernel, rfl⟩
theorem xk_89_5 : xk_OkA xp_F (xp_P sc) xp_cl xp_BW xp_NW xp_SW xp_exn 89 5 (.iload 1) := Or.inr ⟨1, rfl, xd_89_7, rfl⟩
theorem xk_89_6 : xk_OkA xp_F (xp_P sc) xp_cl xp_BW xp_NW xp_SW xp_exn 89 6 (.iload 2) := Or.inr ⟨2, rfl, xd_89_8, rfl⟩
theorem xk_89_7 : xk_OkA xp_F (xp_P sc) xp_cl xp_BW xp_NW xp_SW xp_exn 89 7 (.iload 3) := Or.inr ⟨3, rfl, xd_89_9, rfl⟩
theorem xk_89_8 : xk_OkA xp_F (xp_P sc) xp_cl xp_BW xp_NW xp_SW xp_exn 89 8 (.invokeinterface 74 3) := ⟨rfl, Or.inl ⟨xwt_435, rfl⟩, rfl, rfl, xwt_1, by decide +kernel, by decide +kernel, Nat.le_of_ble_eq_true rfl, _, Or.inl xwt_433, Or.inl ⟨xd_89_10, xwt_434, rfl, by decide +kernel⟩⟩
theorem xk_89_9 : xk_OkA xp_F (xp_P sc) xp_cl xp_BW xp_NW xp_SW xp_exn 89 9 (.istore 4) := Or.inl ⟨xd_89_13, rfl⟩
theorem xk_89_10 : xk_OkA xp_F (xp_P sc) xp_cl xp_BW xp_NW xp_SW xp_exn 89 10 (.aload 0) := Or.inr ⟨0, rfl, xd_89_15, rfl⟩
theorem xk_89_11 : xk_OkA xp_F (xp_P sc) xp_cl xp_BW xp_NW xp_SW xp_exn 89 11 (.getfield 97) := ⟨_, xd_89_16, rfl, ⟨_, _, _, rfl, by decide, xu_3, Or.inl xwt_78⟩⟩
theorem xk_89_12 : xk_OkA xp_F (xp_P sc) xp_cl xp_BW xp_NW xp_SW xp_exn 89 12 (.iload 4) := Or.inl ⟨xd_89_19, rfl⟩
theorem xk_89_13 : xk_OkA xp_F (xp_P sc) xp_cl xp_BW xp_NW xp_SW xp_exn 89 13 (.invokeinterface 34 2) := ⟨rfl, Or.inl ⟨xwt_322, rfl⟩, rfl, rfl, xwt_3, by decide +kernel, by decide +kernel, Nat.le_of_ble_eq_true rfl, _, Or.inr ⟨_, xwn_319⟩, Or.inr ⟨xd_89_21, xwt_321, xws_22, ⟨_, _, _, rfl, rfl⟩, by decide +kernel⟩⟩
theorem xk_89_14 : xk_OkA xp_F (xp_P sc) xp_cl xp_BW xp_NW xp_SW xp_exn 89 14 (.iconst (-1)) := Or.inl ⟨xd_89_24, rfl⟩
theorem xk_89_15 : xk_OkA xp_F (xp_P sc) xp_cl xp_BW xp_NW xp_SW xp_exn 89 15 (.if_icmp .eq 29) := ⟨_, xd_89_25, by unfold xf_to; decide +kernel, rfl⟩
theorem xk_89_16 : xk_OkA xp_F (xp_P sc) xp_cl xp_BW xp_NW xp_SW xp_exn 89 16 (.aload 0) := Or.inr ⟨0, rfl, xd_89_28, rfl⟩
theorem xk_89_17 : xk_OkA xp_F (xp_P sc) xp_cl xp_BW xp_NW xp_SW xp_exn 89 17 (.iload 4) := Or.inl ⟨xd_89_29, rfl⟩
theorem xk_89_18 : xk_OkA xp_F (xp_P sc) xp_cl xp_BW xp_NW xp_SW xp_exn 89 18 (.invokeinterface 79 2) := ⟨rfl, Or.inl ⟨xwt_594, rfl⟩, rfl, rfl, xwt_1, by decide +kernel, by decide +kernel, Nat.le_of_ble_eq_true rfl, _, Or.inl xwt_591, Or.inr ⟨xd_89_31, xwt_593, xws_59, ⟨_, _, _, rfl, rfl⟩, by decide +kernel⟩⟩
theorem xk_89_19 : xk_OkA xp_F (xp_P sc) xp_cl xp_BW xp_NW xp_SW xp_exn 89 19 (.ifCond .ne 29) := ⟨_, xd_89_34, by unfold xf_to; decide +kernel, rfl⟩
theorem xk_89_20 : xk_OkA xp_F (xp_P sc) xp_cl xp_BW xp_NW xp_SW xp_exn 89 20 (.aload 0) := Or.inr ⟨0, rfl, xd_89_37, rfl⟩
theorem xk_89_21 : xk_OkA xp_F (xp_P sc) xp_cl xp_BW xp_NW xp_SW xp_exn 89 21 (.invokeinterface 85 1) := ⟨rfl, Or.inl ⟨xwt_259, rfl⟩, rfl, rfl, xwt_1, by decide +kernel, by decide +kernel, Nat.le_of_ble_eq_true rfl, _, Or.inl xwt_256, Or.inr ⟨xd_89_38, xwt_258, xws_9, ⟨_, _, _, rfl, rfl⟩, by decide +kernel⟩⟩
theorem xk_89_22 : xk_OkA xp_F (xp_P sc) xp_cl xp_BW xp_NW xp_SW xp_exn 89 22 (.aload 0) := Or.inr ⟨0, rfl, xd_89_41, rfl⟩
theorem xk_89_23 : xk_OkA xp_F (xp_P sc) xp_cl xp_BW xp_NW xp_SW xp_exn 89 23 (.getfield 98) := ⟨_, xd_89_42, rfl, ⟨_, _, _, rfl, by decide, xu_3, Or.inl xwt_79⟩⟩
theorem xk_89_24 : xk_OkA xp_F (xp_P sc) xp_cl xp_BW xp_NW xp_SW xp_exn 89 24 (.iload 4) := Or.inl ⟨xd_89_45, rfl⟩
theorem xk_89_25 : xk_OkA xp_F (xp_P sc) xp_cl xp_BW xp_NW xp_SW xp_exn 89 25 (.iconst (-1)) := Or.inl ⟨xd_89_47, rfl⟩
theorem xk_89_26 : xk_OkA xp_F (xp_P sc) xp_cl xp_BW xp_NW xp_SW xp_exn 89 26 (.invokeinterface 35 3) := ⟨rfl, Or.inl ⟨xwt_374, rfl⟩, rfl, rfl, xwt_3, by decide +kernel, by decide +kernel, Nat.le_of_ble_eq_true rfl, _, Or.inr ⟨_, xwn_457⟩, Or.inr ⟨xd_89_48, xwt_373, xws_29, ⟨_, _, _, rfl, rfl⟩, by decide +kernel⟩⟩
theorem xk_89_27 : xk_OkA xp_F (xp_P sc) xp_cl xp_BW xp_NW xp_SW xp_exn 89 27 (.aload 0) := Or.inr ⟨0, rfl, xd_89_51, rfl⟩
theorem xk_89_28 : xk_OkA xp_F (xp_P sc) xp_cl xp_BW xp_NW xp_SW xp_exn 89 28 (.invokeinterface 86 1) := ⟨rfl, Or.inl ⟨xwt_274, rfl⟩, rfl, rfl, xwt_1, by decide +kernel, by decide +kernel, Nat.le_of_ble_eq_true rfl, _, Or.inl xwt_271, Or.inr ⟨xd_89_52, xwt_273, xws_12, ⟨_, _, _, rfl, rfl⟩, by decide +kernel⟩⟩
theorem xk_89_29 : xk_OkA xp_F (xp_P sc) xp_cl xp_BW xp_NW xp_SW xp_exn 89 29 (.iinc 3 (1)) := ⟨xd_89_55, rfl⟩
theorem xk_89_30 : xk_OkA xp_F (xp_P sc) xp_cl xp_BW xp_NW xp_SW xp_exn 89 30 (.goto 2) := ⟨_, xd_89_58, by unfold xf_to; decide +kernel⟩
theorem xk_89_31 : xk_OkA xp_F (xp_P sc) xp_cl xp_BW xp_NW xp_SW xp_exn 89 31 (.return_) := ⟨xd_89_61, rfl⟩
theorem xl_89 : xk_OkL xp_F (xp_P sc) xp_cl xp_BW xp_NW xp_SW xp_exn 89 0 xc_89 := ⟨xk_89_0, xk_89_1, xk_89_2, xk_89_3, xk_89_4, xk_89_5, xk_89_6, xk_89_7, xk_89_8, xk_89_9, xk_89_10, xk_89_11, xk_89_12, xk_89_13, xk_89_14, xk_89_15, xk_89_16, xk_89_17, xk_89_18, xk_89_19, xk_89_20, xk_89_21, xk_89_22, xk_89_23, xk_89_24, xk_89_25, xk_89_26, xk_89_27, xk_89_28, xk_89_29, xk_89_30, xk_89_31, trivial⟩
theorem xd_90_0 : decode prog_1_method_52_code 0 = .ok (.aload_n 1, 1) := by decide +kernel
theorem xd_90_1 : decode prog_1_method_52_code 1 = .ok (.iload_n 2, 1) := by decide +kernel
theorem xd_90_2 : decode prog_1_method_52_code 2 = .ok (.invokevirtual 338, 3) := by decide +kernel
theorem xd_90_5 : decode prog_1_method_52_code 5 = .ok (.aload_n 1, 1) := by decide +kernel
theorem xd_90_6 : decode prog_1_method_52_code 6 = .ok (.iload_n 2, 1) := by decide +kernel
theorem xd_90_7 : decode prog_1_method_52_code 7 = .ok (.invokevirtual 86, 3) := by decide +kernel
theorem xd_90_10 : decode prog_1_method_52_code 10 = .ok (.isub, 1) := by decide +kernel
theorem xd_90_11 : decode prog_1_method_52_code 11 = .ok (.aload_n 0, 1) := by decide +kernel
theorem xd_90_12 : decode prog_1_method_52_code 12 = .ok (.getfield 29, 3) := by decide +kernel
theorem xd_90_15 : decode prog_1_method_52_code 15 = .ok (.getfield 90, 3) := by decide +kernel
theorem xd_90_18 : decode prog_1_method_52_code 18 = .ok (.invokestatic 93, 3) := by decide +kernel
theorem xd_90_21 : decode prog_1_method_52_code 21 = .ok (.iload_n 2, 1) := by decide +kernel
theorem xd_90_22 : decode prog_1_method_52_code 22 = .ok (.if_icmp .ne 7, 3) := by decide +kernel
theorem xd_90_25 : decode prog_1_method_52_code 25 = .ok (.iconst 1, 1) := by decide +kernel
theorem xd_90_26 : decode prog_1_method_52_code 26 = .ok (.goto 4, 3) := by decide +kernel
theorem xd_90_29 : decode prog_1_method_52_code 29 = .ok (.iconst 0, 1) := by decide +kernel
theorem xd_90_30 : decode prog_1_method_52_code 30 = .ok (.isub, 1) := by decide +kernel
theorem xd_90_31 : decode prog_1_method_52_code 31 = .ok (.ireturn, 1) := by decide +kernel
theorem xk_90_0 : xk_OkA xp_F (xp_P sc) xp_cl xp_BW xp_NW xp_SW xp_exn 90 0 (.aload 1) := Or.inr ⟨1, rfl, xd_90_0, rfl⟩
theorem xk_90_1 : xk_OkA xp_F (xp_P sc) xp_cl xp_BW xp_NW xp_SW xp_exn 90 1 (.iload 2) := Or.inr ⟨2, rfl, xd_90_1, rfl⟩
theorem xk_90_2 : xk_OkA xp_F (xp_P sc) xp_cl xp_BW xp_NW xp_SW xp_exn 90 2 (.invokeinterface 23 2) := ⟨rfl, Or.inl ⟨xwt_222, rfl⟩, rfl, rfl, xwt_3, by decide +kernel, by decide +kernel, Nat.le_of_ble_eq_true rfl, _, Or.inr ⟨_, xwn_447⟩, Or.inr ⟨xd_90_2, xwt_221, xws_4, ⟨_, _, _, rfl, rfl⟩, by decide +kernel⟩⟩
theorem xk_90_3 : xk_OkA xp_F (xp_P sc) xp_cl xp_BW xp_NW xp_SW xp_exn 90 3 (.aload 1) := Or.inr ⟨1, rfl, xd_90_5, rfl⟩
theorem xk_90_4 : xk_OkA xp_F (xp_P sc) xp_cl xp_BW xp_NW xp_SW xp_exn 90 4 (.iload 2) := Or.inr ⟨2, rfl, xd_90_6, rfl⟩
theorem xk_90_5 : xk_OkA xp_F (xp_P sc) xp_cl xp_BW xp_NW xp_SW xp_exn 90 5 (.invokeinterface 37 2) := ⟨rfl, Or.inl ⟨xwt_342, rfl⟩, rfl, rfl, xwt_3, by decide +kernel, by decide +kernel, Nat.le_of_ble_eq_true rfl, _, Or.inr ⟨_, xwn_339⟩, Or.inr ⟨xd_90_7, xwt_341, xws_25, ⟨_, _, _, rfl, rfl⟩, by decide +kernel⟩⟩
theorem xk_90_6 : xk_OkA xp_F (xp_P sc) xp_cl xp_BW xp_NW xp_SW xp_exn 90 6 (.isub) := ⟨xd_90_10, rfl⟩
theorem xk_90_7 : xk_OkA xp_F (xp_P sc) xp_cl xp_BW xp_NW xp_SW xp_exn 90 7 (.aload 0) := Or.inr ⟨0, rfl, xd_90_11, rfl⟩
theorem xk_90_8 : xk_OkA xp_F (xp_P sc) xp_cl xp_BW xp_NW xp_SW xp_exn 90 8 (.getfield 99) := ⟨_, xd_90_12, rfl, ⟨_, _, _, rfl, by decide, xu_3, Or.inl xwt_80⟩⟩
theorem xk_90_9 : xk_OkA xp_F (xp_P sc) xp_cl xp_BW xp_NW xp_SW xp_exn 90 9 (.getfield 34) := ⟨_, xd_90_15, rfl, ⟨_, _, _, rfl, by decide, xu_1, Or.inr ⟨_, xwn_65⟩⟩⟩
theorem xk_90_10 : xk_OkA xp_F (xp_P sc) xp_cl xp_BW xp_NW xp_SW xp_exn 90 10 (.invokeinterface 75 1) := ⟨rfl, Or.inl ⟨xwt_346, rfl⟩, rfl, rfl, xwt_1, by decide +kernel, by decide +kernel, Nat.le_of_ble_eq_true rfl, _, Or.inl xwt_347, Or.inl ⟨xd_90_18, xwt_345, rfl, by decide +kernel⟩⟩
theorem xk_90_11 : xk_OkA xp_F (xp_P sc) xp_cl xp_BW xp_NW xp_SW xp_exn 90 11 (.iload 2) := Or.inr ⟨2, rfl, xd_90_21, rfl⟩
theorem xk_90_12 : xk_OkA xp_F (xp_P sc) xp_cl xp_BW xp_NW xp_SW xp_exn 90 12 (.if_icmp .ne 15) := ⟨_, xd_90_22, by unfold xf_to; decide +kernel, rfl⟩
theorem xk_90_13 : xk_OkA xp_F (xp_P sc) xp_cl xp_BW xp_NW xp_SW xp_exn 90 13 (.iconst 1) := Or.inl ⟨xd_90_25, rfl⟩
theorem xk_90_14 : xk_OkA xp_F (xp_P sc) xp_cl xp_BW xp_NW xp_SW xp_exn 90 14 (.goto 16) := ⟨_, xd_90_26, by unfold xf_to; decide +kernel⟩
theorem xk_90_15 : xk_OkA xp_F (xp_P sc) xp_cl xp_BW xp_NW xp_SW xp_exn 90 15 (.iconst 0) := Or.inl ⟨xd_90_29, rfl⟩
theorem xk_90_16 : xk_OkA xp_F (xp_P sc) xp_cl xp_BW xp_NW xp_SW xp_exn 90 16 (.isub) := ⟨xd_90_30, rfl⟩
theorem xk_90_17 : xk_OkA xp_F (xp_P sc) xp_cl xp_BW xp_NW xp_SW xp_exn 90 17 (.ireturn) := ⟨xd_90_31, rfl⟩
theorem xl_90 : xk_OkL xp_F (xp_P sc) xp_cl xp_BW xp_NW xp_SW xp_exn 90 0 xc_90 := ⟨xk_90_0, xk_90_1, xk_90_2, xk_90_3, xk_90_4, xk_90_5, xk_90_6, xk_90_7, xk_90_8, xk_90_9, xk_90_10, xk_90_11, xk_90_12, xk_90_13, xk_90_14, xk_90_15, xk_90_16, xk_90_17, trivial⟩
theorem xd_91_0 : decode prog_1_method_53_code 0 = .ok (.iload 4, 2) := by decide +kernel
theorem xd_91_2 : decode prog_1_method_53_code 2 = .ok (.aload_n 0, 1) := by decide +kernel
theorem xd_91_3 : decode prog_1_method_53_code 3 = .ok (.iload_n 1, 1) := by decide +kernel
theorem xd_91_4 : decode prog_1_method_53_code 4 = .ok (.iload_n 2, 1) := by decide +kernel
theorem xd_91_5 : decode prog_1_method_53_code 5 = .ok (.iload_n 3, 1) := by decide +kernel
theorem xd_91_6 : decode prog_1_method_53_code 6 = .ok (.invokevirtual 341, 3) := by decide +kernel
theorem xd_91_9 : decode prog_1_method_53_code 9 = .ok (.ior, 1) := by decide +kernel
theorem xd_91_10 : decode prog_1_method_53_code 10 = .ok (.istore 5, 2) := by decide +kernel
theorem xd_91_12 : decode prog_1_method_53_code 12 = .ok (.iconst (-1), 1) := by decide +kernel
theorem xd_91_13 : decode prog_1_method_53_code 13 = .ok (.istore 6, 2) := by decide +kernel
theorem xd_91_15 : decode prog_1_method_53_code 15 = .ok (.iconst 0, 1) := by decide +kernel
theorem xd_91_16 : decode prog_1_method_53_code 16 = .ok (.istore 7, 2) := by decide +kernel
theorem xd_91_18 : decode prog_1_method_53_code 18 = .ok (.iconst 0, 1) := by decide +kernel
theorem xd_91_19 : decode prog_1_method_53_code 19 = .ok (.istore 8, 2) := by decide +kernel
theorem xd_91_21 : decode prog_1_method_53_code 21 = .ok (.iload 8, 2) := by decide +kernel
theorem xd_91_23 : decode prog_1_method_53_code 23 = .ok (.iconst 4, 1) := by decide +kernel
theorem xd_91_24 : decode prog_1_method_53_code 24 = .ok (.if_icmp .ge 59, 3) := by decide +kernel
theorem xd_91_27 : decode prog_1_method_53_code 27 = .ok (.aload_n 0, 1) := by decide +kernel
theorem xd_91_28 : decode prog_1_method_53_code 28 = .ok (.aload_n 0, 1) := by decide +kernel
theorem xd_91_29 : decode prog_1_method_53_code 29 = .ok (.getfield 23, 3) := by decide +kernel
theorem xd_91_32 : decode prog_1_method_53_code 32 = .ok (.iload 8, 2) := by decide +kernel
theorem xd_91_34 : decode prog_1_method_53_code 34 = .ok (.invokevirtual 232, 3) := by decide +kernel
theorem xd_91_37 : decode prog_1_method_53_code 37 = .ok (.istore 9, 2) := by decide +kernel
theorem xd_91_39 : decode prog_1_method_53_code 39 = .ok (.aload_n 0, 1) := by decide +kernel
theorem xd_91_40 : decode prog_1_method_53_code 40 = .ok (.aload_n 0, 1) := by decide +kernel
theorem xd_91_41 : decode prog_1_method_53_code 41 = .ok (.getfield 23, 3) := by decide +kernel
theorem xd_91_44 : decode prog_1_method_53_code 44 = .ok (.iload 8, 2) := by decide +kernel
theorem xd_91_46 : decode prog_1_method_53_code 46 = .ok (.invokevirtual 251, 3) := by decide +kernel
theorem xd_91_49 : decode prog_1_method_53_code 49 = .ok (.ifCond .eq 28, 3) := by decide +kernel
theorem xd_91_52 : decode prog_1_method_53_code 52 = .ok (.iload 5, 2) := by decide +kernel
theorem xd_91_54 : decode prog_1_method_53_code 54 = .ok (.iload 8, 2) := by decide +kernel
theorem xd_91_56 : decode prog_1_method_53_code 56 = .ok (.ishr, 1) := by decide +kernel
theorem xd_91_57 : decode prog_1_method_53_code 57 = .ok (.iconst 1, 1) := by decide +kernel
theorem xd_91_58 : decode prog_1_method_53_code 58 = .ok (.iand, 1) := by decide +kernel
theorem xd_91_59 : decode prog_1_method_53_code 59 = .ok (.ifCond .ne 18, 3) := by decide +kernel
theorem xd_91_62 : decode prog_1_method_53_code 62 = .ok (.iload 9, 2) := by decide +kernel
theorem xd_91_64 : decode prog_1_method_53_code 64 = .ok (.iload 7, 2) := by decide +kernel
theorem xd_91_66 : decode prog_1_method_53_code 66 = .ok (.if_icmp .le 11, 3) := by decide +kernel
theorem xd_91_69 : decode prog_1_method_53_code 69 = .ok (.iload 8, 2) := by decide +kernel
theorem xd_91_71 : decode prog_1_method_53_code 71 = .ok (.istore 6, 2) := by decide +kernel
theorem xd_91_73 : decode prog_1_method_53_code 73 = .ok (.iload 9, 2) := by decide +kernel
theorem xd_91_75 : decode prog_1_method_53_code 75 = .ok (.istore 7, 2) := by decide +kernel
theorem xd_91_77 : decode prog_1_method_53_code 77 = .ok (.iinc 8 (1), 3) := by decide +kernel
theorem xd_91_80 : decode prog_1_method_53_code 80 = .ok (.goto (-59), 3) := by decide +kernel
theorem xd_91_83 : decode prog_1_method_53_code 83 = .ok (.iload 6, 2) := by decide +kernel
theorem xd_91_85 : decode prog_1_method_53_code 85 = .ok (.iconst (-1), 1) := by decide +kernel
theorem xd_91_86 : decode prog_1_method_53_code 86 = .ok (.if_icmp .ne 7, 3) := by decide +kernel
theorem xd_91_89 : decode prog_1_method_53_code 89 = .ok (.iconst (-1), 1) := by decide +kernel
theorem xd_91_90 : decode prog_1_method_53_code 90 = .ok (.goto 9, 3) := by decide +kernel
theorem xd_91_93 : decode prog_1_method_53_code 93 = .ok (.aload_n 0, 1) := by decide +kernel
theorem xd_91_94 : decode prog_1_method_53_code 94 = .ok (.iload 6, 2) := by decide +kernel
theorem xd_91_96 : decode prog_1_method_53_code 96 = .ok (.invokevirtual 344, 3) := by decide +kernel
theorem xd_91_99 : decode prog_1_method_53_code 99 = .ok (.ireturn, 1) := by decide +kernel
theorem xk_91_0 : xk_OkA xp_F (xp_P sc) xp_cl xp_BW xp_NW xp_SW xp_exn 91 0 (.iload 4) := Or.inl ⟨xd_91_0, rfl⟩
theorem xk_91_1 : xk_OkA xp_F (xp_P sc) xp_cl xp_BW xp_NW xp_SW xp_exn 91 1 (.aload 0) := Or.inr ⟨0, rfl, xd_91_2, rfl⟩
theorem xk_91_2 : xk_OkA xp_F (xp_P sc) xp_cl xp_BW xp_NW xp_SW xp_exn 91 2 (.iload 1) := Or.inr ⟨1, rfl, xd_91_3, rfl⟩
theorem xk_91_3 : xk_OkA xp_F (xp_P sc) xp_cl xp_BW xp_NW xp_SW xp_exn 91 3 (.iload 2) := Or.inr ⟨2, rfl, xd_91_4, rfl⟩
theorem xk_91_4 : xk_OkA xp_F (xp_P sc) xp_cl xp_BW xp_NW xp_SW xp_exn 91 4 (.iload 3) := Or.inr ⟨3, rfl, xd_91_5, rfl⟩
theorem xk_91_5 : xk_OkA xp_F (xp_P sc) xp_cl xp_BW xp_NW xp_SW xp_exn 91 5 (.invokeinterface 93 4) := ⟨rfl, Or.inl ⟨xwt_425, rfl⟩, rfl, rfl, xwt_1, by decide +kernel, by decide +kernel, Nat.le_of_ble_eq_true rfl, _, Or.inl xwt_422, Or.inr ⟨xd_91_6, xwt_424, xws_38, ⟨_, _, _, rfl, rfl⟩, by decide +kernel⟩⟩
theorem xk_91_6 : xk_OkA xp_F (xp_P sc) xp_cl xp_BW xp_NW xp_SW xp_exn 91 6 (.ior) := ⟨xd_91_9, rfl⟩
theorem xk_91_7 : xk_OkA xp_F (xp_P sc) xp_cl xp_BW xp_NW xp_SW xp_exn 91 7 (.istore 5) := Or.inl ⟨xd_91_10, rfl⟩
theorem xk_91_8 : xk_OkA xp_F (xp_P sc) xp_cl xp_BW xp_NW xp_SW xp_exn 91 8 (.iconst (-1)) := Or.inl ⟨xd_91_12, rfl⟩
theorem xk_91_9 : xk_OkA xp_F (xp_P sc) xp_cl xp_BW xp_NW xp_SW xp_exn 91 9 (.istore 6) := Or.inl ⟨xd_91_13, rfl⟩
theorem xk_91_10 : xk_OkA xp_F (xp_P sc) xp_cl xp_BW xp_NW xp_SW xp_exn 91 10 (.iconst 0) := Or.inl ⟨xd_91_15, rfl⟩
theorem xk_91_11 : xk_OkA xp_F (xp_P sc) xp_cl xp_BW xp_NW xp_SW xp_exn 91 11 (.istore 7) := Or.inl ⟨xd_91_16, rfl⟩
theorem xk_91_12 : xk_OkA xp_F (xp_P sc) xp_cl xp_BW xp_NW xp_SW xp_exn 91 12 (.iconst 0) := Or.inl ⟨xd_91_18, rfl⟩
theorem xk_91_13 : xk_OkA xp_F (xp_P sc) xp_cl xp_BW xp_NW xp_SW xp_exn 91 13 (.istore 8) := Or.inl ⟨xd_91_19, rfl⟩
theorem xk_91_14 : xk_OkA xp_F (xp_P sc) xp_cl xp_BW xp_NW xp_SW xp_exn 91 14 (.iload 8) := Or.inl ⟨xd_91_21, rfl⟩
theorem xk_91_15 : xk_OkA xp_F (xp_P sc) xp_cl xp_BW xp_NW xp_SW xp_exn 91 15 (.iconst 4) := Or.inl ⟨xd_91_23, rfl⟩
theorem xk_91_16 : xk_OkA xp_F (xp_P sc) xp_cl xp_BW xp_NW xp_SW xp_exn 91 16 (.if_icmp .ge 44) := ⟨_, xd_91_24, by unfold xf_to; decide +kernel, rfl⟩
theorem xk_91_17 : xk_OkA xp_F (xp_P sc) xp_cl xp_BW xp_NW xp_SW xp_exn 91 17 (.aload 0) := Or.inr ⟨0, rfl, xd_91_27, rfl⟩
theorem xk_91_18 : xk_OkA xp_F (xp_P sc) xp_cl xp_BW xp_NW xp_SW xp_exn 91 18 (.aload 0) := Or.inr ⟨0, rfl, xd_91_28, rfl⟩
theorem xk_91_19 : xk_OkA xp_F (xp_P sc) xp_cl xp_BW xp_NW xp_SW xp_exn 91 19 (.getfield 98) := ⟨_, xd_91_29, rfl, ⟨_, _, _, rfl, by decide, xu_3, Or.inl xwt_79⟩⟩
theorem xk_91_20 : xk_OkA xp_F (xp_P sc) xp_cl xp_BW xp_NW xp_SW xp_exn 91 20 (.iload 8) := Or.inl ⟨xd_91_32, rfl⟩
theorem xk_91_21 : xk_OkA xp_F (xp_P sc) xp_cl xp_BW xp_NW xp_SW xp_exn 91 21 (.invokeinterface 90 3) := ⟨rfl, Or.inl ⟨xwt_446, rfl⟩, rfl, rfl, xwt_1, by decide +kernel, by decide +kernel, Nat.le_of_ble_eq_true rfl, _, Or.inl xwt_443, Or.inr ⟨xd_91_34, xwt_445, xws_41, ⟨_, _, _, rfl, rfl⟩, by decide +kernel⟩⟩
theorem xk_91_22 : xk_OkA xp_F (xp_P sc) xp_cl xp_BW xp_NW xp_SW xp_exn 91 22 (.istore 9) := Or.inl ⟨xd_91_37, rfl⟩
theorem xk_91_23 : xk_OkA xp_F (xp_P sc) xp_cl xp_BW xp_NW xp_SW xp_exn 91 23 (.aload 0) := Or.inr ⟨0, rfl, xd_91_39, rfl⟩
theorem xk_91_24 : xk_OkA xp_F (xp_P sc) xp_cl xp_BW xp_NW xp_SW xp_exn 91 24 (.aload 0) := Or.inr ⟨0, rfl, xd_91_40, rfl⟩
theorem xk_91_25 : xk_OkA xp_F (xp_P sc) xp_cl xp_BW xp_NW xp_SW xp_exn 91 25 (.getfield 98) := ⟨_, xd_91_41, rfl, ⟨_, _, _, rfl, by decide, xu_3, Or.inl xwt_79⟩⟩
theorem xk_91_26 : xk_OkA xp_F (xp_P sc) xp_cl xp_BW xp_NW xp_SW xp_exn 91 26 (.iload 8) := Or.inl ⟨xd_91_44, rfl⟩
theorem xk_91_27 : xk_OkA xp_F (xp_P sc) xp_cl xp_BW xp_NW xp_SW xp_exn 91 27 (.invokeinterface 87 3) := ⟨rfl, Or.inl ⟨xwt_285, rfl⟩, rfl, rfl, xwt_1, by decide +kernel, by decide +kernel, Nat.le_of_ble_eq_true rfl, _, Or.inl xwt_282, Or.inr ⟨xd_91_46, xwt_284, xws_14, ⟨_, _, _, rfl, rfl⟩, by decide +kernel⟩⟩
theorem xk_91_28 : xk_OkA xp_F (xp_P sc) xp_cl xp_BW xp_NW xp_SW xp_exn 91 28 (.ifCond .eq 42) := ⟨_, xd_91_49, by unfold xf_to; decide +kernel, rfl⟩
theorem xk_91_29 : xk_OkA xp_F (xp_P sc) xp_cl xp_BW xp_NW xp_SW xp_exn 91 29 (.iload 5) := Or.inl ⟨xd_91_52, rfl⟩
theorem xk_91_30 : xk_OkA xp_F (xp_P sc) xp_cl xp_BW xp_NW xp_SW xp_exn 91 30 (.iload 8) := Or.inl ⟨xd_91_54, rfl⟩
theorem xk_91_31 : xk_OkA xp_F (xp_P sc) xp_cl xp_BW xp_NW xp_SW xp_exn 91 31 (.ishr) := ⟨xd_91_56, rfl⟩
theorem xk_91_32 : xk_OkA xp_F (xp_P sc) xp_cl xp_BW xp_NW xp_SW xp_exn 91 32 (.iconst 1) := Or.inl ⟨xd_91_57, rfl⟩
theorem xk_91_33 : xk_OkA xp_F (xp_P sc) xp_cl xp_BW xp_NW xp_SW xp_exn 91 33 (.iand) := ⟨xd_91_58, rfl⟩
theorem xk_91_34 : xk_OkA xp_F (xp_P sc) xp_cl xp_BW xp_NW xp_SW xp_exn 91 34 (.ifCond .ne 42) := ⟨_, xd_91_59, by unfold xf_to; decide +kernel, rfl⟩
theorem xk_91_35 : xk_OkA xp_F (xp_P sc) xp_cl xp_BW xp_NW xp_SW xp_exn 91 35 (.iload 9) := Or.inl ⟨xd_91_62, rfl⟩
theorem xk_91_36 : xk_OkA xp_F (xp_P sc) xp_cl xp_BW xp_NW xp_SW xp_exn 91 36 (.iload 7) := Or.inl ⟨xd_91_64, rfl⟩
theorem xk_91_37 : xk_OkA xp_F (xp_P sc) xp_cl xp_BW xp_NW xp_SW xp_exn 91 37 (.if_icmp .le 42) := ⟨_, xd_91_66, by unfold xf_to; decide +kernel, rfl⟩
theorem xk_91_38 : xk_OkA xp_F (xp_P sc) xp_cl xp_BW xp_NW xp_SW xp_exn 91 38 (.iload 8) := Or.inl ⟨xd_91_69, rfl⟩
theorem xk_91_39 : xk_OkA xp_F (xp_P sc) xp_cl xp_BW xp_NW xp_SW xp_exn 91 39 (.istore 6) := Or.inl ⟨xd_91_71, rfl⟩
theorem xk_91_40 : xk_OkA xp_F (xp_P sc) xp_cl xp_BW xp_NW xp_SW xp_exn 91 40 (.iload 9) := Or.inl ⟨xd_91_73, rfl⟩
theorem xk_91_41 : xk_OkA xp_F (xp_P sc) xp_cl xp_BW xp_NW xp_SW xp_exn 91 41 (.istore 7) := Or.inl ⟨xd_91_75, rfl⟩
theorem xk_91_42 : xk_OkA xp_F (xp_P sc) xp_cl xp_BW xp_NW xp_SW xp_exn 91 42 (.iinc 8 (1)) := ⟨xd_91_77, rfl⟩
theorem xk_91_43 : xk_OkA xp_F (xp_P sc) xp_cl xp_BW xp_NW xp_SW xp_exn 91 43 (.goto 14) := ⟨_, xd_91_80, by unfold xf_to; decide +kernel⟩
theorem xk_91_44 : xk_OkA xp_F (xp_P sc) xp_cl xp_BW xp_NW xp_SW xp_exn 91 44 (.iload 6) := Or.inl ⟨xd_91_83, rfl⟩
theorem xk_91_45 : xk_OkA xp_F (xp_P sc) xp_cl xp_BW xp_NW xp_SW xp_exn 91 45 (.iconst (-1)) := Or.inl ⟨xd_91_85, rfl⟩
theorem xk_91_46 : xk_OkA xp_F (xp_P sc) xp_cl xp_BW xp_NW xp_SW xp_exn 91 46 (.if_icmp .ne 49) := ⟨_, xd_91_86, by unfold xf_to; decide +kernel, rfl⟩
theorem xk_91_47 : xk_OkA xp_F (xp_P sc) xp_cl xp_BW xp_NW xp_SW xp_exn 91 47 (.iconst (-1)) := Or.inl ⟨xd_91_89, rfl⟩
theorem xk_91_48 : xk_OkA xp_F (xp_P sc) xp_cl xp_BW xp_NW xp_SW xp_exn 91 48 (.goto 52) := ⟨_, xd_91_90, by unfold xf_to; decide +kernel⟩
theorem xk_91_49 : xk_OkA xp_F (xp_P sc) xp_cl xp_BW xp_NW xp_SW xp_exn 91 49 (.aload 0) := Or.inr ⟨0, rfl, xd_91_93, rfl⟩
theorem xk_91_50 : xk_OkA xp_F (xp_P sc) xp_cl xp_BW xp_NW xp_SW xp_exn 91 50 (.iload 6) := Or.inl ⟨xd_91_94, rfl⟩
theorem xk_91_51 : xk_OkA xp_F (xp_P sc) xp_cl xp_BW xp_NW xp_SW xp_exn 91 51 (.invokeinterface 92 2) := ⟨rfl, Or.inl ⟨xwt_451, rfl⟩, rfl, rfl, xwt_1, by decide +kernel, by decide +kernel, Nat.le_of_ble_eq_true rfl, _, Or.inl xwt_448, Or.inr ⟨xd_91_96, xwt_450, xws_42, ⟨_, _, _, rfl, rfl⟩, by decide +kernel⟩⟩
theorem xk_91_52 : xk_OkA xp_F (xp_P sc) xp_cl xp_BW xp_NW xp_SW xp_exn 91 52 (.ireturn) := ⟨xd_91_99, rfl⟩
theorem xl_91 : xk_OkL xp_F (xp_P sc) xp_cl xp_BW xp_NW xp_SW xp_exn 91 0 xc_91 := ⟨xk_91_0, xk_91_1, xk_91_2, xk_91_3, xk_91_4, xk_91_5, xk_91_6, xk_91_7, xk_91_8, xk_91_9, xk_91_10, xk_91_11, xk_91_12, xk_91_13, xk_91_14, xk_91_15, xk_91_16, xk_91_17, xk_91_18, xk_91_19, xk_91_20, xk_91_21, xk_91_22, xk_91_23, xk_91_24, xk_91_25, xk_91_26, xk_91_27, xk_91_28, xk_91_29, xk_91_30, xk_91_31, xk_91_32, xk_91_33, xk_91_34, xk_91_35, xk_91_36, xk_91_37, xk_91_38, xk_91_39, xk_91_40, xk_91_41, xk_91_42, xk_91_43, xk_91_44, xk_91_45, xk_91_46, xk_91_47, xk_91_48, xk_91_49, xk_91_50, xk_91_51, xk_91_52, trivial⟩
theorem xd_92_0 : decode prog_1_method_54_code 0 = .ok (.iload_n 1, 1) := by decide +kernel
theorem xd_92_1 : decode prog_1_method_54_code 1 = .ok (.bipush 8, 2) := by decide +kernel
theorem xd_92_3 : decode prog_1_method_54_code 3 = .ok (.imul, 1) := by decide +kernel
theorem xd_92_4 : decode prog_1_method_54_code 4 = .ok (.istore_n 2, 1) := by decide +kernel
theorem xd_92_5 : decode prog_1_method_54_code 5 = .ok (.iload_n 2, 1) := by decide +kernel
theorem xd_92_6 : decode prog_1_method_54_code 6 = .ok (.istore_n 3, 1) := by decide +kernel
theorem xd_92_7 : decode prog_1_method_54_code 7 = .ok (.iload_n 3, 1) := by decide +kernel
theorem xd_92_8 : decode prog_1_method_54_code 8 = .ok (.iload_n 2, 1) := by decide +kernel
theorem xd_92_9 : decode prog_1_method_54_code 9 = .ok (.aload_n 0, 1) := by decide +kernel
theorem xd_92_10 : decode prog_1_method_54_code 10 = .ok (.getfield 23, 3) := by decide +kernel
theorem xd_92_13 : decode prog_1_method_54_code 13 = .ok (.iload_n 1, 1) := by decide +kernel
theorem xd_92_14 : decode prog_1_method_54_code 14 = .ok (.invokevirtual 338, 3) := by decide +kernel
theorem xd_92_17 : decode prog_1_method_54_code 17 = .ok (.iadd, 1) := by decide +kernel
theorem xd_92_18 : decode prog_1_method_54_code 18 = .ok (.if_icmp .ge 33, 3) := by decide +kernel
theorem xd_92_21 : decode prog_1_method_54_code 21 = .ok (.iload_n 3, 1) := by decide +kernel
theorem xd_92_22 : decode prog_1_method_54_code 22 = .ok (.aload_n 0, 1) := by decide +kernel
theorem xd_92_23 : decode prog_1_method_54_code 23 = .ok (.getfield 29, 3) := by decide +kernel
theorem xd_92_26 : decode prog_1_method_54_code 26 = .ok (.getfield 90, 3) := by decide +kernel
theorem xd_92_29 : decode prog_1_method_54_code 29 = .ok (.if_icmp .eq 16, 3) := by decide +kernel
theorem xd_92_32 : decode prog_1_method_54_code 32 = .ok (.aload_n 0, 1) := by decide +kernel
theorem xd_92_33 : decode prog_1_method_54_code 33 = .ok (.getfield 23, 3) := by decide +kernel
theorem xd_92_36 : decode prog_1_method_54_code 36 = .ok (.iload_n 3, 1) := by decide +kernel
theorem xd_92_37 : decode prog_1_method_54_code 37 = .ok (.invokevirtual 347, 3) := by decide +kernel
theorem xd_92_40 : decode prog_1_method_54_code 40 = .ok (.ifCond .ne 5, 3) := by decide +kernel
theorem xd_92_43 : decode prog_1_method_54_code 43 = .ok (.iload_n 3, 1) := by decide +kernel
theorem xd_92_44 : decode prog_1_method_54_code 44 = .ok (.ireturn, 1) := by decide +kernel
theorem xd_92_45 : decode prog_1_method_54_code 45 = .ok (.iinc 3 (1), 3) := by decide +kernel
theorem xd_92_48 : decode prog_1_method_54_code 48 = .ok (.goto (-41), 3) := by decide +kernel
theorem xd_92_51 : decode prog_1_method_54_code 51 = .ok (.iconst (-1), 1) := by decide +kernel
theorem xd_92_52 : decode prog_1_method_54_code 52 = .ok (.ireturn, 1) := by decide +kernel
theorem xk_92_0 : xk_OkA xp_F (xp_P sc) xp_cl xp_BW xp_NW xp_SW xp_exn 92 0 (.iload 1) := Or.inr ⟨1, rfl, xd_92_0, rfl⟩
theorem xk_92_1 : xk_OkA xp_F (xp_P sc) xp_cl xp_BW xp_NW xp_SW xp_exn 92 1 (.iconst 8) := Or.inr (Or.inl ⟨xd_92_1, by decide +kernel, rfl⟩)
theorem xk_92_2 : xk_OkA xp_F (xp_P sc) xp_cl xp_BW xp_NW xp_SW xp_exn 92 2 (.imul) := ⟨xd_92_3, rfl⟩
theorem xk_92_3 : xk_OkA xp_F (xp_P sc) xp_cl xp_BW xp_NW xp_SW xp_exn 92 3 (.istore 2) := Or.inr ⟨2, rfl, xd_92_4, rfl⟩
theorem xk_92_4 : xk_OkA xp_F (xp_P sc) xp_cl xp_BW xp_NW xp_SW xp_exn 92 4 (.iload 2) := Or.inr ⟨2, rfl, xd_92_5, rfl⟩
theorem xk_92_5 : xk_OkA xp_F (xp_P sc) xp_cl xp_BW xp_NW xp_SW xp_exn 92 5 (.istore 3) := Or.inr ⟨3, rfl, xd_92_6, rfl⟩
theorem xk_92_6 : xk_OkA xp_F (xp_P sc) xp_cl xp_BW xp_NW xp_SW xp_exn 92 6 (.iload 3) := Or.inr ⟨3, rfl, xd_92_7, rfl⟩
theorem xk_92_7 : xk_OkA xp_F (xp_P sc) xp_cl xp_BW xp_NW xp_SW xp_exn 92 7 (.iload 2) := Or.inr ⟨2, rfl, xd_92_8, rfl⟩
theorem xk_92_8 : xk_OkA xp_F (xp_P sc) xp_cl xp_BW xp_NW xp_SW xp_exn 92 8 (.aload 0) := Or.inr ⟨0, rfl, xd_92_9, rfl⟩
theorem xk_92_9 : xk_OkA xp_F (xp_P sc) xp_cl xp_BW xp_NW xp_SW xp_exn 92 9 (.getfield 98) := ⟨_, xd_92_10, rfl, ⟨_, _, _, rfl, by decide, xu_3, Or.inl xwt_79⟩⟩
theorem xk_92_10 : xk_OkA xp_F (xp_P sc) xp_cl xp_BW xp_NW xp_SW xp_exn 92 10 (.iload 1) := Or.inr ⟨1, rfl, xd_92_13, rfl⟩
theorem xk_92_11 : xk_OkA xp_F (xp_P sc) xp_cl xp_BW xp_NW xp_SW xp_exn 92 11 (.invokeinterface 23 2) := ⟨rfl, Or.inl ⟨xwt_222, rfl⟩, rfl, rfl, xwt_3, by decide +kernel, by decide +kernel, Nat.le_of_ble_eq_true rfl, _, Or.inr ⟨_, xwn_447⟩, Or.inr ⟨xd_92_14, xwt_221, xws_4, ⟨_, _, _, rfl, rfl⟩, by decide +kernel⟩⟩
theorem xk_92_12 : xk_OkA xp_F (xp_P sc) xp_cl xp_BW xp_NW xp_SW xp_exn 92 12 (.iadd) := ⟨xd_92_17, rfl⟩
theorem xk_92_13 : xk_OkA xp_F (xp_P sc) xp_cl xp_BW xp_NW xp_SW xp_exn 92 13 (.if_icmp .ge 28) := ⟨_, xd_92_18, by unfold xf_to; decide +kernel, rfl⟩
theorem xk_92_14 : xk_OkA xp_F (xp_P sc) xp_cl xp_BW xp_NW xp_SW xp_exn 92 14 (.iload 3) := Or.inr ⟨3, rfl, xd_92_21, rfl⟩
theorem xk_92_15 : xk_OkA xp_F (xp_P sc) xp_cl xp_BW xp_NW xp_SW xp_exn 92 15 (.aload 0) := Or.inr ⟨0, rfl, xd_92_22, rfl⟩
theorem xk_92_16 : xk_OkA xp_F (xp_P sc) xp_cl xp_BW xp_NW xp_SW xp_exn 92 16 (.getfield 99) := ⟨_, xd_92_23, rfl, ⟨_, _, _, rfl, by decide, xu_3, Or.inl xwt_80⟩⟩
theorem xk_92_17 : xk_OkA xp_F (xp_P sc) xp_cl xp_BW xp_NW xp_SW xp_exn 92 17 (.getfield 34) := ⟨_, xd_92_26, rfl, ⟨_, _, _, rfl, by decide, xu_1, Or.inr ⟨_, xwn_65⟩⟩⟩
theorem xk_92_18 : xk_OkA xp_F (xp_P sc) xp_cl xp_BW xp_NW xp_SW xp_exn 92 18 (.if_icmp .eq 26) := ⟨_, xd_92_29, by unfold xf_to; decide +kernel, rfl⟩
theorem xk_92_19 : xk_OkA xp_F (xp_P sc) xp_cl xp_BW xp_NW xp_SW xp_exn 92 19 (.aload 0) := Or.inr ⟨0, rfl, xd_92_32, rfl⟩
theorem xk_92_20 : xk_OkA xp_F (xp_P sc) xp_cl xp_BW xp_NW xp_SW xp_exn 92 20 (.getfield 98) := ⟨_, xd_92_33, rfl, ⟨_, _, _, rfl, by decide, xu_3, Or.inl xwt_79⟩⟩
theorem xk_92_21 : xk_OkA xp_F (xp_P sc) xp_cl xp_BW xp_NW xp_SW xp_exn 92 21 (.iload 3) := Or.inr ⟨3, rfl, xd_92_36, rfl⟩
theorem xk_92_22 : xk_OkA xp_F (xp_P sc) xp_cl xp_BW xp_NW xp_SW xp_exn 92 22 (.invokeinterface 36 2) := ⟨rfl, Or.inl ⟨xwt_455, rfl⟩, rfl, rfl, xwt_3, by decide +kernel, by decide +kernel, Nat.le_of_ble_eq_true rfl, _, Or.inr ⟨_, xwn_452⟩, Or.inr ⟨xd_92_37, xwt_454, xws_43, ⟨_, _, _, rfl, rfl⟩, by decide +kernel⟩⟩
theorem xk_92_23 : xk_OkA xp_F (xp_P sc) xp_cl xp_BW xp_NW xp_SW xp_exn 92 23 (.ifCond .ne 26) := ⟨_, xd_92_40, by unfold xf_to; decide +kernel, rfl⟩
theorem xk_92_24 : xk_OkA xp_F (xp_P sc) xp_cl xp_BW xp_NW xp_SW xp_exn 92 24 (.iload 3) := Or.inr ⟨3, rfl, xd_92_43, rfl⟩
theorem xk_92_25 : xk_OkA xp_F (xp_P sc) xp_cl xp_BW xp_NW xp_SW xp_exn 92 25 (.ireturn) := ⟨xd_92_44, rfl⟩
theorem xk_92_26 : xk_OkA xp_F (xp_P sc) xp_cl xp_BW xp_NW xp_SW xp_exn 92 26 (.iinc 3 (1)) := ⟨xd_92_45, rfl⟩
theorem xk_92_27 : xk_OkA xp_F (xp_P sc) xp_cl xp_BW xp_NW xp_SW xp_exn 92 27 (.goto 6) := ⟨_, xd_92_48, by unfold xf_to; decide +kernel⟩
theorem xk_92_28 : xk_OkA xp_F (xp_P sc) xp_cl xp_BW xp_NW xp_SW xp_exn 92 28 (.iconst (-1)) := Or.inl ⟨xd_92_51, rfl⟩
theorem xk_92_29 : xk_OkA xp_F (xp_P sc) xp_cl xp_BW xp_NW xp_SW xp_exn 92 29 (.ireturn) := ⟨xd_92_52, rfl⟩
theorem xl_92 : xk_OkL xp_F (xp_P sc) xp_cl xp_BW xp_NW xp_SW xp_exn 92 0 xc_92 := ⟨xk_92_0, xk_92_1, xk_92_2, xk_92_3, xk_92_4, xk_92_5, xk_92_6, xk_92_7, xk_92_8, xk_92_9, xk_92_10, xk_92_11, xk_92_12, xk_92_13, xk_92_14, xk_92_15, xk_92_16, xk_92_17, xk_92_18, xk_92_19, xk_92_20, xk_92_21, xk_92_22, xk_92_23, xk_92_24, xk_92_25, xk_92_26, xk_92_27, xk_92_28, xk_92_29, trivial⟩
theorem xd_93_0 : decode prog_1_method_55_code 0 = .ok (.aload_n 0, 1) := by decide +kernel
theorem xd_93_1 : decode prog_1_method_55_code 1 = .ok (.getfield 23, 3) := by decide +kernel
theorem xd_93_4 : decode prog_1_method_55_code 4 = .ok (.iload_n 1, 1) := by decide +kernel
theorem xd_93_5 : decode prog_1_method_55_code 5 = .ok (.invokevirtual 146, 3) := by decide +kernel
theorem xd_93_8 : decode prog_1_method_55_code 8 = .ok (.istore 4, 2) := by decide +kernel
theorem xd_93_10 : decode prog_1_method_55_code 10 = .ok (.iload_n 2, 1) := by decide +kernel
theorem xd_93_11 : decode prog_1_method_55_code 11 = .ok (.iload_n 2, 1) := by decide +kernel
theorem xd_93_12 : decode prog_1_method_55_code 12 = .ok (.iload 4, 2) := by decide +kernel
theorem xd_93_14 : decode prog_1_method_55_code 14 = .ok (.irem, 1) := by decide +kernel
theorem xd_93_15 : decode prog_1_method_55_code 15 = .ok (.isub, 1) := by decide +kernel
theorem xd_93_16 : decode prog_1_method_55_code 16 = .ok (.istore 5, 2) := by decide +kernel
theorem xd_93_18 : decode prog_1_method_55_code 18 = .ok (.iconst 0, 1) := by decide +kernel
theorem xd_93_19 : decode prog_1_method_55_code 19 = .ok (.istore 6, 2) := by decide +kernel
theorem xd_93_21 : decode prog_1_method_55_code 21 = .ok (.iload 5, 2) := by decide +kernel
theorem xd_93_23 : decode prog_1_method_55_code 23 = .ok (.istore 7, 2) := by decide +kernel
theorem xd_93_25 : decode prog_1_method_55_code 25 = .ok (.iload 7, 2) := by decide +kernel
theorem xd_93_27 : decode prog_1_method_55_code 27 = .ok (.iload 5, 2) := by decide +kernel
theorem xd_93_29 : decode prog_1_method_55_code 29 = .ok (.iload 4, 2) := by decide +kernel
theorem xd_93_31 : decode prog_1_method_55_code 31 = .ok (.iadd, 1) := by decide +kernel
theorem xd_93_32 : decode prog_1_method_55_code 32 = .ok (.if_icmp .ge 53, 3) := by decide +kernel
theorem xd_93_35 : decode prog_1_method_55_code 35 = .ok (.iconst 0, 1) := by decide +kernel
theorem xd_93_36 : decode prog_1_method_55_code 36 = .ok (.istore 8, 2) := by decide +kernel
theorem xd_93_38 : decode prog_1_method_55_code 38 = .ok (.iload 8, 2) := by decide +kernel
theorem xd_93_40 : decode prog_1_method_55_code 40 = .ok (.iconst 2, 1) := by decide +kernel
theorem xd_93_41 : decode prog_1_method_55_code 41 = .ok (.if_icmp .ge 38, 3) := by decide +kernel
theorem xd_93_44 : decode prog_1_method_55_code 44 = .ok (.iload 7, 2) := by decide +kernel
theorem xd_93_46 : decode prog_1_method_55_code 46 = .ok (.iload_n 2, 1) := by decide +kernel
theorem xd_93_47 : decode prog_1_method_55_code 47 = .ok (.if_icmp .ne 9, 3) := by decide +kernel
theorem xd_93_50 : decode prog_1_method_55_code 50 = .ok (.iload 8, 2) := by decide +kernel
theorem xd_93_52 : decode prog_1_method_55_code 52 = .ok (.iload_n 3, 1) := by decide +kernel
theorem xd_93_53 : decode prog_1_method_55_code 53 = .ok (.if_icmp .eq 20, 3) := by decide +kernel
theorem xd_93_56 : decode prog_1_method_55_code 56 = .ok (.iload 6, 2) := by decide +kernel
theorem xd_93_58 : decode prog_1_method_55_code 58 = .ok (.aload_n 0, 1) := by decide +kernel
theorem xd_93_59 : decode prog_1_method_55_code 59 = .ok (.iload_n 1, 1) := by decide +kernel
theorem xd_93_60 : decode prog_1_method_55_code 60 = .ok (.iload 7, 2) := by decide +kernel
theorem xd_93_62 : decode prog_1_method_55_code 62 = .ok (.iload 8, 2) := by decide +kernel
theorem xd_93_64 : decode prog_1_method_55_code 64 = .ok (.invokestatic 186, 3) := by decide +kernel
theorem xd_93_67 : decode prog_1_method_55_code 67 = .ok (.invokevirtual 350, 3) := by decide +kernel
theorem xd_93_70 : decode prog_1_method_55_code 70 = .ok (.ior, 1) := by decide +kernel
theorem xd_93_71 : decode prog_1_method_55_code 71 = .ok (.istore 6, 2) := by decide +kernel
theorem xd_93_73 : decode prog_1_method_55_code 73 = .ok (.iinc 8 (1), 3) := by decide +kernel
theorem xd_93_76 : decode prog_1_method_55_code 76 = .ok (.goto (-38), 3) := by decide +kernel
theorem xd_93_79 : decode prog_1_method_55_code 79 = .ok (.iinc 7 (1), 3) := by decide +kernel
theorem xd_93_82 : decode prog_1_method_55_code 82 = .ok (.goto (-57), 3) := by decide +kernel
theorem xd_93_85 : decode prog_1_method_55_code 85 = .ok (.iload 6, 2) := by decide +kernel
theorem xd_93_87 : decode prog_1_method_55_code 87 = .ok (.ireturn, 1) := by decide +kernel
theorem xk_93_0 : xk_OkA xp_F (xp_P sc) xp_cl xp_BW xp_NW xp_SW xp_exn 93 0 (.aload 0) := Or.inr ⟨0, rfl, xd_93_0, rfl⟩
theorem xk_93_1 : xk_OkA xp_F (xp_P sc) xp_cl xp_BW xp_NW xp_SW xp_exn 93 1 (.getfield 98) := ⟨_, xd_93_1, rfl, ⟨_, _, _, rfl, by decide, xu_3, Or.inl xwt_79⟩⟩
theorem xk_93_2 : xk_OkA xp_F (xp_P sc) xp_cl xp_BW xp_NW xp_SW xp_exn 93 2 (.iload 1) := Or.inr ⟨1, rfl, xd_93_4, rfl⟩
theorem xk_93_3 : xk_OkA xp_F (xp_P sc) xp_cl xp_BW xp_NW xp_SW xp_exn 93 3 (.invokeinterface 30 2) := ⟨rfl, Or.inl ⟨xwt_429, rfl⟩, rfl, rfl, xwt_3, by decide +kernel, by decide +kernel, Nat.le_of_ble_eq_true rfl, _, Or.inr ⟨_, xwn_426⟩, Or.inr ⟨xd_93_5, xwt_428, xws_39, ⟨_, _, _, rfl, rfl⟩, by decide +kernel⟩⟩
theorem xk_93_4 : xk_OkA xp_F (xp_P sc) xp_cl xp_BW xp_NW xp_SW xp_exn 93 4 (.istore 4) := Or.inl ⟨xd_93_8, rfl⟩
theorem xk_93_5 : xk_OkA xp_F (xp_P sc) xp_cl xp_BW xp_NW xp_SW xp_exn 93 5 (.iload 2) := Or.inr ⟨2, rfl, xd_93_10, rfl⟩
theorem xk_93_6 : xk_OkA xp_F (xp_P sc) xp_cl xp_BW xp_NW xp_SW xp_exn 93 6 (.iload 2) := Or.inr ⟨2, rfl, xd_93_11, rfl⟩
theorem xk_93_7 : xk_OkA xp_F (xp_P sc) xp_cl xp_BW xp_NW xp_SW xp_exn 93 7 (.iload 4) := Or.inl ⟨xd_93_12, rfl⟩
theorem xk_93_8 : xk_OkA xp_F (xp_P sc) xp_cl xp_BW xp_NW xp_SW xp_exn 93 8 (.irem) := ⟨xd_93_14, rfl⟩
theorem xk_93_9 : xk_OkA xp_F (xp_P sc) xp_cl xp_BW xp_NW xp_SW xp_exn 93 9 (.isub) := ⟨xd_93_15, rfl⟩
theorem xk_93_10 : xk_OkA xp_F (xp_P sc) xp_cl xp_BW xp_NW xp_SW xp_exn 93 10 (.istore 5) := Or.inl ⟨xd_93_16, rfl⟩
theorem xk_93_11 : xk_OkA xp_F (xp_P sc) xp_cl xp_BW xp_NW xp_SW xp_exn 93 11 (.iconst 0) := Or.inl ⟨xd_93_18, rfl⟩
theorem xk_93_12 : xk_OkA xp_F (xp_P sc) xp_cl xp_BW xp_NW xp_SW xp_exn 93 12 (.istore 6) := Or.inl ⟨xd_93_19, rfl⟩
theorem xk_93_13 : xk_OkA xp_F (xp_P sc) xp_cl xp_BW xp_NW xp_SW xp_exn 93 13 (.iload 5) := Or.inl ⟨xd_93_21, rfl⟩
theorem xk_93_14 : xk_OkA xp_F (xp_P sc) xp_cl xp_BW xp_NW xp_SW xp_exn 93 14 (.istore 7) := Or.inl ⟨xd_93_23, rfl⟩
theorem xk_93_15 : xk_OkA xp_F (xp_P sc) xp_cl xp_BW xp_NW xp_SW xp_exn 93 15 (.iload 7) := Or.inl ⟨xd_93_25, rfl⟩
theorem xk_93_16 : xk_OkA xp_F (xp_P sc) xp_cl xp_BW xp_NW xp_SW xp_exn 93 16 (.iload 5) := Or.inl ⟨xd_93_27, rfl⟩
theorem xk_93_17 : xk_OkA xp_F (xp_P sc) xp_cl xp_BW xp_NW xp_SW xp_exn 93 17 (.iload 4) := Or.inl ⟨xd_93_29, rfl⟩
theorem xk_93_18 : xk_OkA xp_F (xp_P sc) xp_cl xp_BW xp_NW xp_SW xp_exn 93 18 (.iadd) := ⟨xd_93_31, rfl⟩
theorem xk_93_19 : xk_OkA xp_F (xp_P sc) xp_cl xp_BW xp_NW xp_SW xp_exn 93 19 (.if_icmp .ge 44) := ⟨_, xd_93_32, by unfold xf_to; decide +kernel, rfl⟩
theorem xk_93_20 : xk_OkA xp_F (xp_P sc) xp_cl xp_BW xp_NW xp_SW xp_exn 93 20 (.iconst 0) := Or.inl ⟨xd_93_35, rfl⟩
theorem xk_93_21 : xk_OkA xp_F (xp_P sc) xp_cl xp_BW xp_NW xp_SW xp_exn 93 21 (.istore 8) := Or.inl ⟨xd_93_36, rfl⟩
theorem xk_93_22 : xk_OkA xp_F (xp_P sc) xp_cl xp_BW xp_NW xp_SW xp_exn 93 22 (.iload 8) := Or.inl ⟨xd_93_38, rfl⟩
theorem xk_93_23 : xk_OkA xp_F (xp_P sc) xp_cl xp_BW xp_NW xp_SW xp_exn 93 23 (.iconst 2) := Or.inl ⟨xd_93_40, rfl⟩
theorem xk_93_24 : xk_OkA xp_F (xp_P sc) xp_cl xp_BW xp_NW xp_SW xp_exn 93 24 (.if_icmp .ge 42) := ⟨_, xd_93_41, by unfold xf_to; decide +kernel, rfl⟩
theorem xk_93_25 : xk_OkA xp_F (xp_P sc) xp_cl xp_BW xp_NW xp_SW xp_exn 93 25 (.iload 7) := Or.inl ⟨xd_93_44, rfl⟩
theorem xk_93_26 : xk_OkA xp_F (xp_P sc) xp_cl xp_BW xp_NW xp_SW xp_exn 93 26 (.iload 2) := Or.inr ⟨2, rfl, xd_93_46, rfl⟩
theorem xk_93_27 : xk_OkA xp_F (xp_P sc) xp_cl xp_BW xp_NW xp_SW xp_exn 93 27 (.if_icmp .ne 31) := ⟨_, xd_93_47, by unfold xf_to; decide +kernel, rfl⟩
theorem xk_93_28 : xk_OkA xp_F (xp_P sc) xp_cl xp_BW xp_NW xp_SW xp_exn 93 28 (.iload 8) := Or.inl ⟨xd_93_50, rfl⟩
theorem xk_93_29 : xk_OkA xp_F (xp_P sc) xp_cl xp_BW xp_NW xp_SW xp_exn 93 29 (.iload 3) := Or.inr ⟨3, rfl, xd_93_52, rfl⟩
theorem xk_93_30 : xk_OkA xp_F (xp_P sc) xp_cl xp_BW xp_NW xp_SW xp_exn 93 30 (.if_icmp .eq 40) := ⟨_, xd_93_53, by unfold xf_to; decide +kernel, rfl⟩
theorem xk_93_31 : xk_OkA xp_F (xp_P sc) xp_cl xp_BW xp_NW xp_SW xp_exn 93 31 (.iload 6) := Or.inl ⟨xd_93_56, rfl⟩
theorem xk_93_32 : xk_OkA xp_F (xp_P sc) xp_cl xp_BW xp_NW xp_SW xp_exn 93 32 (.aload 0) := Or.inr ⟨0, rfl, xd_93_58, rfl⟩
theorem xk_93_33 : xk_OkA xp_F (xp_P sc) xp_cl xp_BW xp_NW xp_SW xp_exn 93 33 (.iload 1) := Or.inr ⟨1, rfl, xd_93_59, rfl⟩
theorem xk_93_34 : xk_OkA xp_F (xp_P sc) xp_cl xp_BW xp_NW xp_SW xp_exn 93 34 (.iload 7) := Or.inl ⟨xd_93_60, rfl⟩
theorem xk_93_35 : xk_OkA xp_F (xp_P sc) xp_cl xp_BW xp_NW xp_SW xp_exn 93 35 (.iload 8) := Or.inl ⟨xd_93_62, rfl⟩
theorem xk_93_36 : xk_OkA xp_F (xp_P sc) xp_cl xp_BW xp_NW xp_SW xp_exn 93 36 (.invokeinterface 74 3) := ⟨rfl, Or.inl ⟨xwt_435, rfl⟩, rfl, rfl, xwt_1, by decide +kernel, by decide +kernel, Nat.le_of_ble_eq_true rfl, _, Or.inl xwt_433, Or.inl ⟨xd_93_64, xwt_434, rfl, by decide +kernel⟩⟩
theorem xk_93_37 : xk_OkA xp_F (xp_P sc) xp_cl xp_BW xp_NW xp_SW xp_exn 93 37 (.invokeinterface 94 2) := ⟨rfl, Or.inl ⟨xwt_439, rfl⟩, rfl, rfl, xwt_1, by decide +kernel, by decide +kernel, Nat.le_of_ble_eq_true rfl, _, Or.inl xwt_436, Or.inr ⟨xd_93_67, xwt_438, xws_40, ⟨_, _, _, rfl, rfl⟩, by decide +kernel⟩⟩
theorem xk_93_38 : xk_OkA xp_F (xp_P sc) xp_cl xp_BW xp_NW xp_SW xp_exn 93 38 (.ior) := ⟨xd_93_70, rfl⟩
theorem xk_93_39 : xk_OkA xp_F (xp_P sc) xp_cl xp_BW xp_NW xp_SW xp_exn 93 39 (.istore 6) := Or.inl ⟨xd_93_71, rfl⟩
theorem xk_93_40 : xk_OkA xp_F (xp_P sc) xp_cl xp_BW xp_NW xp_SW xp_exn 93 40 (.iinc 8 (1)) := ⟨xd_93_73, rfl⟩
theorem xk_93_41 : xk_OkA xp_F (xp_P sc) xp_cl xp_BW xp_NW xp_SW xp_exn 93 41 (.goto 22) := ⟨_, xd_93_76, by unfold xf_to; decide +kernel⟩
theorem xk_93_42 : xk_OkA xp_F (xp_P sc) xp_cl xp_BW xp_NW xp_SW xp_exn 93 42 (.iinc 7 (1)) := ⟨xd_93_79, rfl⟩
theorem xk_93_43 : xk_OkA xp_F (xp_P sc) xp_cl xp_BW xp_NW xp_SW xp_exn 93 43 (.goto 15) := ⟨_, xd_93_82, by unfold xf_to; decide +kernel⟩
theorem xk_93_44 : xk_OkA xp_F (xp_P sc) xp_cl xp_BW xp_NW xp_SW xp_exn 93 44 (.iload 6) := Or.inl ⟨xd_93_85, rfl⟩
theorem xk_93_45 : xk_OkA xp_F (xp_P sc) xp_cl xp_BW xp_NW xp_SW xp_exn 93 45 (.ireturn) := ⟨xd_93_87, rfl⟩
theorem xl_93 : xk_OkL xp_F (xp_P sc) xp_cl xp_BW xp_NW xp_SW xp_exn 93 0 xc_93 := ⟨xk_93_0, xk_93_1, xk_93_2, xk_93_3, xk_93_4, xk_93_5, xk_93_6, xk_93_7, xk_93_8, xk_93_9, xk_93_10, xk_93_11, xk_93_12, xk_93_13, xk_93_14, xk_93_15, xk_93_16, xk_93_17, xk_93_18, xk_93_19, xk_93_20, xk_93_21, xk_93_22, xk_93_23, xk_93_24, xk_93_25, xk_93_26, xk_93_27, xk_93_28, xk_93_29, xk_93_30, xk_93_31, xk_93_32, xk_93_33, xk_93_34, xk_93_35, xk_93_36, xk_93_37, xk_93_38, xk_93_39, xk_93_40, xk_93_41, xk_93_42, xk_93_43, xk_93_44, xk_93_45, trivial⟩
theorem xd_94_0 : decode prog_1_method_56_code 0 = .ok (.aload_n 0, 1) := by decide +kernel
theorem xd_94_1 : decode prog_1_method_56_code 1 = .ok (.getfield 23, 3) := by decide +kernel
theorem xd_94_4 : decode prog_1_method_56_code 4 = .ok (.iload_n 1, 1) := by decide +kernel
theorem xd_94_5 : decode prog_1_method_56_code 5 = .ok (.invokevirtual 199, 3) := by decide +kernel
theorem xd_94_8 : decode prog_1_method_56_code 8 = .ok (.invokestatic 353, 3) := by decide +kernel
theorem xd_94_11 : decode prog_1_method_56_code 11 = .ok (.istore_n 2, 1) := by decide +kernel
theorem xd_94_12 : decode prog_1_method_56_code 12 = .ok (.aload_n 0, 1) := by decide +kernel
theorem xd_94_13 : decode prog_1_method_56_code 13 = .ok (.getfield 29, 3) := by decide +kernel
theorem xd_94_16 : decode prog_1_method_56_code 16 = .ok (.getfield 212, 3) := by decide +kernel
theorem xd_94_19 : decode prog_1_method_56_code 19 = .ok (.iload_n 1, 1) := by decide +kernel
theorem xd_94_20 : decode prog_1_method_56_code 20 = .ok (.if_icmp .ne 18, 3) := by decide +kernel
theorem xd_94_23 : decode prog_1_method_56_code 23 = .ok (.iload_n 2, 1) := by decide +kernel
theorem xd_94_24 : decode prog_1_method_56_code 24 = .ok (.aload_n 0, 1) := by decide +kernel
theorem xd_94_25 : decode prog_1_method_56_code 25 = .ok (.getfield 29, 3) := by decide +kernel
theorem xd_94_28 : decode prog_1_method_56_code 28 = .ok (.getfield 90, 3) := by decide +kernel
theorem xd_94_31 : decode prog_1_method_56_code 31 = .ok (.invokestatic 353, 3) := by decide +kernel
theorem xd_94_34 : decode prog_1_method_56_code 34 = .ok (.ior, 1) := by decide +kernel
theorem xd_94_35 : decode prog_1_method_56_code 35 = .ok (.goto 4, 3) := by decide +kernel
theorem xd_94_38 : decode prog_1_method_56_code 38 = .ok (.iload_n 2, 1) := by decide +kernel
theorem xd_94_39 : decode prog_1_method_56_code 39 = .ok (.ireturn, 1) := by decide +kernel
theorem xk_94_0 : xk_OkA xp_F (xp_P sc) xp_cl xp_BW xp_NW xp_SW xp_exn 94 0 (.aload 0) := Or.inr ⟨0, rfl, xd_94_0, rfl⟩
theorem xk_94_1 : xk_OkA xp_F (xp_P sc) xp_cl xp_BW xp_NW xp_SW xp_exn 94 1 (.getfield 98) := ⟨_, xd_94_1, rfl, ⟨_, _, _, rfl, by decide, xu_3, Or.inl xwt_79⟩⟩
theorem xk_94_2 : xk_OkA xp_F (xp_P sc) xp_cl xp_BW xp_NW xp_SW xp_exn 94 2 (.iload 1) := Or.inr ⟨1, rfl, xd_94_4, rfl⟩
theorem xk_94_3 : xk_OkA xp_F (xp_P sc) xp_cl xp_BW xp_NW xp_SW xp_exn 94 3 (.invokeinterface 34 2) := ⟨rfl, Or.inl ⟨xwt_322, rfl⟩, rfl, rfl, xwt_3, by decide +kernel, by decide +kernel, Nat.le_of_ble_eq_true rfl, _, Or.inr ⟨_, xwn_319⟩, Or.inr ⟨xd_94_5, xwt_321, xws_22, ⟨_, _, _, rfl, rfl⟩, by decide +kernel⟩⟩
theorem xk_94_4 : xk_OkA xp_F (xp_P sc) xp_cl xp_BW xp_NW xp_SW xp_exn 94 4 (.invokeinterface 95 1) := ⟨rfl, Or.inl ⟨xwt_442, rfl⟩, rfl, rfl, xwt_1, by decide +kernel, by decide +kernel, Nat.le_of_ble_eq_true rfl, _, Or.inl xwt_440, Or.inl ⟨xd_94_8, xwt_441, rfl, by decide +kernel⟩⟩
theorem xk_94_5 : xk_OkA xp_F (xp_P sc) xp_cl xp_BW xp_NW xp_SW xp_exn 94 5 (.istore 2) := Or.inr ⟨2, rfl, xd_94_11, rfl⟩
theorem xk_94_6 : xk_OkA xp_F (xp_P sc) xp_cl xp_BW xp_NW xp_SW xp_exn 94 6 (.aload 0) := Or.inr ⟨0, rfl, xd_94_12, rfl⟩
theorem xk_94_7 : xk_OkA xp_F (xp_P sc) xp_cl xp_BW xp_NW xp_SW xp_exn 94 7 (.getfield 99) := ⟨_, xd_94_13, rfl, ⟨_, _, _, rfl, by decide, xu_3, Or.inl xwt_80⟩⟩
theorem xk_94_8 : xk_OkA xp_F (xp_P sc) xp_cl xp_BW xp_NW xp_SW xp_exn 94 8 (.getfield 33) := ⟨_, xd_94_16, rfl, ⟨_, _, _, rfl, by decide, xu_1, Or.inr ⟨_, xwn_63⟩⟩⟩
theorem xk_94_9 : xk_OkA xp_F (xp_P sc) xp_cl xp_BW xp_NW xp_SW xp_exn 94 9 (.iload 1) := Or.inr ⟨1, rfl, xd_94_19, rfl⟩
theorem xk_94_10 : xk_OkA xp_F (xp_P sc) xp_cl xp_BW xp_NW xp_SW xp_exn 94 10 (.if_icmp .ne 18) := ⟨_, xd_94_20, by unfold xf_to; decide +kernel, rfl⟩
theorem xk_94_11 : xk_OkA xp_F (xp_P sc) xp_cl xp_BW xp_NW xp_SW xp_exn 94 11 (.iload 2) := Or.inr ⟨2, rfl, xd_94_23, rfl⟩
theorem xk_94_12 : xk_OkA xp_F (xp_P sc) xp_cl xp_BW xp_NW xp_SW xp_exn 94 12 (.aload 0) := Or.inr ⟨0, rfl, xd_94_24, rfl⟩
theorem xk_94_13 : xk_OkA xp_F (xp_P sc) xp_cl xp_BW xp_NW xp_SW xp_exn 94 13 (.getfield 99) := ⟨_, xd_94_25, rfl, ⟨_, _, _, rfl, by decide, xu_3, Or.inl xwt_80⟩⟩
theorem xk_94_14 : xk_OkA xp_F (xp_P sc) xp_cl xp_BW xp_NW xp_SW xp_exn 94 14 (.getfield 34) := ⟨_, xd_94_28, rfl, ⟨_, _, _, rfl, by decide, xu_1, Or.inr ⟨_, xwn_65⟩⟩⟩
theorem xk_94_15 : xk_OkA xp_F (xp_P sc) xp_cl xp_BW xp_NW xp_SW xp_exn 94 15 (.invokeinterface 95 1) := ⟨rfl, Or.inl ⟨xwt_442, rfl⟩, rfl, rfl, xwt_1, by decide +kernel, by decide +kernel, Nat.le_of_ble_eq_true rfl, _, Or.inl xwt_440, Or.inl ⟨xd_94_31, xwt_441, rfl, by decide +kernel⟩⟩
theorem xk_94_16 : xk_OkA xp_F (xp_P sc) xp_cl xp_BW xp_NW xp_SW xp_exn 94 16 (.ior) := ⟨xd_94_34, rfl⟩
theorem xk_94_17 : xk_OkA xp_F (xp_P sc) xp_cl xp_BW xp_NW xp_SW xp_exn 94 17 (.goto 19) := ⟨_, xd_94_35, by unfold xf_to; decide +kernel⟩
theorem xk_94_18 : xk_OkA xp_F (xp_P sc) xp_cl xp_BW xp_NW xp_SW xp_exn 94 18 (.iload 2) := Or.inr ⟨2, rfl, xd_94_38, rfl⟩
theorem xk_94_19 : xk_OkA xp_F (xp_P sc) xp_cl xp_BW xp_NW xp_SW xp_exn 94 19 (.ireturn) := ⟨xd_94_39, rfl⟩
theorem xl_94 : xk_OkL xp_F (xp_P sc) xp_cl xp_BW xp_NW xp_SW xp_exn 94 0 xc_94 := ⟨xk_94_0, xk_94_1, xk_94_2, xk_94_3, xk_94_4, xk_94_5, xk_94_6, xk_94_7, xk_94_8, xk_94_9, xk_94_10, xk_94_11, xk_94_12, xk_94_13, xk_94_14, xk_94_15, xk_94_16, xk_94_17, xk_94_18, xk_94_19, trivial⟩
theorem xd_95_0 : decode prog_1_method_57_code 0 = .ok (.iload_n 0, 1) := by decide +kernel
theorem xd_95_1 : decode prog_1_method_57_code 1 = .ok (.iconst (-1), 1) := by decide +kernel
theorem xd_95_2 : decode prog_1_method_57_code 2 = .ok (.if_icmp .ne 7, 3) := by decide +kernel
theorem xd_95_5 : decode prog_1_method_57_code 5 = .ok (.iconst 0, 1) := by decide +kernel
theorem xd_95_6 : decode prog_1_method_57_code 6 = .ok (.goto 9, 3) := by decide +kernel
theorem xd_95_9 : decode prog_1_method_57_code 9 = .ok (.iconst 1, 1) := by decide +kernel
theorem xd_95_10 : decode prog_1_method_57_code 10 = .ok (.iload_n 0, 1) := by decide +kernel
theorem xd_95_11 : decode prog_1_method_57_code 11 = .ok (.bipush 8, 2) := by decide +kernel
theorem xd_95_13 : decode prog_1_method_57_code 13 = .ok (.idiv, 1) := by decide +kernel
theorem xd_95_14 : decode prog_1_method_57_code 14 = .ok (.ishl, 1) := by decide +kernel
theorem xd_95_15 : decode prog_1_method_57_code 15 = .ok (.ireturn, 1) := by decide +kernel
theorem xk_95_0 : xk_OkA xp_F (xp_P sc) xp_cl xp_BW xp_NW xp_SW xp_exn 95 0 (.iload 0) := Or.inr ⟨0, rfl, xd_95_0, rfl⟩
theorem xk_95_1 : xk_OkA xp_F (xp_P sc) xp_cl xp_BW xp_NW xp_SW xp_exn 95 1 (.iconst (-1)) := Or.inl ⟨xd_95_1, rfl⟩
theorem xk_95_2 : xk_OkA xp_F (xp_P sc) xp_cl xp_BW xp_NW xp_SW xp_exn 95 2 (.if_icmp .ne 5) := ⟨_, xd_95_2, by unfold xf_to; decide +kernel, rfl⟩
theorem xk_95_3 : xk_OkA xp_F (xp_P sc) xp_cl xp_BW xp_NW xp_SW xp_exn 95 3 (.iconst 0) := Or.inl ⟨xd_95_5, rfl⟩
theorem xk_95_4 : xk_OkA xp_F (xp_P sc) xp_cl xp_BW xp_NW xp_SW xp_exn 95 4 (.goto 10) := ⟨_, xd_95_6, by unfold xf_to; decide +kernel⟩
theorem xk_95_5 : xk_OkA xp_F (xp_P sc) xp_cl xp_BW xp_NW xp_SW xp_exn 95 5 (.iconst 1) := Or.inl ⟨xd_95_9, rfl⟩
theorem xk_95_6 : xk_OkA xp_F (xp_P sc) xp_cl xp_BW xp_NW xp_SW xp_exn 95 6 (.iload 0) := Or.inr ⟨0, rfl, xd_95_10, rfl⟩
theorem xk_95_7 : xk_OkA xp_F (xp_P sc) xp_cl xp_BW xp_NW xp_SW xp_exn 95 7 (.iconst 8) := Or.inr (Or.inl ⟨xd_95_11, by decide +kernel, rfl⟩)
theorem xk_95_8 : xk_OkA xp_F (xp_P sc) xp_cl xp_BW xp_NW xp_SW xp_exn 95 8 (.idiv) := ⟨xd_95_13, rfl⟩
theorem xk_95_9 : xk_OkA xp_F (xp_P sc) xp_cl xp_BW xp_NW xp_SW xp_exn 95 9 (.ishl) := ⟨xd_95_14, rfl⟩
theorem xk_95_10 : xk_OkA xp_F (xp_P sc) xp_cl xp_BW xp_NW xp_SW xp_exn 95 10 (.ireturn) := ⟨xd_95_15, rfl⟩
theorem xl_95 : xk_OkL xp_F (xp_P sc) xp_cl xp_BW xp_NW xp_SW xp_exn 95 0 xc_95 := ⟨xk_95_0, xk_95_1, xk_95_2, xk_95_3, xk_95_4, xk_95_5, xk_95_6, xk_95_7, xk_95_8, xk_95_9, xk_95_10, trivial⟩
theorem xd_96_0 : decode prog_1_method_58_code 0 = .ok (.aload_n 0, 1) := by decide +kernel
theorem xd_96_1 : decode prog_1_method_58_code 1 = .ok (.iload_n 1, 1) := by decide +kernel
theorem xd_96_2 : decode prog_1_method_58_code 2 = .ok (.iload_n 2, 1) := by decide +kernel
theorem xd_96_3 : decode prog_1_method_58_code 3 = .ok (.iload_n 3, 1) := by decide +kernel
theorem xd_96_4 : decode prog_1_method_58_code 4 = .ok (.iconst 0, 1) := by decide +kernel
theorem xd_96_5 : decode prog_1_method_58_code 5 = .ok (.invokevirtual 356, 3) := by decide +kernel
theorem xd_96_8 : decode prog_1_method_58_code 8 = .ok (.istore 4, 2) := by decide +kernel
theorem xd_96_10 : decode prog_1_method_58_code 10 = .ok (.iload 4, 2) := by decide +kernel
theorem xd_96_12 : decode prog_1_method_58_code 12 = .ok (.iconst (-1), 1) := by decide +kernel
theorem xd_96_13 : decode prog_1_method_58_code 13 = .ok (.if_icmp .ne 14, 3) := by decide +kernel
theorem xd_96_16 : decode prog_1_method_58_code 16 = .ok (.new 62, 3) := by decide +kernel
theorem xd_96_19 : decode prog_1_method_58_code 19 = .ok (.dup, 1) := by decide +kernel
theorem xd_96_20 : decode prog_1_method_58_code 20 = .ok (.ldc_w 360, 3) := by decide +kernel
theorem xd_96_23 : decode prog_1_method_58_code 23 = .ok (.invokespecial 66, 3) := by decide +kernel
theorem xd_96_26 : decode prog_1_method_58_code 26 = .ok (.athrow, 1) := by decide +kernel
theorem xd_96_27 : decode prog_1_method_58_code 27 = .ok (.aload_n 0, 1) := by decide +kernel
theorem xd_96_28 : decode prog_1_method_58_code 28 = .ok (.getfield 23, 3) := by decide +kernel
theorem xd_96_31 : decode prog_1_method_58_code 31 = .ok (.iload_n 1, 1) := by decide +kernel
theorem xd_96_32 : decode prog_1_method_58_code 32 = .ok (.iload_n 2, 1) := by decide +kernel
theorem xd_96_33 : decode prog_1_method_58_code 33 = .ok (.iload_n 3, 1) := by decide +kernel
theorem xd_96_34 : decode prog_1_method_58_code 34 = .ok (.invokestatic 186, 3) := by decide +kernel
theorem xd_96_37 : decode prog_1_method_58_code 37 = .ok (.iload 4, 2) := by decide +kernel
theorem xd_96_39 : decode prog_1_method_58_code 39 = .ok (.invokevirtual 335, 3) := by decide +kernel
theorem xd_96_42 : decode prog_1_method_58_code 42 = .ok (.return_, 1) := by decide +kernel
theorem xk_96_0 : xk_OkA xp_F (xp_P sc) xp_cl xp_BW xp_NW xp_SW xp_exn 96 0 (.aload 0) := Or.inr ⟨0, rfl, xd_96_0, rfl⟩
theorem xk_96_1 : xk_OkA xp_F (xp_P sc) xp_cl xp_BW xp_NW xp_SW xp_exn 96 1 (.iload 1) := Or.inr ⟨1, rfl, xd_96_1, rfl⟩
theorem xk_96_2 : xk_OkA xp_F (xp_P sc) xp_cl xp_BW xp_NW xp_SW xp_exn 96 2 (.iload 2) := Or.inr ⟨2, rfl, xd_96_2, rfl⟩
theorem xk_96_3 : xk_OkA xp_F (xp_P sc) xp_cl xp_BW xp_NW xp_SW xp_exn 96 3 (.iload 3) := Or.inr ⟨3, rfl, xd_96_3, rfl⟩
theorem xk_96_4 : xk_OkA xp_F (xp_P sc) xp_cl xp_BW xp_NW xp_SW xp_exn 96 4 (.iconst 0) := Or.inl ⟨xd_96_4, rfl⟩
theorem xk_96_5 : xk_OkA xp_F (xp_P sc) xp_cl xp_BW xp_NW xp_SW xp_exn 96 5 (.invokeinterface 91 5) := ⟨rfl, Or.inl ⟨xwt_421, rfl⟩, rfl, rfl, xwt_1, by decide +kernel, by decide +kernel, Nat.le_of_ble_eq_true rfl, _, Or.inl xwt_418, Or.inr ⟨xd_96_5, xwt_420, xws_37, ⟨_, _, _, rfl, rfl⟩, by decide +kernel⟩⟩
theorem xk_96_6 : xk_OkA xp_F (xp_P sc) xp_cl xp_BW xp_NW xp_SW xp_exn 96 6 (.istore 4) := Or.inl ⟨xd_96_8, rfl⟩
theorem xk_96_7 : xk_OkA xp_F (xp_P sc) xp_cl xp_BW xp_NW xp_SW xp_exn 96 7 (.iload 4) := Or.inl ⟨xd_96_10, rfl⟩
theorem xk_96_8 : xk_OkA xp_F (xp_P sc) xp_cl xp_BW xp_NW xp_SW xp_exn 96 8 (.iconst (-1)) := Or.inl ⟨xd_96_12, rfl⟩
theorem xk_96_9 : xk_OkA xp_F (xp_P sc) xp_cl xp_BW xp_NW xp_SW xp_exn 96 9 (.if_icmp .ne 11) := ⟨_, xd_96_13, by unfold xf_to; decide +kernel, rfl⟩
theorem xk_96_10 : xk_OkA xp_F (xp_P sc) xp_cl xp_BW xp_NW xp_SW xp_exn 96 10 (.new 2) := ⟨62, 360, 66, _, xp_chain, xd_96_16, xd_96_19, List.mem_of_getElem? (i := 12) rfl, xwt_227, xwt_11, by decide +kernel, by decide +kernel, rfl, Or.inl ⟨xa_3_2, xo_3_2, by decide, by decide, Or.inr ⟨xd_96_20, xd_96_23, xd_96_26⟩⟩⟩
theorem xk_96_11 : xk_OkA xp_F (xp_P sc) xp_cl xp_BW xp_NW xp_SW xp_exn 96 11 (.aload 0) := Or.inr ⟨0, rfl, xd_96_27, rfl⟩
theorem xk_96_12 : xk_OkA xp_F (xp_P sc) xp_cl xp_BW xp_NW xp_SW xp_exn 96 12 (.getfield 98) := ⟨_, xd_96_28, rfl, ⟨_, _, _, rfl, by decide, xu_3, Or.inl xwt_79⟩⟩
theorem xk_96_13 : xk_OkA xp_F (xp_P sc) xp_cl xp_BW xp_NW xp_SW xp_exn 96 13 (.iload 1) := Or.inr ⟨1, rfl, xd_96_31, rfl⟩
theorem xk_96_14 : xk_OkA xp_F (xp_P sc) xp_cl xp_BW xp_NW xp_SW xp_exn 96 14 (.iload 2) := Or.inr ⟨2, rfl, xd_96_32, rfl⟩
theorem xk_96_15 : xk_OkA xp_F (xp_P sc) xp_cl xp_BW xp_NW xp_SW xp_exn 96 15 (.iload 3) := Or.inr ⟨3, rfl, xd_96_33, rfl⟩
theorem xk_96_16 : xk_OkA xp_F (xp_P sc) xp_cl xp_BW xp_NW xp_SW xp_exn 96 16 (.invokeinterface 74 3) := ⟨rfl, Or.inl ⟨xwt_435, rfl⟩, rfl, rfl, xwt_1, by decide +kernel, by decide +kernel, Nat.le_of_ble_eq_true rfl, _, Or.inl xwt_433, Or.inl ⟨xd_96_34, xwt_434, rfl, by decide +kernel⟩⟩
theorem xk_96_17 : xk_OkA xp_F (xp_P sc) xp_cl xp_BW xp_NW xp_SW xp_exn 96 17 (.iload 4) := Or.inl ⟨xd_96_37, rfl⟩
theorem xk_96_18 : xk_OkA xp_F (xp_P sc) xp_cl xp_BW xp_NW xp_SW xp_exn 96 18 (.invokeinterface 35 3) := ⟨rfl, Or.inl ⟨xwt_374, rfl⟩, rfl, rfl, xwt_3, by decide +kernel, by decide +kernel, Nat.le_of_ble_eq_true rfl, _, Or.inr ⟨_, xwn_457⟩, Or.inr ⟨xd_96_39, xwt_373, xws_29, ⟨_, _, _, rfl, rfl⟩, by decide +kernel⟩⟩
theorem xk_96_19 : xk_OkA xp_F (xp_P sc) xp_cl xp_BW xp_NW xp_SW xp_exn 96 19 (.return_) := ⟨xd_96_42, rfl⟩
theorem xl_96 : xk_OkL xp_F (xp_P sc) xp_cl xp_BW xp_NW xp_SW xp_exn 96 0 xc_96 := ⟨xk_96_0, xk_96_1, xk_96_2, xk_96_3, xk_96_4, xk_96_5, xk_96_6, xk_96_7, xk_96_8, xk_96_9, xk_96_10, xk_96_11, xk_96_12, xk_96_13, xk_96_14, xk_96_15, xk_96_16, xk_96_17, xk_96_18, xk_96_19, trivial⟩
theorem xd_97_0 : decode prog_1_method_59_code 0 = .ok (.aload_n 0, 1) := by decide +kernel
theorem xd_97_1 : decode prog_1_method_59_code 1 = .ok (.getfield 23, 3) := by decide +kernel
theorem xd_97_4 : decode prog_1_method_59_code 4 = .ok (.iload_n 1, 1) := by decide +kernel
theorem xd_97_5 : decode prog_1_method_59_code 5 = .ok (.invokevirtual 151, 3) := by decide +kernel
theorem xd_97_8 : decode prog_1_method_59_code 8 = .ok (.iconst 2, 1) := by decide +kernel
theorem xd_97_9 : decode prog_1_method_59_code 9 = .ok (.if_icmp .ne 7, 3) := by decide +kernel
theorem xd_97_12 : decode prog_1_method_59_code 12 = .ok (.iconst 2, 1) := by decide +kernel
theorem xd_97_13 : decode prog_1_method_59_code 13 = .ok (.goto 4, 3) := by decide +kernel
theorem xd_97_16 : decode prog_1_method_59_code 16 = .ok (.iconst 1, 1) := by decide +kernel
theorem xd_97_17 : decode prog_1_method_59_code 17 = .ok (.istore_n 3, 1) := by decide +kernel
theorem xd_97_18 : decode prog_1_method_59_code 18 = .ok (.aload_n 0, 1) := by decide +kernel
theorem xd_97_19 : decode prog_1_method_59_code 19 = .ok (.getfield 23, 3) := by decide +kernel
theorem xd_97_22 : decode prog_1_method_59_code 22 = .ok (.iload_n 1, 1) := by decide +kernel
theorem xd_97_23 : decode prog_1_method_59_code 23 = .ok (.invokevirtual 143, 3) := by decide +kernel
theorem xd_97_26 : decode prog_1_method_59_code 26 = .ok (.istore 4, 2) := by decide +kernel
theorem xd_97_28 : decode prog_1_method_59_code 28 = .ok (.iload_n 2, 1) := by decide +kernel
theorem xd_97_29 : decode prog_1_method_59_code 29 = .ok (.istore 5, 2) := by decide +kernel
theorem xd_97_31 : decode prog_1_method_59_code 31 = .ok (.iload 5, 2) := by decide +kernel
theorem xd_97_33 : decode prog_1_method_59_code 33 = .ok (.iload 4, 2) := by decide +kernel
theorem xd_97_35 : decode prog_1_method_59_code 35 = .ok (.if_icmp .ge 33, 3) := by decide +kernel
theorem xd_97_38 : decode prog_1_method_59_code 38 = .ok (.iconst 0, 1) := by decide +kernel
theorem xd_97_39 : decode prog_1_method_59_code 39 = .ok (.istore 6, 2) := by decide +kernel
theorem xd_97_41 : decode prog_1_method_59_code 41 = .ok (.iload 6, 2) := by decide +kernel
theorem xd_97_43 : decode prog_1_method_59_code 43 = .ok (.iload_n 3, 1) := by decide +kernel
theorem xd_97_44 : decode prog_1_method_59_code 44 = .ok (.if_icmp .ge 18, 3) := by decide +kernel
theorem xd_97_47 : decode prog_1_method_59_code 47 = .ok (.aload_n 0, 1) := by decide +kernel
theorem xd_97_48 : decode prog_1_method_59_code 48 = .ok (.iload_n 1, 1) := by decide +kernel
theorem xd_97_49 : decode prog_1_method_59_code 49 = .ok (.iload 5, 2) := by decide +kernel
theorem xd_97_51 : decode prog_1_method_59_code 51 = .ok (.iload 6, 2) := by decide +kernel
theorem xd_97_53 : decode prog_1_method_59_code 53 = .ok (.invokevirtual 362, 3) := by decide +kernel
theorem xd_97_56 : decode prog_1_method_59_code 56 = .ok (.iinc 6 (1), 3) := by decide +kernel
theorem xd_97_59 : decode prog_1_method_59_code 59 = .ok (.goto (-18), 3) := by decide +kernel
theorem xd_97_62 : decode prog_1_method_59_code 62 = .ok (.iinc 5 (1), 3) := by decide +kernel
theorem xd_97_65 : decode prog_1_method_59_code 65 = .ok (.goto (-34), 3) := by decide +kernel
theorem xd_97_68 : decode prog_1_method_59_code 68 = .ok (.iload_n 2, 1) := by decide +kernel
theorem xd_97_69 : decode prog_1_method_59_code 69 = .ok (.istore 5, 2) := by decide +kernel
theorem xd_97_71 : decode prog_1_method_59_code 71 = .ok (.iload 5, 2) := by decide +kernel
theorem xd_97_73 : decode prog_1_method_59_code 73 = .ok (.iload 4, 2) := by decide +kernel
theorem xd_97_75 : decode prog_1_method_59_code 75 = .ok (.if_icmp .ge 36, 3) := by decide +kernel
theorem xd_97_78 : decode prog_1_method_59_code 78 = .ok (.iconst 0, 1) := by decide +kernel
theorem xd_97_79 : decode prog_1_method_59_code 79 = .ok (.istore 6, 2) := by decide +kernel
theorem xd_97_81 : decode prog_1_method_59_code 81 = .ok (.iload 6, 2) := by decide +kernel
theorem xd_97_83 : decode prog_1_method_59_code 83 = .ok (.iload_n 3, 1) := by decide +kernel
theorem xd_97_84 : decode prog_1_method_59_code 84 = .ok (.if_icmp .ge 21, 3) := by decide +kernel
theorem xd_97_87 : decode prog_1_method_59_code 87 = .ok (.aload_n 0, 1) := by decide +kernel
theorem xd_97_88 : decode prog_1_method_59_code 88 = .ok (.iload_n 1, 1) := by decide +kernel
theorem xd_97_89 : decode prog_1_method_59_code 89 = .ok (.iload 5, 2) := by decide +kernel
theorem xd_97_91 : decode prog_1_method_59_code 91 = .ok (.iload 6, 2) := by decide +kernel
theorem xd_97_93 : decode prog_1_method_59_code 93 = .ok (.invokestatic 186, 3) := by decide +kernel
theorem xd_97_96 : decode prog_1_method_59_code 96 = .ok (.invokevirtual 365, 3) := by decide +kernel
theorem xd_97_99 : decode prog_1_method_59_code 99 = .ok (.iinc 6 (1), 3) := by decide +kernel
theorem xd_97_102 : decode prog_1_method_59_code 102 = .ok (.goto (-21), 3) := by decide +kernel
theorem xd_97_105 : decode prog_1_method_59_code 105 = .ok (.iinc 5 (1), 3) := by decide +kernel
theorem xd_97_108 : decode prog_1_method_59_code 108 = .ok (.goto (-37), 3) := by decide +kernel
theorem xd_97_111 : decode prog_1_method_59_code 111 = .ok (.aload_n 0, 1) := by decide +kernel
theorem xd_97_112 : decode prog_1_method_59_code 112 = .ok (.invokevirtual 80, 3) := by decide +kernel
theorem xd_97_115 : decode prog_1_method_59_code 115 = .ok (.return_, 1) := by decide +kernel
theorem xk_97_0 : xk_OkA xp_F (xp_P sc) xp_cl xp_BW xp_NW xp_SW xp_exn 97 0 (.aload 0) := Or.inr ⟨0, rfl, xd_97_0, rfl⟩
theorem xk_97_1 : xk_OkA xp_F (xp_P sc) xp_cl xp_BW xp_NW xp_SW xp_exn 97 1 (.getfield 98) := ⟨_, xd_97_1, rfl, ⟨_, _, _, rfl, by decide, xu_3, Or.inl xwt_79⟩⟩
theorem xk_97_2 : xk_OkA xp_F (xp_P sc) xp_cl xp_BW xp_NW xp_SW xp_exn 97 2 (.iload 1) := Or.inr ⟨1, rfl, xd_97_4, rfl⟩
theorem xk_97_3 : xk_OkA xp_F (xp_P sc) xp_cl xp_BW xp_NW xp_SW xp_exn 97 3 (.invokeinterface 29 2) := ⟨rfl, Or.inl ⟨xwt_409, rfl⟩, rfl, rfl, xwt_3, by decide +kernel, by decide +kernel, Nat.le_of_ble_eq_true rfl, _, Or.inr ⟨_, xwn_406⟩, Or.inr ⟨xd_97_5, xwt_408, xws_34, ⟨_, _, _, rfl, rfl⟩, by decide +kernel⟩⟩
theorem xk_97_4 : xk_OkA xp_F (xp_P sc) xp_cl xp_BW xp_NW xp_SW xp_exn 97 4 (.iconst 2) := Or.inl ⟨xd_97_8, rfl⟩
theorem xk_97_5 : xk_OkA xp_F (xp_P sc) xp_cl xp_BW xp_NW xp_SW xp_exn 97 5 (.if_icmp .ne 8) := ⟨_, xd_97_9, by unfold xf_to; decide +kernel, rfl⟩
theorem xk_97_6 : xk_OkA xp_F (xp_P sc) xp_cl xp_BW xp_NW xp_SW xp_exn 97 6 (.iconst 2) := Or.inl ⟨xd_97_12, rfl⟩
theorem xk_97_7 : xk_OkA xp_F (xp_P sc) xp_cl xp_BW xp_NW xp_SW xp_exn 97 7 (.goto 9) := ⟨_, xd_97_13, by unfold xf_to; decide +kernel⟩
theorem xk_97_8 : xk_OkA xp_F (xp_P sc) xp_cl xp_BW xp_NW xp_SW xp_exn 97 8 (.iconst 1) := Or.inl ⟨xd_97_16, rfl⟩
theorem xk_97_9 : xk_OkA xp_F (xp_P sc) xp_cl xp_BW xp_NW xp_SW xp_exn 97 9 (.istore 3) := Or.inr ⟨3, rfl, xd_97_17, rfl⟩
theorem xk_97_10 : xk_OkA xp_F (xp_P sc) xp_cl xp_BW xp_NW xp_SW xp_exn 97 10 (.aload 0) := Or.inr ⟨0, rfl, xd_97_18, rfl⟩
theorem xk_97_11 : xk_OkA xp_F (xp_P sc) xp_cl xp_BW xp_NW xp_SW xp_exn 97 11 (.getfield 98) := ⟨_, xd_97_19, rfl, ⟨_, _, _, rfl, by decide, xu_3, Or.inl xwt_79⟩⟩
theorem xk_97_12 : xk_OkA xp_F (xp_P sc) xp_cl xp_BW xp_NW xp_SW xp_exn 97 12 (.iload 1) := Or.inr ⟨1, rfl, xd_97_22, rfl⟩
theorem xk_97_13 : xk_OkA xp_F (xp_P sc) xp_cl xp_BW xp_NW xp_SW xp_exn 97 13 (.invokeinterface 31 2) := ⟨rfl, Or.inl ⟨xwt_413, rfl⟩, rfl, rfl, xwt_3, by decide +kernel, by decide +kernel, Nat.le_of_ble_eq_true rfl, _, Or.inr ⟨_, xwn_410⟩, Or.inr ⟨xd_97_23, xwt_412, xws_35, ⟨_, _, _, rfl, rfl⟩, by decide +kernel⟩⟩
theorem xk_97_14 : xk_OkA xp_F (xp_P sc) xp_cl xp_BW xp_NW xp_SW xp_exn 97 14 (.istore 4) := Or.inl ⟨xd_97_26, rfl⟩
theorem xk_97_15 : xk_OkA xp_F (xp_P sc) xp_cl xp_BW xp_NW xp_SW xp_exn 97 15 (.iload 2) := Or.inr ⟨2, rfl, xd_97_28, rfl⟩
theorem xk_97_16 : xk_OkA xp_F (xp_P sc) xp_cl xp_BW xp_NW xp_SW xp_exn 97 16 (.istore 5) := Or.inl ⟨xd_97_29, rfl⟩
theorem xk_97_17 : xk_OkA xp_F (xp_P sc) xp_cl xp_BW xp_NW xp_SW xp_exn 97 17 (.iload 5) := Or.inl ⟨xd_97_31, rfl⟩
theorem xk_97_18 : xk_OkA xp_F (xp_P sc) xp_cl xp_BW xp_NW xp_SW xp_exn 97 18 (.iload 4) := Or.inl ⟨xd_97_33, rfl⟩
theorem xk_97_19 : xk_OkA xp_F (xp_P sc) xp_cl xp_BW xp_NW xp_SW xp_exn 97 19 (.if_icmp .ge 34) := ⟨_, xd_97_35, by unfold xf_to; decide +kernel, rfl⟩
theorem xk_97_20 : xk_OkA xp_F (xp_P sc) xp_cl xp_BW xp_NW xp_SW xp_exn 97 20 (.iconst 0) := Or.inl ⟨xd_97_38, rfl⟩
theorem xk_97_21 : xk_OkA xp_F (xp_P sc) xp_cl xp_BW xp_NW xp_SW xp_exn 97 21 (.istore 6) := Or.inl ⟨xd_97_39, rfl⟩
theorem xk_97_22 : xk_OkA xp_F (xp_P sc) xp_cl xp_BW xp_NW xp_SW xp_exn 97 22 (.iload 6) := Or.inl ⟨xd_97_41, rfl⟩
theorem xk_97_23 : xk_OkA xp_F (xp_P sc) xp_cl xp_BW xp_NW xp_SW xp_exn 97 23 (.iload 3) := Or.inr ⟨3, rfl, xd_97_43, rfl⟩
theorem xk_97_24 : xk_OkA xp_F (xp_P sc) xp_cl xp_BW xp_NW xp_SW xp_exn 97 24 (.if_icmp .ge 32) := ⟨_, xd_97_44, by unfold xf_to; decide +kernel, rfl⟩
theorem xk_97_25 : xk_OkA xp_F (xp_P sc) xp_cl xp_BW xp_NW xp_SW xp_exn 97 25 (.aload 0) := Or.inr ⟨0, rfl, xd_97_47, rfl⟩
theorem xk_97_26 : xk_OkA xp_F (xp_P sc) xp_cl xp_BW xp_NW xp_SW xp_exn 97 26 (.iload 1) := Or.inr ⟨1, rfl, xd_97_48, rfl⟩
theorem xk_97_27 : xk_OkA xp_F (xp_P sc) xp_cl xp_BW xp_NW xp_SW xp_exn 97 27 (.iload 5) := Or.inl ⟨xd_97_49, rfl⟩
theorem xk_97_28 : xk_OkA xp_F (xp_P sc) xp_cl xp_BW xp_NW xp_SW xp_exn 97 28 (.iload 6) := Or.inl ⟨xd_97_51, rfl⟩
theorem xk_97_29 : xk_OkA xp_F (xp_P sc) xp_cl xp_BW xp_NW xp_SW xp_exn 97 29 (.invokeinterface 96 4) := ⟨rfl, Or.inl ⟨xwt_417, rfl⟩, rfl, rfl, xwt_1, by decide +kernel, by decide +kernel, Nat.le_of_ble_eq_true rfl, _, Or.inl xwt_414, Or.inr ⟨xd_97_53, xwt_416, xws_36, ⟨_, _, _, rfl, rfl⟩, by decide +kernel⟩⟩
theorem xk_97_30 : xk_OkA xp_F (xp_P sc) xp_cl xp_BW xp_NW xp_SW xp_exn 97 30 (.iinc 6 (1)) := ⟨xd_97_56, rfl⟩
theorem xk_97_31 : xk_OkA xp_F (xp_P sc) xp_cl xp_BW xp_NW xp_SW xp_exn 97 31 (.goto 22) := ⟨_, xd_97_59, by unfold xf_to; decide +kernel⟩
theorem xk_97_32 : xk_OkA xp_F (xp_P sc) xp_cl xp_BW xp_NW xp_SW xp_exn 97 32 (.iinc 5 (1)) := ⟨xd_97_62, rfl⟩
theorem xk_97_33 : xk_OkA xp_F (xp_P sc) xp_cl xp_BW xp_NW xp_SW xp_exn 97 33 (.goto 17) := ⟨_, xd_97_65, by unfold xf_to; decide +kernel⟩
theorem xk_97_34 : xk_OkA xp_F (xp_P sc) xp_cl xp_BW xp_NW xp_SW xp_exn 97 34 (.iload 2) := Or.inr ⟨2, rfl, xd_97_68, rfl⟩
theorem xk_97_35 : xk_OkA xp_F (xp_P sc) xp_cl xp_BW xp_NW xp_SW xp_exn 97 35 (.istore 5) := Or.inl ⟨xd_97_69, rfl⟩
theorem xk_97_36 : xk_OkA xp_F (xp_P sc) xp_cl xp_BW xp_NW xp_SW xp_exn 97 36 (.iload 5) := Or.inl ⟨xd_97_71, rfl⟩
theorem xk_97_37 : xk_OkA xp_F (xp_P sc) xp_cl xp_BW xp_NW xp_SW xp_exn 97 37 (.iload 4) := Or.inl ⟨xd_97_73, rfl⟩
theorem xk_97_38 : xk_OkA xp_F (xp_P sc) xp_cl xp_BW xp_NW xp_SW xp_exn 97 38 (.if_icmp .ge 54) := ⟨_, xd_97_75, by unfold xf_to; decide +kernel, rfl⟩
theorem xk_97_39 : xk_OkA xp_F (xp_P sc) xp_cl xp_BW xp_NW xp_SW xp_exn 97 39 (.iconst 0) := Or.inl ⟨xd_97_78, rfl⟩
theorem xk_97_40 : xk_OkA xp_F (xp_P sc) xp_cl xp_BW xp_NW xp_SW xp_exn 97 40 (.istore 6) := Or.inl ⟨xd_97_79, rfl⟩
theorem xk_97_41 : xk_OkA xp_F (xp_P sc) xp_cl xp_BW xp_NW xp_SW xp_exn 97 41 (.iload 6) := Or.inl ⟨xd_97_81, rfl⟩
theorem xk_97_42 : xk_OkA xp_F (xp_P sc) xp_cl xp_BW xp_NW xp_SW xp_exn 97 42 (.iload 3) := Or.inr ⟨3, rfl, xd_97_83, rfl⟩
theorem xk_97_43 : xk_OkA xp_F (xp_P sc) xp_cl xp_BW xp_NW xp_SW xp_exn 97 43 (.if_icmp .ge 52) := ⟨_, xd_97_84, by unfold xf_to; decide +kernel, rfl⟩
theorem xk_97_44 : xk_OkA xp_F (xp_P sc) xp_cl xp_BW xp_NW xp_SW xp_exn 97 44 (.aload 0) := Or.inr ⟨0, rfl, xd_97_87, rfl⟩
theorem xk_97_45 : xk_OkA xp_F (xp_P sc) xp_cl xp_BW xp_NW xp_SW xp_exn 97 45 (.iload 1) := Or.inr ⟨1, rfl, xd_97_88, rfl⟩
theorem xk_97_46 : xk_OkA xp_F (xp_P sc) xp_cl xp_BW xp_NW xp_SW xp_exn 97 46 (.iload 5) := Or.inl ⟨xd_97_89, rfl⟩
theorem xk_97_47 : xk_OkA xp_F (xp_P sc) xp_cl xp_BW xp_NW xp_SW xp_exn 97 47 (.iload 6) := Or.inl ⟨xd_97_91, rfl⟩
theorem xk_97_48 : xk_OkA xp_F (xp_P sc) xp_cl xp_BW xp_NW xp_SW xp_exn 97 48 (.invokeinterface 74 3) := ⟨rfl, Or.inl ⟨xwt_435, rfl⟩, rfl, rfl, xwt_1, by decide +kernel, by decide +kernel, Nat.le_of_ble_eq_true rfl, _, Or.inl xwt_433, Or.inl ⟨xd_97_93, xwt_434, rfl, by decide +kernel⟩⟩
theorem xk_97_49 : xk_OkA xp_F (xp_P sc) xp_cl xp_BW xp_NW xp_SW xp_exn 97 49 (.invokeinterface 98 2) := ⟨rfl, Or.inl ⟨xwt_461, rfl⟩, rfl, rfl, xwt_1, by decide +kernel, by decide +kernel, Nat.le_of_ble_eq_true rfl, _, Or.inl xwt_458, Or.inr ⟨xd_97_96, xwt_460, xws_44, ⟨_, _, _, rfl, rfl⟩, by decide +kernel⟩⟩
theorem xk_97_50 : xk_OkA xp_F (xp_P sc) xp_cl xp_BW xp_NW xp_SW xp_exn 97 50 (.iinc 6 (1)) := ⟨xd_97_99, rfl⟩
theorem xk_97_51 : xk_OkA xp_F (xp_P sc) xp_cl xp_BW xp_NW xp_SW xp_exn 97 51 (.goto 41) := ⟨_, xd_97_102, by unfold xf_to; decide +kernel⟩
theorem xk_97_52 : xk_OkA xp_F (xp_P sc) xp_cl xp_BW xp_NW xp_SW xp_exn 97 52 (.iinc 5 (1)) := ⟨xd_97_105, rfl⟩
theorem xk_97_53 : xk_OkA xp_F (xp_P sc) xp_cl xp_BW xp_NW xp_SW xp_exn 97 53 (.goto 36) := ⟨_, xd_97_108, by unfold xf_to; decide +kernel⟩
theorem xk_97_54 : xk_OkA xp_F (xp_P sc) xp_cl xp_BW xp_NW xp_SW xp_exn 97 54 (.aload 0) := Or.inr ⟨0, rfl, xd_97_111, rfl⟩
theorem xk_97_55 : xk_OkA xp_F (xp_P sc) xp_cl xp_BW xp_NW xp_SW xp_exn 97 55 (.invokeinterface 86 1) := ⟨rfl, Or.inl ⟨xwt_274, rfl⟩, rfl, rfl, xwt_1, by decide +kernel, by decide +kernel, Nat.le_of_ble_eq_true rfl, _, Or.inl xwt_271, Or.inr ⟨xd_97_112, xwt_273, xws_12, ⟨_, _, _, rfl, rfl⟩, by decide +kernel⟩⟩
theorem xk_97_56 : xk_OkA xp_F (xp_P sc) xp_cl xp_BW xp_NW xp_SW xp_exn 97 56 (.return_) := ⟨xd_97_115, rfl⟩
theorem xl_97 : xk_OkL xp_F (xp_P sc) xp_cl xp_BW xp_NW xp_SW xp_exn 97 0 xc_97 := ⟨xk_97_0, xk_97_1, xk_97_2, xk_97_3, xk_97_4, xk_97_5, xk_97_6, xk_97_7, xk_97_8, xk_97_9, xk_97_10, xk_97_11, xk_97_12, xk_97_13, xk_97_14, xk_97_15, xk_97_16, xk_97_17, xk_97_18, xk_97_19, xk_97_20, xk_97_21, xk_97_22, xk_97_23, xk_97_24, xk_97_25, xk_97_26, xk_97_27, xk_97_28, xk_97_29, xk_97_30, xk_97_31, xk_97_32, xk_97_33, xk_97_34, xk_97_35, xk_97_36, xk_97_37, xk_97_38, xk_97_39, xk_97_40, xk_97_41, xk_97_42, xk_97_43, xk_97_44, xk_97_45, xk_97_46, xk_97_47, xk_97_48, xk_97_49, xk_97_50, xk_97_51, xk_97_52, xk_97_53, xk_97_54, xk_97_55, xk_97_56, trivial⟩
theorem xd_98_0 : decode prog_1_method_60_code 0 = .ok (.iconst 0, 1) := by decide +kernel
theorem xd_98_1 : decode prog_1_method_60_code 1 = .ok (.istore_n 2, 1) := by decide +kernel
theorem xd_98_2 : decode prog_1_method_60_code 2 = .ok (.iload_n 2, 1) := by decide +kernel
theorem xd_98_3 : decode prog_1_method_60_code 3 = .ok (.iconst 4, 1) := by decide +kernel
theorem xd_98_4 : decode prog_1_method_60_code 4 = .ok (.if_icmp .ge 23, 3) := by decide +kernel
theorem xd_98_7 : decode prog_1_method_60_code 7 = .ok (.aload_n 0, 1) := by decide +kernel
theorem xd_98_8 : decode prog_1_method_60_code 8 = .ok (.aload_n 0, 1) := by decide +kernel
theorem xd_98_9 : decode prog_1_method_60_code 9 = .ok (.getfield 23, 3) := by decide +kernel
theorem xd_98_12 : decode prog_1_method_60_code 12 = .ok (.iload_n 1, 1) := by decide +kernel
theorem xd_98_13 : decode prog_1_method_60_code 13 = .ok (.invokevirtual 199, 3) := by decide +kernel
theorem xd_98_16 : decode prog_1_method_60_code 16 = .ok (.iload_n 2, 1) := by decide +kernel
theorem xd_98_17 : decode prog_1_method_60_code 17 = .ok (.iconst 0, 1) := by decide +kernel
theorem xd_98_18 : decode prog_1_method_60_code 18 = .ok (.invokevirtual 309, 3) := by decide +kernel
theorem xd_98_21 : decode prog_1_method_60_code 21 = .ok (.iinc 2 (1), 3) := by decide +kernel
theorem xd_98_24 : decode prog_1_method_60_code 24 = .ok (.goto (-22), 3) := by decide +kernel
theorem xd_98_27 : decode prog_1_method_60_code 27 = .ok (.return_, 1) := by decide +kernel
theorem xk_98_0 : xk_OkA xp_F (xp_P sc) xp_cl xp_BW xp_NW xp_SW xp_exn 98 0 (.iconst 0) := Or.inl ⟨xd_98_0, rfl⟩
theorem xk_98_1 : xk_OkA xp_F (xp_P sc) xp_cl xp_BW xp_NW xp_SW xp_exn 98 1 (.istore 2) := Or.inr ⟨2, rfl, xd_98_1, rfl⟩
theorem xk_98_2 : xk_OkA xp_F (xp_P sc) xp_cl xp_BW xp_NW xp_SW xp_exn 98 2 (.iload 2) := Or.inr ⟨2, rfl, xd_98_2, rfl⟩
theorem xk_98_3 : xk_OkA xp_F (xp_P sc) xp_cl xp_BW xp_NW xp_SW xp_exn 98 3 (.iconst 4) := Or.inl ⟨xd_98_3, rfl⟩
theorem xk_98_4 : xk_OkA xp_F (xp_P sc) xp_cl xp_BW xp_NW xp_SW xp_exn 98 4 (.if_icmp .ge 15) := ⟨_, xd_98_4, by unfold xf_to; decide +kernel, rfl⟩
theorem xk_98_5 : xk_OkA xp_F (xp_P sc) xp_cl xp_BW xp_NW xp_SW xp_exn 98 5 (.aload 0) := Or.inr ⟨0, rfl, xd_98_7, rfl⟩
theorem xk_98_6 : xk_OkA xp_F (xp_P sc) xp_cl xp_BW xp_NW xp_SW xp_exn 98 6 (.aload 0) := Or.inr ⟨0, rfl, xd_98_8, rfl⟩
theorem xk_98_7 : xk_OkA xp_F (xp_P sc) xp_cl xp_BW xp_NW xp_SW xp_exn 98 7 (.getfield 98) := ⟨_, xd_98_9, rfl, ⟨_, _, _, rfl, by decide, xu_3, Or.inl xwt_79⟩⟩
theorem xk_98_8 : xk_OkA xp_F (xp_P sc) xp_cl xp_BW xp_NW xp_SW xp_exn 98 8 (.iload 1) := Or.inr ⟨1, rfl, xd_98_12, rfl⟩
theorem xk_98_9 : xk_OkA xp_F (xp_P sc) xp_cl xp_BW xp_NW xp_SW xp_exn 98 9 (.invokeinterface 34 2) := ⟨rfl, Or.inl ⟨xwt_322, rfl⟩, rfl, rfl, xwt_3, by decide +kernel, by decide +kernel, Nat.le_of_ble_eq_true rfl, _, Or.inr ⟨_, xwn_319⟩, Or.inr ⟨xd_98_13, xwt_321, xws_22, ⟨_, _, _, rfl, rfl⟩, by decide +kernel⟩⟩
theorem xk_98_10 : xk_OkA xp_F (xp_P sc) xp_cl xp_BW xp_NW xp_SW xp_exn 98 10 (.iload 2) := Or.inr ⟨2, rfl, xd_98_16, rfl⟩
theorem xk_98_11 : xk_OkA xp_F (xp_P sc) xp_cl xp_BW xp_NW xp_SW xp_exn 98 11 (.iconst 0) := Or.inl ⟨xd_98_17, rfl⟩
theorem xk_98_12 : xk_OkA xp_F (xp_P sc) xp_cl xp_BW xp_NW xp_SW xp_exn 98 12 (.invokeinterface 83 4) := ⟨rfl, Or.inl ⟨xwt_465, rfl⟩, rfl, rfl, xwt_1, by decide +kernel, by decide +kernel, Nat.le_of_ble_eq_true rfl, _, Or.inl xwt_462, Or.inr ⟨xd_98_18, xwt_464, xws_45, ⟨_, _, _, rfl, rfl⟩, by decide +kernel⟩⟩
theorem xk_98_13 : xk_OkA xp_F (xp_P sc) xp_cl xp_BW xp_NW xp_SW xp_exn 98 13 (.iinc 2 (1)) := ⟨xd_98_21, rfl⟩
theorem xk_98_14 : xk_OkA xp_F (xp_P sc) xp_cl xp_BW xp_NW xp_SW xp_exn 98 14 (.goto 2) := ⟨_, xd_98_24, by unfold xf_to; decide +kernel⟩
theorem xk_98_15 : xk_OkA xp_F (xp_P sc) xp_cl xp_BW xp_NW xp_SW xp_exn 98 15 (.return_) := ⟨xd_98_27, rfl⟩
theorem xl_98 : xk_OkL xp_F (xp_P sc) xp_cl xp_BW xp_NW xp_SW xp_exn 98 0 xc_98 := ⟨xk_98_0, xk_98_1, xk_98_2, xk_98_3, xk_98_4, xk_98_5, xk_98_6, xk_98_7, xk_98_8, xk_98_9, xk_98_10, xk_98_11, xk_98_12, xk_98_13, xk_98_14, xk_98_15, trivial⟩
theorem xd_99_0 : decode prog_1_method_61_code 0 = .ok (.iconst 0, 1) := by decide +kernel
theorem xd_99_1 : decode prog_1_method_61_code 1 = .ok (.istore_n 2, 1) := by decide +kernel
theorem xd_99_2 : decode prog_1_method_61_code 2 = .ok (.iconst 0, 1) := by decide +kernel
theorem xd_99_3 : decode prog_1_method_61_code 3 = .ok (.istore_n 3, 1) := by decide +kernel
theorem xd_99_4 : decode prog_1_method_61_code 4 = .ok (.iload_n 3, 1) := by decide +kernel
theorem xd_99_5 : decode prog_1_method_61_code 5 = .ok (.aload_n 0, 1) := by decide +kernel
theorem xd_99_6 : decode prog_1_method_61_code 6 = .ok (.getfield 19, 3) := by decide +kernel
theorem xd_99_9 : decode prog_1_method_61_code 9 = .ok (.iload_n 1, 1) := by decide +kernel
theorem xd_99_10 : decode prog_1_method_61_code 10 = .ok (.invokevirtual 143, 3) := by decide +kernel
theorem xd_99_13 : decode prog_1_method_61_code 13 = .ok (.if_icmp .ge 34, 3) := by decide +kernel
theorem xd_99_16 : decode prog_1_method_61_code 16 = .ok (.aload_n 0, 1) := by decide +kernel
theorem xd_99_17 : decode prog_1_method_61_code 17 = .ok (.iload_n 1, 1) := by decide +kernel
theorem xd_99_18 : decode prog_1_method_61_code 18 = .ok (.iload_n 3, 1) := by decide +kernel
theorem xd_99_19 : decode prog_1_method_61_code 19 = .ok (.invokevirtual 368, 3) := by decide +kernel
theorem xd_99_22 : decode prog_1_method_61_code 22 = .ok (.istore 4, 2) := by decide +kernel
theorem xd_99_24 : decode prog_1_method_61_code 24 = .ok (.iload 4, 2) := by decide +kernel
theorem xd_99_26 : decode prog_1_method_61_code 26 = .ok (.iconst (-1), 1) := by decide +kernel
theorem xd_99_27 : decode prog_1_method_61_code 27 = .ok (.if_icmp .eq 14, 3) := by decide +kernel
theorem xd_99_30 : decode prog_1_method_61_code 30 = .ok (.aload_n 0, 1) := by decide +kernel
theorem xd_99_31 : decode prog_1_method_61_code 31 = .ok (.iload_n 1, 1) := by decide +kernel
theorem xd_99_32 : decode prog_1_method_61_code 32 = .ok (.iload_n 3, 1) := by decide +kernel
theorem xd_99_33 : decode prog_1_method_61_code 33 = .ok (.iload 4, 2) := by decide +kernel
theorem xd_99_35 : decode prog_1_method_61_code 35 = .ok (.invokevirtual 362, 3) := by decide +kernel
theorem xd_99_38 : decode prog_1_method_61_code 38 = .ok (.iinc 2 (1), 3) := by decide +kernel
theorem xd_99_41 : decode prog_1_method_61_code 41 = .ok (.iinc 3 (1), 3) := by decide +kernel
theorem xd_99_44 : decode prog_1_method_61_code 44 = .ok (.goto (-40), 3) := by decide +kernel
theorem xd_99_47 : decode prog_1_method_61_code 47 = .ok (.iload_n 2, 1) := by decide +kernel
theorem xd_99_48 : decode prog_1_method_61_code 48 = .ok (.ireturn, 1) := by decide +kernel
theorem xk_99_0 : xk_OkA xp_F (xp_P sc) xp_cl xp_BW xp_NW xp_SW xp_exn 99 0 (.iconst 0) := Or.inl ⟨xd_99_0, rfl⟩
theorem xk_99_1 : xk_OkA xp_F (xp_P sc) xp_cl xp_BW xp_NW xp_SW xp_exn 99 1 (.istore 2) := Or.inr ⟨2, rfl, xd_99_1, rfl⟩
theorem xk_99_2 : xk_OkA xp_F (xp_P sc) xp_cl xp_BW xp_NW xp_SW xp_exn 99 2 (.iconst 0) := Or.inl ⟨xd_99_2, rfl⟩
theorem xk_99_3 : xk_OkA xp_F (xp_P sc) xp_cl xp_BW xp_NW xp_SW xp_exn 99 3 (.istore 3) := Or.inr ⟨3, rfl, xd_99_3, rfl⟩
theorem xk_99_4 : xk_OkA xp_F (xp_P sc) xp_cl xp_BW xp_NW xp_SW xp_exn 99 4 (.iload 3) := Or.inr ⟨3, rfl, xd_99_4, rfl⟩
theorem xk_99_5 : xk_OkA xp_F (xp_P sc) xp_cl xp_BW xp_NW xp_SW xp_exn 99 5 (.aload 0) := Or.inr ⟨0, rfl, xd_99_5, rfl⟩
theorem xk_99_6 : xk_OkA xp_F (xp_P sc) xp_cl xp_BW xp_NW xp_SW xp_exn 99 6 (.getfield 97) := ⟨_, xd_99_6, rfl, ⟨_, _, _, rfl, by decide, xu_3, Or.inl xwt_78⟩⟩
theorem xk_99_7 : xk_OkA xp_F (xp_P sc) xp_cl xp_BW xp_NW xp_SW xp_exn 99 7 (.iload 1) := Or.inr ⟨1, rfl, xd_99_9, rfl⟩
theorem xk_99_8 : xk_OkA xp_F (xp_P sc) xp_cl xp_BW xp_NW xp_SW xp_exn 99 8 (.invokeinterface 31 2) := ⟨rfl, Or.inl ⟨xwt_413, rfl⟩, rfl, rfl, xwt_3, by decide +kernel, by decide +kernel, Nat.le_of_ble_eq_true rfl, _, Or.inr ⟨_, xwn_410⟩, Or.inr ⟨xd_99_10, xwt_412, xws_35, ⟨_, _, _, rfl, rfl⟩, by decide +kernel⟩⟩
theorem xk_99_9 : xk_OkA xp_F (xp_P sc) xp_cl xp_BW xp_NW xp_SW xp_exn 99 9 (.if_icmp .ge 26) := ⟨_, xd_99_13, by unfold xf_to; decide +kernel, rfl⟩
theorem xk_99_10 : xk_OkA xp_F (xp_P sc) xp_cl xp_BW xp_NW xp_SW xp_exn 99 10 (.aload 0) := Or.inr ⟨0, rfl, xd_99_16, rfl⟩
theorem xk_99_11 : xk_OkA xp_F (xp_P sc) xp_cl xp_BW xp_NW xp_SW xp_exn 99 11 (.iload 1) := Or.inr ⟨1, rfl, xd_99_17, rfl⟩
theorem xk_99_12 : xk_OkA xp_F (xp_P sc) xp_cl xp_BW xp_NW xp_SW xp_exn 99 12 (.iload 3) := Or.inr ⟨3, rfl, xd_99_18, rfl⟩
theorem xk_99_13 : xk_OkA xp_F (xp_P sc) xp_cl xp_BW xp_NW xp_SW xp_exn 99 13 (.invokeinterface 100 3) := ⟨rfl, Or.inl ⟨xwt_538, rfl⟩, rfl, rfl, xwt_1, by decide +kernel, by decide +kernel, Nat.le_of_ble_eq_true rfl, _, Or.inl xwt_535, Or.inr ⟨xd_99_19, xwt_537, xws_51, ⟨_, _, _, rfl, rfl⟩, by decide +kernel⟩⟩
theorem xk_99_14 : xk_OkA xp_F (xp_P sc) xp_cl xp_BW xp_NW xp_SW xp_exn 99 14 (.istore 4) := Or.inl ⟨xd_99_22, rfl⟩
theorem xk_99_15 : xk_OkA xp_F (xp_P sc) xp_cl xp_BW xp_NW xp_SW xp_exn 99 15 (.iload 4) := Or.inl ⟨xd_99_24, rfl⟩
theorem xk_99_16 : xk_OkA xp_F (xp_P sc) xp_cl xp_BW xp_NW xp_SW xp_exn 99 16 (.iconst (-1)) := Or.inl ⟨xd_99_26, rfl⟩
theorem xk_99_17 : xk_OkA xp_F (xp_P sc) xp_cl xp_BW xp_NW xp_SW xp_exn 99 17 (.if_icmp .eq 24) := ⟨_, xd_99_27, by unfold xf_to; decide +kernel, rfl⟩
theorem xk_99_18 : xk_OkA xp_F (xp_P sc) xp_cl xp_BW xp_NW xp_SW xp_exn 99 18 (.aload 0) := Or.inr ⟨0, rfl, xd_99_30, rfl⟩
theorem xk_99_19 : xk_OkA xp_F (xp_P sc) xp_cl xp_BW xp_NW xp_SW xp_exn 99 19 (.iload 1) := Or.inr ⟨1, rfl, xd_99_31, rfl⟩
theorem xk_99_20 : xk_OkA xp_F (xp_P sc) xp_cl xp_BW xp_NW xp_SW xp_exn 99 20 (.iload 3) := Or.inr ⟨3, rfl, xd_99_32, rfl⟩
theorem xk_99_21 : xk_OkA xp_F (xp_P sc) xp_cl xp_BW xp_NW xp_SW xp_exn 99 21 (.iload 4) := Or.inl ⟨xd_99_33, rfl⟩
theorem xk_99_22 : xk_OkA xp_F (xp_P sc) xp_cl xp_BW xp_NW xp_SW xp_exn 99 22 (.invokeinterface 96 4) := ⟨rfl, Or.inl ⟨xwt_417, rfl⟩, rfl, rfl, xwt_1, by decide +kernel, by decide +kernel, Nat.le_of_ble_eq_true rfl, _, Or.inl xwt_414, Or.inr ⟨xd_99_35, xwt_416, xws_36, ⟨_, _, _, rfl, rfl⟩, by decide +kernel⟩⟩
theorem xk_99_23 : xk_OkA xp_F (xp_P sc) xp_cl xp_BW xp_NW xp_SW xp_exn 99 23 (.iinc 2 (1)) := ⟨xd_99_38, rfl⟩
theorem xk_99_24 : xk_OkA xp_F (xp_P sc) xp_cl xp_BW xp_NW xp_SW xp_exn 99 24 (.iinc 3 (1)) := ⟨xd_99_41, rfl⟩
theorem xk_99_25 : xk_OkA xp_F (xp_P sc) xp_cl xp_BW xp_NW xp_SW xp_exn 99 25 (.goto 4) := ⟨_, xd_99_44, by unfold xf_to; decide +kernel⟩
theorem xk_99_26 : xk_OkA xp_F (xp_P sc) xp_cl xp_BW xp_NW xp_SW xp_exn 99 26 (.iload 2) := Or.inr ⟨2, rfl, xd_99_47, rfl⟩
theorem xk_99_27 : xk_OkA xp_F (xp_P sc) xp_cl xp_BW xp_NW xp_SW xp_exn 99 27 (.ireturn) := ⟨xd_99_48, rfl⟩
theorem xl_99 : xk_OkL xp_F (xp_P sc) xp_cl xp_BW xp_NW xp_SW xp_exn 99 0 xc_99 := ⟨xk_99_0, xk_99_1, xk_99_2, xk_99_3, xk_99_4, xk_99_5, xk_99_6, xk_99_7, xk_99_8, xk_99_9, xk_99_10, xk_99_11, xk_99_12, xk_99_13, xk_99_14, xk_99_15, xk_99_16, xk_99_17, xk_99_18, xk_99_19, xk_99_20, xk_99_21, xk_99_22, xk_99_23, xk_99_24, xk_99_25, xk_99_26, xk_99_27, trivial⟩
theorem xd_100_0 : decode prog_1_method_62_code 0 = .ok (.aload_n 0, 1) := by decide +kernel
theorem xd_100_1 : decode prog_1_method_62_code 1 = .ok (.getfield 19, 3) := by decide +kernel
theorem xd_100_4 : decode prog_1_method_62_code 4 = .ok (.iload_n 1, 1) := by decide +kernel
theorem xd_100_5 : decode prog_1_method_62_code 5 = .ok (.iload_n 2, 1) := by decide +kernel
theorem xd_100_6 : decode prog_1_method_62_code 6 = .ok (.iconst 0, 1) := by decide +kernel
theorem xd_100_7 : decode prog_1_method_62_code 7 = .ok (.invokestatic 186, 3) := by decide +kernel
theorem xd_100_10 : decode prog_1_method_62_code 10 = .ok (.invokevirtual 199, 3) := by decide +kernel
theorem xd_100_13 : decode prog_1_method_62_code 13 = .ok (.iconst (-1), 1) := by decide +kernel
theorem xd_100_14 : decode prog_1_method_62_code 14 = .ok (.if_icmp .eq 7, 3) := by decide +kernel
theorem xd_100_17 : decode prog_1_method_62_code 17 = .ok (.iconst 1, 1) := by decide +kernel
theorem xd_100_18 : decode prog_1_method_62_code 18 = .ok (.goto 4, 3) := by decide +kernel
theorem xd_100_21 : decode prog_1_method_62_code 21 = .ok (.iconst 0, 1) := by decide +kernel
theorem xd_100_22 : decode prog_1_method_62_code 22 = .ok (.istore_n 3, 1) := by decide +kernel
theorem xd_100_23 : decode prog_1_method_62_code 23 = .ok (.aload_n 0, 1) := by decide +kernel
theorem xd_100_24 : decode prog_1_method_62_code 24 = .ok (.getfield 19, 3) := by decide +kernel
theorem xd_100_27 : decode prog_1_method_62_code 27 = .ok (.iload_n 1, 1) := by decide +kernel
theorem xd_100_28 : decode prog_1_method_62_code 28 = .ok (.iload_n 2, 1) := by decide +kernel
theorem xd_100_29 : decode prog_1_method_62_code 29 = .ok (.iconst 1, 1) := by decide +kernel
theorem xd_100_30 : decode prog_1_method_62_code 30 = .ok (.invokestatic 186, 3) := by decide +kernel
theorem xd_100_33 : decode prog_1_method_62_code 33 = .ok (.invokevirtual 199, 3) := by decide +kernel
theorem xd_100_36 : decode prog_1_method_62_code 36 = .ok (.iconst (-1), 1) := by decide +kernel
theorem xd_100_37 : decode prog_1_method_62_code 37 = .ok (.if_icmp .eq 7, 3) := by decide +kernel
theorem xd_100_40 : decode prog_1_method_62_code 40 = .ok (.iconst 1, 1) := by decide +kernel
theorem xd_100_41 : decode prog_1_method_62_code 41 = .ok (.goto 4, 3) := by decide +kernel
theorem xd_100_44 : decode prog_1_method_62_code 44 = .ok (.iconst 0, 1) := by decide +kernel
theorem xd_100_45 : decode prog_1_method_62_code 45 = .ok (.istore 4, 2) := by decide +kernel
theorem xd_100_47 : decode prog_1_method_62_code 47 = .ok (.iload_n 3, 1) := by decide +kernel
theorem xd_100_48 : decode prog_1_method_62_code 48 = .ok (.iload 4, 2) := by decide +kernel
theorem xd_100_50 : decode prog_1_method_62_code 50 = .ok (.if_icmp .ne 5, 3) := by decide +kernel
theorem xd_100_53 : decode prog_1_method_62_code 53 = .ok (.iconst (-1), 1) := by decide +kernel
theorem xd_100_54 : decode prog_1_method_62_code 54 = .ok (.ireturn, 1) := by decide +kernel
theorem xd_100_55 : decode prog_1_method_62_code 55 = .ok (.iload_n 3, 1) := by decide +kernel
theorem xd_100_56 : decode prog_1_method_62_code 56 = .ok (.ifCond .eq 7, 3) := by decide +kernel
theorem xd_100_59 : decode prog_1_method_62_code 59 = .ok (.iconst 1, 1) := by decide +kernel
theorem xd_100_60 : decode prog_1_method_62_code 60 = .ok (.goto 4, 3) := by decide +kernel
theorem xd_100_63 : decode prog_1_method_62_code 63 = .ok (.iconst 0, 1) := by decide +kernel
theorem xd_100_64 : decode prog_1_method_62_code 64 = .ok (.ireturn, 1) := by decide +kernel
theorem xk_100_0 : xk_OkA xp_F (xp_P sc) xp_cl xp_BW xp_NW xp_SW xp_exn 100 0 (.aload 0) := Or.inr ⟨0, rfl, xd_100_0, rfl⟩
theorem xk_100_1 : xk_OkA xp_F (xp_P sc) xp_cl xp_BW xp_NW xp_SW xp_exn 100 1 (.getfield 97) := ⟨_, xd_100_1, rfl, ⟨_, _, _, rfl, by decide, xu_3, Or.inl xwt_78⟩⟩
theorem xk_100_2 : xk_OkA xp_F (xp_P sc) xp_cl xp_BW xp_NW xp_SW xp_exn 100 2 (.iload 1) := Or.inr ⟨1, rfl, xd_100_4, rfl⟩
theorem xk_100_3 : xk_OkA xp_F (xp_P sc) xp_cl xp_BW xp_NW xp_SW xp_exn 100 3 (.iload 2) := Or.inr ⟨2, rfl, xd_100_5, rfl⟩
theorem xk_100_4 : xk_OkA xp_F (xp_P sc) xp_cl xp_BW xp_NW xp_SW xp_exn 100 4 (.iconst 0) := Or.inl ⟨xd_100_6, rfl⟩
theorem xk_100_5 : xk_OkA xp_F (xp_P sc) xp_cl xp_BW xp_NW xp_SW xp_exn 100 5 (.invokeinterface 74 3) := ⟨rfl, Or.inl ⟨xwt_435, rfl⟩, rfl, rfl, xwt_1, by decide +kernel, by decide +kernel, Nat.le_of_ble_eq_true rfl, _, Or.inl xwt_433, Or.inl ⟨xd_100_7, xwt_434, rfl, by decide +kernel⟩⟩
theorem xk_100_6 : xk_OkA xp_F (xp_P sc) xp_cl xp_BW xp_NW xp_SW xp_exn 100 6 (.invokeinterface 34 2) := ⟨rfl, Or.inl ⟨xwt_322, rfl⟩, rfl, rfl, xwt_3, by decide +kernel, by decide +kernel, Nat.le_of_ble_eq_true rfl, _, Or.inr ⟨_, xwn_319⟩, Or.inr ⟨xd_100_10, xwt_321, xws_22, ⟨_, _, _, rfl, rfl⟩, by decide +kernel⟩⟩
theorem xk_100_7 : xk_OkA xp_F (xp_P sc) xp_cl xp_BW xp_NW xp_SW xp_exn 100 7 (.iconst (-1)) := Or.inl ⟨xd_100_13, rfl⟩
theorem xk_100_8 : xk_OkA xp_F (xp_P sc) xp_cl xp_BW xp_NW xp_SW xp_exn 100 8 (.if_icmp .eq 11) := ⟨_, xd_100_14, by unfold xf_to; decide +kernel, rfl⟩
theorem xk_100_9 : xk_OkA xp_F (xp_P sc) xp_cl xp_BW xp_NW xp_SW xp_exn 100 9 (.iconst 1) := Or.inl ⟨xd_100_17, rfl⟩
theorem xk_100_10 : xk_OkA xp_F (xp_P sc) xp_cl xp_BW xp_NW xp_SW xp_exn 100 10 (.goto 12) := ⟨_, xd_100_18, by unfold xf_to; decide +kernel⟩
theorem xk_100_11 : xk_OkA xp_F (xp_P sc) xp_cl xp_BW xp_NW xp_SW xp_exn 100 11 (.iconst 0) := Or.inl ⟨xd_100_21, rfl⟩
theorem xk_100_12 : xk_OkA xp_F (xp_P sc) xp_cl xp_BW xp_NW xp_SW xp_exn 100 12 (.istore 3) := Or.inr ⟨3, rfl, xd_100_22, rfl⟩
theorem xk_100_13 : xk_OkA xp_F (xp_P sc) xp_cl xp_BW xp_NW xp_SW xp_exn 100 13 (.aload 0) := Or.inr ⟨0, rfl, xd_100_23, rfl⟩
theorem xk_100_14 : xk_OkA xp_F (xp_P sc) xp_cl xp_BW xp_NW xp_SW xp_exn 100 14 (.getfield 97) := ⟨_, xd_100_24, rfl, ⟨_, _, _, rfl, by decide, xu_3, Or.inl xwt_78⟩⟩
theorem xk_100_15 : xk_OkA xp_F (xp_P sc) xp_cl xp_BW xp_NW xp_SW xp_exn 100 15 (.iload 1) := Or.inr ⟨1, rfl, xd_100_27, rfl⟩
theorem xk_100_16 : xk_OkA xp_F (xp_P sc) xp_cl xp_BW xp_NW xp_SW xp_exn 100 16 (.iload 2) := Or.inr ⟨2, rfl, xd_100_28, rfl⟩
theorem xk_100_17 : xk_OkA xp_F (xp_P sc) xp_cl xp_BW xp_NW xp_SW xp_exn 100 17 (.iconst 1) := Or.inl ⟨xd_100_29, rfl⟩
theorem xk_100_18 : xk_OkA xp_F (xp_P sc) xp_cl xp_BW xp_NW xp_SW xp_exn 100 18 (.invokeinterface 74 3) := ⟨rfl, Or.inl ⟨xwt_435, rfl⟩, rfl, rfl, xwt_1, by decide +kernel, by decide +kernel, Nat.le_of_ble_eq_true rfl, _, Or.inl xwt_433, Or.inl ⟨xd_100_30, xwt_434, rfl, by decide +kernel⟩⟩
theorem xk_100_19 : xk_OkA xp_F (xp_P sc) xp_cl xp_BW xp_NW xp_SW xp_exn 100 19 (.invokeinterface 34 2) := ⟨rfl, Or.inl ⟨xwt_322, rfl⟩, rfl, rfl, xwt_3, by decide +kernel, by decide +kernel, Nat.le_of_ble_eq_true rfl, _, Or.inr ⟨_, xwn_319⟩, Or.inr ⟨xd_100_33, xwt_321, xws_22, ⟨_, _, _, rfl, rfl⟩, by decide +kernel⟩⟩
theorem xk_100_20 : xk_OkA xp_F (xp_P sc) xp_cl xp_BW xp_NW xp_SW xp_exn 100 20 (.iconst (-1)) := Or.inl ⟨xd_100_36, rfl⟩
theorem xk_100_21 : xk_OkA xp_F (xp_P sc) xp_cl xp_BW xp_NW xp_SW xp_exn 100 21 (.if_icmp .eq 24) := ⟨_, xd_100_37, by unfold xf_to; decide +kernel, rfl⟩
theorem xk_100_22 : xk_OkA xp_F (xp_P sc) xp_cl xp_BW xp_NW xp_SW xp_exn 100 22 (.iconst 1) := Or.inl ⟨xd_100_40, rfl⟩
theorem xk_100_23 : xk_OkA xp_F (xp_P sc) xp_cl xp_BW xp_NW xp_SW xp_exn 100 23 (.goto 25) := ⟨_, xd_100_41, by unfold xf_to; decide +kernel⟩
theorem xk_100_24 : xk_OkA xp_F (xp_P sc) xp_cl xp_BW xp_NW xp_SW xp_exn 100 24 (.iconst 0) := Or.inl ⟨xd_100_44, rfl⟩
theorem xk_100_25 : xk_OkA xp_F (xp_P sc) xp_cl xp_BW xp_NW xp_SW xp_exn 100 25 (.istore 4) := Or.inl ⟨xd_100_45, rfl⟩
theorem xk_100_26 : xk_OkA xp_F (xp_P sc) xp_cl xp_BW xp_NW xp_SW xp_exn 100 26 (.iload 3) := Or.inr ⟨3, rfl, xd_100_47, rfl⟩
theorem xk_100_27 : xk_OkA xp_F (xp_P sc) xp_cl xp_BW xp_NW xp_SW xp_exn 100 27 (.iload 4) := Or.inl ⟨xd_100_48, rfl⟩
theorem xk_100_28 : xk_OkA xp_F (xp_P sc) xp_cl xp_BW xp_NW xp_SW xp_exn 100 28 (.if_icmp .ne 31) := ⟨_, xd_100_50, by unfold xf_to; decide +kernel, rfl⟩
theorem xk_100_29 : xk_OkA xp_F (xp_P sc) xp_cl xp_BW xp_NW xp_SW xp_exn 100 29 (.iconst (-1)) := Or.inl ⟨xd_100_53, rfl⟩
theorem xk_100_30 : xk_OkA xp_F (xp_P sc) xp_cl xp_BW xp_NW xp_SW xp_exn 100 30 (.ireturn) := ⟨xd_100_54, rfl⟩
theorem xk_100_31 : xk_OkA xp_F (xp_P sc) xp_cl xp_BW xp_NW xp_SW xp_exn 100 31 (.iload 3) := Or.inr ⟨3, rfl, xd_100_55, rfl⟩
theorem xk_100_32 : xk_OkA xp_F (xp_P sc) xp_cl xp_BW xp_NW xp_SW xp_exn 100 32 (.ifCond .eq 35) := ⟨_, xd_100_56, by unfold xf_to; decide +kernel, rfl⟩
theorem xk_100_33 : xk_OkA xp_F (xp_P sc) xp_cl xp_BW xp_NW xp_SW xp_exn 100 33 (.iconst 1) := Or.inl ⟨xd_100_59, rfl⟩
theorem xk_100_34 : xk_OkA xp_F (xp_P sc) xp_cl xp_BW xp_NW xp_SW xp_exn 100 34 (.goto 36) := ⟨_, xd_100_60, by unfold xf_to; decide +kernel⟩
theorem xk_100_35 : xk_OkA xp_F (xp_P sc) xp_cl xp_BW xp_NW xp_SW xp_exn 100 35 (.iconst 0) := Or.inl ⟨xd_100_63, rfl⟩
theorem xk_100_36 : xk_OkA xp_F (xp_P sc) xp_cl xp_BW xp_NW xp_SW xp_exn 100 36 (.ireturn) := ⟨xd_100_64, rfl⟩
theorem xl_100 : xk_OkL xp_F (xp_P sc) xp_cl xp_BW xp_NW xp_SW xp_exn 100 0 xc_100 := ⟨xk_100_0, xk_100_1, xk_100_2, xk_100_3, xk_100_4, xk_100_5, xk_100_6, xk_100_7, xk_100_8, xk_100_9, xk_100_10, xk_100_11, xk_100_12, xk_100_13, xk_100_14, xk_100_15, xk_100_16, xk_100_17, xk_100_18, xk_100_19, xk_100_20, xk_100_21, xk_100_22, xk_100_23, xk_100_24, xk_100_25, xk_100_26, xk_100_27, xk_100_28, xk_100_29, xk_100_30, xk_100_31, xk_100_32, xk_100_33, xk_100_34, xk_100_35, xk_100_36, trivial⟩
theorem xd_101_0 : decode prog_1_method_63_code 0 = .ok (.iconst 0, 1) := by decide +kernel
theorem xd_101_1 : decode prog_1_method_63_code 1 = .ok (.istore_n 2, 1) := by decide +kernel
theorem xd_101_2 : decode prog_1_method_63_code 2 = .ok (.iload_n 2, 1) := by decide +kernel
theorem xd_101_3 : decode prog_1_method_63_code 3 = .ok (.aload_n 0, 1) := by decide +kernel
theorem xd_101_4 : decode prog_1_method_63_code 4 = .ok (.getfield 19, 3) := by decide +kernel
theorem xd_101_7 : decode prog_1_method_63_code 7 = .ok (.iload_n 1, 1) := by decide +kernel
theorem xd_101_8 : decode prog_1_method_63_code 8 = .ok (.invokevirtual 143, 3) := by decide +kernel
theorem xd_101_11 : decode prog_1_method_63_code 11 = .ok (.if_icmp .ge 57, 3) := by decide +kernel
theorem xd_101_14 : decode prog_1_method_63_code 14 = .ok (.aload_n 0, 1) := by decide +kernel
theorem xd_101_15 : decode prog_1_method_63_code 15 = .ok (.iload_n 1, 1) := by decide +kernel
theorem xd_101_16 : decode prog_1_method_63_code 16 = .ok (.iload_n 2, 1) := by decide +kernel
theorem xd_101_17 : decode prog_1_method_63_code 17 = .ok (.invokevirtual 368, 3) := by decide +kernel
theorem xd_101_20 : decode prog_1_method_63_code 20 = .ok (.istore_n 3, 1) := by decide +kernel
theorem xd_101_21 : decode prog_1_method_63_code 21 = .ok (.iload_n 3, 1) := by decide +kernel
theorem xd_101_22 : decode prog_1_method_63_code 22 = .ok (.iconst (-1), 1) := by decide +kernel
theorem xd_101_23 : decode prog_1_method_63_code 23 = .ok (.if_icmp .eq 39, 3) := by decide +kernel
theorem xd_101_26 : decode prog_1_method_63_code 26 = .ok (.aload_n 0, 1) := by decide +kernel
theorem xd_101_27 : decode prog_1_method_63_code 27 = .ok (.getfield 19, 3) := by decide +kernel
theorem xd_101_30 : decode prog_1_method_63_code 30 = .ok (.iload_n 1, 1) := by decide +kernel
theorem xd_101_31 : decode prog_1_method_63_code 31 = .ok (.iload_n 2, 1) := by decide +kernel
theorem xd_101_32 : decode prog_1_method_63_code 32 = .ok (.iconst 1, 1) := by decide +kernel
theorem xd_101_33 : decode prog_1_method_63_code 33 = .ok (.iload_n 3, 1) := by decide +kernel
theorem xd_101_34 : decode prog_1_method_63_code 34 = .ok (.isub, 1) := by decide +kernel
theorem xd_101_35 : decode prog_1_method_63_code 35 = .ok (.invokestatic 186, 3) := by decide +kernel
theorem xd_101_38 : decode prog_1_method_63_code 38 = .ok (.invokevirtual 199, 3) := by decide +kernel
theorem xd_101_41 : decode prog_1_method_63_code 41 = .ok (.istore 4, 2) := by decide +kernel
theorem xd_101_43 : decode prog_1_method_63_code 43 = .ok (.aload_n 0, 1) := by decide +kernel
theorem xd_101_44 : decode prog_1_method_63_code 44 = .ok (.iload 4, 2) := by decide +kernel
theorem xd_101_46 : decode prog_1_method_63_code 46 = .ok (.aload_n 0, 1) := by decide +kernel
theorem xd_101_47 : decode prog_1_method_63_code 47 = .ok (.getfield 23, 3) := by decide +kernel
theorem xd_101_50 : decode prog_1_method_63_code 50 = .ok (.iload_n 1, 1) := by decide +kernel
theorem xd_101_51 : decode prog_1_method_63_code 51 = .ok (.iload_n 2, 1) := by decide +kernel
theorem xd_101_52 : decode prog_1_method_63_code 52 = .ok (.iload_n 3, 1) := by decide +kernel
theorem xd_101_53 : decode prog_1_method_63_code 53 = .ok (.invokestatic 186, 3) := by decide +kernel
theorem xd_101_56 : decode prog_1_method_63_code 56 = .ok (.invokevirtual 199, 3) := by decide +kernel
theorem xd_101_59 : decode prog_1_method_63_code 59 = .ok (.invokevirtual 371, 3) := by decide +kernel
theorem xd_101_62 : decode prog_1_method_63_code 62 = .ok (.iinc 2 (1), 3) := by decide +kernel
theorem xd_101_65 : decode prog_1_method_63_code 65 = .ok (.goto (-63), 3) := by decide +kernel
theorem xd_101_68 : decode prog_1_method_63_code 68 = .ok (.return_, 1) := by decide +kernel
theorem xk_101_0 : xk_OkA xp_F (xp_P sc) xp_cl xp_BW xp_NW xp_SW xp_exn 101 0 (.iconst 0) := Or.inl ⟨xd_101_0, rfl⟩
theorem xk_101_1 : xk_OkA xp_F (xp_P sc) xp_cl xp_BW xp_NW xp_SW xp_exn 101 1 (.istore 2) := Or.inr ⟨2, rfl, xd_101_1, rfl⟩
theorem xk_101_2 : xk_OkA xp_F (xp_P sc) xp_cl xp_BW xp_NW xp_SW xp_exn 101 2 (.iload 2) := Or.inr ⟨2, rfl, xd_101_2, rfl⟩
theorem xk_101_3 : xk_OkA xp_F (xp_P sc) xp_cl xp_BW xp_NW xp_SW xp_exn 101 3 (.aload 0) := Or.inr ⟨0, rfl, xd_101_3, rfl⟩
theorem xk_101_4 : xk_OkA xp_F (xp_P sc) xp_cl xp_BW xp_NW xp_SW xp_exn 101 4 (.getfield 97) := ⟨_, xd_101_4, rfl, ⟨_, _, _, rfl, by decide, xu_3, Or.inl xwt_78⟩⟩
theorem xk_101_5 : xk_OkA xp_F (xp_P sc) xp_cl xp_BW xp_NW xp_SW xp_exn 101 5 (.iload 1) := Or.inr ⟨1, rfl, xd_101_7, rfl⟩
theorem xk_101_6 : xk_OkA xp_F (xp_P sc) xp_cl xp_BW xp_NW xp_SW xp_exn 101 6 (.invokeinterface 31 2) := ⟨rfl, Or.inl ⟨xwt_413, rfl⟩, rfl, rfl, xwt_3, by decide +kernel, by decide +kernel, Nat.le_of_ble_eq_true rfl, _, Or.inr ⟨_, xwn_410⟩, Or.inr ⟨xd_101_8, xwt_412, xws_35, ⟨_, _, _, rfl, rfl⟩, by decide +kernel⟩⟩
theorem xk_101_7 : xk_OkA xp_F (xp_P sc) xp_cl xp_BW xp_NW xp_SW xp_exn 101 7 (.if_icmp .ge 38) := ⟨_, xd_101_11, by unfold xf_to; decide +kernel, rfl⟩
theorem xk_101_8 : xk_OkA xp_F (xp_P sc) xp_cl xp_BW xp_NW xp_SW xp_exn 101 8 (.aload 0) := Or.inr ⟨0, rfl, xd_101_14, rfl⟩
theorem xk_101_9 : xk_OkA xp_F (xp_P sc) xp_cl xp_BW xp_NW xp_SW xp_exn 101 9 (.iload 1) := Or.inr ⟨1, rfl, xd_101_15, rfl⟩
theorem xk_101_10 : xk_OkA xp_F (xp_P sc) xp_cl xp_BW xp_NW xp_SW xp_exn 101 10 (.iload 2) := Or.inr ⟨2, rfl, xd_101_16, rfl⟩
theorem xk_101_11 : xk_OkA xp_F (xp_P sc) xp_cl xp_BW xp_NW xp_SW xp_exn 101 11 (.invokeinterface 100 3) := ⟨rfl, Or.inl ⟨xwt_538, rfl⟩, rfl, rfl, xwt_1, by decide +kernel, by decide +kernel, Nat.le_of_ble_eq_true rfl, _, Or.inl xwt_535, Or.inr ⟨xd_101_17, xwt_537, xws_51, ⟨_, _, _, rfl, rfl⟩, by decide +kernel⟩⟩
theorem xk_101_12 : xk_OkA xp_F (xp_P sc) xp_cl xp_BW xp_NW xp_SW xp_exn 101 12 (.istore 3) := Or.inr ⟨3, rfl, xd_101_20, rfl⟩
theorem xk_101_13 : xk_OkA xp_F (xp_P sc) xp_cl xp_BW xp_NW xp_SW xp_exn 101 13 (.iload 3) := Or.inr ⟨3, rfl, xd_101_21, rfl⟩
theorem xk_101_14 : xk_OkA xp_F (xp_P sc) xp_cl xp_BW xp_NW xp_SW xp_exn 101 14 (.iconst (-1)) := Or.inl ⟨xd_101_22, rfl⟩
theorem xk_101_15 : xk_OkA xp_F (xp_P sc) xp_cl xp_BW xp_NW xp_SW xp_exn 101 15 (.if_icmp .eq 36) := ⟨_, xd_101_23, by unfold xf_to; decide +kernel, rfl⟩
theorem xk_101_16 : xk_OkA xp_F (xp_P sc) xp_cl xp_BW xp_NW xp_SW xp_exn 101 16 (.aload 0) := Or.inr ⟨0, rfl, xd_101_26, rfl⟩
theorem xk_101_17 : xk_OkA xp_F (xp_P sc) xp_cl xp_BW xp_NW xp_SW xp_exn 101 17 (.getfield 97) := ⟨_, xd_101_27, rfl, ⟨_, _, _, rfl, by decide, xu_3, Or.inl xwt_78⟩⟩
theorem xk_101_18 : xk_OkA xp_F (xp_P sc) xp_cl xp_BW xp_NW xp_SW xp_exn 101 18 (.iload 1) := Or.inr ⟨1, rfl, xd_101_30, rfl⟩
theorem xk_101_19 : xk_OkA xp_F (xp_P sc) xp_cl xp_BW xp_NW xp_SW xp_exn 101 19 (.iload 2) := Or.inr ⟨2, rfl, xd_101_31, rfl⟩
theorem xk_101_20 : xk_OkA xp_F (xp_P sc) xp_cl xp_BW xp_NW xp_SW xp_exn 101 20 (.iconst 1) := Or.inl ⟨xd_101_32, rfl⟩
theorem xk_101_21 : xk_OkA xp_F (xp_P sc) xp_cl xp_BW xp_NW xp_SW xp_exn 101 21 (.iload 3) := Or.inr ⟨3, rfl, xd_101_33, rfl⟩
theorem xk_101_22 : xk_OkA xp_F (xp_P sc) xp_cl xp_BW xp_NW xp_SW xp_exn 101 22 (.isub) := ⟨xd_101_34, rfl⟩
theorem xk_101_23 : xk_OkA xp_F (xp_P sc) xp_cl xp_BW xp_NW xp_SW xp_exn 101 23 (.invokeinterface 74 3) := ⟨rfl, Or.inl ⟨xwt_435, rfl⟩, rfl, rfl, xwt_1, by decide +kernel, by decide +kernel, Nat.le_of_ble_eq_true rfl, _, Or.inl xwt_433, Or.inl ⟨xd_101_35, xwt_434, rfl, by decide +kernel⟩⟩
theorem xk_101_24 : xk_OkA xp_F (xp_P sc) xp_cl xp_BW xp_NW xp_SW xp_exn 101 24 (.invokeinterface 34 2) := ⟨rfl, Or.inl ⟨xwt_322, rfl⟩, rfl, rfl, xwt_3, by decide +kernel, by decide +kernel, Nat.le_of_ble_eq_true rfl, _, Or.inr ⟨_, xwn_319⟩, Or.inr ⟨xd_101_38, xwt_321, xws_22, ⟨_, _, _, rfl, rfl⟩, by decide +kernel⟩⟩
theorem xk_101_25 : xk_OkA xp_F (xp_P sc) xp_cl xp_BW xp_NW xp_SW xp_exn 101 25 (.istore 4) := Or.inl ⟨xd_101_41, rfl⟩
theorem xk_101_26 : xk_OkA xp_F (xp_P sc) xp_cl xp_BW xp_NW xp_SW xp_exn 101 26 (.aload 0) := Or.inr ⟨0, rfl, xd_101_43, rfl⟩
theorem xk_101_27 : xk_OkA xp_F (xp_P sc) xp_cl xp_BW xp_NW xp_SW xp_exn 101 27 (.iload 4) := Or.inl ⟨xd_101_44, rfl⟩
theorem xk_101_28 : xk_OkA xp_F (xp_P sc) xp_cl xp_BW xp_NW xp_SW xp_exn 101 28 (.aload 0) := Or.inr ⟨0, rfl, xd_101_46, rfl⟩
theorem xk_101_29 : xk_OkA xp_F (xp_P sc) xp_cl xp_BW xp_NW xp_SW xp_exn 101 29 (.getfield 98) := ⟨_, xd_101_47, rfl, ⟨_, _, _, rfl, by decide, xu_3, Or.inl xwt_79⟩⟩
theorem xk_101_30 : xk_OkA xp_F (xp_P sc) xp_cl xp_BW xp_NW xp_SW xp_exn 101 30 (.iload 1) := Or.inr ⟨1, rfl, xd_101_50, rfl⟩
theorem xk_101_31 : xk_OkA xp_F (xp_P sc) xp_cl xp_BW xp_NW xp_SW xp_exn 101 31 (.iload 2) := Or.inr ⟨2, rfl, xd_101_51, rfl⟩
theorem xk_101_32 : xk_OkA xp_F (xp_P sc) xp_cl xp_BW xp_NW xp_SW xp_exn 101 32 (.iload 3) := Or.inr ⟨3, rfl, xd_101_52, rfl⟩
theorem xk_101_33 : xk_OkA xp_F (xp_P sc) xp_cl xp_BW xp_NW xp_SW xp_exn 101 33 (.invokeinterface 74 3) := ⟨rfl, Or.inl ⟨xwt_435, rfl⟩, rfl, rfl, xwt_1, by decide +kernel, by decide +kernel, Nat.le_of_ble_eq_true rfl, _, Or.inl xwt_433, Or.inl ⟨xd_101_53, xwt_434, rfl, by decide +kernel⟩⟩
theorem xk_101_34 : xk_OkA xp_F (xp_P sc) xp_cl xp_BW xp_NW xp_SW xp_exn 101 34 (.invokeinterface 34 2) := ⟨rfl, Or.inl ⟨xwt_322, rfl⟩, rfl, rfl, xwt_3, by decide +kernel, by decide +kernel, Nat.le_of_ble_eq_true rfl, _, Or.inr ⟨_, xwn_319⟩, Or.inr ⟨xd_101_56, xwt_321, xws_22, ⟨_, _, _, rfl, rfl⟩, by decide +kernel⟩⟩
theorem xk_101_35 : xk_OkA xp_F (xp_P sc) xp_cl xp_BW xp_NW xp_SW xp_exn 101 35 (.invokeinterface 102 3) := ⟨rfl, Or.inl ⟨xwt_546, rfl⟩, rfl, rfl, xwt_1, by decide +kernel, by decide +kernel, Nat.le_of_ble_eq_true rfl, _, Or.inl xwt_543, Or.inr ⟨xd_101_59, xwt_545, xws_53, ⟨_, _, _, rfl, rfl⟩, by decide +kernel⟩⟩
theorem xk_101_36 : xk_OkA xp_F (xp_P sc) xp_cl xp_BW xp_NW xp_SW xp_exn 101 36 (.iinc 2 (1)) := ⟨xd_101_62, rfl⟩
theorem xk_101_37 : xk_OkA xp_F (xp_P sc) xp_cl xp_BW xp_NW xp_SW xp_exn 101 37 (.goto 2) := ⟨_, xd_101_65, by unfold xf_to; decide +kernel⟩
theorem xk_101_38 : xk_OkA xp_F (xp_P sc) xp_cl xp_BW xp_NW xp_SW xp_exn 101 38 (.return_) := ⟨xd_101_68, rfl⟩
theorem xl_101 : xk_OkL xp_F (xp_P sc) xp_cl xp_BW xp_NW xp_SW xp_exn 101 0 xc_101 := ⟨xk_101_0, xk_101_1, xk_101_2, xk_101_3, xk_101_4, xk_101_5, xk_101_6, xk_101_7, xk_101_8, xk_101_9, xk_101_10, xk_101_11, xk_101_12, xk_101_13, xk_101_14, xk_101_15, xk_101_16, xk_101_17, xk_101_18, xk_101_19, xk_101_20, xk_101_21, xk_101_22, xk_101_23, xk_101_24, xk_101_25, xk_101_26, xk_101_27, xk_101_28, xk_101_29, xk_101_30, xk_101_31, xk_101_32, xk_101_33, xk_101_34, xk_101_35, xk_101_36, xk_101_37, xk_101_38, trivial⟩
theorem xd_102_0 : decode prog_1_method_64_code 0 = .ok (.iconst 0, 1) := by decide +kernel
theorem xd_102_1 : decode prog_1_method_64_code 1 = .ok (.istore_n 3, 1) := by decide +kernel
theorem xd_102_2 : decode prog_1_method_64_code 2 = .ok (.iload_n 3, 1) := by decide +kernel
theorem xd_102_3 : decode prog_1_method_64_code 3 = .ok (.iconst 4, 1) := by decide +kernel
theorem xd_102_4 : decode prog_1_method_64_code 4 = .ok (.if_icmp .ge 24, 3) := by decide +kernel
theorem xd_102_7 : decode prog_1_method_64_code 7 = .ok (.aload_n 0, 1) := by decide +kernel
theorem xd_102_8 : decode prog_1_method_64_code 8 = .ok (.iload_n 2, 1) := by decide +kernel
theorem xd_102_9 : decode prog_1_method_64_code 9 = .ok (.iload_n 3, 1) := by decide +kernel
theorem xd_102_10 : decode prog_1_method_64_code 10 = .ok (.aload_n 0, 1) := by decide +kernel
theorem xd_102_11 : decode prog_1_method_64_code 11 = .ok (.getfield 12, 3) := by decide +kernel
theorem xd_102_14 : decode prog_1_method_64_code 14 = .ok (.iload_n 1, 1) := by decide +kernel
theorem xd_102_15 : decode prog_1_method_64_code 15 = .ok (.iload_n 3, 1) := by decide +kernel
theorem xd_102_16 : decode prog_1_method_64_code 16 = .ok (.invokevirtual 202, 3) := by decide +kernel
theorem xd_102_19 : decode prog_1_method_64_code 19 = .ok (.invokevirtual 309, 3) := by decide +kernel
theorem xd_102_22 : decode prog_1_method_64_code 22 = .ok (.iinc 3 (1), 3) := by decide +kernel
theorem xd_102_25 : decode prog_1_method_64_code 25 = .ok (.goto (-23), 3) := by decide +kernel
theorem xd_102_28 : decode prog_1_method_64_code 28 = .ok (.return_, 1) := by decide +kernel
theorem xk_102_0 : xk_OkA xp_F (xp_P sc) xp_cl xp_BW xp_NW xp_SW xp_exn 102 0 (.iconst 0) := Or.inl ⟨xd_102_0, rfl⟩
theorem xk_102_1 : xk_OkA xp_F (xp_P sc) xp_cl xp_BW xp_NW xp_SW xp_exn 102 1 (.istore 3) := Or.inr ⟨3, rfl, xd_102_1, rfl⟩
theorem xk_102_2 : xk_OkA xp_F (xp_P sc) xp_cl xp_BW xp_NW xp_SW xp_exn 102 2 (.iload 3) := Or.inr ⟨3, rfl, xd_102_2, rfl⟩
theorem xk_102_3 : xk_OkA xp_F (xp_P sc) xp_cl xp_BW xp_NW xp_SW xp_exn 102 3 (.iconst 4) := Or.inl ⟨xd_102_3, rfl⟩
theorem xk_102_4 : xk_OkA xp_F (xp_P sc) xp_cl xp_BW xp_NW xp_SW xp_exn 102 4 (.if_icmp .ge 16) := ⟨_, xd_102_4, by unfold xf_to; decide +kernel, rfl⟩
theorem xk_102_5 : xk_OkA xp_F (xp_P sc) xp_cl xp_BW xp_NW xp_SW xp_exn 102 5 (.aload 0) := Or.inr ⟨0, rfl, xd_102_7, rfl⟩
theorem xk_102_6 : xk_OkA xp_F (xp_P sc) xp_cl xp_BW xp_NW xp_SW xp_exn 102 6 (.iload 2) := Or.inr ⟨2, rfl, xd_102_8, rfl⟩
theorem xk_102_7 : xk_OkA xp_F (xp_P sc) xp_cl xp_BW xp_NW xp_SW xp_exn 102 7 (.iload 3) := Or.inr ⟨3, rfl, xd_102_9, rfl⟩
theorem xk_102_8 : xk_OkA xp_F (xp_P sc) xp_cl xp_BW xp_NW xp_SW xp_exn 102 8 (.aload 0) := Or.inr ⟨0, rfl, xd_102_10, rfl⟩
theorem xk_102_9 : xk_OkA xp_F (xp_P sc) xp_cl xp_BW xp_NW xp_SW xp_exn 102 9 (.getfield 96) := ⟨_, xd_102_11, rfl, ⟨_, _, _, rfl, by decide, xu_3, Or.inl xwt_77⟩⟩
theorem xk_102_10 : xk_OkA xp_F (xp_P sc) xp_cl xp_BW xp_NW xp_SW xp_exn 102 10 (.iload 1) := Or.inr ⟨1, rfl, xd_102_14, rfl⟩
theorem xk_102_11 : xk_OkA xp_F (xp_P sc) xp_cl xp_BW xp_NW xp_SW xp_exn 102 11 (.iload 3) := Or.inr ⟨3, rfl, xd_102_15, rfl⟩
theorem xk_102_12 : xk_OkA xp_F (xp_P sc) xp_cl xp_BW xp_NW xp_SW xp_exn 102 12 (.invokeinterface 9 3) := ⟨rfl, Or.inl ⟨xwt_550, rfl⟩, rfl, rfl, xwt_2, by decide +kernel, by decide +kernel, Nat.le_of_ble_eq_true rfl, _, Or.inr ⟨_, xwn_547⟩, Or.inr ⟨xd_102_16, xwt_549, xws_54, ⟨_, _, _, rfl, rfl⟩, by decide +kernel⟩⟩
theorem xk_102_13 : xk_OkA xp_F (xp_P sc) xp_cl xp_BW xp_NW xp_SW xp_exn 102 13 (.invokeinterface 83 4) := ⟨rfl, Or.inl ⟨xwt_465, rfl⟩, rfl, rfl, xwt_1, by decide +kernel, by decide +kernel, Nat.le_of_ble_eq_true rfl, _, Or.inl xwt_462, Or.inr ⟨xd_102_19, xwt_464, xws_45, ⟨_, _, _, rfl, rfl⟩, by decide +kernel⟩⟩
theorem xk_102_14 : xk_OkA xp_F (xp_P sc) xp_cl xp_BW xp_NW xp_SW xp_exn 102 14 (.iinc 3 (1)) := ⟨xd_102_22, rfl⟩
theorem xk_102_15 : xk_OkA xp_F (xp_P sc) xp_cl xp_BW xp_NW xp_SW xp_exn 102 15 (.goto 2) := ⟨_, xd_102_25, by unfold xf_to; decide +kernel⟩
theorem xk_102_16 : xk_OkA xp_F (xp_P sc) xp_cl xp_BW xp_NW xp_SW xp_exn 102 16 (.return_) := ⟨xd_102_28, rfl⟩
theorem xl_102 : xk_OkL xp_F (xp_P sc) xp_cl xp_BW xp_NW xp_SW xp_exn 102 0 xc_102 := ⟨xk_102_0, xk_102_1, xk_102_2, xk_102_3, xk_102_4, xk_102_5, xk_102_6, xk_102_7, xk_102_8, xk_102_9, xk_102_10, xk_102_11, xk_102_12, xk_102_13, xk_102_14, xk_102_15, xk_102_16, trivial⟩
theorem xd_103_0 : decode prog_1_method_65_code 0 = .ok (.aload_n 0, 1) := by decide +kernel
theorem xd_103_1 : decode prog_1_method_65_code 1 = .ok (.invokevirtual 73, 3) := by decide +kernel
theorem xd_103_4 : decode prog_1_method_65_code 4 = .ok (.iload_n 1, 1) := by decide +kernel
theorem xd_103_5 : decode prog_1_method_65_code 5 = .ok (.bipush 10, 2) := by decide +kernel
theorem xd_103_7 : decode prog_1_method_65_code 7 = .ok (.idiv, 1) := by decide +kernel
theorem xd_103_8 : decode prog_1_method_65_code 8 = .ok (.istore_n 2, 1) := by decide +kernel
theorem xd_103_9 : decode prog_1_method_65_code 9 = .ok (.iload_n 1, 1) := by decide +kernel
theorem xd_103_10 : decode prog_1_method_65_code 10 = .ok (.bipush 10, 2) := by decide +kernel
theorem xd_103_12 : decode prog_1_method_65_code 12 = .ok (.irem, 1) := by decide +kernel
theorem xd_103_13 : decode prog_1_method_65_code 13 = .ok (.iconst 2, 1) := by decide +kernel
theorem xd_103_14 : decode prog_1_method_65_code 14 = .ok (.idiv, 1) := by decide +kernel
theorem xd_103_15 : decode prog_1_method_65_code 15 = .ok (.istore_n 3, 1) := by decide +kernel
theorem xd_103_16 : decode prog_1_method_65_code 16 = .ok (.aload_n 0, 1) := by decide +kernel
theorem xd_103_17 : decode prog_1_method_65_code 17 = .ok (.iload_n 2, 1) := by decide +kernel
theorem xd_103_18 : decode prog_1_method_65_code 18 = .ok (.iload_n 3, 1) := by decide +kernel
theorem xd_103_19 : decode prog_1_method_65_code 19 = .ok (.iload_n 1, 1) := by decide +kernel
theorem xd_103_20 : decode prog_1_method_65_code 20 = .ok (.iconst 2, 1) := by decide +kernel
theorem xd_103_21 : decode prog_1_method_65_code 21 = .ok (.irem, 1) := by decide +kernel
theorem xd_103_22 : decode prog_1_method_65_code 22 = .ok (.iconst 1, 1) := by decide +kernel
theorem xd_103_23 : decode prog_1_method_65_code 23 = .ok (.aload_n 0, 1) := by decide +kernel
theorem xd_103_24 : decode prog_1_method_65_code 24 = .ok (.getfield 29, 3) := by decide +kernel
theorem xd_103_27 : decode prog_1_method_65_code 27 = .ok (.getfield 104, 3) := by decide +kernel
theorem xd_103_30 : decode prog_1_method_65_code 30 = .ok (.ishl, 1) := by decide +kernel
theorem xd_103_31 : decode prog_1_method_65_code 31 = .ok (.invokevirtual 356, 3) := by decide +kernel
theorem xd_103_34 : decode prog_1_method_65_code 34 = .ok (.ireturn, 1) := by decide +kernel
theorem xk_103_0 : xk_OkA xp_F (xp_P sc) xp_cl xp_BW xp_NW xp_SW xp_exn 103 0 (.aload 0) := Or.inr ⟨0, rfl, xd_103_0, rfl⟩
theorem xk_103_1 : xk_OkA xp_F (xp_P sc) xp_cl xp_BW xp_NW xp_SW xp_exn 103 1 (.invokeinterface 85 1) := ⟨rfl, Or.inl ⟨xwt_259, rfl⟩, rfl, rfl, xwt_1, by decide +kernel, by decide +kernel, Nat.le_of_ble_eq_true rfl, _, Or.inl xwt_256, Or.inr ⟨xd_103_1, xwt_258, xws_9, ⟨_, _, _, rfl, rfl⟩, by decide +kernel⟩⟩
theorem xk_103_2 : xk_OkA xp_F (xp_P sc) xp_cl xp_BW xp_NW xp_SW xp_exn 103 2 (.iload 1) := Or.inr ⟨1, rfl, xd_103_4, rfl⟩
theorem xk_103_3 : xk_OkA xp_F (xp_P sc) xp_cl xp_BW xp_NW xp_SW xp_exn 103 3 (.iconst 10) := Or.inr (Or.inl ⟨xd_103_5, by decide +kernel, rfl⟩)
theorem xk_103_4 : xk_OkA xp_F (xp_P sc) xp_cl xp_BW xp_NW xp_SW xp_exn 103 4 (.idiv) := ⟨xd_103_7, rfl⟩
theorem xk_103_5 : xk_OkA xp_F (xp_P sc) xp_cl xp_BW xp_NW xp_SW xp_exn 103 5 (.istore 2) := Or.inr ⟨2, rfl, xd_103_8, rfl⟩
theorem xk_103_6 : xk_OkA xp_F (xp_P sc) xp_cl xp_BW xp_NW xp_SW xp_exn 103 6 (.iload 1) := Or.inr ⟨1, rfl, xd_103_9, rfl⟩
theorem xk_103_7 : xk_OkA xp_F (xp_P sc) xp_cl xp_BW xp_NW xp_SW xp_exn 103 7 (.iconst 10) := Or.inr (Or.inl ⟨xd_103_10, by decide +kernel, rfl⟩)
theorem xk_103_8 : xk_OkA xp_F (xp_P sc) xp_cl xp_BW xp_NW xp_SW xp_exn 103 8 (.irem) := ⟨xd_103_12, rfl⟩
theorem xk_103_9 : xk_OkA xp_F (xp_P sc) xp_cl xp_BW xp_NW xp_SW xp_exn 103 9 (.iconst 2) := Or.inl ⟨xd_103_13, rfl⟩
theorem xk_103_10 : xk_OkA xp_F (xp_P sc) xp_cl xp_BW xp_NW xp_SW xp_exn 103 10 (.idiv) := ⟨xd_103_14, rfl⟩
theorem xk_103_11 : xk_OkA xp_F (xp_P sc) xp_cl xp_BW xp_NW xp_SW xp_exn 103 11 (.istore 3) := Or.inr ⟨3, rfl, xd_103_15, rfl⟩
theorem xk_103_12 : xk_OkA xp_F (xp_P sc) xp_cl xp_BW xp_NW xp_SW xp_exn 103 12 (.aload 0) := Or.inr ⟨0, rfl, xd_103_16, rfl⟩
theorem xk_103_13 : xk_OkA xp_F (xp_P sc) xp_cl xp_BW xp_NW xp_SW xp_exn 103 13 (.iload 2) := Or.inr ⟨2, rfl, xd_103_17, rfl⟩
theorem xk_103_14 : xk_OkA xp_F (xp_P sc) xp_cl xp_BW xp_NW xp_SW xp_exn 103 14 (.iload 3) := Or.inr ⟨3, rfl, xd_103_18, rfl⟩
theorem xk_103_15 : xk_OkA xp_F (xp_P sc) xp_cl xp_BW xp_NW xp_SW xp_exn 103 15 (.iload 1) := Or.inr ⟨1, rfl, xd_103_19, rfl⟩
theorem xk_103_16 : xk_OkA xp_F (xp_P sc) xp_cl xp_BW xp_NW xp_SW xp_exn 103 16 (.iconst 2) := Or.inl ⟨xd_103_20, rfl⟩
theorem xk_103_17 : xk_OkA xp_F (xp_P sc) xp_cl xp_BW xp_NW xp_SW xp_exn 103 17 (.irem) := ⟨xd_103_21, rfl⟩
theorem xk_103_18 : xk_OkA xp_F (xp_P sc) xp_cl xp_BW xp_NW xp_SW xp_exn 103 18 (.iconst 1) := Or.inl ⟨xd_103_22, rfl⟩
theorem xk_103_19 : xk_OkA xp_F (xp_P sc) xp_cl xp_BW xp_NW xp_SW xp_exn 103 19 (.aload 0) := Or.inr ⟨0, rfl, xd_103_23, rfl⟩
theorem xk_103_20 : xk_OkA xp_F (xp_P sc) xp_cl xp_BW xp_NW xp_SW xp_exn 103 20 (.getfield 99) := ⟨_, xd_103_24, rfl, ⟨_, _, _, rfl, by decide, xu_3, Or.inl xwt_80⟩⟩
theorem xk_103_21 : xk_OkA xp_F (xp_P sc) xp_cl xp_BW xp_NW xp_SW xp_exn 103 21 (.getfield 32) := ⟨_, xd_103_27, rfl, ⟨_, _, _, rfl, by decide, xu_1, Or.inr ⟨_, xwn_61⟩⟩⟩
theorem xk_103_22 : xk_OkA xp_F (xp_P sc) xp_cl xp_BW xp_NW xp_SW xp_exn 103 22 (.ishl) := ⟨xd_103_30, rfl⟩
theorem xk_103_23 : xk_OkA xp_F (xp_P sc) xp_cl xp_BW xp_NW xp_SW xp_exn 103 23 (.invokeinterface 91 5) := ⟨rfl, Or.inl ⟨xwt_421, rfl⟩, rfl, rfl, xwt_1, by decide +kernel, by decide +kernel, Nat.le_of_ble_eq_true rfl, _, Or.inl xwt_418, Or.inr ⟨xd_103_31, xwt_420, xws_37, ⟨_, _, _, rfl, rfl⟩, by decide +kernel⟩⟩
theorem xk_103_24 : xk_OkA xp_F (xp_P sc) xp_cl xp_BW xp_NW xp_SW xp_exn 103 24 (.ireturn) := ⟨xd_103_34, rfl⟩
theorem xl_103 : xk_OkL xp_F (xp_P sc) xp_cl xp_BW xp_NW xp_SW xp_exn 103 0 xc_103 := ⟨xk_103_0, xk_103_1, xk_103_2, xk_103_3, xk_103_4, xk_103_5, xk_103_6, xk_103_7, xk_103_8, xk_103_9, xk_103_10, xk_103_11, xk_103_12, xk_103_13, xk_103_14, xk_103_15, xk_103_16, xk_103_17, xk_103_18, xk_103_19, xk_103_20, xk_103_21, xk_103_22, xk_103_23, xk_103_24, trivial⟩
theorem xd_104_0 : decode prog_1_method_66_code 0 = .ok (.aload_n 0, 1) := by decide +kernel
theorem xd_104_1 : decode prog_1_method_66_code 1 = .ok (.getfield 19, 3) := by decide +kernel
theorem xd_104_4 : decode prog_1_method_66_code 4 = .ok (.aload_n 0, 1) := by decide +kernel
theorem xd_104_5 : decode prog_1_method_66_code 5 = .ok (.getfield 29, 3) := by decide +kernel
theorem xd_104_8 : decode prog_1_method_66_code 8 = .ok (.getfield 212, 3) := by decide +kernel
theorem xd_104_11 : decode prog_1_method_66_code 11 = .ok (.invokevirtual 199, 3) := by decide +kernel
theorem xd_104_14 : decode prog_1_method_66_code 14 = .ok (.istore_n 1, 1) := by decide +kernel
theorem xd_104_15 : decode prog_1_method_66_code 15 = .ok (.aload_n 0, 1) := by decide +kernel
theorem xd_104_16 : decode prog_1_method_66_code 16 = .ok (.aload_n 0, 1) := by decide +kernel
theorem xd_104_17 : decode prog_1_method_66_code 17 = .ok (.getfield 29, 3) := by decide +kernel
theorem xd_104_20 : decode prog_1_method_66_code 20 = .ok (.getfield 90, 3) := by decide +kernel
theorem xd_104_23 : decode prog_1_method_66_code 23 = .ok (.aload_n 0, 1) := by decide +kernel
theorem xd_104_24 : decode prog_1_method_66_code 24 = .ok (.getfield 29, 3) := by decide +kernel
theorem xd_104_27 : decode prog_1_method_66_code 27 = .ok (.getfield 374, 3) := by decide +kernel
theorem xd_104_30 : decode prog_1_method_66_code 30 = .ok (.aload_n 0, 1) := by decide +kernel
theorem xd_104_31 : decode prog_1_method_66_code 31 = .ok (.getfield 12, 3) := by decide +kernel
theorem xd_104_34 : decode prog_1_method_66_code 34 = .ok (.iload_n 1, 1) := by decide +kernel
theorem xd_104_35 : decode prog_1_method_66_code 35 = .ok (.aload_n 0, 1) := by decide +kernel
theorem xd_104_36 : decode prog_1_method_66_code 36 = .ok (.getfield 29, 3) := by decide +kernel
theorem xd_104_39 : decode prog_1_method_66_code 39 = .ok (.getfield 374, 3) := by decide +kernel
theorem xd_104_42 : decode prog_1_method_66_code 42 = .ok (.invokevirtual 202, 3) := by decide +kernel
theorem xd_104_45 : decode prog_1_method_66_code 45 = .ok (.invokevirtual 309, 3) := by decide +kernel
theorem xd_104_48 : decode prog_1_method_66_code 48 = .ok (.aload_n 0, 1) := by decide +kernel
theorem xd_104_49 : decode prog_1_method_66_code 49 = .ok (.getfield 29, 3) := by decide +kernel
theorem xd_104_52 : decode prog_1_method_66_code 52 = .ok (.dup, 1) := by decide +kernel
theorem xd_104_53 : decode prog_1_method_66_code 53 = .ok (.getfield 374, 3) := by decide +kernel
theorem xd_104_56 : decode prog_1_method_66_code 56 = .ok (.iconst 1, 1) := by decide +kernel
theorem xd_104_57 : decode prog_1_method_66_code 57 = .ok (.iadd, 1) := by decide +kernel
theorem xd_104_58 : decode prog_1_method_66_code 58 = .ok (.putfield 374, 3) := by decide +kernel
theorem xd_104_61 : decode prog_1_method_66_code 61 = .ok (.aload_n 0, 1) := by decide +kernel
theorem xd_104_62 : decode prog_1_method_66_code 62 = .ok (.getfield 29, 3) := by decide +kernel
theorem xd_104_65 : decode prog_1_method_66_code 65 = .ok (.getfield 374, 3) := by decide +kernel
theorem xd_104_68 : decode prog_1_method_66_code 68 = .ok (.iconst 4, 1) := by decide +kernel
theorem xd_104_69 : decode prog_1_method_66_code 69 = .ok (.if_icmp .ne 39, 3) := by decide +kernel
theorem xd_104_72 : decode prog_1_method_66_code 72 = .ok (.aload_n 0, 1) := by decide +kernel
theorem xd_104_73 : decode prog_1_method_66_code 73 = .ok (.invokevirtual 73, 3) := by decide +kernel
theorem xd_104_76 : decode prog_1_method_66_code 76 = .ok (.aload_n 0, 1) := by decide +kernel
theorem xd_104_77 : decode prog_1_method_66_code 77 = .ok (.getfield 23, 3) := by decide +kernel
theorem xd_104_80 : decode prog_1_method_66_code 80 = .ok (.aload_n 0, 1) := by decide +kernel
theorem xd_104_81 : decode prog_1_method_66_code 81 = .ok (.getfield 29, 3) := by decide +kernel
theorem xd_104_84 : decode prog_1_method_66_code 84 = .ok (.getfield 212, 3) := by decide +kernel
theorem xd_104_87 : decode prog_1_method_66_code 87 = .ok (.aload_n 0, 1) := by decide +kernel
theorem xd_104_88 : decode prog_1_method_66_code 88 = .ok (.getfield 29, 3) := by decide +kernel
theorem xd_104_91 : decode prog_1_method_66_code 91 = .ok (.getfield 90, 3) := by decide +kernel
theorem xd_104_94 : decode prog_1_method_66_code 94 = .ok (.invokevirtual 335, 3) := by decide +kernel
theorem xd_104_97 : decode prog_1_method_66_code 97 = .ok (.aload_n 0, 1) := by decide +kernel
theorem xd_104_98 : decode prog_1_method_66_code 98 = .ok (.invokevirtual 80, 3) := by decide +kernel
theorem xd_104_101 : decode prog_1_method_66_code 101 = .ok (.aload_n 0, 1) := by decide +kernel
theorem xd_104_102 : decode prog_1_method_66_code 102 = .ok (.getfield 29, 3) := by decide +kernel
theorem xd_104_105 : decode prog_1_method_66_code 105 = .ok (.invokevirtual 326, 3) := by decide +kernel
theorem xd_104_108 : decode prog_1_method_66_code 108 = .ok (.return_, 1) := by decide +kernel
theorem xk_104_0 : xk_OkA xp_F (xp_P sc) xp_cl xp_BW xp_NW xp_SW xp_exn 104 0 (.aload 0) := Or.inr ⟨0, rfl, xd_104_0, rfl⟩
theorem xk_104_1 : xk_OkA xp_F (xp_P sc) xp_cl xp_BW xp_NW xp_SW xp_exn 104 1 (.getfield 97) := ⟨_, xd_104_1, rfl, ⟨_, _, _, rfl, by decide, xu_3, Or.inl xwt_78⟩⟩
theorem xk_104_2 : xk_OkA xp_F (xp_P sc) xp_cl xp_BW xp_NW xp_SW xp_exn 104 2 (.aload 0) := Or.inr ⟨0, rfl, xd_104_4, rfl⟩
theorem xk_104_3 : xk_OkA xp_F (xp_P sc) xp_cl xp_BW xp_NW xp_SW xp_exn 104 3 (.getfield 99) := ⟨_, xd_104_5, rfl, ⟨_, _, _, rfl, by decide, xu_3, Or.inl xwt_80⟩⟩
theorem xk_104_4 : xk_OkA xp_F (xp_P sc) xp_cl xp_BW xp_NW xp_SW xp_exn 104 4 (.getfield 33) := ⟨_, xd_104_8, rfl, ⟨_, _, _, rfl, by decide, xu_1, Or.inr ⟨_, xwn_63⟩⟩⟩
theorem xk_104_5 : xk_OkA xp_F (xp_P sc) xp_cl xp_BW xp_NW xp_SW xp_exn 104 5 (.invokeinterface 34 2) := ⟨rfl, Or.inl ⟨xwt_322, rfl⟩, rfl, rfl, xwt_3, by decide +kernel, by decide +kernel, Nat.le_of_ble_eq_true rfl, _, Or.inr ⟨_, xwn_319⟩, Or.inr ⟨xd_104_11, xwt_321, xws_22, ⟨_, _, _, rfl, rfl⟩, by decide +kernel⟩⟩
theorem xk_104_6 : xk_OkA xp_F (xp_P sc) xp_cl xp_BW xp_NW xp_SW xp_exn 104 6 (.istore 1) := Or.inr ⟨1, rfl, xd_104_14, rfl⟩
theorem xk_104_7 : xk_OkA xp_F (xp_P sc) xp_cl xp_BW xp_NW xp_SW xp_exn 104 7 (.aload 0) := Or.inr ⟨0, rfl, xd_104_15, rfl⟩
theorem xk_104_8 : xk_OkA xp_F (xp_P sc) xp_cl xp_BW xp_NW xp_SW xp_exn 104 8 (.aload 0) := Or.inr ⟨0, rfl, xd_104_16, rfl⟩
theorem xk_104_9 : xk_OkA xp_F (xp_P sc) xp_cl xp_BW xp_NW xp_SW xp_exn 104 9 (.getfield 99) := ⟨_, xd_104_17, rfl, ⟨_, _, _, rfl, by decide, xu_3, Or.inl xwt_80⟩⟩
theorem xk_104_10 : xk_OkA xp_F (xp_P sc) xp_cl xp_BW xp_NW xp_SW xp_exn 104 10 (.getfield 34) := ⟨_, xd_104_20, rfl, ⟨_, _, _, rfl, by decide, xu_1, Or.inr ⟨_, xwn_65⟩⟩⟩
theorem xk_104_11 : xk_OkA xp_F (xp_P sc) xp_cl xp_BW xp_NW xp_SW xp_exn 104 11 (.aload 0) := Or.inr ⟨0, rfl, xd_104_23, rfl⟩
theorem xk_104_12 : xk_OkA xp_F (xp_P sc) xp_cl xp_BW xp_NW xp_SW xp_exn 104 12 (.getfield 99) := ⟨_, xd_104_24, rfl, ⟨_, _, _, rfl, by decide, xu_3, Or.inl xwt_80⟩⟩
theorem xk_104_13 : xk_OkA xp_F (xp_P sc) xp_cl xp_BW xp_NW xp_SW xp_exn 104 13 (.getfield 35) := ⟨_, xd_104_27, rfl, ⟨_, _, _, rfl, by decide, xu_1, Or.inr ⟨_, xwn_67⟩⟩⟩
theorem xk_104_14 : xk_OkA xp_F (xp_P sc) xp_cl xp_BW xp_NW xp_SW xp_exn 104 14 (.aload 0) := Or.inr ⟨0, rfl, xd_104_30, rfl⟩
theorem xk_104_15 : xk_OkA xp_F (xp_P sc) xp_cl xp_BW xp_NW xp_SW xp_exn 104 15 (.getfield 96) := ⟨_, xd_104_31, rfl, ⟨_, _, _, rfl, by decide, xu_3, Or.inl xwt_77⟩⟩
theorem xk_104_16 : xk_OkA xp_F (xp_P sc) xp_cl xp_BW xp_NW xp_SW xp_exn 104 16 (.iload 1) := Or.inr ⟨1, rfl, xd_104_34, rfl⟩
theorem xk_104_17 : xk_OkA xp_F (xp_P sc) xp_cl xp_BW xp_NW xp_SW xp_exn 104 17 (.aload 0) := Or.inr ⟨0, rfl, xd_104_35, rfl⟩
theorem xk_104_18 : xk_OkA xp_F (xp_P sc) xp_cl xp_BW xp_NW xp_SW xp_exn 104 18 (.getfield 99) := ⟨_, xd_104_36, rfl, ⟨_, _, _, rfl, by decide, xu_3, Or.inl xwt_80⟩⟩
theorem xk_104_19 : xk_OkA xp_F (xp_P sc) xp_cl xp_BW xp_NW xp_SW xp_exn 104 19 (.getfield 35) := ⟨_, xd_104_39, rfl, ⟨_, _, _, rfl, by decide, xu_1, Or.inr ⟨_, xwn_67⟩⟩⟩
theorem xk_104_20 : xk_OkA xp_F (xp_P sc) xp_cl xp_BW xp_NW xp_SW xp_exn 104 20 (.invokeinterface 9 3) := ⟨rfl, Or.inl ⟨xwt_550, rfl⟩, rfl, rfl, xwt_2, by decide +kernel, by decide +kernel, Nat.le_of_ble_eq_true rfl, _, Or.inr ⟨_, xwn_547⟩, Or.inr ⟨xd_104_42, xwt_549, xws_54, ⟨_, _, _, rfl, rfl⟩, by decide +kernel⟩⟩
theorem xk_104_21 : xk_OkA xp_F (xp_P sc) xp_cl xp_BW xp_NW xp_SW xp_exn 104 21 (.invokeinterface 83 4) := ⟨rfl, Or.inl ⟨xwt_465, rfl⟩, rfl, rfl, xwt_1, by decide +kernel, by decide +kernel, Nat.le_of_ble_eq_true rfl, _, Or.inl xwt_462, Or.inr ⟨xd_104_45, xwt_464, xws_45, ⟨_, _, _, rfl, rfl⟩, by decide +kernel⟩⟩
theorem xk_104_22 : xk_OkA xp_F (xp_P sc) xp_cl xp_BW xp_NW xp_SW xp_exn 104 22 (.aload 0) := Or.inr ⟨0, rfl, xd_104_48, rfl⟩
theorem xk_104_23 : xk_OkA xp_F (xp_P sc) xp_cl xp_BW xp_NW xp_SW xp_exn 104 23 (.getfield 99) := ⟨_, xd_104_49, rfl, ⟨_, _, _, rfl, by decide, xu_3, Or.inl xwt_80⟩⟩
theorem xk_104_24 : xk_OkA xp_F (xp_P sc) xp_cl xp_BW xp_NW xp_SW xp_exn 104 24 (.dup) := ⟨xd_104_52, rfl⟩
theorem xk_104_25 : xk_OkA xp_F (xp_P sc) xp_cl xp_BW xp_NW xp_SW xp_exn 104 25 (.getfield 35) := ⟨_, xd_104_53, rfl, ⟨_, _, _, rfl, by decide, xu_1, Or.inr ⟨_, xwn_67⟩⟩⟩
theorem xk_104_26 : xk_OkA xp_F (xp_P sc) xp_cl xp_BW xp_NW xp_SW xp_exn 104 26 (.iconst 1) := Or.inl ⟨xd_104_56, rfl⟩
theorem xk_104_27 : xk_OkA xp_F (xp_P sc) xp_cl xp_BW xp_NW xp_SW xp_exn 104 27 (.iadd) := ⟨xd_104_57, rfl⟩
theorem xk_104_28 : xk_OkA xp_F (xp_P sc) xp_cl xp_BW xp_NW xp_SW xp_exn 104 28 (.putfield 35) := ⟨_, xd_104_58, rfl, ⟨_, _, _, rfl, by decide, xu_1, Or.inr ⟨_, xwn_67⟩⟩, xf_1_3⟩
theorem xk_104_29 : xk_OkA xp_F (xp_P sc) xp_cl xp_BW xp_NW xp_SW xp_exn 104 29 (.aload 0) := Or.inr ⟨0, rfl, xd_104_61, rfl⟩
theorem xk_104_30 : xk_OkA xp_F (xp_P sc) xp_cl xp_BW xp_NW xp_SW xp_exn 104 30 (.getfield 99) := ⟨_, xd_104_62, rfl, ⟨_, _, _, rfl, by decide, xu_3, Or.inl xwt_80⟩⟩
theorem xk_104_31 : xk_OkA xp_F (xp_P sc) xp_cl xp_BW xp_NW xp_SW xp_exn 104 31 (.getfield 35) := ⟨_, xd_104_65, rfl, ⟨_, _, _, rfl, by decide, xu_1, Or.inr ⟨_, xwn_67⟩⟩⟩
theorem xk_104_32 : xk_OkA xp_F (xp_P sc) xp_cl xp_BW xp_NW xp_SW xp_exn 104 32 (.iconst 4) := Or.inl ⟨xd_104_68, rfl⟩
theorem xk_104_33 : xk_OkA xp_F (xp_P sc) xp_cl xp_BW xp_NW xp_SW xp_exn 104 33 (.if_icmp .ne 50) := ⟨_, xd_104_69, by unfold xf_to; decide +kernel, rfl⟩
theorem xk_104_34 : xk_OkA xp_F (xp_P sc) xp_cl xp_BW xp_NW xp_SW xp_exn 104 34 (.aload 0) := Or.inr ⟨0, rfl, xd_104_72, rfl⟩
theorem xk_104_35 : xk_OkA xp_F (xp_P sc) xp_cl xp_BW xp_NW xp_SW xp_exn 104 35 (.invokeinterface 85 1) := ⟨rfl, Or.inl ⟨xwt_259, rfl⟩, rfl, rfl, xwt_1, by decide +kernel, by decide +kernel, Nat.le_of_ble_eq_true rfl, _, Or.inl xwt_256, Or.inr ⟨xd_104_73, xwt_258, xws_9, ⟨_, _, _, rfl, rfl⟩, by decide +kernel⟩⟩
theorem xk_104_36 : xk_OkA xp_F (xp_P sc) xp_cl xp_BW xp_NW xp_SW xp_exn 104 36 (.aload 0) := Or.inr ⟨0, rfl, xd_104_76, rfl⟩
theorem xk_104_37 : xk_OkA xp_F (xp_P sc) xp_cl xp_BW xp_NW xp_SW xp_exn 104 37 (.getfield 98) := ⟨_, xd_104_77, rfl, ⟨_, _, _, rfl, by decide, xu_3, Or.inl xwt_79⟩⟩
theorem xk_104_38 : xk_OkA xp_F (xp_P sc) xp_cl xp_BW xp_NW xp_SW xp_exn 104 38 (.aload 0) := Or.inr ⟨0, rfl, xd_104_80, rfl⟩
theorem xk_104_39 : xk_OkA xp_F (xp_P sc) xp_cl xp_BW xp_NW xp_SW xp_exn 104 39 (.getfield 99) := ⟨_, xd_104_81, rfl, ⟨_, _, _, rfl, by decide, xu_3, Or.inl xwt_80⟩⟩
theorem xk_104_40 : xk_OkA xp_F (xp_P sc) xp_cl xp_BW xp_NW xp_SW xp_exn 104 40 (.getfield 33) := ⟨_, xd_104_84, rfl, ⟨_, _, _, rfl, by decide, xu_1, Or.inr ⟨_, xwn_63⟩⟩⟩
theorem xk_104_41 : xk_OkA xp_F (xp_P sc) xp_cl xp_BW xp_NW xp_SW xp_exn 104 41 (.aload 0) := Or.inr ⟨0, rfl, xd_104_87, rfl⟩
theorem xk_104_42 : xk_OkA xp_F (xp_P sc) xp_cl xp_BW xp_NW xp_SW xp_exn 104 42 (.getfield 99) := ⟨_, xd_104_88, rfl, ⟨_, _, _, rfl, by decide, xu_3, Or.inl xwt_80⟩⟩
theorem xk_104_43 : xk_OkA xp_F (xp_P sc) xp_cl xp_BW xp_NW xp_SW xp_exn 104 43 (.getfield 34) := ⟨_, xd_104_91, rfl, ⟨_, _, _, rfl, by decide, xu_1, Or.inr ⟨_, xwn_65⟩⟩⟩
theorem xk_104_44 : xk_OkA xp_F (xp_P sc) xp_cl xp_BW xp_NW xp_SW xp_exn 104 44 (.invokeinterface 35 3) := ⟨rfl, Or.inl ⟨xwt_374, rfl⟩, rfl, rfl, xwt_3, by decide +kernel, by decide +kernel, Nat.le_of_ble_eq_true rfl, _, Or.inr ⟨_, xwn_457⟩, Or.inr ⟨xd_104_94, xwt_373, xws_29, ⟨_, _, _, rfl, rfl⟩, by decide +kernel⟩⟩
theorem xk_104_45 : xk_OkA xp_F (xp_P sc) xp_cl xp_BW xp_NW xp_SW xp_exn 104 45 (.aload 0) := Or.inr ⟨0, rfl, xd_104_97, rfl⟩
theorem xk_104_46 : xk_OkA xp_F (xp_P sc) xp_cl xp_BW xp_NW xp_SW xp_exn 104 46 (.invokeinterface 86 1) := ⟨rfl, Or.inl ⟨xwt_274, rfl⟩, rfl, rfl, xwt_1, by decide +kernel, by decide +kernel, Nat.le_of_ble_eq_true rfl, _, Or.inl xwt_271, Or.inr ⟨xd_104_98, xwt_273, xws_12, ⟨_, _, _, rfl, rfl⟩, by decide +kernel⟩⟩
theorem xk_104_47 : xk_OkA xp_F (xp_P sc) xp_cl xp_BW xp_NW xp_SW xp_exn 104 47 (.aload 0) := Or.inr ⟨0, rfl, xd_104_101, rfl⟩
theorem xk_104_48 : xk_OkA xp_F (xp_P sc) xp_cl xp_BW xp_NW xp_SW xp_exn 104 48 (.getfield 99) := ⟨_, xd_104_102, rfl, ⟨_, _, _, rfl, by decide, xu_3, Or.inl xwt_80⟩⟩
theorem xk_104_49 : xk_OkA xp_F (xp_P sc) xp_cl xp_BW xp_NW xp_SW xp_exn 104 49 (.invokeinterface 15 1) := ⟨rfl, Or.inl ⟨xwt_326, rfl⟩, rfl, rfl, xwt_4, by decide +kernel, by decide +kernel, Nat.le_of_ble_eq_true rfl, _, Or.inr ⟨_, xwn_323⟩, Or.inr ⟨xd_104_105, xwt_325, xws_23, ⟨_, _, _, rfl, rfl⟩, by decide +kernel⟩⟩
theorem xk_104_50 : xk_OkA xp_F (xp_P sc) xp_cl xp_BW xp_NW xp_SW xp_exn 104 50 (.return_) := ⟨xd_104_108, rfl⟩
theorem xl_104 : xk_OkL xp_F (xp_P sc) xp_cl xp_BW xp_NW xp_SW xp_exn 104 0 xc_104 := ⟨xk_104_0, xk_104_1, xk_104_2, xk_104_3, xk_104_4, xk_104_5, xk_104_6, xk_104_7, xk_104_8, xk_104_9, xk_104_10, xk_104_11, xk_104_12, xk_104_13, xk_104_14, xk_104_15, xk_104_16, xk_104_17, xk_104_18, xk_104_19, xk_104_20, xk_104_21, xk_104_22, xk_104_23, xk_104_24, xk_104_25, xk_104_26, xk_104_27, xk_104_28, xk_104_29, xk_104_30, xk_104_31, xk_104_32, xk_104_33, xk_104_34, xk_104_35, xk_104_36, xk_104_37, xk_104_38, xk_104_39, xk_104_40, xk_104_41, xk_104_42, xk_104_43, xk_104_44, xk_104_45, xk_104_46, xk_104_47, xk_104_48, xk_104_49, xk_104_50, trivial⟩
theorem xd_105_0 : decode prog_1_method_67_code 0 = .ok (.aload_n 0, 1) := by decide +kernel
theorem xd_105_1 : decode prog_1_method_67_code 1 = .ok (.getfield 12, 3) := by decide +kernel
theorem xd_105_4 : decode prog_1_method_67_code 4 = .ok (.invokevirtual 377, 3) := by decide +kernel
theorem xd_105_7 : decode prog_1_method_67_code 7 = .ok (.istore_n 1, 1) := by decide +kernel
theorem xd_105_8 : decode prog_1_method_67_code 8 = .ok (.iload_n 1, 1) := by decide +kernel
theorem xd_105_9 : decode prog_1_method_67_code 9 = .ok (.iconst (-1), 1) := by decide +kernel
theorem xd_105_10 : decode prog_1_method_67_code 10 = .ok (.if_icmp .ne 13, 3) := by decide +kernel
theorem xd_105_13 : decode prog_1_method_67_code 13 = .ok (.aload_n 0, 1) := by decide +kernel
theorem xd_105_14 : decode prog_1_method_67_code 14 = .ok (.getfield 19, 3) := by decide +kernel
theorem xd_105_17 : decode prog_1_method_67_code 17 = .ok (.invokevirtual 380, 3) := by decide +kernel
theorem xd_105_20 : decode prog_1_method_67_code 20 = .ok (.goto 18, 3) := by decide +kernel
theorem xd_105_23 : decode prog_1_method_67_code 23 = .ok (.aload_n 0, 1) := by decide +kernel
theorem xd_105_24 : decode prog_1_method_67_code 24 = .ok (.getfield 19, 3) := by decide +kernel
theorem xd_105_27 : decode prog_1_method_67_code 27 = .ok (.aload_n 0, 1) := by decide +kernel
theorem xd_105_28 : decode prog_1_method_67_code 28 = .ok (.getfield 12, 3) := by decide +kernel
theorem xd_105_31 : decode prog_1_method_67_code 31 = .ok (.getfield 383, 3) := by decide +kernel
theorem xd_105_34 : decode prog_1_method_67_code 34 = .ok (.iload_n 1, 1) := by decide +kernel
theorem xd_105_35 : decode prog_1_method_67_code 35 = .ok (.invokevirtual 319, 3) := by decide +kernel
theorem xd_105_38 : decode prog_1_method_67_code 38 = .ok (.return_, 1) := by decide +kernel
theorem xk_105_0 : xk_OkA xp_F (xp_P sc) xp_cl xp_BW xp_NW xp_SW xp_exn 105 0 (.aload 0) := Or.inr ⟨0, rfl, xd_105_0, rfl⟩
theorem xk_105_1 : xk_OkA xp_F (xp_P sc) xp_cl xp_BW xp_NW xp_SW xp_exn 105 1 (.getfield 96) := ⟨_, xd_105_1, rfl, ⟨_, _, _, rfl, by decide, xu_3, Or.inl xwt_77⟩⟩
theorem xk_105_2 : xk_OkA xp_F (xp_P sc) xp_cl xp_BW xp_NW xp_SW xp_exn 105 2 (.invokeinterface 8 1) := ⟨rfl, Or.inl ⟨xwt_723, rfl⟩, rfl, rfl, xwt_2, by decide +kernel, by decide +kernel, Nat.le_of_ble_eq_true rfl, _, Or.inr ⟨_, xwn_720⟩, Or.inr ⟨xd_105_4, xwt_722, xws_72, ⟨_, _, _, rfl, rfl⟩, by decide +kernel⟩⟩
theorem xk_105_3 : xk_OkA xp_F (xp_P sc) xp_cl xp_BW xp_NW xp_SW xp_exn 105 3 (.istore 1) := Or.inr ⟨1, rfl, xd_105_7, rfl⟩
theorem xk_105_4 : xk_OkA xp_F (xp_P sc) xp_cl xp_BW xp_NW xp_SW xp_exn 105 4 (.iload 1) := Or.inr ⟨1, rfl, xd_105_8, rfl⟩
theorem xk_105_5 : xk_OkA xp_F (xp_P sc) xp_cl xp_BW xp_NW xp_SW xp_exn 105 5 (.iconst (-1)) := Or.inl ⟨xd_105_9, rfl⟩
theorem xk_105_6 : xk_OkA xp_F (xp_P sc) xp_cl xp_BW xp_NW xp_SW xp_exn 105 6 (.if_icmp .ne 11) := ⟨_, xd_105_10, by unfold xf_to; decide +kernel, rfl⟩
theorem xk_105_7 : xk_OkA xp_F (xp_P sc) xp_cl xp_BW xp_NW xp_SW xp_exn 105 7 (.aload 0) := Or.inr ⟨0, rfl, xd_105_13, rfl⟩
theorem xk_105_8 : xk_OkA xp_F (xp_P sc) xp_cl xp_BW xp_NW xp_SW xp_exn 105 8 (.getfield 97) := ⟨_, xd_105_14, rfl, ⟨_, _, _, rfl, by decide, xu_3, Or.inl xwt_78⟩⟩
theorem xk_105_9 : xk_OkA xp_F (xp_P sc) xp_cl xp_BW xp_NW xp_SW xp_exn 105 9 (.invokeinterface 18 1) := ⟨rfl, Or.inl ⟨xwt_728, rfl⟩, rfl, rfl, xwt_3, by decide +kernel, by decide +kernel, Nat.le_of_ble_eq_true rfl, _, Or.inr ⟨_, xwn_725⟩, Or.inr ⟨xd_105_17, xwt_727, xws_73, ⟨_, _, _, rfl, rfl⟩, by decide +kernel⟩⟩
theorem xk_105_10 : xk_OkA xp_F (xp_P sc) xp_cl xp_BW xp_NW xp_SW xp_exn 105 10 (.goto 18) := ⟨_, xd_105_20, by unfold xf_to; decide +kernel⟩
theorem xk_105_11 : xk_OkA xp_F (xp_P sc) xp_cl xp_BW xp_NW xp_SW xp_exn 105 11 (.aload 0) := Or.inr ⟨0, rfl, xd_105_23, rfl⟩
theorem xk_105_12 : xk_OkA xp_F (xp_P sc) xp_cl xp_BW xp_NW xp_SW xp_exn 105 12 (.getfield 97) := ⟨_, xd_105_24, rfl, ⟨_, _, _, rfl, by decide, xu_3, Or.inl xwt_78⟩⟩
theorem xk_105_13 : xk_OkA xp_F (xp_P sc) xp_cl xp_BW xp_NW xp_SW xp_exn 105 13 (.aload 0) := Or.inr ⟨0, rfl, xd_105_27, rfl⟩
theorem xk_105_14 : xk_OkA xp_F (xp_P sc) xp_cl xp_BW xp_NW xp_SW xp_exn 105 14 (.getfield 96) := ⟨_, xd_105_28, rfl, ⟨_, _, _, rfl, by decide, xu_3, Or.inl xwt_77⟩⟩
theorem xk_105_15 : xk_OkA xp_F (xp_P sc) xp_cl xp_BW xp_NW xp_SW xp_exn 105 15 (.getfield 0) := ⟨_, xd_105_31, rfl, ⟨_, _, _, rfl, by decide, xu_0, Or.inr ⟨_, xwn_31⟩⟩⟩
theorem xk_105_16 : xk_OkA xp_F (xp_P sc) xp_cl xp_BW xp_NW xp_SW xp_exn 105 16 (.iload 1) := Or.inr ⟨1, rfl, xd_105_34, rfl⟩
theorem xk_105_17 : xk_OkA xp_F (xp_P sc) xp_cl xp_BW xp_NW xp_SW xp_exn 105 17 (.invokeinterface 17 3) := ⟨rfl, Or.inl ⟨xwt_263, rfl⟩, rfl, rfl, xwt_3, by decide +kernel, by decide +kernel, Nat.le_of_ble_eq_true rfl, _, Or.inr ⟨_, xwn_260⟩, Or.inr ⟨xd_105_35, xwt_262, xws_10, ⟨_, _, _, rfl, rfl⟩, by decide +kernel⟩⟩
theorem xk_105_18 : xk_OkA xp_F (xp_P sc) xp_cl xp_BW xp_NW xp_SW xp_exn 105 18 (.return_) := ⟨xd_105_38, rfl⟩
theorem xl_105 : xk_OkL xp_F (xp_P sc) xp_cl xp_BW xp_NW xp_SW xp_exn 105 0 xc_105 := ⟨xk_105_0, xk_105_1, xk_105_2, xk_105_3, xk_105_4, xk_105_5, xk_105_6, xk_105_7, xk_105_8, xk_105_9, xk_105_10, xk_105_11, xk_105_12, xk_105_13, xk_105_14, xk_105_15, xk_105_16, xk_105_17, xk_105_18, trivial⟩
theorem xd_106_0 : decode prog_1_method_68_code 0 = .ok (.aload_n 0, 1) := by decide +kernel
theorem xd_106_1 : decode prog_1_method_68_code 1 = .ok (.iload_n 1, 1) := by decide +kernel
theorem xd_106_2 : decode prog_1_method_68_code 2 = .ok (.invokevirtual 190, 3) := by decide +kernel
theorem xd_106_5 : decode prog_1_method_68_code 5 = .ok (.ifCond .eq 31, 3) := by decide +kernel
theorem xd_106_8 : decode prog_1_method_68_code 8 = .ok (.aload_n 0, 1) := by decide +kernel
theorem xd_106_9 : decode prog_1_method_68_code 9 = .ok (.iload_n 2, 1) := by decide +kernel
theorem xd_106_10 : decode prog_1_method_68_code 10 = .ok (.invokevirtual 190, 3) := by decide +kernel
theorem xd_106_13 : decode prog_1_method_68_code 13 = .ok (.ifCond .eq 23, 3) := by decide +kernel
theorem xd_106_16 : decode prog_1_method_68_code 16 = .ok (.aload_n 0, 1) := by decide +kernel
theorem xd_106_17 : decode prog_1_method_68_code 17 = .ok (.aload_n 0, 1) := by decide +kernel
theorem xd_106_18 : decode prog_1_method_68_code 18 = .ok (.getfield 19, 3) := by decide +kernel
theorem xd_106_21 : decode prog_1_method_68_code 21 = .ok (.iload_n 1, 1) := by decide +kernel
theorem xd_106_22 : decode prog_1_method_68_code 22 = .ok (.invokevirtual 199, 3) := by decide +kernel
theorem xd_106_25 : decode prog_1_method_68_code 25 = .ok (.aload_n 0, 1) := by decide +kernel
theorem xd_106_26 : decode prog_1_method_68_code 26 = .ok (.getfield 19, 3) := by decide +kernel
theorem xd_106_29 : decode prog_1_method_68_code 29 = .ok (.iload_n 2, 1) := by decide +kernel
theorem xd_106_30 : decode prog_1_method_68_code 30 = .ok (.invokevirtual 199, 3) := by decide +kernel
theorem xd_106_33 : decode prog_1_method_68_code 33 = .ok (.invokevirtual 371, 3) := by decide +kernel
theorem xd_106_36 : decode prog_1_method_68_code 36 = .ok (.return_, 1) := by decide +kernel
theorem xk_106_0 : xk_OkA xp_F (xp_P sc) xp_cl xp_BW xp_NW xp_SW xp_exn 106 0 (.aload 0) := Or.inr ⟨0, rfl, xd_106_0, rfl⟩
theorem xk_106_1 : xk_OkA xp_F (xp_P sc) xp_cl xp_BW xp_NW xp_SW xp_exn 106 1 (.iload 1) := Or.inr ⟨1, rfl, xd_106_1, rfl⟩
theorem xk_106_2 : xk_OkA xp_F (xp_P sc) xp_cl xp_BW xp_NW xp_SW xp_exn 106 2 (.invokeinterface 79 2) := ⟨rfl, Or.inl ⟨xwt_594, rfl⟩, rfl, rfl, xwt_1, by decide +kernel, by decide +kernel, Nat.le_of_ble_eq_true rfl, _, Or.inl xwt_591, Or.inr ⟨xd_106_2, xwt_593, xws_59, ⟨_, _, _, rfl, rfl⟩, by decide +kernel⟩⟩
theorem xk_106_3 : xk_OkA xp_F (xp_P sc) xp_cl xp_BW xp_NW xp_SW xp_exn 106 3 (.ifCond .eq 18) := ⟨_, xd_106_5, by unfold xf_to; decide +kernel, rfl⟩
theorem xk_106_4 : xk_OkA xp_F (xp_P sc) xp_cl xp_BW xp_NW xp_SW xp_exn 106 4 (.aload 0) := Or.inr ⟨0, rfl, xd_106_8, rfl⟩
theorem xk_106_5 : xk_OkA xp_F (xp_P sc) xp_cl xp_BW xp_NW xp_SW xp_exn 106 5 (.iload 2) := Or.inr ⟨2, rfl, xd_106_9, rfl⟩
theorem xk_106_6 : xk_OkA xp_F (xp_P sc) xp_cl xp_BW xp_NW xp_SW xp_exn 106 6 (.invokeinterface 79 2) := ⟨rfl, Or.inl ⟨xwt_594, rfl⟩, rfl, rfl, xwt_1, by decide +kernel, by decide +kernel, Nat.le_of_ble_eq_true rfl, _, Or.inl xwt_591, Or.inr ⟨xd_106_10, xwt_593, xws_59, ⟨_, _, _, rfl, rfl⟩, by decide +kernel⟩⟩
theorem xk_106_7 : xk_OkA xp_F (xp_P sc) xp_cl xp_BW xp_NW xp_SW xp_exn 106 7 (.ifCond .eq 18) := ⟨_, xd_106_13, by unfold xf_to; decide +kernel, rfl⟩
theorem xk_106_8 : xk_OkA xp_F (xp_P sc) xp_cl xp_BW xp_NW xp_SW xp_exn 106 8 (.aload 0) := Or.inr ⟨0, rfl, xd_106_16, rfl⟩
theorem xk_106_9 : xk_OkA xp_F (xp_P sc) xp_cl xp_BW xp_NW xp_SW xp_exn 106 9 (.aload 0) := Or.inr ⟨0, rfl, xd_106_17, rfl⟩
theorem xk_106_10 : xk_OkA xp_F (xp_P sc) xp_cl xp_BW xp_NW xp_SW xp_exn 106 10 (.getfield 97) := ⟨_, xd_106_18, rfl, ⟨_, _, _, rfl, by decide, xu_3, Or.inl xwt_78⟩⟩
theorem xk_106_11 : xk_OkA xp_F (xp_P sc) xp_cl xp_BW xp_NW xp_SW xp_exn 106 11 (.iload 1) := Or.inr ⟨1, rfl, xd_106_21, rfl⟩
theorem xk_106_12 : xk_OkA xp_F (xp_P sc) xp_cl xp_BW xp_NW xp_SW xp_exn 106 12 (.invokeinterface 34 2) := ⟨rfl, Or.inl ⟨xwt_322, rfl⟩, rfl, rfl, xwt_3, by decide +kernel, by decide +kernel, Nat.le_of_ble_eq_true rfl, _, Or.inr ⟨_, xwn_319⟩, Or.inr ⟨xd_106_22, xwt_321, xws_22, ⟨_, _, _, rfl, rfl⟩, by decide +kernel⟩⟩
theorem xk_106_13 : xk_OkA xp_F (xp_P sc) xp_cl xp_BW xp_NW xp_SW xp_exn 106 13 (.aload 0) := Or.inr ⟨0, rfl, xd_106_25, rfl⟩
theorem xk_106_14 : xk_OkA xp_F (xp_P sc) xp_cl xp_BW xp_NW xp_SW xp_exn 106 14 (.getfield 97) := ⟨_, xd_106_26, rfl, ⟨_, _, _, rfl, by decide, xu_3, Or.inl xwt_78⟩⟩
theorem xk_106_15 : xk_OkA xp_F (xp_P sc) xp_cl xp_BW xp_NW xp_SW xp_exn 106 15 (.iload 2) := Or.inr ⟨2, rfl, xd_106_29, rfl⟩
theorem xk_106_16 : xk_OkA xp_F (xp_P sc) xp_cl xp_BW xp_NW xp_SW xp_exn 106 16 (.invokeinterface 34 2) := ⟨rfl, Or.inl ⟨xwt_322, rfl⟩, rfl, rfl, xwt_3, by decide +kernel, by decide +kernel, Nat.le_of_ble_eq_true rfl, _, Or.inr ⟨_, xwn_319⟩, Or.inr ⟨xd_106_30, xwt_321, xws_22, ⟨_, _, _, rfl, rfl⟩, by decide +kernel⟩⟩
theorem xk_106_17 : xk_OkA xp_F (xp_P sc) xp_cl xp_BW xp_NW xp_SW xp_exn 106 17 (.invokeinterface 102 3) := ⟨rfl, Or.inl ⟨xwt_546, rfl⟩, rfl, rfl, xwt_1, by decide +kernel, by decide +kernel, Nat.le_of_ble_eq_true rfl, _, Or.inl xwt_543, Or.inr ⟨xd_106_33, xwt_545, xws_53, ⟨_, _, _, rfl, rfl⟩, by decide +kernel⟩⟩
theorem xk_106_18 : xk_OkA xp_F (xp_P sc) xp_cl xp_BW xp_NW xp_SW xp_exn 106 18 (.return_) := ⟨xd_106_36, rfl⟩
theorem xl_106 : xk_OkL xp_F (xp_P sc) xp_cl xp_BW xp_NW xp_SW xp_exn 106 0 xc_106 := ⟨xk_106_0, xk_106_1, xk_106_2, xk_106_3, xk_106_4, xk_106_5, xk_106_6, xk_106_7, xk_106_8, xk_106_9, xk_106_10, xk_106_11, xk_106_12, xk_106_13, xk_106_14, xk_106_15, xk_106_16, xk_106_17, xk_106_18, trivial⟩
end XkOk3
