/-! The instructions of the methods, one by one: written by wip/whole/gen_tables.py. -/
section XkOk2
variable {sc : Nat × (Nat → Int32)}
theorem xd_45_0 : decode prog_1_method_7_code 0 = .ok (.aload_n 0, 1) := by decide +kernel
theorem xd_45_1 : decode prog_1_method_7_code 1 = .ok (.invokevirtual 41, 3) := by decide +kernel
theorem xd_45_4 : decode prog_1_method_7_code 4 = .ok (.aload_n 0, 1) := by decide +kernel
theorem xd_45_5 : decode prog_1_method_7_code 5 = .ok (.iload_n 1, 1) := by decide +kernel
theorem xd_45_6 : decode prog_1_method_7_code 6 = .ok (.invokevirtual 140, 3) := by decide +kernel
theorem xd_45_9 : decode prog_1_method_7_code 9 = .ok (.aload_n 0, 1) := by decide +kernel
theorem xd_45_10 : decode prog_1_method_7_code 10 = .ok (.getfield 19, 3) := by decide +kernel
theorem xd_45_13 : decode prog_1_method_7_code 13 = .ok (.iload_n 1, 1) := by decide +kernel
theorem xd_45_14 : decode prog_1_method_7_code 14 = .ok (.invokevirtual 143, 3) := by decide +kernel
theorem xd_45_17 : decode prog_1_method_7_code 17 = .ok (.istore_n 3, 1) := by decide +kernel
theorem xd_45_18 : decode prog_1_method_7_code 18 = .ok (.iload_n 2, 1) := by decide +kernel
theorem xd_45_19 : decode prog_1_method_7_code 19 = .ok (.iload_n 3, 1) := by decide +kernel
theorem xd_45_20 : decode prog_1_method_7_code 20 = .ok (.if_icmp .ge 18, 3) := by decide +kernel
theorem xd_45_23 : decode prog_1_method_7_code 23 = .ok (.aload_n 0, 1) := by decide +kernel
theorem xd_45_24 : decode prog_1_method_7_code 24 = .ok (.getfield 19, 3) := by decide +kernel
theorem xd_45_27 : decode prog_1_method_7_code 27 = .ok (.iload_n 1, 1) := by decide +kernel
theorem xd_45_28 : decode prog_1_method_7_code 28 = .ok (.invokevirtual 146, 3) := by decide +kernel
theorem xd_45_31 : decode prog_1_method_7_code 31 = .ok (.iload_n 2, 1) := by decide +kernel
theorem xd_45_32 : decode prog_1_method_7_code 32 = .ok (.invokestatic 123, 3) := by decide +kernel
theorem xd_45_35 : decode prog_1_method_7_code 35 = .ok (.ifCond .ne 13, 3) := by decide +kernel
theorem xd_45_38 : decode prog_1_method_7_code 38 = .ok (.new 48, 3) := by decide +kernel
theorem xd_45_41 : decode prog_1_method_7_code 41 = .ok (.dup, 1) := by decide +kernel
theorem xd_45_42 : decode prog_1_method_7_code 42 = .ok (.ldc 149, 2) := by decide +kernel
theorem xd_45_44 : decode prog_1_method_7_code 44 = .ok (.invokespecial 52, 3) := by decide +kernel
theorem xd_45_47 : decode prog_1_method_7_code 47 = .ok (.athrow, 1) := by decide +kernel
theorem xd_45_48 : decode prog_1_method_7_code 48 = .ok (.aload_n 0, 1) := by decide +kernel
theorem xd_45_49 : decode prog_1_method_7_code 49 = .ok (.invokevirtual 67, 3) := by decide +kernel
theorem xd_45_52 : decode prog_1_method_7_code 52 = .ok (.aload_n 0, 1) := by decide +kernel
theorem xd_45_53 : decode prog_1_method_7_code 53 = .ok (.invokevirtual 73, 3) := by decide +kernel
theorem xd_45_56 : decode prog_1_method_7_code 56 = .ok (.aload_n 0, 1) := by decide +kernel
theorem xd_45_57 : decode prog_1_method_7_code 57 = .ok (.getfield 23, 3) := by decide +kernel
theorem xd_45_60 : decode prog_1_method_7_code 60 = .ok (.iload_n 1, 1) := by decide +kernel
theorem xd_45_61 : decode prog_1_method_7_code 61 = .ok (.aload_n 0, 1) := by decide +kernel
theorem xd_45_62 : decode prog_1_method_7_code 62 = .ok (.getfield 19, 3) := by decide +kernel
theorem xd_45_65 : decode prog_1_method_7_code 65 = .ok (.iload_n 1, 1) := by decide +kernel
theorem xd_45_66 : decode prog_1_method_7_code 66 = .ok (.invokevirtual 151, 3) := by decide +kernel
theorem xd_45_69 : decode prog_1_method_7_code 69 = .ok (.aload_n 0, 1) := by decide +kernel
theorem xd_45_70 : decode prog_1_method_7_code 70 = .ok (.getfield 19, 3) := by decide +kernel
theorem xd_45_73 : decode prog_1_method_7_code 73 = .ok (.iload_n 1, 1) := by decide +kernel
theorem xd_45_74 : decode prog_1_method_7_code 74 = .ok (.invokevirtual 146, 3) := by decide +kernel
theorem xd_45_77 : decode prog_1_method_7_code 77 = .ok (.iload_n 2, 1) := by decide +kernel
theorem xd_45_78 : decode prog_1_method_7_code 78 = .ok (.invokevirtual 133, 3) := by decide +kernel
theorem xd_45_81 : decode prog_1_method_7_code 81 = .ok (.aload_n 0, 1) := by decide +kernel
theorem xd_45_82 : decode prog_1_method_7_code 82 = .ok (.getfield 23, 3) := by decide +kernel
theorem xd_45_85 : decode prog_1_method_7_code 85 = .ok (.iload_n 1, 1) := by decide +kernel
theorem xd_45_86 : decode prog_1_method_7_code 86 = .ok (.iload_n 2, 1) := by decide +kernel
theorem xd_45_87 : decode prog_1_method_7_code 87 = .ok (.invokevirtual 154, 3) := by decide +kernel
theorem xd_45_90 : decode prog_1_method_7_code 90 = .ok (.aload_n 0, 1) := by decide +kernel
theorem xd_45_91 : decode prog_1_method_7_code 91 = .ok (.invokevirtual 80, 3) := by decide +kernel
theorem xd_45_94 : decode prog_1_method_7_code 94 = .ok (.iload_n 3, 1) := by decide +kernel
theorem xd_45_95 : decode prog_1_method_7_code 95 = .ok (.iload_n 2, 1) := by decide +kernel
theorem xd_45_96 : decode prog_1_method_7_code 96 = .ok (.isub, 1) := by decide +kernel
theorem xd_45_97 : decode prog_1_method_7_code 97 = .ok (.ireturn, 1) := by decide +kernel
theorem xk_45_0 : xk_OkA xp_F (xp_P sc) xp_cl xp_BW xp_NW xp_SW xp_exn 45 0 (.aload 0) := Or.inr ⟨0, rfl, xd_45_0, rfl⟩
theorem xk_45_1 : xk_OkA xp_F (xp_P sc) xp_cl xp_BW xp_NW xp_SW xp_exn 45 1 (.invokeinterface 62 1) := ⟨rfl, Or.inl ⟨xwt_121, rfl⟩, rfl, rfl, xwt_1, by decide +kernel, by decide +kernel, Nat.le_of_ble_eq_true rfl, _, Or.inl xwt_118, Or.inr ⟨xd_45_1, xwt_120, xws_1, ⟨_, _, _, rfl, rfl⟩, by decide +kernel⟩⟩
theorem xk_45_2 : xk_OkA xp_F (xp_P sc) xp_cl xp_BW xp_NW xp_SW xp_exn 45 2 (.aload 0) := Or.inr ⟨0, rfl, xd_45_4, rfl⟩
theorem xk_45_3 : xk_OkA xp_F (xp_P sc) xp_cl xp_BW xp_NW xp_SW xp_exn 45 3 (.iload 1) := Or.inr ⟨1, rfl, xd_45_5, rfl⟩
theorem xk_45_4 : xk_OkA xp_F (xp_P sc) xp_cl xp_BW xp_NW xp_SW xp_exn 45 4 (.invokeinterface 68 2) := ⟨rfl, Or.inl ⟨xwt_481, rfl⟩, rfl, rfl, xwt_1, by decide +kernel, by decide +kernel, Nat.le_of_ble_eq_true rfl, _, Or.inl xwt_478, Or.inr ⟨xd_45_6, xwt_480, xws_47, ⟨_, _, _, rfl, rfl⟩, by decide +kernel⟩⟩
theorem xk_45_5 : xk_OkA xp_F (xp_P sc) xp_cl xp_BW xp_NW xp_SW xp_exn 45 5 (.aload 0) := Or.inr ⟨0, rfl, xd_45_9, rfl⟩
theorem xk_45_6 : xk_OkA xp_F (xp_P sc) xp_cl xp_BW xp_NW xp_SW xp_exn 45 6 (.getfield 97) := ⟨_, xd_45_10, rfl, ⟨_, _, _, rfl, by decide, xu_3, Or.inl xwt_78⟩⟩
theorem xk_45_7 : xk_OkA xp_F (xp_P sc) xp_cl xp_BW xp_NW xp_SW xp_exn 45 7 (.iload 1) := Or.inr ⟨1, rfl, xd_45_13, rfl⟩
theorem xk_45_8 : xk_OkA xp_F (xp_P sc) xp_cl xp_BW xp_NW xp_SW xp_exn 45 8 (.invokeinterface 31 2) := ⟨rfl, Or.inl ⟨xwt_413, rfl⟩, rfl, rfl, xwt_3, by decide +kernel, by decide +kernel, Nat.le_of_ble_eq_true rfl, _, Or.inr ⟨_, xwn_410⟩, Or.inr ⟨xd_45_14, xwt_412, xws_35, ⟨_, _, _, rfl, rfl⟩, by decide +kernel⟩⟩
theorem xk_45_9 : xk_OkA xp_F (xp_P sc) xp_cl xp_BW xp_NW xp_SW xp_exn 45 9 (.istore 3) := Or.inr ⟨3, rfl, xd_45_17, rfl⟩
theorem xk_45_10 : xk_OkA xp_F (xp_P sc) xp_cl xp_BW xp_NW xp_SW xp_exn 45 10 (.iload 2) := Or.inr ⟨2, rfl, xd_45_18, rfl⟩
theorem xk_45_11 : xk_OkA xp_F (xp_P sc) xp_cl xp_BW xp_NW xp_SW xp_exn 45 11 (.iload 3) := Or.inr ⟨3, rfl, xd_45_19, rfl⟩
theorem xk_45_12 : xk_OkA xp_F (xp_P sc) xp_cl xp_BW xp_NW xp_SW xp_exn 45 12 (.if_icmp .ge 20) := ⟨_, xd_45_20, by unfold xf_to; decide +kernel, rfl⟩
theorem xk_45_13 : xk_OkA xp_F (xp_P sc) xp_cl xp_BW xp_NW xp_SW xp_exn 45 13 (.aload 0) := Or.inr ⟨0, rfl, xd_45_23, rfl⟩
theorem xk_45_14 : xk_OkA xp_F (xp_P sc) xp_cl xp_BW xp_NW xp_SW xp_exn 45 14 (.getfield 97) := ⟨_, xd_45_24, rfl, ⟨_, _, _, rfl, by decide, xu_3, Or.inl xwt_78⟩⟩
theorem xk_45_15 : xk_OkA xp_F (xp_P sc) xp_cl xp_BW xp_NW xp_SW xp_exn 45 15 (.iload 1) := Or.inr ⟨1, rfl, xd_45_27, rfl⟩
theorem xk_45_16 : xk_OkA xp_F (xp_P sc) xp_cl xp_BW xp_NW xp_SW xp_exn 45 16 (.invokeinterface 30 2) := ⟨rfl, Or.inl ⟨xwt_429, rfl⟩, rfl, rfl, xwt_3, by decide +kernel, by decide +kernel, Nat.le_of_ble_eq_true rfl, _, Or.inr ⟨_, xwn_426⟩, Or.inr ⟨xd_45_28, xwt_428, xws_39, ⟨_, _, _, rfl, rfl⟩, by decide +kernel⟩⟩
theorem xk_45_17 : xk_OkA xp_F (xp_P sc) xp_cl xp_BW xp_NW xp_SW xp_exn 45 17 (.iload 2) := Or.inr ⟨2, rfl, xd_45_31, rfl⟩
theorem xk_45_18 : xk_OkA xp_F (xp_P sc) xp_cl xp_BW xp_NW xp_SW xp_exn 45 18 (.invokeinterface 73 2) := ⟨rfl, Or.inl ⟨xwt_387, rfl⟩, rfl, rfl, xwt_1, by decide +kernel, by decide +kernel, Nat.le_of_ble_eq_true rfl, _, Or.inl xwt_385, Or.inl ⟨xd_45_32, xwt_386, rfl, by decide +kernel⟩⟩
theorem xk_45_19 : xk_OkA xp_F (xp_P sc) xp_cl xp_BW xp_NW xp_SW xp_exn 45 19 (.ifCond .ne 21) := ⟨_, xd_45_35, by unfold xf_to; decide +kernel, rfl⟩
theorem xk_45_20 : xk_OkA xp_F (xp_P sc) xp_cl xp_BW xp_NW xp_SW xp_exn 45 20 (.new 1) := ⟨48, 149, 52, _, xp_chain, xd_45_38, xd_45_41, List.mem_of_getElem? (i := 13) rfl, xwt_198, xwt_10, by decide +kernel, by decide +kernel, rfl, Or.inl ⟨xa_3_1, xo_3_1, by decide, by decide, Or.inl ⟨xd_45_42, xd_45_44, xd_45_47⟩⟩⟩
theorem xk_45_21 : xk_OkA xp_F (xp_P sc) xp_cl xp_BW xp_NW xp_SW xp_exn 45 21 (.aload 0) := Or.inr ⟨0, rfl, xd_45_48, rfl⟩
theorem xk_45_22 : xk_OkA xp_F (xp_P sc) xp_cl xp_BW xp_NW xp_SW xp_exn 45 22 (.invokeinterface 67 1) := ⟨rfl, Or.inl ⟨xwt_246, rfl⟩, rfl, rfl, xwt_1, by decide +kernel, by decide +kernel, Nat.le_of_ble_eq_true rfl, _, Or.inl xwt_243, Or.inr ⟨xd_45_49, xwt_245, xws_6, ⟨_, _, _, rfl, rfl⟩, by decide +kernel⟩⟩
theorem xk_45_23 : xk_OkA xp_F (xp_P sc) xp_cl xp_BW xp_NW xp_SW xp_exn 45 23 (.aload 0) := Or.inr ⟨0, rfl, xd_45_52, rfl⟩
theorem xk_45_24 : xk_OkA xp_F (xp_P sc) xp_cl xp_BW xp_NW xp_SW xp_exn 45 24 (.invokeinterface 85 1) := ⟨rfl, Or.inl ⟨xwt_259, rfl⟩, rfl, rfl, xwt_1, by decide +kernel, by decide +kernel, Nat.le_of_ble_eq_true rfl, _, Or.inl xwt_256, Or.inr ⟨xd_45_53, xwt_258, xws_9, ⟨_, _, _, rfl, rfl⟩, by decide +kernel⟩⟩
theorem xk_45_25 : xk_OkA xp_F (xp_P sc) xp_cl xp_BW xp_NW xp_SW xp_exn 45 25 (.aload 0) := Or.inr ⟨0, rfl, xd_45_56, rfl⟩
theorem xk_45_26 : xk_OkA xp_F (xp_P sc) xp_cl xp_BW xp_NW xp_SW xp_exn 45 26 (.getfield 98) := ⟨_, xd_45_57, rfl, ⟨_, _, _, rfl, by decide, xu_3, Or.inl xwt_79⟩⟩
theorem xk_45_27 : xk_OkA xp_F (xp_P sc) xp_cl xp_BW xp_NW xp_SW xp_exn 45 27 (.iload 1) := Or.inr ⟨1, rfl, xd_45_60, rfl⟩
theorem xk_45_28 : xk_OkA xp_F (xp_P sc) xp_cl xp_BW xp_NW xp_SW xp_exn 45 28 (.aload 0) := Or.inr ⟨0, rfl, xd_45_61, rfl⟩
theorem xk_45_29 : xk_OkA xp_F (xp_P sc) xp_cl xp_BW xp_NW xp_SW xp_exn 45 29 (.getfield 97) := ⟨_, xd_45_62, rfl, ⟨_, _, _, rfl, by decide, xu_3, Or.inl xwt_78⟩⟩
theorem xk_45_30 : xk_OkA xp_F (xp_P sc) xp_cl xp_BW xp_NW xp_SW xp_exn 45 30 (.iload 1) := Or.inr ⟨1, rfl, xd_45_65, rfl⟩
theorem xk_45_31 : xk_OkA xp_F (xp_P sc) xp_cl xp_BW xp_NW xp_SW xp_exn 45 31 (.invokeinterface 29 2) := ⟨rfl, Or.inl ⟨xwt_409, rfl⟩, rfl, rfl, xwt_3, by decide +kernel, by decide +kernel, Nat.le_of_ble_eq_true rfl, _, Or.inr ⟨_, xwn_406⟩, Or.inr ⟨xd_45_66, xwt_408, xws_34, ⟨_, _, _, rfl, rfl⟩, by decide +kernel⟩⟩
theorem xk_45_32 : xk_OkA xp_F (xp_P sc) xp_cl xp_BW xp_NW xp_SW xp_exn 45 32 (.aload 0) := Or.inr ⟨0, rfl, xd_45_69, rfl⟩
theorem xk_45_33 : xk_OkA xp_F (xp_P sc) xp_cl xp_BW xp_NW xp_SW xp_exn 45 33 (.getfield 97) := ⟨_, xd_45_70, rfl, ⟨_, _, _, rfl, by decide, xu_3, Or.inl xwt_78⟩⟩
theorem xk_45_34 : xk_OkA xp_F (xp_P sc) xp_cl xp_BW xp_NW xp_SW xp_exn 45 34 (.iload 1) := Or.inr ⟨1, rfl, xd_45_73, rfl⟩
theorem xk_45_35 : xk_OkA xp_F (xp_P sc) xp_cl xp_BW xp_NW xp_SW xp_exn 45 35 (.invokeinterface 30 2) := ⟨rfl, Or.inl ⟨xwt_429, rfl⟩, rfl, rfl, xwt_3, by decide +kernel, by decide +kernel, Nat.le_of_ble_eq_true rfl, _, Or.inr ⟨_, xwn_426⟩, Or.inr ⟨xd_45_74, xwt_428, xws_39, ⟨_, _, _, rfl, rfl⟩, by decide +kernel⟩⟩
theorem xk_45_36 : xk_OkA xp_F (xp_P sc) xp_cl xp_BW xp_NW xp_SW xp_exn 45 36 (.iload 2) := Or.inr ⟨2, rfl, xd_45_77, rfl⟩
theorem xk_45_37 : xk_OkA xp_F (xp_P sc) xp_cl xp_BW xp_NW xp_SW xp_exn 45 37 (.invokeinterface 28 5) := ⟨rfl, Or.inl ⟨xwt_401, rfl⟩, rfl, rfl, xwt_3, by decide +kernel, by decide +kernel, Nat.le_of_ble_eq_true rfl, _, Or.inr ⟨_, xwn_398⟩, Or.inr ⟨xd_45_78, xwt_400, xws_32, ⟨_, _, _, rfl, rfl⟩, by decide +kernel⟩⟩
theorem xk_45_38 : xk_OkA xp_F (xp_P sc) xp_cl xp_BW xp_NW xp_SW xp_exn 45 38 (.aload 0) := Or.inr ⟨0, rfl, xd_45_81, rfl⟩
theorem xk_45_39 : xk_OkA xp_F (xp_P sc) xp_cl xp_BW xp_NW xp_SW xp_exn 45 39 (.getfield 98) := ⟨_, xd_45_82, rfl, ⟨_, _, _, rfl, by decide, xu_3, Or.inl xwt_79⟩⟩
theorem xk_45_40 : xk_OkA xp_F (xp_P sc) xp_cl xp_BW xp_NW xp_SW xp_exn 45 40 (.iload 1) := Or.inr ⟨1, rfl, xd_45_85, rfl⟩
theorem xk_45_41 : xk_OkA xp_F (xp_P sc) xp_cl xp_BW xp_NW xp_SW xp_exn 45 41 (.iload 2) := Or.inr ⟨2, rfl, xd_45_86, rfl⟩
theorem xk_45_42 : xk_OkA xp_F (xp_P sc) xp_cl xp_BW xp_NW xp_SW xp_exn 45 42 (.invokeinterface 33 3) := ⟨rfl, Or.inl ⟨xwt_509, rfl⟩, rfl, rfl, xwt_3, by decide +kernel, by decide +kernel, Nat.le_of_ble_eq_true rfl, _, Or.inr ⟨_, xwn_506⟩, Or.inr ⟨xd_45_87, xwt_508, xws_48, ⟨_, _, _, rfl, rfl⟩, by decide +kernel⟩⟩
theorem xk_45_43 : xk_OkA xp_F (xp_P sc) xp_cl xp_BW xp_NW xp_SW xp_exn 45 43 (.aload 0) := Or.inr ⟨0, rfl, xd_45_90, rfl⟩
theorem xk_45_44 : xk_OkA xp_F (xp_P sc) xp_cl xp_BW xp_NW xp_SW xp_exn 45 44 (.invokeinterface 86 1) := ⟨rfl, Or.inl ⟨xwt_274, rfl⟩, rfl, rfl, xwt_1, by decide +kernel, by decide +kernel, Nat.le_of_ble_eq_true rfl, _, Or.inl xwt_271, Or.inr ⟨xd_45_91, xwt_273, xws_12, ⟨_, _, _, rfl, rfl⟩, by decide +kernel⟩⟩
theorem xk_45_45 : xk_OkA xp_F (xp_P sc) xp_cl xp_BW xp_NW xp_SW xp_exn 45 45 (.iload 3) := Or.inr ⟨3, rfl, xd_45_94, rfl⟩
theorem xk_45_46 : xk_OkA xp_F (xp_P sc) xp_cl xp_BW xp_NW xp_SW xp_exn 45 46 (.iload 2) := Or.inr ⟨2, rfl, xd_45_95, rfl⟩
theorem xk_45_47 : xk_OkA xp_F (xp_P sc) xp_cl xp_BW xp_NW xp_SW xp_exn 45 47 (.isub) := ⟨xd_45_96, rfl⟩
theorem xk_45_48 : xk_OkA xp_F (xp_P sc) xp_cl xp_BW xp_NW xp_SW xp_exn 45 48 (.ireturn) := ⟨xd_45_97, rfl⟩
theorem xl_45 : xk_OkL xp_F (xp_P sc) xp_cl xp_BW xp_NW xp_SW xp_exn 45 0 xc_45 := ⟨xk_45_0, xk_45_1, xk_45_2, xk_45_3, xk_45_4, xk_45_5, xk_45_6, xk_45_7, xk_45_8, xk_45_9, xk_45_10, xk_45_11, xk_45_12, xk_45_13, xk_45_14, xk_45_15, xk_45_16, xk_45_17, xk_45_18, xk_45_19, xk_45_20, xk_45_21, xk_45_22, xk_45_23, xk_45_24, xk_45_25, xk_45_26, xk_45_27, xk_45_28, xk_45_29, xk_45_30, xk_45_31, xk_45_32, xk_45_33, xk_45_34, xk_45_35, xk_45_36, xk_45_37, xk_45_38, xk_45_39, xk_45_40, xk_45_41, xk_45_42, xk_45_43, xk_45_44, xk_45_45, xk_45_46, xk_45_47, xk_45_48, trivial⟩
theorem xd_46_0 : decode prog_1_method_8_code 0 = .ok (.aload_n 0, 1) := by decide +kernel
theorem xd_46_1 : decode prog_1_method_8_code 1 = .ok (.invokevirtual 41, 3) := by decide +kernel
theorem xd_46_4 : decode prog_1_method_8_code 4 = .ok (.aload_n 0, 1) := by decide +kernel
theorem xd_46_5 : decode prog_1_method_8_code 5 = .ok (.iload_n 1, 1) := by decide +kernel
theorem xd_46_6 : decode prog_1_method_8_code 6 = .ok (.invokevirtual 140, 3) := by decide +kernel
theorem xd_46_9 : decode prog_1_method_8_code 9 = .ok (.aload_n 0, 1) := by decide +kernel
theorem xd_46_10 : decode prog_1_method_8_code 10 = .ok (.invokevirtual 67, 3) := by decide +kernel
theorem xd_46_13 : decode prog_1_method_8_code 13 = .ok (.aload_n 0, 1) := by decide +kernel
theorem xd_46_14 : decode prog_1_method_8_code 14 = .ok (.invokevirtual 73, 3) := by decide +kernel
theorem xd_46_17 : decode prog_1_method_8_code 17 = .ok (.aload_n 0, 1) := by decide +kernel
theorem xd_46_18 : decode prog_1_method_8_code 18 = .ok (.getfield 23, 3) := by decide +kernel
theorem xd_46_21 : decode prog_1_method_8_code 21 = .ok (.iload_n 1, 1) := by decide +kernel
theorem xd_46_22 : decode prog_1_method_8_code 22 = .ok (.invokevirtual 157, 3) := by decide +kernel
theorem xd_46_25 : decode prog_1_method_8_code 25 = .ok (.aload_n 0, 1) := by decide +kernel
theorem xd_46_26 : decode prog_1_method_8_code 26 = .ok (.invokevirtual 80, 3) := by decide +kernel
theorem xd_46_29 : decode prog_1_method_8_code 29 = .ok (.return_, 1) := by decide +kernel
theorem xk_46_0 : xk_OkA xp_F (xp_P sc) xp_cl xp_BW xp_NW xp_SW xp_exn 46 0 (.aload 0) := Or.inr ⟨0, rfl, xd_46_0, rfl⟩
theorem xk_46_1 : xk_OkA xp_F (xp_P sc) xp_cl xp_BW xp_NW xp_SW xp_exn 46 1 (.invokeinterface 62 1) := ⟨rfl, Or.inl ⟨xwt_121, rfl⟩, rfl, rfl, xwt_1, by decide +kernel, by decide +kernel, Nat.le_of_ble_eq_true rfl, _, Or.inl xwt_118, Or.inr ⟨xd_46_1, xwt_120, xws_1, ⟨_, _, _, rfl, rfl⟩, by decide +kernel⟩⟩
theorem xk_46_2 : xk_OkA xp_F (xp_P sc) xp_cl xp_BW xp_NW xp_SW xp_exn 46 2 (.aload 0) := Or.inr ⟨0, rfl, xd_46_4, rfl⟩
theorem xk_46_3 : xk_OkA xp_F (xp_P sc) xp_cl xp_BW xp_NW xp_SW xp_exn 46 3 (.iload 1) := Or.inr ⟨1, rfl, xd_46_5, rfl⟩
theorem xk_46_4 : xk_OkA xp_F (xp_P sc) xp_cl xp_BW xp_NW xp_SW xp_exn 46 4 (.invokeinterface 68 2) := ⟨rfl, Or.inl ⟨xwt_481, rfl⟩, rfl, rfl, xwt_1, by decide +kernel, by decide +kernel, Nat.le_of_ble_eq_true rfl, _, Or.inl xwt_478, Or.inr ⟨xd_46_6, xwt_480, xws_47, ⟨_, _, _, rfl, rfl⟩, by decide +kernel⟩⟩
theorem xk_46_5 : xk_OkA xp_F (xp_P sc) xp_cl xp_BW xp_NW xp_SW xp_exn 46 5 (.aload 0) := Or.inr ⟨0, rfl, xd_46_9, rfl⟩
theorem xk_46_6 : xk_OkA xp_F (xp_P sc) xp_cl xp_BW xp_NW xp_SW xp_exn 46 6 (.invokeinterface 67 1) := ⟨rfl, Or.inl ⟨xwt_246, rfl⟩, rfl, rfl, xwt_1, by decide +kernel, by decide +kernel, Nat.le_of_ble_eq_true rfl, _, Or.inl xwt_243, Or.inr ⟨xd_46_10, xwt_245, xws_6, ⟨_, _, _, rfl, rfl⟩, by decide +kernel⟩⟩
theorem xk_46_7 : xk_OkA xp_F (xp_P sc) xp_cl xp_BW xp_NW xp_SW xp_exn 46 7 (.aload 0) := Or.inr ⟨0, rfl, xd_46_13, rfl⟩
theorem xk_46_8 : xk_OkA xp_F (xp_P sc) xp_cl xp_BW xp_NW xp_SW xp_exn 46 8 (.invokeinterface 85 1) := ⟨rfl, Or.inl ⟨xwt_259, rfl⟩, rfl, rfl, xwt_1, by decide +kernel, by decide +kernel, Nat.le_of_ble_eq_true rfl, _, Or.inl xwt_256, Or.inr ⟨xd_46_14, xwt_258, xws_9, ⟨_, _, _, rfl, rfl⟩, by decide +kernel⟩⟩
theorem xk_46_9 : xk_OkA xp_F (xp_P sc) xp_cl xp_BW xp_NW xp_SW xp_exn 46 9 (.aload 0) := Or.inr ⟨0, rfl, xd_46_17, rfl⟩
theorem xk_46_10 : xk_OkA xp_F (xp_P sc) xp_cl xp_BW xp_NW xp_SW xp_exn 46 10 (.getfield 98) := ⟨_, xd_46_18, rfl, ⟨_, _, _, rfl, by decide, xu_3, Or.inl xwt_79⟩⟩
theorem xk_46_11 : xk_OkA xp_F (xp_P sc) xp_cl xp_BW xp_NW xp_SW xp_exn 46 11 (.iload 1) := Or.inr ⟨1, rfl, xd_46_21, rfl⟩
theorem xk_46_12 : xk_OkA xp_F (xp_P sc) xp_cl xp_BW xp_NW xp_SW xp_exn 46 12 (.invokeinterface 32 2) := ⟨rfl, Or.inl ⟨xwt_521, rfl⟩, rfl, rfl, xwt_3, by decide +kernel, by decide +kernel, Nat.le_of_ble_eq_true rfl, _, Or.inr ⟨_, xwn_518⟩, Or.inr ⟨xd_46_22, xwt_520, xws_49, ⟨_, _, _, rfl, rfl⟩, by decide +kernel⟩⟩
theorem xk_46_13 : xk_OkA xp_F (xp_P sc) xp_cl xp_BW xp_NW xp_SW xp_exn 46 13 (.aload 0) := Or.inr ⟨0, rfl, xd_46_25, rfl⟩
theorem xk_46_14 : xk_OkA xp_F (xp_P sc) xp_cl xp_BW xp_NW xp_SW xp_exn 46 14 (.invokeinterface 86 1) := ⟨rfl, Or.inl ⟨xwt_274, rfl⟩, rfl, rfl, xwt_1, by decide +kernel, by decide +kernel, Nat.le_of_ble_eq_true rfl, _, Or.inl xwt_271, Or.inr ⟨xd_46_26, xwt_273, xws_12, ⟨_, _, _, rfl, rfl⟩, by decide +kernel⟩⟩
theorem xk_46_15 : xk_OkA xp_F (xp_P sc) xp_cl xp_BW xp_NW xp_SW xp_exn 46 15 (.return_) := ⟨xd_46_29, rfl⟩
theorem xl_46 : xk_OkL xp_F (xp_P sc) xp_cl xp_BW xp_NW xp_SW xp_exn 46 0 xc_46 := ⟨xk_46_0, xk_46_1, xk_46_2, xk_46_3, xk_46_4, xk_46_5, xk_46_6, xk_46_7, xk_46_8, xk_46_9, xk_46_10, xk_46_11, xk_46_12, xk_46_13, xk_46_14, xk_46_15, trivial⟩
theorem xd_47_0 : decode prog_1_method_9_code 0 = .ok (.aload_n 0, 1) := by decide +kernel
theorem xd_47_1 : decode prog_1_method_9_code 1 = .ok (.invokevirtual 41, 3) := by decide +kernel
theorem xd_47_4 : decode prog_1_method_9_code 4 = .ok (.aload_n 0, 1) := by decide +kernel
theorem xd_47_5 : decode prog_1_method_9_code 5 = .ok (.iload_n 1, 1) := by decide +kernel
theorem xd_47_6 : decode prog_1_method_9_code 6 = .ok (.invokevirtual 140, 3) := by decide +kernel
theorem xd_47_9 : decode prog_1_method_9_code 9 = .ok (.aload_n 0, 1) := by decide +kernel
theorem xd_47_10 : decode prog_1_method_9_code 10 = .ok (.getfield 19, 3) := by decide +kernel
theorem xd_47_13 : decode prog_1_method_9_code 13 = .ok (.iload_n 1, 1) := by decide +kernel
theorem xd_47_14 : decode prog_1_method_9_code 14 = .ok (.invokevirtual 151, 3) := by decide +kernel
theorem xd_47_17 : decode prog_1_method_9_code 17 = .ok (.iconst 2, 1) := by decide +kernel
theorem xd_47_18 : decode prog_1_method_9_code 18 = .ok (.if_icmp .eq 13, 3) := by decide +kernel
theorem xd_47_21 : decode prog_1_method_9_code 21 = .ok (.new 48, 3) := by decide +kernel
theorem xd_47_24 : decode prog_1_method_9_code 24 = .ok (.dup, 1) := by decide +kernel
theorem xd_47_25 : decode prog_1_method_9_code 25 = .ok (.ldc 160, 2) := by decide +kernel
theorem xd_47_27 : decode prog_1_method_9_code 27 = .ok (.invokespecial 52, 3) := by decide +kernel
theorem xd_47_30 : decode prog_1_method_9_code 30 = .ok (.athrow, 1) := by decide +kernel
theorem xd_47_31 : decode prog_1_method_9_code 31 = .ok (.aload_n 0, 1) := by decide +kernel
theorem xd_47_32 : decode prog_1_method_9_code 32 = .ok (.invokevirtual 67, 3) := by decide +kernel
theorem xd_47_35 : decode prog_1_method_9_code 35 = .ok (.aload_n 0, 1) := by decide +kernel
theorem xd_47_36 : decode prog_1_method_9_code 36 = .ok (.invokevirtual 73, 3) := by decide +kernel
theorem xd_47_39 : decode prog_1_method_9_code 39 = .ok (.aload_n 0, 1) := by decide +kernel
theorem xd_47_40 : decode prog_1_method_9_code 40 = .ok (.iload_n 1, 1) := by decide +kernel
theorem xd_47_41 : decode prog_1_method_9_code 41 = .ok (.invokevirtual 162, 3) := by decide +kernel
theorem xd_47_44 : decode prog_1_method_9_code 44 = .ok (.istore_n 2, 1) := by decide +kernel
theorem xd_47_45 : decode prog_1_method_9_code 45 = .ok (.iload_n 2, 1) := by decide +kernel
theorem xd_47_46 : decode prog_1_method_9_code 46 = .ok (.ifCond .le 12, 3) := by decide +kernel
theorem xd_47_49 : decode prog_1_method_9_code 49 = .ok (.aload_n 0, 1) := by decide +kernel
theorem xd_47_50 : decode prog_1_method_9_code 50 = .ok (.iload_n 1, 1) := by decide +kernel
theorem xd_47_51 : decode prog_1_method_9_code 51 = .ok (.invokevirtual 165, 3) := by decide +kernel
theorem xd_47_54 : decode prog_1_method_9_code 54 = .ok (.aload_n 0, 1) := by decide +kernel
theorem xd_47_55 : decode prog_1_method_9_code 55 = .ok (.invokevirtual 80, 3) := by decide +kernel
theorem xd_47_58 : decode prog_1_method_9_code 58 = .ok (.iload_n 2, 1) := by decide +kernel
theorem xd_47_59 : decode prog_1_method_9_code 59 = .ok (.ireturn, 1) := by decide +kernel
theorem xk_47_0 : xk_OkA xp_F (xp_P sc) xp_cl xp_BW xp_NW xp_SW xp_exn 47 0 (.aload 0) := Or.inr ⟨0, rfl, xd_47_0, rfl⟩
theorem xk_47_1 : xk_OkA xp_F (xp_P sc) xp_cl xp_BW xp_NW xp_SW xp_exn 47 1 (.invokeinterface 62 1) := ⟨rfl, Or.inl ⟨xwt_121, rfl⟩, rfl, rfl, xwt_1, by decide +kernel, by decide +kernel, Nat.le_of_ble_eq_true rfl, _, Or.inl xwt_118, Or.inr ⟨xd_47_1, xwt_120, xws_1, ⟨_, _, _, rfl, rfl⟩, by decide +kernel⟩⟩
theorem xk_47_2 : xk_OkA xp_F (xp_P sc) xp_cl xp_BW xp_NW xp_SW xp_exn 47 2 (.aload 0) := Or.inr ⟨0, rfl, xd_47_4, rfl⟩
theorem xk_47_3 : xk_OkA xp_F (xp_P sc) xp_cl xp_BW xp_NW xp_SW xp_exn 47 3 (.iload 1) := Or.inr ⟨1, rfl, xd_47_5, rfl⟩
theorem xk_47_4 : xk_OkA xp_F (xp_P sc) xp_cl xp_BW xp_NW xp_SW xp_exn 47 4 (.invokeinterface 68 2) := ⟨rfl, Or.inl ⟨xwt_481, rfl⟩, rfl, rfl, xwt_1, by decide +kernel, by decide +kernel, Nat.le_of_ble_eq_true rfl, _, Or.inl xwt_478, Or.inr ⟨xd_47_6, xwt_480, xws_47, ⟨_, _, _, rfl, rfl⟩, by decide +kernel⟩⟩
theorem xk_47_5 : xk_OkA xp_F (xp_P sc) xp_cl xp_BW xp_NW xp_SW xp_exn 47 5 (.aload 0) := Or.inr ⟨0, rfl, xd_47_9, rfl⟩
theorem xk_47_6 : xk_OkA xp_F (xp_P sc) xp_cl xp_BW xp_NW xp_SW xp_exn 47 6 (.getfield 97) := ⟨_, xd_47_10, rfl, ⟨_, _, _, rfl, by decide, xu_3, Or.inl xwt_78⟩⟩
theorem xk_47_7 : xk_OkA xp_F (xp_P sc) xp_cl xp_BW xp_NW xp_SW xp_exn 47 7 (.iload 1) := Or.inr ⟨1, rfl, xd_47_13, rfl⟩
theorem xk_47_8 : xk_OkA xp_F (xp_P sc) xp_cl xp_BW xp_NW xp_SW xp_exn 47 8 (.invokeinterface 29 2) := ⟨rfl, Or.inl ⟨xwt_409, rfl⟩, rfl, rfl, xwt_3, by decide +kernel, by decide +kernel, Nat.le_of_ble_eq_true rfl, _, Or.inr ⟨_, xwn_406⟩, Or.inr ⟨xd_47_14, xwt_408, xws_34, ⟨_, _, _, rfl, rfl⟩, by decide +kernel⟩⟩
theorem xk_47_9 : xk_OkA xp_F (xp_P sc) xp_cl xp_BW xp_NW xp_SW xp_exn 47 9 (.iconst 2) := Or.inl ⟨xd_47_17, rfl⟩
theorem xk_47_10 : xk_OkA xp_F (xp_P sc) xp_cl xp_BW xp_NW xp_SW xp_exn 47 10 (.if_icmp .eq 12) := ⟨_, xd_47_18, by unfold xf_to; decide +kernel, rfl⟩
theorem xk_47_11 : xk_OkA xp_F (xp_P sc) xp_cl xp_BW xp_NW xp_SW xp_exn 47 11 (.new 1) := ⟨48, 160, 52, _, xp_chain, xd_47_21, xd_47_24, List.mem_of_getElem? (i := 14) rfl, xwt_198, xwt_10, by decide +kernel, by decide +kernel, rfl, Or.inl ⟨xa_3_1, xo_3_1, by decide, by decide, Or.inl ⟨xd_47_25, xd_47_27, xd_47_30⟩⟩⟩
theorem xk_47_12 : xk_OkA xp_F (xp_P sc) xp_cl xp_BW xp_NW xp_SW xp_exn 47 12 (.aload 0) := Or.inr ⟨0, rfl, xd_47_31, rfl⟩
theorem xk_47_13 : xk_OkA xp_F (xp_P sc) xp_cl xp_BW xp_NW xp_SW xp_exn 47 13 (.invokeinterface 67 1) := ⟨rfl, Or.inl ⟨xwt_246, rfl⟩, rfl, rfl, xwt_1, by decide +kernel, by decide +kernel, Nat.le_of_ble_eq_true rfl, _, Or.inl xwt_243, Or.inr ⟨xd_47_32, xwt_245, xws_6, ⟨_, _, _, rfl, rfl⟩, by decide +kernel⟩⟩
theorem xk_47_14 : xk_OkA xp_F (xp_P sc) xp_cl xp_BW xp_NW xp_SW xp_exn 47 14 (.aload 0) := Or.inr ⟨0, rfl, xd_47_35, rfl⟩
theorem xk_47_15 : xk_OkA xp_F (xp_P sc) xp_cl xp_BW xp_NW xp_SW xp_exn 47 15 (.invokeinterface 85 1) := ⟨rfl, Or.inl ⟨xwt_259, rfl⟩, rfl, rfl, xwt_1, by decide +kernel, by decide +kernel, Nat.le_of_ble_eq_true rfl, _, Or.inl xwt_256, Or.inr ⟨xd_47_36, xwt_258, xws_9, ⟨_, _, _, rfl, rfl⟩, by decide +kernel⟩⟩
theorem xk_47_16 : xk_OkA xp_F (xp_P sc) xp_cl xp_BW xp_NW xp_SW xp_exn 47 16 (.aload 0) := Or.inr ⟨0, rfl, xd_47_39, rfl⟩
theorem xk_47_17 : xk_OkA xp_F (xp_P sc) xp_cl xp_BW xp_NW xp_SW xp_exn 47 17 (.iload 1) := Or.inr ⟨1, rfl, xd_47_40, rfl⟩
theorem xk_47_18 : xk_OkA xp_F (xp_P sc) xp_cl xp_BW xp_NW xp_SW xp_exn 47 18 (.invokeinterface 99 2) := ⟨rfl, Or.inl ⟨xwt_534, rfl⟩, rfl, rfl, xwt_1, by decide +kernel, by decide +kernel, Nat.le_of_ble_eq_true rfl, _, Or.inl xwt_531, Or.inr ⟨xd_47_41, xwt_533, xws_50, ⟨_, _, _, rfl, rfl⟩, by decide +kernel⟩⟩
theorem xk_47_19 : xk_OkA xp_F (xp_P sc) xp_cl xp_BW xp_NW xp_SW xp_exn 47 19 (.istore 2) := Or.inr ⟨2, rfl, xd_47_44, rfl⟩
theorem xk_47_20 : xk_OkA xp_F (xp_P sc) xp_cl xp_BW xp_NW xp_SW xp_exn 47 20 (.iload 2) := Or.inr ⟨2, rfl, xd_47_45, rfl⟩
theorem xk_47_21 : xk_OkA xp_F (xp_P sc) xp_cl xp_BW xp_NW xp_SW xp_exn 47 21 (.ifCond .le 27) := ⟨_, xd_47_46, by unfold xf_to; decide +kernel, rfl⟩
theorem xk_47_22 : xk_OkA xp_F (xp_P sc) xp_cl xp_BW xp_NW xp_SW xp_exn 47 22 (.aload 0) := Or.inr ⟨0, rfl, xd_47_49, rfl⟩
theorem xk_47_23 : xk_OkA xp_F (xp_P sc) xp_cl xp_BW xp_NW xp_SW xp_exn 47 23 (.iload 1) := Or.inr ⟨1, rfl, xd_47_50, rfl⟩
theorem xk_47_24 : xk_OkA xp_F (xp_P sc) xp_cl xp_BW xp_NW xp_SW xp_exn 47 24 (.invokeinterface 101 2) := ⟨rfl, Or.inl ⟨xwt_542, rfl⟩, rfl, rfl, xwt_1, by decide +kernel, by decide +kernel, Nat.le_of_ble_eq_true rfl, _, Or.inl xwt_539, Or.inr ⟨xd_47_51, xwt_541, xws_52, ⟨_, _, _, rfl, rfl⟩, by decide +kernel⟩⟩
theorem xk_47_25 : xk_OkA xp_F (xp_P sc) xp_cl xp_BW xp_NW xp_SW xp_exn 47 25 (.aload 0) := Or.inr ⟨0, rfl, xd_47_54, rfl⟩
theorem xk_47_26 : xk_OkA xp_F (xp_P sc) xp_cl xp_BW xp_NW xp_SW xp_exn 47 26 (.invokeinterface 86 1) := ⟨rfl, Or.inl ⟨xwt_274, rfl⟩, rfl, rfl, xwt_1, by decide +kernel, by decide +kernel, Nat.le_of_ble_eq_true rfl, _, Or.inl xwt_271, Or.inr ⟨xd_47_55, xwt_273, xws_12, ⟨_, _, _, rfl, rfl⟩, by decide +kernel⟩⟩
theorem xk_47_27 : xk_OkA xp_F (xp_P sc) xp_cl xp_BW xp_NW xp_SW xp_exn 47 27 (.iload 2) := Or.inr ⟨2, rfl, xd_47_58, rfl⟩
theorem xk_47_28 : xk_OkA xp_F (xp_P sc) xp_cl xp_BW xp_NW xp_SW xp_exn 47 28 (.ireturn) := ⟨xd_47_59, rfl⟩
theorem xl_47 : xk_OkL xp_F (xp_P sc) xp_cl xp_BW xp_NW xp_SW xp_exn 47 0 xc_47 := ⟨xk_47_0, xk_47_1, xk_47_2, xk_47_3, xk_47_4, xk_47_5, xk_47_6, xk_47_7, xk_47_8, xk_47_9, xk_47_10, xk_47_11, xk_47_12, xk_47_13, xk_47_14, xk_47_15, xk_47_16, xk_47_17, xk_47_18, xk_47_19, xk_47_20, xk_47_21, xk_47_22, xk_47_23, xk_47_24, xk_47_25, xk_47_26, xk_47_27, xk_47_28, trivial⟩
theorem xd_48_0 : decode prog_1_method_10_code 0 = .ok (.aload_n 0, 1) := by decide +kernel
theorem xd_48_1 : decode prog_1_method_10_code 1 = .ok (.invokevirtual 41, 3) := by decide +kernel
theorem xd_48_4 : decode prog_1_method_10_code 4 = .ok (.aload_n 0, 1) := by decide +kernel
theorem xd_48_5 : decode prog_1_method_10_code 5 = .ok (.iload_n 1, 1) := by decide +kernel
theorem xd_48_6 : decode prog_1_method_10_code 6 = .ok (.invokevirtual 140, 3) := by decide +kernel
theorem xd_48_9 : decode prog_1_method_10_code 9 = .ok (.aload_n 0, 1) := by decide +kernel
theorem xd_48_10 : decode prog_1_method_10_code 10 = .ok (.iload_n 1, 1) := by decide +kernel
theorem xd_48_11 : decode prog_1_method_10_code 11 = .ok (.iload_n 2, 1) := by decide +kernel
theorem xd_48_12 : decode prog_1_method_10_code 12 = .ok (.invokevirtual 168, 3) := by decide +kernel
theorem xd_48_15 : decode prog_1_method_10_code 15 = .ok (.aload_n 0, 1) := by decide +kernel
theorem xd_48_16 : decode prog_1_method_10_code 16 = .ok (.iload_n 1, 1) := by decide +kernel
theorem xd_48_17 : decode prog_1_method_10_code 17 = .ok (.iload_n 2, 1) := by decide +kernel
theorem xd_48_18 : decode prog_1_method_10_code 18 = .ok (.invokevirtual 171, 3) := by decide +kernel
theorem xd_48_21 : decode prog_1_method_10_code 21 = .ok (.istore 4, 2) := by decide +kernel
theorem xd_48_23 : decode prog_1_method_10_code 23 = .ok (.aload_n 0, 1) := by decide +kernel
theorem xd_48_24 : decode prog_1_method_10_code 24 = .ok (.iload_n 1, 1) := by decide +kernel
theorem xd_48_25 : decode prog_1_method_10_code 25 = .ok (.iload 4, 2) := by decide +kernel
theorem xd_48_27 : decode prog_1_method_10_code 27 = .ok (.invokevirtual 175, 3) := by decide +kernel
theorem xd_48_30 : decode prog_1_method_10_code 30 = .ok (.iconst (-1), 1) := by decide +kernel
theorem xd_48_31 : decode prog_1_method_10_code 31 = .ok (.if_icmp .ne 13, 3) := by decide +kernel
theorem xd_48_34 : decode prog_1_method_10_code 34 = .ok (.new 62, 3) := by decide +kernel
theorem xd_48_37 : decode prog_1_method_10_code 37 = .ok (.dup, 1) := by decide +kernel
theorem xd_48_38 : decode prog_1_method_10_code 38 = .ok (.ldc 178, 2) := by decide +kernel
theorem xd_48_40 : decode prog_1_method_10_code 40 = .ok (.invokespecial 66, 3) := by decide +kernel
theorem xd_48_43 : decode prog_1_method_10_code 43 = .ok (.athrow, 1) := by decide +kernel
theorem xd_48_44 : decode prog_1_method_10_code 44 = .ok (.aload_n 0, 1) := by decide +kernel
theorem xd_48_45 : decode prog_1_method_10_code 45 = .ok (.iload_n 1, 1) := by decide +kernel
theorem xd_48_46 : decode prog_1_method_10_code 46 = .ok (.iload 4, 2) := by decide +kernel
theorem xd_48_48 : decode prog_1_method_10_code 48 = .ok (.invokevirtual 180, 3) := by decide +kernel
theorem xd_48_51 : decode prog_1_method_10_code 51 = .ok (.aload_n 0, 1) := by decide +kernel
theorem xd_48_52 : decode prog_1_method_10_code 52 = .ok (.iload_n 1, 1) := by decide +kernel
theorem xd_48_53 : decode prog_1_method_10_code 53 = .ok (.iload_n 2, 1) := by decide +kernel
theorem xd_48_54 : decode prog_1_method_10_code 54 = .ok (.invokevirtual 183, 3) := by decide +kernel
theorem xd_48_57 : decode prog_1_method_10_code 57 = .ok (.istore 5, 2) := by decide +kernel
theorem xd_48_59 : decode prog_1_method_10_code 59 = .ok (.iconst 0, 1) := by decide +kernel
theorem xd_48_60 : decode prog_1_method_10_code 60 = .ok (.istore 6, 2) := by decide +kernel
theorem xd_48_62 : decode prog_1_method_10_code 62 = .ok (.iconst 0, 1) := by decide +kernel
theorem xd_48_63 : decode prog_1_method_10_code 63 = .ok (.istore 7, 2) := by decide +kernel
theorem xd_48_65 : decode prog_1_method_10_code 65 = .ok (.iload 7, 2) := by decide +kernel
theorem xd_48_67 : decode prog_1_method_10_code 67 = .ok (.iconst 2, 1) := by decide +kernel
theorem xd_48_68 : decode prog_1_method_10_code 68 = .ok (.if_icmp .ge 40, 3) := by decide +kernel
theorem xd_48_71 : decode prog_1_method_10_code 71 = .ok (.iload_n 1, 1) := by decide +kernel
theorem xd_48_72 : decode prog_1_method_10_code 72 = .ok (.iload 4, 2) := by decide +kernel
theorem xd_48_74 : decode prog_1_method_10_code 74 = .ok (.iload 7, 2) := by decide +kernel
theorem xd_48_76 : decode prog_1_method_10_code 76 = .ok (.invokestatic 186, 3) := by decide +kernel
theorem xd_48_79 : decode prog_1_method_10_code 79 = .ok (.istore 8, 2) := by decide +kernel
theorem xd_48_81 : decode prog_1_method_10_code 81 = .ok (.aload_n 0, 1) := by decide +kernel
theorem xd_48_82 : decode prog_1_method_10_code 82 = .ok (.iload 8, 2) := by decide +kernel
theorem xd_48_84 : decode prog_1_method_10_code 84 = .ok (.invokevirtual 190, 3) := by decide +kernel
theorem xd_48_87 : decode prog_1_method_10_code 87 = .ok (.ifCond .eq 15, 3) := by decide +kernel
theorem xd_48_90 : decode prog_1_method_10_code 90 = .ok (.aload_n 0, 1) := by decide +kernel
theorem xd_48_91 : decode prog_1_method_10_code 91 = .ok (.iload 8, 2) := by decide +kernel
theorem xd_48_93 : decode prog_1_method_10_code 93 = .ok (.iload 5, 2) := by decide +kernel
theorem xd_48_95 : decode prog_1_method_10_code 95 = .ok (.iload_n 3, 1) := by decide +kernel
theorem xd_48_96 : decode prog_1_method_10_code 96 = .ok (.invokevirtual 193, 3) := by decide +kernel
theorem xd_48_99 : decode prog_1_method_10_code 99 = .ok (.iinc 6 (1), 3) := by decide +kernel
theorem xd_48_102 : decode prog_1_method_10_code 102 = .ok (.iinc 7 (1), 3) := by decide +kernel
theorem xd_48_105 : decode prog_1_method_10_code 105 = .ok (.goto (-40), 3) := by decide +kernel
theorem xd_48_108 : decode prog_1_method_10_code 108 = .ok (.iload 6, 2) := by decide +kernel
theorem xd_48_110 : decode prog_1_method_10_code 110 = .ok (.ireturn, 1) := by decide +kernel
theorem xk_48_0 : xk_OkA xp_F (xp_P sc) xp_cl xp_BW xp_NW xp_SW xp_exn 48 0 (.aload 0) := Or.inr ⟨0, rfl, xd_48_0, rfl⟩
theorem xk_48_1 : xk_OkA xp_F (xp_P sc) xp_cl xp_BW xp_NW xp_SW xp_exn 48 1 (.invokeinterface 62 1) := ⟨rfl, Or.inl ⟨xwt_121, rfl⟩, rfl, rfl, xwt_1, by decide +kernel, by decide +kernel, Nat.le_of_ble_eq_true rfl, _, Or.inl xwt_118, Or.inr ⟨xd_48_1, xwt_120, xws_1, ⟨_, _, _, rfl, rfl⟩, by decide +kernel⟩⟩
theorem xk_48_2 : xk_OkA xp_F (xp_P sc) xp_cl xp_BW xp_NW xp_SW xp_exn 48 2 (.aload 0) := Or.inr ⟨0, rfl, xd_48_4, rfl⟩
theorem xk_48_3 : xk_OkA xp_F (xp_P sc) xp_cl xp_BW xp_NW xp_SW xp_exn 48 3 (.iload 1) := Or.inr ⟨1, rfl, xd_48_5, rfl⟩
theorem xk_48_4 : xk_OkA xp_F (xp_P sc) xp_cl xp_BW xp_NW xp_SW xp_exn 48 4 (.invokeinterface 68 2) := ⟨rfl, Or.inl ⟨xwt_481, rfl⟩, rfl, rfl, xwt_1, by decide +kernel, by decide +kernel, Nat.le_of_ble_eq_true rfl, _, Or.inl xwt_478, Or.inr ⟨xd_48_6, xwt_480, xws_47, ⟨_, _, _, rfl, rfl⟩, by decide +kernel⟩⟩
theorem xk_48_5 : xk_OkA xp_F (xp_P sc) xp_cl xp_BW xp_NW xp_SW xp_exn 48 5 (.aload 0) := Or.inr ⟨0, rfl, xd_48_9, rfl⟩
theorem xk_48_6 : xk_OkA xp_F (xp_P sc) xp_cl xp_BW xp_NW xp_SW xp_exn 48 6 (.iload 1) := Or.inr ⟨1, rfl, xd_48_10, rfl⟩
theorem xk_48_7 : xk_OkA xp_F (xp_P sc) xp_cl xp_BW xp_NW xp_SW xp_exn 48 7 (.iload 2) := Or.inr ⟨2, rfl, xd_48_11, rfl⟩
theorem xk_48_8 : xk_OkA xp_F (xp_P sc) xp_cl xp_BW xp_NW xp_SW xp_exn 48 8 (.invokeinterface 69 3) := ⟨rfl, Or.inl ⟨xwt_562, rfl⟩, rfl, rfl, xwt_1, by decide +kernel, by decide +kernel, Nat.le_of_ble_eq_true rfl, _, Or.inl xwt_559, Or.inr ⟨xd_48_12, xwt_561, xws_55, ⟨_, _, _, rfl, rfl⟩, by decide +kernel⟩⟩
theorem xk_48_9 : xk_OkA xp_F (xp_P sc) xp_cl xp_BW xp_NW xp_SW xp_exn 48 9 (.aload 0) := Or.inr ⟨0, rfl, xd_48_15, rfl⟩
theorem xk_48_10 : xk_OkA xp_F (xp_P sc) xp_cl xp_BW xp_NW xp_SW xp_exn 48 10 (.iload 1) := Or.inr ⟨1, rfl, xd_48_16, rfl⟩
theorem xk_48_11 : xk_OkA xp_F (xp_P sc) xp_cl xp_BW xp_NW xp_SW xp_exn 48 11 (.iload 2) := Or.inr ⟨2, rfl, xd_48_17, rfl⟩
theorem xk_48_12 : xk_OkA xp_F (xp_P sc) xp_cl xp_BW xp_NW xp_SW xp_exn 48 12 (.invokeinterface 77 3) := ⟨rfl, Or.inl ⟨xwt_586, rfl⟩, rfl, rfl, xwt_1, by decide +kernel, by decide +kernel, Nat.le_of_ble_eq_true rfl, _, Or.inl xwt_583, Or.inr ⟨xd_48_18, xwt_585, xws_57, ⟨_, _, _, rfl, rfl⟩, by decide +kernel⟩⟩
theorem xk_48_13 : xk_OkA xp_F (xp_P sc) xp_cl xp_BW xp_NW xp_SW xp_exn 48 13 (.istore 4) := Or.inl ⟨xd_48_21, rfl⟩
theorem xk_48_14 : xk_OkA xp_F (xp_P sc) xp_cl xp_BW xp_NW xp_SW xp_exn 48 14 (.aload 0) := Or.inr ⟨0, rfl, xd_48_23, rfl⟩
theorem xk_48_15 : xk_OkA xp_F (xp_P sc) xp_cl xp_BW xp_NW xp_SW xp_exn 48 15 (.iload 1) := Or.inr ⟨1, rfl, xd_48_24, rfl⟩
theorem xk_48_16 : xk_OkA xp_F (xp_P sc) xp_cl xp_BW xp_NW xp_SW xp_exn 48 16 (.iload 4) := Or.inl ⟨xd_48_25, rfl⟩
theorem xk_48_17 : xk_OkA xp_F (xp_P sc) xp_cl xp_BW xp_NW xp_SW xp_exn 48 17 (.invokeinterface 80 3) := ⟨rfl, Or.inl ⟨xwt_590, rfl⟩, rfl, rfl, xwt_1, by decide +kernel, by decide +kernel, Nat.le_of_ble_eq_true rfl, _, Or.inl xwt_587, Or.inr ⟨xd_48_27, xwt_589, xws_58, ⟨_, _, _, rfl, rfl⟩, by decide +kernel⟩⟩
theorem xk_48_18 : xk_OkA xp_F (xp_P sc) xp_cl xp_BW xp_NW xp_SW xp_exn 48 18 (.iconst (-1)) := Or.inl ⟨xd_48_30, rfl⟩
theorem xk_48_19 : xk_OkA xp_F (xp_P sc) xp_cl xp_BW xp_NW xp_SW xp_exn 48 19 (.if_icmp .ne 21) := ⟨_, xd_48_31, by unfold xf_to; decide +kernel, rfl⟩
theorem xk_48_20 : xk_OkA xp_F (xp_P sc) xp_cl xp_BW xp_NW xp_SW xp_exn 48 20 (.new 2) := ⟨62, 178, 66, _, xp_chain, xd_48_34, xd_48_37, List.mem_of_getElem? (i := 16) rfl, xwt_227, xwt_11, by decide +kernel, by decide +kernel, rfl, Or.inl ⟨xa_3_2, xo_3_2, by decide, by decide, Or.inl ⟨xd_48_38, xd_48_40, xd_48_43⟩⟩⟩
theorem xk_48_21 : xk_OkA xp_F (xp_P sc) xp_cl xp_BW xp_NW xp_SW xp_exn 48 21 (.aload 0) := Or.inr ⟨0, rfl, xd_48_44, rfl⟩
theorem xk_48_22 : xk_OkA xp_F (xp_P sc) xp_cl xp_BW xp_NW xp_SW xp_exn 48 22 (.iload 1) := Or.inr ⟨1, rfl, xd_48_45, rfl⟩
theorem xk_48_23 : xk_OkA xp_F (xp_P sc) xp_cl xp_BW xp_NW xp_SW xp_exn 48 23 (.iload 4) := Or.inl ⟨xd_48_46, rfl⟩
theorem xk_48_24 : xk_OkA xp_F (xp_P sc) xp_cl xp_BW xp_NW xp_SW xp_exn 48 24 (.invokeinterface 89 3) := ⟨rfl, Or.inl ⟨xwt_599, rfl⟩, rfl, rfl, xwt_1, by decide +kernel, by decide +kernel, Nat.le_of_ble_eq_true rfl, _, Or.inl xwt_596, Or.inr ⟨xd_48_48, xwt_598, xws_60, ⟨_, _, _, rfl, rfl⟩, by decide +kernel⟩⟩
theorem xk_48_25 : xk_OkA xp_F (xp_P sc) xp_cl xp_BW xp_NW xp_SW xp_exn 48 25 (.aload 0) := Or.inr ⟨0, rfl, xd_48_51, rfl⟩
theorem xk_48_26 : xk_OkA xp_F (xp_P sc) xp_cl xp_BW xp_NW xp_SW xp_exn 48 26 (.iload 1) := Or.inr ⟨1, rfl, xd_48_52, rfl⟩
theorem xk_48_27 : xk_OkA xp_F (xp_P sc) xp_cl xp_BW xp_NW xp_SW xp_exn 48 27 (.iload 2) := Or.inr ⟨2, rfl, xd_48_53, rfl⟩
theorem xk_48_28 : xk_OkA xp_F (xp_P sc) xp_cl xp_BW xp_NW xp_SW xp_exn 48 28 (.invokeinterface 78 3) := ⟨rfl, Or.inl ⟨xwt_603, rfl⟩, rfl, rfl, xwt_1, by decide +kernel, by decide +kernel, Nat.le_of_ble_eq_true rfl, _, Or.inl xwt_600, Or.inr ⟨xd_48_54, xwt_602, xws_61, ⟨_, _, _, rfl, rfl⟩, by decide +kernel⟩⟩
theorem xk_48_29 : xk_OkA xp_F (xp_P sc) xp_cl xp_BW xp_NW xp_SW xp_exn 48 29 (.istore 5) := Or.inl ⟨xd_48_57, rfl⟩
theorem xk_48_30 : xk_OkA xp_F (xp_P sc) xp_cl xp_BW xp_NW xp_SW xp_exn 48 30 (.iconst 0) := Or.inl ⟨xd_48_59, rfl⟩
theorem xk_48_31 : xk_OkA xp_F (xp_P sc) xp_cl xp_BW xp_NW xp_SW xp_exn 48 31 (.istore 6) := Or.inl ⟨xd_48_60, rfl⟩
theorem xk_48_32 : xk_OkA xp_F (xp_P sc) xp_cl xp_BW xp_NW xp_SW xp_exn 48 32 (.iconst 0) := Or.inl ⟨xd_48_62, rfl⟩
theorem xk_48_33 : xk_OkA xp_F (xp_P sc) xp_cl xp_BW xp_NW xp_SW xp_exn 48 33 (.istore 7) := Or.inl ⟨xd_48_63, rfl⟩
theorem xk_48_34 : xk_OkA xp_F (xp_P sc) xp_cl xp_BW xp_NW xp_SW xp_exn 48 34 (.iload 7) := Or.inl ⟨xd_48_65, rfl⟩
theorem xk_48_35 : xk_OkA xp_F (xp_P sc) xp_cl xp_BW xp_NW xp_SW xp_exn 48 35 (.iconst 2) := Or.inl ⟨xd_48_67, rfl⟩
theorem xk_48_36 : xk_OkA xp_F (xp_P sc) xp_cl xp_BW xp_NW xp_SW xp_exn 48 36 (.if_icmp .ge 54) := ⟨_, xd_48_68, by unfold xf_to; decide +kernel, rfl⟩
theorem xk_48_37 : xk_OkA xp_F (xp_P sc) xp_cl xp_BW xp_NW xp_SW xp_exn 48 37 (.iload 1) := Or.inr ⟨1, rfl, xd_48_71, rfl⟩
theorem xk_48_38 : xk_OkA xp_F (xp_P sc) xp_cl xp_BW xp_NW xp_SW xp_exn 48 38 (.iload 4) := Or.inl ⟨xd_48_72, rfl⟩
theorem xk_48_39 : xk_OkA xp_F (xp_P sc) xp_cl xp_BW xp_NW xp_SW xp_exn 48 39 (.iload 7) := Or.inl ⟨xd_48_74, rfl⟩
theorem xk_48_40 : xk_OkA xp_F (xp_P sc) xp_cl xp_BW xp_NW xp_SW xp_exn 48 40 (.invokeinterface 74 3) := ⟨rfl, Or.inl ⟨xwt_435, rfl⟩, rfl, rfl, xwt_1, by decide +kernel, by decide +kernel, Nat.le_of_ble_eq_true rfl, _, Or.inl xwt_433, Or.inl ⟨xd_48_76, xwt_434, rfl, by decide +kernel⟩⟩
theorem xk_48_41 : xk_OkA xp_F (xp_P sc) xp_cl xp_BW xp_NW xp_SW xp_exn 48 41 (.istore 8) := Or.inl ⟨xd_48_79, rfl⟩
theorem xk_48_42 : xk_OkA xp_F (xp_P sc) xp_cl xp_BW xp_NW xp_SW xp_exn 48 42 (.aload 0) := Or.inr ⟨0, rfl, xd_48_81, rfl⟩
theorem xk_48_43 : xk_OkA xp_F (xp_P sc) xp_cl xp_BW xp_NW xp_SW xp_exn 48 43 (.iload 8) := Or.inl ⟨xd_48_82, rfl⟩
theorem xk_48_44 : xk_OkA xp_F (xp_P sc) xp_cl xp_BW xp_NW xp_SW xp_exn 48 44 (.invokeinterface 79 2) := ⟨rfl, Or.inl ⟨xwt_594, rfl⟩, rfl, rfl, xwt_1, by decide +kernel, by decide +kernel, Nat.le_of_ble_eq_true rfl, _, Or.inl xwt_591, Or.inr ⟨xd_48_84, xwt_593, xws_59, ⟨_, _, _, rfl, rfl⟩, by decide +kernel⟩⟩
theorem xk_48_45 : xk_OkA xp_F (xp_P sc) xp_cl xp_BW xp_NW xp_SW xp_exn 48 45 (.ifCond .eq 52) := ⟨_, xd_48_87, by unfold xf_to; decide +kernel, rfl⟩
theorem xk_48_46 : xk_OkA xp_F (xp_P sc) xp_cl xp_BW xp_NW xp_SW xp_exn 48 46 (.aload 0) := Or.inr ⟨0, rfl, xd_48_90, rfl⟩
theorem xk_48_47 : xk_OkA xp_F (xp_P sc) xp_cl xp_BW xp_NW xp_SW xp_exn 48 47 (.iload 8) := Or.inl ⟨xd_48_91, rfl⟩
theorem xk_48_48 : xk_OkA xp_F (xp_P sc) xp_cl xp_BW xp_NW xp_SW xp_exn 48 48 (.iload 5) := Or.inl ⟨xd_48_93, rfl⟩
theorem xk_48_49 : xk_OkA xp_F (xp_P sc) xp_cl xp_BW xp_NW xp_SW xp_exn 48 49 (.iload 3) := Or.inr ⟨3, rfl, xd_48_95, rfl⟩
theorem xk_48_50 : xk_OkA xp_F (xp_P sc) xp_cl xp_BW xp_NW xp_SW xp_exn 48 50 (.invokeinterface 84 4) := ⟨rfl, Or.inl ⟨xwt_607, rfl⟩, rfl, rfl, xwt_1, by decide +kernel, by decide +kernel, Nat.le_of_ble_eq_true rfl, _, Or.inl xwt_604, Or.inr ⟨xd_48_96, xwt_606, xws_62, ⟨_, _, _, rfl, rfl⟩, by decide +kernel⟩⟩
theorem xk_48_51 : xk_OkA xp_F (xp_P sc) xp_cl xp_BW xp_NW xp_SW xp_exn 48 51 (.iinc 6 (1)) := ⟨xd_48_99, rfl⟩
theorem xk_48_52 : xk_OkA xp_F (xp_P sc) xp_cl xp_BW xp_NW xp_SW xp_exn 48 52 (.iinc 7 (1)) := ⟨xd_48_102, rfl⟩
theorem xk_48_53 : xk_OkA xp_F (xp_P sc) xp_cl xp_BW xp_NW xp_SW xp_exn 48 53 (.goto 34) := ⟨_, xd_48_105, by unfold xf_to; decide +kernel⟩
theorem xk_48_54 : xk_OkA xp_F (xp_P sc) xp_cl xp_BW xp_NW xp_SW xp_exn 48 54 (.iload 6) := Or.inl ⟨xd_48_108, rfl⟩
theorem xk_48_55 : xk_OkA xp_F (xp_P sc) xp_cl xp_BW xp_NW xp_SW xp_exn 48 55 (.ireturn) := ⟨xd_48_110, rfl⟩
theorem xl_48 : xk_OkL xp_F (xp_P sc) xp_cl xp_BW xp_NW xp_SW xp_exn 48 0 xc_48 := ⟨xk_48_0, xk_48_1, xk_48_2, xk_48_3, xk_48_4, xk_48_5, xk_48_6, xk_48_7, xk_48_8, xk_48_9, xk_48_10, xk_48_11, xk_48_12, xk_48_13, xk_48_14, xk_48_15, xk_48_16, xk_48_17, xk_48_18, xk_48_19, xk_48_20, xk_48_21, xk_48_22, xk_48_23, xk_48_24, xk_48_25, xk_48_26, xk_48_27, xk_48_28, xk_48_29, xk_48_30, xk_48_31, xk_48_32, xk_48_33, xk_48_34, xk_48_35, xk_48_36, xk_48_37, xk_48_38, xk_48_39, xk_48_40, xk_48_41, xk_48_42, xk_48_43, xk_48_44, xk_48_45, xk_48_46, xk_48_47, xk_48_48, xk_48_49, xk_48_50, xk_48_51, xk_48_52, xk_48_53, xk_48_54, xk_48_55, trivial⟩
theorem xd_49_0 : decode prog_1_method_11_code 0 = .ok (.aload_n 0, 1) := by decide +kernel
theorem xd_49_1 : decode prog_1_method_11_code 1 = .ok (.invokevirtual 41, 3) := by decide +kernel
theorem xd_49_4 : decode prog_1_method_11_code 4 = .ok (.aload_n 0, 1) := by decide +kernel
theorem xd_49_5 : decode prog_1_method_11_code 5 = .ok (.iload_n 1, 1) := by decide +kernel
theorem xd_49_6 : decode prog_1_method_11_code 6 = .ok (.invokevirtual 140, 3) := by decide +kernel
theorem xd_49_9 : decode prog_1_method_11_code 9 = .ok (.aload_n 0, 1) := by decide +kernel
theorem xd_49_10 : decode prog_1_method_11_code 10 = .ok (.iload_n 1, 1) := by decide +kernel
theorem xd_49_11 : decode prog_1_method_11_code 11 = .ok (.iload_n 2, 1) := by decide +kernel
theorem xd_49_12 : decode prog_1_method_11_code 12 = .ok (.invokevirtual 168, 3) := by decide +kernel
theorem xd_49_15 : decode prog_1_method_11_code 15 = .ok (.aload_n 0, 1) := by decide +kernel
theorem xd_49_16 : decode prog_1_method_11_code 16 = .ok (.iload_n 1, 1) := by decide +kernel
theorem xd_49_17 : decode prog_1_method_11_code 17 = .ok (.aload_n 0, 1) := by decide +kernel
theorem xd_49_18 : decode prog_1_method_11_code 18 = .ok (.iload_n 1, 1) := by decide +kernel
theorem xd_49_19 : decode prog_1_method_11_code 19 = .ok (.iload_n 2, 1) := by decide +kernel
theorem xd_49_20 : decode prog_1_method_11_code 20 = .ok (.invokevirtual 171, 3) := by decide +kernel
theorem xd_49_23 : decode prog_1_method_11_code 23 = .ok (.invokevirtual 175, 3) := by decide +kernel
theorem xd_49_26 : decode prog_1_method_11_code 26 = .ok (.istore_n 3, 1) := by decide +kernel
theorem xd_49_27 : decode prog_1_method_11_code 27 = .ok (.iload_n 3, 1) := by decide +kernel
theorem xd_49_28 : decode prog_1_method_11_code 28 = .ok (.iconst (-1), 1) := by decide +kernel
theorem xd_49_29 : decode prog_1_method_11_code 29 = .ok (.if_icmp .ne 13, 3) := by decide +kernel
theorem xd_49_32 : decode prog_1_method_11_code 32 = .ok (.new 62, 3) := by decide +kernel
theorem xd_49_35 : decode prog_1_method_11_code 35 = .ok (.dup, 1) := by decide +kernel
theorem xd_49_36 : decode prog_1_method_11_code 36 = .ok (.ldc 197, 2) := by decide +kernel
theorem xd_49_38 : decode prog_1_method_11_code 38 = .ok (.invokespecial 66, 3) := by decide +kernel
theorem xd_49_41 : decode prog_1_method_11_code 41 = .ok (.athrow, 1) := by decide +kernel
theorem xd_49_42 : decode prog_1_method_11_code 42 = .ok (.aload_n 0, 1) := by decide +kernel
theorem xd_49_43 : decode prog_1_method_11_code 43 = .ok (.getfield 12, 3) := by decide +kernel
theorem xd_49_46 : decode prog_1_method_11_code 46 = .ok (.aload_n 0, 1) := by decide +kernel
theorem xd_49_47 : decode prog_1_method_11_code 47 = .ok (.getfield 19, 3) := by decide +kernel
theorem xd_49_50 : decode prog_1_method_11_code 50 = .ok (.iload_n 3, 1) := by decide +kernel
theorem xd_49_51 : decode prog_1_method_11_code 51 = .ok (.invokevirtual 199, 3) := by decide +kernel
theorem xd_49_54 : decode prog_1_method_11_code 54 = .ok (.aload_n 0, 1) := by decide +kernel
theorem xd_49_55 : decode prog_1_method_11_code 55 = .ok (.iload_n 1, 1) := by decide +kernel
theorem xd_49_56 : decode prog_1_method_11_code 56 = .ok (.iload_n 2, 1) := by decide +kernel
theorem xd_49_57 : decode prog_1_method_11_code 57 = .ok (.invokevirtual 183, 3) := by decide +kernel
theorem xd_49_60 : decode prog_1_method_11_code 60 = .ok (.invokevirtual 202, 3) := by decide +kernel
theorem xd_49_63 : decode prog_1_method_11_code 63 = .ok (.ireturn, 1) := by decide +kernel
theorem xk_49_0 : xk_OkA xp_F (xp_P sc) xp_cl xp_BW xp_NW xp_SW xp_exn 49 0 (.aload 0) := Or.inr ⟨0, rfl, xd_49_0, rfl⟩
theorem xk_49_1 : xk_OkA xp_F (xp_P sc) xp_cl xp_BW xp_NW xp_SW xp_exn 49 1 (.invokeinterface 62 1) := ⟨rfl, Or.inl ⟨xwt_121, rfl⟩, rfl, rfl, xwt_1, by decide +kernel, by decide +kernel, Nat.le_of_ble_eq_true rfl, _, Or.inl xwt_118, Or.inr ⟨xd_49_1, xwt_120, xws_1, ⟨_, _, _, rfl, rfl⟩, by decide +kernel⟩⟩
theorem xk_49_2 : xk_OkA xp_F (xp_P sc) xp_cl xp_BW xp_NW xp_SW xp_exn 49 2 (.aload 0) := Or.inr ⟨0, rfl, xd_49_4, rfl⟩
theorem xk_49_3 : xk_OkA xp_F (xp_P sc) xp_cl xp_BW xp_NW xp_SW xp_exn 49 3 (.iload 1) := Or.inr ⟨1, rfl, xd_49_5, rfl⟩
theorem xk_49_4 : xk_OkA xp_F (xp_P sc) xp_cl xp_BW xp_NW xp_SW xp_exn 49 4 (.invokeinterface 68 2) := ⟨rfl, Or.inl ⟨xwt_481, rfl⟩, rfl, rfl, xwt_1, by decide +kernel, by decide +kernel, Nat.le_of_ble_eq_true rfl, _, Or.inl xwt_478, Or.inr ⟨xd_49_6, xwt_480, xws_47, ⟨_, _, _, rfl, rfl⟩, by decide +kernel⟩⟩
theorem xk_49_5 : xk_OkA xp_F (xp_P sc) xp_cl xp_BW xp_NW xp_SW xp_exn 49 5 (.aload 0) := Or.inr ⟨0, rfl, xd_49_9, rfl⟩
theorem xk_49_6 : xk_OkA xp_F (xp_P sc) xp_cl xp_BW xp_NW xp_SW xp_exn 49 6 (.iload 1) := Or.inr ⟨1, rfl, xd_49_10, rfl⟩
theorem xk_49_7 : xk_OkA xp_F (xp_P sc) xp_cl xp_BW xp_NW xp_SW xp_exn 49 7 (.iload 2) := Or.inr ⟨2, rfl, xd_49_11, rfl⟩
theorem xk_49_8 : xk_OkA xp_F (xp_P sc) xp_cl xp_BW xp_NW xp_SW xp_exn 49 8 (.invokeinterface 69 3) := ⟨rfl, Or.inl ⟨xwt_562, rfl⟩, rfl, rfl, xwt_1, by decide +kernel, by decide +kernel, Nat.le_of_ble_eq_true rfl, _, Or.inl xwt_559, Or.inr ⟨xd_49_12, xwt_561, xws_55, ⟨_, _, _, rfl, rfl⟩, by decide +kernel⟩⟩
theorem xk_49_9 : xk_OkA xp_F (xp_P sc) xp_cl xp_BW xp_NW xp_SW xp_exn 49 9 (.aload 0) := Or.inr ⟨0, rfl, xd_49_15, rfl⟩
theorem xk_49_10 : xk_OkA xp_F (xp_P sc) xp_cl xp_BW xp_NW xp_SW xp_exn 49 10 (.iload 1) := Or.inr ⟨1, rfl, xd_49_16, rfl⟩
theorem xk_49_11 : xk_OkA xp_F (xp_P sc) xp_cl xp_BW xp_NW xp_SW xp_exn 49 11 (.aload 0) := Or.inr ⟨0, rfl, xd_49_17, rfl⟩
theorem xk_49_12 : xk_OkA xp_F (xp_P sc) xp_cl xp_BW xp_NW xp_SW xp_exn 49 12 (.iload 1) := Or.inr ⟨1, rfl, xd_49_18, rfl⟩
theorem xk_49_13 : xk_OkA xp_F (xp_P sc) xp_cl xp_BW xp_NW xp_SW xp_exn 49 13 (.iload 2) := Or.inr ⟨2, rfl, xd_49_19, rfl⟩
theorem xk_49_14 : xk_OkA xp_F (xp_P sc) xp_cl xp_BW xp_NW xp_SW xp_exn 49 14 (.invokeinterface 77 3) := ⟨rfl, Or.inl ⟨xwt_586, rfl⟩, rfl, rfl, xwt_1, by decide +kernel, by decide +kernel, Nat.le_of_ble_eq_true rfl, _, Or.inl xwt_583, Or.inr ⟨xd_49_20, xwt_585, xws_57, ⟨_, _, _, rfl, rfl⟩, by decide +kernel⟩⟩
theorem xk_49_15 : xk_OkA xp_F (xp_P sc) xp_cl xp_BW xp_NW xp_SW xp_exn 49 15 (.invokeinterface 80 3) := ⟨rfl, Or.inl ⟨xwt_590, rfl⟩, rfl, rfl, xwt_1, by decide +kernel, by decide +kernel, Nat.le_of_ble_eq_true rfl, _, Or.inl xwt_587, Or.inr ⟨xd_49_23, xwt_589, xws_58, ⟨_, _, _, rfl, rfl⟩, by decide +kernel⟩⟩
theorem xk_49_16 : xk_OkA xp_F (xp_P sc) xp_cl xp_BW xp_NW xp_SW xp_exn 49 16 (.istore 3) := Or.inr ⟨3, rfl, xd_49_26, rfl⟩
theorem xk_49_17 : xk_OkA xp_F (xp_P sc) xp_cl xp_BW xp_NW xp_SW xp_exn 49 17 (.iload 3) := Or.inr ⟨3, rfl, xd_49_27, rfl⟩
theorem xk_49_18 : xk_OkA xp_F (xp_P sc) xp_cl xp_BW xp_NW xp_SW xp_exn 49 18 (.iconst (-1)) := Or.inl ⟨xd_49_28, rfl⟩
theorem xk_49_19 : xk_OkA xp_F (xp_P sc) xp_cl xp_BW xp_NW xp_SW xp_exn 49 19 (.if_icmp .ne 21) := ⟨_, xd_49_29, by unfold xf_to; decide +kernel, rfl⟩
theorem xk_49_20 : xk_OkA xp_F (xp_P sc) xp_cl xp_BW xp_NW xp_SW xp_exn 49 20 (.new 2) := ⟨62, 197, 66, _, xp_chain, xd_49_32, xd_49_35, List.mem_of_getElem? (i := 17) rfl, xwt_227, xwt_11, by decide +kernel, by decide +kernel, rfl, Or.inl ⟨xa_3_2, xo_3_2, by decide, by decide, Or.inl ⟨xd_49_36, xd_49_38, xd_49_41⟩⟩⟩
theorem xk_49_21 : xk_OkA xp_F (xp_P sc) xp_cl xp_BW xp_NW xp_SW xp_exn 49 21 (.aload 0) := Or.inr ⟨0, rfl, xd_49_42, rfl⟩
theorem xk_49_22 : xk_OkA xp_F (xp_P sc) xp_cl xp_BW xp_NW xp_SW xp_exn 49 22 (.getfield 96) := ⟨_, xd_49_43, rfl, ⟨_, _, _, rfl, by decide, xu_3, Or.inl xwt_77⟩⟩
theorem xk_49_23 : xk_OkA xp_F (xp_P sc) xp_cl xp_BW xp_NW xp_SW xp_exn 49 23 (.aload 0) := Or.inr ⟨0, rfl, xd_49_46, rfl⟩
theorem xk_49_24 : xk_OkA xp_F (xp_P sc) xp_cl xp_BW xp_NW xp_SW xp_exn 49 24 (.getfield 97) := ⟨_, xd_49_47, rfl, ⟨_, _, _, rfl, by decide, xu_3, Or.inl xwt_78⟩⟩
theorem xk_49_25 : xk_OkA xp_F (xp_P sc) xp_cl xp_BW xp_NW xp_SW xp_exn 49 25 (.iload 3) := Or.inr ⟨3, rfl, xd_49_50, rfl⟩
theorem xk_49_26 : xk_OkA xp_F (xp_P sc) xp_cl xp_BW xp_NW xp_SW xp_exn 49 26 (.invokeinterface 34 2) := ⟨rfl, Or.inl ⟨xwt_322, rfl⟩, rfl, rfl, xwt_3, by decide +kernel, by decide +kernel, Nat.le_of_ble_eq_true rfl, _, Or.inr ⟨_, xwn_319⟩, Or.inr ⟨xd_49_51, xwt_321, xws_22, ⟨_, _, _, rfl, rfl⟩, by decide +kernel⟩⟩
theorem xk_49_27 : xk_OkA xp_F (xp_P sc) xp_cl xp_BW xp_NW xp_SW xp_exn 49 27 (.aload 0) := Or.inr ⟨0, rfl, xd_49_54, rfl⟩
theorem xk_49_28 : xk_OkA xp_F (xp_P sc) xp_cl xp_BW xp_NW xp_SW xp_exn 49 28 (.iload 1) := Or.inr ⟨1, rfl, xd_49_55, rfl⟩
theorem xk_49_29 : xk_OkA xp_F (xp_P sc) xp_cl xp_BW xp_NW xp_SW xp_exn 49 29 (.iload 2) := Or.inr ⟨2, rfl, xd_49_56, rfl⟩
theorem xk_49_30 : xk_OkA xp_F (xp_P sc) xp_cl xp_BW xp_NW xp_SW xp_exn 49 30 (.invokeinterface 78 3) := ⟨rfl, Or.inl ⟨xwt_603, rfl⟩, rfl, rfl, xwt_1, by decide +kernel, by decide +kernel, Nat.le_of_ble_eq_true rfl, _, Or.inl xwt_600, Or.inr ⟨xd_49_57, xwt_602, xws_61, ⟨_, _, _, rfl, rfl⟩, by decide +kernel⟩⟩
theorem xk_49_31 : xk_OkA xp_F (xp_P sc) xp_cl xp_BW xp_NW xp_SW xp_exn 49 31 (.invokeinterface 9 3) := ⟨rfl, Or.inl ⟨xwt_550, rfl⟩, rfl, rfl, xwt_2, by decide +kernel, by decide +kernel, Nat.le_of_ble_eq_true rfl, _, Or.inr ⟨_, xwn_547⟩, Or.inr ⟨xd_49_60, xwt_549, xws_54, ⟨_, _, _, rfl, rfl⟩, by decide +kernel⟩⟩
theorem xk_49_32 : xk_OkA xp_F (xp_P sc) xp_cl xp_BW xp_NW xp_SW xp_exn 49 32 (.ireturn) := ⟨xd_49_63, rfl⟩
theorem xl_49 : xk_OkL xp_F (xp_P sc) xp_cl xp_BW xp_NW xp_SW xp_exn 49 0 xc_49 := ⟨xk_49_0, xk_49_1, xk_49_2, xk_49_3, xk_49_4, xk_49_5, xk_49_6, xk_49_7, xk_49_8, xk_49_9, xk_49_10, xk_49_11, xk_49_12, xk_49_13, xk_49_14, xk_49_15, xk_49_16, xk_49_17, xk_49_18, xk_49_19, xk_49_20, xk_49_21, xk_49_22, xk_49_23, xk_49_24, xk_49_25, xk_49_26, xk_49_27, xk_49_28, xk_49_29, xk_49_30, xk_49_31, xk_49_32, trivial⟩
theorem xd_50_0 : decode prog_1_method_12_code 0 = .ok (.aload_n 0, 1) := by decide +kernel
theorem xd_50_1 : decode prog_1_method_12_code 1 = .ok (.invokevirtual 41, 3) := by decide +kernel
theorem xd_50_4 : decode prog_1_method_12_code 4 = .ok (.iload_n 1, 1) := by decide +kernel
theorem xd_50_5 : decode prog_1_method_12_code 5 = .ok (.invokestatic 44, 3) := by decide +kernel
theorem xd_50_8 : decode prog_1_method_12_code 8 = .ok (.aload_n 0, 1) := by decide +kernel
theorem xd_50_9 : decode prog_1_method_12_code 9 = .ok (.iload_n 1, 1) := by decide +kernel
theorem xd_50_10 : decode prog_1_method_12_code 10 = .ok (.invokevirtual 83, 3) := by decide +kernel
theorem xd_50_13 : decode prog_1_method_12_code 13 = .ok (.aload_n 0, 1) := by decide +kernel
theorem xd_50_14 : decode prog_1_method_12_code 14 = .ok (.getfield 29, 3) := by decide +kernel
theorem xd_50_17 : decode prog_1_method_12_code 17 = .ok (.getfield 104, 3) := by decide +kernel
theorem xd_50_20 : decode prog_1_method_12_code 20 = .ok (.iconst (-1), 1) := by decide +kernel
theorem xd_50_21 : decode prog_1_method_12_code 21 = .ok (.if_icmp .eq 13, 3) := by decide +kernel
theorem xd_50_24 : decode prog_1_method_12_code 24 = .ok (.new 62, 3) := by decide +kernel
theorem xd_50_27 : decode prog_1_method_12_code 27 = .ok (.dup, 1) := by decide +kernel
theorem xd_50_28 : decode prog_1_method_12_code 28 = .ok (.ldc 205, 2) := by decide +kernel
theorem xd_50_30 : decode prog_1_method_12_code 30 = .ok (.invokespecial 66, 3) := by decide +kernel
theorem xd_50_33 : decode prog_1_method_12_code 33 = .ok (.athrow, 1) := by decide +kernel
theorem xd_50_34 : decode prog_1_method_12_code 34 = .ok (.aload_n 0, 1) := by decide +kernel
theorem xd_50_35 : decode prog_1_method_12_code 35 = .ok (.invokevirtual 67, 3) := by decide +kernel
theorem xd_50_38 : decode prog_1_method_12_code 38 = .ok (.aload_n 0, 1) := by decide +kernel
theorem xd_50_39 : decode prog_1_method_12_code 39 = .ok (.getfield 29, 3) := by decide +kernel
theorem xd_50_42 : decode prog_1_method_12_code 42 = .ok (.iload_n 1, 1) := by decide +kernel
theorem xd_50_43 : decode prog_1_method_12_code 43 = .ok (.invokevirtual 207, 3) := by decide +kernel
theorem xd_50_46 : decode prog_1_method_12_code 46 = .ok (.aload_n 0, 1) := by decide +kernel
theorem xd_50_47 : decode prog_1_method_12_code 47 = .ok (.getfield 19, 3) := by decide +kernel
theorem xd_50_50 : decode prog_1_method_12_code 50 = .ok (.iload_n 1, 1) := by decide +kernel
theorem xd_50_51 : decode prog_1_method_12_code 51 = .ok (.invokevirtual 86, 3) := by decide +kernel
theorem xd_50_54 : decode prog_1_method_12_code 54 = .ok (.ireturn, 1) := by decide +kernel
theorem xk_50_0 : xk_OkA xp_F (xp_P sc) xp_cl xp_BW xp_NW xp_SW xp_exn 50 0 (.aload 0) := Or.inr ⟨0, rfl, xd_50_0, rfl⟩
theorem xk_50_1 : xk_OkA xp_F (xp_P sc) xp_cl xp_BW xp_NW xp_SW xp_exn 50 1 (.invokeinterface 62 1) := ⟨rfl, Or.inl ⟨xwt_121, rfl⟩, rfl, rfl, xwt_1, by decide +kernel, by decide +kernel, Nat.le_of_ble_eq_true rfl, _, Or.inl xwt_118, Or.inr ⟨xd_50_1, xwt_120, xws_1, ⟨_, _, _, rfl, rfl⟩, by decide +kernel⟩⟩
theorem xk_50_2 : xk_OkA xp_F (xp_P sc) xp_cl xp_BW xp_NW xp_SW xp_exn 50 2 (.iload 1) := Or.inr ⟨1, rfl, xd_50_4, rfl⟩
theorem xk_50_3 : xk_OkA xp_F (xp_P sc) xp_cl xp_BW xp_NW xp_SW xp_exn 50 3 (.invokeinterface 65 1) := ⟨rfl, Or.inl ⟨xwt_194, rfl⟩, rfl, rfl, xwt_1, by decide +kernel, by decide +kernel, Nat.le_of_ble_eq_true rfl, _, Or.inl xwt_192, Or.inl ⟨xd_50_5, xwt_193, rfl, by decide +kernel⟩⟩
theorem xk_50_4 : xk_OkA xp_F (xp_P sc) xp_cl xp_BW xp_NW xp_SW xp_exn 50 4 (.aload 0) := Or.inr ⟨0, rfl, xd_50_8, rfl⟩
theorem xk_50_5 : xk_OkA xp_F (xp_P sc) xp_cl xp_BW xp_NW xp_SW xp_exn 50 5 (.iload 1) := Or.inr ⟨1, rfl, xd_50_9, rfl⟩
theorem xk_50_6 : xk_OkA xp_F (xp_P sc) xp_cl xp_BW xp_NW xp_SW xp_exn 50 6 (.invokeinterface 66 2) := ⟨rfl, Or.inl ⟨xwt_337, rfl⟩, rfl, rfl, xwt_1, by decide +kernel, by decide +kernel, Nat.le_of_ble_eq_true rfl, _, Or.inl xwt_334, Or.inr ⟨xd_50_10, xwt_336, xws_24, ⟨_, _, _, rfl, rfl⟩, by decide +kernel⟩⟩
theorem xk_50_7 : xk_OkA xp_F (xp_P sc) xp_cl xp_BW xp_NW xp_SW xp_exn 50 7 (.aload 0) := Or.inr ⟨0, rfl, xd_50_13, rfl⟩
theorem xk_50_8 : xk_OkA xp_F (xp_P sc) xp_cl xp_BW xp_NW xp_SW xp_exn 50 8 (.getfield 99) := ⟨_, xd_50_14, rfl, ⟨_, _, _, rfl, by decide, xu_3, Or.inl xwt_80⟩⟩
theorem xk_50_9 : xk_OkA xp_F (xp_P sc) xp_cl xp_BW xp_NW xp_SW xp_exn 50 9 (.getfield 32) := ⟨_, xd_50_17, rfl, ⟨_, _, _, rfl, by decide, xu_1, Or.inr ⟨_, xwn_61⟩⟩⟩
theorem xk_50_10 : xk_OkA xp_F (xp_P sc) xp_cl xp_BW xp_NW xp_SW xp_exn 50 10 (.iconst (-1)) := Or.inl ⟨xd_50_20, rfl⟩
theorem xk_50_11 : xk_OkA xp_F (xp_P sc) xp_cl xp_BW xp_NW xp_SW xp_exn 50 11 (.if_icmp .eq 13) := ⟨_, xd_50_21, by unfold xf_to; decide +kernel, rfl⟩
theorem xk_50_12 : xk_OkA xp_F (xp_P sc) xp_cl xp_BW xp_NW xp_SW xp_exn 50 12 (.new 2) := ⟨62, 205, 66, _, xp_chain, xd_50_24, xd_50_27, List.mem_of_getElem? (i := 18) rfl, xwt_227, xwt_11, by decide +kernel, by decide +kernel, rfl, Or.inl ⟨xa_3_2, xo_3_2, by decide, by decide, Or.inl ⟨xd_50_28, xd_50_30, xd_50_33⟩⟩⟩
theorem xk_50_13 : xk_OkA xp_F (xp_P sc) xp_cl xp_BW xp_NW xp_SW xp_exn 50 13 (.aload 0) := Or.inr ⟨0, rfl, xd_50_34, rfl⟩
theorem xk_50_14 : xk_OkA xp_F (xp_P sc) xp_cl xp_BW xp_NW xp_SW xp_exn 50 14 (.invokeinterface 67 1) := ⟨rfl, Or.inl ⟨xwt_246, rfl⟩, rfl, rfl, xwt_1, by decide +kernel, by decide +kernel, Nat.le_of_ble_eq_true rfl, _, Or.inl xwt_243, Or.inr ⟨xd_50_35, xwt_245, xws_6, ⟨_, _, _, rfl, rfl⟩, by decide +kernel⟩⟩
theorem xk_50_15 : xk_OkA xp_F (xp_P sc) xp_cl xp_BW xp_NW xp_SW xp_exn 50 15 (.aload 0) := Or.inr ⟨0, rfl, xd_50_38, rfl⟩
theorem xk_50_16 : xk_OkA xp_F (xp_P sc) xp_cl xp_BW xp_NW xp_SW xp_exn 50 16 (.getfield 99) := ⟨_, xd_50_39, rfl, ⟨_, _, _, rfl, by decide, xu_3, Or.inl xwt_80⟩⟩
theorem xk_50_17 : xk_OkA xp_F (xp_P sc) xp_cl xp_BW xp_NW xp_SW xp_exn 50 17 (.iload 1) := Or.inr ⟨1, rfl, xd_50_42, rfl⟩
theorem xk_50_18 : xk_OkA xp_F (xp_P sc) xp_cl xp_BW xp_NW xp_SW xp_exn 50 18 (.invokeinterface 12 2) := ⟨rfl, Or.inl ⟨xwt_631, rfl⟩, rfl, rfl, xwt_4, by decide +kernel, by decide +kernel, Nat.le_of_ble_eq_true rfl, _, Or.inr ⟨_, xwn_628⟩, Or.inr ⟨xd_50_43, xwt_630, xws_64, ⟨_, _, _, rfl, rfl⟩, by decide +kernel⟩⟩
theorem xk_50_19 : xk_OkA xp_F (xp_P sc) xp_cl xp_BW xp_NW xp_SW xp_exn 50 19 (.aload 0) := Or.inr ⟨0, rfl, xd_50_46, rfl⟩
theorem xk_50_20 : xk_OkA xp_F (xp_P sc) xp_cl xp_BW xp_NW xp_SW xp_exn 50 20 (.getfield 97) := ⟨_, xd_50_47, rfl, ⟨_, _, _, rfl, by decide, xu_3, Or.inl xwt_78⟩⟩
theorem xk_50_21 : xk_OkA xp_F (xp_P sc) xp_cl xp_BW xp_NW xp_SW xp_exn 50 21 (.iload 1) := Or.inr ⟨1, rfl, xd_50_50, rfl⟩
theorem xk_50_22 : xk_OkA xp_F (xp_P sc) xp_cl xp_BW xp_NW xp_SW xp_exn 50 22 (.invokeinterface 37 2) := ⟨rfl, Or.inl ⟨xwt_342, rfl⟩, rfl, rfl, xwt_3, by decide +kernel, by decide +kernel, Nat.le_of_ble_eq_true rfl, _, Or.inr ⟨_, xwn_339⟩, Or.inr ⟨xd_50_51, xwt_341, xws_25, ⟨_, _, _, rfl, rfl⟩, by decide +kernel⟩⟩
theorem xk_50_23 : xk_OkA xp_F (xp_P sc) xp_cl xp_BW xp_NW xp_SW xp_exn 50 23 (.ireturn) := ⟨xd_50_54, rfl⟩
theorem xl_50 : xk_OkL xp_F (xp_P sc) xp_cl xp_BW xp_NW xp_SW xp_exn 50 0 xc_50 := ⟨xk_50_0, xk_50_1, xk_50_2, xk_50_3, xk_50_4, xk_50_5, xk_50_6, xk_50_7, xk_50_8, xk_50_9, xk_50_10, xk_50_11, xk_50_12, xk_50_13, xk_50_14, xk_50_15, xk_50_16, xk_50_17, xk_50_18, xk_50_19, xk_50_20, xk_50_21, xk_50_22, xk_50_23, trivial⟩
theorem xd_51_0 : decode prog_1_method_13_code 0 = .ok (.aload_n 0, 1) := by decide +kernel
theorem xd_51_1 : decode prog_1_method_13_code 1 = .ok (.invokevirtual 41, 3) := by decide +kernel
theorem xd_51_4 : decode prog_1_method_13_code 4 = .ok (.aload_n 0, 1) := by decide +kernel
theorem xd_51_5 : decode prog_1_method_13_code 5 = .ok (.getfield 29, 3) := by decide +kernel
theorem xd_51_8 : decode prog_1_method_13_code 8 = .ok (.getfield 104, 3) := by decide +kernel
theorem xd_51_11 : decode prog_1_method_13_code 11 = .ok (.iconst (-1), 1) := by decide +kernel
theorem xd_51_12 : decode prog_1_method_13_code 12 = .ok (.if_icmp .ne 13, 3) := by decide +kernel
theorem xd_51_15 : decode prog_1_method_13_code 15 = .ok (.new 62, 3) := by decide +kernel
theorem xd_51_18 : decode prog_1_method_13_code 18 = .ok (.dup, 1) := by decide +kernel
theorem xd_51_19 : decode prog_1_method_13_code 19 = .ok (.ldc 210, 2) := by decide +kernel
theorem xd_51_21 : decode prog_1_method_13_code 21 = .ok (.invokespecial 66, 3) := by decide +kernel
theorem xd_51_24 : decode prog_1_method_13_code 24 = .ok (.athrow, 1) := by decide +kernel
theorem xd_51_25 : decode prog_1_method_13_code 25 = .ok (.aload_n 0, 1) := by decide +kernel
theorem xd_51_26 : decode prog_1_method_13_code 26 = .ok (.getfield 29, 3) := by decide +kernel
theorem xd_51_29 : decode prog_1_method_13_code 29 = .ok (.getfield 212, 3) := by decide +kernel
theorem xd_51_32 : decode prog_1_method_13_code 32 = .ok (.iconst (-1), 1) := by decide +kernel
theorem xd_51_33 : decode prog_1_method_13_code 33 = .ok (.if_icmp .ne 65, 3) := by decide +kernel
theorem xd_51_36 : decode prog_1_method_13_code 36 = .ok (.aload_n 0, 1) := by decide +kernel
theorem xd_51_37 : decode prog_1_method_13_code 37 = .ok (.getfield 19, 3) := by decide +kernel
theorem xd_51_40 : decode prog_1_method_13_code 40 = .ok (.aload_n 0, 1) := by decide +kernel
theorem xd_51_41 : decode prog_1_method_13_code 41 = .ok (.getfield 29, 3) := by decide +kernel
theorem xd_51_44 : decode prog_1_method_13_code 44 = .ok (.getfield 104, 3) := by decide +kernel
theorem xd_51_47 : decode prog_1_method_13_code 47 = .ok (.invokevirtual 215, 3) := by decide +kernel
theorem xd_51_50 : decode prog_1_method_13_code 50 = .ok (.istore_n 1, 1) := by decide +kernel
theorem xd_51_51 : decode prog_1_method_13_code 51 = .ok (.iload_n 1, 1) := by decide +kernel
theorem xd_51_52 : decode prog_1_method_13_code 52 = .ok (.iconst (-1), 1) := by decide +kernel
theorem xd_51_53 : decode prog_1_method_13_code 53 = .ok (.if_icmp .ne 7, 3) := by decide +kernel
theorem xd_51_56 : decode prog_1_method_13_code 56 = .ok (.iconst (-1), 1) := by decide +kernel
theorem xd_51_57 : decode prog_1_method_13_code 57 = .ok (.goto 8, 3) := by decide +kernel
theorem xd_51_60 : decode prog_1_method_13_code 60 = .ok (.aload_n 0, 1) := by decide +kernel
theorem xd_51_61 : decode prog_1_method_13_code 61 = .ok (.iload_n 1, 1) := by decide +kernel
theorem xd_51_62 : decode prog_1_method_13_code 62 = .ok (.invokevirtual 218, 3) := by decide +kernel
theorem xd_51_65 : decode prog_1_method_13_code 65 = .ok (.istore_n 2, 1) := by decide +kernel
theorem xd_51_66 : decode prog_1_method_13_code 66 = .ok (.iload_n 2, 1) := by decide +kernel
theorem xd_51_67 : decode prog_1_method_13_code 67 = .ok (.iconst (-1), 1) := by decide +kernel
theorem xd_51_68 : decode prog_1_method_13_code 68 = .ok (.if_icmp .ne 21, 3) := by decide +kernel
theorem xd_51_71 : decode prog_1_method_13_code 71 = .ok (.aload_n 0, 1) := by decide +kernel
theorem xd_51_72 : decode prog_1_method_13_code 72 = .ok (.getfield 29, 3) := by decide +kernel
theorem xd_51_75 : decode prog_1_method_13_code 75 = .ok (.invokevirtual 107, 3) := by decide +kernel
theorem xd_51_78 : decode prog_1_method_13_code 78 = .ok (.iload_n 1, 1) := by decide +kernel
theorem xd_51_79 : decode prog_1_method_13_code 79 = .ok (.iconst (-1), 1) := by decide +kernel
theorem xd_51_80 : decode prog_1_method_13_code 80 = .ok (.if_icmp .ne 7, 3) := by decide +kernel
theorem xd_51_83 : decode prog_1_method_13_code 83 = .ok (.iconst 0, 1) := by decide +kernel
theorem xd_51_84 : decode prog_1_method_13_code 84 = .ok (.goto 4, 3) := by decide +kernel
theorem xd_51_87 : decode prog_1_method_13_code 87 = .ok (.iconst (-1), 1) := by decide +kernel
theorem xd_51_88 : decode prog_1_method_13_code 88 = .ok (.ireturn, 1) := by decide +kernel
theorem xd_51_89 : decode prog_1_method_13_code 89 = .ok (.aload_n 0, 1) := by decide +kernel
theorem xd_51_90 : decode prog_1_method_13_code 90 = .ok (.getfield 29, 3) := by decide +kernel
theorem xd_51_93 : decode prog_1_method_13_code 93 = .ok (.iload_n 1, 1) := by decide +kernel
theorem xd_51_94 : decode prog_1_method_13_code 94 = .ok (.iload_n 2, 1) := by decide +kernel
theorem xd_51_95 : decode prog_1_method_13_code 95 = .ok (.invokevirtual 221, 3) := by decide +kernel
theorem xd_51_98 : decode prog_1_method_13_code 98 = .ok (.aload_n 0, 1) := by decide +kernel
theorem xd_51_99 : decode prog_1_method_13_code 99 = .ok (.invokevirtual 224, 3) := by decide +kernel
theorem xd_51_102 : decode prog_1_method_13_code 102 = .ok (.aload_n 0, 1) := by decide +kernel
theorem xd_51_103 : decode prog_1_method_13_code 103 = .ok (.getfield 19, 3) := by decide +kernel
theorem xd_51_106 : decode prog_1_method_13_code 106 = .ok (.aload_n 0, 1) := by decide +kernel
theorem xd_51_107 : decode prog_1_method_13_code 107 = .ok (.getfield 29, 3) := by decide +kernel
theorem xd_51_110 : decode prog_1_method_13_code 110 = .ok (.getfield 104, 3) := by decide +kernel
theorem xd_51_113 : decode prog_1_method_13_code 113 = .ok (.invokevirtual 86, 3) := by decide +kernel
theorem xd_51_116 : decode prog_1_method_13_code 116 = .ok (.istore_n 1, 1) := by decide +kernel
theorem xd_51_117 : decode prog_1_method_13_code 117 = .ok (.iload_n 1, 1) := by decide +kernel
theorem xd_51_118 : decode prog_1_method_13_code 118 = .ok (.ifCond .ne 10, 3) := by decide +kernel
theorem xd_51_121 : decode prog_1_method_13_code 121 = .ok (.aload_n 0, 1) := by decide +kernel
theorem xd_51_122 : decode prog_1_method_13_code 122 = .ok (.getfield 29, 3) := by decide +kernel
theorem xd_51_125 : decode prog_1_method_13_code 125 = .ok (.invokevirtual 107, 3) := by decide +kernel
theorem xd_51_128 : decode prog_1_method_13_code 128 = .ok (.iload_n 1, 1) := by decide +kernel
theorem xd_51_129 : decode prog_1_method_13_code 129 = .ok (.ireturn, 1) := by decide +kernel
theorem xk_51_0 : xk_OkA xp_F (xp_P sc) xp_cl xp_BW xp_NW xp_SW xp_exn 51 0 (.aload 0) := Or.inr ⟨0, rfl, xd_51_0, rfl⟩
theorem xk_51_1 : xk_OkA xp_F (xp_P sc) xp_cl xp_BW xp_NW xp_SW xp_exn 51 1 (.invokeinterface 62 1) := ⟨rfl, Or.inl ⟨xwt_121, rfl⟩, rfl, rfl, xwt_1, by decide +kernel, by decide +kernel, Nat.le_of_ble_eq_true rfl, _, Or.inl xwt_118, Or.inr ⟨xd_51_1, xwt_120, xws_1, ⟨_, _, _, rfl, rfl⟩, by decide +kernel⟩⟩
theorem xk_51_2 : xk_OkA xp_F (xp_P sc) xp_cl xp_BW xp_NW xp_SW xp_exn 51 2 (.aload 0) := Or.inr ⟨0, rfl, xd_51_4, rfl⟩
theorem xk_51_3 : xk_OkA xp_F (xp_P sc) xp_cl xp_BW xp_NW xp_SW xp_exn 51 3 (.getfield 99) := ⟨_, xd_51_5, rfl, ⟨_, _, _, rfl, by decide, xu_3, Or.inl xwt_80⟩⟩
theorem xk_51_4 : xk_OkA xp_F (xp_P sc) xp_cl xp_BW xp_NW xp_SW xp_exn 51 4 (.getfield 32) := ⟨_, xd_51_8, rfl, ⟨_, _, _, rfl, by decide, xu_1, Or.inr ⟨_, xwn_61⟩⟩⟩
theorem xk_51_5 : xk_OkA xp_F (xp_P sc) xp_cl xp_BW xp_NW xp_SW xp_exn 51 5 (.iconst (-1)) := Or.inl ⟨xd_51_11, rfl⟩
theorem xk_51_6 : xk_OkA xp_F (xp_P sc) xp_cl xp_BW xp_NW xp_SW xp_exn 51 6 (.if_icmp .ne 8) := ⟨_, xd_51_12, by unfold xf_to; decide +kernel, rfl⟩
theorem xk_51_7 : xk_OkA xp_F (xp_P sc) xp_cl xp_BW xp_NW xp_SW xp_exn 51 7 (.new 2) := ⟨62, 210, 66, _, xp_chain, xd_51_15, xd_51_18, List.mem_of_getElem? (i := 19) rfl, xwt_227, xwt_11, by decide +kernel, by decide +kernel, rfl, Or.inl ⟨xa_3_2, xo_3_2, by decide, by decide, Or.inl ⟨xd_51_19, xd_51_21, xd_51_24⟩⟩⟩
theorem xk_51_8 : xk_OkA xp_F (xp_P sc) xp_cl xp_BW xp_NW xp_SW xp_exn 51 8 (.aload 0) := Or.inr ⟨0, rfl, xd_51_25, rfl⟩
theorem xk_51_9 : xk_OkA xp_F (xp_P sc) xp_cl xp_BW xp_NW xp_SW xp_exn 51 9 (.getfield 99) := ⟨_, xd_51_26, rfl, ⟨_, _, _, rfl, by decide, xu_3, Or.inl xwt_80⟩⟩
theorem xk_51_10 : xk_OkA xp_F (xp_P sc) xp_cl xp_BW xp_NW xp_SW xp_exn 51 10 (.getfield 33) := ⟨_, xd_51_29, rfl, ⟨_, _, _, rfl, by decide, xu_1, Or.inr ⟨_, xwn_63⟩⟩⟩
theorem xk_51_11 : xk_OkA xp_F (xp_P sc) xp_cl xp_BW xp_NW xp_SW xp_exn 51 11 (.iconst (-1)) := Or.inl ⟨xd_51_32, rfl⟩
theorem xk_51_12 : xk_OkA xp_F (xp_P sc) xp_cl xp_BW xp_NW xp_SW xp_exn 51 12 (.if_icmp .ne 47) := ⟨_, xd_51_33, by unfold xf_to; decide +kernel, rfl⟩
theorem xk_51_13 : xk_OkA xp_F (xp_P sc) xp_cl xp_BW xp_NW xp_SW xp_exn 51 13 (.aload 0) := Or.inr ⟨0, rfl, xd_51_36, rfl⟩
theorem xk_51_14 : xk_OkA xp_F (xp_P sc) xp_cl xp_BW xp_NW xp_SW xp_exn 51 14 (.getfield 97) := ⟨_, xd_51_37, rfl, ⟨_, _, _, rfl, by decide, xu_3, Or.inl xwt_78⟩⟩
theorem xk_51_15 : xk_OkA xp_F (xp_P sc) xp_cl xp_BW xp_NW xp_SW xp_exn 51 15 (.aload 0) := Or.inr ⟨0, rfl, xd_51_40, rfl⟩
theorem xk_51_16 : xk_OkA xp_F (xp_P sc) xp_cl xp_BW xp_NW xp_SW xp_exn 51 16 (.getfield 99) := ⟨_, xd_51_41, rfl, ⟨_, _, _, rfl, by decide, xu_3, Or.inl xwt_80⟩⟩
theorem xk_51_17 : xk_OkA xp_F (xp_P sc) xp_cl xp_BW xp_NW xp_SW xp_exn 51 17 (.getfield 32) := ⟨_, xd_51_44, rfl, ⟨_, _, _, rfl, by decide, xu_1, Or.inr ⟨_, xwn_61⟩⟩⟩
theorem xk_51_18 : xk_OkA xp_F (xp_P sc) xp_cl xp_BW xp_NW xp_SW xp_exn 51 18 (.invokeinterface 38 2) := ⟨rfl, Or.inl ⟨xwt_643, rfl⟩, rfl, rfl, xwt_3, by decide +kernel, by decide +kernel, Nat.le_of_ble_eq_true rfl, _, Or.inr ⟨_, xwn_640⟩, Or.inr ⟨xd_51_47, xwt_642, xws_65, ⟨_, _, _, rfl, rfl⟩, by decide +kernel⟩⟩
theorem xk_51_19 : xk_OkA xp_F (xp_P sc) xp_cl xp_BW xp_NW xp_SW xp_exn 51 19 (.istore 1) := Or.inr ⟨1, rfl, xd_51_50, rfl⟩
theorem xk_51_20 : xk_OkA xp_F (xp_P sc) xp_cl xp_BW xp_NW xp_SW xp_exn 51 20 (.iload 1) := Or.inr ⟨1, rfl, xd_51_51, rfl⟩
theorem xk_51_21 : xk_OkA xp_F (xp_P sc) xp_cl xp_BW xp_NW xp_SW xp_exn 51 21 (.iconst (-1)) := Or.inl ⟨xd_51_52, rfl⟩
theorem xk_51_22 : xk_OkA xp_F (xp_P sc) xp_cl xp_BW xp_NW xp_SW xp_exn 51 22 (.if_icmp .ne 25) := ⟨_, xd_51_53, by unfold xf_to; decide +kernel, rfl⟩
theorem xk_51_23 : xk_OkA xp_F (xp_P sc) xp_cl xp_BW xp_NW xp_SW xp_exn 51 23 (.iconst (-1)) := Or.inl ⟨xd_51_56, rfl⟩
theorem xk_51_24 : xk_OkA xp_F (xp_P sc) xp_cl xp_BW xp_NW xp_SW xp_exn 51 24 (.goto 28) := ⟨_, xd_51_57, by unfold xf_to; decide +kernel⟩
theorem xk_51_25 : xk_OkA xp_F (xp_P sc) xp_cl xp_BW xp_NW xp_SW xp_exn 51 25 (.aload 0) := Or.inr ⟨0, rfl, xd_51_60, rfl⟩
theorem xk_51_26 : xk_OkA xp_F (xp_P sc) xp_cl xp_BW xp_NW xp_SW xp_exn 51 26 (.iload 1) := Or.inr ⟨1, rfl, xd_51_61, rfl⟩
theorem xk_51_27 : xk_OkA xp_F (xp_P sc) xp_cl xp_BW xp_NW xp_SW xp_exn 51 27 (.invokeinterface 103 2) := ⟨rfl, Or.inl ⟨xwt_647, rfl⟩, rfl, rfl, xwt_1, by decide +kernel, by decide +kernel, Nat.le_of_ble_eq_true rfl, _, Or.inl xwt_644, Or.inr ⟨xd_51_62, xwt_646, xws_66, ⟨_, _, _, rfl, rfl⟩, by decide +kernel⟩⟩
theorem xk_51_28 : xk_OkA xp_F (xp_P sc) xp_cl xp_BW xp_NW xp_SW xp_exn 51 28 (.istore 2) := Or.inr ⟨2, rfl, xd_51_65, rfl⟩
theorem xk_51_29 : xk_OkA xp_F (xp_P sc) xp_cl xp_BW xp_NW xp_SW xp_exn 51 29 (.iload 2) := Or.inr ⟨2, rfl, xd_51_66, rfl⟩
theorem xk_51_30 : xk_OkA xp_F (xp_P sc) xp_cl xp_BW xp_NW xp_SW xp_exn 51 30 (.iconst (-1)) := Or.inl ⟨xd_51_67, rfl⟩
theorem xk_51_31 : xk_OkA xp_F (xp_P sc) xp_cl xp_BW xp_NW xp_SW xp_exn 51 31 (.if_icmp .ne 42) := ⟨_, xd_51_68, by unfold xf_to; decide +kernel, rfl⟩
theorem xk_51_32 : xk_OkA xp_F (xp_P sc) xp_cl xp_BW xp_NW xp_SW xp_exn 51 32 (.aload 0) := Or.inr ⟨0, rfl, xd_51_71, rfl⟩
theorem xk_51_33 : xk_OkA xp_F (xp_P sc) xp_cl xp_BW xp_NW xp_SW xp_exn 51 33 (.getfield 99) := ⟨_, xd_51_72, rfl, ⟨_, _, _, rfl, by decide, xu_3, Or.inl xwt_80⟩⟩
theorem xk_51_34 : xk_OkA xp_F (xp_P sc) xp_cl xp_BW xp_NW xp_SW xp_exn 51 34 (.invokeinterface 13 1) := ⟨rfl, Or.inl ⟨xwt_313, rfl⟩, rfl, rfl, xwt_4, by decide +kernel, by decide +kernel, Nat.le_of_ble_eq_true rfl, _, Or.inr ⟨_, xwn_310⟩, Or.inr ⟨xd_51_75, xwt_312, xws_20, ⟨_, _, _, rfl, rfl⟩, by decide +kernel⟩⟩
theorem xk_51_35 : xk_OkA xp_F (xp_P sc) xp_cl xp_BW xp_NW xp_SW xp_exn 51 35 (.iload 1) := Or.inr ⟨1, rfl, xd_51_78, rfl⟩
theorem xk_51_36 : xk_OkA xp_F (xp_P sc) xp_cl xp_BW xp_NW xp_SW xp_exn 51 36 (.iconst (-1)) := Or.inl ⟨xd_51_79, rfl⟩
theorem xk_51_37 : xk_OkA xp_F (xp_P sc) xp_cl xp_BW xp_NW xp_SW xp_exn 51 37 (.if_icmp .ne 40) := ⟨_, xd_51_80, by unfold xf_to; decide +kernel, rfl⟩
theorem xk_51_38 : xk_OkA xp_F (xp_P sc) xp_cl xp_BW xp_NW xp_SW xp_exn 51 38 (.iconst 0) := Or.inl ⟨xd_51_83, rfl⟩
theorem xk_51_39 : xk_OkA xp_F (xp_P sc) xp_cl xp_BW xp_NW xp_SW xp_exn 51 39 (.goto 41) := ⟨_, xd_51_84, by unfold xf_to; decide +kernel⟩
theorem xk_51_40 : xk_OkA xp_F (xp_P sc) xp_cl xp_BW xp_NW xp_SW xp_exn 51 40 (.iconst (-1)) := Or.inl ⟨xd_51_87, rfl⟩
theorem xk_51_41 : xk_OkA xp_F (xp_P sc) xp_cl xp_BW xp_NW xp_SW xp_exn 51 41 (.ireturn) := ⟨xd_51_88, rfl⟩
theorem xk_51_42 : xk_OkA xp_F (xp_P sc) xp_cl xp_BW xp_NW xp_SW xp_exn 51 42 (.aload 0) := Or.inr ⟨0, rfl, xd_51_89, rfl⟩
theorem xk_51_43 : xk_OkA xp_F (xp_P sc) xp_cl xp_BW xp_NW xp_SW xp_exn 51 43 (.getfield 99) := ⟨_, xd_51_90, rfl, ⟨_, _, _, rfl, by decide, xu_3, Or.inl xwt_80⟩⟩
theorem xk_51_44 : xk_OkA xp_F (xp_P sc) xp_cl xp_BW xp_NW xp_SW xp_exn 51 44 (.iload 1) := Or.inr ⟨1, rfl, xd_51_93, rfl⟩
theorem xk_51_45 : xk_OkA xp_F (xp_P sc) xp_cl xp_BW xp_NW xp_SW xp_exn 51 45 (.iload 2) := Or.inr ⟨2, rfl, xd_51_94, rfl⟩
theorem xk_51_46 : xk_OkA xp_F (xp_P sc) xp_cl xp_BW xp_NW xp_SW xp_exn 51 46 (.invokeinterface 14 3) := ⟨rfl, Or.inl ⟨xwt_651, rfl⟩, rfl, rfl, xwt_4, by decide +kernel, by decide +kernel, Nat.le_of_ble_eq_true rfl, _, Or.inr ⟨_, xwn_648⟩, Or.inr ⟨xd_51_95, xwt_650, xws_67, ⟨_, _, _, rfl, rfl⟩, by decide +kernel⟩⟩
theorem xk_51_47 : xk_OkA xp_F (xp_P sc) xp_cl xp_BW xp_NW xp_SW xp_exn 51 47 (.aload 0) := Or.inr ⟨0, rfl, xd_51_98, rfl⟩
theorem xk_51_48 : xk_OkA xp_F (xp_P sc) xp_cl xp_BW xp_NW xp_SW xp_exn 51 48 (.invokeinterface 104 1) := ⟨rfl, Or.inl ⟨xwt_655, rfl⟩, rfl, rfl, xwt_1, by decide +kernel, by decide +kernel, Nat.le_of_ble_eq_true rfl, _, Or.inl xwt_652, Or.inr ⟨xd_51_99, xwt_654, xws_68, ⟨_, _, _, rfl, rfl⟩, by decide +kernel⟩⟩
theorem xk_51_49 : xk_OkA xp_F (xp_P sc) xp_cl xp_BW xp_NW xp_SW xp_exn 51 49 (.aload 0) := Or.inr ⟨0, rfl, xd_51_102, rfl⟩
theorem xk_51_50 : xk_OkA xp_F (xp_P sc) xp_cl xp_BW xp_NW xp_SW xp_exn 51 50 (.getfield 97) := ⟨_, xd_51_103, rfl, ⟨_, _, _, rfl, by decide, xu_3, Or.inl xwt_78⟩⟩
theorem xk_51_51 : xk_OkA xp_F (xp_P sc) xp_cl xp_BW xp_NW xp_SW xp_exn 51 51 (.aload 0) := Or.inr ⟨0, rfl, xd_51_106, rfl⟩
theorem xk_51_52 : xk_OkA xp_F (xp_P sc) xp_cl xp_BW xp_NW xp_SW xp_exn 51 52 (.getfield 99) := ⟨_, xd_51_107, rfl, ⟨_, _, _, rfl, by decide, xu_3, Or.inl xwt_80⟩⟩
theorem xk_51_53 : xk_OkA xp_F (xp_P sc) xp_cl xp_BW xp_NW xp_SW xp_exn 51 53 (.getfield 32) := ⟨_, xd_51_110, rfl, ⟨_, _, _, rfl, by decide, xu_1, Or.inr ⟨_, xwn_61⟩⟩⟩
theorem xk_51_54 : xk_OkA xp_F (xp_P sc) xp_cl xp_BW xp_NW xp_SW xp_exn 51 54 (.invokeinterface 37 2) := ⟨rfl, Or.inl ⟨xwt_342, rfl⟩, rfl, rfl, xwt_3, by decide +kernel, by decide +kernel, Nat.le_of_ble_eq_true rfl, _, Or.inr ⟨_, xwn_339⟩, Or.inr ⟨xd_51_113, xwt_341, xws_25, ⟨_, _, _, rfl, rfl⟩, by decide +kernel⟩⟩
theorem xk_51_55 : xk_OkA xp_F (xp_P sc) xp_cl xp_BW xp_NW xp_SW xp_exn 51 55 (.istore 1) := Or.inr ⟨1, rfl, xd_51_116, rfl⟩
theorem xk_51_56 : xk_OkA xp_F (xp_P sc) xp_cl xp_BW xp_NW xp_SW xp_exn 51 56 (.iload 1) := Or.inr ⟨1, rfl, xd_51_117, rfl⟩
theorem xk_51_57 : xk_OkA xp_F (xp_P sc) xp_cl xp_BW xp_NW xp_SW xp_exn 51 57 (.ifCond .ne 61) := ⟨_, xd_51_118, by unfold xf_to; decide +kernel, rfl⟩
theorem xk_51_58 : xk_OkA xp_F (xp_P sc) xp_cl xp_BW xp_NW xp_SW xp_exn 51 58 (.aload 0) := Or.inr ⟨0, rfl, xd_51_121, rfl⟩
theorem xk_51_59 : xk_OkA xp_F (xp_P sc) xp_cl xp_BW xp_NW xp_SW xp_exn 51 59 (.getfield 99) := ⟨_, xd_51_122, rfl, ⟨_, _, _, rfl, by decide, xu_3, Or.inl xwt_80⟩⟩
theorem xk_51_60 : xk_OkA xp_F (xp_P sc) xp_cl xp_BW xp_NW xp_SW xp_exn 51 60 (.invokeinterface 13 1) := ⟨rfl, Or.inl ⟨xwt_313, rfl⟩, rfl, rfl, xwt_4, by decide +kernel, by decide +kernel, Nat.le_of_ble_eq_true rfl, _, Or.inr ⟨_, xwn_310⟩, Or.inr ⟨xd_51_125, xwt_312, xws_20, ⟨_, _, _, rfl, rfl⟩, by decide +kernel⟩⟩
theorem xk_51_61 : xk_OkA xp_F (xp_P sc) xp_cl xp_BW xp_NW xp_SW xp_exn 51 61 (.iload 1) := Or.inr ⟨1, rfl, xd_51_128, rfl⟩
theorem xk_51_62 : xk_OkA xp_F (xp_P sc) xp_cl xp_BW xp_NW xp_SW xp_exn 51 62 (.ireturn) := ⟨xd_51_129, rfl⟩
theorem xl_51 : xk_OkL xp_F (xp_P sc) xp_cl xp_BW xp_NW xp_SW xp_exn 51 0 xc_51 := ⟨xk_51_0, xk_51_1, xk_51_2, xk_51_3, xk_51_4, xk_51_5, xk_51_6, xk_51_7, xk_51_8, xk_51_9, xk_51_10, xk_51_11, xk_51_12, xk_51_13, xk_51_14, xk_51_15, xk_51_16, xk_51_17, xk_51_18, xk_51_19, xk_51_20, xk_51_21, xk_51_22, xk_51_23, xk_51_24, xk_51_25, xk_51_26, xk_51_27, xk_51_28, xk_51_29, xk_51_30, xk_51_31, xk_51_32, xk_51_33, xk_51_34, xk_51_35, xk_51_36, xk_51_37, xk_51_38, xk_51_39, xk_51_40, xk_51_41, xk_51_42, xk_51_43, xk_51_44, xk_51_45, xk_51_46, xk_51_47, xk_51_48, xk_51_49, xk_51_50, xk_51_51, xk_51_52, xk_51_53, xk_51_54, xk_51_55, xk_51_56, xk_51_57, xk_51_58, xk_51_59, xk_51_60, xk_51_61, xk_51_62, trivial⟩
theorem xd_52_0 : decode prog_1_method_14_code 0 = .ok (.aload_n 0, 1) := by decide +kernel
theorem xd_52_1 : decode prog_1_method_14_code 1 = .ok (.getfield 29, 3) := by decide +kernel
theorem xd_52_4 : decode prog_1_method_14_code 4 = .ok (.getfield 104, 3) := by decide +kernel
theorem xd_52_7 : decode prog_1_method_14_code 7 = .ok (.ireturn, 1) := by decide +kernel
theorem xk_52_0 : xk_OkA xp_F (xp_P sc) xp_cl xp_BW xp_NW xp_SW xp_exn 52 0 (.aload 0) := Or.inr ⟨0, rfl, xd_52_0, rfl⟩
theorem xk_52_1 : xk_OkA xp_F (xp_P sc) xp_cl xp_BW xp_NW xp_SW xp_exn 52 1 (.getfield 99) := ⟨_, xd_52_1, rfl, ⟨_, _, _, rfl, by decide, xu_3, Or.inl xwt_80⟩⟩
theorem xk_52_2 : xk_OkA xp_F (xp_P sc) xp_cl xp_BW xp_NW xp_SW xp_exn 52 2 (.getfield 32) := ⟨_, xd_52_4, rfl, ⟨_, _, _, rfl, by decide, xu_1, Or.inr ⟨_, xwn_61⟩⟩⟩
theorem xk_52_3 : xk_OkA xp_F (xp_P sc) xp_cl xp_BW xp_NW xp_SW xp_exn 52 3 (.ireturn) := ⟨xd_52_7, rfl⟩
theorem xl_52 : xk_OkL xp_F (xp_P sc) xp_cl xp_BW xp_NW xp_SW xp_exn 52 0 xc_52 := ⟨xk_52_0, xk_52_1, xk_52_2, xk_52_3, trivial⟩
theorem xd_53_0 : decode prog_1_method_15_code 0 = .ok (.aload_n 0, 1) := by decide +kernel
theorem xd_53_1 : decode prog_1_method_15_code 1 = .ok (.invokevirtual 41, 3) := by decide +kernel
theorem xd_53_4 : decode prog_1_method_15_code 4 = .ok (.aload_n 0, 1) := by decide +kernel
theorem xd_53_5 : decode prog_1_method_15_code 5 = .ok (.iload_n 1, 1) := by decide +kernel
theorem xd_53_6 : decode prog_1_method_15_code 6 = .ok (.invokevirtual 140, 3) := by decide +kernel
theorem xd_53_9 : decode prog_1_method_15_code 9 = .ok (.iload_n 2, 1) := by decide +kernel
theorem xd_53_10 : decode prog_1_method_15_code 10 = .ok (.tableswitch 63 0 3 #[30, 39, 48, 57], 30) := by decide +kernel
theorem xd_53_40 : decode prog_1_method_15_code 40 = .ok (.aload_n 0, 1) := by decide +kernel
theorem xd_53_41 : decode prog_1_method_15_code 41 = .ok (.getfield 19, 3) := by decide +kernel
theorem xd_53_44 : decode prog_1_method_15_code 44 = .ok (.iload_n 1, 1) := by decide +kernel
theorem xd_53_45 : decode prog_1_method_15_code 45 = .ok (.invokevirtual 151, 3) := by decide +kernel
theorem xd_53_48 : decode prog_1_method_15_code 48 = .ok (.ireturn, 1) := by decide +kernel
theorem xd_53_49 : decode prog_1_method_15_code 49 = .ok (.aload_n 0, 1) := by decide +kernel
theorem xd_53_50 : decode prog_1_method_15_code 50 = .ok (.getfield 19, 3) := by decide +kernel
theorem xd_53_53 : decode prog_1_method_15_code 53 = .ok (.iload_n 1, 1) := by decide +kernel
theorem xd_53_54 : decode prog_1_method_15_code 54 = .ok (.invokevirtual 146, 3) := by decide +kernel
theorem xd_53_57 : decode prog_1_method_15_code 57 = .ok (.ireturn, 1) := by decide +kernel
theorem xd_53_58 : decode prog_1_method_15_code 58 = .ok (.aload_n 0, 1) := by decide +kernel
theorem xd_53_59 : decode prog_1_method_15_code 59 = .ok (.getfield 19, 3) := by decide +kernel
theorem xd_53_62 : decode prog_1_method_15_code 62 = .ok (.iload_n 1, 1) := by decide +kernel
theorem xd_53_63 : decode prog_1_method_15_code 63 = .ok (.invokevirtual 143, 3) := by decide +kernel
theorem xd_53_66 : decode prog_1_method_15_code 66 = .ok (.ireturn, 1) := by decide +kernel
theorem xd_53_67 : decode prog_1_method_15_code 67 = .ok (.aload_n 0, 1) := by decide +kernel
theorem xd_53_68 : decode prog_1_method_15_code 68 = .ok (.iload_n 1, 1) := by decide +kernel
theorem xd_53_69 : decode prog_1_method_15_code 69 = .ok (.invokevirtual 227, 3) := by decide +kernel
theorem xd_53_72 : decode prog_1_method_15_code 72 = .ok (.ireturn, 1) := by decide +kernel
theorem xd_53_73 : decode prog_1_method_15_code 73 = .ok (.new 48, 3) := by decide +kernel
theorem xd_53_76 : decode prog_1_method_15_code 76 = .ok (.dup, 1) := by decide +kernel
theorem xd_53_77 : decode prog_1_method_15_code 77 = .ok (.ldc 230, 2) := by decide +kernel
theorem xd_53_79 : decode prog_1_method_15_code 79 = .ok (.invokespecial 52, 3) := by decide +kernel
theorem xd_53_82 : decode prog_1_method_15_code 82 = .ok (.athrow, 1) := by decide +kernel
theorem xk_53_0 : xk_OkA xp_F (xp_P sc) xp_cl xp_BW xp_NW xp_SW xp_exn 53 0 (.aload 0) := Or.inr ⟨0, rfl, xd_53_0, rfl⟩
theorem xk_53_1 : xk_OkA xp_F (xp_P sc) xp_cl xp_BW xp_NW xp_SW xp_exn 53 1 (.invokeinterface 62 1) := ⟨rfl, Or.inl ⟨xwt_121, rfl⟩, rfl, rfl, xwt_1, by decide +kernel, by decide +kernel, Nat.le_of_ble_eq_true rfl, _, Or.inl xwt_118, Or.inr ⟨xd_53_1, xwt_120, xws_1, ⟨_, _, _, rfl, rfl⟩, by decide +kernel⟩⟩
theorem xk_53_2 : xk_OkA xp_F (xp_P sc) xp_cl xp_BW xp_NW xp_SW xp_exn 53 2 (.aload 0) := Or.inr ⟨0, rfl, xd_53_4, rfl⟩
theorem xk_53_3 : xk_OkA xp_F (xp_P sc) xp_cl xp_BW xp_NW xp_SW xp_exn 53 3 (.iload 1) := Or.inr ⟨1, rfl, xd_53_5, rfl⟩
theorem xk_53_4 : xk_OkA xp_F (xp_P sc) xp_cl xp_BW xp_NW xp_SW xp_exn 53 4 (.invokeinterface 68 2) := ⟨rfl, Or.inl ⟨xwt_481, rfl⟩, rfl, rfl, xwt_1, by decide +kernel, by decide +kernel, Nat.le_of_ble_eq_true rfl, _, Or.inl xwt_478, Or.inr ⟨xd_53_6, xwt_480, xws_47, ⟨_, _, _, rfl, rfl⟩, by decide +kernel⟩⟩
theorem xk_53_5 : xk_OkA xp_F (xp_P sc) xp_cl xp_BW xp_NW xp_SW xp_exn 53 5 (.iload 2) := Or.inr ⟨2, rfl, xd_53_9, rfl⟩
theorem xk_53_6 : xk_OkA xp_F (xp_P sc) xp_cl xp_BW xp_NW xp_SW xp_exn 53 6 (.tableswitch 26 0 3 #[7, 12, 17, 22]) := ⟨_, _, _, xd_53_10, by unfold xf_to; decide +kernel, xk_tsw (by decide +kernel)⟩
theorem xk_53_7 : xk_OkA xp_F (xp_P sc) xp_cl xp_BW xp_NW xp_SW xp_exn 53 7 (.aload 0) := Or.inr ⟨0, rfl, xd_53_40, rfl⟩
theorem xk_53_8 : xk_OkA xp_F (xp_P sc) xp_cl xp_BW xp_NW xp_SW xp_exn 53 8 (.getfield 97) := ⟨_, xd_53_41, rfl, ⟨_, _, _, rfl, by decide, xu_3, Or.inl xwt_78⟩⟩
theorem xk_53_9 : xk_OkA xp_F (xp_P sc) xp_cl xp_BW xp_NW xp_SW xp_exn 53 9 (.iload 1) := Or.inr ⟨1, rfl, xd_53_44, rfl⟩
theorem xk_53_10 : xk_OkA xp_F (xp_P sc) xp_cl xp_BW xp_NW xp_SW xp_exn 53 10 (.invokeinterface 29 2) := ⟨rfl, Or.inl ⟨xwt_409, rfl⟩, rfl, rfl, xwt_3, by decide +kernel, by decide +kernel, Nat.le_of_ble_eq_true rfl, _, Or.inr ⟨_, xwn_406⟩, Or.inr ⟨xd_53_45, xwt_408, xws_34, ⟨_, _, _, rfl, rfl⟩, by decide +kernel⟩⟩
theorem xk_53_11 : xk_OkA xp_F (xp_P sc) xp_cl xp_BW xp_NW xp_SW xp_exn 53 11 (.ireturn) := ⟨xd_53_48, rfl⟩
theorem xk_53_12 : xk_OkA xp_F (xp_P sc) xp_cl xp_BW xp_NW xp_SW xp_exn 53 12 (.aload 0) := Or.inr ⟨0, rfl, xd_53_49, rfl⟩
theorem xk_53_13 : xk_OkA xp_F (xp_P sc) xp_cl xp_BW xp_NW xp_SW xp_exn 53 13 (.getfield 97) := ⟨_, xd_53_50, rfl, ⟨_, _, _, rfl, by decide, xu_3, Or.inl xwt_78⟩⟩
theorem xk_53_14 : xk_OkA xp_F (xp_P sc) xp_cl xp_BW xp_NW xp_SW xp_exn 53 14 (.iload 1) := Or.inr ⟨1, rfl, xd_53_53, rfl⟩
theorem xk_53_15 : xk_OkA xp_F (xp_P sc) xp_cl xp_BW xp_NW xp_SW xp_exn 53 15 (.invokeinterface 30 2) := ⟨rfl, Or.inl ⟨xwt_429, rfl⟩, rfl, rfl, xwt_3, by decide +kernel, by decide +kernel, Nat.le_of_ble_eq_true rfl, _, Or.inr ⟨_, xwn_426⟩, Or.inr ⟨xd_53_54, xwt_428, xws_39, ⟨_, _, _, rfl, rfl⟩, by decide +kernel⟩⟩
theorem xk_53_16 : xk_OkA xp_F (xp_P sc) xp_cl xp_BW xp_NW xp_SW xp_exn 53 16 (.ireturn) := ⟨xd_53_57, rfl⟩
theorem xk_53_17 : xk_OkA xp_F (xp_P sc) xp_cl xp_BW xp_NW xp_SW xp_exn 53 17 (.aload 0) := Or.inr ⟨0, rfl, xd_53_58, rfl⟩
theorem xk_53_18 : xk_OkA xp_F (xp_P sc) xp_cl xp_BW xp_NW xp_SW xp_exn 53 18 (.getfield 97) := ⟨_, xd_53_59, rfl, ⟨_, _, _, rfl, by decide, xu_3, Or.inl xwt_78⟩⟩
theorem xk_53_19 : xk_OkA xp_F (xp_P sc) xp_cl xp_BW xp_NW xp_SW xp_exn 53 19 (.iload 1) := Or.inr ⟨1, rfl, xd_53_62, rfl⟩
theorem xk_53_20 : xk_OkA xp_F (xp_P sc) xp_cl xp_BW xp_NW xp_SW xp_exn 53 20 (.invokeinterface 31 2) := ⟨rfl, Or.inl ⟨xwt_413, rfl⟩, rfl, rfl, xwt_3, by decide +kernel, by decide +kernel, Nat.le_of_ble_eq_true rfl, _, Or.inr ⟨_, xwn_410⟩, Or.inr ⟨xd_53_63, xwt_412, xws_35, ⟨_, _, _, rfl, rfl⟩, by decide +kernel⟩⟩
theorem xk_53_21 : xk_OkA xp_F (xp_P sc) xp_cl xp_BW xp_NW xp_SW xp_exn 53 21 (.ireturn) := ⟨xd_53_66, rfl⟩
theorem xk_53_22 : xk_OkA xp_F (xp_P sc) xp_cl xp_BW xp_NW xp_SW xp_exn 53 22 (.aload 0) := Or.inr ⟨0, rfl, xd_53_67, rfl⟩
theorem xk_53_23 : xk_OkA xp_F (xp_P sc) xp_cl xp_BW xp_NW xp_SW xp_exn 53 23 (.iload 1) := Or.inr ⟨1, rfl, xd_53_68, rfl⟩
theorem xk_53_24 : xk_OkA xp_F (xp_P sc) xp_cl xp_BW xp_NW xp_SW xp_exn 53 24 (.invokeinterface 76 2) := ⟨rfl, Or.inl ⟨xwt_566, rfl⟩, rfl, rfl, xwt_1, by decide +kernel, by decide +kernel, Nat.le_of_ble_eq_true rfl, _, Or.inl xwt_563, Or.inr ⟨xd_53_69, xwt_565, xws_56, ⟨_, _, _, rfl, rfl⟩, by decide +kernel⟩⟩
theorem xk_53_25 : xk_OkA xp_F (xp_P sc) xp_cl xp_BW xp_NW xp_SW xp_exn 53 25 (.ireturn) := ⟨xd_53_72, rfl⟩
theorem xk_53_26 : xk_OkA xp_F (xp_P sc) xp_cl xp_BW xp_NW xp_SW xp_exn 53 26 (.new 1) := ⟨48, 230, 52, _, xp_chain, xd_53_73, xd_53_76, List.mem_of_getElem? (i := 20) rfl, xwt_198, xwt_10, by decide +kernel, by decide +kernel, rfl, Or.inl ⟨xa_3_1, xo_3_1, by decide, by decide, Or.inl ⟨xd_53_77, xd_53_79, xd_53_82⟩⟩⟩
theorem xl_53 : xk_OkL xp_F (xp_P sc) xp_cl xp_BW xp_NW xp_SW xp_exn 53 0 xc_53 := ⟨xk_53_0, xk_53_1, xk_53_2, xk_53_3, xk_53_4, xk_53_5, xk_53_6, xk_53_7, xk_53_8, xk_53_9, xk_53_10, xk_53_11, xk_53_12, xk_53_13, xk_53_14, xk_53_15, xk_53_16, xk_53_17, xk_53_18, xk_53_19, xk_53_20, xk_53_21, xk_53_22, xk_53_23, xk_53_24, xk_53_25, xk_53_26, trivial⟩
theorem xd_54_0 : decode prog_1_method_16_code 0 = .ok (.aload_n 0, 1) := by decide +kernel
theorem xd_54_1 : decode prog_1_method_16_code 1 = .ok (.invokevirtual 41, 3) := by decide +kernel
theorem xd_54_4 : decode prog_1_method_16_code 4 = .ok (.aload_n 0, 1) := by decide +kernel
theorem xd_54_5 : decode prog_1_method_16_code 5 = .ok (.iload_n 1, 1) := by decide +kernel
theorem xd_54_6 : decode prog_1_method_16_code 6 = .ok (.invokevirtual 140, 3) := by decide +kernel
theorem xd_54_9 : decode prog_1_method_16_code 9 = .ok (.iload_n 2, 1) := by decide +kernel
theorem xd_54_10 : decode prog_1_method_16_code 10 = .ok (.ifCond .lt 17, 3) := by decide +kernel
theorem xd_54_13 : decode prog_1_method_16_code 13 = .ok (.iload_n 2, 1) := by decide +kernel
theorem xd_54_14 : decode prog_1_method_16_code 14 = .ok (.iconst 5, 1) := by decide +kernel
theorem xd_54_15 : decode prog_1_method_16_code 15 = .ok (.if_icmp .ge 12, 3) := by decide +kernel
theorem xd_54_18 : decode prog_1_method_16_code 18 = .ok (.iload_n 3, 1) := by decide +kernel
theorem xd_54_19 : decode prog_1_method_16_code 19 = .ok (.ifCond .lt 8, 3) := by decide +kernel
theorem xd_54_22 : decode prog_1_method_16_code 22 = .ok (.iload_n 3, 1) := by decide +kernel
theorem xd_54_23 : decode prog_1_method_16_code 23 = .ok (.iconst 2, 1) := by decide +kernel
theorem xd_54_24 : decode prog_1_method_16_code 24 = .ok (.if_icmp .lt 5, 3) := by decide +kernel
theorem xd_54_27 : decode prog_1_method_16_code 27 = .ok (.iconst (-1), 1) := by decide +kernel
theorem xd_54_28 : decode prog_1_method_16_code 28 = .ok (.ireturn, 1) := by decide +kernel
theorem xd_54_29 : decode prog_1_method_16_code 29 = .ok (.aload_n 0, 1) := by decide +kernel
theorem xd_54_30 : decode prog_1_method_16_code 30 = .ok (.getfield 19, 3) := by decide +kernel
theorem xd_54_33 : decode prog_1_method_16_code 33 = .ok (.iload_n 1, 1) := by decide +kernel
theorem xd_54_34 : decode prog_1_method_16_code 34 = .ok (.iload_n 2, 1) := by decide +kernel
theorem xd_54_35 : decode prog_1_method_16_code 35 = .ok (.iload_n 3, 1) := by decide +kernel
theorem xd_54_36 : decode prog_1_method_16_code 36 = .ok (.invokestatic 186, 3) := by decide +kernel
theorem xd_54_39 : decode prog_1_method_16_code 39 = .ok (.invokevirtual 199, 3) := by decide +kernel
theorem xd_54_42 : decode prog_1_method_16_code 42 = .ok (.ireturn, 1) := by decide +kernel
theorem xk_54_0 : xk_OkA xp_F (xp_P sc) xp_cl xp_BW xp_NW xp_SW xp_exn 54 0 (.aload 0) := Or.inr ⟨0, rfl, xd_54_0, rfl⟩
theorem xk_54_1 : xk_OkA xp_F (xp_P sc) xp_cl xp_BW xp_NW xp_SW xp_exn 54 1 (.invokeinterface 62 1) := ⟨rfl, Or.inl ⟨xwt_121, rfl⟩, rfl, rfl, xwt_1, by decide +kernel, by decide +kernel, Nat.le_of_ble_eq_true rfl, _, Or.inl xwt_118, Or.inr ⟨xd_54_1, xwt_120, xws_1, ⟨_, _, _, rfl, rfl⟩, by decide +kernel⟩⟩
theorem xk_54_2 : xk_OkA xp_F (xp_P sc) xp_cl xp_BW xp_NW xp_SW xp_exn 54 2 (.aload 0) := Or.inr ⟨0, rfl, xd_54_4, rfl⟩
theorem xk_54_3 : xk_OkA xp_F (xp_P sc) xp_cl xp_BW xp_NW xp_SW xp_exn 54 3 (.iload 1) := Or.inr ⟨1, rfl, xd_54_5, rfl⟩
theorem xk_54_4 : xk_OkA xp_F (xp_P sc) xp_cl xp_BW xp_NW xp_SW xp_exn 54 4 (.invokeinterface 68 2) := ⟨rfl, Or.inl ⟨xwt_481, rfl⟩, rfl, rfl, xwt_1, by decide +kernel, by decide +kernel, Nat.le_of_ble_eq_true rfl, _, Or.inl xwt_478, Or.inr ⟨xd_54_6, xwt_480, xws_47, ⟨_, _, _, rfl, rfl⟩, by decide +kernel⟩⟩
theorem xk_54_5 : xk_OkA xp_F (xp_P sc) xp_cl xp_BW xp_NW xp_SW xp_exn 54 5 (.iload 2) := Or.inr ⟨2, rfl, xd_54_9, rfl⟩
theorem xk_54_6 : xk_OkA xp_F (xp_P sc) xp_cl xp_BW xp_NW xp_SW xp_exn 54 6 (.ifCond .lt 15) := ⟨_, xd_54_10, by unfold xf_to; decide +kernel, rfl⟩
theorem xk_54_7 : xk_OkA xp_F (xp_P sc) xp_cl xp_BW xp_NW xp_SW xp_exn 54 7 (.iload 2) := Or.inr ⟨2, rfl, xd_54_13, rfl⟩
theorem xk_54_8 : xk_OkA xp_F (xp_P sc) xp_cl xp_BW xp_NW xp_SW xp_exn 54 8 (.iconst 5) := Or.inl ⟨xd_54_14, rfl⟩
theorem xk_54_9 : xk_OkA xp_F (xp_P sc) xp_cl xp_BW xp_NW xp_SW xp_exn 54 9 (.if_icmp .ge 15) := ⟨_, xd_54_15, by unfold xf_to; decide +kernel, rfl⟩
theorem xk_54_10 : xk_OkA xp_F (xp_P sc) xp_cl xp_BW xp_NW xp_SW xp_exn 54 10 (.iload 3) := Or.inr ⟨3, rfl, xd_54_18, rfl⟩
theorem xk_54_11 : xk_OkA xp_F (xp_P sc) xp_cl xp_BW xp_NW xp_SW xp_exn 54 11 (.ifCond .lt 15) := ⟨_, xd_54_19, by unfold xf_to; decide +kernel, rfl⟩
theorem xk_54_12 : xk_OkA xp_F (xp_P sc) xp_cl xp_BW xp_NW xp_SW xp_exn 54 12 (.iload 3) := Or.inr ⟨3, rfl, xd_54_22, rfl⟩
theorem xk_54_13 : xk_OkA xp_F (xp_P sc) xp_cl xp_BW xp_NW xp_SW xp_exn 54 13 (.iconst 2) := Or.inl ⟨xd_54_23, rfl⟩
theorem xk_54_14 : xk_OkA xp_F (xp_P sc) xp_cl xp_BW xp_NW xp_SW xp_exn 54 14 (.if_icmp .lt 17) := ⟨_, xd_54_24, by unfold xf_to; decide +kernel, rfl⟩
theorem xk_54_15 : xk_OkA xp_F (xp_P sc) xp_cl xp_BW xp_NW xp_SW xp_exn 54 15 (.iconst (-1)) := Or.inl ⟨xd_54_27, rfl⟩
theorem xk_54_16 : xk_OkA xp_F (xp_P sc) xp_cl xp_BW xp_NW xp_SW xp_exn 54 16 (.ireturn) := ⟨xd_54_28, rfl⟩
theorem xk_54_17 : xk_OkA xp_F (xp_P sc) xp_cl xp_BW xp_NW xp_SW xp_exn 54 17 (.aload 0) := Or.inr ⟨0, rfl, xd_54_29, rfl⟩
theorem xk_54_18 : xk_OkA xp_F (xp_P sc) xp_cl xp_BW xp_NW xp_SW xp_exn 54 18 (.getfield 97) := ⟨_, xd_54_30, rfl, ⟨_, _, _, rfl, by decide, xu_3, Or.inl xwt_78⟩⟩
theorem xk_54_19 : xk_OkA xp_F (xp_P sc) xp_cl xp_BW xp_NW xp_SW xp_exn 54 19 (.iload 1) := Or.inr ⟨1, rfl, xd_54_33, rfl⟩
theorem xk_54_20 : xk_OkA xp_F (xp_P sc) xp_cl xp_BW xp_NW xp_SW xp_exn 54 20 (.iload 2) := Or.inr ⟨2, rfl, xd_54_34, rfl⟩
theorem xk_54_21 : xk_OkA xp_F (xp_P sc) xp_cl xp_BW xp_NW xp_SW xp_exn 54 21 (.iload 3) := Or.inr ⟨3, rfl, xd_54_35, rfl⟩
theorem xk_54_22 : xk_OkA xp_F (xp_P sc) xp_cl xp_BW xp_NW xp_SW xp_exn 54 22 (.invokeinterface 74 3) := ⟨rfl, Or.inl ⟨xwt_435, rfl⟩, rfl, rfl, xwt_1, by decide +kernel, by decide +kernel, Nat.le_of_ble_eq_true rfl, _, Or.inl xwt_433, Or.inl ⟨xd_54_36, xwt_434, rfl, by decide +kernel⟩⟩
theorem xk_54_23 : xk_OkA xp_F (xp_P sc) xp_cl xp_BW xp_NW xp_SW xp_exn 54 23 (.invokeinterface 34 2) := ⟨rfl, Or.inl ⟨xwt_322, rfl⟩, rfl, rfl, xwt_3, by decide +kernel, by decide +kernel, Nat.le_of_ble_eq_true rfl, _, Or.inr ⟨_, xwn_319⟩, Or.inr ⟨xd_54_39, xwt_321, xws_22, ⟨_, _, _, rfl, rfl⟩, by decide +kernel⟩⟩
theorem xk_54_24 : xk_OkA xp_F (xp_P sc) xp_cl xp_BW xp_NW xp_SW xp_exn 54 24 (.ireturn) := ⟨xd_54_42, rfl⟩
theorem xl_54 : xk_OkL xp_F (xp_P sc) xp_cl xp_BW xp_NW xp_SW xp_exn 54 0 xc_54 := ⟨xk_54_0, xk_54_1, xk_54_2, xk_54_3, xk_54_4, xk_54_5, xk_54_6, xk_54_7, xk_54_8, xk_54_9, xk_54_10, xk_54_11, xk_54_12, xk_54_13, xk_54_14, xk_54_15, xk_54_16, xk_54_17, xk_54_18, xk_54_19, xk_54_20, xk_54_21, xk_54_22, xk_54_23, xk_54_24, trivial⟩
theorem xd_55_0 : decode prog_1_method_17_code 0 = .ok (.aload_n 0, 1) := by decide +kernel
theorem xd_55_1 : decode prog_1_method_17_code 1 = .ok (.invokevirtual 41, 3) := by decide +kernel
theorem xd_55_4 : decode prog_1_method_17_code 4 = .ok (.iload_n 1, 1) := by decide +kernel
theorem xd_55_5 : decode prog_1_method_17_code 5 = .ok (.invokestatic 44, 3) := by decide +kernel
theorem xd_55_8 : decode prog_1_method_17_code 8 = .ok (.aload_n 0, 1) := by decide +kernel
theorem xd_55_9 : decode prog_1_method_17_code 9 = .ok (.getfield 19, 3) := by decide +kernel
theorem xd_55_12 : decode prog_1_method_17_code 12 = .ok (.iload_n 1, 1) := by decide +kernel
theorem xd_55_13 : decode prog_1_method_17_code 13 = .ok (.invokevirtual 55, 3) := by decide +kernel
theorem xd_55_16 : decode prog_1_method_17_code 16 = .ok (.ifCond .eq 15, 3) := by decide +kernel
theorem xd_55_19 : decode prog_1_method_17_code 19 = .ok (.aload_n 0, 1) := by decide +kernel
theorem xd_55_20 : decode prog_1_method_17_code 20 = .ok (.aload_n 0, 1) := by decide +kernel
theorem xd_55_21 : decode prog_1_method_17_code 21 = .ok (.getfield 19, 3) := by decide +kernel
theorem xd_55_24 : decode prog_1_method_17_code 24 = .ok (.iload_n 1, 1) := by decide +kernel
theorem xd_55_25 : decode prog_1_method_17_code 25 = .ok (.invokevirtual 232, 3) := by decide +kernel
theorem xd_55_28 : decode prog_1_method_17_code 28 = .ok (.goto 4, 3) := by decide +kernel
theorem xd_55_31 : decode prog_1_method_17_code 31 = .ok (.iconst (-1), 1) := by decide +kernel
theorem xd_55_32 : decode prog_1_method_17_code 32 = .ok (.ireturn, 1) := by decide +kernel
theorem xk_55_0 : xk_OkA xp_F (xp_P sc) xp_cl xp_BW xp_NW xp_SW xp_exn 55 0 (.aload 0) := Or.inr ⟨0, rfl, xd_55_0, rfl⟩
theorem xk_55_1 : xk_OkA xp_F (xp_P sc) xp_cl xp_BW xp_NW xp_SW xp_exn 55 1 (.invokeinterface 62 1) := ⟨rfl, Or.inl ⟨xwt_121, rfl⟩, rfl, rfl, xwt_1, by decide +kernel, by decide +kernel, Nat.le_of_ble_eq_true rfl, _, Or.inl xwt_118, Or.inr ⟨xd_55_1, xwt_120, xws_1, ⟨_, _, _, rfl, rfl⟩, by decide +kernel⟩⟩
theorem xk_55_2 : xk_OkA xp_F (xp_P sc) xp_cl xp_BW xp_NW xp_SW xp_exn 55 2 (.iload 1) := Or.inr ⟨1, rfl, xd_55_4, rfl⟩
theorem xk_55_3 : xk_OkA xp_F (xp_P sc) xp_cl xp_BW xp_NW xp_SW xp_exn 55 3 (.invokeinterface 65 1) := ⟨rfl, Or.inl ⟨xwt_194, rfl⟩, rfl, rfl, xwt_1, by decide +kernel, by decide +kernel, Nat.le_of_ble_eq_true rfl, _, Or.inl xwt_192, Or.inl ⟨xd_55_5, xwt_193, rfl, by decide +kernel⟩⟩
theorem xk_55_4 : xk_OkA xp_F (xp_P sc) xp_cl xp_BW xp_NW xp_SW xp_exn 55 4 (.aload 0) := Or.inr ⟨0, rfl, xd_55_8, rfl⟩
theorem xk_55_5 : xk_OkA xp_F (xp_P sc) xp_cl xp_BW xp_NW xp_SW xp_exn 55 5 (.getfield 97) := ⟨_, xd_55_9, rfl, ⟨_, _, _, rfl, by decide, xu_3, Or.inl xwt_78⟩⟩
theorem xk_55_6 : xk_OkA xp_F (xp_P sc) xp_cl xp_BW xp_NW xp_SW xp_exn 55 6 (.iload 1) := Or.inr ⟨1, rfl, xd_55_12, rfl⟩
theorem xk_55_7 : xk_OkA xp_F (xp_P sc) xp_cl xp_BW xp_NW xp_SW xp_exn 55 7 (.invokeinterface 22 2) := ⟨rfl, Or.inl ⟨xwt_218, rfl⟩, rfl, rfl, xwt_3, by decide +kernel, by decide +kernel, Nat.le_of_ble_eq_true rfl, _, Or.inr ⟨_, xwn_215⟩, Or.inr ⟨xd_55_13, xwt_217, xws_3, ⟨_, _, _, rfl, rfl⟩, by decide +kernel⟩⟩
theorem xk_55_8 : xk_OkA xp_F (xp_P sc) xp_cl xp_BW xp_NW xp_SW xp_exn 55 8 (.ifCond .eq 15) := ⟨_, xd_55_16, by unfold xf_to; decide +kernel, rfl⟩
theorem xk_55_9 : xk_OkA xp_F (xp_P sc) xp_cl xp_BW xp_NW xp_SW xp_exn 55 9 (.aload 0) := Or.inr ⟨0, rfl, xd_55_19, rfl⟩
theorem xk_55_10 : xk_OkA xp_F (xp_P sc) xp_cl xp_BW xp_NW xp_SW xp_exn 55 10 (.aload 0) := Or.inr ⟨0, rfl, xd_55_20, rfl⟩
theorem xk_55_11 : xk_OkA xp_F (xp_P sc) xp_cl xp_BW xp_NW xp_SW xp_exn 55 11 (.getfield 97) := ⟨_, xd_55_21, rfl, ⟨_, _, _, rfl, by decide, xu_3, Or.inl xwt_78⟩⟩
theorem xk_55_12 : xk_OkA xp_F (xp_P sc) xp_cl xp_BW xp_NW xp_SW xp_exn 55 12 (.iload 1) := Or.inr ⟨1, rfl, xd_55_24, rfl⟩
theorem xk_55_13 : xk_OkA xp_F (xp_P sc) xp_cl xp_BW xp_NW xp_SW xp_exn 55 13 (.invokeinterface 90 3) := ⟨rfl, Or.inl ⟨xwt_446, rfl⟩, rfl, rfl, xwt_1, by decide +kernel, by decide +kernel, Nat.le_of_ble_eq_true rfl, _, Or.inl xwt_443, Or.inr ⟨xd_55_25, xwt_445, xws_41, ⟨_, _, _, rfl, rfl⟩, by decide +kernel⟩⟩
theorem xk_55_14 : xk_OkA xp_F (xp_P sc) xp_cl xp_BW xp_NW xp_SW xp_exn 55 14 (.goto 16) := ⟨_, xd_55_28, by unfold xf_to; decide +kernel⟩
theorem xk_55_15 : xk_OkA xp_F (xp_P sc) xp_cl xp_BW xp_NW xp_SW xp_exn 55 15 (.iconst (-1)) := Or.inl ⟨xd_55_31, rfl⟩
theorem xk_55_16 : xk_OkA xp_F (xp_P sc) xp_cl xp_BW xp_NW xp_SW xp_exn 55 16 (.ireturn) := ⟨xd_55_32, rfl⟩
theorem xl_55 : xk_OkL xp_F (xp_P sc) xp_cl xp_BW xp_NW xp_SW xp_exn 55 0 xc_55 := ⟨xk_55_0, xk_55_1, xk_55_2, xk_55_3, xk_55_4, xk_55_5, xk_55_6, xk_55_7, xk_55_8, xk_55_9, xk_55_10, xk_55_11, xk_55_12, xk_55_13, xk_55_14, xk_55_15, xk_55_16, trivial⟩
theorem xd_56_0 : decode prog_1_method_18_code 0 = .ok (.aload_n 0, 1) := by decide +kernel
theorem xd_56_1 : decode prog_1_method_18_code 1 = .ok (.invokevirtual 41, 3) := by decide +kernel
theorem xd_56_4 : decode prog_1_method_18_code 4 = .ok (.iload_n 1, 1) := by decide +kernel
theorem xd_56_5 : decode prog_1_method_18_code 5 = .ok (.iconst (-1), 1) := by decide +kernel
theorem xd_56_6 : decode prog_1_method_18_code 6 = .ok (.if_icmp .ge 13, 3) := by decide +kernel
theorem xd_56_9 : decode prog_1_method_18_code 9 = .ok (.new 48, 3) := by decide +kernel
theorem xd_56_12 : decode prog_1_method_18_code 12 = .ok (.dup, 1) := by decide +kernel
theorem xd_56_13 : decode prog_1_method_18_code 13 = .ok (.ldc 236, 2) := by decide +kernel
theorem xd_56_15 : decode prog_1_method_18_code 15 = .ok (.invokespecial 52, 3) := by decide +kernel
theorem xd_56_18 : decode prog_1_method_18_code 18 = .ok (.athrow, 1) := by decide +kernel
theorem xd_56_19 : decode prog_1_method_18_code 19 = .ok (.aload_n 0, 1) := by decide +kernel
theorem xd_56_20 : decode prog_1_method_18_code 20 = .ok (.iload_n 1, 1) := by decide +kernel
theorem xd_56_21 : decode prog_1_method_18_code 21 = .ok (.putfield 37, 3) := by decide +kernel
theorem xd_56_24 : decode prog_1_method_18_code 24 = .ok (.return_, 1) := by decide +kernel
theorem xk_56_0 : xk_OkA xp_F (xp_P sc) xp_cl xp_BW xp_NW xp_SW xp_exn 56 0 (.aload 0) := Or.inr ⟨0, rfl, xd_56_0, rfl⟩
theorem xk_56_1 : xk_OkA xp_F (xp_P sc) xp_cl xp_BW xp_NW xp_SW xp_exn 56 1 (.invokeinterface 62 1) := ⟨rfl, Or.inl ⟨xwt_121, rfl⟩, rfl, rfl, xwt_1, by decide +kernel, by decide +kernel, Nat.le_of_ble_eq_true rfl, _, Or.inl xwt_118, Or.inr ⟨xd_56_1, xwt_120, xws_1, ⟨_, _, _, rfl, rfl⟩, by decide +kernel⟩⟩
theorem xk_56_2 : xk_OkA xp_F (xp_P sc) xp_cl xp_BW xp_NW xp_SW xp_exn 56 2 (.iload 1) := Or.inr ⟨1, rfl, xd_56_4, rfl⟩
theorem xk_56_3 : xk_OkA xp_F (xp_P sc) xp_cl xp_BW xp_NW xp_SW xp_exn 56 3 (.iconst (-1)) := Or.inl ⟨xd_56_5, rfl⟩
theorem xk_56_4 : xk_OkA xp_F (xp_P sc) xp_cl xp_BW xp_NW xp_SW xp_exn 56 4 (.if_icmp .ge 6) := ⟨_, xd_56_6, by unfold xf_to; decide +kernel, rfl⟩
theorem xk_56_5 : xk_OkA xp_F (xp_P sc) xp_cl xp_BW xp_NW xp_SW xp_exn 56 5 (.new 1) := ⟨48, 236, 52, _, xp_chain, xd_56_9, xd_56_12, List.mem_of_getElem? (i := 21) rfl, xwt_198, xwt_10, by decide +kernel, by decide +kernel, rfl, Or.inl ⟨xa_3_1, xo_3_1, by decide, by decide, Or.inl ⟨xd_56_13, xd_56_15, xd_56_18⟩⟩⟩
theorem xk_56_6 : xk_OkA xp_F (xp_P sc) xp_cl xp_BW xp_NW xp_SW xp_exn 56 6 (.aload 0) := Or.inr ⟨0, rfl, xd_56_19, rfl⟩
theorem xk_56_7 : xk_OkA xp_F (xp_P sc) xp_cl xp_BW xp_NW xp_SW xp_exn 56 7 (.iload 1) := Or.inr ⟨1, rfl, xd_56_20, rfl⟩
theorem xk_56_8 : xk_OkA xp_F (xp_P sc) xp_cl xp_BW xp_NW xp_SW xp_exn 56 8 (.putfield 101) := ⟨_, xd_56_21, rfl, ⟨_, _, _, rfl, by decide, xu_3, Or.inl xwt_82⟩, xf_3_5⟩
theorem xk_56_9 : xk_OkA xp_F (xp_P sc) xp_cl xp_BW xp_NW xp_SW xp_exn 56 9 (.return_) := ⟨xd_56_24, rfl⟩
theorem xl_56 : xk_OkL xp_F (xp_P sc) xp_cl xp_BW xp_NW xp_SW xp_exn 56 0 xc_56 := ⟨xk_56_0, xk_56_1, xk_56_2, xk_56_3, xk_56_4, xk_56_5, xk_56_6, xk_56_7, xk_56_8, xk_56_9, trivial⟩
theorem xd_57_0 : decode prog_1_method_19_code 0 = .ok (.aload_n 0, 1) := by decide +kernel
theorem xd_57_1 : decode prog_1_method_19_code 1 = .ok (.invokevirtual 41, 3) := by decide +kernel
theorem xd_57_4 : decode prog_1_method_19_code 4 = .ok (.aload_n 0, 1) := by decide +kernel
theorem xd_57_5 : decode prog_1_method_19_code 5 = .ok (.invokevirtual 238, 3) := by decide +kernel
theorem xd_57_8 : decode prog_1_method_19_code 8 = .ok (.return_, 1) := by decide +kernel
theorem xk_57_0 : xk_OkA xp_F (xp_P sc) xp_cl xp_BW xp_NW xp_SW xp_exn 57 0 (.aload 0) := Or.inr ⟨0, rfl, xd_57_0, rfl⟩
theorem xk_57_1 : xk_OkA xp_F (xp_P sc) xp_cl xp_BW xp_NW xp_SW xp_exn 57 1 (.invokeinterface 62 1) := ⟨rfl, Or.inl ⟨xwt_121, rfl⟩, rfl, rfl, xwt_1, by decide +kernel, by decide +kernel, Nat.le_of_ble_eq_true rfl, _, Or.inl xwt_118, Or.inr ⟨xd_57_1, xwt_120, xws_1, ⟨_, _, _, rfl, rfl⟩, by decide +kernel⟩⟩
theorem xk_57_2 : xk_OkA xp_F (xp_P sc) xp_cl xp_BW xp_NW xp_SW xp_exn 57 2 (.aload 0) := Or.inr ⟨0, rfl, xd_57_4, rfl⟩
theorem xk_57_3 : xk_OkA xp_F (xp_P sc) xp_cl xp_BW xp_NW xp_SW xp_exn 57 3 (.invokeinterface 81 1) := ⟨rfl, Or.inl ⟨xwt_309, rfl⟩, rfl, rfl, xwt_1, by decide +kernel, by decide +kernel, Nat.le_of_ble_eq_true rfl, _, Or.inl xwt_306, Or.inr ⟨xd_57_5, xwt_308, xws_19, ⟨_, _, _, rfl, rfl⟩, by decide +kernel⟩⟩
theorem xk_57_4 : xk_OkA xp_F (xp_P sc) xp_cl xp_BW xp_NW xp_SW xp_exn 57 4 (.return_) := ⟨xd_57_8, rfl⟩
theorem xl_57 : xk_OkL xp_F (xp_P sc) xp_cl xp_BW xp_NW xp_SW xp_exn 57 0 xc_57 := ⟨xk_57_0, xk_57_1, xk_57_2, xk_57_3, xk_57_4, trivial⟩
theorem xd_58_0 : decode prog_1_method_20_code 0 = .ok (.aload_n 0, 1) := by decide +kernel
theorem xd_58_1 : decode prog_1_method_20_code 1 = .ok (.invokevirtual 241, 3) := by decide +kernel
theorem xd_58_4 : decode prog_1_method_20_code 4 = .ok (.iload_n 1, 1) := by decide +kernel
theorem xd_58_5 : decode prog_1_method_20_code 5 = .ok (.invokestatic 44, 3) := by decide +kernel
theorem xd_58_8 : decode prog_1_method_20_code 8 = .ok (.iload_n 2, 1) := by decide +kernel
theorem xd_58_9 : decode prog_1_method_20_code 9 = .ok (.aload_n 0, 1) := by decide +kernel
theorem xd_58_10 : decode prog_1_method_20_code 10 = .ok (.getfield 12, 3) := by decide +kernel
theorem xd_58_13 : decode prog_1_method_20_code 13 = .ok (.iload_n 1, 1) := by decide +kernel
theorem xd_58_14 : decode prog_1_method_20_code 14 = .ok (.invokevirtual 59, 3) := by decide +kernel
theorem xd_58_17 : decode prog_1_method_20_code 17 = .ok (.if_icmp .ne 7, 3) := by decide +kernel
theorem xd_58_20 : decode prog_1_method_20_code 20 = .ok (.iconst 1, 1) := by decide +kernel
theorem xd_58_21 : decode prog_1_method_20_code 21 = .ok (.goto 4, 3) := by decide +kernel
theorem xd_58_24 : decode prog_1_method_20_code 24 = .ok (.iconst 0, 1) := by decide +kernel
theorem xd_58_25 : decode prog_1_method_20_code 25 = .ok (.istore_n 3, 1) := by decide +kernel
theorem xd_58_26 : decode prog_1_method_20_code 26 = .ok (.aload_n 0, 1) := by decide +kernel
theorem xd_58_27 : decode prog_1_method_20_code 27 = .ok (.getfield 12, 3) := by decide +kernel
theorem xd_58_30 : decode prog_1_method_20_code 30 = .ok (.iload_n 1, 1) := by decide +kernel
theorem xd_58_31 : decode prog_1_method_20_code 31 = .ok (.iload_n 2, 1) := by decide +kernel
theorem xd_58_32 : decode prog_1_method_20_code 32 = .ok (.ifCond .ne 7, 3) := by decide +kernel
theorem xd_58_35 : decode prog_1_method_20_code 35 = .ok (.iconst 1, 1) := by decide +kernel
theorem xd_58_36 : decode prog_1_method_20_code 36 = .ok (.goto 4, 3) := by decide +kernel
theorem xd_58_39 : decode prog_1_method_20_code 39 = .ok (.iconst 0, 1) := by decide +kernel
theorem xd_58_40 : decode prog_1_method_20_code 40 = .ok (.invokevirtual 244, 3) := by decide +kernel
theorem xd_58_43 : decode prog_1_method_20_code 43 = .ok (.iload_n 3, 1) := by decide +kernel
theorem xd_58_44 : decode prog_1_method_20_code 44 = .ok (.ireturn, 1) := by decide +kernel
theorem xk_58_0 : xk_OkA xp_F (xp_P sc) xp_cl xp_BW xp_NW xp_SW xp_exn 58 0 (.aload 0) := Or.inr ⟨0, rfl, xd_58_0, rfl⟩
theorem xk_58_1 : xk_OkA xp_F (xp_P sc) xp_cl xp_BW xp_NW xp_SW xp_exn 58 1 (.invokeinterface 63 1) := ⟨rfl, Or.inl ⟨xwt_703, rfl⟩, rfl, rfl, xwt_1, by decide +kernel, by decide +kernel, Nat.le_of_ble_eq_true rfl, _, Or.inl xwt_700, Or.inr ⟨xd_58_1, xwt_702, xws_69, ⟨_, _, _, rfl, rfl⟩, by decide +kernel⟩⟩
theorem xk_58_2 : xk_OkA xp_F (xp_P sc) xp_cl xp_BW xp_NW xp_SW xp_exn 58 2 (.iload 1) := Or.inr ⟨1, rfl, xd_58_4, rfl⟩
theorem xk_58_3 : xk_OkA xp_F (xp_P sc) xp_cl xp_BW xp_NW xp_SW xp_exn 58 3 (.invokeinterface 65 1) := ⟨rfl, Or.inl ⟨xwt_194, rfl⟩, rfl, rfl, xwt_1, by decide +kernel, by decide +kernel, Nat.le_of_ble_eq_true rfl, _, Or.inl xwt_192, Or.inl ⟨xd_58_5, xwt_193, rfl, by decide +kernel⟩⟩
theorem xk_58_4 : xk_OkA xp_F (xp_P sc) xp_cl xp_BW xp_NW xp_SW xp_exn 58 4 (.iload 2) := Or.inr ⟨2, rfl, xd_58_8, rfl⟩
theorem xk_58_5 : xk_OkA xp_F (xp_P sc) xp_cl xp_BW xp_NW xp_SW xp_exn 58 5 (.aload 0) := Or.inr ⟨0, rfl, xd_58_9, rfl⟩
theorem xk_58_6 : xk_OkA xp_F (xp_P sc) xp_cl xp_BW xp_NW xp_SW xp_exn 58 6 (.getfield 96) := ⟨_, xd_58_10, rfl, ⟨_, _, _, rfl, by decide, xu_3, Or.inl xwt_77⟩⟩
theorem xk_58_7 : xk_OkA xp_F (xp_P sc) xp_cl xp_BW xp_NW xp_SW xp_exn 58 7 (.iload 1) := Or.inr ⟨1, rfl, xd_58_13, rfl⟩
theorem xk_58_8 : xk_OkA xp_F (xp_P sc) xp_cl xp_BW xp_NW xp_SW xp_exn 58 8 (.invokeinterface 0 2) := ⟨rfl, Or.inl ⟨xwt_226, rfl⟩, rfl, rfl, xwt_2, by decide +kernel, by decide +kernel, Nat.le_of_ble_eq_true rfl, _, Or.inr ⟨_, xwn_223⟩, Or.inr ⟨xd_58_14, xwt_225, xws_5, ⟨_, _, _, rfl, rfl⟩, by decide +kernel⟩⟩
theorem xk_58_9 : xk_OkA xp_F (xp_P sc) xp_cl xp_BW xp_NW xp_SW xp_exn 58 9 (.if_icmp .ne 12) := ⟨_, xd_58_17, by unfold xf_to; decide +kernel, rfl⟩
theorem xk_58_10 : xk_OkA xp_F (xp_P sc) xp_cl xp_BW xp_NW xp_SW xp_exn 58 10 (.iconst 1) := Or.inl ⟨xd_58_20, rfl⟩
theorem xk_58_11 : xk_OkA xp_F (xp_P sc) xp_cl xp_BW xp_NW xp_SW xp_exn 58 11 (.goto 13) := ⟨_, xd_58_21, by unfold xf_to; decide +kernel⟩
theorem xk_58_12 : xk_OkA xp_F (xp_P sc) xp_cl xp_BW xp_NW xp_SW xp_exn 58 12 (.iconst 0) := Or.inl ⟨xd_58_24, rfl⟩
theorem xk_58_13 : xk_OkA xp_F (xp_P sc) xp_cl xp_BW xp_NW xp_SW xp_exn 58 13 (.istore 3) := Or.inr ⟨3, rfl, xd_58_25, rfl⟩
theorem xk_58_14 : xk_OkA xp_F (xp_P sc) xp_cl xp_BW xp_NW xp_SW xp_exn 58 14 (.aload 0) := Or.inr ⟨0, rfl, xd_58_26, rfl⟩
theorem xk_58_15 : xk_OkA xp_F (xp_P sc) xp_cl xp_BW xp_NW xp_SW xp_exn 58 15 (.getfield 96) := ⟨_, xd_58_27, rfl, ⟨_, _, _, rfl, by decide, xu_3, Or.inl xwt_77⟩⟩
theorem xk_58_16 : xk_OkA xp_F (xp_P sc) xp_cl xp_BW xp_NW xp_SW xp_exn 58 16 (.iload 1) := Or.inr ⟨1, rfl, xd_58_30, rfl⟩
theorem xk_58_17 : xk_OkA xp_F (xp_P sc) xp_cl xp_BW xp_NW xp_SW xp_exn 58 17 (.iload 2) := Or.inr ⟨2, rfl, xd_58_31, rfl⟩
theorem xk_58_18 : xk_OkA xp_F (xp_P sc) xp_cl xp_BW xp_NW xp_SW xp_exn 58 18 (.ifCond .ne 21) := ⟨_, xd_58_32, by unfold xf_to; decide +kernel, rfl⟩
theorem xk_58_19 : xk_OkA xp_F (xp_P sc) xp_cl xp_BW xp_NW xp_SW xp_exn 58 19 (.iconst 1) := Or.inl ⟨xd_58_35, rfl⟩
theorem xk_58_20 : xk_OkA xp_F (xp_P sc) xp_cl xp_BW xp_NW xp_SW xp_exn 58 20 (.goto 22) := ⟨_, xd_58_36, by unfold xf_to; decide +kernel⟩
theorem xk_58_21 : xk_OkA xp_F (xp_P sc) xp_cl xp_BW xp_NW xp_SW xp_exn 58 21 (.iconst 0) := Or.inl ⟨xd_58_39, rfl⟩
theorem xk_58_22 : xk_OkA xp_F (xp_P sc) xp_cl xp_BW xp_NW xp_SW xp_exn 58 22 (.invokeinterface 1 3) := ⟨rfl, Or.inl ⟨xwt_708, rfl⟩, rfl, rfl, xwt_2, by decide +kernel, by decide +kernel, Nat.le_of_ble_eq_true rfl, _, Or.inr ⟨_, xwn_705⟩, Or.inr ⟨xd_58_40, xwt_707, xws_70, ⟨_, _, _, rfl, rfl⟩, by decide +kernel⟩⟩
theorem xk_58_23 : xk_OkA xp_F (xp_P sc) xp_cl xp_BW xp_NW xp_SW xp_exn 58 23 (.iload 3) := Or.inr ⟨3, rfl, xd_58_43, rfl⟩
theorem xk_58_24 : xk_OkA xp_F (xp_P sc) xp_cl xp_BW xp_NW xp_SW xp_exn 58 24 (.freturn) := ⟨xd_58_44, rfl⟩
theorem xl_58 : xk_OkL xp_F (xp_P sc) xp_cl xp_BW xp_NW xp_SW xp_exn 58 0 xc_58 := ⟨xk_58_0, xk_58_1, xk_58_2, xk_58_3, xk_58_4, xk_58_5, xk_58_6, xk_58_7, xk_58_8, xk_58_9, xk_58_10, xk_58_11, xk_58_12, xk_58_13, xk_58_14, xk_58_15, xk_58_16, xk_58_17, xk_58_18, xk_58_19, xk_58_20, xk_58_21, xk_58_22, xk_58_23, xk_58_24, trivial⟩
theorem xd_59_0 : decode prog_1_method_21_code 0 = .ok (.aload_n 0, 1) := by decide +kernel
theorem xd_59_1 : decode prog_1_method_21_code 1 = .ok (.invokevirtual 241, 3) := by decide +kernel
theorem xd_59_4 : decode prog_1_method_21_code 4 = .ok (.aload_n 0, 1) := by decide +kernel
theorem xd_59_5 : decode prog_1_method_21_code 5 = .ok (.iconst 1, 1) := by decide +kernel
theorem xd_59_6 : decode prog_1_method_21_code 6 = .ok (.putfield 33, 3) := by decide +kernel
theorem xd_59_9 : decode prog_1_method_21_code 9 = .ok (.aload_n 0, 1) := by decide +kernel
theorem xd_59_10 : decode prog_1_method_21_code 10 = .ok (.invokevirtual 248, 3) := by decide +kernel
theorem xd_59_13 : decode prog_1_method_21_code 13 = .ok (.iconst 0, 1) := by decide +kernel
theorem xd_59_14 : decode prog_1_method_21_code 14 = .ok (.istore_n 1, 1) := by decide +kernel
theorem xd_59_15 : decode prog_1_method_21_code 15 = .ok (.iload_n 1, 1) := by decide +kernel
theorem xd_59_16 : decode prog_1_method_21_code 16 = .ok (.iconst 4, 1) := by decide +kernel
theorem xd_59_17 : decode prog_1_method_21_code 17 = .ok (.if_icmp .ge 48, 3) := by decide +kernel
theorem xd_59_20 : decode prog_1_method_21_code 20 = .ok (.aload_n 0, 1) := by decide +kernel
theorem xd_59_21 : decode prog_1_method_21_code 21 = .ok (.aload_n 0, 1) := by decide +kernel
theorem xd_59_22 : decode prog_1_method_21_code 22 = .ok (.getfield 19, 3) := by decide +kernel
theorem xd_59_25 : decode prog_1_method_21_code 25 = .ok (.iload_n 1, 1) := by decide +kernel
theorem xd_59_26 : decode prog_1_method_21_code 26 = .ok (.invokevirtual 251, 3) := by decide +kernel
theorem xd_59_29 : decode prog_1_method_21_code 29 = .ok (.ifCond .eq 30, 3) := by decide +kernel
theorem xd_59_32 : decode prog_1_method_21_code 32 = .ok (.aload_n 0, 1) := by decide +kernel
theorem xd_59_33 : decode prog_1_method_21_code 33 = .ok (.getfield 12, 3) := by decide +kernel
theorem xd_59_36 : decode prog_1_method_21_code 36 = .ok (.iload_n 1, 1) := by decide +kernel
theorem xd_59_37 : decode prog_1_method_21_code 37 = .ok (.aload_n 0, 1) := by decide +kernel
theorem xd_59_38 : decode prog_1_method_21_code 38 = .ok (.getfield 19, 3) := by decide +kernel
theorem xd_59_41 : decode prog_1_method_21_code 41 = .ok (.invokevirtual 255, 3) := by decide +kernel
theorem xd_59_44 : decode prog_1_method_21_code 44 = .ok (.invokevirtual 258, 3) := by decide +kernel
theorem xd_59_47 : decode prog_1_method_21_code 47 = .ok (.ifCond .ne 12, 3) := by decide +kernel
theorem xd_59_50 : decode prog_1_method_21_code 50 = .ok (.aload_n 0, 1) := by decide +kernel
theorem xd_59_51 : decode prog_1_method_21_code 51 = .ok (.aload_n 0, 1) := by decide +kernel
theorem xd_59_52 : decode prog_1_method_21_code 52 = .ok (.getfield 19, 3) := by decide +kernel
theorem xd_59_55 : decode prog_1_method_21_code 55 = .ok (.iload_n 1, 1) := by decide +kernel
theorem xd_59_56 : decode prog_1_method_21_code 56 = .ok (.invokevirtual 261, 3) := by decide +kernel
theorem xd_59_59 : decode prog_1_method_21_code 59 = .ok (.iinc 1 (1), 3) := by decide +kernel
theorem xd_59_62 : decode prog_1_method_21_code 62 = .ok (.goto (-47), 3) := by decide +kernel
theorem xd_59_65 : decode prog_1_method_21_code 65 = .ok (.iconst 0, 1) := by decide +kernel
theorem xd_59_66 : decode prog_1_method_21_code 66 = .ok (.istore_n 1, 1) := by decide +kernel
theorem xd_59_67 : decode prog_1_method_21_code 67 = .ok (.iload_n 1, 1) := by decide +kernel
theorem xd_59_68 : decode prog_1_method_21_code 68 = .ok (.bipush 40, 2) := by decide +kernel
theorem xd_59_70 : decode prog_1_method_21_code 70 = .ok (.if_icmp .ge 17, 3) := by decide +kernel
theorem xd_59_73 : decode prog_1_method_21_code 73 = .ok (.aload_n 0, 1) := by decide +kernel
theorem xd_59_74 : decode prog_1_method_21_code 74 = .ok (.iload_n 1, 1) := by decide +kernel
theorem xd_59_75 : decode prog_1_method_21_code 75 = .ok (.iload_n 1, 1) := by decide +kernel
theorem xd_59_76 : decode prog_1_method_21_code 76 = .ok (.iconst 1, 1) := by decide +kernel
theorem xd_59_77 : decode prog_1_method_21_code 77 = .ok (.iadd, 1) := by decide +kernel
theorem xd_59_78 : decode prog_1_method_21_code 78 = .ok (.invokevirtual 265, 3) := by decide +kernel
theorem xd_59_81 : decode prog_1_method_21_code 81 = .ok (.iinc 1 (2), 3) := by decide +kernel
theorem xd_59_84 : decode prog_1_method_21_code 84 = .ok (.goto (-17), 3) := by decide +kernel
theorem xd_59_87 : decode prog_1_method_21_code 87 = .ok (.aload_n 0, 1) := by decide +kernel
theorem xd_59_88 : decode prog_1_method_21_code 88 = .ok (.getfield 19, 3) := by decide +kernel
theorem xd_59_91 : decode prog_1_method_21_code 91 = .ok (.invokevirtual 255, 3) := by decide +kernel
theorem xd_59_94 : decode prog_1_method_21_code 94 = .ok (.ireturn, 1) := by decide +kernel
theorem xk_59_0 : xk_OkA xp_F (xp_P sc) xp_cl xp_BW xp_NW xp_SW xp_exn 59 0 (.aload 0) := Or.inr ⟨0, rfl, xd_59_0, rfl⟩
theorem xk_59_1 : xk_OkA xp_F (xp_P sc) xp_cl xp_BW xp_NW xp_SW xp_exn 59 1 (.invokeinterface 63 1) := ⟨rfl, Or.inl ⟨xwt_703, rfl⟩, rfl, rfl, xwt_1, by decide +kernel, by decide +kernel, Nat.le_of_ble_eq_true rfl, _, Or.inl xwt_700, Or.inr ⟨xd_59_1, xwt_702, xws_69, ⟨_, _, _, rfl, rfl⟩, by decide +kernel⟩⟩
theorem xk_59_2 : xk_OkA xp_F (xp_P sc) xp_cl xp_BW xp_NW xp_SW xp_exn 59 2 (.aload 0) := Or.inr ⟨0, rfl, xd_59_4, rfl⟩
theorem xk_59_3 : xk_OkA xp_F (xp_P sc) xp_cl xp_BW xp_NW xp_SW xp_exn 59 3 (.iconst 1) := Or.inl ⟨xd_59_5, rfl⟩
theorem xk_59_4 : xk_OkA xp_F (xp_P sc) xp_cl xp_BW xp_NW xp_SW xp_exn 59 4 (.putstatic 100) := ⟨_, xd_59_6, rfl, ⟨_, _, _, rfl, by decide, xu_3, Or.inl xwt_81⟩, xf_3_4⟩
theorem xk_59_5 : xk_OkA xp_F (xp_P sc) xp_cl xp_BW xp_NW xp_SW xp_exn 59 5 (.aload 0) := Or.inr ⟨0, rfl, xd_59_9, rfl⟩
theorem xk_59_6 : xk_OkA xp_F (xp_P sc) xp_cl xp_BW xp_NW xp_SW xp_exn 59 6 (.invokeinterface 105 1) := ⟨rfl, Or.inl ⟨xwt_719, rfl⟩, rfl, rfl, xwt_1, by decide +kernel, by decide +kernel, Nat.le_of_ble_eq_true rfl, _, Or.inl xwt_716, Or.inr ⟨xd_59_10, xwt_718, xws_71, ⟨_, _, _, rfl, rfl⟩, by decide +kernel⟩⟩
theorem xk_59_7 : xk_OkA xp_F (xp_P sc) xp_cl xp_BW xp_NW xp_SW xp_exn 59 7 (.iconst 0) := Or.inl ⟨xd_59_13, rfl⟩
theorem xk_59_8 : xk_OkA xp_F (xp_P sc) xp_cl xp_BW xp_NW xp_SW xp_exn 59 8 (.istore 1) := Or.inr ⟨1, rfl, xd_59_14, rfl⟩
theorem xk_59_9 : xk_OkA xp_F (xp_P sc) xp_cl xp_BW xp_NW xp_SW xp_exn 59 9 (.iload 1) := Or.inr ⟨1, rfl, xd_59_15, rfl⟩
theorem xk_59_10 : xk_OkA xp_F (xp_P sc) xp_cl xp_BW xp_NW xp_SW xp_exn 59 10 (.iconst 4) := Or.inl ⟨xd_59_16, rfl⟩
theorem xk_59_11 : xk_OkA xp_F (xp_P sc) xp_cl xp_BW xp_NW xp_SW xp_exn 59 11 (.if_icmp .ge 33) := ⟨_, xd_59_17, by unfold xf_to; decide +kernel, rfl⟩
theorem xk_59_12 : xk_OkA xp_F (xp_P sc) xp_cl xp_BW xp_NW xp_SW xp_exn 59 12 (.aload 0) := Or.inr ⟨0, rfl, xd_59_20, rfl⟩
theorem xk_59_13 : xk_OkA xp_F (xp_P sc) xp_cl xp_BW xp_NW xp_SW xp_exn 59 13 (.aload 0) := Or.inr ⟨0, rfl, xd_59_21, rfl⟩
theorem xk_59_14 : xk_OkA xp_F (xp_P sc) xp_cl xp_BW xp_NW xp_SW xp_exn 59 14 (.getfield 97) := ⟨_, xd_59_22, rfl, ⟨_, _, _, rfl, by decide, xu_3, Or.inl xwt_78⟩⟩
theorem xk_59_15 : xk_OkA xp_F (xp_P sc) xp_cl xp_BW xp_NW xp_SW xp_exn 59 15 (.iload 1) := Or.inr ⟨1, rfl, xd_59_25, rfl⟩
theorem xk_59_16 : xk_OkA xp_F (xp_P sc) xp_cl xp_BW xp_NW xp_SW xp_exn 59 16 (.invokeinterface 87 3) := ⟨rfl, Or.inl ⟨xwt_285, rfl⟩, rfl, rfl, xwt_1, by decide +kernel, by decide +kernel, Nat.le_of_ble_eq_true rfl, _, Or.inl xwt_282, Or.inr ⟨xd_59_26, xwt_284, xws_14, ⟨_, _, _, rfl, rfl⟩, by decide +kernel⟩⟩
theorem xk_59_17 : xk_OkA xp_F (xp_P sc) xp_cl xp_BW xp_NW xp_SW xp_exn 59 17 (.ifCond .eq 31) := ⟨_, xd_59_29, by unfold xf_to; decide +kernel, rfl⟩
theorem xk_59_18 : xk_OkA xp_F (xp_P sc) xp_cl xp_BW xp_NW xp_SW xp_exn 59 18 (.aload 0) := Or.inr ⟨0, rfl, xd_59_32, rfl⟩
theorem xk_59_19 : xk_OkA xp_F (xp_P sc) xp_cl xp_BW xp_NW xp_SW xp_exn 59 19 (.getfield 96) := ⟨_, xd_59_33, rfl, ⟨_, _, _, rfl, by decide, xu_3, Or.inl xwt_77⟩⟩
theorem xk_59_20 : xk_OkA xp_F (xp_P sc) xp_cl xp_BW xp_NW xp_SW xp_exn 59 20 (.iload 1) := Or.inr ⟨1, rfl, xd_59_36, rfl⟩
theorem xk_59_21 : xk_OkA xp_F (xp_P sc) xp_cl xp_BW xp_NW xp_SW xp_exn 59 21 (.aload 0) := Or.inr ⟨0, rfl, xd_59_37, rfl⟩
theorem xk_59_22 : xk_OkA xp_F (xp_P sc) xp_cl xp_BW xp_NW xp_SW xp_exn 59 22 (.getfield 97) := ⟨_, xd_59_38, rfl, ⟨_, _, _, rfl, by decide, xu_3, Or.inl xwt_78⟩⟩
theorem xk_59_23 : xk_OkA xp_F (xp_P sc) xp_cl xp_BW xp_NW xp_SW xp_exn 59 23 (.invokeinterface 21 1) := ⟨rfl, Or.inl ⟨xwt_107, rfl⟩, rfl, rfl, xwt_3, by decide +kernel, by decide +kernel, Nat.le_of_ble_eq_true rfl, _, Or.inr ⟨_, xwn_104⟩, Or.inr ⟨xd_59_41, xwt_106, xws_0, ⟨_, _, _, rfl, rfl⟩, by decide +kernel⟩⟩
theorem xk_59_24 : xk_OkA xp_F (xp_P sc) xp_cl xp_BW xp_NW xp_SW xp_exn 59 24 (.invokeinterface 6 3) := ⟨rfl, Or.inl ⟨xwt_732, rfl⟩, rfl, rfl, xwt_2, by decide +kernel, by decide +kernel, Nat.le_of_ble_eq_true rfl, _, Or.inr ⟨_, xwn_729⟩, Or.inr ⟨xd_59_44, xwt_731, xws_74, ⟨_, _, _, rfl, rfl⟩, by decide +kernel⟩⟩
theorem xk_59_25 : xk_OkA xp_F (xp_P sc) xp_cl xp_BW xp_NW xp_SW xp_exn 59 25 (.ifCond .ne 31) := ⟨_, xd_59_47, by unfold xf_to; decide +kernel, rfl⟩
theorem xk_59_26 : xk_OkA xp_F (xp_P sc) xp_cl xp_BW xp_NW xp_SW xp_exn 59 26 (.aload 0) := Or.inr ⟨0, rfl, xd_59_50, rfl⟩
theorem xk_59_27 : xk_OkA xp_F (xp_P sc) xp_cl xp_BW xp_NW xp_SW xp_exn 59 27 (.aload 0) := Or.inr ⟨0, rfl, xd_59_51, rfl⟩
theorem xk_59_28 : xk_OkA xp_F (xp_P sc) xp_cl xp_BW xp_NW xp_SW xp_exn 59 28 (.getfield 97) := ⟨_, xd_59_52, rfl, ⟨_, _, _, rfl, by decide, xu_3, Or.inl xwt_78⟩⟩
theorem xk_59_29 : xk_OkA xp_F (xp_P sc) xp_cl xp_BW xp_NW xp_SW xp_exn 59 29 (.iload 1) := Or.inr ⟨1, rfl, xd_59_55, rfl⟩
theorem xk_59_30 : xk_OkA xp_F (xp_P sc) xp_cl xp_BW xp_NW xp_SW xp_exn 59 30 (.invokeinterface 88 3) := ⟨rfl, Or.inl ⟨xwt_289, rfl⟩, rfl, rfl, xwt_1, by decide +kernel, by decide +kernel, Nat.le_of_ble_eq_true rfl, _, Or.inl xwt_286, Or.inr ⟨xd_59_56, xwt_288, xws_15, ⟨_, _, _, rfl, rfl⟩, by decide +kernel⟩⟩
theorem xk_59_31 : xk_OkA xp_F (xp_P sc) xp_cl xp_BW xp_NW xp_SW xp_exn 59 31 (.iinc 1 (1)) := ⟨xd_59_59, rfl⟩
theorem xk_59_32 : xk_OkA xp_F (xp_P sc) xp_cl xp_BW xp_NW xp_SW xp_exn 59 32 (.goto 9) := ⟨_, xd_59_62, by unfold xf_to; decide +kernel⟩
theorem xk_59_33 : xk_OkA xp_F (xp_P sc) xp_cl xp_BW xp_NW xp_SW xp_exn 59 33 (.iconst 0) := Or.inl ⟨xd_59_65, rfl⟩
theorem xk_59_34 : xk_OkA xp_F (xp_P sc) xp_cl xp_BW xp_NW xp_SW xp_exn 59 34 (.istore 1) := Or.inr ⟨1, rfl, xd_59_66, rfl⟩
theorem xk_59_35 : xk_OkA xp_F (xp_P sc) xp_cl xp_BW xp_NW xp_SW xp_exn 59 35 (.iload 1) := Or.inr ⟨1, rfl, xd_59_67, rfl⟩
theorem xk_59_36 : xk_OkA xp_F (xp_P sc) xp_cl xp_BW xp_NW xp_SW xp_exn 59 36 (.iconst 40) := Or.inr (Or.inl ⟨xd_59_68, by decide +kernel, rfl⟩)
theorem xk_59_37 : xk_OkA xp_F (xp_P sc) xp_cl xp_BW xp_NW xp_SW xp_exn 59 37 (.if_icmp .ge 46) := ⟨_, xd_59_70, by unfold xf_to; decide +kernel, rfl⟩
theorem xk_59_38 : xk_OkA xp_F (xp_P sc) xp_cl xp_BW xp_NW xp_SW xp_exn 59 38 (.aload 0) := Or.inr ⟨0, rfl, xd_59_73, rfl⟩
theorem xk_59_39 : xk_OkA xp_F (xp_P sc) xp_cl xp_BW xp_NW xp_SW xp_exn 59 39 (.iload 1) := Or.inr ⟨1, rfl, xd_59_74, rfl⟩
theorem xk_59_40 : xk_OkA xp_F (xp_P sc) xp_cl xp_BW xp_NW xp_SW xp_exn 59 40 (.iload 1) := Or.inr ⟨1, rfl, xd_59_75, rfl⟩
theorem xk_59_41 : xk_OkA xp_F (xp_P sc) xp_cl xp_BW xp_NW xp_SW xp_exn 59 41 (.iconst 1) := Or.inl ⟨xd_59_76, rfl⟩
theorem xk_59_42 : xk_OkA xp_F (xp_P sc) xp_cl xp_BW xp_NW xp_SW xp_exn 59 42 (.iadd) := ⟨xd_59_77, rfl⟩
theorem xk_59_43 : xk_OkA xp_F (xp_P sc) xp_cl xp_BW xp_NW xp_SW xp_exn 59 43 (.invokeinterface 106 3) := ⟨rfl, Or.inl ⟨xwt_736, rfl⟩, rfl, rfl, xwt_1, by decide +kernel, by decide +kernel, Nat.le_of_ble_eq_true rfl, _, Or.inl xwt_733, Or.inr ⟨xd_59_78, xwt_735, xws_75, ⟨_, _, _, rfl, rfl⟩, by decide +kernel⟩⟩
theorem xk_59_44 : xk_OkA xp_F (xp_P sc) xp_cl xp_BW xp_NW xp_SW xp_exn 59 44 (.iinc 1 (2)) := ⟨xd_59_81, rfl⟩
theorem xk_59_45 : xk_OkA xp_F (xp_P sc) xp_cl xp_BW xp_NW xp_SW xp_exn 59 45 (.goto 35) := ⟨_, xd_59_84, by unfold xf_to; decide +kernel⟩
theorem xk_59_46 : xk_OkA xp_F (xp_P sc) xp_cl xp_BW xp_NW xp_SW xp_exn 59 46 (.aload 0) := Or.inr ⟨0, rfl, xd_59_87, rfl⟩
theorem xk_59_47 : xk_OkA xp_F (xp_P sc) xp_cl xp_BW xp_NW xp_SW xp_exn 59 47 (.getfield 97) := ⟨_, xd_59_88, rfl, ⟨_, _, _, rfl, by decide, xu_3, Or.inl xwt_78⟩⟩
theorem xk_59_48 : xk_OkA xp_F (xp_P sc) xp_cl xp_BW xp_NW xp_SW xp_exn 59 48 (.invokeinterface 21 1) := ⟨rfl, Or.inl ⟨xwt_107, rfl⟩, rfl, rfl, xwt_3, by decide +kernel, by decide +kernel, Nat.le_of_ble_eq_true rfl, _, Or.inr ⟨_, xwn_104⟩, Or.inr ⟨xd_59_91, xwt_106, xws_0, ⟨_, _, _, rfl, rfl⟩, by decide +kernel⟩⟩
theorem xk_59_49 : xk_OkA xp_F (xp_P sc) xp_cl xp_BW xp_NW xp_SW xp_exn 59 49 (.ireturn) := ⟨xd_59_94, rfl⟩
theorem xl_59 : xk_OkL xp_F (xp_P sc) xp_cl xp_BW xp_NW xp_SW xp_exn 59 0 xc_59 := ⟨xk_59_0, xk_59_1, xk_59_2, xk_59_3, xk_59_4, xk_59_5, xk_59_6, xk_59_7, xk_59_8, xk_59_9, xk_59_10, xk_59_11, xk_59_12, xk_59_13, xk_59_14, xk_59_15, xk_59_16, xk_59_17, xk_59_18, xk_59_19, xk_59_20, xk_59_21, xk_59_22, xk_59_23, xk_59_24, xk_59_25, xk_59_26, xk_59_27, xk_59_28, xk_59_29, xk_59_30, xk_59_31, xk_59_32, xk_59_33, xk_59_34, xk_59_35, xk_59_36, xk_59_37, xk_59_38, xk_59_39, xk_59_40, xk_59_41, xk_59_42, xk_59_43, xk_59_44, xk_59_45, xk_59_46, xk_59_47, xk_59_48, xk_59_49, trivial⟩
theorem xd_60_0 : decode prog_1_method_22_code 0 = .ok (.aload_n 0, 1) := by decide +kernel
theorem xd_60_1 : decode prog_1_method_22_code 1 = .ok (.getfield 33, 3) := by decide +kernel
theorem xd_60_4 : decode prog_1_method_22_code 4 = .ok (.ifCond .eq 13, 3) := by decide +kernel
theorem xd_60_7 : decode prog_1_method_22_code 7 = .ok (.aload_n 0, 1) := by decide +kernel
theorem xd_60_8 : decode prog_1_method_22_code 8 = .ok (.getfield 19, 3) := by decide +kernel
theorem xd_60_11 : decode prog_1_method_22_code 11 = .ok (.invokevirtual 255, 3) := by decide +kernel
theorem xd_60_14 : decode prog_1_method_22_code 14 = .ok (.goto 4, 3) := by decide +kernel
theorem xd_60_17 : decode prog_1_method_22_code 17 = .ok (.iconst (-1), 1) := by decide +kernel
theorem xd_60_18 : decode prog_1_method_22_code 18 = .ok (.ireturn, 1) := by decide +kernel
theorem xk_60_0 : xk_OkA xp_F (xp_P sc) xp_cl xp_BW xp_NW xp_SW xp_exn 60 0 (.aload 0) := Or.inr ⟨0, rfl, xd_60_0, rfl⟩
theorem xk_60_1 : xk_OkA xp_F (xp_P sc) xp_cl xp_BW xp_NW xp_SW xp_exn 60 1 (.getfield 100) := ⟨_, xd_60_1, rfl, ⟨_, _, _, rfl, by decide, xu_3, Or.inl xwt_81⟩⟩
theorem xk_60_2 : xk_OkA xp_F (xp_P sc) xp_cl xp_BW xp_NW xp_SW xp_exn 60 2 (.ifCond .eq 7) := ⟨_, xd_60_4, by unfold xf_to; decide +kernel, rfl⟩
theorem xk_60_3 : xk_OkA xp_F (xp_P sc) xp_cl xp_BW xp_NW xp_SW xp_exn 60 3 (.aload 0) := Or.inr ⟨0, rfl, xd_60_7, rfl⟩
theorem xk_60_4 : xk_OkA xp_F (xp_P sc) xp_cl xp_BW xp_NW xp_SW xp_exn 60 4 (.getfield 97) := ⟨_, xd_60_8, rfl, ⟨_, _, _, rfl, by decide, xu_3, Or.inl xwt_78⟩⟩
theorem xk_60_5 : xk_OkA xp_F (xp_P sc) xp_cl xp_BW xp_NW xp_SW xp_exn 60 5 (.invokeinterface 21 1) := ⟨rfl, Or.inl ⟨xwt_107, rfl⟩, rfl, rfl, xwt_3, by decide +kernel, by decide +kernel, Nat.le_of_ble_eq_true rfl, _, Or.inr ⟨_, xwn_104⟩, Or.inr ⟨xd_60_11, xwt_106, xws_0, ⟨_, _, _, rfl, rfl⟩, by decide +kernel⟩⟩
theorem xk_60_6 : xk_OkA xp_F (xp_P sc) xp_cl xp_BW xp_NW xp_SW xp_exn 60 6 (.goto 8) := ⟨_, xd_60_14, by unfold xf_to; decide +kernel⟩
theorem xk_60_7 : xk_OkA xp_F (xp_P sc) xp_cl xp_BW xp_NW xp_SW xp_exn 60 7 (.iconst (-1)) := Or.inl ⟨xd_60_17, rfl⟩
theorem xk_60_8 : xk_OkA xp_F (xp_P sc) xp_cl xp_BW xp_NW xp_SW xp_exn 60 8 (.ireturn) := ⟨xd_60_18, rfl⟩
theorem xl_60 : xk_OkL xp_F (xp_P sc) xp_cl xp_BW xp_NW xp_SW xp_exn 60 0 xc_60 := ⟨xk_60_0, xk_60_1, xk_60_2, xk_60_3, xk_60_4, xk_60_5, xk_60_6, xk_60_7, xk_60_8, trivial⟩
theorem xd_61_0 : decode prog_1_method_23_code 0 = .ok (.iload_n 2, 1) := by decide +kernel
theorem xd_61_1 : decode prog_1_method_23_code 1 = .ok (.ifCond .lt 22, 3) := by decide +kernel
theorem xd_61_4 : decode prog_1_method_23_code 4 = .ok (.iload_n 2, 1) := by decide +kernel
theorem xd_61_5 : decode prog_1_method_23_code 5 = .ok (.iconst 2, 1) := by decide +kernel
theorem xd_61_6 : decode prog_1_method_23_code 6 = .ok (.if_icmp .ge 17, 3) := by decide +kernel
theorem xd_61_9 : decode prog_1_method_23_code 9 = .ok (.iload_n 3, 1) := by decide +kernel
theorem xd_61_10 : decode prog_1_method_23_code 10 = .ok (.ifCond .lt 13, 3) := by decide +kernel
theorem xd_61_13 : decode prog_1_method_23_code 13 = .ok (.iload_n 3, 1) := by decide +kernel
theorem xd_61_14 : decode prog_1_method_23_code 14 = .ok (.bipush 51, 2) := by decide +kernel
theorem xd_61_16 : decode prog_1_method_23_code 16 = .ok (.if_icmp .ge 7, 3) := by decide +kernel
theorem xd_61_19 : decode prog_1_method_23_code 19 = .ok (.iconst 1, 1) := by decide +kernel
theorem xd_61_20 : decode prog_1_method_23_code 20 = .ok (.goto 4, 3) := by decide +kernel
theorem xd_61_23 : decode prog_1_method_23_code 23 = .ok (.iconst 0, 1) := by decide +kernel
theorem xd_61_24 : decode prog_1_method_23_code 24 = .ok (.istore 4, 2) := by decide +kernel
theorem xd_61_26 : decode prog_1_method_23_code 26 = .ok (.iload_n 2, 1) := by decide +kernel
theorem xd_61_27 : decode prog_1_method_23_code 27 = .ok (.iconst 2, 1) := by decide +kernel
theorem xd_61_28 : decode prog_1_method_23_code 28 = .ok (.if_icmp .ne 17, 3) := by decide +kernel
theorem xd_61_31 : decode prog_1_method_23_code 31 = .ok (.iload_n 3, 1) := by decide +kernel
theorem xd_61_32 : decode prog_1_method_23_code 32 = .ok (.ifCond .lt 13, 3) := by decide +kernel
theorem xd_61_35 : decode prog_1_method_23_code 35 = .ok (.iload_n 3, 1) := by decide +kernel
theorem xd_61_36 : decode prog_1_method_23_code 36 = .ok (.bipush 32, 2) := by decide +kernel
theorem xd_61_38 : decode prog_1_method_23_code 38 = .ok (.if_icmp .ge 7, 3) := by decide +kernel
theorem xd_61_41 : decode prog_1_method_23_code 41 = .ok (.iconst 1, 1) := by decide +kernel
theorem xd_61_42 : decode prog_1_method_23_code 42 = .ok (.goto 4, 3) := by decide +kernel
theorem xd_61_45 : decode prog_1_method_23_code 45 = .ok (.iconst 0, 1) := by decide +kernel
theorem xd_61_46 : decode prog_1_method_23_code 46 = .ok (.istore 5, 2) := by decide +kernel
theorem xd_61_48 : decode prog_1_method_23_code 48 = .ok (.iload_n 1, 1) := by decide +kernel
theorem xd_61_49 : decode prog_1_method_23_code 49 = .ok (.invokestatic 268, 3) := by decide +kernel
theorem xd_61_52 : decode prog_1_method_23_code 52 = .ok (.ifCond .eq 13, 3) := by decide +kernel
theorem xd_61_55 : decode prog_1_method_23_code 55 = .ok (.iload 4, 2) := by decide +kernel
theorem xd_61_57 : decode prog_1_method_23_code 57 = .ok (.ifCond .ne 19, 3) := by decide +kernel
theorem xd_61_60 : decode prog_1_method_23_code 60 = .ok (.iload 5, 2) := by decide +kernel
theorem xd_61_62 : decode prog_1_method_23_code 62 = .ok (.ifCond .ne 14, 3) := by decide +kernel
theorem xd_61_65 : decode prog_1_method_23_code 65 = .ok (.new 271, 3) := by decide +kernel
theorem xd_61_68 : decode prog_1_method_23_code 68 = .ok (.dup, 1) := by decide +kernel
theorem xd_61_69 : decode prog_1_method_23_code 69 = .ok (.ldc_w 273, 3) := by decide +kernel
theorem xd_61_72 : decode prog_1_method_23_code 72 = .ok (.invokespecial 275, 3) := by decide +kernel
theorem xd_61_75 : decode prog_1_method_23_code 75 = .ok (.athrow, 1) := by decide +kernel
theorem xd_61_76 : decode prog_1_method_23_code 76 = .ok (.iload 4, 2) := by decide +kernel
theorem xd_61_78 : decode prog_1_method_23_code 78 = .ok (.ifCond .eq 16, 3) := by decide +kernel
theorem xd_61_81 : decode prog_1_method_23_code 81 = .ok (.aload_n 0, 1) := by decide +kernel
theorem xd_61_82 : decode prog_1_method_23_code 82 = .ok (.getfield 12, 3) := by decide +kernel
theorem xd_61_85 : decode prog_1_method_23_code 85 = .ok (.iload_n 1, 1) := by decide +kernel
theorem xd_61_86 : decode prog_1_method_23_code 86 = .ok (.iload_n 2, 1) := by decide +kernel
theorem xd_61_87 : decode prog_1_method_23_code 87 = .ok (.iload_n 3, 1) := by decide +kernel
theorem xd_61_88 : decode prog_1_method_23_code 88 = .ok (.invokevirtual 276, 3) := by decide +kernel
theorem xd_61_91 : decode prog_1_method_23_code 91 = .ok (.goto 15, 3) := by decide +kernel
theorem xd_61_94 : decode prog_1_method_23_code 94 = .ok (.aload_n 0, 1) := by decide +kernel
theorem xd_61_95 : decode prog_1_method_23_code 95 = .ok (.getfield 12, 3) := by decide +kernel
theorem xd_61_98 : decode prog_1_method_23_code 98 = .ok (.iload_n 1, 1) := by decide +kernel
theorem xd_61_99 : decode prog_1_method_23_code 99 = .ok (.bipush 8, 2) := by decide +kernel
theorem xd_61_101 : decode prog_1_method_23_code 101 = .ok (.imul, 1) := by decide +kernel
theorem xd_61_102 : decode prog_1_method_23_code 102 = .ok (.iload_n 3, 1) := by decide +kernel
theorem xd_61_103 : decode prog_1_method_23_code 103 = .ok (.invokevirtual 202, 3) := by decide +kernel
theorem xd_61_106 : decode prog_1_method_23_code 106 = .ok (.ireturn, 1) := by decide +kernel
theorem xk_61_0 : xk_OkA xp_F (xp_P sc) xp_cl xp_BW xp_NW xp_SW xp_exn 61 0 (.iload 2) := Or.inr ⟨2, rfl, xd_61_0, rfl⟩
theorem xk_61_1 : xk_OkA xp_F (xp_P sc) xp_cl xp_BW xp_NW xp_SW xp_exn 61 1 (.ifCond .lt 12) := ⟨_, xd_61_1, by unfold xf_to; decide +kernel, rfl⟩
theorem xk_61_2 : xk_OkA xp_F (xp_P sc) xp_cl xp_BW xp_NW xp_SW xp_exn 61 2 (.iload 2) := Or.inr ⟨2, rfl, xd_61_4, rfl⟩
theorem xk_61_3 : xk_OkA xp_F (xp_P sc) xp_cl xp_BW xp_NW xp_SW xp_exn 61 3 (.iconst 2) := Or.inl ⟨xd_61_5, rfl⟩
theorem xk_61_4 : xk_OkA xp_F (xp_P sc) xp_cl xp_BW xp_NW xp_SW xp_exn 61 4 (.if_icmp .ge 12) := ⟨_, xd_61_6, by unfold xf_to; decide +kernel, rfl⟩
theorem xk_61_5 : xk_OkA xp_F (xp_P sc) xp_cl xp_BW xp_NW xp_SW xp_exn 61 5 (.iload 3) := Or.inr ⟨3, rfl, xd_61_9, rfl⟩
theorem xk_61_6 : xk_OkA xp_F (xp_P sc) xp_cl xp_BW xp_NW xp_SW xp_exn 61 6 (.ifCond .lt 12) := ⟨_, xd_61_10, by unfold xf_to; decide +kernel, rfl⟩
theorem xk_61_7 : xk_OkA xp_F (xp_P sc) xp_cl xp_BW xp_NW xp_SW xp_exn 61 7 (.iload 3) := Or.inr ⟨3, rfl, xd_61_13, rfl⟩
theorem xk_61_8 : xk_OkA xp_F (xp_P sc) xp_cl xp_BW xp_NW xp_SW xp_exn 61 8 (.iconst 51) := Or.inr (Or.inl ⟨xd_61_14, by decide +kernel, rfl⟩)
theorem xk_61_9 : xk_OkA xp_F (xp_P sc) xp_cl xp_BW xp_NW xp_SW xp_exn 61 9 (.if_icmp .ge 12) := ⟨_, xd_61_16, by unfold xf_to; decide +kernel, rfl⟩
theorem xk_61_10 : xk_OkA xp_F (xp_P sc) xp_cl xp_BW xp_NW xp_SW xp_exn 61 10 (.iconst 1) := Or.inl ⟨xd_61_19, rfl⟩
theorem xk_61_11 : xk_OkA xp_F (xp_P sc) xp_cl xp_BW xp_NW xp_SW xp_exn 61 11 (.goto 13) := ⟨_, xd_61_20, by unfold xf_to; decide +kernel⟩
theorem xk_61_12 : xk_OkA xp_F (xp_P sc) xp_cl xp_BW xp_NW xp_SW xp_exn 61 12 (.iconst 0) := Or.inl ⟨xd_61_23, rfl⟩
theorem xk_61_13 : xk_OkA xp_F (xp_P sc) xp_cl xp_BW xp_NW xp_SW xp_exn 61 13 (.istore 4) := Or.inl ⟨xd_61_24, rfl⟩
theorem xk_61_14 : xk_OkA xp_F (xp_P sc) xp_cl xp_BW xp_NW xp_SW xp_exn 61 14 (.iload 2) := Or.inr ⟨2, rfl, xd_61_26, rfl⟩
theorem xk_61_15 : xk_OkA xp_F (xp_P sc) xp_cl xp_BW xp_NW xp_SW xp_exn 61 15 (.iconst 2) := Or.inl ⟨xd_61_27, rfl⟩
theorem xk_61_16 : xk_OkA xp_F (xp_P sc) xp_cl xp_BW xp_NW xp_SW xp_exn 61 16 (.if_icmp .ne 24) := ⟨_, xd_61_28, by unfold xf_to; decide +kernel, rfl⟩
theorem xk_61_17 : xk_OkA xp_F (xp_P sc) xp_cl xp_BW xp_NW xp_SW xp_exn 61 17 (.iload 3) := Or.inr ⟨3, rfl, xd_61_31, rfl⟩
theorem xk_61_18 : xk_OkA xp_F (xp_P sc) xp_cl xp_BW xp_NW xp_SW xp_exn 61 18 (.ifCond .lt 24) := ⟨_, xd_61_32, by unfold xf_to; decide +kernel, rfl⟩
theorem xk_61_19 : xk_OkA xp_F (xp_P sc) xp_cl xp_BW xp_NW xp_SW xp_exn 61 19 (.iload 3) := Or.inr ⟨3, rfl, xd_61_35, rfl⟩
theorem xk_61_20 : xk_OkA xp_F (xp_P sc) xp_cl xp_BW xp_NW xp_SW xp_exn 61 20 (.iconst 32) := Or.inr (Or.inl ⟨xd_61_36, by decide +kernel, rfl⟩)
theorem xk_61_21 : xk_OkA xp_F (xp_P sc) xp_cl xp_BW xp_NW xp_SW xp_exn 61 21 (.if_icmp .ge 24) := ⟨_, xd_61_38, by unfold xf_to; decide +kernel, rfl⟩
theorem xk_61_22 : xk_OkA xp_F (xp_P sc) xp_cl xp_BW xp_NW xp_SW xp_exn 61 22 (.iconst 1) := Or.inl ⟨xd_61_41, rfl⟩
theorem xk_61_23 : xk_OkA xp_F (xp_P sc) xp_cl xp_BW xp_NW xp_SW xp_exn 61 23 (.goto 25) := ⟨_, xd_61_42, by unfold xf_to; decide +kernel⟩
theorem xk_61_24 : xk_OkA xp_F (xp_P sc) xp_cl xp_BW xp_NW xp_SW xp_exn 61 24 (.iconst 0) := Or.inl ⟨xd_61_45, rfl⟩
theorem xk_61_25 : xk_OkA xp_F (xp_P sc) xp_cl xp_BW xp_NW xp_SW xp_exn 61 25 (.istore 5) := Or.inl ⟨xd_61_46, rfl⟩
theorem xk_61_26 : xk_OkA xp_F (xp_P sc) xp_cl xp_BW xp_NW xp_SW xp_exn 61 26 (.iload 1) := Or.inr ⟨1, rfl, xd_61_48, rfl⟩
theorem xk_61_27 : xk_OkA xp_F (xp_P sc) xp_cl xp_BW xp_NW xp_SW xp_exn 61 27 (.invokeinterface 64 1) := ⟨rfl, Or.inl ⟨xwt_197, rfl⟩, rfl, rfl, xwt_1, by decide +kernel, by decide +kernel, Nat.le_of_ble_eq_true rfl, _, Or.inl xwt_195, Or.inl ⟨xd_61_49, xwt_196, rfl, by decide +kernel⟩⟩
theorem xk_61_28 : xk_OkA xp_F (xp_P sc) xp_cl xp_BW xp_NW xp_SW xp_exn 61 28 (.ifCond .eq 33) := ⟨_, xd_61_52, by unfold xf_to; decide +kernel, rfl⟩
theorem xk_61_29 : xk_OkA xp_F (xp_P sc) xp_cl xp_BW xp_NW xp_SW xp_exn 61 29 (.iload 4) := Or.inl ⟨xd_61_55, rfl⟩
theorem xk_61_30 : xk_OkA xp_F (xp_P sc) xp_cl xp_BW xp_NW xp_SW xp_exn 61 30 (.ifCond .ne 34) := ⟨_, xd_61_57, by unfold xf_to; decide +kernel, rfl⟩
theorem xk_61_31 : xk_OkA xp_F (xp_P sc) xp_cl xp_BW xp_NW xp_SW xp_exn 61 31 (.iload 5) := Or.inl ⟨xd_61_60, rfl⟩
theorem xk_61_32 : xk_OkA xp_F (xp_P sc) xp_cl xp_BW xp_NW xp_SW xp_exn 61 32 (.ifCond .ne 34) := ⟨_, xd_61_62, by unfold xf_to; decide +kernel, rfl⟩
theorem xk_61_33 : xk_OkA xp_F (xp_P sc) xp_cl xp_BW xp_NW xp_SW xp_exn 61 33 (.new 4) := ⟨271, 273, 275, _, xp_chain, xd_61_65, xd_61_68, List.mem_of_getElem? (i := 15) rfl, xwt_567, xwt_15, by decide +kernel, by decide +kernel, rfl, Or.inl ⟨xa_3_4, xo_3_4, by decide, by decide, Or.inr ⟨xd_61_69, xd_61_72, xd_61_75⟩⟩⟩
theorem xk_61_34 : xk_OkA xp_F (xp_P sc) xp_cl xp_BW xp_NW xp_SW xp_exn 61 34 (.iload 4) := Or.inl ⟨xd_61_76, rfl⟩
theorem xk_61_35 : xk_OkA xp_F (xp_P sc) xp_cl xp_BW xp_NW xp_SW xp_exn 61 35 (.ifCond .eq 43) := ⟨_, xd_61_78, by unfold xf_to; decide +kernel, rfl⟩
theorem xk_61_36 : xk_OkA xp_F (xp_P sc) xp_cl xp_BW xp_NW xp_SW xp_exn 61 36 (.aload 0) := Or.inr ⟨0, rfl, xd_61_81, rfl⟩
theorem xk_61_37 : xk_OkA xp_F (xp_P sc) xp_cl xp_BW xp_NW xp_SW xp_exn 61 37 (.getfield 96) := ⟨_, xd_61_82, rfl, ⟨_, _, _, rfl, by decide, xu_3, Or.inl xwt_77⟩⟩
theorem xk_61_38 : xk_OkA xp_F (xp_P sc) xp_cl xp_BW xp_NW xp_SW xp_exn 61 38 (.iload 1) := Or.inr ⟨1, rfl, xd_61_85, rfl⟩
theorem xk_61_39 : xk_OkA xp_F (xp_P sc) xp_cl xp_BW xp_NW xp_SW xp_exn 61 39 (.iload 2) := Or.inr ⟨2, rfl, xd_61_86, rfl⟩
theorem xk_61_40 : xk_OkA xp_F (xp_P sc) xp_cl xp_BW xp_NW xp_SW xp_exn 61 40 (.iload 3) := Or.inr ⟨3, rfl, xd_61_87, rfl⟩
theorem xk_61_41 : xk_OkA xp_F (xp_P sc) xp_cl xp_BW xp_NW xp_SW xp_exn 61 41 (.invokeinterface 3 4) := ⟨rfl, Or.inl ⟨xwt_747, rfl⟩, rfl, rfl, xwt_2, by decide +kernel, by decide +kernel, Nat.le_of_ble_eq_true rfl, _, Or.inr ⟨_, xwn_744⟩, Or.inr ⟨xd_61_88, xwt_746, xws_76, ⟨_, _, _, rfl, rfl⟩, by decide +kernel⟩⟩
theorem xk_61_42 : xk_OkA xp_F (xp_P sc) xp_cl xp_BW xp_NW xp_SW xp_exn 61 42 (.goto 50) := ⟨_, xd_61_91, by unfold xf_to; decide +kernel⟩
theorem xk_61_43 : xk_OkA xp_F (xp_P sc) xp_cl xp_BW xp_NW xp_SW xp_exn 61 43 (.aload 0) := Or.inr ⟨0, rfl, xd_61_94, rfl⟩
theorem xk_61_44 : xk_OkA xp_F (xp_P sc) xp_cl xp_BW xp_NW xp_SW xp_exn 61 44 (.getfield 96) := ⟨_, xd_61_95, rfl, ⟨_, _, _, rfl, by decide, xu_3, Or.inl xwt_77⟩⟩
theorem xk_61_45 : xk_OkA xp_F (xp_P sc) xp_cl xp_BW xp_NW xp_SW xp_exn 61 45 (.iload 1) := Or.inr ⟨1, rfl, xd_61_98, rfl⟩
theorem xk_61_46 : xk_OkA xp_F (xp_P sc) xp_cl xp_BW xp_NW xp_SW xp_exn 61 46 (.iconst 8) := Or.inr (Or.inl ⟨xd_61_99, by decide +kernel, rfl⟩)
theorem xk_61_47 : xk_OkA xp_F (xp_P sc) xp_cl xp_BW xp_NW xp_SW xp_exn 61 47 (.imul) := ⟨xd_61_101, rfl⟩
theorem xk_61_48 : xk_OkA xp_F (xp_P sc) xp_cl xp_BW xp_NW xp_SW xp_exn 61 48 (.iload 3) := Or.inr ⟨3, rfl, xd_61_102, rfl⟩
theorem xk_61_49 : xk_OkA xp_F (xp_P sc) xp_cl xp_BW xp_NW xp_SW xp_exn 61 49 (.invokeinterface 9 3) := ⟨rfl, Or.inl ⟨xwt_550, rfl⟩, rfl, rfl, xwt_2, by decide +kernel, by decide +kernel, Nat.le_of_ble_eq_true rfl, _, Or.inr ⟨_, xwn_547⟩, Or.inr ⟨xd_61_103, xwt_549, xws_54, ⟨_, _, _, rfl, rfl⟩, by decide +kernel⟩⟩
theorem xk_61_50 : xk_OkA xp_F (xp_P sc) xp_cl xp_BW xp_NW xp_SW xp_exn 61 50 (.ireturn) := ⟨xd_61_106, rfl⟩
theorem xl_61 : xk_OkL xp_F (xp_P sc) xp_cl xp_BW xp_NW xp_SW xp_exn 61 0 xc_61 := ⟨xk_61_0, xk_61_1, xk_61_2, xk_61_3, xk_61_4, xk_61_5, xk_61_6, xk_61_7, xk_61_8, xk_61_9, xk_61_10, xk_61_11, xk_61_12, xk_61_13, xk_61_14, xk_61_15, xk_61_16, xk_61_17, xk_61_18, xk_61_19, xk_61_20, xk_61_21, xk_61_22, xk_61_23, xk_61_24, xk_61_25, xk_61_26, xk_61_27, xk_61_28, xk_61_29, xk_61_30, xk_61_31, xk_61_32, xk_61_33, xk_61_34, xk_61_35, xk_61_36, xk_61_37, xk_61_38, xk_61_39, xk_61_40, xk_61_41, xk_61_42, xk_61_43, xk_61_44, xk_61_45, xk_61_46, xk_61_47, xk_61_48, xk_61_49, xk_61_50, trivial⟩
theorem xd_62_0 : decode prog_1_method_24_code 0 = .ok (.aload_n 0, 1) := by decide +kernel
theorem xd_62_1 : decode prog_1_method_24_code 1 = .ok (.getfield 33, 3) := by decide +kernel
theorem xd_62_4 : decode prog_1_method_24_code 4 = .ok (.ifCond .ne 14, 3) := by decide +kernel
theorem xd_62_7 : decode prog_1_method_24_code 7 = .ok (.new 279, 3) := by decide +kernel
theorem xd_62_10 : decode prog_1_method_24_code 10 = .ok (.dup, 1) := by decide +kernel
theorem xd_62_11 : decode prog_1_method_24_code 11 = .ok (.ldc_w 281, 3) := by decide +kernel
theorem xd_62_14 : decode prog_1_method_24_code 14 = .ok (.invokespecial 283, 3) := by decide +kernel
theorem xd_62_17 : decode prog_1_method_24_code 17 = .ok (.athrow, 1) := by decide +kernel
theorem xd_62_18 : decode prog_1_method_24_code 18 = .ok (.return_, 1) := by decide +kernel
theorem xk_62_0 : xk_OkA xp_F (xp_P sc) xp_cl xp_BW xp_NW xp_SW xp_exn 62 0 (.aload 0) := Or.inr ⟨0, rfl, xd_62_0, rfl⟩
theorem xk_62_1 : xk_OkA xp_F (xp_P sc) xp_cl xp_BW xp_NW xp_SW xp_exn 62 1 (.getfield 100) := ⟨_, xd_62_1, rfl, ⟨_, _, _, rfl, by decide, xu_3, Or.inl xwt_81⟩⟩
theorem xk_62_2 : xk_OkA xp_F (xp_P sc) xp_cl xp_BW xp_NW xp_SW xp_exn 62 2 (.ifCond .ne 4) := ⟨_, xd_62_4, by unfold xf_to; decide +kernel, rfl⟩
theorem xk_62_3 : xk_OkA xp_F (xp_P sc) xp_cl xp_BW xp_NW xp_SW xp_exn 62 3 (.new 0) := ⟨279, 281, 283, _, xp_chain, xd_62_7, xd_62_10, List.mem_of_getElem? (i := 0) rfl, xwt_122, xwt_9, by decide +kernel, by decide +kernel, rfl, Or.inl ⟨xa_3_0, xo_3_0, by decide, by decide, Or.inr ⟨xd_62_11, xd_62_14, xd_62_17⟩⟩⟩
theorem xk_62_4 : xk_OkA xp_F (xp_P sc) xp_cl xp_BW xp_NW xp_SW xp_exn 62 4 (.return_) := ⟨xd_62_18, rfl⟩
theorem xl_62 : xk_OkL xp_F (xp_P sc) xp_cl xp_BW xp_NW xp_SW xp_exn 62 0 xc_62 := ⟨xk_62_0, xk_62_1, xk_62_2, xk_62_3, xk_62_4, trivial⟩
theorem xd_63_0 : decode prog_1_method_25_code 0 = .ok (.aload_n 0, 1) := by decide +kernel
theorem xd_63_1 : decode prog_1_method_25_code 1 = .ok (.getfield 33, 3) := by decide +kernel
theorem xd_63_4 : decode prog_1_method_25_code 4 = .ok (.ifCond .eq 14, 3) := by decide +kernel
theorem xd_63_7 : decode prog_1_method_25_code 7 = .ok (.new 279, 3) := by decide +kernel
theorem xd_63_10 : decode prog_1_method_25_code 10 = .ok (.dup, 1) := by decide +kernel
theorem xd_63_11 : decode prog_1_method_25_code 11 = .ok (.ldc_w 284, 3) := by decide +kernel
theorem xd_63_14 : decode prog_1_method_25_code 14 = .ok (.invokespecial 283, 3) := by decide +kernel
theorem xd_63_17 : decode prog_1_method_25_code 17 = .ok (.athrow, 1) := by decide +kernel
theorem xd_63_18 : decode prog_1_method_25_code 18 = .ok (.return_, 1) := by decide +kernel
theorem xk_63_0 : xk_OkA xp_F (xp_P sc) xp_cl xp_BW xp_NW xp_SW xp_exn 63 0 (.aload 0) := Or.inr ⟨0, rfl, xd_63_0, rfl⟩
theorem xk_63_1 : xk_OkA xp_F (xp_P sc) xp_cl xp_BW xp_NW xp_SW xp_exn 63 1 (.getfield 100) := ⟨_, xd_63_1, rfl, ⟨_, _, _, rfl, by decide, xu_3, Or.inl xwt_81⟩⟩
theorem xk_63_2 : xk_OkA xp_F (xp_P sc) xp_cl xp_BW xp_NW xp_SW xp_exn 63 2 (.ifCond .eq 4) := ⟨_, xd_63_4, by unfold xf_to; decide +kernel, rfl⟩
theorem xk_63_3 : xk_OkA xp_F (xp_P sc) xp_cl xp_BW xp_NW xp_SW xp_exn 63 3 (.new 0) := ⟨279, 284, 283, _, xp_chain, xd_63_7, xd_63_10, List.mem_of_getElem? (i := 22) rfl, xwt_122, xwt_9, by decide +kernel, by decide +kernel, rfl, Or.inl ⟨xa_3_0, xo_3_0, by decide, by decide, Or.inr ⟨xd_63_11, xd_63_14, xd_63_17⟩⟩⟩
theorem xk_63_4 : xk_OkA xp_F (xp_P sc) xp_cl xp_BW xp_NW xp_SW xp_exn 63 4 (.return_) := ⟨xd_63_18, rfl⟩
theorem xl_63 : xk_OkL xp_F (xp_P sc) xp_cl xp_BW xp_NW xp_SW xp_exn 63 0 xc_63 := ⟨xk_63_0, xk_63_1, xk_63_2, xk_63_3, xk_63_4, trivial⟩
theorem xd_64_0 : decode prog_1_method_26_code 0 = .ok (.iload_n 0, 1) := by decide +kernel
theorem xd_64_1 : decode prog_1_method_26_code 1 = .ok (.ifCond .lt 12, 3) := by decide +kernel
theorem xd_64_4 : decode prog_1_method_26_code 4 = .ok (.iload_n 0, 1) := by decide +kernel
theorem xd_64_5 : decode prog_1_method_26_code 5 = .ok (.iconst 4, 1) := by decide +kernel
theorem xd_64_6 : decode prog_1_method_26_code 6 = .ok (.if_icmp .ge 7, 3) := by decide +kernel
theorem xd_64_9 : decode prog_1_method_26_code 9 = .ok (.iconst 1, 1) := by decide +kernel
theorem xd_64_10 : decode prog_1_method_26_code 10 = .ok (.goto 4, 3) := by decide +kernel
theorem xd_64_13 : decode prog_1_method_26_code 13 = .ok (.iconst 0, 1) := by decide +kernel
theorem xd_64_14 : decode prog_1_method_26_code 14 = .ok (.ireturn, 1) := by decide +kernel
theorem xk_64_0 : xk_OkA xp_F (xp_P sc) xp_cl xp_BW xp_NW xp_SW xp_exn 64 0 (.iload 0) := Or.inr ⟨0, rfl, xd_64_0, rfl⟩
theorem xk_64_1 : xk_OkA xp_F (xp_P sc) xp_cl xp_BW xp_NW xp_SW xp_exn 64 1 (.ifCond .lt 7) := ⟨_, xd_64_1, by unfold xf_to; decide +kernel, rfl⟩
theorem xk_64_2 : xk_OkA xp_F (xp_P sc) xp_cl xp_BW xp_NW xp_SW xp_exn 64 2 (.iload 0) := Or.inr ⟨0, rfl, xd_64_4, rfl⟩
theorem xk_64_3 : xk_OkA xp_F (xp_P sc) xp_cl xp_BW xp_NW xp_SW xp_exn 64 3 (.iconst 4) := Or.inl ⟨xd_64_5, rfl⟩
theorem xk_64_4 : xk_OkA xp_F (xp_P sc) xp_cl xp_BW xp_NW xp_SW xp_exn 64 4 (.if_icmp .ge 7) := ⟨_, xd_64_6, by unfold xf_to; decide +kernel, rfl⟩
theorem xk_64_5 : xk_OkA xp_F (xp_P sc) xp_cl xp_BW xp_NW xp_SW xp_exn 64 5 (.iconst 1) := Or.inl ⟨xd_64_9, rfl⟩
theorem xk_64_6 : xk_OkA xp_F (xp_P sc) xp_cl xp_BW xp_NW xp_SW xp_exn 64 6 (.goto 8) := ⟨_, xd_64_10, by unfold xf_to; decide +kernel⟩
theorem xk_64_7 : xk_OkA xp_F (xp_P sc) xp_cl xp_BW xp_NW xp_SW xp_exn 64 7 (.iconst 0) := Or.inl ⟨xd_64_13, rfl⟩
theorem xk_64_8 : xk_OkA xp_F (xp_P sc) xp_cl xp_BW xp_NW xp_SW xp_exn 64 8 (.freturn) := ⟨xd_64_14, rfl⟩
theorem xl_64 : xk_OkL xp_F (xp_P sc) xp_cl xp_BW xp_NW xp_SW xp_exn 64 0 xc_64 := ⟨xk_64_0, xk_64_1, xk_64_2, xk_64_3, xk_64_4, xk_64_5, xk_64_6, xk_64_7, xk_64_8, trivial⟩
theorem xd_65_0 : decode prog_1_method_27_code 0 = .ok (.iload_n 0, 1) := by decide +kernel
theorem xd_65_1 : decode prog_1_method_27_code 1 = .ok (.invokestatic 268, 3) := by decide +kernel
theorem xd_65_4 : decode prog_1_method_27_code 4 = .ok (.ifCond .ne 14, 3) := by decide +kernel
theorem xd_65_7 : decode prog_1_method_27_code 7 = .ok (.new 48, 3) := by decide +kernel
theorem xd_65_10 : decode prog_1_method_27_code 10 = .ok (.dup, 1) := by decide +kernel
theorem xd_65_11 : decode prog_1_method_27_code 11 = .ok (.ldc_w 286, 3) := by decide +kernel
theorem xd_65_14 : decode prog_1_method_27_code 14 = .ok (.invokespecial 52, 3) := by decide +kernel
theorem xd_65_17 : decode prog_1_method_27_code 17 = .ok (.athrow, 1) := by decide +kernel
theorem xd_65_18 : decode prog_1_method_27_code 18 = .ok (.return_, 1) := by decide +kernel
theorem xk_65_0 : xk_OkA xp_F (xp_P sc) xp_cl xp_BW xp_NW xp_SW xp_exn 65 0 (.iload 0) := Or.inr ⟨0, rfl, xd_65_0, rfl⟩
theorem xk_65_1 : xk_OkA xp_F (xp_P sc) xp_cl xp_BW xp_NW xp_SW xp_exn 65 1 (.invokeinterface 64 1) := ⟨rfl, Or.inl ⟨xwt_197, rfl⟩, rfl, rfl, xwt_1, by decide +kernel, by decide +kernel, Nat.le_of_ble_eq_true rfl, _, Or.inl xwt_195, Or.inl ⟨xd_65_1, xwt_196, rfl, by decide +kernel⟩⟩
theorem xk_65_2 : xk_OkA xp_F (xp_P sc) xp_cl xp_BW xp_NW xp_SW xp_exn 65 2 (.ifCond .ne 4) := ⟨_, xd_65_4, by unfold xf_to; decide +kernel, rfl⟩
theorem xk_65_3 : xk_OkA xp_F (xp_P sc) xp_cl xp_BW xp_NW xp_SW xp_exn 65 3 (.new 1) := ⟨48, 286, 52, _, xp_chain, xd_65_7, xd_65_10, List.mem_of_getElem? (i := 1) rfl, xwt_198, xwt_10, by decide +kernel, by decide +kernel, rfl, Or.inl ⟨xa_3_1, xo_3_1, by decide, by decide, Or.inr ⟨xd_65_11, xd_65_14, xd_65_17⟩⟩⟩
theorem xk_65_4 : xk_OkA xp_F (xp_P sc) xp_cl xp_BW xp_NW xp_SW xp_exn 65 4 (.return_) := ⟨xd_65_18, rfl⟩
theorem xl_65 : xk_OkL xp_F (xp_P sc) xp_cl xp_BW xp_NW xp_SW xp_exn 65 0 xc_65 := ⟨xk_65_0, xk_65_1, xk_65_2, xk_65_3, xk_65_4, trivial⟩
theorem xd_66_0 : decode prog_1_method_28_code 0 = .ok (.aload_n 0, 1) := by decide +kernel
theorem xd_66_1 : decode prog_1_method_28_code 1 = .ok (.getfield 19, 3) := by decide +kernel
theorem xd_66_4 : decode prog_1_method_28_code 4 = .ok (.iload_n 1, 1) := by decide +kernel
theorem xd_66_5 : decode prog_1_method_28_code 5 = .ok (.invokevirtual 55, 3) := by decide +kernel
theorem xd_66_8 : decode prog_1_method_28_code 8 = .ok (.ifCond .ne 14, 3) := by decide +kernel
theorem xd_66_11 : decode prog_1_method_28_code 11 = .ok (.new 62, 3) := by decide +kernel
theorem xd_66_14 : decode prog_1_method_28_code 14 = .ok (.dup, 1) := by decide +kernel
theorem xd_66_15 : decode prog_1_method_28_code 15 = .ok (.ldc_w 288, 3) := by decide +kernel
theorem xd_66_18 : decode prog_1_method_28_code 18 = .ok (.invokespecial 66, 3) := by decide +kernel
theorem xd_66_21 : decode prog_1_method_28_code 21 = .ok (.athrow, 1) := by decide +kernel
theorem xd_66_22 : decode prog_1_method_28_code 22 = .ok (.return_, 1) := by decide +kernel
theorem xk_66_0 : xk_OkA xp_F (xp_P sc) xp_cl xp_BW xp_NW xp_SW xp_exn 66 0 (.aload 0) := Or.inr ⟨0, rfl, xd_66_0, rfl⟩
theorem xk_66_1 : xk_OkA xp_F (xp_P sc) xp_cl xp_BW xp_NW xp_SW xp_exn 66 1 (.getfield 97) := ⟨_, xd_66_1, rfl, ⟨_, _, _, rfl, by decide, xu_3, Or.inl xwt_78⟩⟩
theorem xk_66_2 : xk_OkA xp_F (xp_P sc) xp_cl xp_BW xp_NW xp_SW xp_exn 66 2 (.iload 1) := Or.inr ⟨1, rfl, xd_66_4, rfl⟩
theorem xk_66_3 : xk_OkA xp_F (xp_P sc) xp_cl xp_BW xp_NW xp_SW xp_exn 66 3 (.invokeinterface 22 2) := ⟨rfl, Or.inl ⟨xwt_218, rfl⟩, rfl, rfl, xwt_3, by decide +kernel, by decide +kernel, Nat.le_of_ble_eq_true rfl, _, Or.inr ⟨_, xwn_215⟩, Or.inr ⟨xd_66_5, xwt_217, xws_3, ⟨_, _, _, rfl, rfl⟩, by decide +kernel⟩⟩
theorem xk_66_4 : xk_OkA xp_F (xp_P sc) xp_cl xp_BW xp_NW xp_SW xp_exn 66 4 (.ifCond .ne 6) := ⟨_, xd_66_8, by unfold xf_to; decide +kernel, rfl⟩
theorem xk_66_5 : xk_OkA xp_F (xp_P sc) xp_cl xp_BW xp_NW xp_SW xp_exn 66 5 (.new 2) := ⟨62, 288, 66, _, xp_chain, xd_66_11, xd_66_14, List.mem_of_getElem? (i := 6) rfl, xwt_227, xwt_11, by decide +kernel, by decide +kernel, rfl, Or.inl ⟨xa_3_2, xo_3_2, by decide, by decide, Or.inr ⟨xd_66_15, xd_66_18, xd_66_21⟩⟩⟩
theorem xk_66_6 : xk_OkA xp_F (xp_P sc) xp_cl xp_BW xp_NW xp_SW xp_exn 66 6 (.return_) := ⟨xd_66_22, rfl⟩
theorem xl_66 : xk_OkL xp_F (xp_P sc) xp_cl xp_BW xp_NW xp_SW xp_exn 66 0 xc_66 := ⟨xk_66_0, xk_66_1, xk_66_2, xk_66_3, xk_66_4, xk_66_5, xk_66_6, trivial⟩
theorem xd_67_0 : decode prog_1_method_29_code 0 = .ok (.aload_n 0, 1) := by decide +kernel
theorem xd_67_1 : decode prog_1_method_29_code 1 = .ok (.invokevirtual 290, 3) := by decide +kernel
theorem xd_67_4 : decode prog_1_method_29_code 4 = .ok (.ifCond .eq 14, 3) := by decide +kernel
theorem xd_67_7 : decode prog_1_method_29_code 7 = .ok (.new 62, 3) := by decide +kernel
theorem xd_67_10 : decode prog_1_method_29_code 10 = .ok (.dup, 1) := by decide +kernel
theorem xd_67_11 : decode prog_1_method_29_code 11 = .ok (.ldc_w 293, 3) := by decide +kernel
theorem xd_67_14 : decode prog_1_method_29_code 14 = .ok (.invokespecial 66, 3) := by decide +kernel
theorem xd_67_17 : decode prog_1_method_29_code 17 = .ok (.athrow, 1) := by decide +kernel
theorem xd_67_18 : decode prog_1_method_29_code 18 = .ok (.return_, 1) := by decide +kernel
theorem xk_67_0 : xk_OkA xp_F (xp_P sc) xp_cl xp_BW xp_NW xp_SW xp_exn 67 0 (.aload 0) := Or.inr ⟨0, rfl, xd_67_0, rfl⟩
theorem xk_67_1 : xk_OkA xp_F (xp_P sc) xp_cl xp_BW xp_NW xp_SW xp_exn 67 1 (.invokeinterface 70 1) := ⟨rfl, Or.inl ⟨xwt_250, rfl⟩, rfl, rfl, xwt_1, by decide +kernel, by decide +kernel, Nat.le_of_ble_eq_true rfl, _, Or.inl xwt_247, Or.inr ⟨xd_67_1, xwt_249, xws_7, ⟨_, _, _, rfl, rfl⟩, by decide +kernel⟩⟩
theorem xk_67_2 : xk_OkA xp_F (xp_P sc) xp_cl xp_BW xp_NW xp_SW xp_exn 67 2 (.ifCond .eq 4) := ⟨_, xd_67_4, by unfold xf_to; decide +kernel, rfl⟩
theorem xk_67_3 : xk_OkA xp_F (xp_P sc) xp_cl xp_BW xp_NW xp_SW xp_exn 67 3 (.new 2) := ⟨62, 293, 66, _, xp_chain, xd_67_7, xd_67_10, List.mem_of_getElem? (i := 4) rfl, xwt_227, xwt_11, by decide +kernel, by decide +kernel, rfl, Or.inl ⟨xa_3_2, xo_3_2, by decide, by decide, Or.inr ⟨xd_67_11, xd_67_14, xd_67_17⟩⟩⟩
theorem xk_67_4 : xk_OkA xp_F (xp_P sc) xp_cl xp_BW xp_NW xp_SW xp_exn 67 4 (.return_) := ⟨xd_67_18, rfl⟩
theorem xl_67 : xk_OkL xp_F (xp_P sc) xp_cl xp_BW xp_NW xp_SW xp_exn 67 0 xc_67 := ⟨xk_67_0, xk_67_1, xk_67_2, xk_67_3, xk_67_4, trivial⟩
theorem xd_68_0 : decode prog_1_method_30_code 0 = .ok (.iload_n 1, 1) := by decide +kernel
theorem xd_68_1 : decode prog_1_method_30_code 1 = .ok (.ifCond .lt 19, 3) := by decide +kernel
theorem xd_68_4 : decode prog_1_method_30_code 4 = .ok (.iload_n 1, 1) := by decide +kernel
theorem xd_68_5 : decode prog_1_method_30_code 5 = .ok (.iconst 4, 1) := by decide +kernel
theorem xd_68_6 : decode prog_1_method_30_code 6 = .ok (.if_icmp .ge 14, 3) := by decide +kernel
theorem xd_68_9 : decode prog_1_method_30_code 9 = .ok (.aload_n 0, 1) := by decide +kernel
theorem xd_68_10 : decode prog_1_method_30_code 10 = .ok (.getfield 19, 3) := by decide +kernel
theorem xd_68_13 : decode prog_1_method_30_code 13 = .ok (.iload_n 1, 1) := by decide +kernel
theorem xd_68_14 : decode prog_1_method_30_code 14 = .ok (.invokevirtual 295, 3) := by decide +kernel
theorem xd_68_17 : decode prog_1_method_30_code 17 = .ok (.ifCond .ne 13, 3) := by decide +kernel
theorem xd_68_20 : decode prog_1_method_30_code 20 = .ok (.new 298, 3) := by decide +kernel
theorem xd_68_23 : decode prog_1_method_30_code 23 = .ok (.dup, 1) := by decide +kernel
theorem xd_68_24 : decode prog_1_method_30_code 24 = .ok (.ldc 126, 2) := by decide +kernel
theorem xd_68_26 : decode prog_1_method_30_code 26 = .ok (.invokespecial 300, 3) := by decide +kernel
theorem xd_68_29 : decode prog_1_method_30_code 29 = .ok (.athrow, 1) := by decide +kernel
theorem xd_68_30 : decode prog_1_method_30_code 30 = .ok (.return_, 1) := by decide +kernel
theorem xk_68_0 : xk_OkA xp_F (xp_P sc) xp_cl xp_BW xp_NW xp_SW xp_exn 68 0 (.iload 1) := Or.inr ⟨1, rfl, xd_68_0, rfl⟩
theorem xk_68_1 : xk_OkA xp_F (xp_P sc) xp_cl xp_BW xp_NW xp_SW xp_exn 68 1 (.ifCond .lt 10) := ⟨_, xd_68_1, by unfold xf_to; decide +kernel, rfl⟩
theorem xk_68_2 : xk_OkA xp_F (xp_P sc) xp_cl xp_BW xp_NW xp_SW xp_exn 68 2 (.iload 1) := Or.inr ⟨1, rfl, xd_68_4, rfl⟩
theorem xk_68_3 : xk_OkA xp_F (xp_P sc) xp_cl xp_BW xp_NW xp_SW xp_exn 68 3 (.iconst 4) := Or.inl ⟨xd_68_5, rfl⟩
theorem xk_68_4 : xk_OkA xp_F (xp_P sc) xp_cl xp_BW xp_NW xp_SW xp_exn 68 4 (.if_icmp .ge 10) := ⟨_, xd_68_6, by unfold xf_to; decide +kernel, rfl⟩
theorem xk_68_5 : xk_OkA xp_F (xp_P sc) xp_cl xp_BW xp_NW xp_SW xp_exn 68 5 (.aload 0) := Or.inr ⟨0, rfl, xd_68_9, rfl⟩
theorem xk_68_6 : xk_OkA xp_F (xp_P sc) xp_cl xp_BW xp_NW xp_SW xp_exn 68 6 (.getfield 97) := ⟨_, xd_68_10, rfl, ⟨_, _, _, rfl, by decide, xu_3, Or.inl xwt_78⟩⟩
theorem xk_68_7 : xk_OkA xp_F (xp_P sc) xp_cl xp_BW xp_NW xp_SW xp_exn 68 7 (.iload 1) := Or.inr ⟨1, rfl, xd_68_13, rfl⟩
theorem xk_68_8 : xk_OkA xp_F (xp_P sc) xp_cl xp_BW xp_NW xp_SW xp_exn 68 8 (.invokeinterface 26 2) := ⟨rfl, Or.inl ⟨xwt_396, rfl⟩, rfl, rfl, xwt_3, by decide +kernel, by decide +kernel, Nat.le_of_ble_eq_true rfl, _, Or.inr ⟨_, xwn_482⟩, Or.inr ⟨xd_68_14, xwt_395, xws_31, ⟨_, _, _, rfl, rfl⟩, by decide +kernel⟩⟩
theorem xk_68_9 : xk_OkA xp_F (xp_P sc) xp_cl xp_BW xp_NW xp_SW xp_exn 68 9 (.ifCond .ne 11) := ⟨_, xd_68_17, by unfold xf_to; decide +kernel, rfl⟩
theorem xk_68_10 : xk_OkA xp_F (xp_P sc) xp_cl xp_BW xp_NW xp_SW xp_exn 68 10 (.new 3) := ⟨298, 126, 300, _, xp_chain1, xd_68_20, xd_68_23, List.mem_of_getElem? (i := 10) rfl, xwt_483, xwt_14, by decide +kernel, by decide +kernel, rfl, Or.inr ⟨"java/lang/RuntimeException", 13, prog_17_method_4_code, by decide +kernel, by decide +kernel, by decide +kernel, by decide +kernel, by decide +kernel, xa_3_3, xo_3_3, by decide, by decide, xd_68_24, xd_68_26, xd_68_29⟩⟩
theorem xk_68_11 : xk_OkA xp_F (xp_P sc) xp_cl xp_BW xp_NW xp_SW xp_exn 68 11 (.return_) := ⟨xd_68_30, rfl⟩
theorem xl_68 : xk_OkL xp_F (xp_P sc) xp_cl xp_BW xp_NW xp_SW xp_exn 68 0 xc_68 := ⟨xk_68_0, xk_68_1, xk_68_2, xk_68_3, xk_68_4, xk_68_5, xk_68_6, xk_68_7, xk_68_8, xk_68_9, xk_68_10, xk_68_11, trivial⟩
theorem xd_69_0 : decode prog_1_method_31_code 0 = .ok (.iload_n 2, 1) := by decide +kernel
theorem xd_69_1 : decode prog_1_method_31_code 1 = .ok (.ifCond .lt 12, 3) := by decide +kernel
theorem xd_69_4 : decode prog_1_method_31_code 4 = .ok (.iload_n 2, 1) := by decide +kernel
theorem xd_69_5 : decode prog_1_method_31_code 5 = .ok (.aload_n 0, 1) := by decide +kernel
theorem xd_69_6 : decode prog_1_method_31_code 6 = .ok (.iload_n 1, 1) := by decide +kernel
theorem xd_69_7 : decode prog_1_method_31_code 7 = .ok (.invokevirtual 227, 3) := by decide +kernel
theorem xd_69_10 : decode prog_1_method_31_code 10 = .ok (.if_icmp .lt 14, 3) := by decide +kernel
theorem xd_69_13 : decode prog_1_method_31_code 13 = .ok (.new 271, 3) := by decide +kernel
theorem xd_69_16 : decode prog_1_method_31_code 16 = .ok (.dup, 1) := by decide +kernel
theorem xd_69_17 : decode prog_1_method_31_code 17 = .ok (.ldc_w 273, 3) := by decide +kernel
theorem xd_69_20 : decode prog_1_method_31_code 20 = .ok (.invokespecial 275, 3) := by decide +kernel
theorem xd_69_23 : decode prog_1_method_31_code 23 = .ok (.athrow, 1) := by decide +kernel
theorem xd_69_24 : decode prog_1_method_31_code 24 = .ok (.return_, 1) := by decide +kernel
theorem xk_69_0 : xk_OkA xp_F (xp_P sc) xp_cl xp_BW xp_NW xp_SW xp_exn 69 0 (.iload 2) := Or.inr ⟨2, rfl, xd_69_0, rfl⟩
theorem xk_69_1 : xk_OkA xp_F (xp_P sc) xp_cl xp_BW xp_NW xp_SW xp_exn 69 1 (.ifCond .lt 7) := ⟨_, xd_69_1, by unfold xf_to; decide +kernel, rfl⟩
theorem xk_69_2 : xk_OkA xp_F (xp_P sc) xp_cl xp_BW xp_NW xp_SW xp_exn 69 2 (.iload 2) := Or.inr ⟨2, rfl, xd_69_4, rfl⟩
theorem xk_69_3 : xk_OkA xp_F (xp_P sc) xp_cl xp_BW xp_NW xp_SW xp_exn 69 3 (.aload 0) := Or.inr ⟨0, rfl, xd_69_5, rfl⟩
theorem xk_69_4 : xk_OkA xp_F (xp_P sc) xp_cl xp_BW xp_NW xp_SW xp_exn 69 4 (.iload 1) := Or.inr ⟨1, rfl, xd_69_6, rfl⟩
theorem xk_69_5 : xk_OkA xp_F (xp_P sc) xp_cl xp_BW xp_NW xp_SW xp_exn 69 5 (.invokeinterface 76 2) := ⟨rfl, Or.inl ⟨xwt_566, rfl⟩, rfl, rfl, xwt_1, by decide +kernel, by decide +kernel, Nat.le_of_ble_eq_true rfl, _, Or.inl xwt_563, Or.inr ⟨xd_69_7, xwt_565, xws_56, ⟨_, _, _, rfl, rfl⟩, by decide +kernel⟩⟩
theorem xk_69_6 : xk_OkA xp_F (xp_P sc) xp_cl xp_BW xp_NW xp_SW xp_exn 69 6 (.if_icmp .lt 8) := ⟨_, xd_69_10, by unfold xf_to; decide +kernel, rfl⟩
theorem xk_69_7 : xk_OkA xp_F (xp_P sc) xp_cl xp_BW xp_NW xp_SW xp_exn 69 7 (.new 4) := ⟨271, 273, 275, _, xp_chain, xd_69_13, xd_69_16, List.mem_of_getElem? (i := 15) rfl, xwt_567, xwt_15, by decide +kernel, by decide +kernel, rfl, Or.inl ⟨xa_3_4, xo_3_4, by decide, by decide, Or.inr ⟨xd_69_17, xd_69_20, xd_69_23⟩⟩⟩
theorem xk_69_8 : xk_OkA xp_F (xp_P sc) xp_cl xp_BW xp_NW xp_SW xp_exn 69 8 (.return_) := ⟨xd_69_24, rfl⟩
theorem xl_69 : xk_OkL xp_F (xp_P sc) xp_cl xp_BW xp_NW xp_SW xp_exn 69 0 xc_69 := ⟨xk_69_0, xk_69_1, xk_69_2, xk_69_3, xk_69_4, xk_69_5, xk_69_6, xk_69_7, xk_69_8, trivial⟩
theorem xd_70_0 : decode prog_1_method_32_code 0 = .ok (.iconst 0, 1) := by decide +kernel
theorem xd_70_1 : decode prog_1_method_32_code 1 = .ok (.istore_n 1, 1) := by decide +kernel
theorem xd_70_2 : decode prog_1_method_32_code 2 = .ok (.iload_n 1, 1) := by decide +kernel
theorem xd_70_3 : decode prog_1_method_32_code 3 = .ok (.iconst 4, 1) := by decide +kernel
theorem xd_70_4 : decode prog_1_method_32_code 4 = .ok (.if_icmp .ge 33, 3) := by decide +kernel
theorem xd_70_7 : decode prog_1_method_32_code 7 = .ok (.aload_n 0, 1) := by decide +kernel
theorem xd_70_8 : decode prog_1_method_32_code 8 = .ok (.getfield 19, 3) := by decide +kernel
theorem xd_70_11 : decode prog_1_method_32_code 11 = .ok (.iload_n 1, 1) := by decide +kernel
theorem xd_70_12 : decode prog_1_method_32_code 12 = .ok (.invokevirtual 55, 3) := by decide +kernel
theorem xd_70_15 : decode prog_1_method_32_code 15 = .ok (.ifCond .eq 16, 3) := by decide +kernel
theorem xd_70_18 : decode prog_1_method_32_code 18 = .ok (.aload_n 0, 1) := by decide +kernel
theorem xd_70_19 : decode prog_1_method_32_code 19 = .ok (.getfield 12, 3) := by decide +kernel
theorem xd_70_22 : decode prog_1_method_32_code 22 = .ok (.iload_n 1, 1) := by decide +kernel
theorem xd_70_23 : decode prog_1_method_32_code 23 = .ok (.invokevirtual 59, 3) := by decide +kernel
theorem xd_70_26 : decode prog_1_method_32_code 26 = .ok (.ifCond .eq 5, 3) := by decide +kernel
theorem xd_70_29 : decode prog_1_method_32_code 29 = .ok (.iconst 1, 1) := by decide +kernel
theorem xd_70_30 : decode prog_1_method_32_code 30 = .ok (.ireturn, 1) := by decide +kernel
theorem xd_70_31 : decode prog_1_method_32_code 31 = .ok (.iinc 1 (1), 3) := by decide +kernel
theorem xd_70_34 : decode prog_1_method_32_code 34 = .ok (.goto (-32), 3) := by decide +kernel
theorem xd_70_37 : decode prog_1_method_32_code 37 = .ok (.iconst 0, 1) := by decide +kernel
theorem xd_70_38 : decode prog_1_method_32_code 38 = .ok (.ireturn, 1) := by decide +kernel
theorem xk_70_0 : xk_OkA xp_F (xp_P sc) xp_cl xp_BW xp_NW xp_SW xp_exn 70 0 (.iconst 0) := Or.inl ⟨xd_70_0, rfl⟩
theorem xk_70_1 : xk_OkA xp_F (xp_P sc) xp_cl xp_BW xp_NW xp_SW xp_exn 70 1 (.istore 1) := Or.inr ⟨1, rfl, xd_70_1, rfl⟩
theorem xk_70_2 : xk_OkA xp_F (xp_P sc) xp_cl xp_BW xp_NW xp_SW xp_exn 70 2 (.iload 1) := Or.inr ⟨1, rfl, xd_70_2, rfl⟩
theorem xk_70_3 : xk_OkA xp_F (xp_P sc) xp_cl xp_BW xp_NW xp_SW xp_exn 70 3 (.iconst 4) := Or.inl ⟨xd_70_3, rfl⟩
theorem xk_70_4 : xk_OkA xp_F (xp_P sc) xp_cl xp_BW xp_NW xp_SW xp_exn 70 4 (.if_icmp .ge 19) := ⟨_, xd_70_4, by unfold xf_to; decide +kernel, rfl⟩
theorem xk_70_5 : xk_OkA xp_F (xp_P sc) xp_cl xp_BW xp_NW xp_SW xp_exn 70 5 (.aload 0) := Or.inr ⟨0, rfl, xd_70_7, rfl⟩
theorem xk_70_6 : xk_OkA xp_F (xp_P sc) xp_cl xp_BW xp_NW xp_SW xp_exn 70 6 (.getfield 97) := ⟨_, xd_70_8, rfl, ⟨_, _, _, rfl, by decide, xu_3, Or.inl xwt_78⟩⟩
theorem xk_70_7 : xk_OkA xp_F (xp_P sc) xp_cl xp_BW xp_NW xp_SW xp_exn 70 7 (.iload 1) := Or.inr ⟨1, rfl, xd_70_11, rfl⟩
theorem xk_70_8 : xk_OkA xp_F (xp_P sc) xp_cl xp_BW xp_NW xp_SW xp_exn 70 8 (.invokeinterface 22 2) := ⟨rfl, Or.inl ⟨xwt_218, rfl⟩, rfl, rfl, xwt_3, by decide +kernel, by decide +kernel, Nat.le_of_ble_eq_true rfl, _, Or.inr ⟨_, xwn_215⟩, Or.inr ⟨xd_70_12, xwt_217, xws_3, ⟨_, _, _, rfl, rfl⟩, by decide +kernel⟩⟩
theorem xk_70_9 : xk_OkA xp_F (xp_P sc) xp_cl xp_BW xp_NW xp_SW xp_exn 70 9 (.ifCond .eq 17) := ⟨_, xd_70_15, by unfold xf_to; decide +kernel, rfl⟩
theorem xk_70_10 : xk_OkA xp_F (xp_P sc) xp_cl xp_BW xp_NW xp_SW xp_exn 70 10 (.aload 0) := Or.inr ⟨0, rfl, xd_70_18, rfl⟩
theorem xk_70_11 : xk_OkA xp_F (xp_P sc) xp_cl xp_BW xp_NW xp_SW xp_exn 70 11 (.getfield 96) := ⟨_, xd_70_19, rfl, ⟨_, _, _, rfl, by decide, xu_3, Or.inl xwt_77⟩⟩
theorem xk_70_12 : xk_OkA xp_F (xp_P sc) xp_cl xp_BW xp_NW xp_SW xp_exn 70 12 (.iload 1) := Or.inr ⟨1, rfl, xd_70_22, rfl⟩
theorem xk_70_13 : xk_OkA xp_F (xp_P sc) xp_cl xp_BW xp_NW xp_SW xp_exn 70 13 (.invokeinterface 0 2) := ⟨rfl, Or.inl ⟨xwt_226, rfl⟩, rfl, rfl, xwt_2, by decide +kernel, by decide +kernel, Nat.le_of_ble_eq_true rfl, _, Or.inr ⟨_, xwn_223⟩, Or.inr ⟨xd_70_23, xwt_225, xws_5, ⟨_, _, _, rfl, rfl⟩, by decide +kernel⟩⟩
theorem xk_70_14 : xk_OkA xp_F (xp_P sc) xp_cl xp_BW xp_NW xp_SW xp_exn 70 14 (.ifCond .eq 17) := ⟨_, xd_70_26, by unfold xf_to; decide +kernel, rfl⟩
theorem xk_70_15 : xk_OkA xp_F (xp_P sc) xp_cl xp_BW xp_NW xp_SW xp_exn 70 15 (.iconst 1) := Or.inl ⟨xd_70_29, rfl⟩
theorem xk_70_16 : xk_OkA xp_F (xp_P sc) xp_cl xp_BW xp_NW xp_SW xp_exn 70 16 (.freturn) := ⟨xd_70_30, rfl⟩
theorem xk_70_17 : xk_OkA xp_F (xp_P sc) xp_cl xp_BW xp_NW xp_SW xp_exn 70 17 (.iinc 1 (1)) := ⟨xd_70_31, rfl⟩
theorem xk_70_18 : xk_OkA xp_F (xp_P sc) xp_cl xp_BW xp_NW xp_SW xp_exn 70 18 (.goto 2) := ⟨_, xd_70_34, by unfold xf_to; decide +kernel⟩
theorem xk_70_19 : xk_OkA xp_F (xp_P sc) xp_cl xp_BW xp_NW xp_SW xp_exn 70 19 (.iconst 0) := Or.inl ⟨xd_70_37, rfl⟩
theorem xk_70_20 : xk_OkA xp_F (xp_P sc) xp_cl xp_BW xp_NW xp_SW xp_exn 70 20 (.freturn) := ⟨xd_70_38, rfl⟩
theorem xl_70 : xk_OkL xp_F (xp_P sc) xp_cl xp_BW xp_NW xp_SW xp_exn 70 0 xc_70 := ⟨xk_70_0, xk_70_1, xk_70_2, xk_70_3, xk_70_4, xk_70_5, xk_70_6, xk_70_7, xk_70_8, xk_70_9, xk_70_10, xk_70_11, xk_70_12, xk_70_13, xk_70_14, xk_70_15, xk_70_16, xk_70_17, xk_70_18, xk_70_19, xk_70_20, trivial⟩
theorem xd_71_0 : decode prog_1_method_33_code 0 = .ok (.iconst 0, 1) := by decide +kernel
theorem xd_71_1 : decode prog_1_method_33_code 1 = .ok (.istore_n 1, 1) := by decide +kernel
theorem xd_71_2 : decode prog_1_method_33_code 2 = .ok (.iload_n 1, 1) := by decide +kernel
theorem xd_71_3 : decode prog_1_method_33_code 3 = .ok (.iconst 4, 1) := by decide +kernel
theorem xd_71_4 : decode prog_1_method_33_code 4 = .ok (.if_icmp .ge 23, 3) := by decide +kernel
theorem xd_71_7 : decode prog_1_method_33_code 7 = .ok (.aload_n 0, 1) := by decide +kernel
theorem xd_71_8 : decode prog_1_method_33_code 8 = .ok (.aload_n 0, 1) := by decide +kernel
theorem xd_71_9 : decode prog_1_method_33_code 9 = .ok (.getfield 19, 3) := by decide +kernel
theorem xd_71_12 : decode prog_1_method_33_code 12 = .ok (.iload_n 1, 1) := by decide +kernel
theorem xd_71_13 : decode prog_1_method_33_code 13 = .ok (.invokevirtual 251, 3) := by decide +kernel
theorem xd_71_16 : decode prog_1_method_33_code 16 = .ok (.ifCond .eq 5, 3) := by decide +kernel
theorem xd_71_19 : decode prog_1_method_33_code 19 = .ok (.iconst 1, 1) := by decide +kernel
theorem xd_71_20 : decode prog_1_method_33_code 20 = .ok (.ireturn, 1) := by decide +kernel
theorem xd_71_21 : decode prog_1_method_33_code 21 = .ok (.iinc 1 (1), 3) := by decide +kernel
theorem xd_71_24 : decode prog_1_method_33_code 24 = .ok (.goto (-22), 3) := by decide +kernel
theorem xd_71_27 : decode prog_1_method_33_code 27 = .ok (.iconst 0, 1) := by decide +kernel
theorem xd_71_28 : decode prog_1_method_33_code 28 = .ok (.ireturn, 1) := by decide +kernel
theorem xk_71_0 : xk_OkA xp_F (xp_P sc) xp_cl xp_BW xp_NW xp_SW xp_exn 71 0 (.iconst 0) := Or.inl ⟨xd_71_0, rfl⟩
theorem xk_71_1 : xk_OkA xp_F (xp_P sc) xp_cl xp_BW xp_NW xp_SW xp_exn 71 1 (.istore 1) := Or.inr ⟨1, rfl, xd_71_1, rfl⟩
theorem xk_71_2 : xk_OkA xp_F (xp_P sc) xp_cl xp_BW xp_NW xp_SW xp_exn 71 2 (.iload 1) := Or.inr ⟨1, rfl, xd_71_2, rfl⟩
theorem xk_71_3 : xk_OkA xp_F (xp_P sc) xp_cl xp_BW xp_NW xp_SW xp_exn 71 3 (.iconst 4) := Or.inl ⟨xd_71_3, rfl⟩
theorem xk_71_4 : xk_OkA xp_F (xp_P sc) xp_cl xp_BW xp_NW xp_SW xp_exn 71 4 (.if_icmp .ge 15) := ⟨_, xd_71_4, by unfold xf_to; decide +kernel, rfl⟩
theorem xk_71_5 : xk_OkA xp_F (xp_P sc) xp_cl xp_BW xp_NW xp_SW xp_exn 71 5 (.aload 0) := Or.inr ⟨0, rfl, xd_71_7, rfl⟩
theorem xk_71_6 : xk_OkA xp_F (xp_P sc) xp_cl xp_BW xp_NW xp_SW xp_exn 71 6 (.aload 0) := Or.inr ⟨0, rfl, xd_71_8, rfl⟩
theorem xk_71_7 : xk_OkA xp_F (xp_P sc) xp_cl xp_BW xp_NW xp_SW xp_exn 71 7 (.getfield 97) := ⟨_, xd_71_9, rfl, ⟨_, _, _, rfl, by decide, xu_3, Or.inl xwt_78⟩⟩
theorem xk_71_8 : xk_OkA xp_F (xp_P sc) xp_cl xp_BW xp_NW xp_SW xp_exn 71 8 (.iload 1) := Or.inr ⟨1, rfl, xd_71_12, rfl⟩
theorem xk_71_9 : xk_OkA xp_F (xp_P sc) xp_cl xp_BW xp_NW xp_SW xp_exn 71 9 (.invokeinterface 87 3) := ⟨rfl, Or.inl ⟨xwt_285, rfl⟩, rfl, rfl, xwt_1, by decide +kernel, by decide +kernel, Nat.le_of_ble_eq_true rfl, _, Or.inl xwt_282, Or.inr ⟨xd_71_13, xwt_284, xws_14, ⟨_, _, _, rfl, rfl⟩, by decide +kernel⟩⟩
theorem xk_71_10 : xk_OkA xp_F (xp_P sc) xp_cl xp_BW xp_NW xp_SW xp_exn 71 10 (.ifCond .eq 13) := ⟨_, xd_71_16, by unfold xf_to; decide +kernel, rfl⟩
theorem xk_71_11 : xk_OkA xp_F (xp_P sc) xp_cl xp_BW xp_NW xp_SW xp_exn 71 11 (.iconst 1) := Or.inl ⟨xd_71_19, rfl⟩
theorem xk_71_12 : xk_OkA xp_F (xp_P sc) xp_cl xp_BW xp_NW xp_SW xp_exn 71 12 (.freturn) := ⟨xd_71_20, rfl⟩
theorem xk_71_13 : xk_OkA xp_F (xp_P sc) xp_cl xp_BW xp_NW xp_SW xp_exn 71 13 (.iinc 1 (1)) := ⟨xd_71_21, rfl⟩
theorem xk_71_14 : xk_OkA xp_F (xp_P sc) xp_cl xp_BW xp_NW xp_SW xp_exn 71 14 (.goto 2) := ⟨_, xd_71_24, by unfold xf_to; decide +kernel⟩
theorem xk_71_15 : xk_OkA xp_F (xp_P sc) xp_cl xp_BW xp_NW xp_SW xp_exn 71 15 (.iconst 0) := Or.inl ⟨xd_71_27, rfl⟩
theorem xk_71_16 : xk_OkA xp_F (xp_P sc) xp_cl xp_BW xp_NW xp_SW xp_exn 71 16 (.freturn) := ⟨xd_71_28, rfl⟩
theorem xl_71 : xk_OkL xp_F (xp_P sc) xp_cl xp_BW xp_NW xp_SW xp_exn 71 0 xc_71 := ⟨xk_71_0, xk_71_1, xk_71_2, xk_71_3, xk_71_4, xk_71_5, xk_71_6, xk_71_7, xk_71_8, xk_71_9, xk_71_10, xk_71_11, xk_71_12, xk_71_13, xk_71_14, xk_71_15, xk_71_16, trivial⟩
theorem xd_72_0 : decode prog_1_method_34_code 0 = .ok (.iload_n 0, 1) := by decide +kernel
theorem xd_72_1 : decode prog_1_method_34_code 1 = .ok (.iconst 1, 1) := by decide +kernel
theorem xd_72_2 : decode prog_1_method_34_code 2 = .ok (.if_icmp .ne 19, 3) := by decide +kernel
theorem xd_72_5 : decode prog_1_method_34_code 5 = .ok (.iload_n 1, 1) := by decide +kernel
theorem xd_72_6 : decode prog_1_method_34_code 6 = .ok (.iconst 2, 1) := by decide +kernel
theorem xd_72_7 : decode prog_1_method_34_code 7 = .ok (.if_icmp .eq 8, 3) := by decide +kernel
theorem xd_72_10 : decode prog_1_method_34_code 10 = .ok (.iload_n 1, 1) := by decide +kernel
theorem xd_72_11 : decode prog_1_method_34_code 11 = .ok (.iconst 3, 1) := by decide +kernel
theorem xd_72_12 : decode prog_1_method_34_code 12 = .ok (.if_icmp .ne 7, 3) := by decide +kernel
theorem xd_72_15 : decode prog_1_method_34_code 15 = .ok (.iconst 1, 1) := by decide +kernel
theorem xd_72_16 : decode prog_1_method_34_code 16 = .ok (.goto 4, 3) := by decide +kernel
theorem xd_72_19 : decode prog_1_method_34_code 19 = .ok (.iconst 0, 1) := by decide +kernel
theorem xd_72_20 : decode prog_1_method_34_code 20 = .ok (.ireturn, 1) := by decide +kernel
theorem xd_72_21 : decode prog_1_method_34_code 21 = .ok (.iload_n 0, 1) := by decide +kernel
theorem xd_72_22 : decode prog_1_method_34_code 22 = .ok (.ifCond .eq 8, 3) := by decide +kernel
theorem xd_72_25 : decode prog_1_method_34_code 25 = .ok (.iload_n 0, 1) := by decide +kernel
theorem xd_72_26 : decode prog_1_method_34_code 26 = .ok (.iconst 2, 1) := by decide +kernel
theorem xd_72_27 : decode prog_1_method_34_code 27 = .ok (.if_icmp .ne 12, 3) := by decide +kernel
theorem xd_72_30 : decode prog_1_method_34_code 30 = .ok (.iload_n 1, 1) := by decide +kernel
theorem xd_72_31 : decode prog_1_method_34_code 31 = .ok (.iconst 1, 1) := by decide +kernel
theorem xd_72_32 : decode prog_1_method_34_code 32 = .ok (.if_icmp .ne 7, 3) := by decide +kernel
theorem xd_72_35 : decode prog_1_method_34_code 35 = .ok (.iconst 1, 1) := by decide +kernel
theorem xd_72_36 : decode prog_1_method_34_code 36 = .ok (.goto 4, 3) := by decide +kernel
theorem xd_72_39 : decode prog_1_method_34_code 39 = .ok (.iconst 0, 1) := by decide +kernel
theorem xd_72_40 : decode prog_1_method_34_code 40 = .ok (.ireturn, 1) := by decide +kernel
theorem xk_72_0 : xk_OkA xp_F (xp_P sc) xp_cl xp_BW xp_NW xp_SW xp_exn 72 0 (.iload 0) := Or.inr ⟨0, rfl, xd_72_0, rfl⟩
theorem xk_72_1 : xk_OkA xp_F (xp_P sc) xp_cl xp_BW xp_NW xp_SW xp_exn 72 1 (.iconst 1) := Or.inl ⟨xd_72_1, rfl⟩
theorem xk_72_2 : xk_OkA xp_F (xp_P sc) xp_cl xp_BW xp_NW xp_SW xp_exn 72 2 (.if_icmp .ne 13) := ⟨_, xd_72_2, by unfold xf_to; decide +kernel, rfl⟩
theorem xk_72_3 : xk_OkA xp_F (xp_P sc) xp_cl xp_BW xp_NW xp_SW xp_exn 72 3 (.iload 1) := Or.inr ⟨1, rfl, xd_72_5, rfl⟩
theorem xk_72_4 : xk_OkA xp_F (xp_P sc) xp_cl xp_BW xp_NW xp_SW xp_exn 72 4 (.iconst 2) := Or.inl ⟨xd_72_6, rfl⟩
theorem xk_72_5 : xk_OkA xp_F (xp_P sc) xp_cl xp_BW xp_NW xp_SW xp_exn 72 5 (.if_icmp .eq 9) := ⟨_, xd_72_7, by unfold xf_to; decide +kernel, rfl⟩
theorem xk_72_6 : xk_OkA xp_F (xp_P sc) xp_cl xp_BW xp_NW xp_SW xp_exn 72 6 (.iload 1) := Or.inr ⟨1, rfl, xd_72_10, rfl⟩
theorem xk_72_7 : xk_OkA xp_F (xp_P sc) xp_cl xp_BW xp_NW xp_SW xp_exn 72 7 (.iconst 3) := Or.inl ⟨xd_72_11, rfl⟩
theorem xk_72_8 : xk_OkA xp_F (xp_P sc) xp_cl xp_BW xp_NW xp_SW xp_exn 72 8 (.if_icmp .ne 11) := ⟨_, xd_72_12, by unfold xf_to; decide +kernel, rfl⟩
theorem xk_72_9 : xk_OkA xp_F (xp_P sc) xp_cl xp_BW xp_NW xp_SW xp_exn 72 9 (.iconst 1) := Or.inl ⟨xd_72_15, rfl⟩
theorem xk_72_10 : xk_OkA xp_F (xp_P sc) xp_cl xp_BW xp_NW xp_SW xp_exn 72 10 (.goto 12) := ⟨_, xd_72_16, by unfold xf_to; decide +kernel⟩
theorem xk_72_11 : xk_OkA xp_F (xp_P sc) xp_cl xp_BW xp_NW xp_SW xp_exn 72 11 (.iconst 0) := Or.inl ⟨xd_72_19, rfl⟩
theorem xk_72_12 : xk_OkA xp_F (xp_P sc) xp_cl xp_BW xp_NW xp_SW xp_exn 72 12 (.freturn) := ⟨xd_72_20, rfl⟩
theorem xk_72_13 : xk_OkA xp_F (xp_P sc) xp_cl xp_BW xp_NW xp_SW xp_exn 72 13 (.iload 0) := Or.inr ⟨0, rfl, xd_72_21, rfl⟩
theorem xk_72_14 : xk_OkA xp_F (xp_P sc) xp_cl xp_BW xp_NW xp_SW xp_exn 72 14 (.ifCond .eq 18) := ⟨_, xd_72_22, by unfold xf_to; decide +kernel, rfl⟩
theorem xk_72_15 : xk_OkA xp_F (xp_P sc) xp_cl xp_BW xp_NW xp_SW xp_exn 72 15 (.iload 0) := Or.inr ⟨0, rfl, xd_72_25, rfl⟩
theorem xk_72_16 : xk_OkA xp_F (xp_P sc) xp_cl xp_BW xp_NW xp_SW xp_exn 72 16 (.iconst 2) := Or.inl ⟨xd_72_26, rfl⟩
theorem xk_72_17 : xk_OkA xp_F (xp_P sc) xp_cl xp_BW xp_NW xp_SW xp_exn 72 17 (.if_icmp .ne 23) := ⟨_, xd_72_27, by unfold xf_to; decide +kernel, rfl⟩
theorem xk_72_18 : xk_OkA xp_F (xp_P sc) xp_cl xp_BW xp_NW xp_SW xp_exn 72 18 (.iload 1) := Or.inr ⟨1, rfl, xd_72_30, rfl⟩
theorem xk_72_19 : xk_OkA xp_F (xp_P sc) xp_cl xp_BW xp_NW xp_SW xp_exn 72 19 (.iconst 1) := Or.inl ⟨xd_72_31, rfl⟩
theorem xk_72_20 : xk_OkA xp_F (xp_P sc) xp_cl xp_BW xp_NW xp_SW xp_exn 72 20 (.if_icmp .ne 23) := ⟨_, xd_72_32, by unfold xf_to; decide +kernel, rfl⟩
theorem xk_72_21 : xk_OkA xp_F (xp_P sc) xp_cl xp_BW xp_NW xp_SW xp_exn 72 21 (.iconst 1) := Or.inl ⟨xd_72_35, rfl⟩
theorem xk_72_22 : xk_OkA xp_F (xp_P sc) xp_cl xp_BW xp_NW xp_SW xp_exn 72 22 (.goto 24) := ⟨_, xd_72_36, by unfold xf_to; decide +kernel⟩
theorem xk_72_23 : xk_OkA xp_F (xp_P sc) xp_cl xp_BW xp_NW xp_SW xp_exn 72 23 (.iconst 0) := Or.inl ⟨xd_72_39, rfl⟩
theorem xk_72_24 : xk_OkA xp_F (xp_P sc) xp_cl xp_BW xp_NW xp_SW xp_exn 72 24 (.freturn) := ⟨xd_72_40, rfl⟩
theorem xl_72 : xk_OkL xp_F (xp_P sc) xp_cl xp_BW xp_NW xp_SW xp_exn 72 0 xc_72 := ⟨xk_72_0, xk_72_1, xk_72_2, xk_72_3, xk_72_4, xk_72_5, xk_72_6, xk_72_7, xk_72_8, xk_72_9, xk_72_10, xk_72_11, xk_72_12, xk_72_13, xk_72_14, xk_72_15, xk_72_16, xk_72_17, xk_72_18, xk_72_19, xk_72_20, xk_72_21, xk_72_22, xk_72_23, xk_72_24, trivial⟩
theorem xd_73_0 : decode prog_1_method_35_code 0 = .ok (.iload_n 1, 1) := by decide +kernel
theorem xd_73_1 : decode prog_1_method_35_code 1 = .ok (.iconst 1, 1) := by decide +kernel
theorem xd_73_2 : decode prog_1_method_35_code 2 = .ok (.if_icmp .lt 23, 3) := by decide +kernel
theorem xd_73_5 : decode prog_1_method_35_code 5 = .ok (.iload_n 1, 1) := by decide +kernel
theorem xd_73_6 : decode prog_1_method_35_code 6 = .ok (.iconst 5, 1) := by decide +kernel
theorem xd_73_7 : decode prog_1_method_35_code 7 = .ok (.if_icmp .gt 18, 3) := by decide +kernel
theorem xd_73_10 : decode prog_1_method_35_code 10 = .ok (.iload_n 0, 1) := by decide +kernel
theorem xd_73_11 : decode prog_1_method_35_code 11 = .ok (.iconst 1, 1) := by decide +kernel
theorem xd_73_12 : decode prog_1_method_35_code 12 = .ok (.if_icmp .lt 13, 3) := by decide +kernel
theorem xd_73_15 : decode prog_1_method_35_code 15 = .ok (.iload_n 1, 1) := by decide +kernel
theorem xd_73_16 : decode prog_1_method_35_code 16 = .ok (.iload_n 0, 1) := by decide +kernel
theorem xd_73_17 : decode prog_1_method_35_code 17 = .ok (.irem, 1) := by decide +kernel
theorem xd_73_18 : decode prog_1_method_35_code 18 = .ok (.ifCond .ne 7, 3) := by decide +kernel
theorem xd_73_21 : decode prog_1_method_35_code 21 = .ok (.iconst 1, 1) := by decide +kernel
theorem xd_73_22 : decode prog_1_method_35_code 22 = .ok (.goto 4, 3) := by decide +kernel
theorem xd_73_25 : decode prog_1_method_35_code 25 = .ok (.iconst 0, 1) := by decide +kernel
theorem xd_73_26 : decode prog_1_method_35_code 26 = .ok (.ireturn, 1) := by decide +kernel
theorem xk_73_0 : xk_OkA xp_F (xp_P sc) xp_cl xp_BW xp_NW xp_SW xp_exn 73 0 (.iload 1) := Or.inr ⟨1, rfl, xd_73_0, rfl⟩
theorem xk_73_1 : xk_OkA xp_F (xp_P sc) xp_cl xp_BW xp_NW xp_SW xp_exn 73 1 (.iconst 1) := Or.inl ⟨xd_73_1, rfl⟩
theorem xk_73_2 : xk_OkA xp_F (xp_P sc) xp_cl xp_BW xp_NW xp_SW xp_exn 73 2 (.if_icmp .lt 15) := ⟨_, xd_73_2, by unfold xf_to; decide +kernel, rfl⟩
theorem xk_73_3 : xk_OkA xp_F (xp_P sc) xp_cl xp_BW xp_NW xp_SW xp_exn 73 3 (.iload 1) := Or.inr ⟨1, rfl, xd_73_5, rfl⟩
theorem xk_73_4 : xk_OkA xp_F (xp_P sc) xp_cl xp_BW xp_NW xp_SW xp_exn 73 4 (.iconst 5) := Or.inl ⟨xd_73_6, rfl⟩
theorem xk_73_5 : xk_OkA xp_F (xp_P sc) xp_cl xp_BW xp_NW xp_SW xp_exn 73 5 (.if_icmp .gt 15) := ⟨_, xd_73_7, by unfold xf_to; decide +kernel, rfl⟩
theorem xk_73_6 : xk_OkA xp_F (xp_P sc) xp_cl xp_BW xp_NW xp_SW xp_exn 73 6 (.iload 0) := Or.inr ⟨0, rfl, xd_73_10, rfl⟩
theorem xk_73_7 : xk_OkA xp_F (xp_P sc) xp_cl xp_BW xp_NW xp_SW xp_exn 73 7 (.iconst 1) := Or.inl ⟨xd_73_11, rfl⟩
theorem xk_73_8 : xk_OkA xp_F (xp_P sc) xp_cl xp_BW xp_NW xp_SW xp_exn 73 8 (.if_icmp .lt 15) := ⟨_, xd_73_12, by unfold xf_to; decide +kernel, rfl⟩
theorem xk_73_9 : xk_OkA xp_F (xp_P sc) xp_cl xp_BW xp_NW xp_SW xp_exn 73 9 (.iload 1) := Or.inr ⟨1, rfl, xd_73_15, rfl⟩
theorem xk_73_10 : xk_OkA xp_F (xp_P sc) xp_cl xp_BW xp_NW xp_SW xp_exn 73 10 (.iload 0) := Or.inr ⟨0, rfl, xd_73_16, rfl⟩
theorem xk_73_11 : xk_OkA xp_F (xp_P sc) xp_cl xp_BW xp_NW xp_SW xp_exn 73 11 (.irem) := ⟨xd_73_17, rfl⟩
theorem xk_73_12 : xk_OkA xp_F (xp_P sc) xp_cl xp_BW xp_NW xp_SW xp_exn 73 12 (.ifCond .ne 15) := ⟨_, xd_73_18, by unfold xf_to; decide +kernel, rfl⟩
theorem xk_73_13 : xk_OkA xp_F (xp_P sc) xp_cl xp_BW xp_NW xp_SW xp_exn 73 13 (.iconst 1) := Or.inl ⟨xd_73_21, rfl⟩
theorem xk_73_14 : xk_OkA xp_F (xp_P sc) xp_cl xp_BW xp_NW xp_SW xp_exn 73 14 (.goto 16) := ⟨_, xd_73_22, by unfold xf_to; decide +kernel⟩
theorem xk_73_15 : xk_OkA xp_F (xp_P sc) xp_cl xp_BW xp_NW xp_SW xp_exn 73 15 (.iconst 0) := Or.inl ⟨xd_73_25, rfl⟩
theorem xk_73_16 : xk_OkA xp_F (xp_P sc) xp_cl xp_BW xp_NW xp_SW xp_exn 73 16 (.freturn) := ⟨xd_73_26, rfl⟩
theorem xl_73 : xk_OkL xp_F (xp_P sc) xp_cl xp_BW xp_NW xp_SW xp_exn 73 0 xc_73 := ⟨xk_73_0, xk_73_1, xk_73_2, xk_73_3, xk_73_4, xk_73_5, xk_73_6, xk_73_7, xk_73_8, xk_73_9, xk_73_10, xk_73_11, xk_73_12, xk_73_13, xk_73_14, xk_73_15, xk_73_16, trivial⟩
theorem xd_74_0 : decode prog_1_method_36_code 0 = .ok (.iload_n 0, 1) := by decide +kernel
theorem xd_74_1 : decode prog_1_method_36_code 1 = .ok (.bipush 10, 2) := by decide +kernel
theorem xd_74_3 : decode prog_1_method_36_code 3 = .ok (.imul, 1) := by decide +kernel
theorem xd_74_4 : decode prog_1_method_36_code 4 = .ok (.iload_n 1, 1) := by decide +kernel
theorem xd_74_5 : decode prog_1_method_36_code 5 = .ok (.iconst 2, 1) := by decide +kernel
theorem xd_74_6 : decode prog_1_method_36_code 6 = .ok (.imul, 1) := by decide +kernel
theorem xd_74_7 : decode prog_1_method_36_code 7 = .ok (.iadd, 1) := by decide +kernel
theorem xd_74_8 : decode prog_1_method_36_code 8 = .ok (.iload_n 2, 1) := by decide +kernel
theorem xd_74_9 : decode prog_1_method_36_code 9 = .ok (.iadd, 1) := by decide +kernel
theorem xd_74_10 : decode prog_1_method_36_code 10 = .ok (.ireturn, 1) := by decide +kernel
theorem xk_74_0 : xk_OkA xp_F (xp_P sc) xp_cl xp_BW xp_NW xp_SW xp_exn 74 0 (.iload 0) := Or.inr ⟨0, rfl, xd_74_0, rfl⟩
theorem xk_74_1 : xk_OkA xp_F (xp_P sc) xp_cl xp_BW xp_NW xp_SW xp_exn 74 1 (.iconst 10) := Or.inr (Or.inl ⟨xd_74_1, by decide +kernel, rfl⟩)
theorem xk_74_2 : xk_OkA xp_F (xp_P sc) xp_cl xp_BW xp_NW xp_SW xp_exn 74 2 (.imul) := ⟨xd_74_3, rfl⟩
theorem xk_74_3 : xk_OkA xp_F (xp_P sc) xp_cl xp_BW xp_NW xp_SW xp_exn 74 3 (.iload 1) := Or.inr ⟨1, rfl, xd_74_4, rfl⟩
theorem xk_74_4 : xk_OkA xp_F (xp_P sc) xp_cl xp_BW xp_NW xp_SW xp_exn 74 4 (.iconst 2) := Or.inl ⟨xd_74_5, rfl⟩
theorem xk_74_5 : xk_OkA xp_F (xp_P sc) xp_cl xp_BW xp_NW xp_SW xp_exn 74 5 (.imul) := ⟨xd_74_6, rfl⟩
theorem xk_74_6 : xk_OkA xp_F (xp_P sc) xp_cl xp_BW xp_NW xp_SW xp_exn 74 6 (.iadd) := ⟨xd_74_7, rfl⟩
theorem xk_74_7 : xk_OkA xp_F (xp_P sc) xp_cl xp_BW xp_NW xp_SW xp_exn 74 7 (.iload 2) := Or.inr ⟨2, rfl, xd_74_8, rfl⟩
theorem xk_74_8 : xk_OkA xp_F (xp_P sc) xp_cl xp_BW xp_NW xp_SW xp_exn 74 8 (.iadd) := ⟨xd_74_9, rfl⟩
theorem xk_74_9 : xk_OkA xp_F (xp_P sc) xp_cl xp_BW xp_NW xp_SW xp_exn 74 9 (.ireturn) := ⟨xd_74_10, rfl⟩
theorem xl_74 : xk_OkL xp_F (xp_P sc) xp_cl xp_BW xp_NW xp_SW xp_exn 74 0 xc_74 := ⟨xk_74_0, xk_74_1, xk_74_2, xk_74_3, xk_74_4, xk_74_5, xk_74_6, xk_74_7, xk_74_8, xk_74_9, trivial⟩
theorem xd_75_0 : decode prog_1_method_37_code 0 = .ok (.iload_n 0, 1) := by decide +kernel
theorem xd_75_1 : decode prog_1_method_37_code 1 = .ok (.iconst (-1), 1) := by decide +kernel
theorem xd_75_2 : decode prog_1_method_37_code 2 = .ok (.if_icmp .ne 7, 3) := by decide +kernel
theorem xd_75_5 : decode prog_1_method_37_code 5 = .ok (.iconst (-1), 1) := by decide +kernel
theorem xd_75_6 : decode prog_1_method_37_code 6 = .ok (.goto 7, 3) := by decide +kernel
theorem xd_75_9 : decode prog_1_method_37_code 9 = .ok (.iload_n 0, 1) := by decide +kernel
theorem xd_75_10 : decode prog_1_method_37_code 10 = .ok (.bipush 8, 2) := by decide +kernel
theorem xd_75_12 : decode prog_1_method_37_code 12 = .ok (.idiv, 1) := by decide +kernel
theorem xd_75_13 : decode prog_1_method_37_code 13 = .ok (.ireturn, 1) := by decide +kernel
theorem xk_75_0 : xk_OkA xp_F (xp_P sc) xp_cl xp_BW xp_NW xp_SW xp_exn 75 0 (.iload 0) := Or.inr ⟨0, rfl, xd_75_0, rfl⟩
theorem xk_75_1 : xk_OkA xp_F (xp_P sc) xp_cl xp_BW xp_NW xp_SW xp_exn 75 1 (.iconst (-1)) := Or.inl ⟨xd_75_1, rfl⟩
theorem xk_75_2 : xk_OkA xp_F (xp_P sc) xp_cl xp_BW xp_NW xp_SW xp_exn 75 2 (.if_icmp .ne 5) := ⟨_, xd_75_2, by unfold xf_to; decide +kernel, rfl⟩
theorem xk_75_3 : xk_OkA xp_F (xp_P sc) xp_cl xp_BW xp_NW xp_SW xp_exn 75 3 (.iconst (-1)) := Or.inl ⟨xd_75_5, rfl⟩
theorem xk_75_4 : xk_OkA xp_F (xp_P sc) xp_cl xp_BW xp_NW xp_SW xp_exn 75 4 (.goto 8) := ⟨_, xd_75_6, by unfold xf_to; decide +kernel⟩
theorem xk_75_5 : xk_OkA xp_F (xp_P sc) xp_cl xp_BW xp_NW xp_SW xp_exn 75 5 (.iload 0) := Or.inr ⟨0, rfl, xd_75_9, rfl⟩
theorem xk_75_6 : xk_OkA xp_F (xp_P sc) xp_cl xp_BW xp_NW xp_SW xp_exn 75 6 (.iconst 8) := Or.inr (Or.inl ⟨xd_75_10, by decide +kernel, rfl⟩)
theorem xk_75_7 : xk_OkA xp_F (xp_P sc) xp_cl xp_BW xp_NW xp_SW xp_exn 75 7 (.idiv) := ⟨xd_75_12, rfl⟩
theorem xk_75_8 : xk_OkA xp_F (xp_P sc) xp_cl xp_BW xp_NW xp_SW xp_exn 75 8 (.ireturn) := ⟨xd_75_13, rfl⟩
theorem xl_75 : xk_OkL xp_F (xp_P sc) xp_cl xp_BW xp_NW xp_SW xp_exn 75 0 xc_75 := ⟨xk_75_0, xk_75_1, xk_75_2, xk_75_3, xk_75_4, xk_75_5, xk_75_6, xk_75_7, xk_75_8, trivial⟩
theorem xd_76_0 : decode prog_1_method_38_code 0 = .ok (.aload_n 0, 1) := by decide +kernel
theorem xd_76_1 : decode prog_1_method_38_code 1 = .ok (.getfield 19, 3) := by decide +kernel
theorem xd_76_4 : decode prog_1_method_38_code 4 = .ok (.iload_n 1, 1) := by decide +kernel
theorem xd_76_5 : decode prog_1_method_38_code 5 = .ok (.invokevirtual 143, 3) := by decide +kernel
theorem xd_76_8 : decode prog_1_method_38_code 8 = .ok (.iconst 4, 1) := by decide +kernel
theorem xd_76_9 : decode prog_1_method_38_code 9 = .ok (.imul, 1) := by decide +kernel
theorem xd_76_10 : decode prog_1_method_38_code 10 = .ok (.ireturn, 1) := by decide +kernel
theorem xk_76_0 : xk_OkA xp_F (xp_P sc) xp_cl xp_BW xp_NW xp_SW xp_exn 76 0 (.aload 0) := Or.inr ⟨0, rfl, xd_76_0, rfl⟩
theorem xk_76_1 : xk_OkA xp_F (xp_P sc) xp_cl xp_BW xp_NW xp_SW xp_exn 76 1 (.getfield 97) := ⟨_, xd_76_1, rfl, ⟨_, _, _, rfl, by decide, xu_3, Or.inl xwt_78⟩⟩
theorem xk_76_2 : xk_OkA xp_F (xp_P sc) xp_cl xp_BW xp_NW xp_SW xp_exn 76 2 (.iload 1) := Or.inr ⟨1, rfl, xd_76_4, rfl⟩
theorem xk_76_3 : xk_OkA xp_F (xp_P sc) xp_cl xp_BW xp_NW xp_SW xp_exn 76 3 (.invokeinterface 31 2) := ⟨rfl, Or.inl ⟨xwt_413, rfl⟩, rfl, rfl, xwt_3, by decide +kernel, by decide +kernel, Nat.le_of_ble_eq_true rfl, _, Or.inr ⟨_, xwn_410⟩, Or.inr ⟨xd_76_5, xwt_412, xws_35, ⟨_, _, _, rfl, rfl⟩, by decide +kernel⟩⟩
theorem xk_76_4 : xk_OkA xp_F (xp_P sc) xp_cl xp_BW xp_NW xp_SW xp_exn 76 4 (.iconst 4) := Or.inl ⟨xd_76_8, rfl⟩
theorem xk_76_5 : xk_OkA xp_F (xp_P sc) xp_cl xp_BW xp_NW xp_SW xp_exn 76 5 (.imul) := ⟨xd_76_9, rfl⟩
theorem xk_76_6 : xk_OkA xp_F (xp_P sc) xp_cl xp_BW xp_NW xp_SW xp_exn 76 6 (.ireturn) := ⟨xd_76_10, rfl⟩
theorem xl_76 : xk_OkL xp_F (xp_P sc) xp_cl xp_BW xp_NW xp_SW xp_exn 76 0 xc_76 := ⟨xk_76_0, xk_76_1, xk_76_2, xk_76_3, xk_76_4, xk_76_5, xk_76_6, trivial⟩
theorem xd_77_0 : decode prog_1_method_39_code 0 = .ok (.aload_n 0, 1) := by decide +kernel
theorem xd_77_1 : decode prog_1_method_39_code 1 = .ok (.getfield 19, 3) := by decide +kernel
theorem xd_77_4 : decode prog_1_method_39_code 4 = .ok (.iload_n 1, 1) := by decide +kernel
theorem xd_77_5 : decode prog_1_method_39_code 5 = .ok (.invokevirtual 146, 3) := by decide +kernel
theorem xd_77_8 : decode prog_1_method_39_code 8 = .ok (.istore_n 3, 1) := by decide +kernel
theorem xd_77_9 : decode prog_1_method_39_code 9 = .ok (.iload_n 3, 1) := by decide +kernel
theorem xd_77_10 : decode prog_1_method_39_code 10 = .ok (.iload_n 2, 1) := by decide +kernel
theorem xd_77_11 : decode prog_1_method_39_code 11 = .ok (.iconst 4, 1) := by decide +kernel
theorem xd_77_12 : decode prog_1_method_39_code 12 = .ok (.iload_n 3, 1) := by decide +kernel
theorem xd_77_13 : decode prog_1_method_39_code 13 = .ok (.imul, 1) := by decide +kernel
theorem xd_77_14 : decode prog_1_method_39_code 14 = .ok (.idiv, 1) := by decide +kernel
theorem xd_77_15 : decode prog_1_method_39_code 15 = .ok (.imul, 1) := by decide +kernel
theorem xd_77_16 : decode prog_1_method_39_code 16 = .ok (.iload_n 2, 1) := by decide +kernel
theorem xd_77_17 : decode prog_1_method_39_code 17 = .ok (.iload_n 3, 1) := by decide +kernel
theorem xd_77_18 : decode prog_1_method_39_code 18 = .ok (.irem, 1) := by decide +kernel
theorem xd_77_19 : decode prog_1_method_39_code 19 = .ok (.iadd, 1) := by decide +kernel
theorem xd_77_20 : decode prog_1_method_39_code 20 = .ok (.ireturn, 1) := by decide +kernel
theorem xk_77_0 : xk_OkA xp_F (xp_P sc) xp_cl xp_BW xp_NW xp_SW xp_exn 77 0 (.aload 0) := Or.inr ⟨0, rfl, xd_77_0, rfl⟩
theorem xk_77_1 : xk_OkA xp_F (xp_P sc) xp_cl xp_BW xp_NW xp_SW xp_exn 77 1 (.getfield 97) := ⟨_, xd_77_1, rfl, ⟨_, _, _, rfl, by decide, xu_3, Or.inl xwt_78⟩⟩
theorem xk_77_2 : xk_OkA xp_F (xp_P sc) xp_cl xp_BW xp_NW xp_SW xp_exn 77 2 (.iload 1) := Or.inr ⟨1, rfl, xd_77_4, rfl⟩
theorem xk_77_3 : xk_OkA xp_F (xp_P sc) xp_cl xp_BW xp_NW xp_SW xp_exn 77 3 (.invokeinterface 30 2) := ⟨rfl, Or.inl ⟨xwt_429, rfl⟩, rfl, rfl, xwt_3, by decide +kernel, by decide +kernel, Nat.le_of_ble_eq_true rfl, _, Or.inr ⟨_, xwn_426⟩, Or.inr ⟨xd_77_5, xwt_428, xws_39, ⟨_, _, _, rfl, rfl⟩, by decide +kernel⟩⟩
theorem xk_77_4 : xk_OkA xp_F (xp_P sc) xp_cl xp_BW xp_NW xp_SW xp_exn 77 4 (.istore 3) := Or.inr ⟨3, rfl, xd_77_8, rfl⟩
theorem xk_77_5 : xk_OkA xp_F (xp_P sc) xp_cl xp_BW xp_NW xp_SW xp_exn 77 5 (.iload 3) := Or.inr ⟨3, rfl, xd_77_9, rfl⟩
theorem xk_77_6 : xk_OkA xp_F (xp_P sc) xp_cl xp_BW xp_NW xp_SW xp_exn 77 6 (.iload 2) := Or.inr ⟨2, rfl, xd_77_10, rfl⟩
theorem xk_77_7 : xk_OkA xp_F (xp_P sc) xp_cl xp_BW xp_NW xp_SW xp_exn 77 7 (.iconst 4) := Or.inl ⟨xd_77_11, rfl⟩
theorem xk_77_8 : xk_OkA xp_F (xp_P sc) xp_cl xp_BW xp_NW xp_SW xp_exn 77 8 (.iload 3) := Or.inr ⟨3, rfl, xd_77_12, rfl⟩
theorem xk_77_9 : xk_OkA xp_F (xp_P sc) xp_cl xp_BW xp_NW xp_SW xp_exn 77 9 (.imul) := ⟨xd_77_13, rfl⟩
theorem xk_77_10 : xk_OkA xp_F (xp_P sc) xp_cl xp_BW xp_NW xp_SW xp_exn 77 10 (.idiv) := ⟨xd_77_14, rfl⟩
theorem xk_77_11 : xk_OkA xp_F (xp_P sc) xp_cl xp_BW xp_NW xp_SW xp_exn 77 11 (.imul) := ⟨xd_77_15, rfl⟩
theorem xk_77_12 : xk_OkA xp_F (xp_P sc) xp_cl xp_BW xp_NW xp_SW xp_exn 77 12 (.iload 2) := Or.inr ⟨2, rfl, xd_77_16, rfl⟩
theorem xk_77_13 : xk_OkA xp_F (xp_P sc) xp_cl xp_BW xp_NW xp_SW xp_exn 77 13 (.iload 3) := Or.inr ⟨3, rfl, xd_77_17, rfl⟩
theorem xk_77_14 : xk_OkA xp_F (xp_P sc) xp_cl xp_BW xp_NW xp_SW xp_exn 77 14 (.irem) := ⟨xd_77_18, rfl⟩
theorem xk_77_15 : xk_OkA xp_F (xp_P sc) xp_cl xp_BW xp_NW xp_SW xp_exn 77 15 (.iadd) := ⟨xd_77_19, rfl⟩
theorem xk_77_16 : xk_OkA xp_F (xp_P sc) xp_cl xp_BW xp_NW xp_SW xp_exn 77 16 (.ireturn) := ⟨xd_77_20, rfl⟩
theorem xl_77 : xk_OkL xp_F (xp_P sc) xp_cl xp_BW xp_NW xp_SW xp_exn 77 0 xc_77 := ⟨xk_77_0, xk_77_1, xk_77_2, xk_77_3, xk_77_4, xk_77_5, xk_77_6, xk_77_7, xk_77_8, xk_77_9, xk_77_10, xk_77_11, xk_77_12, xk_77_13, xk_77_14, xk_77_15, xk_77_16, trivial⟩
theorem xd_78_0 : decode prog_1_method_40_code 0 = .ok (.aload_n 0, 1) := by decide +kernel
theorem xd_78_1 : decode prog_1_method_40_code 1 = .ok (.getfield 19, 3) := by decide +kernel
theorem xd_78_4 : decode prog_1_method_40_code 4 = .ok (.iload_n 1, 1) := by decide +kernel
theorem xd_78_5 : decode prog_1_method_40_code 5 = .ok (.invokevirtual 146, 3) := by decide +kernel
theorem xd_78_8 : decode prog_1_method_40_code 8 = .ok (.istore_n 3, 1) := by decide +kernel
theorem xd_78_9 : decode prog_1_method_40_code 9 = .ok (.iload_n 2, 1) := by decide +kernel
theorem xd_78_10 : decode prog_1_method_40_code 10 = .ok (.iconst 4, 1) := by decide +kernel
theorem xd_78_11 : decode prog_1_method_40_code 11 = .ok (.iload_n 3, 1) := by decide +kernel
theorem xd_78_12 : decode prog_1_method_40_code 12 = .ok (.imul, 1) := by decide +kernel
theorem xd_78_13 : decode prog_1_method_40_code 13 = .ok (.irem, 1) := by decide +kernel
theorem xd_78_14 : decode prog_1_method_40_code 14 = .ok (.iload_n 3, 1) := by decide +kernel
theorem xd_78_15 : decode prog_1_method_40_code 15 = .ok (.idiv, 1) := by decide +kernel
theorem xd_78_16 : decode prog_1_method_40_code 16 = .ok (.ireturn, 1) := by decide +kernel
theorem xk_78_0 : xk_OkA xp_F (xp_P sc) xp_cl xp_BW xp_NW xp_SW xp_exn 78 0 (.aload 0) := Or.inr ⟨0, rfl, xd_78_0, rfl⟩
theorem xk_78_1 : xk_OkA xp_F (xp_P sc) xp_cl xp_BW xp_NW xp_SW xp_exn 78 1 (.getfield 97) := ⟨_, xd_78_1, rfl, ⟨_, _, _, rfl, by decide, xu_3, Or.inl xwt_78⟩⟩
theorem xk_78_2 : xk_OkA xp_F (xp_P sc) xp_cl xp_BW xp_NW xp_SW xp_exn 78 2 (.iload 1) := Or.inr ⟨1, rfl, xd_78_4, rfl⟩
theorem xk_78_3 : xk_OkA xp_F (xp_P sc) xp_cl xp_BW xp_NW xp_SW xp_exn 78 3 (.invokeinterface 30 2) := ⟨rfl, Or.inl ⟨xwt_429, rfl⟩, rfl, rfl, xwt_3, by decide +kernel, by decide +kernel, Nat.le_of_ble_eq_true rfl, _, Or.inr ⟨_, xwn_426⟩, Or.inr ⟨xd_78_5, xwt_428, xws_39, ⟨_, _, _, rfl, rfl⟩, by decide +kernel⟩⟩
theorem xk_78_4 : xk_OkA xp_F (xp_P sc) xp_cl xp_BW xp_NW xp_SW xp_exn 78 4 (.istore 3) := Or.inr ⟨3, rfl, xd_78_8, rfl⟩
theorem xk_78_5 : xk_OkA xp_F (xp_P sc) xp_cl xp_BW xp_NW xp_SW xp_exn 78 5 (.iload 2) := Or.inr ⟨2, rfl, xd_78_9, rfl⟩
theorem xk_78_6 : xk_OkA xp_F (xp_P sc) xp_cl xp_BW xp_NW xp_SW xp_exn 78 6 (.iconst 4) := Or.inl ⟨xd_78_10, rfl⟩
theorem xk_78_7 : xk_OkA xp_F (xp_P sc) xp_cl xp_BW xp_NW xp_SW xp_exn 78 7 (.iload 3) := Or.inr ⟨3, rfl, xd_78_11, rfl⟩
theorem xk_78_8 : xk_OkA xp_F (xp_P sc) xp_cl xp_BW xp_NW xp_SW xp_exn 78 8 (.imul) := ⟨xd_78_12, rfl⟩
theorem xk_78_9 : xk_OkA xp_F (xp_P sc) xp_cl xp_BW xp_NW xp_SW xp_exn 78 9 (.irem) := ⟨xd_78_13, rfl⟩
theorem xk_78_10 : xk_OkA xp_F (xp_P sc) xp_cl xp_BW xp_NW xp_SW xp_exn 78 10 (.iload 3) := Or.inr ⟨3, rfl, xd_78_14, rfl⟩
theorem xk_78_11 : xk_OkA xp_F (xp_P sc) xp_cl xp_BW xp_NW xp_SW xp_exn 78 11 (.idiv) := ⟨xd_78_15, rfl⟩
theorem xk_78_12 : xk_OkA xp_F (xp_P sc) xp_cl xp_BW xp_NW xp_SW xp_exn 78 12 (.ireturn) := ⟨xd_78_16, rfl⟩
theorem xl_78 : xk_OkL xp_F (xp_P sc) xp_cl xp_BW xp_NW xp_SW xp_exn 78 0 xc_78 := ⟨xk_78_0, xk_78_1, xk_78_2, xk_78_3, xk_78_4, xk_78_5, xk_78_6, xk_78_7, xk_78_8, xk_78_9, xk_78_10, xk_78_11, xk_78_12, trivial⟩
theorem xd_79_0 : decode prog_1_method_41_code 0 = .ok (.aload_n 0, 1) := by decide +kernel
theorem xd_79_1 : decode prog_1_method_41_code 1 = .ok (.getfield 19, 3) := by decide +kernel
theorem xd_79_4 : decode prog_1_method_41_code 4 = .ok (.iload_n 1, 1) := by decide +kernel
theorem xd_79_5 : decode prog_1_method_41_code 5 = .ok (.invokevirtual 199, 3) := by decide +kernel
theorem xd_79_8 : decode prog_1_method_41_code 8 = .ok (.istore_n 2, 1) := by decide +kernel
theorem xd_79_9 : decode prog_1_method_41_code 9 = .ok (.iload_n 2, 1) := by decide +kernel
theorem xd_79_10 : decode prog_1_method_41_code 10 = .ok (.iconst (-1), 1) := by decide +kernel
theorem xd_79_11 : decode prog_1_method_41_code 11 = .ok (.if_icmp .eq 21, 3) := by decide +kernel
theorem xd_79_14 : decode prog_1_method_41_code 14 = .ok (.aload_n 0, 1) := by decide +kernel
theorem xd_79_15 : decode prog_1_method_41_code 15 = .ok (.getfield 12, 3) := by decide +kernel
theorem xd_79_18 : decode prog_1_method_41_code 18 = .ok (.iload_n 2, 1) := by decide +kernel
theorem xd_79_19 : decode prog_1_method_41_code 19 = .ok (.invokestatic 93, 3) := by decide +kernel
theorem xd_79_22 : decode prog_1_method_41_code 22 = .ok (.invokevirtual 59, 3) := by decide +kernel
theorem xd_79_25 : decode prog_1_method_41_code 25 = .ok (.ifCond .ne 7, 3) := by decide +kernel
theorem xd_79_28 : decode prog_1_method_41_code 28 = .ok (.iconst 1, 1) := by decide +kernel
theorem xd_79_29 : decode prog_1_method_41_code 29 = .ok (.goto 4, 3) := by decide +kernel
theorem xd_79_32 : decode prog_1_method_41_code 32 = .ok (.iconst 0, 1) := by decide +kernel
theorem xd_79_33 : decode prog_1_method_41_code 33 = .ok (.ireturn, 1) := by decide +kernel
theorem xk_79_0 : xk_OkA xp_F (xp_P sc) xp_cl xp_BW xp_NW xp_SW xp_exn 79 0 (.aload 0) := Or.inr ⟨0, rfl, xd_79_0, rfl⟩
theorem xk_79_1 : xk_OkA xp_F (xp_P sc) xp_cl xp_BW xp_NW xp_SW xp_exn 79 1 (.getfield 97) := ⟨_, xd_79_1, rfl, ⟨_, _, _, rfl, by decide, xu_3, Or.inl xwt_78⟩⟩
theorem xk_79_2 : xk_OkA xp_F (xp_P sc) xp_cl xp_BW xp_NW xp_SW xp_exn 79 2 (.iload 1) := Or.inr ⟨1, rfl, xd_79_4, rfl⟩
theorem xk_79_3 : xk_OkA xp_F (xp_P sc) xp_cl xp_BW xp_NW xp_SW xp_exn 79 3 (.invokeinterface 34 2) := ⟨rfl, Or.inl ⟨xwt_322, rfl⟩, rfl, rfl, xwt_3, by decide +kernel, by decide +kernel, Nat.le_of_ble_eq_true rfl, _, Or.inr ⟨_, xwn_319⟩, Or.inr ⟨xd_79_5, xwt_321, xws_22, ⟨_, _, _, rfl, rfl⟩, by decide +kernel⟩⟩
theorem xk_79_4 : xk_OkA xp_F (xp_P sc) xp_cl xp_BW xp_NW xp_SW xp_exn 79 4 (.istore 2) := Or.inr ⟨2, rfl, xd_79_8, rfl⟩
theorem xk_79_5 : xk_OkA xp_F (xp_P sc) xp_cl xp_BW xp_NW xp_SW xp_exn 79 5 (.iload 2) := Or.inr ⟨2, rfl, xd_79_9, rfl⟩
theorem xk_79_6 : xk_OkA xp_F (xp_P sc) xp_cl xp_BW xp_NW xp_SW xp_exn 79 6 (.iconst (-1)) := Or.inl ⟨xd_79_10, rfl⟩
theorem xk_79_7 : xk_OkA xp_F (xp_P sc) xp_cl xp_BW xp_NW xp_SW xp_exn 79 7 (.if_icmp .eq 16) := ⟨_, xd_79_11, by unfold xf_to; decide +kernel, rfl⟩
theorem xk_79_8 : xk_OkA xp_F (xp_P sc) xp_cl xp_BW xp_NW xp_SW xp_exn 79 8 (.aload 0) := Or.inr ⟨0, rfl, xd_79_14, rfl⟩
theorem xk_79_9 : xk_OkA xp_F (xp_P sc) xp_cl xp_BW xp_NW xp_SW xp_exn 79 9 (.getfield 96) := ⟨_, xd_79_15, rfl, ⟨_, _, _, rfl, by decide, xu_3, Or.inl xwt_77⟩⟩
theorem xk_79_10 : xk_OkA xp_F (xp_P sc) xp_cl xp_BW xp_NW xp_SW xp_exn 79 10 (.iload 2) := Or.inr ⟨2, rfl, xd_79_18, rfl⟩
theorem xk_79_11 : xk_OkA xp_F (xp_P sc) xp_cl xp_BW xp_NW xp_SW xp_exn 79 11 (.invokeinterface 75 1) := ⟨rfl, Or.inl ⟨xwt_346, rfl⟩, rfl, rfl, xwt_1, by decide +kernel, by decide +kernel, Nat.le_of_ble_eq_true rfl, _, Or.inl xwt_347, Or.inl ⟨xd_79_19, xwt_345, rfl, by decide +kernel⟩⟩
theorem xk_79_12 : xk_OkA xp_F (xp_P sc) xp_cl xp_BW xp_NW xp_SW xp_exn 79 12 (.invokeinterface 0 2) := ⟨rfl, Or.inl ⟨xwt_226, rfl⟩, rfl, rfl, xwt_2, by decide +kernel, by decide +kernel, Nat.le_of_ble_eq_true rfl, _, Or.inr ⟨_, xwn_223⟩, Or.inr ⟨xd_79_22, xwt_225, xws_5, ⟨_, _, _, rfl, rfl⟩, by decide +kernel⟩⟩
theorem xk_79_13 : xk_OkA xp_F (xp_P sc) xp_cl xp_BW xp_NW xp_SW xp_exn 79 13 (.ifCond .ne 16) := ⟨_, xd_79_25, by unfold xf_to; decide +kernel, rfl⟩
theorem xk_79_14 : xk_OkA xp_F (xp_P sc) xp_cl xp_BW xp_NW xp_SW xp_exn 79 14 (.iconst 1) := Or.inl ⟨xd_79_28, rfl⟩
theorem xk_79_15 : xk_OkA xp_F (xp_P sc) xp_cl xp_BW xp_NW xp_SW xp_exn 79 15 (.goto 17) := ⟨_, xd_79_29, by unfold xf_to; decide +kernel⟩
theorem xk_79_16 : xk_OkA xp_F (xp_P sc) xp_cl xp_BW xp_NW xp_SW xp_exn 79 16 (.iconst 0) := Or.inl ⟨xd_79_32, rfl⟩
theorem xk_79_17 : xk_OkA xp_F (xp_P sc) xp_cl xp_BW xp_NW xp_SW xp_exn 79 17 (.freturn) := ⟨xd_79_33, rfl⟩
theorem xl_79 : xk_OkL xp_F (xp_P sc) xp_cl xp_BW xp_NW xp_SW xp_exn 79 0 xc_79 := ⟨xk_79_0, xk_79_1, xk_79_2, xk_79_3, xk_79_4, xk_79_5, xk_79_6, xk_79_7, xk_79_8, xk_79_9, xk_79_10, xk_79_11, xk_79_12, xk_79_13, xk_79_14, xk_79_15, xk_79_16, xk_79_17, trivial⟩
end XkOk2
