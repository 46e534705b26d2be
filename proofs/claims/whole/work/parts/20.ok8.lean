/-! The instructions of the methods, one by one: written by wip/whole/gen_tables.py. -/
section XkOk8
variable {sc : Nat × (Nat → Int32)}
theorem xd_172_0 : decode method_15_code 0 = .ok (.aload_n 3, 1) := by decide +kernel
theorem xd_172_1 : decode method_15_code 1 = .ok (.iconst 0, 1) := by decide +kernel
theorem xd_172_2 : decode method_15_code 2 = .ok (.aload_n 0, 1) := by decide +kernel
theorem xd_172_3 : decode method_15_code 3 = .ok (.iload_n 1, 1) := by decide +kernel
theorem xd_172_4 : decode method_15_code 4 = .ok (.iload_n 2, 1) := by decide +kernel
theorem xd_172_5 : decode method_15_code 5 = .ok (.invokevirtual 61, 3) := by decide +kernel
theorem xd_172_8 : decode method_15_code 8 = .ok (.i2l, 1) := by decide +kernel
theorem xd_172_9 : decode method_15_code 9 = .ok (.lastore, 1) := by decide +kernel
theorem xd_172_10 : decode method_15_code 10 = .ok (.goto 15, 3) := by decide +kernel
theorem xd_172_13 : decode method_15_code 13 = .ok (.astore 4, 2) := by decide +kernel
theorem xd_172_15 : decode method_15_code 15 = .ok (.iconst 1, 1) := by decide +kernel
theorem xd_172_16 : decode method_15_code 16 = .ok (.ireturn, 1) := by decide +kernel
theorem xd_172_17 : decode method_15_code 17 = .ok (.astore 4, 2) := by decide +kernel
theorem xd_172_19 : decode method_15_code 19 = .ok (.iconst 2, 1) := by decide +kernel
theorem xd_172_20 : decode method_15_code 20 = .ok (.ireturn, 1) := by decide +kernel
theorem xd_172_21 : decode method_15_code 21 = .ok (.astore 4, 2) := by decide +kernel
theorem xd_172_23 : decode method_15_code 23 = .ok (.iconst 3, 1) := by decide +kernel
theorem xd_172_24 : decode method_15_code 24 = .ok (.ireturn, 1) := by decide +kernel
theorem xd_172_25 : decode method_15_code 25 = .ok (.iconst 0, 1) := by decide +kernel
theorem xd_172_26 : decode method_15_code 26 = .ok (.ireturn, 1) := by decide +kernel
theorem xk_172_0 : xk_OkA xp_F (xp_P sc) xp_cl xp_BW xp_NW xp_SW xp_exn 172 0 (.aload 3) := Or.inr ⟨3, rfl, xd_172_0, rfl⟩
theorem xk_172_1 : xk_OkA xp_F (xp_P sc) xp_cl xp_BW xp_NW xp_SW xp_exn 172 1 (.iconst 0) := Or.inl ⟨xd_172_1, rfl⟩
theorem xk_172_2 : xk_OkA xp_F (xp_P sc) xp_cl xp_BW xp_NW xp_SW xp_exn 172 2 (.aload 0) := Or.inr ⟨0, rfl, xd_172_2, rfl⟩
theorem xk_172_3 : xk_OkA xp_F (xp_P sc) xp_cl xp_BW xp_NW xp_SW xp_exn 172 3 (.iload 1) := Or.inr ⟨1, rfl, xd_172_3, rfl⟩
theorem xk_172_4 : xk_OkA xp_F (xp_P sc) xp_cl xp_BW xp_NW xp_SW xp_exn 172 4 (.iload 2) := Or.inr ⟨2, rfl, xd_172_4, rfl⟩
theorem xk_172_5 : xk_OkA xp_F (xp_P sc) xp_cl xp_BW xp_NW xp_SW xp_exn 172 5 (.invokeinterface 53 3) := ⟨rfl, Or.inl ⟨xwt_662, rfl⟩, rfl, rfl, xwt_1, by decide +kernel, by decide +kernel, Nat.le_of_ble_eq_true rfl, _, Or.inl xwt_659, Or.inr ⟨xd_172_5, xwt_660, xwt_661, ⟨_, _, _, rfl, rfl⟩, by decide +kernel⟩⟩
theorem xk_172_6 : xk_OkA xp_F (xp_P sc) xp_cl xp_BW xp_NW xp_SW xp_exn 172 6 (.i2l) := ⟨xd_172_8, rfl⟩
theorem xk_172_7 : xk_OkA xp_F (xp_P sc) xp_cl xp_BW xp_NW xp_SW xp_exn 172 7 (.lastore) := ⟨xd_172_9, rfl⟩
theorem xk_172_8 : xk_OkA xp_F (xp_P sc) xp_cl xp_BW xp_NW xp_SW xp_exn 172 8 (.goto 18) := ⟨_, xd_172_10, by unfold xf_to; decide +kernel⟩
theorem xk_172_9 : xk_OkA xp_F (xp_P sc) xp_cl xp_BW xp_NW xp_SW xp_exn 172 9 (.astore 4) := Or.inl ⟨xd_172_13, rfl⟩
theorem xk_172_10 : xk_OkA xp_F (xp_P sc) xp_cl xp_BW xp_NW xp_SW xp_exn 172 10 (.iconst 1) := Or.inl ⟨xd_172_15, rfl⟩
theorem xk_172_11 : xk_OkA xp_F (xp_P sc) xp_cl xp_BW xp_NW xp_SW xp_exn 172 11 (.ireturn) := ⟨xd_172_16, rfl⟩
theorem xk_172_12 : xk_OkA xp_F (xp_P sc) xp_cl xp_BW xp_NW xp_SW xp_exn 172 12 (.astore 4) := Or.inl ⟨xd_172_17, rfl⟩
theorem xk_172_13 : xk_OkA xp_F (xp_P sc) xp_cl xp_BW xp_NW xp_SW xp_exn 172 13 (.iconst 2) := Or.inl ⟨xd_172_19, rfl⟩
theorem xk_172_14 : xk_OkA xp_F (xp_P sc) xp_cl xp_BW xp_NW xp_SW xp_exn 172 14 (.ireturn) := ⟨xd_172_20, rfl⟩
theorem xk_172_15 : xk_OkA xp_F (xp_P sc) xp_cl xp_BW xp_NW xp_SW xp_exn 172 15 (.astore 4) := Or.inl ⟨xd_172_21, rfl⟩
theorem xk_172_16 : xk_OkA xp_F (xp_P sc) xp_cl xp_BW xp_NW xp_SW xp_exn 172 16 (.iconst 3) := Or.inl ⟨xd_172_23, rfl⟩
theorem xk_172_17 : xk_OkA xp_F (xp_P sc) xp_cl xp_BW xp_NW xp_SW xp_exn 172 17 (.ireturn) := ⟨xd_172_24, rfl⟩
theorem xk_172_18 : xk_OkA xp_F (xp_P sc) xp_cl xp_BW xp_NW xp_SW xp_exn 172 18 (.iconst 0) := Or.inl ⟨xd_172_25, rfl⟩
theorem xk_172_19 : xk_OkA xp_F (xp_P sc) xp_cl xp_BW xp_NW xp_SW xp_exn 172 19 (.ireturn) := ⟨xd_172_26, rfl⟩
theorem xl_172 : xk_OkL xp_F (xp_P sc) xp_cl xp_BW xp_NW xp_SW xp_exn 172 0 xc_172 := ⟨xk_172_0, xk_172_1, xk_172_2, xk_172_3, xk_172_4, xk_172_5, xk_172_6, xk_172_7, xk_172_8, xk_172_9, xk_172_10, xk_172_11, xk_172_12, xk_172_13, xk_172_14, xk_172_15, xk_172_16, xk_172_17, xk_172_18, xk_172_19, trivial⟩
theorem xd_173_0 : decode method_16_code 0 = .ok (.aload 4, 2) := by decide +kernel
theorem xd_173_2 : decode method_16_code 2 = .ok (.iconst 0, 1) := by decide +kernel
theorem xd_173_3 : decode method_16_code 3 = .ok (.aload_n 0, 1) := by decide +kernel
theorem xd_173_4 : decode method_16_code 4 = .ok (.iload_n 1, 1) := by decide +kernel
theorem xd_173_5 : decode method_16_code 5 = .ok (.iload_n 2, 1) := by decide +kernel
theorem xd_173_6 : decode method_16_code 6 = .ok (.iload_n 3, 1) := by decide +kernel
theorem xd_173_7 : decode method_16_code 7 = .ok (.invokevirtual 64, 3) := by decide +kernel
theorem xd_173_10 : decode method_16_code 10 = .ok (.i2l, 1) := by decide +kernel
theorem xd_173_11 : decode method_16_code 11 = .ok (.lastore, 1) := by decide +kernel
theorem xd_173_12 : decode method_16_code 12 = .ok (.goto 11, 3) := by decide +kernel
theorem xd_173_15 : decode method_16_code 15 = .ok (.astore 5, 2) := by decide +kernel
theorem xd_173_17 : decode method_16_code 17 = .ok (.iconst 1, 1) := by decide +kernel
theorem xd_173_18 : decode method_16_code 18 = .ok (.ireturn, 1) := by decide +kernel
theorem xd_173_19 : decode method_16_code 19 = .ok (.astore 5, 2) := by decide +kernel
theorem xd_173_21 : decode method_16_code 21 = .ok (.iconst 2, 1) := by decide +kernel
theorem xd_173_22 : decode method_16_code 22 = .ok (.ireturn, 1) := by decide +kernel
theorem xd_173_23 : decode method_16_code 23 = .ok (.iconst 0, 1) := by decide +kernel
theorem xd_173_24 : decode method_16_code 24 = .ok (.ireturn, 1) := by decide +kernel
theorem xk_173_0 : xk_OkA xp_F (xp_P sc) xp_cl xp_BW xp_NW xp_SW xp_exn 173 0 (.aload 4) := Or.inl ⟨xd_173_0, rfl⟩
theorem xk_173_1 : xk_OkA xp_F (xp_P sc) xp_cl xp_BW xp_NW xp_SW xp_exn 173 1 (.iconst 0) := Or.inl ⟨xd_173_2, rfl⟩
theorem xk_173_2 : xk_OkA xp_F (xp_P sc) xp_cl xp_BW xp_NW xp_SW xp_exn 173 2 (.aload 0) := Or.inr ⟨0, rfl, xd_173_3, rfl⟩
theorem xk_173_3 : xk_OkA xp_F (xp_P sc) xp_cl xp_BW xp_NW xp_SW xp_exn 173 3 (.iload 1) := Or.inr ⟨1, rfl, xd_173_4, rfl⟩
theorem xk_173_4 : xk_OkA xp_F (xp_P sc) xp_cl xp_BW xp_NW xp_SW xp_exn 173 4 (.iload 2) := Or.inr ⟨2, rfl, xd_173_5, rfl⟩
theorem xk_173_5 : xk_OkA xp_F (xp_P sc) xp_cl xp_BW xp_NW xp_SW xp_exn 173 5 (.iload 3) := Or.inr ⟨3, rfl, xd_173_6, rfl⟩
theorem xk_173_6 : xk_OkA xp_F (xp_P sc) xp_cl xp_BW xp_NW xp_SW xp_exn 173 6 (.invokeinterface 54 4) := ⟨rfl, Or.inl ⟨xwt_670, rfl⟩, rfl, rfl, xwt_1, by decide +kernel, by decide +kernel, Nat.le_of_ble_eq_true rfl, _, Or.inl xwt_667, Or.inr ⟨xd_173_7, xwt_668, xwt_669, ⟨_, _, _, rfl, rfl⟩, by decide +kernel⟩⟩
theorem xk_173_7 : xk_OkA xp_F (xp_P sc) xp_cl xp_BW xp_NW xp_SW xp_exn 173 7 (.i2l) := ⟨xd_173_10, rfl⟩
theorem xk_173_8 : xk_OkA xp_F (xp_P sc) xp_cl xp_BW xp_NW xp_SW xp_exn 173 8 (.lastore) := ⟨xd_173_11, rfl⟩
theorem xk_173_9 : xk_OkA xp_F (xp_P sc) xp_cl xp_BW xp_NW xp_SW xp_exn 173 9 (.goto 16) := ⟨_, xd_173_12, by unfold xf_to; decide +kernel⟩
theorem xk_173_10 : xk_OkA xp_F (xp_P sc) xp_cl xp_BW xp_NW xp_SW xp_exn 173 10 (.astore 5) := Or.inl ⟨xd_173_15, rfl⟩
theorem xk_173_11 : xk_OkA xp_F (xp_P sc) xp_cl xp_BW xp_NW xp_SW xp_exn 173 11 (.iconst 1) := Or.inl ⟨xd_173_17, rfl⟩
theorem xk_173_12 : xk_OkA xp_F (xp_P sc) xp_cl xp_BW xp_NW xp_SW xp_exn 173 12 (.ireturn) := ⟨xd_173_18, rfl⟩
theorem xk_173_13 : xk_OkA xp_F (xp_P sc) xp_cl xp_BW xp_NW xp_SW xp_exn 173 13 (.astore 5) := Or.inl ⟨xd_173_19, rfl⟩
theorem xk_173_14 : xk_OkA xp_F (xp_P sc) xp_cl xp_BW xp_NW xp_SW xp_exn 173 14 (.iconst 2) := Or.inl ⟨xd_173_21, rfl⟩
theorem xk_173_15 : xk_OkA xp_F (xp_P sc) xp_cl xp_BW xp_NW xp_SW xp_exn 173 15 (.ireturn) := ⟨xd_173_22, rfl⟩
theorem xk_173_16 : xk_OkA xp_F (xp_P sc) xp_cl xp_BW xp_NW xp_SW xp_exn 173 16 (.iconst 0) := Or.inl ⟨xd_173_23, rfl⟩
theorem xk_173_17 : xk_OkA xp_F (xp_P sc) xp_cl xp_BW xp_NW xp_SW xp_exn 173 17 (.ireturn) := ⟨xd_173_24, rfl⟩
theorem xl_173 : xk_OkL xp_F (xp_P sc) xp_cl xp_BW xp_NW xp_SW xp_exn 173 0 xc_173 := ⟨xk_173_0, xk_173_1, xk_173_2, xk_173_3, xk_173_4, xk_173_5, xk_173_6, xk_173_7, xk_173_8, xk_173_9, xk_173_10, xk_173_11, xk_173_12, xk_173_13, xk_173_14, xk_173_15, xk_173_16, xk_173_17, trivial⟩
theorem xd_174_0 : decode method_17_code 0 = .ok (.aload_n 2, 1) := by decide +kernel
theorem xd_174_1 : decode method_17_code 1 = .ok (.iconst 0, 1) := by decide +kernel
theorem xd_174_2 : decode method_17_code 2 = .ok (.aload_n 0, 1) := by decide +kernel
theorem xd_174_3 : decode method_17_code 3 = .ok (.iload_n 1, 1) := by decide +kernel
theorem xd_174_4 : decode method_17_code 4 = .ok (.invokevirtual 67, 3) := by decide +kernel
theorem xd_174_7 : decode method_17_code 7 = .ok (.i2l, 1) := by decide +kernel
theorem xd_174_8 : decode method_17_code 8 = .ok (.lastore, 1) := by decide +kernel
theorem xd_174_9 : decode method_17_code 9 = .ok (.goto 9, 3) := by decide +kernel
theorem xd_174_12 : decode method_17_code 12 = .ok (.astore_n 3, 1) := by decide +kernel
theorem xd_174_13 : decode method_17_code 13 = .ok (.iconst 1, 1) := by decide +kernel
theorem xd_174_14 : decode method_17_code 14 = .ok (.ireturn, 1) := by decide +kernel
theorem xd_174_15 : decode method_17_code 15 = .ok (.astore_n 3, 1) := by decide +kernel
theorem xd_174_16 : decode method_17_code 16 = .ok (.iconst 2, 1) := by decide +kernel
theorem xd_174_17 : decode method_17_code 17 = .ok (.ireturn, 1) := by decide +kernel
theorem xd_174_18 : decode method_17_code 18 = .ok (.iconst 0, 1) := by decide +kernel
theorem xd_174_19 : decode method_17_code 19 = .ok (.ireturn, 1) := by decide +kernel
theorem xk_174_0 : xk_OkA xp_F (xp_P sc) xp_cl xp_BW xp_NW xp_SW xp_exn 174 0 (.aload 2) := Or.inr ⟨2, rfl, xd_174_0, rfl⟩
theorem xk_174_1 : xk_OkA xp_F (xp_P sc) xp_cl xp_BW xp_NW xp_SW xp_exn 174 1 (.iconst 0) := Or.inl ⟨xd_174_1, rfl⟩
theorem xk_174_2 : xk_OkA xp_F (xp_P sc) xp_cl xp_BW xp_NW xp_SW xp_exn 174 2 (.aload 0) := Or.inr ⟨0, rfl, xd_174_2, rfl⟩
theorem xk_174_3 : xk_OkA xp_F (xp_P sc) xp_cl xp_BW xp_NW xp_SW xp_exn 174 3 (.iload 1) := Or.inr ⟨1, rfl, xd_174_3, rfl⟩
theorem xk_174_4 : xk_OkA xp_F (xp_P sc) xp_cl xp_BW xp_NW xp_SW xp_exn 174 4 (.invokeinterface 55 2) := ⟨rfl, Or.inl ⟨xwt_677, rfl⟩, rfl, rfl, xwt_1, by decide +kernel, by decide +kernel, Nat.le_of_ble_eq_true rfl, _, Or.inl xwt_674, Or.inr ⟨xd_174_4, xwt_675, xwt_676, ⟨_, _, _, rfl, rfl⟩, by decide +kernel⟩⟩
theorem xk_174_5 : xk_OkA xp_F (xp_P sc) xp_cl xp_BW xp_NW xp_SW xp_exn 174 5 (.i2l) := ⟨xd_174_7, rfl⟩
theorem xk_174_6 : xk_OkA xp_F (xp_P sc) xp_cl xp_BW xp_NW xp_SW xp_exn 174 6 (.lastore) := ⟨xd_174_8, rfl⟩
theorem xk_174_7 : xk_OkA xp_F (xp_P sc) xp_cl xp_BW xp_NW xp_SW xp_exn 174 7 (.goto 14) := ⟨_, xd_174_9, by unfold xf_to; decide +kernel⟩
theorem xk_174_8 : xk_OkA xp_F (xp_P sc) xp_cl xp_BW xp_NW xp_SW xp_exn 174 8 (.astore 3) := Or.inr ⟨3, rfl, xd_174_12, rfl⟩
theorem xk_174_9 : xk_OkA xp_F (xp_P sc) xp_cl xp_BW xp_NW xp_SW xp_exn 174 9 (.iconst 1) := Or.inl ⟨xd_174_13, rfl⟩
theorem xk_174_10 : xk_OkA xp_F (xp_P sc) xp_cl xp_BW xp_NW xp_SW xp_exn 174 10 (.ireturn) := ⟨xd_174_14, rfl⟩
theorem xk_174_11 : xk_OkA xp_F (xp_P sc) xp_cl xp_BW xp_NW xp_SW xp_exn 174 11 (.astore 3) := Or.inr ⟨3, rfl, xd_174_15, rfl⟩
theorem xk_174_12 : xk_OkA xp_F (xp_P sc) xp_cl xp_BW xp_NW xp_SW xp_exn 174 12 (.iconst 2) := Or.inl ⟨xd_174_16, rfl⟩
theorem xk_174_13 : xk_OkA xp_F (xp_P sc) xp_cl xp_BW xp_NW xp_SW xp_exn 174 13 (.ireturn) := ⟨xd_174_17, rfl⟩
theorem xk_174_14 : xk_OkA xp_F (xp_P sc) xp_cl xp_BW xp_NW xp_SW xp_exn 174 14 (.iconst 0) := Or.inl ⟨xd_174_18, rfl⟩
theorem xk_174_15 : xk_OkA xp_F (xp_P sc) xp_cl xp_BW xp_NW xp_SW xp_exn 174 15 (.ireturn) := ⟨xd_174_19, rfl⟩
theorem xl_174 : xk_OkL xp_F (xp_P sc) xp_cl xp_BW xp_NW xp_SW xp_exn 174 0 xc_174 := ⟨xk_174_0, xk_174_1, xk_174_2, xk_174_3, xk_174_4, xk_174_5, xk_174_6, xk_174_7, xk_174_8, xk_174_9, xk_174_10, xk_174_11, xk_174_12, xk_174_13, xk_174_14, xk_174_15, trivial⟩
theorem xd_175_0 : decode method_18_code 0 = .ok (.aload_n 0, 1) := by decide +kernel
theorem xd_175_1 : decode method_18_code 1 = .ok (.iload_n 1, 1) := by decide +kernel
theorem xd_175_2 : decode method_18_code 2 = .ok (.invokevirtual 70, 3) := by decide +kernel
theorem xd_175_5 : decode method_18_code 5 = .ok (.goto 9, 3) := by decide +kernel
theorem xd_175_8 : decode method_18_code 8 = .ok (.astore_n 2, 1) := by decide +kernel
theorem xd_175_9 : decode method_18_code 9 = .ok (.iconst 1, 1) := by decide +kernel
theorem xd_175_10 : decode method_18_code 10 = .ok (.ireturn, 1) := by decide +kernel
theorem xd_175_11 : decode method_18_code 11 = .ok (.astore_n 2, 1) := by decide +kernel
theorem xd_175_12 : decode method_18_code 12 = .ok (.iconst 2, 1) := by decide +kernel
theorem xd_175_13 : decode method_18_code 13 = .ok (.ireturn, 1) := by decide +kernel
theorem xd_175_14 : decode method_18_code 14 = .ok (.iconst 0, 1) := by decide +kernel
theorem xd_175_15 : decode method_18_code 15 = .ok (.ireturn, 1) := by decide +kernel
theorem xk_175_0 : xk_OkA xp_F (xp_P sc) xp_cl xp_BW xp_NW xp_SW xp_exn 175 0 (.aload 0) := Or.inr ⟨0, rfl, xd_175_0, rfl⟩
theorem xk_175_1 : xk_OkA xp_F (xp_P sc) xp_cl xp_BW xp_NW xp_SW xp_exn 175 1 (.iload 1) := Or.inr ⟨1, rfl, xd_175_1, rfl⟩
theorem xk_175_2 : xk_OkA xp_F (xp_P sc) xp_cl xp_BW xp_NW xp_SW xp_exn 175 2 (.invokeinterface 56 2) := ⟨rfl, Or.inl ⟨xwt_684, rfl⟩, rfl, rfl, xwt_1, by decide +kernel, by decide +kernel, Nat.le_of_ble_eq_true rfl, _, Or.inl xwt_681, Or.inr ⟨xd_175_2, xwt_682, xwt_683, ⟨_, _, _, rfl, rfl⟩, by decide +kernel⟩⟩
theorem xk_175_3 : xk_OkA xp_F (xp_P sc) xp_cl xp_BW xp_NW xp_SW xp_exn 175 3 (.goto 10) := ⟨_, xd_175_5, by unfold xf_to; decide +kernel⟩
theorem xk_175_4 : xk_OkA xp_F (xp_P sc) xp_cl xp_BW xp_NW xp_SW xp_exn 175 4 (.astore 2) := Or.inr ⟨2, rfl, xd_175_8, rfl⟩
theorem xk_175_5 : xk_OkA xp_F (xp_P sc) xp_cl xp_BW xp_NW xp_SW xp_exn 175 5 (.iconst 1) := Or.inl ⟨xd_175_9, rfl⟩
theorem xk_175_6 : xk_OkA xp_F (xp_P sc) xp_cl xp_BW xp_NW xp_SW xp_exn 175 6 (.ireturn) := ⟨xd_175_10, rfl⟩
theorem xk_175_7 : xk_OkA xp_F (xp_P sc) xp_cl xp_BW xp_NW xp_SW xp_exn 175 7 (.astore 2) := Or.inr ⟨2, rfl, xd_175_11, rfl⟩
theorem xk_175_8 : xk_OkA xp_F (xp_P sc) xp_cl xp_BW xp_NW xp_SW xp_exn 175 8 (.iconst 2) := Or.inl ⟨xd_175_12, rfl⟩
theorem xk_175_9 : xk_OkA xp_F (xp_P sc) xp_cl xp_BW xp_NW xp_SW xp_exn 175 9 (.ireturn) := ⟨xd_175_13, rfl⟩
theorem xk_175_10 : xk_OkA xp_F (xp_P sc) xp_cl xp_BW xp_NW xp_SW xp_exn 175 10 (.iconst 0) := Or.inl ⟨xd_175_14, rfl⟩
theorem xk_175_11 : xk_OkA xp_F (xp_P sc) xp_cl xp_BW xp_NW xp_SW xp_exn 175 11 (.ireturn) := ⟨xd_175_15, rfl⟩
theorem xl_175 : xk_OkL xp_F (xp_P sc) xp_cl xp_BW xp_NW xp_SW xp_exn 175 0 xc_175 := ⟨xk_175_0, xk_175_1, xk_175_2, xk_175_3, xk_175_4, xk_175_5, xk_175_6, xk_175_7, xk_175_8, xk_175_9, xk_175_10, xk_175_11, trivial⟩
theorem xd_176_0 : decode method_19_code 0 = .ok (.aload_n 0, 1) := by decide +kernel
theorem xd_176_1 : decode method_19_code 1 = .ok (.invokevirtual 73, 3) := by decide +kernel
theorem xd_176_4 : decode method_19_code 4 = .ok (.goto 6, 3) := by decide +kernel
theorem xd_176_7 : decode method_19_code 7 = .ok (.astore_n 1, 1) := by decide +kernel
theorem xd_176_8 : decode method_19_code 8 = .ok (.iconst 1, 1) := by decide +kernel
theorem xd_176_9 : decode method_19_code 9 = .ok (.ireturn, 1) := by decide +kernel
theorem xd_176_10 : decode method_19_code 10 = .ok (.iconst 0, 1) := by decide +kernel
theorem xd_176_11 : decode method_19_code 11 = .ok (.ireturn, 1) := by decide +kernel
theorem xk_176_0 : xk_OkA xp_F (xp_P sc) xp_cl xp_BW xp_NW xp_SW xp_exn 176 0 (.aload 0) := Or.inr ⟨0, rfl, xd_176_0, rfl⟩
theorem xk_176_1 : xk_OkA xp_F (xp_P sc) xp_cl xp_BW xp_NW xp_SW xp_exn 176 1 (.invokeinterface 57 1) := ⟨rfl, Or.inl ⟨xwt_692, rfl⟩, rfl, rfl, xwt_1, by decide +kernel, by decide +kernel, Nat.le_of_ble_eq_true rfl, _, Or.inl xwt_689, Or.inr ⟨xd_176_1, xwt_690, xwt_691, ⟨_, _, _, rfl, rfl⟩, by decide +kernel⟩⟩
theorem xk_176_2 : xk_OkA xp_F (xp_P sc) xp_cl xp_BW xp_NW xp_SW xp_exn 176 2 (.goto 6) := ⟨_, xd_176_4, by unfold xf_to; decide +kernel⟩
theorem xk_176_3 : xk_OkA xp_F (xp_P sc) xp_cl xp_BW xp_NW xp_SW xp_exn 176 3 (.astore 1) := Or.inr ⟨1, rfl, xd_176_7, rfl⟩
theorem xk_176_4 : xk_OkA xp_F (xp_P sc) xp_cl xp_BW xp_NW xp_SW xp_exn 176 4 (.iconst 1) := Or.inl ⟨xd_176_8, rfl⟩
theorem xk_176_5 : xk_OkA xp_F (xp_P sc) xp_cl xp_BW xp_NW xp_SW xp_exn 176 5 (.ireturn) := ⟨xd_176_9, rfl⟩
theorem xk_176_6 : xk_OkA xp_F (xp_P sc) xp_cl xp_BW xp_NW xp_SW xp_exn 176 6 (.iconst 0) := Or.inl ⟨xd_176_10, rfl⟩
theorem xk_176_7 : xk_OkA xp_F (xp_P sc) xp_cl xp_BW xp_NW xp_SW xp_exn 176 7 (.ireturn) := ⟨xd_176_11, rfl⟩
theorem xl_176 : xk_OkL xp_F (xp_P sc) xp_cl xp_BW xp_NW xp_SW xp_exn 176 0 xc_176 := ⟨xk_176_0, xk_176_1, xk_176_2, xk_176_3, xk_176_4, xk_176_5, xk_176_6, xk_176_7, trivial⟩
theorem xd_177_0 : decode method_20_code 0 = .ok (.aload_n 3, 1) := by decide +kernel
theorem xd_177_1 : decode method_20_code 1 = .ok (.iconst 0, 1) := by decide +kernel
theorem xd_177_2 : decode method_20_code 2 = .ok (.aload_n 0, 1) := by decide +kernel
theorem xd_177_3 : decode method_20_code 3 = .ok (.iload_n 1, 1) := by decide +kernel
theorem xd_177_4 : decode method_20_code 4 = .ok (.iload_n 2, 1) := by decide +kernel
theorem xd_177_5 : decode method_20_code 5 = .ok (.invokevirtual 76, 3) := by decide +kernel
theorem xd_177_8 : decode method_20_code 8 = .ok (.ifCond .eq 7, 3) := by decide +kernel
theorem xd_177_11 : decode method_20_code 11 = .ok (.lconst 1, 1) := by decide +kernel
theorem xd_177_12 : decode method_20_code 12 = .ok (.goto 4, 3) := by decide +kernel
theorem xd_177_15 : decode method_20_code 15 = .ok (.lconst 0, 1) := by decide +kernel
theorem xd_177_16 : decode method_20_code 16 = .ok (.lastore, 1) := by decide +kernel
theorem xd_177_17 : decode method_20_code 17 = .ok (.goto 11, 3) := by decide +kernel
theorem xd_177_20 : decode method_20_code 20 = .ok (.astore 4, 2) := by decide +kernel
theorem xd_177_22 : decode method_20_code 22 = .ok (.iconst 1, 1) := by decide +kernel
theorem xd_177_23 : decode method_20_code 23 = .ok (.ireturn, 1) := by decide +kernel
theorem xd_177_24 : decode method_20_code 24 = .ok (.astore 4, 2) := by decide +kernel
theorem xd_177_26 : decode method_20_code 26 = .ok (.iconst 2, 1) := by decide +kernel
theorem xd_177_27 : decode method_20_code 27 = .ok (.ireturn, 1) := by decide +kernel
theorem xd_177_28 : decode method_20_code 28 = .ok (.iconst 0, 1) := by decide +kernel
theorem xd_177_29 : decode method_20_code 29 = .ok (.ireturn, 1) := by decide +kernel
theorem xk_177_0 : xk_OkA xp_F (xp_P sc) xp_cl xp_BW xp_NW xp_SW xp_exn 177 0 (.aload 3) := Or.inr ⟨3, rfl, xd_177_0, rfl⟩
theorem xk_177_1 : xk_OkA xp_F (xp_P sc) xp_cl xp_BW xp_NW xp_SW xp_exn 177 1 (.iconst 0) := Or.inl ⟨xd_177_1, rfl⟩
theorem xk_177_2 : xk_OkA xp_F (xp_P sc) xp_cl xp_BW xp_NW xp_SW xp_exn 177 2 (.aload 0) := Or.inr ⟨0, rfl, xd_177_2, rfl⟩
theorem xk_177_3 : xk_OkA xp_F (xp_P sc) xp_cl xp_BW xp_NW xp_SW xp_exn 177 3 (.iload 1) := Or.inr ⟨1, rfl, xd_177_3, rfl⟩
theorem xk_177_4 : xk_OkA xp_F (xp_P sc) xp_cl xp_BW xp_NW xp_SW xp_exn 177 4 (.iload 2) := Or.inr ⟨2, rfl, xd_177_4, rfl⟩
theorem xk_177_5 : xk_OkA xp_F (xp_P sc) xp_cl xp_BW xp_NW xp_SW xp_exn 177 5 (.invokeinterface 58 3) := ⟨rfl, Or.inl ⟨xwt_699, rfl⟩, rfl, rfl, xwt_1, by decide +kernel, by decide +kernel, Nat.le_of_ble_eq_true rfl, _, Or.inl xwt_696, Or.inr ⟨xd_177_5, xwt_697, xwt_698, ⟨_, _, _, rfl, rfl⟩, by decide +kernel⟩⟩
theorem xk_177_6 : xk_OkA xp_F (xp_P sc) xp_cl xp_BW xp_NW xp_SW xp_exn 177 6 (.ifCond .eq 9) := ⟨_, xd_177_8, by unfold xf_to; decide +kernel, rfl⟩
theorem xk_177_7 : xk_OkA xp_F (xp_P sc) xp_cl xp_BW xp_NW xp_SW xp_exn 177 7 (.lconst 1) := ⟨xd_177_11, rfl⟩
theorem xk_177_8 : xk_OkA xp_F (xp_P sc) xp_cl xp_BW xp_NW xp_SW xp_exn 177 8 (.goto 10) := ⟨_, xd_177_12, by unfold xf_to; decide +kernel⟩
theorem xk_177_9 : xk_OkA xp_F (xp_P sc) xp_cl xp_BW xp_NW xp_SW xp_exn 177 9 (.lconst 0) := ⟨xd_177_15, rfl⟩
theorem xk_177_10 : xk_OkA xp_F (xp_P sc) xp_cl xp_BW xp_NW xp_SW xp_exn 177 10 (.lastore) := ⟨xd_177_16, rfl⟩
theorem xk_177_11 : xk_OkA xp_F (xp_P sc) xp_cl xp_BW xp_NW xp_SW xp_exn 177 11 (.goto 18) := ⟨_, xd_177_17, by unfold xf_to; decide +kernel⟩
theorem xk_177_12 : xk_OkA xp_F (xp_P sc) xp_cl xp_BW xp_NW xp_SW xp_exn 177 12 (.astore 4) := Or.inl ⟨xd_177_20, rfl⟩
theorem xk_177_13 : xk_OkA xp_F (xp_P sc) xp_cl xp_BW xp_NW xp_SW xp_exn 177 13 (.iconst 1) := Or.inl ⟨xd_177_22, rfl⟩
theorem xk_177_14 : xk_OkA xp_F (xp_P sc) xp_cl xp_BW xp_NW xp_SW xp_exn 177 14 (.ireturn) := ⟨xd_177_23, rfl⟩
theorem xk_177_15 : xk_OkA xp_F (xp_P sc) xp_cl xp_BW xp_NW xp_SW xp_exn 177 15 (.astore 4) := Or.inl ⟨xd_177_24, rfl⟩
theorem xk_177_16 : xk_OkA xp_F (xp_P sc) xp_cl xp_BW xp_NW xp_SW xp_exn 177 16 (.iconst 2) := Or.inl ⟨xd_177_26, rfl⟩
theorem xk_177_17 : xk_OkA xp_F (xp_P sc) xp_cl xp_BW xp_NW xp_SW xp_exn 177 17 (.ireturn) := ⟨xd_177_27, rfl⟩
theorem xk_177_18 : xk_OkA xp_F (xp_P sc) xp_cl xp_BW xp_NW xp_SW xp_exn 177 18 (.iconst 0) := Or.inl ⟨xd_177_28, rfl⟩
theorem xk_177_19 : xk_OkA xp_F (xp_P sc) xp_cl xp_BW xp_NW xp_SW xp_exn 177 19 (.ireturn) := ⟨xd_177_29, rfl⟩
theorem xl_177 : xk_OkL xp_F (xp_P sc) xp_cl xp_BW xp_NW xp_SW xp_exn 177 0 xc_177 := ⟨xk_177_0, xk_177_1, xk_177_2, xk_177_3, xk_177_4, xk_177_5, xk_177_6, xk_177_7, xk_177_8, xk_177_9, xk_177_10, xk_177_11, xk_177_12, xk_177_13, xk_177_14, xk_177_15, xk_177_16, xk_177_17, xk_177_18, xk_177_19, trivial⟩
theorem xd_178_0 : decode method_21_code 0 = .ok (.aload_n 1, 1) := by decide +kernel
theorem xd_178_1 : decode method_21_code 1 = .ok (.iconst 0, 1) := by decide +kernel
theorem xd_178_2 : decode method_21_code 2 = .ok (.aload_n 0, 1) := by decide +kernel
theorem xd_178_3 : decode method_21_code 3 = .ok (.invokevirtual 80, 3) := by decide +kernel
theorem xd_178_6 : decode method_21_code 6 = .ok (.i2l, 1) := by decide +kernel
theorem xd_178_7 : decode method_21_code 7 = .ok (.lastore, 1) := by decide +kernel
theorem xd_178_8 : decode method_21_code 8 = .ok (.goto 6, 3) := by decide +kernel
theorem xd_178_11 : decode method_21_code 11 = .ok (.astore_n 2, 1) := by decide +kernel
theorem xd_178_12 : decode method_21_code 12 = .ok (.iconst 1, 1) := by decide +kernel
theorem xd_178_13 : decode method_21_code 13 = .ok (.ireturn, 1) := by decide +kernel
theorem xd_178_14 : decode method_21_code 14 = .ok (.iconst 0, 1) := by decide +kernel
theorem xd_178_15 : decode method_21_code 15 = .ok (.ireturn, 1) := by decide +kernel
theorem xk_178_0 : xk_OkA xp_F (xp_P sc) xp_cl xp_BW xp_NW xp_SW xp_exn 178 0 (.aload 1) := Or.inr ⟨1, rfl, xd_178_0, rfl⟩
theorem xk_178_1 : xk_OkA xp_F (xp_P sc) xp_cl xp_BW xp_NW xp_SW xp_exn 178 1 (.iconst 0) := Or.inl ⟨xd_178_1, rfl⟩
theorem xk_178_2 : xk_OkA xp_F (xp_P sc) xp_cl xp_BW xp_NW xp_SW xp_exn 178 2 (.aload 0) := Or.inr ⟨0, rfl, xd_178_2, rfl⟩
theorem xk_178_3 : xk_OkA xp_F (xp_P sc) xp_cl xp_BW xp_NW xp_SW xp_exn 178 3 (.invokeinterface 59 1) := ⟨rfl, Or.inl ⟨xwt_715, rfl⟩, rfl, rfl, xwt_1, by decide +kernel, by decide +kernel, Nat.le_of_ble_eq_true rfl, _, Or.inl xwt_712, Or.inr ⟨xd_178_3, xwt_713, xwt_714, ⟨_, _, _, rfl, rfl⟩, by decide +kernel⟩⟩
theorem xk_178_4 : xk_OkA xp_F (xp_P sc) xp_cl xp_BW xp_NW xp_SW xp_exn 178 4 (.i2l) := ⟨xd_178_6, rfl⟩
theorem xk_178_5 : xk_OkA xp_F (xp_P sc) xp_cl xp_BW xp_NW xp_SW xp_exn 178 5 (.lastore) := ⟨xd_178_7, rfl⟩
theorem xk_178_6 : xk_OkA xp_F (xp_P sc) xp_cl xp_BW xp_NW xp_SW xp_exn 178 6 (.goto 10) := ⟨_, xd_178_8, by unfold xf_to; decide +kernel⟩
theorem xk_178_7 : xk_OkA xp_F (xp_P sc) xp_cl xp_BW xp_NW xp_SW xp_exn 178 7 (.astore 2) := Or.inr ⟨2, rfl, xd_178_11, rfl⟩
theorem xk_178_8 : xk_OkA xp_F (xp_P sc) xp_cl xp_BW xp_NW xp_SW xp_exn 178 8 (.iconst 1) := Or.inl ⟨xd_178_12, rfl⟩
theorem xk_178_9 : xk_OkA xp_F (xp_P sc) xp_cl xp_BW xp_NW xp_SW xp_exn 178 9 (.ireturn) := ⟨xd_178_13, rfl⟩
theorem xk_178_10 : xk_OkA xp_F (xp_P sc) xp_cl xp_BW xp_NW xp_SW xp_exn 178 10 (.iconst 0) := Or.inl ⟨xd_178_14, rfl⟩
theorem xk_178_11 : xk_OkA xp_F (xp_P sc) xp_cl xp_BW xp_NW xp_SW xp_exn 178 11 (.ireturn) := ⟨xd_178_15, rfl⟩
theorem xl_178 : xk_OkL xp_F (xp_P sc) xp_cl xp_BW xp_NW xp_SW xp_exn 178 0 xc_178 := ⟨xk_178_0, xk_178_1, xk_178_2, xk_178_3, xk_178_4, xk_178_5, xk_178_6, xk_178_7, xk_178_8, xk_178_9, xk_178_10, xk_178_11, trivial⟩
theorem xd_179_0 : decode method_22_code 0 = .ok (.aload 4, 2) := by decide +kernel
theorem xd_179_2 : decode method_22_code 2 = .ok (.iconst 0, 1) := by decide +kernel
theorem xd_179_3 : decode method_22_code 3 = .ok (.aload_n 0, 1) := by decide +kernel
theorem xd_179_4 : decode method_22_code 4 = .ok (.iload_n 1, 1) := by decide +kernel
theorem xd_179_5 : decode method_22_code 5 = .ok (.iload_n 2, 1) := by decide +kernel
theorem xd_179_6 : decode method_22_code 6 = .ok (.iload_n 3, 1) := by decide +kernel
theorem xd_179_7 : decode method_22_code 7 = .ok (.invokevirtual 83, 3) := by decide +kernel
theorem xd_179_10 : decode method_22_code 10 = .ok (.i2l, 1) := by decide +kernel
theorem xd_179_11 : decode method_22_code 11 = .ok (.lastore, 1) := by decide +kernel
theorem xd_179_12 : decode method_22_code 12 = .ok (.goto 7, 3) := by decide +kernel
theorem xd_179_15 : decode method_22_code 15 = .ok (.astore 5, 2) := by decide +kernel
theorem xd_179_17 : decode method_22_code 17 = .ok (.iconst 1, 1) := by decide +kernel
theorem xd_179_18 : decode method_22_code 18 = .ok (.ireturn, 1) := by decide +kernel
theorem xd_179_19 : decode method_22_code 19 = .ok (.iconst 0, 1) := by decide +kernel
theorem xd_179_20 : decode method_22_code 20 = .ok (.ireturn, 1) := by decide +kernel
theorem xk_179_0 : xk_OkA xp_F (xp_P sc) xp_cl xp_BW xp_NW xp_SW xp_exn 179 0 (.aload 4) := Or.inl ⟨xd_179_0, rfl⟩
theorem xk_179_1 : xk_OkA xp_F (xp_P sc) xp_cl xp_BW xp_NW xp_SW xp_exn 179 1 (.iconst 0) := Or.inl ⟨xd_179_2, rfl⟩
theorem xk_179_2 : xk_OkA xp_F (xp_P sc) xp_cl xp_BW xp_NW xp_SW xp_exn 179 2 (.aload 0) := Or.inr ⟨0, rfl, xd_179_3, rfl⟩
theorem xk_179_3 : xk_OkA xp_F (xp_P sc) xp_cl xp_BW xp_NW xp_SW xp_exn 179 3 (.iload 1) := Or.inr ⟨1, rfl, xd_179_4, rfl⟩
theorem xk_179_4 : xk_OkA xp_F (xp_P sc) xp_cl xp_BW xp_NW xp_SW xp_exn 179 4 (.iload 2) := Or.inr ⟨2, rfl, xd_179_5, rfl⟩
theorem xk_179_5 : xk_OkA xp_F (xp_P sc) xp_cl xp_BW xp_NW xp_SW xp_exn 179 5 (.iload 3) := Or.inr ⟨3, rfl, xd_179_6, rfl⟩
theorem xk_179_6 : xk_OkA xp_F (xp_P sc) xp_cl xp_BW xp_NW xp_SW xp_exn 179 6 (.invokeinterface 61 4) := ⟨rfl, Or.inl ⟨xwt_743, rfl⟩, rfl, rfl, xwt_1, by decide +kernel, by decide +kernel, Nat.le_of_ble_eq_true rfl, _, Or.inl xwt_740, Or.inr ⟨xd_179_7, xwt_741, xwt_742, ⟨_, _, _, rfl, rfl⟩, by decide +kernel⟩⟩
theorem xk_179_7 : xk_OkA xp_F (xp_P sc) xp_cl xp_BW xp_NW xp_SW xp_exn 179 7 (.i2l) := ⟨xd_179_10, rfl⟩
theorem xk_179_8 : xk_OkA xp_F (xp_P sc) xp_cl xp_BW xp_NW xp_SW xp_exn 179 8 (.lastore) := ⟨xd_179_11, rfl⟩
theorem xk_179_9 : xk_OkA xp_F (xp_P sc) xp_cl xp_BW xp_NW xp_SW xp_exn 179 9 (.goto 13) := ⟨_, xd_179_12, by unfold xf_to; decide +kernel⟩
theorem xk_179_10 : xk_OkA xp_F (xp_P sc) xp_cl xp_BW xp_NW xp_SW xp_exn 179 10 (.astore 5) := Or.inl ⟨xd_179_15, rfl⟩
theorem xk_179_11 : xk_OkA xp_F (xp_P sc) xp_cl xp_BW xp_NW xp_SW xp_exn 179 11 (.iconst 1) := Or.inl ⟨xd_179_17, rfl⟩
theorem xk_179_12 : xk_OkA xp_F (xp_P sc) xp_cl xp_BW xp_NW xp_SW xp_exn 179 12 (.ireturn) := ⟨xd_179_18, rfl⟩
theorem xk_179_13 : xk_OkA xp_F (xp_P sc) xp_cl xp_BW xp_NW xp_SW xp_exn 179 13 (.iconst 0) := Or.inl ⟨xd_179_19, rfl⟩
theorem xk_179_14 : xk_OkA xp_F (xp_P sc) xp_cl xp_BW xp_NW xp_SW xp_exn 179 14 (.ireturn) := ⟨xd_179_20, rfl⟩
theorem xl_179 : xk_OkL xp_F (xp_P sc) xp_cl xp_BW xp_NW xp_SW xp_exn 179 0 xc_179 := ⟨xk_179_0, xk_179_1, xk_179_2, xk_179_3, xk_179_4, xk_179_5, xk_179_6, xk_179_7, xk_179_8, xk_179_9, xk_179_10, xk_179_11, xk_179_12, xk_179_13, xk_179_14, trivial⟩
theorem xd_180_20 : decode code 20 = .ok (.iconst 0, 1) := by decide +kernel
theorem xd_180_21 : decode code 21 = .ok (.istore 4, 2) := by decide +kernel
theorem xd_180_23 : decode code 23 = .ok (.iload 4, 2) := by decide +kernel
theorem xd_180_25 : decode code 25 = .ok (.aload_n 0, 1) := by decide +kernel
theorem xd_180_26 : decode code 26 = .ok (.arraylength, 1) := by decide +kernel
theorem xd_180_27 : decode code 27 = .ok (.iconst 4, 1) := by decide +kernel
theorem xd_180_28 : decode code 28 = .ok (.isub, 1) := by decide +kernel
theorem xd_180_29 : decode code 29 = .ok (.if_icmp .gt 1318, 3) := by decide +kernel
theorem xd_180_32 : decode code 32 = .ok (.aload_n 0, 1) := by decide +kernel
theorem xd_180_33 : decode code 33 = .ok (.iload 4, 2) := by decide +kernel
theorem xd_180_35 : decode code 35 = .ok (.iaload, 1) := by decide +kernel
theorem xd_180_36 : decode code 36 = .ok (.bipush 31, 2) := by decide +kernel
theorem xd_180_38 : decode code 38 = .ok (.iand, 1) := by decide +kernel
theorem xd_180_39 : decode code 39 = .ok (.tableswitch 1302 0 21 #[101, 149, 185, 241, 321, 389, 457, 493, 549, 629, 697, 753, 797, 810, 878, 958, 1014, 1050, 1074, 1165, 1209, 1222], 101) := by decide +kernel
theorem xd_180_140 : decode code 140 = .ok (.aload_n 1, 1) := by decide +kernel
theorem xd_180_141 : decode code 141 = .ok (.aload_n 0, 1) := by decide +kernel
theorem xd_180_142 : decode code 142 = .ok (.iload 4, 2) := by decide +kernel
theorem xd_180_144 : decode code 144 = .ok (.iconst 1, 1) := by decide +kernel
theorem xd_180_145 : decode code 145 = .ok (.iadd, 1) := by decide +kernel
theorem xd_180_146 : decode code 146 = .ok (.iaload, 1) := by decide +kernel
theorem xd_180_147 : decode code 147 = .ok (.aload_n 0, 1) := by decide +kernel
theorem xd_180_148 : decode code 148 = .ok (.iload 4, 2) := by decide +kernel
theorem xd_180_150 : decode code 150 = .ok (.iconst 2, 1) := by decide +kernel
theorem xd_180_151 : decode code 151 = .ok (.iadd, 1) := by decide +kernel
theorem xd_180_152 : decode code 152 = .ok (.iaload, 1) := by decide +kernel
theorem xd_180_153 : decode code 153 = .ok (.invokestatic 90, 3) := by decide +kernel
theorem xd_180_156 : decode code 156 = .ok (.istore 5, 2) := by decide +kernel
theorem xd_180_158 : decode code 158 = .ok (.aload_n 2, 1) := by decide +kernel
theorem xd_180_159 : decode code 159 = .ok (.aload_n 0, 1) := by decide +kernel
theorem xd_180_160 : decode code 160 = .ok (.iload 4, 2) := by decide +kernel
theorem xd_180_162 : decode code 162 = .ok (.iconst 1, 1) := by decide +kernel
theorem xd_180_163 : decode code 163 = .ok (.iadd, 1) := by decide +kernel
theorem xd_180_164 : decode code 164 = .ok (.iaload, 1) := by decide +kernel
theorem xd_180_165 : decode code 165 = .ok (.aload_n 0, 1) := by decide +kernel
theorem xd_180_166 : decode code 166 = .ok (.iload 4, 2) := by decide +kernel
theorem xd_180_168 : decode code 168 = .ok (.iconst 2, 1) := by decide +kernel
theorem xd_180_169 : decode code 169 = .ok (.iadd, 1) := by decide +kernel
theorem xd_180_170 : decode code 170 = .ok (.iaload, 1) := by decide +kernel
theorem xd_180_171 : decode code 171 = .ok (.invokevirtual 95, 3) := by decide +kernel
theorem xd_180_174 : decode code 174 = .ok (.aload_n 2, 1) := by decide +kernel
theorem xd_180_175 : decode code 175 = .ok (.invokevirtual 96, 3) := by decide +kernel
theorem xd_180_178 : decode code 178 = .ok (.iload 5, 2) := by decide +kernel
theorem xd_180_180 : decode code 180 = .ok (.if_icmp .eq 5, 3) := by decide +kernel
theorem xd_180_183 : decode code 183 = .ok (.iconst 0, 1) := by decide +kernel
theorem xd_180_184 : decode code 184 = .ok (.ireturn, 1) := by decide +kernel
theorem xd_180_185 : decode code 185 = .ok (.goto 1156, 3) := by decide +kernel
theorem xd_180_188 : decode code 188 = .ok (.aload_n 1, 1) := by decide +kernel
theorem xd_180_189 : decode code 189 = .ok (.aload_n 0, 1) := by decide +kernel
theorem xd_180_190 : decode code 190 = .ok (.iload 4, 2) := by decide +kernel
theorem xd_180_192 : decode code 192 = .ok (.iconst 1, 1) := by decide +kernel
theorem xd_180_193 : decode code 193 = .ok (.iadd, 1) := by decide +kernel
theorem xd_180_194 : decode code 194 = .ok (.iaload, 1) := by decide +kernel
theorem xd_180_195 : decode code 195 = .ok (.invokestatic 99, 3) := by decide +kernel
theorem xd_180_198 : decode code 198 = .ok (.istore 5, 2) := by decide +kernel
theorem xd_180_200 : decode code 200 = .ok (.aload_n 2, 1) := by decide +kernel
theorem xd_180_201 : decode code 201 = .ok (.aload_n 0, 1) := by decide +kernel
theorem xd_180_202 : decode code 202 = .ok (.iload 4, 2) := by decide +kernel
theorem xd_180_204 : decode code 204 = .ok (.iconst 1, 1) := by decide +kernel
theorem xd_180_205 : decode code 205 = .ok (.iadd, 1) := by decide +kernel
theorem xd_180_206 : decode code 206 = .ok (.iaload, 1) := by decide +kernel
theorem xd_180_207 : decode code 207 = .ok (.invokevirtual 102, 3) := by decide +kernel
theorem xd_180_210 : decode code 210 = .ok (.aload_n 2, 1) := by decide +kernel
theorem xd_180_211 : decode code 211 = .ok (.invokevirtual 96, 3) := by decide +kernel
theorem xd_180_214 : decode code 214 = .ok (.iload 5, 2) := by decide +kernel
theorem xd_180_216 : decode code 216 = .ok (.if_icmp .eq 5, 3) := by decide +kernel
theorem xd_180_219 : decode code 219 = .ok (.iconst 0, 1) := by decide +kernel
theorem xd_180_220 : decode code 220 = .ok (.ireturn, 1) := by decide +kernel
theorem xd_180_221 : decode code 221 = .ok (.goto 1120, 3) := by decide +kernel
theorem xd_180_224 : decode code 224 = .ok (.aload_n 1, 1) := by decide +kernel
theorem xd_180_225 : decode code 225 = .ok (.aload_n 0, 1) := by decide +kernel
theorem xd_180_226 : decode code 226 = .ok (.iload 4, 2) := by decide +kernel
theorem xd_180_228 : decode code 228 = .ok (.iconst 1, 1) := by decide +kernel
theorem xd_180_229 : decode code 229 = .ok (.iadd, 1) := by decide +kernel
theorem xd_180_230 : decode code 230 = .ok (.iaload, 1) := by decide +kernel
theorem xd_180_231 : decode code 231 = .ok (.aload_n 3, 1) := by decide +kernel
theorem xd_180_232 : decode code 232 = .ok (.invokestatic 103, 3) := by decide +kernel
theorem xd_180_235 : decode code 235 = .ok (.istore 5, 2) := by decide +kernel
theorem xd_180_237 : decode code 237 = .ok (.aload_n 2, 1) := by decide +kernel
theorem xd_180_238 : decode code 238 = .ok (.aload_n 0, 1) := by decide +kernel
theorem xd_180_239 : decode code 239 = .ok (.iload 4, 2) := by decide +kernel
theorem xd_180_241 : decode code 241 = .ok (.iconst 1, 1) := by decide +kernel
theorem xd_180_242 : decode code 242 = .ok (.iadd, 1) := by decide +kernel
theorem xd_180_243 : decode code 243 = .ok (.iaload, 1) := by decide +kernel
theorem xd_180_244 : decode code 244 = .ok (.invokevirtual 106, 3) := by decide +kernel
theorem xd_180_247 : decode code 247 = .ok (.istore 6, 2) := by decide +kernel
theorem xd_180_249 : decode code 249 = .ok (.aload_n 2, 1) := by decide +kernel
theorem xd_180_250 : decode code 250 = .ok (.invokevirtual 96, 3) := by decide +kernel
theorem xd_180_253 : decode code 253 = .ok (.iload 5, 2) := by decide +kernel
theorem xd_180_255 : decode code 255 = .ok (.if_icmp .eq 5, 3) := by decide +kernel
theorem xd_180_258 : decode code 258 = .ok (.iconst 0, 1) := by decide +kernel
theorem xd_180_259 : decode code 259 = .ok (.ireturn, 1) := by decide +kernel
theorem xd_180_260 : decode code 260 = .ok (.iload 5, 2) := by decide +kernel
theorem xd_180_262 : decode code 262 = .ok (.ifCond .ne 15, 3) := by decide +kernel
theorem xd_180_265 : decode code 265 = .ok (.aload_n 3, 1) := by decide +kernel
theorem xd_180_266 : decode code 266 = .ok (.iconst 0, 1) := by decide +kernel
theorem xd_180_267 : decode code 267 = .ok (.laload, 1) := by decide +kernel
theorem xd_180_268 : decode code 268 = .ok (.iload 6, 2) := by decide +kernel
theorem xd_180_270 : decode code 270 = .ok (.i2l, 1) := by decide +kernel
theorem xd_180_271 : decode code 271 = .ok (.lcmp, 1) := by decide +kernel
theorem xd_180_272 : decode code 272 = .ok (.ifCond .eq 5, 3) := by decide +kernel
theorem xd_180_275 : decode code 275 = .ok (.iconst 0, 1) := by decide +kernel
theorem xd_180_276 : decode code 276 = .ok (.ireturn, 1) := by decide +kernel
theorem xd_180_277 : decode code 277 = .ok (.goto 1064, 3) := by decide +kernel
theorem xd_180_280 : decode code 280 = .ok (.aload_n 1, 1) := by decide +kernel
theorem xd_180_281 : decode code 281 = .ok (.aload_n 0, 1) := by decide +kernel
theorem xd_180_282 : decode code 282 = .ok (.iload 4, 2) := by decide +kernel
theorem xd_180_284 : decode code 284 = .ok (.iconst 1, 1) := by decide +kernel
theorem xd_180_285 : decode code 285 = .ok (.iadd, 1) := by decide +kernel
theorem xd_180_286 : decode code 286 = .ok (.iaload, 1) := by decide +kernel
theorem xd_180_287 : decode code 287 = .ok (.aload_n 0, 1) := by decide +kernel
theorem xd_180_288 : decode code 288 = .ok (.iload 4, 2) := by decide +kernel
theorem xd_180_290 : decode code 290 = .ok (.iconst 2, 1) := by decide +kernel
theorem xd_180_291 : decode code 291 = .ok (.iadd, 1) := by decide +kernel
theorem xd_180_292 : decode code 292 = .ok (.iaload, 1) := by decide +kernel
theorem xd_180_293 : decode code 293 = .ok (.aload_n 0, 1) := by decide +kernel
theorem xd_180_294 : decode code 294 = .ok (.iload 4, 2) := by decide +kernel
theorem xd_180_296 : decode code 296 = .ok (.iconst 3, 1) := by decide +kernel
theorem xd_180_297 : decode code 297 = .ok (.iadd, 1) := by decide +kernel
theorem xd_180_298 : decode code 298 = .ok (.iaload, 1) := by decide +kernel
theorem xd_180_299 : decode code 299 = .ok (.aload_n 3, 1) := by decide +kernel
theorem xd_180_300 : decode code 300 = .ok (.invokestatic 107, 3) := by decide +kernel
theorem xd_180_303 : decode code 303 = .ok (.istore 5, 2) := by decide +kernel
theorem xd_180_305 : decode code 305 = .ok (.aload_n 2, 1) := by decide +kernel
theorem xd_180_306 : decode code 306 = .ok (.aload_n 0, 1) := by decide +kernel
theorem xd_180_307 : decode code 307 = .ok (.iload 4, 2) := by decide +kernel
theorem xd_180_309 : decode code 309 = .ok (.iconst 1, 1) := by decide +kernel
theorem xd_180_310 : decode code 310 = .ok (.iadd, 1) := by decide +kernel
theorem xd_180_311 : decode code 311 = .ok (.iaload, 1) := by decide +kernel
theorem xd_180_312 : decode code 312 = .ok (.aload_n 0, 1) := by decide +kernel
theorem xd_180_313 : decode code 313 = .ok (.iload 4, 2) := by decide +kernel
theorem xd_180_315 : decode code 315 = .ok (.iconst 2, 1) := by decide +kernel
theorem xd_180_316 : decode code 316 = .ok (.iadd, 1) := by decide +kernel
theorem xd_180_317 : decode code 317 = .ok (.iaload, 1) := by decide +kernel
theorem xd_180_318 : decode code 318 = .ok (.aload_n 0, 1) := by decide +kernel
theorem xd_180_319 : decode code 319 = .ok (.iload 4, 2) := by decide +kernel
theorem xd_180_321 : decode code 321 = .ok (.iconst 3, 1) := by decide +kernel
theorem xd_180_322 : decode code 322 = .ok (.iadd, 1) := by decide +kernel
theorem xd_180_323 : decode code 323 = .ok (.iaload, 1) := by decide +kernel
theorem xd_180_324 : decode code 324 = .ok (.invokevirtual 110, 3) := by decide +kernel
theorem xd_180_327 : decode code 327 = .ok (.istore 6, 2) := by decide +kernel
theorem xd_180_329 : decode code 329 = .ok (.aload_n 2, 1) := by decide +kernel
theorem xd_180_330 : decode code 330 = .ok (.invokevirtual 96, 3) := by decide +kernel
theorem xd_180_333 : decode code 333 = .ok (.iload 5, 2) := by decide +kernel
theorem xd_180_335 : decode code 335 = .ok (.if_icmp .eq 5, 3) := by decide +kernel
theorem xd_180_338 : decode code 338 = .ok (.iconst 0, 1) := by decide +kernel
theorem xd_180_339 : decode code 339 = .ok (.ireturn, 1) := by decide +kernel
theorem xd_180_340 : decode code 340 = .ok (.iload 5, 2) := by decide +kernel
theorem xd_180_342 : decode code 342 = .ok (.ifCond .ne 15, 3) := by decide +kernel
theorem xd_180_345 : decode code 345 = .ok (.aload_n 3, 1) := by decide +kernel
theorem xd_180_346 : decode code 346 = .ok (.iconst 0, 1) := by decide +kernel
theorem xd_180_347 : decode code 347 = .ok (.laload, 1) := by decide +kernel
theorem xd_180_348 : decode code 348 = .ok (.iload 6, 2) := by decide +kernel
theorem xd_180_350 : decode code 350 = .ok (.i2l, 1) := by decide +kernel
theorem xd_180_351 : decode code 351 = .ok (.lcmp, 1) := by decide +kernel
theorem xd_180_352 : decode code 352 = .ok (.ifCond .eq 5, 3) := by decide +kernel
theorem xd_180_355 : decode code 355 = .ok (.iconst 0, 1) := by decide +kernel
theorem xd_180_356 : decode code 356 = .ok (.ireturn, 1) := by decide +kernel
theorem xd_180_357 : decode code 357 = .ok (.goto 984, 3) := by decide +kernel
theorem xd_180_360 : decode code 360 = .ok (.aload_n 1, 1) := by decide +kernel
theorem xd_180_361 : decode code 361 = .ok (.aload_n 0, 1) := by decide +kernel
theorem xd_180_362 : decode code 362 = .ok (.iload 4, 2) := by decide +kernel
theorem xd_180_364 : decode code 364 = .ok (.iconst 1, 1) := by decide +kernel
theorem xd_180_365 : decode code 365 = .ok (.iadd, 1) := by decide +kernel
theorem xd_180_366 : decode code 366 = .ok (.iaload, 1) := by decide +kernel
theorem xd_180_367 : decode code 367 = .ok (.aload_n 0, 1) := by decide +kernel
theorem xd_180_368 : decode code 368 = .ok (.iload 4, 2) := by decide +kernel
theorem xd_180_370 : decode code 370 = .ok (.iconst 2, 1) := by decide +kernel
theorem xd_180_371 : decode code 371 = .ok (.iadd, 1) := by decide +kernel
theorem xd_180_372 : decode code 372 = .ok (.iaload, 1) := by decide +kernel
theorem xd_180_373 : decode code 373 = .ok (.aload_n 3, 1) := by decide +kernel
theorem xd_180_374 : decode code 374 = .ok (.invokestatic 111, 3) := by decide +kernel
theorem xd_180_377 : decode code 377 = .ok (.istore 5, 2) := by decide +kernel
theorem xd_180_379 : decode code 379 = .ok (.aload_n 2, 1) := by decide +kernel
theorem xd_180_380 : decode code 380 = .ok (.aload_n 0, 1) := by decide +kernel
theorem xd_180_381 : decode code 381 = .ok (.iload 4, 2) := by decide +kernel
theorem xd_180_383 : decode code 383 = .ok (.iconst 1, 1) := by decide +kernel
theorem xd_180_384 : decode code 384 = .ok (.iadd, 1) := by decide +kernel
theorem xd_180_385 : decode code 385 = .ok (.iaload, 1) := by decide +kernel
theorem xd_180_386 : decode code 386 = .ok (.aload_n 0, 1) := by decide +kernel
theorem xd_180_387 : decode code 387 = .ok (.iload 4, 2) := by decide +kernel
theorem xd_180_389 : decode code 389 = .ok (.iconst 2, 1) := by decide +kernel
theorem xd_180_390 : decode code 390 = .ok (.iadd, 1) := by decide +kernel
theorem xd_180_391 : decode code 391 = .ok (.iaload, 1) := by decide +kernel
theorem xd_180_392 : decode code 392 = .ok (.invokevirtual 114, 3) := by decide +kernel
theorem xd_180_395 : decode code 395 = .ok (.istore 6, 2) := by decide +kernel
theorem xd_180_397 : decode code 397 = .ok (.aload_n 2, 1) := by decide +kernel
theorem xd_180_398 : decode code 398 = .ok (.invokevirtual 96, 3) := by decide +kernel
theorem xd_180_401 : decode code 401 = .ok (.iload 5, 2) := by decide +kernel
theorem xd_180_403 : decode code 403 = .ok (.if_icmp .eq 5, 3) := by decide +kernel
theorem xd_180_406 : decode code 406 = .ok (.iconst 0, 1) := by decide +kernel
theorem xd_180_407 : decode code 407 = .ok (.ireturn, 1) := by decide +kernel
theorem xd_180_408 : decode code 408 = .ok (.iload 5, 2) := by decide +kernel
theorem xd_180_410 : decode code 410 = .ok (.ifCond .ne 15, 3) := by decide +kernel
theorem xd_180_413 : decode code 413 = .ok (.aload_n 3, 1) := by decide +kernel
theorem xd_180_414 : decode code 414 = .ok (.iconst 0, 1) := by decide +kernel
theorem xd_180_415 : decode code 415 = .ok (.laload, 1) := by decide +kernel
theorem xd_180_416 : decode code 416 = .ok (.iload 6, 2) := by decide +kernel
theorem xd_180_418 : decode code 418 = .ok (.i2l, 1) := by decide +kernel
theorem xd_180_419 : decode code 419 = .ok (.lcmp, 1) := by decide +kernel
theorem xd_180_420 : decode code 420 = .ok (.ifCond .eq 5, 3) := by decide +kernel
theorem xd_180_423 : decode code 423 = .ok (.iconst 0, 1) := by decide +kernel
theorem xd_180_424 : decode code 424 = .ok (.ireturn, 1) := by decide +kernel
theorem xd_180_425 : decode code 425 = .ok (.goto 916, 3) := by decide +kernel
theorem xd_180_428 : decode code 428 = .ok (.aload_n 1, 1) := by decide +kernel
theorem xd_180_429 : decode code 429 = .ok (.aload_n 0, 1) := by decide +kernel
theorem xd_180_430 : decode code 430 = .ok (.iload 4, 2) := by decide +kernel
theorem xd_180_432 : decode code 432 = .ok (.iconst 1, 1) := by decide +kernel
theorem xd_180_433 : decode code 433 = .ok (.iadd, 1) := by decide +kernel
theorem xd_180_434 : decode code 434 = .ok (.iaload, 1) := by decide +kernel
theorem xd_180_435 : decode code 435 = .ok (.aload_n 0, 1) := by decide +kernel
theorem xd_180_436 : decode code 436 = .ok (.iload 4, 2) := by decide +kernel
theorem xd_180_438 : decode code 438 = .ok (.iconst 2, 1) := by decide +kernel
theorem xd_180_439 : decode code 439 = .ok (.iadd, 1) := by decide +kernel
theorem xd_180_440 : decode code 440 = .ok (.iaload, 1) := by decide +kernel
theorem xd_180_441 : decode code 441 = .ok (.aload_n 3, 1) := by decide +kernel
theorem xd_180_442 : decode code 442 = .ok (.invokestatic 115, 3) := by decide +kernel
theorem xd_180_445 : decode code 445 = .ok (.istore 5, 2) := by decide +kernel
theorem xd_180_447 : decode code 447 = .ok (.aload_n 2, 1) := by decide +kernel
theorem xd_180_448 : decode code 448 = .ok (.aload_n 0, 1) := by decide +kernel
theorem xd_180_449 : decode code 449 = .ok (.iload 4, 2) := by decide +kernel
theorem xd_180_451 : decode code 451 = .ok (.iconst 1, 1) := by decide +kernel
theorem xd_180_452 : decode code 452 = .ok (.iadd, 1) := by decide +kernel
theorem xd_180_453 : decode code 453 = .ok (.iaload, 1) := by decide +kernel
theorem xd_180_454 : decode code 454 = .ok (.aload_n 0, 1) := by decide +kernel
theorem xd_180_455 : decode code 455 = .ok (.iload 4, 2) := by decide +kernel
theorem xd_180_457 : decode code 457 = .ok (.iconst 2, 1) := by decide +kernel
theorem xd_180_458 : decode code 458 = .ok (.iadd, 1) := by decide +kernel
theorem xd_180_459 : decode code 459 = .ok (.iaload, 1) := by decide +kernel
theorem xd_180_460 : decode code 460 = .ok (.invokevirtual 117, 3) := by decide +kernel
theorem xd_180_463 : decode code 463 = .ok (.istore 6, 2) := by decide +kernel
theorem xd_180_465 : decode code 465 = .ok (.aload_n 2, 1) := by decide +kernel
theorem xd_180_466 : decode code 466 = .ok (.invokevirtual 96, 3) := by decide +kernel
theorem xd_180_469 : decode code 469 = .ok (.iload 5, 2) := by decide +kernel
theorem xd_180_471 : decode code 471 = .ok (.if_icmp .eq 5, 3) := by decide +kernel
theorem xd_180_474 : decode code 474 = .ok (.iconst 0, 1) := by decide +kernel
theorem xd_180_475 : decode code 475 = .ok (.ireturn, 1) := by decide +kernel
theorem xd_180_476 : decode code 476 = .ok (.iload 5, 2) := by decide +kernel
theorem xd_180_478 : decode code 478 = .ok (.ifCond .ne 15, 3) := by decide +kernel
theorem xd_180_481 : decode code 481 = .ok (.aload_n 3, 1) := by decide +kernel
theorem xd_180_482 : decode code 482 = .ok (.iconst 0, 1) := by decide +kernel
theorem xd_180_483 : decode code 483 = .ok (.laload, 1) := by decide +kernel
theorem xd_180_484 : decode code 484 = .ok (.iload 6, 2) := by decide +kernel
theorem xd_180_486 : decode code 486 = .ok (.i2l, 1) := by decide +kernel
theorem xd_180_487 : decode code 487 = .ok (.lcmp, 1) := by decide +kernel
theorem xd_180_488 : decode code 488 = .ok (.ifCond .eq 5, 3) := by decide +kernel
theorem xd_180_491 : decode code 491 = .ok (.iconst 0, 1) := by decide +kernel
theorem xd_180_492 : decode code 492 = .ok (.ireturn, 1) := by decide +kernel
theorem xd_180_493 : decode code 493 = .ok (.goto 848, 3) := by decide +kernel
theorem xd_180_496 : decode code 496 = .ok (.aload_n 1, 1) := by decide +kernel
theorem xd_180_497 : decode code 497 = .ok (.aload_n 0, 1) := by decide +kernel
theorem xd_180_498 : decode code 498 = .ok (.iload 4, 2) := by decide +kernel
theorem xd_180_500 : decode code 500 = .ok (.iconst 1, 1) := by decide +kernel
theorem xd_180_501 : decode code 501 = .ok (.iadd, 1) := by decide +kernel
theorem xd_180_502 : decode code 502 = .ok (.iaload, 1) := by decide +kernel
theorem xd_180_503 : decode code 503 = .ok (.invokestatic 118, 3) := by decide +kernel
theorem xd_180_506 : decode code 506 = .ok (.istore 5, 2) := by decide +kernel
theorem xd_180_508 : decode code 508 = .ok (.aload_n 2, 1) := by decide +kernel
theorem xd_180_509 : decode code 509 = .ok (.aload_n 0, 1) := by decide +kernel
theorem xd_180_510 : decode code 510 = .ok (.iload 4, 2) := by decide +kernel
theorem xd_180_512 : decode code 512 = .ok (.iconst 1, 1) := by decide +kernel
theorem xd_180_513 : decode code 513 = .ok (.iadd, 1) := by decide +kernel
theorem xd_180_514 : decode code 514 = .ok (.iaload, 1) := by decide +kernel
theorem xd_180_515 : decode code 515 = .ok (.invokevirtual 120, 3) := by decide +kernel
theorem xd_180_518 : decode code 518 = .ok (.aload_n 2, 1) := by decide +kernel
theorem xd_180_519 : decode code 519 = .ok (.invokevirtual 96, 3) := by decide +kernel
theorem xd_180_522 : decode code 522 = .ok (.iload 5, 2) := by decide +kernel
theorem xd_180_524 : decode code 524 = .ok (.if_icmp .eq 5, 3) := by decide +kernel
theorem xd_180_527 : decode code 527 = .ok (.iconst 0, 1) := by decide +kernel
theorem xd_180_528 : decode code 528 = .ok (.ireturn, 1) := by decide +kernel
theorem xd_180_529 : decode code 529 = .ok (.goto 812, 3) := by decide +kernel
theorem xd_180_532 : decode code 532 = .ok (.aload_n 1, 1) := by decide +kernel
theorem xd_180_533 : decode code 533 = .ok (.aload_n 0, 1) := by decide +kernel
theorem xd_180_534 : decode code 534 = .ok (.iload 4, 2) := by decide +kernel
theorem xd_180_536 : decode code 536 = .ok (.iconst 1, 1) := by decide +kernel
theorem xd_180_537 : decode code 537 = .ok (.iadd, 1) := by decide +kernel
theorem xd_180_538 : decode code 538 = .ok (.iaload, 1) := by decide +kernel
theorem xd_180_539 : decode code 539 = .ok (.aload_n 3, 1) := by decide +kernel
theorem xd_180_540 : decode code 540 = .ok (.invokestatic 121, 3) := by decide +kernel
theorem xd_180_543 : decode code 543 = .ok (.istore 5, 2) := by decide +kernel
theorem xd_180_545 : decode code 545 = .ok (.aload_n 2, 1) := by decide +kernel
theorem xd_180_546 : decode code 546 = .ok (.aload_n 0, 1) := by decide +kernel
theorem xd_180_547 : decode code 547 = .ok (.iload 4, 2) := by decide +kernel
theorem xd_180_549 : decode code 549 = .ok (.iconst 1, 1) := by decide +kernel
theorem xd_180_550 : decode code 550 = .ok (.iadd, 1) := by decide +kernel
theorem xd_180_551 : decode code 551 = .ok (.iaload, 1) := by decide +kernel
theorem xd_180_552 : decode code 552 = .ok (.invokevirtual 123, 3) := by decide +kernel
theorem xd_180_555 : decode code 555 = .ok (.istore 6, 2) := by decide +kernel
theorem xd_180_557 : decode code 557 = .ok (.aload_n 2, 1) := by decide +kernel
theorem xd_180_558 : decode code 558 = .ok (.invokevirtual 96, 3) := by decide +kernel
theorem xd_180_561 : decode code 561 = .ok (.iload 5, 2) := by decide +kernel
theorem xd_180_563 : decode code 563 = .ok (.if_icmp .eq 5, 3) := by decide +kernel
theorem xd_180_566 : decode code 566 = .ok (.iconst 0, 1) := by decide +kernel
theorem xd_180_567 : decode code 567 = .ok (.ireturn, 1) := by decide +kernel
theorem xd_180_568 : decode code 568 = .ok (.iload 5, 2) := by decide +kernel
theorem xd_180_570 : decode code 570 = .ok (.ifCond .ne 15, 3) := by decide +kernel
theorem xd_180_573 : decode code 573 = .ok (.aload_n 3, 1) := by decide +kernel
theorem xd_180_574 : decode code 574 = .ok (.iconst 0, 1) := by decide +kernel
theorem xd_180_575 : decode code 575 = .ok (.laload, 1) := by decide +kernel
theorem xd_180_576 : decode code 576 = .ok (.iload 6, 2) := by decide +kernel
theorem xd_180_578 : decode code 578 = .ok (.i2l, 1) := by decide +kernel
theorem xd_180_579 : decode code 579 = .ok (.lcmp, 1) := by decide +kernel
theorem xd_180_580 : decode code 580 = .ok (.ifCond .eq 5, 3) := by decide +kernel
theorem xd_180_583 : decode code 583 = .ok (.iconst 0, 1) := by decide +kernel
theorem xd_180_584 : decode code 584 = .ok (.ireturn, 1) := by decide +kernel
theorem xd_180_585 : decode code 585 = .ok (.goto 756, 3) := by decide +kernel
theorem xd_180_588 : decode code 588 = .ok (.aload_n 1, 1) := by decide +kernel
theorem xd_180_589 : decode code 589 = .ok (.aload_n 0, 1) := by decide +kernel
theorem xd_180_590 : decode code 590 = .ok (.iload 4, 2) := by decide +kernel
theorem xd_180_592 : decode code 592 = .ok (.iconst 1, 1) := by decide +kernel
theorem xd_180_593 : decode code 593 = .ok (.iadd, 1) := by decide +kernel
theorem xd_180_594 : decode code 594 = .ok (.iaload, 1) := by decide +kernel
theorem xd_180_595 : decode code 595 = .ok (.aload_n 0, 1) := by decide +kernel
theorem xd_180_596 : decode code 596 = .ok (.iload 4, 2) := by decide +kernel
theorem xd_180_598 : decode code 598 = .ok (.iconst 2, 1) := by decide +kernel
theorem xd_180_599 : decode code 599 = .ok (.iadd, 1) := by decide +kernel
theorem xd_180_600 : decode code 600 = .ok (.iaload, 1) := by decide +kernel
theorem xd_180_601 : decode code 601 = .ok (.aload_n 0, 1) := by decide +kernel
theorem xd_180_602 : decode code 602 = .ok (.iload 4, 2) := by decide +kernel
theorem xd_180_604 : decode code 604 = .ok (.iconst 3, 1) := by decide +kernel
theorem xd_180_605 : decode code 605 = .ok (.iadd, 1) := by decide +kernel
theorem xd_180_606 : decode code 606 = .ok (.iaload, 1) := by decide +kernel
theorem xd_180_607 : decode code 607 = .ok (.aload_n 3, 1) := by decide +kernel
theorem xd_180_608 : decode code 608 = .ok (.invokestatic 124, 3) := by decide +kernel
theorem xd_180_611 : decode code 611 = .ok (.istore 5, 2) := by decide +kernel
theorem xd_180_613 : decode code 613 = .ok (.aload_n 2, 1) := by decide +kernel
theorem xd_180_614 : decode code 614 = .ok (.aload_n 0, 1) := by decide +kernel
theorem xd_180_615 : decode code 615 = .ok (.iload 4, 2) := by decide +kernel
theorem xd_180_617 : decode code 617 = .ok (.iconst 1, 1) := by decide +kernel
theorem xd_180_618 : decode code 618 = .ok (.iadd, 1) := by decide +kernel
theorem xd_180_619 : decode code 619 = .ok (.iaload, 1) := by decide +kernel
theorem xd_180_620 : decode code 620 = .ok (.aload_n 0, 1) := by decide +kernel
theorem xd_180_621 : decode code 621 = .ok (.iload 4, 2) := by decide +kernel
theorem xd_180_623 : decode code 623 = .ok (.iconst 2, 1) := by decide +kernel
theorem xd_180_624 : decode code 624 = .ok (.iadd, 1) := by decide +kernel
theorem xd_180_625 : decode code 625 = .ok (.iaload, 1) := by decide +kernel
theorem xd_180_626 : decode code 626 = .ok (.aload_n 0, 1) := by decide +kernel
theorem xd_180_627 : decode code 627 = .ok (.iload 4, 2) := by decide +kernel
theorem xd_180_629 : decode code 629 = .ok (.iconst 3, 1) := by decide +kernel
theorem xd_180_630 : decode code 630 = .ok (.iadd, 1) := by decide +kernel
theorem xd_180_631 : decode code 631 = .ok (.iaload, 1) := by decide +kernel
theorem xd_180_632 : decode code 632 = .ok (.invokevirtual 126, 3) := by decide +kernel
theorem xd_180_635 : decode code 635 = .ok (.istore 6, 2) := by decide +kernel
theorem xd_180_637 : decode code 637 = .ok (.aload_n 2, 1) := by decide +kernel
theorem xd_180_638 : decode code 638 = .ok (.invokevirtual 96, 3) := by decide +kernel
theorem xd_180_641 : decode code 641 = .ok (.iload 5, 2) := by decide +kernel
theorem xd_180_643 : decode code 643 = .ok (.if_icmp .eq 5, 3) := by decide +kernel
theorem xd_180_646 : decode code 646 = .ok (.iconst 0, 1) := by decide +kernel
theorem xd_180_647 : decode code 647 = .ok (.ireturn, 1) := by decide +kernel
theorem xd_180_648 : decode code 648 = .ok (.iload 5, 2) := by decide +kernel
theorem xd_180_650 : decode code 650 = .ok (.ifCond .ne 15, 3) := by decide +kernel
theorem xd_180_653 : decode code 653 = .ok (.aload_n 3, 1) := by decide +kernel
theorem xd_180_654 : decode code 654 = .ok (.iconst 0, 1) := by decide +kernel
theorem xd_180_655 : decode code 655 = .ok (.laload, 1) := by decide +kernel
theorem xd_180_656 : decode code 656 = .ok (.iload 6, 2) := by decide +kernel
theorem xd_180_658 : decode code 658 = .ok (.i2l, 1) := by decide +kernel
theorem xd_180_659 : decode code 659 = .ok (.lcmp, 1) := by decide +kernel
theorem xd_180_660 : decode code 660 = .ok (.ifCond .eq 5, 3) := by decide +kernel
theorem xd_180_663 : decode code 663 = .ok (.iconst 0, 1) := by decide +kernel
theorem xd_180_664 : decode code 664 = .ok (.ireturn, 1) := by decide +kernel
theorem xd_180_665 : decode code 665 = .ok (.goto 676, 3) := by decide +kernel
theorem xd_180_668 : decode code 668 = .ok (.aload_n 1, 1) := by decide +kernel
theorem xd_180_669 : decode code 669 = .ok (.aload_n 0, 1) := by decide +kernel
theorem xd_180_670 : decode code 670 = .ok (.iload 4, 2) := by decide +kernel
theorem xd_180_672 : decode code 672 = .ok (.iconst 1, 1) := by decide +kernel
theorem xd_180_673 : decode code 673 = .ok (.iadd, 1) := by decide +kernel
theorem xd_180_674 : decode code 674 = .ok (.iaload, 1) := by decide +kernel
theorem xd_180_675 : decode code 675 = .ok (.aload_n 0, 1) := by decide +kernel
theorem xd_180_676 : decode code 676 = .ok (.iload 4, 2) := by decide +kernel
theorem xd_180_678 : decode code 678 = .ok (.iconst 2, 1) := by decide +kernel
theorem xd_180_679 : decode code 679 = .ok (.iadd, 1) := by decide +kernel
theorem xd_180_680 : decode code 680 = .ok (.iaload, 1) := by decide +kernel
theorem xd_180_681 : decode code 681 = .ok (.aload_n 3, 1) := by decide +kernel
theorem xd_180_682 : decode code 682 = .ok (.invokestatic 127, 3) := by decide +kernel
theorem xd_180_685 : decode code 685 = .ok (.istore 5, 2) := by decide +kernel
theorem xd_180_687 : decode code 687 = .ok (.aload_n 2, 1) := by decide +kernel
theorem xd_180_688 : decode code 688 = .ok (.aload_n 0, 1) := by decide +kernel
theorem xd_180_689 : decode code 689 = .ok (.iload 4, 2) := by decide +kernel
theorem xd_180_691 : decode code 691 = .ok (.iconst 1, 1) := by decide +kernel
theorem xd_180_692 : decode code 692 = .ok (.iadd, 1) := by decide +kernel
theorem xd_180_693 : decode code 693 = .ok (.iaload, 1) := by decide +kernel
theorem xd_180_694 : decode code 694 = .ok (.aload_n 0, 1) := by decide +kernel
theorem xd_180_695 : decode code 695 = .ok (.iload 4, 2) := by decide +kernel
theorem xd_180_697 : decode code 697 = .ok (.iconst 2, 1) := by decide +kernel
theorem xd_180_698 : decode code 698 = .ok (.iadd, 1) := by decide +kernel
theorem xd_180_699 : decode code 699 = .ok (.iaload, 1) := by decide +kernel
theorem xd_180_700 : decode code 700 = .ok (.invokevirtual 129, 3) := by decide +kernel
theorem xd_180_703 : decode code 703 = .ok (.istore 6, 2) := by decide +kernel
theorem xd_180_705 : decode code 705 = .ok (.aload_n 2, 1) := by decide +kernel
theorem xd_180_706 : decode code 706 = .ok (.invokevirtual 96, 3) := by decide +kernel
theorem xd_180_709 : decode code 709 = .ok (.iload 5, 2) := by decide +kernel
theorem xd_180_711 : decode code 711 = .ok (.if_icmp .eq 5, 3) := by decide +kernel
theorem xd_180_714 : decode code 714 = .ok (.iconst 0, 1) := by decide +kernel
theorem xd_180_715 : decode code 715 = .ok (.ireturn, 1) := by decide +kernel
theorem xd_180_716 : decode code 716 = .ok (.iload 5, 2) := by decide +kernel
theorem xd_180_718 : decode code 718 = .ok (.ifCond .ne 15, 3) := by decide +kernel
theorem xd_180_721 : decode code 721 = .ok (.aload_n 3, 1) := by decide +kernel
theorem xd_180_722 : decode code 722 = .ok (.iconst 0, 1) := by decide +kernel
theorem xd_180_723 : decode code 723 = .ok (.laload, 1) := by decide +kernel
theorem xd_180_724 : decode code 724 = .ok (.iload 6, 2) := by decide +kernel
theorem xd_180_726 : decode code 726 = .ok (.i2l, 1) := by decide +kernel
theorem xd_180_727 : decode code 727 = .ok (.lcmp, 1) := by decide +kernel
theorem xd_180_728 : decode code 728 = .ok (.ifCond .eq 5, 3) := by decide +kernel
theorem xd_180_731 : decode code 731 = .ok (.iconst 0, 1) := by decide +kernel
theorem xd_180_732 : decode code 732 = .ok (.ireturn, 1) := by decide +kernel
theorem xd_180_733 : decode code 733 = .ok (.goto 608, 3) := by decide +kernel
theorem xd_180_736 : decode code 736 = .ok (.aload_n 1, 1) := by decide +kernel
theorem xd_180_737 : decode code 737 = .ok (.aload_n 0, 1) := by decide +kernel
theorem xd_180_738 : decode code 738 = .ok (.iload 4, 2) := by decide +kernel
theorem xd_180_740 : decode code 740 = .ok (.iconst 1, 1) := by decide +kernel
theorem xd_180_741 : decode code 741 = .ok (.iadd, 1) := by decide +kernel
theorem xd_180_742 : decode code 742 = .ok (.iaload, 1) := by decide +kernel
theorem xd_180_743 : decode code 743 = .ok (.aload_n 3, 1) := by decide +kernel
theorem xd_180_744 : decode code 744 = .ok (.invokestatic 130, 3) := by decide +kernel
theorem xd_180_747 : decode code 747 = .ok (.istore 5, 2) := by decide +kernel
theorem xd_180_749 : decode code 749 = .ok (.aload_n 2, 1) := by decide +kernel
theorem xd_180_750 : decode code 750 = .ok (.aload_n 0, 1) := by decide +kernel
theorem xd_180_751 : decode code 751 = .ok (.iload 4, 2) := by decide +kernel
theorem xd_180_753 : decode code 753 = .ok (.iconst 1, 1) := by decide +kernel
theorem xd_180_754 : decode code 754 = .ok (.iadd, 1) := by decide +kernel
theorem xd_180_755 : decode code 755 = .ok (.iaload, 1) := by decide +kernel
theorem xd_180_756 : decode code 756 = .ok (.invokevirtual 132, 3) := by decide +kernel
theorem xd_180_759 : decode code 759 = .ok (.istore 6, 2) := by decide +kernel
theorem xd_180_761 : decode code 761 = .ok (.aload_n 2, 1) := by decide +kernel
theorem xd_180_762 : decode code 762 = .ok (.invokevirtual 96, 3) := by decide +kernel
theorem xd_180_765 : decode code 765 = .ok (.iload 5, 2) := by decide +kernel
theorem xd_180_767 : decode code 767 = .ok (.if_icmp .eq 5, 3) := by decide +kernel
theorem xd_180_770 : decode code 770 = .ok (.iconst 0, 1) := by decide +kernel
theorem xd_180_771 : decode code 771 = .ok (.ireturn, 1) := by decide +kernel
theorem xd_180_772 : decode code 772 = .ok (.iload 5, 2) := by decide +kernel
theorem xd_180_774 : decode code 774 = .ok (.ifCond .ne 15, 3) := by decide +kernel
theorem xd_180_777 : decode code 777 = .ok (.aload_n 3, 1) := by decide +kernel
theorem xd_180_778 : decode code 778 = .ok (.iconst 0, 1) := by decide +kernel
theorem xd_180_779 : decode code 779 = .ok (.laload, 1) := by decide +kernel
theorem xd_180_780 : decode code 780 = .ok (.iload 6, 2) := by decide +kernel
theorem xd_180_782 : decode code 782 = .ok (.i2l, 1) := by decide +kernel
theorem xd_180_783 : decode code 783 = .ok (.lcmp, 1) := by decide +kernel
theorem xd_180_784 : decode code 784 = .ok (.ifCond .eq 5, 3) := by decide +kernel
theorem xd_180_787 : decode code 787 = .ok (.iconst 0, 1) := by decide +kernel
theorem xd_180_788 : decode code 788 = .ok (.ireturn, 1) := by decide +kernel
theorem xd_180_789 : decode code 789 = .ok (.goto 552, 3) := by decide +kernel
theorem xd_180_792 : decode code 792 = .ok (.aload_n 1, 1) := by decide +kernel
theorem xd_180_793 : decode code 793 = .ok (.aload_n 3, 1) := by decide +kernel
theorem xd_180_794 : decode code 794 = .ok (.invokestatic 133, 3) := by decide +kernel
theorem xd_180_797 : decode code 797 = .ok (.istore 5, 2) := by decide +kernel
theorem xd_180_799 : decode code 799 = .ok (.aload_n 2, 1) := by decide +kernel
theorem xd_180_800 : decode code 800 = .ok (.invokevirtual 136, 3) := by decide +kernel
theorem xd_180_803 : decode code 803 = .ok (.istore 6, 2) := by decide +kernel
theorem xd_180_805 : decode code 805 = .ok (.aload_n 2, 1) := by decide +kernel
theorem xd_180_806 : decode code 806 = .ok (.invokevirtual 96, 3) := by decide +kernel
theorem xd_180_809 : decode code 809 = .ok (.iload 5, 2) := by decide +kernel
theorem xd_180_811 : decode code 811 = .ok (.if_icmp .eq 5, 3) := by decide +kernel
theorem xd_180_814 : decode code 814 = .ok (.iconst 0, 1) := by decide +kernel
theorem xd_180_815 : decode code 815 = .ok (.ireturn, 1) := by decide +kernel
theorem xd_180_816 : decode code 816 = .ok (.iload 5, 2) := by decide +kernel
theorem xd_180_818 : decode code 818 = .ok (.ifCond .ne 15, 3) := by decide +kernel
theorem xd_180_821 : decode code 821 = .ok (.aload_n 3, 1) := by decide +kernel
theorem xd_180_822 : decode code 822 = .ok (.iconst 0, 1) := by decide +kernel
theorem xd_180_823 : decode code 823 = .ok (.laload, 1) := by decide +kernel
theorem xd_180_824 : decode code 824 = .ok (.iload 6, 2) := by decide +kernel
theorem xd_180_826 : decode code 826 = .ok (.i2l, 1) := by decide +kernel
theorem xd_180_827 : decode code 827 = .ok (.lcmp, 1) := by decide +kernel
theorem xd_180_828 : decode code 828 = .ok (.ifCond .eq 5, 3) := by decide +kernel
theorem xd_180_831 : decode code 831 = .ok (.iconst 0, 1) := by decide +kernel
theorem xd_180_832 : decode code 832 = .ok (.ireturn, 1) := by decide +kernel
theorem xd_180_833 : decode code 833 = .ok (.goto 508, 3) := by decide +kernel
theorem xd_180_836 : decode code 836 = .ok (.aload_n 1, 1) := by decide +kernel
theorem xd_180_837 : decode code 837 = .ok (.invokevirtual 137, 3) := by decide +kernel
theorem xd_180_840 : decode code 840 = .ok (.aload_n 2, 1) := by decide +kernel
theorem xd_180_841 : decode code 841 = .ok (.invokevirtual 140, 3) := by decide +kernel
theorem xd_180_844 : decode code 844 = .ok (.if_icmp .eq 497, 3) := by decide +kernel
theorem xd_180_847 : decode code 847 = .ok (.iconst 0, 1) := by decide +kernel
theorem xd_180_848 : decode code 848 = .ok (.ireturn, 1) := by decide +kernel
theorem xd_180_849 : decode code 849 = .ok (.aload_n 1, 1) := by decide +kernel
theorem xd_180_850 : decode code 850 = .ok (.aload_n 0, 1) := by decide +kernel
theorem xd_180_851 : decode code 851 = .ok (.iload 4, 2) := by decide +kernel
theorem xd_180_853 : decode code 853 = .ok (.iconst 1, 1) := by decide +kernel
theorem xd_180_854 : decode code 854 = .ok (.iadd, 1) := by decide +kernel
theorem xd_180_855 : decode code 855 = .ok (.iaload, 1) := by decide +kernel
theorem xd_180_856 : decode code 856 = .ok (.aload_n 0, 1) := by decide +kernel
theorem xd_180_857 : decode code 857 = .ok (.iload 4, 2) := by decide +kernel
theorem xd_180_859 : decode code 859 = .ok (.iconst 2, 1) := by decide +kernel
theorem xd_180_860 : decode code 860 = .ok (.iadd, 1) := by decide +kernel
theorem xd_180_861 : decode code 861 = .ok (.iaload, 1) := by decide +kernel
theorem xd_180_862 : decode code 862 = .ok (.aload_n 3, 1) := by decide +kernel
theorem xd_180_863 : decode code 863 = .ok (.invokestatic 141, 3) := by decide +kernel
theorem xd_180_866 : decode code 866 = .ok (.istore 5, 2) := by decide +kernel
theorem xd_180_868 : decode code 868 = .ok (.aload_n 2, 1) := by decide +kernel
theorem xd_180_869 : decode code 869 = .ok (.aload_n 0, 1) := by decide +kernel
theorem xd_180_870 : decode code 870 = .ok (.iload 4, 2) := by decide +kernel
theorem xd_180_872 : decode code 872 = .ok (.iconst 1, 1) := by decide +kernel
theorem xd_180_873 : decode code 873 = .ok (.iadd, 1) := by decide +kernel
theorem xd_180_874 : decode code 874 = .ok (.iaload, 1) := by decide +kernel
theorem xd_180_875 : decode code 875 = .ok (.aload_n 0, 1) := by decide +kernel
theorem xd_180_876 : decode code 876 = .ok (.iload 4, 2) := by decide +kernel
theorem xd_180_878 : decode code 878 = .ok (.iconst 2, 1) := by decide +kernel
theorem xd_180_879 : decode code 879 = .ok (.iadd, 1) := by decide +kernel
theorem xd_180_880 : decode code 880 = .ok (.iaload, 1) := by decide +kernel
theorem xd_180_881 : decode code 881 = .ok (.invokevirtual 143, 3) := by decide +kernel
theorem xd_180_884 : decode code 884 = .ok (.istore 6, 2) := by decide +kernel
theorem xd_180_886 : decode code 886 = .ok (.aload_n 2, 1) := by decide +kernel
theorem xd_180_887 : decode code 887 = .ok (.invokevirtual 96, 3) := by decide +kernel
theorem xd_180_890 : decode code 890 = .ok (.iload 5, 2) := by decide +kernel
theorem xd_180_892 : decode code 892 = .ok (.if_icmp .eq 5, 3) := by decide +kernel
theorem xd_180_895 : decode code 895 = .ok (.iconst 0, 1) := by decide +kernel
theorem xd_180_896 : decode code 896 = .ok (.ireturn, 1) := by decide +kernel
theorem xd_180_897 : decode code 897 = .ok (.iload 5, 2) := by decide +kernel
theorem xd_180_899 : decode code 899 = .ok (.ifCond .ne 15, 3) := by decide +kernel
theorem xd_180_902 : decode code 902 = .ok (.aload_n 3, 1) := by decide +kernel
theorem xd_180_903 : decode code 903 = .ok (.iconst 0, 1) := by decide +kernel
theorem xd_180_904 : decode code 904 = .ok (.laload, 1) := by decide +kernel
theorem xd_180_905 : decode code 905 = .ok (.iload 6, 2) := by decide +kernel
theorem xd_180_907 : decode code 907 = .ok (.i2l, 1) := by decide +kernel
theorem xd_180_908 : decode code 908 = .ok (.lcmp, 1) := by decide +kernel
theorem xd_180_909 : decode code 909 = .ok (.ifCond .eq 5, 3) := by decide +kernel
theorem xd_180_912 : decode code 912 = .ok (.iconst 0, 1) := by decide +kernel
theorem xd_180_913 : decode code 913 = .ok (.ireturn, 1) := by decide +kernel
theorem xd_180_914 : decode code 914 = .ok (.goto 427, 3) := by decide +kernel
theorem xd_180_917 : decode code 917 = .ok (.aload_n 1, 1) := by decide +kernel
theorem xd_180_918 : decode code 918 = .ok (.aload_n 0, 1) := by decide +kernel
theorem xd_180_919 : decode code 919 = .ok (.iload 4, 2) := by decide +kernel
theorem xd_180_921 : decode code 921 = .ok (.iconst 1, 1) := by decide +kernel
theorem xd_180_922 : decode code 922 = .ok (.iadd, 1) := by decide +kernel
theorem xd_180_923 : decode code 923 = .ok (.iaload, 1) := by decide +kernel
theorem xd_180_924 : decode code 924 = .ok (.aload_n 0, 1) := by decide +kernel
theorem xd_180_925 : decode code 925 = .ok (.iload 4, 2) := by decide +kernel
theorem xd_180_927 : decode code 927 = .ok (.iconst 2, 1) := by decide +kernel
theorem xd_180_928 : decode code 928 = .ok (.iadd, 1) := by decide +kernel
theorem xd_180_929 : decode code 929 = .ok (.iaload, 1) := by decide +kernel
theorem xd_180_930 : decode code 930 = .ok (.aload_n 0, 1) := by decide +kernel
theorem xd_180_931 : decode code 931 = .ok (.iload 4, 2) := by decide +kernel
theorem xd_180_933 : decode code 933 = .ok (.iconst 3, 1) := by decide +kernel
theorem xd_180_934 : decode code 934 = .ok (.iadd, 1) := by decide +kernel
theorem xd_180_935 : decode code 935 = .ok (.iaload, 1) := by decide +kernel
theorem xd_180_936 : decode code 936 = .ok (.aload_n 3, 1) := by decide +kernel
theorem xd_180_937 : decode code 937 = .ok (.invokestatic 144, 3) := by decide +kernel
theorem xd_180_940 : decode code 940 = .ok (.istore 5, 2) := by decide +kernel
theorem xd_180_942 : decode code 942 = .ok (.aload_n 2, 1) := by decide +kernel
theorem xd_180_943 : decode code 943 = .ok (.aload_n 0, 1) := by decide +kernel
theorem xd_180_944 : decode code 944 = .ok (.iload 4, 2) := by decide +kernel
theorem xd_180_946 : decode code 946 = .ok (.iconst 1, 1) := by decide +kernel
theorem xd_180_947 : decode code 947 = .ok (.iadd, 1) := by decide +kernel
theorem xd_180_948 : decode code 948 = .ok (.iaload, 1) := by decide +kernel
theorem xd_180_949 : decode code 949 = .ok (.aload_n 0, 1) := by decide +kernel
theorem xd_180_950 : decode code 950 = .ok (.iload 4, 2) := by decide +kernel
theorem xd_180_952 : decode code 952 = .ok (.iconst 2, 1) := by decide +kernel
theorem xd_180_953 : decode code 953 = .ok (.iadd, 1) := by decide +kernel
theorem xd_180_954 : decode code 954 = .ok (.iaload, 1) := by decide +kernel
theorem xd_180_955 : decode code 955 = .ok (.aload_n 0, 1) := by decide +kernel
theorem xd_180_956 : decode code 956 = .ok (.iload 4, 2) := by decide +kernel
theorem xd_180_958 : decode code 958 = .ok (.iconst 3, 1) := by decide +kernel
theorem xd_180_959 : decode code 959 = .ok (.iadd, 1) := by decide +kernel
theorem xd_180_960 : decode code 960 = .ok (.iaload, 1) := by decide +kernel
theorem xd_180_961 : decode code 961 = .ok (.invokevirtual 146, 3) := by decide +kernel
theorem xd_180_964 : decode code 964 = .ok (.istore 6, 2) := by decide +kernel
theorem xd_180_966 : decode code 966 = .ok (.aload_n 2, 1) := by decide +kernel
theorem xd_180_967 : decode code 967 = .ok (.invokevirtual 96, 3) := by decide +kernel
theorem xd_180_970 : decode code 970 = .ok (.iload 5, 2) := by decide +kernel
theorem xd_180_972 : decode code 972 = .ok (.if_icmp .eq 5, 3) := by decide +kernel
theorem xd_180_975 : decode code 975 = .ok (.iconst 0, 1) := by decide +kernel
theorem xd_180_976 : decode code 976 = .ok (.ireturn, 1) := by decide +kernel
theorem xd_180_977 : decode code 977 = .ok (.iload 5, 2) := by decide +kernel
theorem xd_180_979 : decode code 979 = .ok (.ifCond .ne 15, 3) := by decide +kernel
theorem xd_180_982 : decode code 982 = .ok (.aload_n 3, 1) := by decide +kernel
theorem xd_180_983 : decode code 983 = .ok (.iconst 0, 1) := by decide +kernel
theorem xd_180_984 : decode code 984 = .ok (.laload, 1) := by decide +kernel
theorem xd_180_985 : decode code 985 = .ok (.iload 6, 2) := by decide +kernel
theorem xd_180_987 : decode code 987 = .ok (.i2l, 1) := by decide +kernel
theorem xd_180_988 : decode code 988 = .ok (.lcmp, 1) := by decide +kernel
theorem xd_180_989 : decode code 989 = .ok (.ifCond .eq 5, 3) := by decide +kernel
theorem xd_180_992 : decode code 992 = .ok (.iconst 0, 1) := by decide +kernel
theorem xd_180_993 : decode code 993 = .ok (.ireturn, 1) := by decide +kernel
theorem xd_180_994 : decode code 994 = .ok (.goto 347, 3) := by decide +kernel
theorem xd_180_997 : decode code 997 = .ok (.aload_n 1, 1) := by decide +kernel
theorem xd_180_998 : decode code 998 = .ok (.aload_n 0, 1) := by decide +kernel
theorem xd_180_999 : decode code 999 = .ok (.iload 4, 2) := by decide +kernel
theorem xd_180_1001 : decode code 1001 = .ok (.iconst 1, 1) := by decide +kernel
theorem xd_180_1002 : decode code 1002 = .ok (.iadd, 1) := by decide +kernel
theorem xd_180_1003 : decode code 1003 = .ok (.iaload, 1) := by decide +kernel
theorem xd_180_1004 : decode code 1004 = .ok (.aload_n 3, 1) := by decide +kernel
theorem xd_180_1005 : decode code 1005 = .ok (.invokestatic 147, 3) := by decide +kernel
theorem xd_180_1008 : decode code 1008 = .ok (.istore 5, 2) := by decide +kernel
theorem xd_180_1010 : decode code 1010 = .ok (.aload_n 2, 1) := by decide +kernel
theorem xd_180_1011 : decode code 1011 = .ok (.aload_n 0, 1) := by decide +kernel
theorem xd_180_1012 : decode code 1012 = .ok (.iload 4, 2) := by decide +kernel
theorem xd_180_1014 : decode code 1014 = .ok (.iconst 1, 1) := by decide +kernel
theorem xd_180_1015 : decode code 1015 = .ok (.iadd, 1) := by decide +kernel
theorem xd_180_1016 : decode code 1016 = .ok (.iaload, 1) := by decide +kernel
theorem xd_180_1017 : decode code 1017 = .ok (.invokevirtual 149, 3) := by decide +kernel
theorem xd_180_1020 : decode code 1020 = .ok (.istore 6, 2) := by decide +kernel
theorem xd_180_1022 : decode code 1022 = .ok (.aload_n 2, 1) := by decide +kernel
theorem xd_180_1023 : decode code 1023 = .ok (.invokevirtual 96, 3) := by decide +kernel
theorem xd_180_1026 : decode code 1026 = .ok (.iload 5, 2) := by decide +kernel
theorem xd_180_1028 : decode code 1028 = .ok (.if_icmp .eq 5, 3) := by decide +kernel
theorem xd_180_1031 : decode code 1031 = .ok (.iconst 0, 1) := by decide +kernel
theorem xd_180_1032 : decode code 1032 = .ok (.ireturn, 1) := by decide +kernel
theorem xd_180_1033 : decode code 1033 = .ok (.iload 5, 2) := by decide +kernel
theorem xd_180_1035 : decode code 1035 = .ok (.ifCond .ne 15, 3) := by decide +kernel
theorem xd_180_1038 : decode code 1038 = .ok (.aload_n 3, 1) := by decide +kernel
theorem xd_180_1039 : decode code 1039 = .ok (.iconst 0, 1) := by decide +kernel
theorem xd_180_1040 : decode code 1040 = .ok (.laload, 1) := by decide +kernel
theorem xd_180_1041 : decode code 1041 = .ok (.iload 6, 2) := by decide +kernel
theorem xd_180_1043 : decode code 1043 = .ok (.i2l, 1) := by decide +kernel
theorem xd_180_1044 : decode code 1044 = .ok (.lcmp, 1) := by decide +kernel
theorem xd_180_1045 : decode code 1045 = .ok (.ifCond .eq 5, 3) := by decide +kernel
theorem xd_180_1048 : decode code 1048 = .ok (.iconst 0, 1) := by decide +kernel
theorem xd_180_1049 : decode code 1049 = .ok (.ireturn, 1) := by decide +kernel
theorem xd_180_1050 : decode code 1050 = .ok (.goto 291, 3) := by decide +kernel
theorem xd_180_1053 : decode code 1053 = .ok (.aload_n 1, 1) := by decide +kernel
theorem xd_180_1054 : decode code 1054 = .ok (.aload_n 0, 1) := by decide +kernel
theorem xd_180_1055 : decode code 1055 = .ok (.iload 4, 2) := by decide +kernel
theorem xd_180_1057 : decode code 1057 = .ok (.iconst 1, 1) := by decide +kernel
theorem xd_180_1058 : decode code 1058 = .ok (.iadd, 1) := by decide +kernel
theorem xd_180_1059 : decode code 1059 = .ok (.iaload, 1) := by decide +kernel
theorem xd_180_1060 : decode code 1060 = .ok (.invokestatic 150, 3) := by decide +kernel
theorem xd_180_1063 : decode code 1063 = .ok (.istore 5, 2) := by decide +kernel
theorem xd_180_1065 : decode code 1065 = .ok (.aload_n 2, 1) := by decide +kernel
theorem xd_180_1066 : decode code 1066 = .ok (.aload_n 0, 1) := by decide +kernel
theorem xd_180_1067 : decode code 1067 = .ok (.iload 4, 2) := by decide +kernel
theorem xd_180_1069 : decode code 1069 = .ok (.iconst 1, 1) := by decide +kernel
theorem xd_180_1070 : decode code 1070 = .ok (.iadd, 1) := by decide +kernel
theorem xd_180_1071 : decode code 1071 = .ok (.iaload, 1) := by decide +kernel
theorem xd_180_1072 : decode code 1072 = .ok (.invokevirtual 152, 3) := by decide +kernel
theorem xd_180_1075 : decode code 1075 = .ok (.aload_n 2, 1) := by decide +kernel
theorem xd_180_1076 : decode code 1076 = .ok (.invokevirtual 96, 3) := by decide +kernel
theorem xd_180_1079 : decode code 1079 = .ok (.iload 5, 2) := by decide +kernel
theorem xd_180_1081 : decode code 1081 = .ok (.if_icmp .eq 5, 3) := by decide +kernel
theorem xd_180_1084 : decode code 1084 = .ok (.iconst 0, 1) := by decide +kernel
theorem xd_180_1085 : decode code 1085 = .ok (.ireturn, 1) := by decide +kernel
theorem xd_180_1086 : decode code 1086 = .ok (.goto 255, 3) := by decide +kernel
theorem xd_180_1089 : decode code 1089 = .ok (.aload_n 1, 1) := by decide +kernel
theorem xd_180_1090 : decode code 1090 = .ok (.invokestatic 153, 3) := by decide +kernel
theorem xd_180_1093 : decode code 1093 = .ok (.istore 5, 2) := by decide +kernel
theorem xd_180_1095 : decode code 1095 = .ok (.aload_n 2, 1) := by decide +kernel
theorem xd_180_1096 : decode code 1096 = .ok (.invokevirtual 156, 3) := by decide +kernel
theorem xd_180_1099 : decode code 1099 = .ok (.aload_n 2, 1) := by decide +kernel
theorem xd_180_1100 : decode code 1100 = .ok (.invokevirtual 96, 3) := by decide +kernel
theorem xd_180_1103 : decode code 1103 = .ok (.iload 5, 2) := by decide +kernel
theorem xd_180_1105 : decode code 1105 = .ok (.if_icmp .eq 5, 3) := by decide +kernel
theorem xd_180_1108 : decode code 1108 = .ok (.iconst 0, 1) := by decide +kernel
theorem xd_180_1109 : decode code 1109 = .ok (.ireturn, 1) := by decide +kernel
theorem xd_180_1110 : decode code 1110 = .ok (.goto 231, 3) := by decide +kernel
theorem xd_180_1113 : decode code 1113 = .ok (.aload_n 1, 1) := by decide +kernel
theorem xd_180_1114 : decode code 1114 = .ok (.aload_n 0, 1) := by decide +kernel
theorem xd_180_1115 : decode code 1115 = .ok (.iload 4, 2) := by decide +kernel
theorem xd_180_1117 : decode code 1117 = .ok (.iconst 1, 1) := by decide +kernel
theorem xd_180_1118 : decode code 1118 = .ok (.iadd, 1) := by decide +kernel
theorem xd_180_1119 : decode code 1119 = .ok (.iaload, 1) := by decide +kernel
theorem xd_180_1120 : decode code 1120 = .ok (.aload_n 0, 1) := by decide +kernel
theorem xd_180_1121 : decode code 1121 = .ok (.iload 4, 2) := by decide +kernel
theorem xd_180_1123 : decode code 1123 = .ok (.iconst 2, 1) := by decide +kernel
theorem xd_180_1124 : decode code 1124 = .ok (.iadd, 1) := by decide +kernel
theorem xd_180_1125 : decode code 1125 = .ok (.iaload, 1) := by decide +kernel
theorem xd_180_1126 : decode code 1126 = .ok (.ifCond .eq 7, 3) := by decide +kernel
theorem xd_180_1129 : decode code 1129 = .ok (.iconst 1, 1) := by decide +kernel
theorem xd_180_1130 : decode code 1130 = .ok (.goto 4, 3) := by decide +kernel
theorem xd_180_1133 : decode code 1133 = .ok (.iconst 0, 1) := by decide +kernel
theorem xd_180_1134 : decode code 1134 = .ok (.aload_n 3, 1) := by decide +kernel
theorem xd_180_1135 : decode code 1135 = .ok (.invokestatic 157, 3) := by decide +kernel
theorem xd_180_1138 : decode code 1138 = .ok (.istore 5, 2) := by decide +kernel
theorem xd_180_1140 : decode code 1140 = .ok (.aload_n 2, 1) := by decide +kernel
theorem xd_180_1141 : decode code 1141 = .ok (.aload_n 0, 1) := by decide +kernel
theorem xd_180_1142 : decode code 1142 = .ok (.iload 4, 2) := by decide +kernel
theorem xd_180_1144 : decode code 1144 = .ok (.iconst 1, 1) := by decide +kernel
theorem xd_180_1145 : decode code 1145 = .ok (.iadd, 1) := by decide +kernel
theorem xd_180_1146 : decode code 1146 = .ok (.iaload, 1) := by decide +kernel
theorem xd_180_1147 : decode code 1147 = .ok (.aload_n 0, 1) := by decide +kernel
theorem xd_180_1148 : decode code 1148 = .ok (.iload 4, 2) := by decide +kernel
theorem xd_180_1150 : decode code 1150 = .ok (.iconst 2, 1) := by decide +kernel
theorem xd_180_1151 : decode code 1151 = .ok (.iadd, 1) := by decide +kernel
theorem xd_180_1152 : decode code 1152 = .ok (.iaload, 1) := by decide +kernel
theorem xd_180_1153 : decode code 1153 = .ok (.ifCond .eq 7, 3) := by decide +kernel
theorem xd_180_1156 : decode code 1156 = .ok (.iconst 1, 1) := by decide +kernel
theorem xd_180_1157 : decode code 1157 = .ok (.goto 4, 3) := by decide +kernel
theorem xd_180_1160 : decode code 1160 = .ok (.iconst 0, 1) := by decide +kernel
theorem xd_180_1161 : decode code 1161 = .ok (.invokevirtual 160, 3) := by decide +kernel
theorem xd_180_1164 : decode code 1164 = .ok (.istore 6, 2) := by decide +kernel
theorem xd_180_1166 : decode code 1166 = .ok (.aload_n 2, 1) := by decide +kernel
theorem xd_180_1167 : decode code 1167 = .ok (.invokevirtual 96, 3) := by decide +kernel
theorem xd_180_1170 : decode code 1170 = .ok (.iload 5, 2) := by decide +kernel
theorem xd_180_1172 : decode code 1172 = .ok (.if_icmp .eq 5, 3) := by decide +kernel
theorem xd_180_1175 : decode code 1175 = .ok (.iconst 0, 1) := by decide +kernel
theorem xd_180_1176 : decode code 1176 = .ok (.ireturn, 1) := by decide +kernel
theorem xd_180_1177 : decode code 1177 = .ok (.iload 5, 2) := by decide +kernel
theorem xd_180_1179 : decode code 1179 = .ok (.ifCond .ne 22, 3) := by decide +kernel
theorem xd_180_1182 : decode code 1182 = .ok (.aload_n 3, 1) := by decide +kernel
theorem xd_180_1183 : decode code 1183 = .ok (.iconst 0, 1) := by decide +kernel
theorem xd_180_1184 : decode code 1184 = .ok (.laload, 1) := by decide +kernel
theorem xd_180_1185 : decode code 1185 = .ok (.iload 6, 2) := by decide +kernel
theorem xd_180_1187 : decode code 1187 = .ok (.ifCond .eq 7, 3) := by decide +kernel
theorem xd_180_1190 : decode code 1190 = .ok (.lconst 1, 1) := by decide +kernel
theorem xd_180_1191 : decode code 1191 = .ok (.goto 4, 3) := by decide +kernel
theorem xd_180_1194 : decode code 1194 = .ok (.lconst 0, 1) := by decide +kernel
theorem xd_180_1195 : decode code 1195 = .ok (.lcmp, 1) := by decide +kernel
theorem xd_180_1196 : decode code 1196 = .ok (.ifCond .eq 5, 3) := by decide +kernel
theorem xd_180_1199 : decode code 1199 = .ok (.iconst 0, 1) := by decide +kernel
theorem xd_180_1200 : decode code 1200 = .ok (.ireturn, 1) := by decide +kernel
theorem xd_180_1201 : decode code 1201 = .ok (.goto 140, 3) := by decide +kernel
theorem xd_180_1204 : decode code 1204 = .ok (.aload_n 1, 1) := by decide +kernel
theorem xd_180_1205 : decode code 1205 = .ok (.aload_n 3, 1) := by decide +kernel
theorem xd_180_1206 : decode code 1206 = .ok (.invokestatic 161, 3) := by decide +kernel
theorem xd_180_1209 : decode code 1209 = .ok (.istore 5, 2) := by decide +kernel
theorem xd_180_1211 : decode code 1211 = .ok (.aload_n 2, 1) := by decide +kernel
theorem xd_180_1212 : decode code 1212 = .ok (.invokevirtual 163, 3) := by decide +kernel
theorem xd_180_1215 : decode code 1215 = .ok (.istore 6, 2) := by decide +kernel
theorem xd_180_1217 : decode code 1217 = .ok (.aload_n 2, 1) := by decide +kernel
theorem xd_180_1218 : decode code 1218 = .ok (.invokevirtual 96, 3) := by decide +kernel
theorem xd_180_1221 : decode code 1221 = .ok (.iload 5, 2) := by decide +kernel
theorem xd_180_1223 : decode code 1223 = .ok (.if_icmp .eq 5, 3) := by decide +kernel
theorem xd_180_1226 : decode code 1226 = .ok (.iconst 0, 1) := by decide +kernel
theorem xd_180_1227 : decode code 1227 = .ok (.ireturn, 1) := by decide +kernel
theorem xd_180_1228 : decode code 1228 = .ok (.iload 5, 2) := by decide +kernel
theorem xd_180_1230 : decode code 1230 = .ok (.ifCond .ne 15, 3) := by decide +kernel
theorem xd_180_1233 : decode code 1233 = .ok (.aload_n 3, 1) := by decide +kernel
theorem xd_180_1234 : decode code 1234 = .ok (.iconst 0, 1) := by decide +kernel
theorem xd_180_1235 : decode code 1235 = .ok (.laload, 1) := by decide +kernel
theorem xd_180_1236 : decode code 1236 = .ok (.iload 6, 2) := by decide +kernel
theorem xd_180_1238 : decode code 1238 = .ok (.i2l, 1) := by decide +kernel
theorem xd_180_1239 : decode code 1239 = .ok (.lcmp, 1) := by decide +kernel
theorem xd_180_1240 : decode code 1240 = .ok (.ifCond .eq 5, 3) := by decide +kernel
theorem xd_180_1243 : decode code 1243 = .ok (.iconst 0, 1) := by decide +kernel
theorem xd_180_1244 : decode code 1244 = .ok (.ireturn, 1) := by decide +kernel
theorem xd_180_1245 : decode code 1245 = .ok (.goto 96, 3) := by decide +kernel
theorem xd_180_1248 : decode code 1248 = .ok (.aload_n 1, 1) := by decide +kernel
theorem xd_180_1249 : decode code 1249 = .ok (.invokevirtual 164, 3) := by decide +kernel
theorem xd_180_1252 : decode code 1252 = .ok (.aload_n 2, 1) := by decide +kernel
theorem xd_180_1253 : decode code 1253 = .ok (.invokevirtual 167, 3) := by decide +kernel
theorem xd_180_1256 : decode code 1256 = .ok (.if_icmp .eq 85, 3) := by decide +kernel
theorem xd_180_1259 : decode code 1259 = .ok (.iconst 0, 1) := by decide +kernel
theorem xd_180_1260 : decode code 1260 = .ok (.ireturn, 1) := by decide +kernel
theorem xd_180_1261 : decode code 1261 = .ok (.aload_n 1, 1) := by decide +kernel
theorem xd_180_1262 : decode code 1262 = .ok (.aload_n 0, 1) := by decide +kernel
theorem xd_180_1263 : decode code 1263 = .ok (.iload 4, 2) := by decide +kernel
theorem xd_180_1265 : decode code 1265 = .ok (.iconst 1, 1) := by decide +kernel
theorem xd_180_1266 : decode code 1266 = .ok (.iadd, 1) := by decide +kernel
theorem xd_180_1267 : decode code 1267 = .ok (.iaload, 1) := by decide +kernel
theorem xd_180_1268 : decode code 1268 = .ok (.aload_n 0, 1) := by decide +kernel
theorem xd_180_1269 : decode code 1269 = .ok (.iload 4, 2) := by decide +kernel
theorem xd_180_1271 : decode code 1271 = .ok (.iconst 2, 1) := by decide +kernel
theorem xd_180_1272 : decode code 1272 = .ok (.iadd, 1) := by decide +kernel
theorem xd_180_1273 : decode code 1273 = .ok (.iaload, 1) := by decide +kernel
theorem xd_180_1274 : decode code 1274 = .ok (.aload_n 0, 1) := by decide +kernel
theorem xd_180_1275 : decode code 1275 = .ok (.iload 4, 2) := by decide +kernel
theorem xd_180_1277 : decode code 1277 = .ok (.iconst 3, 1) := by decide +kernel
theorem xd_180_1278 : decode code 1278 = .ok (.iadd, 1) := by decide +kernel
theorem xd_180_1279 : decode code 1279 = .ok (.iaload, 1) := by decide +kernel
theorem xd_180_1280 : decode code 1280 = .ok (.aload_n 3, 1) := by decide +kernel
theorem xd_180_1281 : decode code 1281 = .ok (.invokestatic 168, 3) := by decide +kernel
theorem xd_180_1284 : decode code 1284 = .ok (.istore 5, 2) := by decide +kernel
theorem xd_180_1286 : decode code 1286 = .ok (.aload_n 2, 1) := by decide +kernel
theorem xd_180_1287 : decode code 1287 = .ok (.aload_n 0, 1) := by decide +kernel
theorem xd_180_1288 : decode code 1288 = .ok (.iload 4, 2) := by decide +kernel
theorem xd_180_1290 : decode code 1290 = .ok (.iconst 1, 1) := by decide +kernel
theorem xd_180_1291 : decode code 1291 = .ok (.iadd, 1) := by decide +kernel
theorem xd_180_1292 : decode code 1292 = .ok (.iaload, 1) := by decide +kernel
theorem xd_180_1293 : decode code 1293 = .ok (.aload_n 0, 1) := by decide +kernel
theorem xd_180_1294 : decode code 1294 = .ok (.iload 4, 2) := by decide +kernel
theorem xd_180_1296 : decode code 1296 = .ok (.iconst 2, 1) := by decide +kernel
theorem xd_180_1297 : decode code 1297 = .ok (.iadd, 1) := by decide +kernel
theorem xd_180_1298 : decode code 1298 = .ok (.iaload, 1) := by decide +kernel
theorem xd_180_1299 : decode code 1299 = .ok (.aload_n 0, 1) := by decide +kernel
theorem xd_180_1300 : decode code 1300 = .ok (.iload 4, 2) := by decide +kernel
theorem xd_180_1302 : decode code 1302 = .ok (.iconst 3, 1) := by decide +kernel
theorem xd_180_1303 : decode code 1303 = .ok (.iadd, 1) := by decide +kernel
theorem xd_180_1304 : decode code 1304 = .ok (.iaload, 1) := by decide +kernel
theorem xd_180_1305 : decode code 1305 = .ok (.invokevirtual 170, 3) := by decide +kernel
theorem xd_180_1308 : decode code 1308 = .ok (.istore 6, 2) := by decide +kernel
theorem xd_180_1310 : decode code 1310 = .ok (.aload_n 2, 1) := by decide +kernel
theorem xd_180_1311 : decode code 1311 = .ok (.invokevirtual 96, 3) := by decide +kernel
theorem xd_180_1314 : decode code 1314 = .ok (.iload 5, 2) := by decide +kernel
theorem xd_180_1316 : decode code 1316 = .ok (.if_icmp .eq 5, 3) := by decide +kernel
theorem xd_180_1319 : decode code 1319 = .ok (.iconst 0, 1) := by decide +kernel
theorem xd_180_1320 : decode code 1320 = .ok (.ireturn, 1) := by decide +kernel
theorem xd_180_1321 : decode code 1321 = .ok (.iload 5, 2) := by decide +kernel
theorem xd_180_1323 : decode code 1323 = .ok (.ifCond .ne 15, 3) := by decide +kernel
theorem xd_180_1326 : decode code 1326 = .ok (.aload_n 3, 1) := by decide +kernel
theorem xd_180_1327 : decode code 1327 = .ok (.iconst 0, 1) := by decide +kernel
theorem xd_180_1328 : decode code 1328 = .ok (.laload, 1) := by decide +kernel
theorem xd_180_1329 : decode code 1329 = .ok (.iload 6, 2) := by decide +kernel
theorem xd_180_1331 : decode code 1331 = .ok (.i2l, 1) := by decide +kernel
theorem xd_180_1332 : decode code 1332 = .ok (.lcmp, 1) := by decide +kernel
theorem xd_180_1333 : decode code 1333 = .ok (.ifCond .eq 5, 3) := by decide +kernel
theorem xd_180_1336 : decode code 1336 = .ok (.iconst 0, 1) := by decide +kernel
theorem xd_180_1337 : decode code 1337 = .ok (.ireturn, 1) := by decide +kernel
theorem xd_180_1338 : decode code 1338 = .ok (.goto 3, 3) := by decide +kernel
theorem xd_180_1341 : decode code 1341 = .ok (.iinc 4 (4), 3) := by decide +kernel
theorem xd_180_1344 : decode code 1344 = .ok (.goto (-1321), 3) := by decide +kernel
theorem xd_180_1347 : decode code 1347 = .ok (.iconst 1, 1) := by decide +kernel
theorem xd_180_1348 : decode code 1348 = .ok (.ireturn, 1) := by decide +kernel
set_option maxRecDepth 100000 in
theorem xk_180_0 : xk_OkA xp_F (xp_P sc) xp_cl xp_BW xp_NW xp_SW xp_exn 180 0 (.iconst 0) := Or.inl ⟨xd_180_20, rfl⟩
set_option maxRecDepth 100000 in
theorem xk_180_1 : xk_OkA xp_F (xp_P sc) xp_cl xp_BW xp_NW xp_SW xp_exn 180 1 (.istore 4) := Or.inl ⟨xd_180_21, rfl⟩
set_option maxRecDepth 100000 in
theorem xk_180_2 : xk_OkA xp_F (xp_P sc) xp_cl xp_BW xp_NW xp_SW xp_exn 180 2 (.iload 4) := Or.inl ⟨xd_180_23, rfl⟩
set_option maxRecDepth 100000 in
theorem xk_180_3 : xk_OkA xp_F (xp_P sc) xp_cl xp_BW xp_NW xp_SW xp_exn 180 3 (.aload 0) := Or.inr ⟨0, rfl, xd_180_25, rfl⟩
set_option maxRecDepth 100000 in
theorem xk_180_4 : xk_OkA xp_F (xp_P sc) xp_cl xp_BW xp_NW xp_SW xp_exn 180 4 (.arraylength) := ⟨xd_180_26, rfl⟩
set_option maxRecDepth 100000 in
theorem xk_180_5 : xk_OkA xp_F (xp_P sc) xp_cl xp_BW xp_NW xp_SW xp_exn 180 5 (.iconst 4) := Or.inl ⟨xd_180_27, rfl⟩
set_option maxRecDepth 100000 in
theorem xk_180_6 : xk_OkA xp_F (xp_P sc) xp_cl xp_BW xp_NW xp_SW xp_exn 180 6 (.isub) := ⟨xd_180_28, rfl⟩
set_option maxRecDepth 100000 in
theorem xk_180_7 : xk_OkA xp_F (xp_P sc) xp_cl xp_BW xp_NW xp_SW xp_exn 180 7 (.if_icmp .gt 786) := ⟨_, xd_180_29, by unfold xf_to; decide +kernel, rfl⟩
set_option maxRecDepth 100000 in
theorem xk_180_8 : xk_OkA xp_F (xp_P sc) xp_cl xp_BW xp_NW xp_SW xp_exn 180 8 (.aload 0) := Or.inr ⟨0, rfl, xd_180_32, rfl⟩
set_option maxRecDepth 100000 in
theorem xk_180_9 : xk_OkA xp_F (xp_P sc) xp_cl xp_BW xp_NW xp_SW xp_exn 180 9 (.iload 4) := Or.inl ⟨xd_180_33, rfl⟩
set_option maxRecDepth 100000 in
theorem xk_180_10 : xk_OkA xp_F (xp_P sc) xp_cl xp_BW xp_NW xp_SW xp_exn 180 10 (.iaload) := ⟨xd_180_35, rfl⟩
set_option maxRecDepth 100000 in
theorem xk_180_11 : xk_OkA xp_F (xp_P sc) xp_cl xp_BW xp_NW xp_SW xp_exn 180 11 (.iconst 31) := Or.inr (Or.inl ⟨xd_180_36, by decide +kernel, rfl⟩)
set_option maxRecDepth 100000 in
theorem xk_180_12 : xk_OkA xp_F (xp_P sc) xp_cl xp_BW xp_NW xp_SW xp_exn 180 12 (.iand) := ⟨xd_180_38, rfl⟩
set_option maxRecDepth 100000 in
theorem xk_180_13 : xk_OkA xp_F (xp_P sc) xp_cl xp_BW xp_NW xp_SW xp_exn 180 13 (.tableswitch 784 0 21 #[14, 46, 68, 103, 158, 203, 248, 270, 305, 360, 405, 440, 465, 472, 517, 572, 607, 629, 641, 697, 722, 729]) := ⟨_, _, _, xd_180_39, by unfold xf_to; decide +kernel, xk_tsw (by decide +kernel)⟩
set_option maxRecDepth 100000 in
theorem xk_180_14 : xk_OkA xp_F (xp_P sc) xp_cl xp_BW xp_NW xp_SW xp_exn 180 14 (.aload 1) := Or.inr ⟨1, rfl, xd_180_140, rfl⟩
set_option maxRecDepth 100000 in
theorem xk_180_15 : xk_OkA xp_F (xp_P sc) xp_cl xp_BW xp_NW xp_SW xp_exn 180 15 (.aload 0) := Or.inr ⟨0, rfl, xd_180_141, rfl⟩
set_option maxRecDepth 100000 in
theorem xk_180_16 : xk_OkA xp_F (xp_P sc) xp_cl xp_BW xp_NW xp_SW xp_exn 180 16 (.iload 4) := Or.inl ⟨xd_180_142, rfl⟩
set_option maxRecDepth 100000 in
theorem xk_180_17 : xk_OkA xp_F (xp_P sc) xp_cl xp_BW xp_NW xp_SW xp_exn 180 17 (.iconst 1) := Or.inl ⟨xd_180_144, rfl⟩
set_option maxRecDepth 100000 in
theorem xk_180_18 : xk_OkA xp_F (xp_P sc) xp_cl xp_BW xp_NW xp_SW xp_exn 180 18 (.iadd) := ⟨xd_180_145, rfl⟩
set_option maxRecDepth 100000 in
theorem xk_180_19 : xk_OkA xp_F (xp_P sc) xp_cl xp_BW xp_NW xp_SW xp_exn 180 19 (.iaload) := ⟨xd_180_146, rfl⟩
set_option maxRecDepth 100000 in
theorem xk_180_20 : xk_OkA xp_F (xp_P sc) xp_cl xp_BW xp_NW xp_SW xp_exn 180 20 (.aload 0) := Or.inr ⟨0, rfl, xd_180_147, rfl⟩
set_option maxRecDepth 100000 in
theorem xk_180_21 : xk_OkA xp_F (xp_P sc) xp_cl xp_BW xp_NW xp_SW xp_exn 180 21 (.iload 4) := Or.inl ⟨xd_180_148, rfl⟩
set_option maxRecDepth 100000 in
theorem xk_180_22 : xk_OkA xp_F (xp_P sc) xp_cl xp_BW xp_NW xp_SW xp_exn 180 22 (.iconst 2) := Or.inl ⟨xd_180_150, rfl⟩
set_option maxRecDepth 100000 in
theorem xk_180_23 : xk_OkA xp_F (xp_P sc) xp_cl xp_BW xp_NW xp_SW xp_exn 180 23 (.iadd) := ⟨xd_180_151, rfl⟩
set_option maxRecDepth 100000 in
theorem xk_180_24 : xk_OkA xp_F (xp_P sc) xp_cl xp_BW xp_NW xp_SW xp_exn 180 24 (.iaload) := ⟨xd_180_152, rfl⟩
set_option maxRecDepth 100000 in
theorem xk_180_25 : xk_OkA xp_F (xp_P sc) xp_cl xp_BW xp_NW xp_SW xp_exn 180 25 (.invokeinterface 160 3) := ⟨rfl, Or.inr xwt_110, rfl, rfl, xwt_0, by decide +kernel, by decide +kernel, Nat.le_of_ble_eq_true rfl, _, Or.inl xwt_108, Or.inl ⟨xd_180_153, xwt_109, rfl, by decide +kernel⟩⟩
set_option maxRecDepth 100000 in
theorem xk_180_26 : xk_OkA xp_F (xp_P sc) xp_cl xp_BW xp_NW xp_SW xp_exn 180 26 (.istore 5) := Or.inl ⟨xd_180_156, rfl⟩
set_option maxRecDepth 100000 in
theorem xk_180_27 : xk_OkA xp_F (xp_P sc) xp_cl xp_BW xp_NW xp_SW xp_exn 180 27 (.aload 2) := Or.inr ⟨2, rfl, xd_180_158, rfl⟩
set_option maxRecDepth 100000 in
theorem xk_180_28 : xk_OkA xp_F (xp_P sc) xp_cl xp_BW xp_NW xp_SW xp_exn 180 28 (.aload 0) := Or.inr ⟨0, rfl, xd_180_159, rfl⟩
set_option maxRecDepth 100000 in
theorem xk_180_29 : xk_OkA xp_F (xp_P sc) xp_cl xp_BW xp_NW xp_SW xp_exn 180 29 (.iload 4) := Or.inl ⟨xd_180_160, rfl⟩
set_option maxRecDepth 100000 in
theorem xk_180_30 : xk_OkA xp_F (xp_P sc) xp_cl xp_BW xp_NW xp_SW xp_exn 180 30 (.iconst 1) := Or.inl ⟨xd_180_162, rfl⟩
set_option maxRecDepth 100000 in
theorem xk_180_31 : xk_OkA xp_F (xp_P sc) xp_cl xp_BW xp_NW xp_SW xp_exn 180 31 (.iadd) := ⟨xd_180_163, rfl⟩
set_option maxRecDepth 100000 in
theorem xk_180_32 : xk_OkA xp_F (xp_P sc) xp_cl xp_BW xp_NW xp_SW xp_exn 180 32 (.iaload) := ⟨xd_180_164, rfl⟩
set_option maxRecDepth 100000 in
theorem xk_180_33 : xk_OkA xp_F (xp_P sc) xp_cl xp_BW xp_NW xp_SW xp_exn 180 33 (.aload 0) := Or.inr ⟨0, rfl, xd_180_165, rfl⟩
set_option maxRecDepth 100000 in
theorem xk_180_34 : xk_OkA xp_F (xp_P sc) xp_cl xp_BW xp_NW xp_SW xp_exn 180 34 (.iload 4) := Or.inl ⟨xd_180_166, rfl⟩
set_option maxRecDepth 100000 in
theorem xk_180_35 : xk_OkA xp_F (xp_P sc) xp_cl xp_BW xp_NW xp_SW xp_exn 180 35 (.iconst 2) := Or.inl ⟨xd_180_168, rfl⟩
set_option maxRecDepth 100000 in
theorem xk_180_36 : xk_OkA xp_F (xp_P sc) xp_cl xp_BW xp_NW xp_SW xp_exn 180 36 (.iadd) := ⟨xd_180_169, rfl⟩
set_option maxRecDepth 100000 in
theorem xk_180_37 : xk_OkA xp_F (xp_P sc) xp_cl xp_BW xp_NW xp_SW xp_exn 180 37 (.iaload) := ⟨xd_180_170, rfl⟩
set_option maxRecDepth 100000 in
theorem xk_180_38 : xk_OkA xp_F (xp_P sc) xp_cl xp_BW xp_NW xp_SW xp_exn 180 38 (.invokeinterface 133 3) := ⟨rfl, Or.inl ⟨xwt_801, rfl⟩, rfl, rfl, xwt_5, by decide +kernel, by decide +kernel, Nat.le_of_ble_eq_true rfl, _, Or.inl xwt_798, Or.inr ⟨xd_180_171, xwt_799, xwt_800, ⟨_, _, _, rfl, rfl⟩, by decide +kernel⟩⟩
set_option maxRecDepth 100000 in
theorem xk_180_39 : xk_OkA xp_F (xp_P sc) xp_cl xp_BW xp_NW xp_SW xp_exn 180 39 (.aload 2) := Or.inr ⟨2, rfl, xd_180_174, rfl⟩
set_option maxRecDepth 100000 in
theorem xk_180_40 : xk_OkA xp_F (xp_P sc) xp_cl xp_BW xp_NW xp_SW xp_exn 180 40 (.invokeinterface 107 1) := ⟨rfl, Or.inl ⟨xwt_797, rfl⟩, rfl, rfl, xwt_5, by decide +kernel, by decide +kernel, Nat.le_of_ble_eq_true rfl, _, Or.inl xwt_794, Or.inr ⟨xd_180_175, xwt_795, xwt_796, ⟨_, _, _, rfl, rfl⟩, by decide +kernel⟩⟩
set_option maxRecDepth 100000 in
theorem xk_180_41 : xk_OkA xp_F (xp_P sc) xp_cl xp_BW xp_NW xp_SW xp_exn 180 41 (.iload 5) := Or.inl ⟨xd_180_178, rfl⟩
set_option maxRecDepth 100000 in
theorem xk_180_42 : xk_OkA xp_F (xp_P sc) xp_cl xp_BW xp_NW xp_SW xp_exn 180 42 (.if_icmp .eq 45) := ⟨_, xd_180_180, by unfold xf_to; decide +kernel, rfl⟩
set_option maxRecDepth 100000 in
theorem xk_180_43 : xk_OkA xp_F (xp_P sc) xp_cl xp_BW xp_NW xp_SW xp_exn 180 43 (.iconst 0) := Or.inl ⟨xd_180_183, rfl⟩
set_option maxRecDepth 100000 in
theorem xk_180_44 : xk_OkA xp_F (xp_P sc) xp_cl xp_BW xp_NW xp_SW xp_exn 180 44 (.freturn) := ⟨xd_180_184, rfl⟩
set_option maxRecDepth 100000 in
theorem xk_180_45 : xk_OkA xp_F (xp_P sc) xp_cl xp_BW xp_NW xp_SW xp_exn 180 45 (.goto 784) := ⟨_, xd_180_185, by unfold xf_to; decide +kernel⟩
set_option maxRecDepth 100000 in
theorem xk_180_46 : xk_OkA xp_F (xp_P sc) xp_cl xp_BW xp_NW xp_SW xp_exn 180 46 (.aload 1) := Or.inr ⟨1, rfl, xd_180_188, rfl⟩
set_option maxRecDepth 100000 in
theorem xk_180_47 : xk_OkA xp_F (xp_P sc) xp_cl xp_BW xp_NW xp_SW xp_exn 180 47 (.aload 0) := Or.inr ⟨0, rfl, xd_180_189, rfl⟩
set_option maxRecDepth 100000 in
theorem xk_180_48 : xk_OkA xp_F (xp_P sc) xp_cl xp_BW xp_NW xp_SW xp_exn 180 48 (.iload 4) := Or.inl ⟨xd_180_190, rfl⟩
set_option maxRecDepth 100000 in
theorem xk_180_49 : xk_OkA xp_F (xp_P sc) xp_cl xp_BW xp_NW xp_SW xp_exn 180 49 (.iconst 1) := Or.inl ⟨xd_180_192, rfl⟩
set_option maxRecDepth 100000 in
theorem xk_180_50 : xk_OkA xp_F (xp_P sc) xp_cl xp_BW xp_NW xp_SW xp_exn 180 50 (.iadd) := ⟨xd_180_193, rfl⟩
set_option maxRecDepth 100000 in
theorem xk_180_51 : xk_OkA xp_F (xp_P sc) xp_cl xp_BW xp_NW xp_SW xp_exn 180 51 (.iaload) := ⟨xd_180_194, rfl⟩
set_option maxRecDepth 100000 in
theorem xk_180_52 : xk_OkA xp_F (xp_P sc) xp_cl xp_BW xp_NW xp_SW xp_exn 180 52 (.invokeinterface 161 2) := ⟨rfl, Or.inr xwt_329, rfl, rfl, xwt_0, by decide +kernel, by decide +kernel, Nat.le_of_ble_eq_true rfl, _, Or.inl xwt_327, Or.inl ⟨xd_180_195, xwt_328, rfl, by decide +kernel⟩⟩
set_option maxRecDepth 100000 in
theorem xk_180_53 : xk_OkA xp_F (xp_P sc) xp_cl xp_BW xp_NW xp_SW xp_exn 180 53 (.istore 5) := Or.inl ⟨xd_180_198, rfl⟩
set_option maxRecDepth 100000 in
theorem xk_180_54 : xk_OkA xp_F (xp_P sc) xp_cl xp_BW xp_NW xp_SW xp_exn 180 54 (.aload 2) := Or.inr ⟨2, rfl, xd_180_200, rfl⟩
set_option maxRecDepth 100000 in
theorem xk_180_55 : xk_OkA xp_F (xp_P sc) xp_cl xp_BW xp_NW xp_SW xp_exn 180 55 (.aload 0) := Or.inr ⟨0, rfl, xd_180_201, rfl⟩
set_option maxRecDepth 100000 in
theorem xk_180_56 : xk_OkA xp_F (xp_P sc) xp_cl xp_BW xp_NW xp_SW xp_exn 180 56 (.iload 4) := Or.inl ⟨xd_180_202, rfl⟩
set_option maxRecDepth 100000 in
theorem xk_180_57 : xk_OkA xp_F (xp_P sc) xp_cl xp_BW xp_NW xp_SW xp_exn 180 57 (.iconst 1) := Or.inl ⟨xd_180_204, rfl⟩
set_option maxRecDepth 100000 in
theorem xk_180_58 : xk_OkA xp_F (xp_P sc) xp_cl xp_BW xp_NW xp_SW xp_exn 180 58 (.iadd) := ⟨xd_180_205, rfl⟩
set_option maxRecDepth 100000 in
theorem xk_180_59 : xk_OkA xp_F (xp_P sc) xp_cl xp_BW xp_NW xp_SW xp_exn 180 59 (.iaload) := ⟨xd_180_206, rfl⟩
set_option maxRecDepth 100000 in
theorem xk_180_60 : xk_OkA xp_F (xp_P sc) xp_cl xp_BW xp_NW xp_SW xp_exn 180 60 (.invokeinterface 134 2) := ⟨rfl, Or.inl ⟨xwt_840, rfl⟩, rfl, rfl, xwt_5, by decide +kernel, by decide +kernel, Nat.le_of_ble_eq_true rfl, _, Or.inl xwt_837, Or.inr ⟨xd_180_207, xwt_838, xwt_839, ⟨_, _, _, rfl, rfl⟩, by decide +kernel⟩⟩
set_option maxRecDepth 100000 in
theorem xk_180_61 : xk_OkA xp_F (xp_P sc) xp_cl xp_BW xp_NW xp_SW xp_exn 180 61 (.aload 2) := Or.inr ⟨2, rfl, xd_180_210, rfl⟩
set_option maxRecDepth 100000 in
theorem xk_180_62 : xk_OkA xp_F (xp_P sc) xp_cl xp_BW xp_NW xp_SW xp_exn 180 62 (.invokeinterface 107 1) := ⟨rfl, Or.inl ⟨xwt_797, rfl⟩, rfl, rfl, xwt_5, by decide +kernel, by decide +kernel, Nat.le_of_ble_eq_true rfl, _, Or.inl xwt_794, Or.inr ⟨xd_180_211, xwt_795, xwt_796, ⟨_, _, _, rfl, rfl⟩, by decide +kernel⟩⟩
set_option maxRecDepth 100000 in
theorem xk_180_63 : xk_OkA xp_F (xp_P sc) xp_cl xp_BW xp_NW xp_SW xp_exn 180 63 (.iload 5) := Or.inl ⟨xd_180_214, rfl⟩
set_option maxRecDepth 100000 in
theorem xk_180_64 : xk_OkA xp_F (xp_P sc) xp_cl xp_BW xp_NW xp_SW xp_exn 180 64 (.if_icmp .eq 67) := ⟨_, xd_180_216, by unfold xf_to; decide +kernel, rfl⟩
set_option maxRecDepth 100000 in
theorem xk_180_65 : xk_OkA xp_F (xp_P sc) xp_cl xp_BW xp_NW xp_SW xp_exn 180 65 (.iconst 0) := Or.inl ⟨xd_180_219, rfl⟩
set_option maxRecDepth 100000 in
theorem xk_180_66 : xk_OkA xp_F (xp_P sc) xp_cl xp_BW xp_NW xp_SW xp_exn 180 66 (.freturn) := ⟨xd_180_220, rfl⟩
set_option maxRecDepth 100000 in
theorem xk_180_67 : xk_OkA xp_F (xp_P sc) xp_cl xp_BW xp_NW xp_SW xp_exn 180 67 (.goto 784) := ⟨_, xd_180_221, by unfold xf_to; decide +kernel⟩
set_option maxRecDepth 100000 in
theorem xk_180_68 : xk_OkA xp_F (xp_P sc) xp_cl xp_BW xp_NW xp_SW xp_exn 180 68 (.aload 1) := Or.inr ⟨1, rfl, xd_180_224, rfl⟩
set_option maxRecDepth 100000 in
theorem xk_180_69 : xk_OkA xp_F (xp_P sc) xp_cl xp_BW xp_NW xp_SW xp_exn 180 69 (.aload 0) := Or.inr ⟨0, rfl, xd_180_225, rfl⟩
set_option maxRecDepth 100000 in
theorem xk_180_70 : xk_OkA xp_F (xp_P sc) xp_cl xp_BW xp_NW xp_SW xp_exn 180 70 (.iload 4) := Or.inl ⟨xd_180_226, rfl⟩
set_option maxRecDepth 100000 in
theorem xk_180_71 : xk_OkA xp_F (xp_P sc) xp_cl xp_BW xp_NW xp_SW xp_exn 180 71 (.iconst 1) := Or.inl ⟨xd_180_228, rfl⟩
set_option maxRecDepth 100000 in
theorem xk_180_72 : xk_OkA xp_F (xp_P sc) xp_cl xp_BW xp_NW xp_SW xp_exn 180 72 (.iadd) := ⟨xd_180_229, rfl⟩
set_option maxRecDepth 100000 in
theorem xk_180_73 : xk_OkA xp_F (xp_P sc) xp_cl xp_BW xp_NW xp_SW xp_exn 180 73 (.iaload) := ⟨xd_180_230, rfl⟩
set_option maxRecDepth 100000 in
theorem xk_180_74 : xk_OkA xp_F (xp_P sc) xp_cl xp_BW xp_NW xp_SW xp_exn 180 74 (.aload 3) := Or.inr ⟨3, rfl, xd_180_231, rfl⟩
set_option maxRecDepth 100000 in
theorem xk_180_75 : xk_OkA xp_F (xp_P sc) xp_cl xp_BW xp_NW xp_SW xp_exn 180 75 (.invokeinterface 162 3) := ⟨rfl, Or.inr xwt_357, rfl, rfl, xwt_0, by decide +kernel, by decide +kernel, Nat.le_of_ble_eq_true rfl, _, Or.inl xwt_355, Or.inl ⟨xd_180_232, xwt_356, rfl, by decide +kernel⟩⟩
set_option maxRecDepth 100000 in
theorem xk_180_76 : xk_OkA xp_F (xp_P sc) xp_cl xp_BW xp_NW xp_SW xp_exn 180 76 (.istore 5) := Or.inl ⟨xd_180_235, rfl⟩
set_option maxRecDepth 100000 in
theorem xk_180_77 : xk_OkA xp_F (xp_P sc) xp_cl xp_BW xp_NW xp_SW xp_exn 180 77 (.aload 2) := Or.inr ⟨2, rfl, xd_180_237, rfl⟩
set_option maxRecDepth 100000 in
theorem xk_180_78 : xk_OkA xp_F (xp_P sc) xp_cl xp_BW xp_NW xp_SW xp_exn 180 78 (.aload 0) := Or.inr ⟨0, rfl, xd_180_238, rfl⟩
set_option maxRecDepth 100000 in
theorem xk_180_79 : xk_OkA xp_F (xp_P sc) xp_cl xp_BW xp_NW xp_SW xp_exn 180 79 (.iload 4) := Or.inl ⟨xd_180_239, rfl⟩
set_option maxRecDepth 100000 in
theorem xk_180_80 : xk_OkA xp_F (xp_P sc) xp_cl xp_BW xp_NW xp_SW xp_exn 180 80 (.iconst 1) := Or.inl ⟨xd_180_241, rfl⟩
set_option maxRecDepth 100000 in
theorem xk_180_81 : xk_OkA xp_F (xp_P sc) xp_cl xp_BW xp_NW xp_SW xp_exn 180 81 (.iadd) := ⟨xd_180_242, rfl⟩
set_option maxRecDepth 100000 in
theorem xk_180_82 : xk_OkA xp_F (xp_P sc) xp_cl xp_BW xp_NW xp_SW xp_exn 180 82 (.iaload) := ⟨xd_180_243, rfl⟩
set_option maxRecDepth 100000 in
theorem xk_180_83 : xk_OkA xp_F (xp_P sc) xp_cl xp_BW xp_NW xp_SW xp_exn 180 83 (.invokeinterface 135 2) := ⟨rfl, Or.inl ⟨xwt_852, rfl⟩, rfl, rfl, xwt_5, by decide +kernel, by decide +kernel, Nat.le_of_ble_eq_true rfl, _, Or.inl xwt_849, Or.inr ⟨xd_180_244, xwt_850, xwt_851, ⟨_, _, _, rfl, rfl⟩, by decide +kernel⟩⟩
set_option maxRecDepth 100000 in
theorem xk_180_84 : xk_OkA xp_F (xp_P sc) xp_cl xp_BW xp_NW xp_SW xp_exn 180 84 (.istore 6) := Or.inl ⟨xd_180_247, rfl⟩
set_option maxRecDepth 100000 in
theorem xk_180_85 : xk_OkA xp_F (xp_P sc) xp_cl xp_BW xp_NW xp_SW xp_exn 180 85 (.aload 2) := Or.inr ⟨2, rfl, xd_180_249, rfl⟩
set_option maxRecDepth 100000 in
theorem xk_180_86 : xk_OkA xp_F (xp_P sc) xp_cl xp_BW xp_NW xp_SW xp_exn 180 86 (.invokeinterface 107 1) := ⟨rfl, Or.inl ⟨xwt_797, rfl⟩, rfl, rfl, xwt_5, by decide +kernel, by decide +kernel, Nat.le_of_ble_eq_true rfl, _, Or.inl xwt_794, Or.inr ⟨xd_180_250, xwt_795, xwt_796, ⟨_, _, _, rfl, rfl⟩, by decide +kernel⟩⟩
set_option maxRecDepth 100000 in
theorem xk_180_87 : xk_OkA xp_F (xp_P sc) xp_cl xp_BW xp_NW xp_SW xp_exn 180 87 (.iload 5) := Or.inl ⟨xd_180_253, rfl⟩
set_option maxRecDepth 100000 in
theorem xk_180_88 : xk_OkA xp_F (xp_P sc) xp_cl xp_BW xp_NW xp_SW xp_exn 180 88 (.if_icmp .eq 91) := ⟨_, xd_180_255, by unfold xf_to; decide +kernel, rfl⟩
set_option maxRecDepth 100000 in
theorem xk_180_89 : xk_OkA xp_F (xp_P sc) xp_cl xp_BW xp_NW xp_SW xp_exn 180 89 (.iconst 0) := Or.inl ⟨xd_180_258, rfl⟩
set_option maxRecDepth 100000 in
theorem xk_180_90 : xk_OkA xp_F (xp_P sc) xp_cl xp_BW xp_NW xp_SW xp_exn 180 90 (.freturn) := ⟨xd_180_259, rfl⟩
set_option maxRecDepth 100000 in
theorem xk_180_91 : xk_OkA xp_F (xp_P sc) xp_cl xp_BW xp_NW xp_SW xp_exn 180 91 (.iload 5) := Or.inl ⟨xd_180_260, rfl⟩
set_option maxRecDepth 100000 in
theorem xk_180_92 : xk_OkA xp_F (xp_P sc) xp_cl xp_BW xp_NW xp_SW xp_exn 180 92 (.ifCond .ne 102) := ⟨_, xd_180_262, by unfold xf_to; decide +kernel, rfl⟩
set_option maxRecDepth 100000 in
theorem xk_180_93 : xk_OkA xp_F (xp_P sc) xp_cl xp_BW xp_NW xp_SW xp_exn 180 93 (.aload 3) := Or.inr ⟨3, rfl, xd_180_265, rfl⟩
set_option maxRecDepth 100000 in
theorem xk_180_94 : xk_OkA xp_F (xp_P sc) xp_cl xp_BW xp_NW xp_SW xp_exn 180 94 (.iconst 0) := Or.inl ⟨xd_180_266, rfl⟩
set_option maxRecDepth 100000 in
theorem xk_180_95 : xk_OkA xp_F (xp_P sc) xp_cl xp_BW xp_NW xp_SW xp_exn 180 95 (.laload) := ⟨xd_180_267, rfl⟩
set_option maxRecDepth 100000 in
theorem xk_180_96 : xk_OkA xp_F (xp_P sc) xp_cl xp_BW xp_NW xp_SW xp_exn 180 96 (.iload 6) := Or.inl ⟨xd_180_268, rfl⟩
set_option maxRecDepth 100000 in
theorem xk_180_97 : xk_OkA xp_F (xp_P sc) xp_cl xp_BW xp_NW xp_SW xp_exn 180 97 (.i2l) := ⟨xd_180_270, rfl⟩
set_option maxRecDepth 100000 in
theorem xk_180_98 : xk_OkA xp_F (xp_P sc) xp_cl xp_BW xp_NW xp_SW xp_exn 180 98 (.lcmp) := ⟨xd_180_271, rfl⟩
set_option maxRecDepth 100000 in
theorem xk_180_99 : xk_OkA xp_F (xp_P sc) xp_cl xp_BW xp_NW xp_SW xp_exn 180 99 (.ifCond .eq 102) := ⟨_, xd_180_272, by unfold xf_to; decide +kernel, rfl⟩
set_option maxRecDepth 100000 in
theorem xk_180_100 : xk_OkA xp_F (xp_P sc) xp_cl xp_BW xp_NW xp_SW xp_exn 180 100 (.iconst 0) := Or.inl ⟨xd_180_275, rfl⟩
set_option maxRecDepth 100000 in
theorem xk_180_101 : xk_OkA xp_F (xp_P sc) xp_cl xp_BW xp_NW xp_SW xp_exn 180 101 (.freturn) := ⟨xd_180_276, rfl⟩
set_option maxRecDepth 100000 in
theorem xk_180_102 : xk_OkA xp_F (xp_P sc) xp_cl xp_BW xp_NW xp_SW xp_exn 180 102 (.goto 784) := ⟨_, xd_180_277, by unfold xf_to; decide +kernel⟩
set_option maxRecDepth 100000 in
theorem xk_180_103 : xk_OkA xp_F (xp_P sc) xp_cl xp_BW xp_NW xp_SW xp_exn 180 103 (.aload 1) := Or.inr ⟨1, rfl, xd_180_280, rfl⟩
set_option maxRecDepth 100000 in
theorem xk_180_104 : xk_OkA xp_F (xp_P sc) xp_cl xp_BW xp_NW xp_SW xp_exn 180 104 (.aload 0) := Or.inr ⟨0, rfl, xd_180_281, rfl⟩
set_option maxRecDepth 100000 in
theorem xk_180_105 : xk_OkA xp_F (xp_P sc) xp_cl xp_BW xp_NW xp_SW xp_exn 180 105 (.iload 4) := Or.inl ⟨xd_180_282, rfl⟩
set_option maxRecDepth 100000 in
theorem xk_180_106 : xk_OkA xp_F (xp_P sc) xp_cl xp_BW xp_NW xp_SW xp_exn 180 106 (.iconst 1) := Or.inl ⟨xd_180_284, rfl⟩
set_option maxRecDepth 100000 in
theorem xk_180_107 : xk_OkA xp_F (xp_P sc) xp_cl xp_BW xp_NW xp_SW xp_exn 180 107 (.iadd) := ⟨xd_180_285, rfl⟩
set_option maxRecDepth 100000 in
theorem xk_180_108 : xk_OkA xp_F (xp_P sc) xp_cl xp_BW xp_NW xp_SW xp_exn 180 108 (.iaload) := ⟨xd_180_286, rfl⟩
set_option maxRecDepth 100000 in
theorem xk_180_109 : xk_OkA xp_F (xp_P sc) xp_cl xp_BW xp_NW xp_SW xp_exn 180 109 (.aload 0) := Or.inr ⟨0, rfl, xd_180_287, rfl⟩
set_option maxRecDepth 100000 in
theorem xk_180_110 : xk_OkA xp_F (xp_P sc) xp_cl xp_BW xp_NW xp_SW xp_exn 180 110 (.iload 4) := Or.inl ⟨xd_180_288, rfl⟩
set_option maxRecDepth 100000 in
theorem xk_180_111 : xk_OkA xp_F (xp_P sc) xp_cl xp_BW xp_NW xp_SW xp_exn 180 111 (.iconst 2) := Or.inl ⟨xd_180_290, rfl⟩
set_option maxRecDepth 100000 in
theorem xk_180_112 : xk_OkA xp_F (xp_P sc) xp_cl xp_BW xp_NW xp_SW xp_exn 180 112 (.iadd) := ⟨xd_180_291, rfl⟩
set_option maxRecDepth 100000 in
theorem xk_180_113 : xk_OkA xp_F (xp_P sc) xp_cl xp_BW xp_NW xp_SW xp_exn 180 113 (.iaload) := ⟨xd_180_292, rfl⟩
set_option maxRecDepth 100000 in
theorem xk_180_114 : xk_OkA xp_F (xp_P sc) xp_cl xp_BW xp_NW xp_SW xp_exn 180 114 (.aload 0) := Or.inr ⟨0, rfl, xd_180_293, rfl⟩
set_option maxRecDepth 100000 in
theorem xk_180_115 : xk_OkA xp_F (xp_P sc) xp_cl xp_BW xp_NW xp_SW xp_exn 180 115 (.iload 4) := Or.inl ⟨xd_180_294, rfl⟩
set_option maxRecDepth 100000 in
theorem xk_180_116 : xk_OkA xp_F (xp_P sc) xp_cl xp_BW xp_NW xp_SW xp_exn 180 116 (.iconst 3) := Or.inl ⟨xd_180_296, rfl⟩
set_option maxRecDepth 100000 in
theorem xk_180_117 : xk_OkA xp_F (xp_P sc) xp_cl xp_BW xp_NW xp_SW xp_exn 180 117 (.iadd) := ⟨xd_180_297, rfl⟩
set_option maxRecDepth 100000 in
theorem xk_180_118 : xk_OkA xp_F (xp_P sc) xp_cl xp_BW xp_NW xp_SW xp_exn 180 118 (.iaload) := ⟨xd_180_298, rfl⟩
set_option maxRecDepth 100000 in
theorem xk_180_119 : xk_OkA xp_F (xp_P sc) xp_cl xp_BW xp_NW xp_SW xp_exn 180 119 (.aload 3) := Or.inr ⟨3, rfl, xd_180_299, rfl⟩
set_option maxRecDepth 100000 in
theorem xk_180_120 : xk_OkA xp_F (xp_P sc) xp_cl xp_BW xp_NW xp_SW xp_exn 180 120 (.invokeinterface 163 5) := ⟨rfl, Or.inr xwt_377, rfl, rfl, xwt_0, by decide +kernel, by decide +kernel, Nat.le_of_ble_eq_true rfl, _, Or.inl xwt_375, Or.inl ⟨xd_180_300, xwt_376, rfl, by decide +kernel⟩⟩
set_option maxRecDepth 100000 in
theorem xk_180_121 : xk_OkA xp_F (xp_P sc) xp_cl xp_BW xp_NW xp_SW xp_exn 180 121 (.istore 5) := Or.inl ⟨xd_180_303, rfl⟩
set_option maxRecDepth 100000 in
theorem xk_180_122 : xk_OkA xp_F (xp_P sc) xp_cl xp_BW xp_NW xp_SW xp_exn 180 122 (.aload 2) := Or.inr ⟨2, rfl, xd_180_305, rfl⟩
set_option maxRecDepth 100000 in
theorem xk_180_123 : xk_OkA xp_F (xp_P sc) xp_cl xp_BW xp_NW xp_SW xp_exn 180 123 (.aload 0) := Or.inr ⟨0, rfl, xd_180_306, rfl⟩
set_option maxRecDepth 100000 in
theorem xk_180_124 : xk_OkA xp_F (xp_P sc) xp_cl xp_BW xp_NW xp_SW xp_exn 180 124 (.iload 4) := Or.inl ⟨xd_180_307, rfl⟩
set_option maxRecDepth 100000 in
theorem xk_180_125 : xk_OkA xp_F (xp_P sc) xp_cl xp_BW xp_NW xp_SW xp_exn 180 125 (.iconst 1) := Or.inl ⟨xd_180_309, rfl⟩
set_option maxRecDepth 100000 in
theorem xk_180_126 : xk_OkA xp_F (xp_P sc) xp_cl xp_BW xp_NW xp_SW xp_exn 180 126 (.iadd) := ⟨xd_180_310, rfl⟩
set_option maxRecDepth 100000 in
theorem xk_180_127 : xk_OkA xp_F (xp_P sc) xp_cl xp_BW xp_NW xp_SW xp_exn 180 127 (.iaload) := ⟨xd_180_311, rfl⟩
set_option maxRecDepth 100000 in
theorem xk_180_128 : xk_OkA xp_F (xp_P sc) xp_cl xp_BW xp_NW xp_SW xp_exn 180 128 (.aload 0) := Or.inr ⟨0, rfl, xd_180_312, rfl⟩
set_option maxRecDepth 100000 in
theorem xk_180_129 : xk_OkA xp_F (xp_P sc) xp_cl xp_BW xp_NW xp_SW xp_exn 180 129 (.iload 4) := Or.inl ⟨xd_180_313, rfl⟩
set_option maxRecDepth 100000 in
theorem xk_180_130 : xk_OkA xp_F (xp_P sc) xp_cl xp_BW xp_NW xp_SW xp_exn 180 130 (.iconst 2) := Or.inl ⟨xd_180_315, rfl⟩
set_option maxRecDepth 100000 in
theorem xk_180_131 : xk_OkA xp_F (xp_P sc) xp_cl xp_BW xp_NW xp_SW xp_exn 180 131 (.iadd) := ⟨xd_180_316, rfl⟩
set_option maxRecDepth 100000 in
theorem xk_180_132 : xk_OkA xp_F (xp_P sc) xp_cl xp_BW xp_NW xp_SW xp_exn 180 132 (.iaload) := ⟨xd_180_317, rfl⟩
set_option maxRecDepth 100000 in
theorem xk_180_133 : xk_OkA xp_F (xp_P sc) xp_cl xp_BW xp_NW xp_SW xp_exn 180 133 (.aload 0) := Or.inr ⟨0, rfl, xd_180_318, rfl⟩
set_option maxRecDepth 100000 in
theorem xk_180_134 : xk_OkA xp_F (xp_P sc) xp_cl xp_BW xp_NW xp_SW xp_exn 180 134 (.iload 4) := Or.inl ⟨xd_180_319, rfl⟩
set_option maxRecDepth 100000 in
theorem xk_180_135 : xk_OkA xp_F (xp_P sc) xp_cl xp_BW xp_NW xp_SW xp_exn 180 135 (.iconst 3) := Or.inl ⟨xd_180_321, rfl⟩
set_option maxRecDepth 100000 in
theorem xk_180_136 : xk_OkA xp_F (xp_P sc) xp_cl xp_BW xp_NW xp_SW xp_exn 180 136 (.iadd) := ⟨xd_180_322, rfl⟩
set_option maxRecDepth 100000 in
theorem xk_180_137 : xk_OkA xp_F (xp_P sc) xp_cl xp_BW xp_NW xp_SW xp_exn 180 137 (.iaload) := ⟨xd_180_323, rfl⟩
set_option maxRecDepth 100000 in
theorem xk_180_138 : xk_OkA xp_F (xp_P sc) xp_cl xp_BW xp_NW xp_SW xp_exn 180 138 (.invokeinterface 137 4) := ⟨rfl, Or.inl ⟨xwt_856, rfl⟩, rfl, rfl, xwt_5, by decide +kernel, by decide +kernel, Nat.le_of_ble_eq_true rfl, _, Or.inl xwt_853, Or.inr ⟨xd_180_324, xwt_854, xwt_855, ⟨_, _, _, rfl, rfl⟩, by decide +kernel⟩⟩
set_option maxRecDepth 100000 in
theorem xk_180_139 : xk_OkA xp_F (xp_P sc) xp_cl xp_BW xp_NW xp_SW xp_exn 180 139 (.istore 6) := Or.inl ⟨xd_180_327, rfl⟩
set_option maxRecDepth 100000 in
theorem xk_180_140 : xk_OkA xp_F (xp_P sc) xp_cl xp_BW xp_NW xp_SW xp_exn 180 140 (.aload 2) := Or.inr ⟨2, rfl, xd_180_329, rfl⟩
set_option maxRecDepth 100000 in
theorem xk_180_141 : xk_OkA xp_F (xp_P sc) xp_cl xp_BW xp_NW xp_SW xp_exn 180 141 (.invokeinterface 107 1) := ⟨rfl, Or.inl ⟨xwt_797, rfl⟩, rfl, rfl, xwt_5, by decide +kernel, by decide +kernel, Nat.le_of_ble_eq_true rfl, _, Or.inl xwt_794, Or.inr ⟨xd_180_330, xwt_795, xwt_796, ⟨_, _, _, rfl, rfl⟩, by decide +kernel⟩⟩
set_option maxRecDepth 100000 in
theorem xk_180_142 : xk_OkA xp_F (xp_P sc) xp_cl xp_BW xp_NW xp_SW xp_exn 180 142 (.iload 5) := Or.inl ⟨xd_180_333, rfl⟩
set_option maxRecDepth 100000 in
theorem xk_180_143 : xk_OkA xp_F (xp_P sc) xp_cl xp_BW xp_NW xp_SW xp_exn 180 143 (.if_icmp .eq 146) := ⟨_, xd_180_335, by unfold xf_to; decide +kernel, rfl⟩
set_option maxRecDepth 100000 in
theorem xk_180_144 : xk_OkA xp_F (xp_P sc) xp_cl xp_BW xp_NW xp_SW xp_exn 180 144 (.iconst 0) := Or.inl ⟨xd_180_338, rfl⟩
set_option maxRecDepth 100000 in
theorem xk_180_145 : xk_OkA xp_F (xp_P sc) xp_cl xp_BW xp_NW xp_SW xp_exn 180 145 (.freturn) := ⟨xd_180_339, rfl⟩
set_option maxRecDepth 100000 in
theorem xk_180_146 : xk_OkA xp_F (xp_P sc) xp_cl xp_BW xp_NW xp_SW xp_exn 180 146 (.iload 5) := Or.inl ⟨xd_180_340, rfl⟩
set_option maxRecDepth 100000 in
theorem xk_180_147 : xk_OkA xp_F (xp_P sc) xp_cl xp_BW xp_NW xp_SW xp_exn 180 147 (.ifCond .ne 157) := ⟨_, xd_180_342, by unfold xf_to; decide +kernel, rfl⟩
set_option maxRecDepth 100000 in
theorem xk_180_148 : xk_OkA xp_F (xp_P sc) xp_cl xp_BW xp_NW xp_SW xp_exn 180 148 (.aload 3) := Or.inr ⟨3, rfl, xd_180_345, rfl⟩
set_option maxRecDepth 100000 in
theorem xk_180_149 : xk_OkA xp_F (xp_P sc) xp_cl xp_BW xp_NW xp_SW xp_exn 180 149 (.iconst 0) := Or.inl ⟨xd_180_346, rfl⟩
set_option maxRecDepth 100000 in
theorem xk_180_150 : xk_OkA xp_F (xp_P sc) xp_cl xp_BW xp_NW xp_SW xp_exn 180 150 (.laload) := ⟨xd_180_347, rfl⟩
set_option maxRecDepth 100000 in
theorem xk_180_151 : xk_OkA xp_F (xp_P sc) xp_cl xp_BW xp_NW xp_SW xp_exn 180 151 (.iload 6) := Or.inl ⟨xd_180_348, rfl⟩
set_option maxRecDepth 100000 in
theorem xk_180_152 : xk_OkA xp_F (xp_P sc) xp_cl xp_BW xp_NW xp_SW xp_exn 180 152 (.i2l) := ⟨xd_180_350, rfl⟩
set_option maxRecDepth 100000 in
theorem xk_180_153 : xk_OkA xp_F (xp_P sc) xp_cl xp_BW xp_NW xp_SW xp_exn 180 153 (.lcmp) := ⟨xd_180_351, rfl⟩
set_option maxRecDepth 100000 in
theorem xk_180_154 : xk_OkA xp_F (xp_P sc) xp_cl xp_BW xp_NW xp_SW xp_exn 180 154 (.ifCond .eq 157) := ⟨_, xd_180_352, by unfold xf_to; decide +kernel, rfl⟩
set_option maxRecDepth 100000 in
theorem xk_180_155 : xk_OkA xp_F (xp_P sc) xp_cl xp_BW xp_NW xp_SW xp_exn 180 155 (.iconst 0) := Or.inl ⟨xd_180_355, rfl⟩
set_option maxRecDepth 100000 in
theorem xk_180_156 : xk_OkA xp_F (xp_P sc) xp_cl xp_BW xp_NW xp_SW xp_exn 180 156 (.freturn) := ⟨xd_180_356, rfl⟩
set_option maxRecDepth 100000 in
theorem xk_180_157 : xk_OkA xp_F (xp_P sc) xp_cl xp_BW xp_NW xp_SW xp_exn 180 157 (.goto 784) := ⟨_, xd_180_357, by unfold xf_to; decide +kernel⟩
set_option maxRecDepth 100000 in
theorem xk_180_158 : xk_OkA xp_F (xp_P sc) xp_cl xp_BW xp_NW xp_SW xp_exn 180 158 (.aload 1) := Or.inr ⟨1, rfl, xd_180_360, rfl⟩
set_option maxRecDepth 100000 in
theorem xk_180_159 : xk_OkA xp_F (xp_P sc) xp_cl xp_BW xp_NW xp_SW xp_exn 180 159 (.aload 0) := Or.inr ⟨0, rfl, xd_180_361, rfl⟩
set_option maxRecDepth 100000 in
theorem xk_180_160 : xk_OkA xp_F (xp_P sc) xp_cl xp_BW xp_NW xp_SW xp_exn 180 160 (.iload 4) := Or.inl ⟨xd_180_362, rfl⟩
set_option maxRecDepth 100000 in
theorem xk_180_161 : xk_OkA xp_F (xp_P sc) xp_cl xp_BW xp_NW xp_SW xp_exn 180 161 (.iconst 1) := Or.inl ⟨xd_180_364, rfl⟩
set_option maxRecDepth 100000 in
theorem xk_180_162 : xk_OkA xp_F (xp_P sc) xp_cl xp_BW xp_NW xp_SW xp_exn 180 162 (.iadd) := ⟨xd_180_365, rfl⟩
set_option maxRecDepth 100000 in
theorem xk_180_163 : xk_OkA xp_F (xp_P sc) xp_cl xp_BW xp_NW xp_SW xp_exn 180 163 (.iaload) := ⟨xd_180_366, rfl⟩
set_option maxRecDepth 100000 in
theorem xk_180_164 : xk_OkA xp_F (xp_P sc) xp_cl xp_BW xp_NW xp_SW xp_exn 180 164 (.aload 0) := Or.inr ⟨0, rfl, xd_180_367, rfl⟩
set_option maxRecDepth 100000 in
theorem xk_180_165 : xk_OkA xp_F (xp_P sc) xp_cl xp_BW xp_NW xp_SW xp_exn 180 165 (.iload 4) := Or.inl ⟨xd_180_368, rfl⟩
set_option maxRecDepth 100000 in
theorem xk_180_166 : xk_OkA xp_F (xp_P sc) xp_cl xp_BW xp_NW xp_SW xp_exn 180 166 (.iconst 2) := Or.inl ⟨xd_180_370, rfl⟩
set_option maxRecDepth 100000 in
theorem xk_180_167 : xk_OkA xp_F (xp_P sc) xp_cl xp_BW xp_NW xp_SW xp_exn 180 167 (.iadd) := ⟨xd_180_371, rfl⟩
set_option maxRecDepth 100000 in
theorem xk_180_168 : xk_OkA xp_F (xp_P sc) xp_cl xp_BW xp_NW xp_SW xp_exn 180 168 (.iaload) := ⟨xd_180_372, rfl⟩
set_option maxRecDepth 100000 in
theorem xk_180_169 : xk_OkA xp_F (xp_P sc) xp_cl xp_BW xp_NW xp_SW xp_exn 180 169 (.aload 3) := Or.inr ⟨3, rfl, xd_180_373, rfl⟩
set_option maxRecDepth 100000 in
theorem xk_180_170 : xk_OkA xp_F (xp_P sc) xp_cl xp_BW xp_NW xp_SW xp_exn 180 170 (.invokeinterface 164 4) := ⟨rfl, Or.inr xwt_472, rfl, rfl, xwt_0, by decide +kernel, by decide +kernel, Nat.le_of_ble_eq_true rfl, _, Or.inl xwt_470, Or.inl ⟨xd_180_374, xwt_471, rfl, by decide +kernel⟩⟩
set_option maxRecDepth 100000 in
theorem xk_180_171 : xk_OkA xp_F (xp_P sc) xp_cl xp_BW xp_NW xp_SW xp_exn 180 171 (.istore 5) := Or.inl ⟨xd_180_377, rfl⟩
set_option maxRecDepth 100000 in
theorem xk_180_172 : xk_OkA xp_F (xp_P sc) xp_cl xp_BW xp_NW xp_SW xp_exn 180 172 (.aload 2) := Or.inr ⟨2, rfl, xd_180_379, rfl⟩
set_option maxRecDepth 100000 in
theorem xk_180_173 : xk_OkA xp_F (xp_P sc) xp_cl xp_BW xp_NW xp_SW xp_exn 180 173 (.aload 0) := Or.inr ⟨0, rfl, xd_180_380, rfl⟩
set_option maxRecDepth 100000 in
theorem xk_180_174 : xk_OkA xp_F (xp_P sc) xp_cl xp_BW xp_NW xp_SW xp_exn 180 174 (.iload 4) := Or.inl ⟨xd_180_381, rfl⟩
set_option maxRecDepth 100000 in
theorem xk_180_175 : xk_OkA xp_F (xp_P sc) xp_cl xp_BW xp_NW xp_SW xp_exn 180 175 (.iconst 1) := Or.inl ⟨xd_180_383, rfl⟩
set_option maxRecDepth 100000 in
theorem xk_180_176 : xk_OkA xp_F (xp_P sc) xp_cl xp_BW xp_NW xp_SW xp_exn 180 176 (.iadd) := ⟨xd_180_384, rfl⟩
set_option maxRecDepth 100000 in
theorem xk_180_177 : xk_OkA xp_F (xp_P sc) xp_cl xp_BW xp_NW xp_SW xp_exn 180 177 (.iaload) := ⟨xd_180_385, rfl⟩
set_option maxRecDepth 100000 in
theorem xk_180_178 : xk_OkA xp_F (xp_P sc) xp_cl xp_BW xp_NW xp_SW xp_exn 180 178 (.aload 0) := Or.inr ⟨0, rfl, xd_180_386, rfl⟩
set_option maxRecDepth 100000 in
theorem xk_180_179 : xk_OkA xp_F (xp_P sc) xp_cl xp_BW xp_NW xp_SW xp_exn 180 179 (.iload 4) := Or.inl ⟨xd_180_387, rfl⟩
set_option maxRecDepth 100000 in
theorem xk_180_180 : xk_OkA xp_F (xp_P sc) xp_cl xp_BW xp_NW xp_SW xp_exn 180 180 (.iconst 2) := Or.inl ⟨xd_180_389, rfl⟩
set_option maxRecDepth 100000 in
theorem xk_180_181 : xk_OkA xp_F (xp_P sc) xp_cl xp_BW xp_NW xp_SW xp_exn 180 181 (.iadd) := ⟨xd_180_390, rfl⟩
set_option maxRecDepth 100000 in
theorem xk_180_182 : xk_OkA xp_F (xp_P sc) xp_cl xp_BW xp_NW xp_SW xp_exn 180 182 (.iaload) := ⟨xd_180_391, rfl⟩
set_option maxRecDepth 100000 in
theorem xk_180_183 : xk_OkA xp_F (xp_P sc) xp_cl xp_BW xp_NW xp_SW xp_exn 180 183 (.invokeinterface 138 3) := ⟨rfl, Or.inl ⟨xwt_906, rfl⟩, rfl, rfl, xwt_5, by decide +kernel, by decide +kernel, Nat.le_of_ble_eq_true rfl, _, Or.inl xwt_903, Or.inr ⟨xd_180_392, xwt_904, xwt_905, ⟨_, _, _, rfl, rfl⟩, by decide +kernel⟩⟩
set_option maxRecDepth 100000 in
theorem xk_180_184 : xk_OkA xp_F (xp_P sc) xp_cl xp_BW xp_NW xp_SW xp_exn 180 184 (.istore 6) := Or.inl ⟨xd_180_395, rfl⟩
set_option maxRecDepth 100000 in
theorem xk_180_185 : xk_OkA xp_F (xp_P sc) xp_cl xp_BW xp_NW xp_SW xp_exn 180 185 (.aload 2) := Or.inr ⟨2, rfl, xd_180_397, rfl⟩
set_option maxRecDepth 100000 in
theorem xk_180_186 : xk_OkA xp_F (xp_P sc) xp_cl xp_BW xp_NW xp_SW xp_exn 180 186 (.invokeinterface 107 1) := ⟨rfl, Or.inl ⟨xwt_797, rfl⟩, rfl, rfl, xwt_5, by decide +kernel, by decide +kernel, Nat.le_of_ble_eq_true rfl, _, Or.inl xwt_794, Or.inr ⟨xd_180_398, xwt_795, xwt_796, ⟨_, _, _, rfl, rfl⟩, by decide +kernel⟩⟩
set_option maxRecDepth 100000 in
theorem xk_180_187 : xk_OkA xp_F (xp_P sc) xp_cl xp_BW xp_NW xp_SW xp_exn 180 187 (.iload 5) := Or.inl ⟨xd_180_401, rfl⟩
set_option maxRecDepth 100000 in
theorem xk_180_188 : xk_OkA xp_F (xp_P sc) xp_cl xp_BW xp_NW xp_SW xp_exn 180 188 (.if_icmp .eq 191) := ⟨_, xd_180_403, by unfold xf_to; decide +kernel, rfl⟩
set_option maxRecDepth 100000 in
theorem xk_180_189 : xk_OkA xp_F (xp_P sc) xp_cl xp_BW xp_NW xp_SW xp_exn 180 189 (.iconst 0) := Or.inl ⟨xd_180_406, rfl⟩
set_option maxRecDepth 100000 in
theorem xk_180_190 : xk_OkA xp_F (xp_P sc) xp_cl xp_BW xp_NW xp_SW xp_exn 180 190 (.freturn) := ⟨xd_180_407, rfl⟩
set_option maxRecDepth 100000 in
theorem xk_180_191 : xk_OkA xp_F (xp_P sc) xp_cl xp_BW xp_NW xp_SW xp_exn 180 191 (.iload 5) := Or.inl ⟨xd_180_408, rfl⟩
set_option maxRecDepth 100000 in
theorem xk_180_192 : xk_OkA xp_F (xp_P sc) xp_cl xp_BW xp_NW xp_SW xp_exn 180 192 (.ifCond .ne 202) := ⟨_, xd_180_410, by unfold xf_to; decide +kernel, rfl⟩
set_option maxRecDepth 100000 in
theorem xk_180_193 : xk_OkA xp_F (xp_P sc) xp_cl xp_BW xp_NW xp_SW xp_exn 180 193 (.aload 3) := Or.inr ⟨3, rfl, xd_180_413, rfl⟩
set_option maxRecDepth 100000 in
theorem xk_180_194 : xk_OkA xp_F (xp_P sc) xp_cl xp_BW xp_NW xp_SW xp_exn 180 194 (.iconst 0) := Or.inl ⟨xd_180_414, rfl⟩
set_option maxRecDepth 100000 in
theorem xk_180_195 : xk_OkA xp_F (xp_P sc) xp_cl xp_BW xp_NW xp_SW xp_exn 180 195 (.laload) := ⟨xd_180_415, rfl⟩
set_option maxRecDepth 100000 in
theorem xk_180_196 : xk_OkA xp_F (xp_P sc) xp_cl xp_BW xp_NW xp_SW xp_exn 180 196 (.iload 6) := Or.inl ⟨xd_180_416, rfl⟩
set_option maxRecDepth 100000 in
theorem xk_180_197 : xk_OkA xp_F (xp_P sc) xp_cl xp_BW xp_NW xp_SW xp_exn 180 197 (.i2l) := ⟨xd_180_418, rfl⟩
set_option maxRecDepth 100000 in
theorem xk_180_198 : xk_OkA xp_F (xp_P sc) xp_cl xp_BW xp_NW xp_SW xp_exn 180 198 (.lcmp) := ⟨xd_180_419, rfl⟩
set_option maxRecDepth 100000 in
theorem xk_180_199 : xk_OkA xp_F (xp_P sc) xp_cl xp_BW xp_NW xp_SW xp_exn 180 199 (.ifCond .eq 202) := ⟨_, xd_180_420, by unfold xf_to; decide +kernel, rfl⟩
set_option maxRecDepth 100000 in
theorem xk_180_200 : xk_OkA xp_F (xp_P sc) xp_cl xp_BW xp_NW xp_SW xp_exn 180 200 (.iconst 0) := Or.inl ⟨xd_180_423, rfl⟩
set_option maxRecDepth 100000 in
theorem xk_180_201 : xk_OkA xp_F (xp_P sc) xp_cl xp_BW xp_NW xp_SW xp_exn 180 201 (.freturn) := ⟨xd_180_424, rfl⟩
set_option maxRecDepth 100000 in
theorem xk_180_202 : xk_OkA xp_F (xp_P sc) xp_cl xp_BW xp_NW xp_SW xp_exn 180 202 (.goto 784) := ⟨_, xd_180_425, by unfold xf_to; decide +kernel⟩
set_option maxRecDepth 100000 in
theorem xk_180_203 : xk_OkA xp_F (xp_P sc) xp_cl xp_BW xp_NW xp_SW xp_exn 180 203 (.aload 1) := Or.inr ⟨1, rfl, xd_180_428, rfl⟩
set_option maxRecDepth 100000 in
theorem xk_180_204 : xk_OkA xp_F (xp_P sc) xp_cl xp_BW xp_NW xp_SW xp_exn 180 204 (.aload 0) := Or.inr ⟨0, rfl, xd_180_429, rfl⟩
set_option maxRecDepth 100000 in
theorem xk_180_205 : xk_OkA xp_F (xp_P sc) xp_cl xp_BW xp_NW xp_SW xp_exn 180 205 (.iload 4) := Or.inl ⟨xd_180_430, rfl⟩
set_option maxRecDepth 100000 in
theorem xk_180_206 : xk_OkA xp_F (xp_P sc) xp_cl xp_BW xp_NW xp_SW xp_exn 180 206 (.iconst 1) := Or.inl ⟨xd_180_432, rfl⟩
set_option maxRecDepth 100000 in
theorem xk_180_207 : xk_OkA xp_F (xp_P sc) xp_cl xp_BW xp_NW xp_SW xp_exn 180 207 (.iadd) := ⟨xd_180_433, rfl⟩
set_option maxRecDepth 100000 in
theorem xk_180_208 : xk_OkA xp_F (xp_P sc) xp_cl xp_BW xp_NW xp_SW xp_exn 180 208 (.iaload) := ⟨xd_180_434, rfl⟩
set_option maxRecDepth 100000 in
theorem xk_180_209 : xk_OkA xp_F (xp_P sc) xp_cl xp_BW xp_NW xp_SW xp_exn 180 209 (.aload 0) := Or.inr ⟨0, rfl, xd_180_435, rfl⟩
set_option maxRecDepth 100000 in
theorem xk_180_210 : xk_OkA xp_F (xp_P sc) xp_cl xp_BW xp_NW xp_SW xp_exn 180 210 (.iload 4) := Or.inl ⟨xd_180_436, rfl⟩
set_option maxRecDepth 100000 in
theorem xk_180_211 : xk_OkA xp_F (xp_P sc) xp_cl xp_BW xp_NW xp_SW xp_exn 180 211 (.iconst 2) := Or.inl ⟨xd_180_438, rfl⟩
set_option maxRecDepth 100000 in
theorem xk_180_212 : xk_OkA xp_F (xp_P sc) xp_cl xp_BW xp_NW xp_SW xp_exn 180 212 (.iadd) := ⟨xd_180_439, rfl⟩
set_option maxRecDepth 100000 in
theorem xk_180_213 : xk_OkA xp_F (xp_P sc) xp_cl xp_BW xp_NW xp_SW xp_exn 180 213 (.iaload) := ⟨xd_180_440, rfl⟩
set_option maxRecDepth 100000 in
theorem xk_180_214 : xk_OkA xp_F (xp_P sc) xp_cl xp_BW xp_NW xp_SW xp_exn 180 214 (.aload 3) := Or.inr ⟨3, rfl, xd_180_441, rfl⟩
set_option maxRecDepth 100000 in
theorem xk_180_215 : xk_OkA xp_F (xp_P sc) xp_cl xp_BW xp_NW xp_SW xp_exn 180 215 (.invokeinterface 165 4) := ⟨rfl, Or.inr xwt_501, rfl, rfl, xwt_0, by decide +kernel, by decide +kernel, Nat.le_of_ble_eq_true rfl, _, Or.inl xwt_499, Or.inl ⟨xd_180_442, xwt_500, rfl, by decide +kernel⟩⟩
set_option maxRecDepth 100000 in
theorem xk_180_216 : xk_OkA xp_F (xp_P sc) xp_cl xp_BW xp_NW xp_SW xp_exn 180 216 (.istore 5) := Or.inl ⟨xd_180_445, rfl⟩
set_option maxRecDepth 100000 in
theorem xk_180_217 : xk_OkA xp_F (xp_P sc) xp_cl xp_BW xp_NW xp_SW xp_exn 180 217 (.aload 2) := Or.inr ⟨2, rfl, xd_180_447, rfl⟩
set_option maxRecDepth 100000 in
theorem xk_180_218 : xk_OkA xp_F (xp_P sc) xp_cl xp_BW xp_NW xp_SW xp_exn 180 218 (.aload 0) := Or.inr ⟨0, rfl, xd_180_448, rfl⟩
set_option maxRecDepth 100000 in
theorem xk_180_219 : xk_OkA xp_F (xp_P sc) xp_cl xp_BW xp_NW xp_SW xp_exn 180 219 (.iload 4) := Or.inl ⟨xd_180_449, rfl⟩
set_option maxRecDepth 100000 in
theorem xk_180_220 : xk_OkA xp_F (xp_P sc) xp_cl xp_BW xp_NW xp_SW xp_exn 180 220 (.iconst 1) := Or.inl ⟨xd_180_451, rfl⟩
set_option maxRecDepth 100000 in
theorem xk_180_221 : xk_OkA xp_F (xp_P sc) xp_cl xp_BW xp_NW xp_SW xp_exn 180 221 (.iadd) := ⟨xd_180_452, rfl⟩
set_option maxRecDepth 100000 in
theorem xk_180_222 : xk_OkA xp_F (xp_P sc) xp_cl xp_BW xp_NW xp_SW xp_exn 180 222 (.iaload) := ⟨xd_180_453, rfl⟩
set_option maxRecDepth 100000 in
theorem xk_180_223 : xk_OkA xp_F (xp_P sc) xp_cl xp_BW xp_NW xp_SW xp_exn 180 223 (.aload 0) := Or.inr ⟨0, rfl, xd_180_454, rfl⟩
set_option maxRecDepth 100000 in
theorem xk_180_224 : xk_OkA xp_F (xp_P sc) xp_cl xp_BW xp_NW xp_SW xp_exn 180 224 (.iload 4) := Or.inl ⟨xd_180_455, rfl⟩
set_option maxRecDepth 100000 in
theorem xk_180_225 : xk_OkA xp_F (xp_P sc) xp_cl xp_BW xp_NW xp_SW xp_exn 180 225 (.iconst 2) := Or.inl ⟨xd_180_457, rfl⟩
set_option maxRecDepth 100000 in
theorem xk_180_226 : xk_OkA xp_F (xp_P sc) xp_cl xp_BW xp_NW xp_SW xp_exn 180 226 (.iadd) := ⟨xd_180_458, rfl⟩
set_option maxRecDepth 100000 in
theorem xk_180_227 : xk_OkA xp_F (xp_P sc) xp_cl xp_BW xp_NW xp_SW xp_exn 180 227 (.iaload) := ⟨xd_180_459, rfl⟩
set_option maxRecDepth 100000 in
theorem xk_180_228 : xk_OkA xp_F (xp_P sc) xp_cl xp_BW xp_NW xp_SW xp_exn 180 228 (.invokeinterface 139 3) := ⟨rfl, Or.inl ⟨xwt_914, rfl⟩, rfl, rfl, xwt_5, by decide +kernel, by decide +kernel, Nat.le_of_ble_eq_true rfl, _, Or.inl xwt_911, Or.inr ⟨xd_180_460, xwt_912, xwt_913, ⟨_, _, _, rfl, rfl⟩, by decide +kernel⟩⟩
set_option maxRecDepth 100000 in
theorem xk_180_229 : xk_OkA xp_F (xp_P sc) xp_cl xp_BW xp_NW xp_SW xp_exn 180 229 (.istore 6) := Or.inl ⟨xd_180_463, rfl⟩
set_option maxRecDepth 100000 in
theorem xk_180_230 : xk_OkA xp_F (xp_P sc) xp_cl xp_BW xp_NW xp_SW xp_exn 180 230 (.aload 2) := Or.inr ⟨2, rfl, xd_180_465, rfl⟩
set_option maxRecDepth 100000 in
theorem xk_180_231 : xk_OkA xp_F (xp_P sc) xp_cl xp_BW xp_NW xp_SW xp_exn 180 231 (.invokeinterface 107 1) := ⟨rfl, Or.inl ⟨xwt_797, rfl⟩, rfl, rfl, xwt_5, by decide +kernel, by decide +kernel, Nat.le_of_ble_eq_true rfl, _, Or.inl xwt_794, Or.inr ⟨xd_180_466, xwt_795, xwt_796, ⟨_, _, _, rfl, rfl⟩, by decide +kernel⟩⟩
set_option maxRecDepth 100000 in
theorem xk_180_232 : xk_OkA xp_F (xp_P sc) xp_cl xp_BW xp_NW xp_SW xp_exn 180 232 (.iload 5) := Or.inl ⟨xd_180_469, rfl⟩
set_option maxRecDepth 100000 in
theorem xk_180_233 : xk_OkA xp_F (xp_P sc) xp_cl xp_BW xp_NW xp_SW xp_exn 180 233 (.if_icmp .eq 236) := ⟨_, xd_180_471, by unfold xf_to; decide +kernel, rfl⟩
set_option maxRecDepth 100000 in
theorem xk_180_234 : xk_OkA xp_F (xp_P sc) xp_cl xp_BW xp_NW xp_SW xp_exn 180 234 (.iconst 0) := Or.inl ⟨xd_180_474, rfl⟩
set_option maxRecDepth 100000 in
theorem xk_180_235 : xk_OkA xp_F (xp_P sc) xp_cl xp_BW xp_NW xp_SW xp_exn 180 235 (.freturn) := ⟨xd_180_475, rfl⟩
set_option maxRecDepth 100000 in
theorem xk_180_236 : xk_OkA xp_F (xp_P sc) xp_cl xp_BW xp_NW xp_SW xp_exn 180 236 (.iload 5) := Or.inl ⟨xd_180_476, rfl⟩
set_option maxRecDepth 100000 in
theorem xk_180_237 : xk_OkA xp_F (xp_P sc) xp_cl xp_BW xp_NW xp_SW xp_exn 180 237 (.ifCond .ne 247) := ⟨_, xd_180_478, by unfold xf_to; decide +kernel, rfl⟩
set_option maxRecDepth 100000 in
theorem xk_180_238 : xk_OkA xp_F (xp_P sc) xp_cl xp_BW xp_NW xp_SW xp_exn 180 238 (.aload 3) := Or.inr ⟨3, rfl, xd_180_481, rfl⟩
set_option maxRecDepth 100000 in
theorem xk_180_239 : xk_OkA xp_F (xp_P sc) xp_cl xp_BW xp_NW xp_SW xp_exn 180 239 (.iconst 0) := Or.inl ⟨xd_180_482, rfl⟩
set_option maxRecDepth 100000 in
theorem xk_180_240 : xk_OkA xp_F (xp_P sc) xp_cl xp_BW xp_NW xp_SW xp_exn 180 240 (.laload) := ⟨xd_180_483, rfl⟩
set_option maxRecDepth 100000 in
theorem xk_180_241 : xk_OkA xp_F (xp_P sc) xp_cl xp_BW xp_NW xp_SW xp_exn 180 241 (.iload 6) := Or.inl ⟨xd_180_484, rfl⟩
set_option maxRecDepth 100000 in
theorem xk_180_242 : xk_OkA xp_F (xp_P sc) xp_cl xp_BW xp_NW xp_SW xp_exn 180 242 (.i2l) := ⟨xd_180_486, rfl⟩
set_option maxRecDepth 100000 in
theorem xk_180_243 : xk_OkA xp_F (xp_P sc) xp_cl xp_BW xp_NW xp_SW xp_exn 180 243 (.lcmp) := ⟨xd_180_487, rfl⟩
set_option maxRecDepth 100000 in
theorem xk_180_244 : xk_OkA xp_F (xp_P sc) xp_cl xp_BW xp_NW xp_SW xp_exn 180 244 (.ifCond .eq 247) := ⟨_, xd_180_488, by unfold xf_to; decide +kernel, rfl⟩
set_option maxRecDepth 100000 in
theorem xk_180_245 : xk_OkA xp_F (xp_P sc) xp_cl xp_BW xp_NW xp_SW xp_exn 180 245 (.iconst 0) := Or.inl ⟨xd_180_491, rfl⟩
set_option maxRecDepth 100000 in
theorem xk_180_246 : xk_OkA xp_F (xp_P sc) xp_cl xp_BW xp_NW xp_SW xp_exn 180 246 (.freturn) := ⟨xd_180_492, rfl⟩
set_option maxRecDepth 100000 in
theorem xk_180_247 : xk_OkA xp_F (xp_P sc) xp_cl xp_BW xp_NW xp_SW xp_exn 180 247 (.goto 784) := ⟨_, xd_180_493, by unfold xf_to; decide +kernel⟩
set_option maxRecDepth 100000 in
theorem xk_180_248 : xk_OkA xp_F (xp_P sc) xp_cl xp_BW xp_NW xp_SW xp_exn 180 248 (.aload 1) := Or.inr ⟨1, rfl, xd_180_496, rfl⟩
set_option maxRecDepth 100000 in
theorem xk_180_249 : xk_OkA xp_F (xp_P sc) xp_cl xp_BW xp_NW xp_SW xp_exn 180 249 (.aload 0) := Or.inr ⟨0, rfl, xd_180_497, rfl⟩
set_option maxRecDepth 100000 in
theorem xk_180_250 : xk_OkA xp_F (xp_P sc) xp_cl xp_BW xp_NW xp_SW xp_exn 180 250 (.iload 4) := Or.inl ⟨xd_180_498, rfl⟩
set_option maxRecDepth 100000 in
theorem xk_180_251 : xk_OkA xp_F (xp_P sc) xp_cl xp_BW xp_NW xp_SW xp_exn 180 251 (.iconst 1) := Or.inl ⟨xd_180_500, rfl⟩
set_option maxRecDepth 100000 in
theorem xk_180_252 : xk_OkA xp_F (xp_P sc) xp_cl xp_BW xp_NW xp_SW xp_exn 180 252 (.iadd) := ⟨xd_180_501, rfl⟩
set_option maxRecDepth 100000 in
theorem xk_180_253 : xk_OkA xp_F (xp_P sc) xp_cl xp_BW xp_NW xp_SW xp_exn 180 253 (.iaload) := ⟨xd_180_502, rfl⟩
set_option maxRecDepth 100000 in
theorem xk_180_254 : xk_OkA xp_F (xp_P sc) xp_cl xp_BW xp_NW xp_SW xp_exn 180 254 (.invokeinterface 166 2) := ⟨rfl, Or.inr xwt_513, rfl, rfl, xwt_0, by decide +kernel, by decide +kernel, Nat.le_of_ble_eq_true rfl, _, Or.inl xwt_511, Or.inl ⟨xd_180_503, xwt_512, rfl, by decide +kernel⟩⟩
set_option maxRecDepth 100000 in
theorem xk_180_255 : xk_OkA xp_F (xp_P sc) xp_cl xp_BW xp_NW xp_SW xp_exn 180 255 (.istore 5) := Or.inl ⟨xd_180_506, rfl⟩
set_option maxRecDepth 100000 in
theorem xk_180_256 : xk_OkA xp_F (xp_P sc) xp_cl xp_BW xp_NW xp_SW xp_exn 180 256 (.aload 2) := Or.inr ⟨2, rfl, xd_180_508, rfl⟩
set_option maxRecDepth 100000 in
theorem xk_180_257 : xk_OkA xp_F (xp_P sc) xp_cl xp_BW xp_NW xp_SW xp_exn 180 257 (.aload 0) := Or.inr ⟨0, rfl, xd_180_509, rfl⟩
set_option maxRecDepth 100000 in
theorem xk_180_258 : xk_OkA xp_F (xp_P sc) xp_cl xp_BW xp_NW xp_SW xp_exn 180 258 (.iload 4) := Or.inl ⟨xd_180_510, rfl⟩
set_option maxRecDepth 100000 in
theorem xk_180_259 : xk_OkA xp_F (xp_P sc) xp_cl xp_BW xp_NW xp_SW xp_exn 180 259 (.iconst 1) := Or.inl ⟨xd_180_512, rfl⟩
set_option maxRecDepth 100000 in
theorem xk_180_260 : xk_OkA xp_F (xp_P sc) xp_cl xp_BW xp_NW xp_SW xp_exn 180 260 (.iadd) := ⟨xd_180_513, rfl⟩
set_option maxRecDepth 100000 in
theorem xk_180_261 : xk_OkA xp_F (xp_P sc) xp_cl xp_BW xp_NW xp_SW xp_exn 180 261 (.iaload) := ⟨xd_180_514, rfl⟩
set_option maxRecDepth 100000 in
theorem xk_180_262 : xk_OkA xp_F (xp_P sc) xp_cl xp_BW xp_NW xp_SW xp_exn 180 262 (.invokeinterface 140 2) := ⟨rfl, Or.inl ⟨xwt_918, rfl⟩, rfl, rfl, xwt_5, by decide +kernel, by decide +kernel, Nat.le_of_ble_eq_true rfl, _, Or.inl xwt_915, Or.inr ⟨xd_180_515, xwt_916, xwt_917, ⟨_, _, _, rfl, rfl⟩, by decide +kernel⟩⟩
set_option maxRecDepth 100000 in
theorem xk_180_263 : xk_OkA xp_F (xp_P sc) xp_cl xp_BW xp_NW xp_SW xp_exn 180 263 (.aload 2) := Or.inr ⟨2, rfl, xd_180_518, rfl⟩
set_option maxRecDepth 100000 in
theorem xk_180_264 : xk_OkA xp_F (xp_P sc) xp_cl xp_BW xp_NW xp_SW xp_exn 180 264 (.invokeinterface 107 1) := ⟨rfl, Or.inl ⟨xwt_797, rfl⟩, rfl, rfl, xwt_5, by decide +kernel, by decide +kernel, Nat.le_of_ble_eq_true rfl, _, Or.inl xwt_794, Or.inr ⟨xd_180_519, xwt_795, xwt_796, ⟨_, _, _, rfl, rfl⟩, by decide +kernel⟩⟩
set_option maxRecDepth 100000 in
theorem xk_180_265 : xk_OkA xp_F (xp_P sc) xp_cl xp_BW xp_NW xp_SW xp_exn 180 265 (.iload 5) := Or.inl ⟨xd_180_522, rfl⟩
set_option maxRecDepth 100000 in
theorem xk_180_266 : xk_OkA xp_F (xp_P sc) xp_cl xp_BW xp_NW xp_SW xp_exn 180 266 (.if_icmp .eq 269) := ⟨_, xd_180_524, by unfold xf_to; decide +kernel, rfl⟩
set_option maxRecDepth 100000 in
theorem xk_180_267 : xk_OkA xp_F (xp_P sc) xp_cl xp_BW xp_NW xp_SW xp_exn 180 267 (.iconst 0) := Or.inl ⟨xd_180_527, rfl⟩
set_option maxRecDepth 100000 in
theorem xk_180_268 : xk_OkA xp_F (xp_P sc) xp_cl xp_BW xp_NW xp_SW xp_exn 180 268 (.freturn) := ⟨xd_180_528, rfl⟩
set_option maxRecDepth 100000 in
theorem xk_180_269 : xk_OkA xp_F (xp_P sc) xp_cl xp_BW xp_NW xp_SW xp_exn 180 269 (.goto 784) := ⟨_, xd_180_529, by unfold xf_to; decide +kernel⟩
set_option maxRecDepth 100000 in
theorem xk_180_270 : xk_OkA xp_F (xp_P sc) xp_cl xp_BW xp_NW xp_SW xp_exn 180 270 (.aload 1) := Or.inr ⟨1, rfl, xd_180_532, rfl⟩
set_option maxRecDepth 100000 in
theorem xk_180_271 : xk_OkA xp_F (xp_P sc) xp_cl xp_BW xp_NW xp_SW xp_exn 180 271 (.aload 0) := Or.inr ⟨0, rfl, xd_180_533, rfl⟩
set_option maxRecDepth 100000 in
theorem xk_180_272 : xk_OkA xp_F (xp_P sc) xp_cl xp_BW xp_NW xp_SW xp_exn 180 272 (.iload 4) := Or.inl ⟨xd_180_534, rfl⟩
set_option maxRecDepth 100000 in
theorem xk_180_273 : xk_OkA xp_F (xp_P sc) xp_cl xp_BW xp_NW xp_SW xp_exn 180 273 (.iconst 1) := Or.inl ⟨xd_180_536, rfl⟩
set_option maxRecDepth 100000 in
theorem xk_180_274 : xk_OkA xp_F (xp_P sc) xp_cl xp_BW xp_NW xp_SW xp_exn 180 274 (.iadd) := ⟨xd_180_537, rfl⟩
set_option maxRecDepth 100000 in
theorem xk_180_275 : xk_OkA xp_F (xp_P sc) xp_cl xp_BW xp_NW xp_SW xp_exn 180 275 (.iaload) := ⟨xd_180_538, rfl⟩
set_option maxRecDepth 100000 in
theorem xk_180_276 : xk_OkA xp_F (xp_P sc) xp_cl xp_BW xp_NW xp_SW xp_exn 180 276 (.aload 3) := Or.inr ⟨3, rfl, xd_180_539, rfl⟩
set_option maxRecDepth 100000 in
theorem xk_180_277 : xk_OkA xp_F (xp_P sc) xp_cl xp_BW xp_NW xp_SW xp_exn 180 277 (.invokeinterface 167 3) := ⟨rfl, Or.inr xwt_525, rfl, rfl, xwt_0, by decide +kernel, by decide +kernel, Nat.le_of_ble_eq_true rfl, _, Or.inl xwt_523, Or.inl ⟨xd_180_540, xwt_524, rfl, by decide +kernel⟩⟩
set_option maxRecDepth 100000 in
theorem xk_180_278 : xk_OkA xp_F (xp_P sc) xp_cl xp_BW xp_NW xp_SW xp_exn 180 278 (.istore 5) := Or.inl ⟨xd_180_543, rfl⟩
set_option maxRecDepth 100000 in
theorem xk_180_279 : xk_OkA xp_F (xp_P sc) xp_cl xp_BW xp_NW xp_SW xp_exn 180 279 (.aload 2) := Or.inr ⟨2, rfl, xd_180_545, rfl⟩
set_option maxRecDepth 100000 in
theorem xk_180_280 : xk_OkA xp_F (xp_P sc) xp_cl xp_BW xp_NW xp_SW xp_exn 180 280 (.aload 0) := Or.inr ⟨0, rfl, xd_180_546, rfl⟩
set_option maxRecDepth 100000 in
theorem xk_180_281 : xk_OkA xp_F (xp_P sc) xp_cl xp_BW xp_NW xp_SW xp_exn 180 281 (.iload 4) := Or.inl ⟨xd_180_547, rfl⟩
set_option maxRecDepth 100000 in
theorem xk_180_282 : xk_OkA xp_F (xp_P sc) xp_cl xp_BW xp_NW xp_SW xp_exn 180 282 (.iconst 1) := Or.inl ⟨xd_180_549, rfl⟩
set_option maxRecDepth 100000 in
theorem xk_180_283 : xk_OkA xp_F (xp_P sc) xp_cl xp_BW xp_NW xp_SW xp_exn 180 283 (.iadd) := ⟨xd_180_550, rfl⟩
set_option maxRecDepth 100000 in
theorem xk_180_284 : xk_OkA xp_F (xp_P sc) xp_cl xp_BW xp_NW xp_SW xp_exn 180 284 (.iaload) := ⟨xd_180_551, rfl⟩
set_option maxRecDepth 100000 in
theorem xk_180_285 : xk_OkA xp_F (xp_P sc) xp_cl xp_BW xp_NW xp_SW xp_exn 180 285 (.invokeinterface 142 2) := ⟨rfl, Or.inl ⟨xwt_922, rfl⟩, rfl, rfl, xwt_5, by decide +kernel, by decide +kernel, Nat.le_of_ble_eq_true rfl, _, Or.inl xwt_919, Or.inr ⟨xd_180_552, xwt_920, xwt_921, ⟨_, _, _, rfl, rfl⟩, by decide +kernel⟩⟩
set_option maxRecDepth 100000 in
theorem xk_180_286 : xk_OkA xp_F (xp_P sc) xp_cl xp_BW xp_NW xp_SW xp_exn 180 286 (.istore 6) := Or.inl ⟨xd_180_555, rfl⟩
set_option maxRecDepth 100000 in
theorem xk_180_287 : xk_OkA xp_F (xp_P sc) xp_cl xp_BW xp_NW xp_SW xp_exn 180 287 (.aload 2) := Or.inr ⟨2, rfl, xd_180_557, rfl⟩
set_option maxRecDepth 100000 in
theorem xk_180_288 : xk_OkA xp_F (xp_P sc) xp_cl xp_BW xp_NW xp_SW xp_exn 180 288 (.invokeinterface 107 1) := ⟨rfl, Or.inl ⟨xwt_797, rfl⟩, rfl, rfl, xwt_5, by decide +kernel, by decide +kernel, Nat.le_of_ble_eq_true rfl, _, Or.inl xwt_794, Or.inr ⟨xd_180_558, xwt_795, xwt_796, ⟨_, _, _, rfl, rfl⟩, by decide +kernel⟩⟩
set_option maxRecDepth 100000 in
theorem xk_180_289 : xk_OkA xp_F (xp_P sc) xp_cl xp_BW xp_NW xp_SW xp_exn 180 289 (.iload 5) := Or.inl ⟨xd_180_561, rfl⟩
set_option maxRecDepth 100000 in
theorem xk_180_290 : xk_OkA xp_F (xp_P sc) xp_cl xp_BW xp_NW xp_SW xp_exn 180 290 (.if_icmp .eq 293) := ⟨_, xd_180_563, by unfold xf_to; decide +kernel, rfl⟩
set_option maxRecDepth 100000 in
theorem xk_180_291 : xk_OkA xp_F (xp_P sc) xp_cl xp_BW xp_NW xp_SW xp_exn 180 291 (.iconst 0) := Or.inl ⟨xd_180_566, rfl⟩
set_option maxRecDepth 100000 in
theorem xk_180_292 : xk_OkA xp_F (xp_P sc) xp_cl xp_BW xp_NW xp_SW xp_exn 180 292 (.freturn) := ⟨xd_180_567, rfl⟩
set_option maxRecDepth 100000 in
theorem xk_180_293 : xk_OkA xp_F (xp_P sc) xp_cl xp_BW xp_NW xp_SW xp_exn 180 293 (.iload 5) := Or.inl ⟨xd_180_568, rfl⟩
set_option maxRecDepth 100000 in
theorem xk_180_294 : xk_OkA xp_F (xp_P sc) xp_cl xp_BW xp_NW xp_SW xp_exn 180 294 (.ifCond .ne 304) := ⟨_, xd_180_570, by unfold xf_to; decide +kernel, rfl⟩
set_option maxRecDepth 100000 in
theorem xk_180_295 : xk_OkA xp_F (xp_P sc) xp_cl xp_BW xp_NW xp_SW xp_exn 180 295 (.aload 3) := Or.inr ⟨3, rfl, xd_180_573, rfl⟩
set_option maxRecDepth 100000 in
theorem xk_180_296 : xk_OkA xp_F (xp_P sc) xp_cl xp_BW xp_NW xp_SW xp_exn 180 296 (.iconst 0) := Or.inl ⟨xd_180_574, rfl⟩
set_option maxRecDepth 100000 in
theorem xk_180_297 : xk_OkA xp_F (xp_P sc) xp_cl xp_BW xp_NW xp_SW xp_exn 180 297 (.laload) := ⟨xd_180_575, rfl⟩
set_option maxRecDepth 100000 in
theorem xk_180_298 : xk_OkA xp_F (xp_P sc) xp_cl xp_BW xp_NW xp_SW xp_exn 180 298 (.iload 6) := Or.inl ⟨xd_180_576, rfl⟩
set_option maxRecDepth 100000 in
theorem xk_180_299 : xk_OkA xp_F (xp_P sc) xp_cl xp_BW xp_NW xp_SW xp_exn 180 299 (.i2l) := ⟨xd_180_578, rfl⟩
set_option maxRecDepth 100000 in
theorem xk_180_300 : xk_OkA xp_F (xp_P sc) xp_cl xp_BW xp_NW xp_SW xp_exn 180 300 (.lcmp) := ⟨xd_180_579, rfl⟩
set_option maxRecDepth 100000 in
theorem xk_180_301 : xk_OkA xp_F (xp_P sc) xp_cl xp_BW xp_NW xp_SW xp_exn 180 301 (.ifCond .eq 304) := ⟨_, xd_180_580, by unfold xf_to; decide +kernel, rfl⟩
set_option maxRecDepth 100000 in
theorem xk_180_302 : xk_OkA xp_F (xp_P sc) xp_cl xp_BW xp_NW xp_SW xp_exn 180 302 (.iconst 0) := Or.inl ⟨xd_180_583, rfl⟩
set_option maxRecDepth 100000 in
theorem xk_180_303 : xk_OkA xp_F (xp_P sc) xp_cl xp_BW xp_NW xp_SW xp_exn 180 303 (.freturn) := ⟨xd_180_584, rfl⟩
set_option maxRecDepth 100000 in
theorem xk_180_304 : xk_OkA xp_F (xp_P sc) xp_cl xp_BW xp_NW xp_SW xp_exn 180 304 (.goto 784) := ⟨_, xd_180_585, by unfold xf_to; decide +kernel⟩
set_option maxRecDepth 100000 in
theorem xk_180_305 : xk_OkA xp_F (xp_P sc) xp_cl xp_BW xp_NW xp_SW xp_exn 180 305 (.aload 1) := Or.inr ⟨1, rfl, xd_180_588, rfl⟩
set_option maxRecDepth 100000 in
theorem xk_180_306 : xk_OkA xp_F (xp_P sc) xp_cl xp_BW xp_NW xp_SW xp_exn 180 306 (.aload 0) := Or.inr ⟨0, rfl, xd_180_589, rfl⟩
set_option maxRecDepth 100000 in
theorem xk_180_307 : xk_OkA xp_F (xp_P sc) xp_cl xp_BW xp_NW xp_SW xp_exn 180 307 (.iload 4) := Or.inl ⟨xd_180_590, rfl⟩
set_option maxRecDepth 100000 in
theorem xk_180_308 : xk_OkA xp_F (xp_P sc) xp_cl xp_BW xp_NW xp_SW xp_exn 180 308 (.iconst 1) := Or.inl ⟨xd_180_592, rfl⟩
set_option maxRecDepth 100000 in
theorem xk_180_309 : xk_OkA xp_F (xp_P sc) xp_cl xp_BW xp_NW xp_SW xp_exn 180 309 (.iadd) := ⟨xd_180_593, rfl⟩
set_option maxRecDepth 100000 in
theorem xk_180_310 : xk_OkA xp_F (xp_P sc) xp_cl xp_BW xp_NW xp_SW xp_exn 180 310 (.iaload) := ⟨xd_180_594, rfl⟩
set_option maxRecDepth 100000 in
theorem xk_180_311 : xk_OkA xp_F (xp_P sc) xp_cl xp_BW xp_NW xp_SW xp_exn 180 311 (.aload 0) := Or.inr ⟨0, rfl, xd_180_595, rfl⟩
set_option maxRecDepth 100000 in
theorem xk_180_312 : xk_OkA xp_F (xp_P sc) xp_cl xp_BW xp_NW xp_SW xp_exn 180 312 (.iload 4) := Or.inl ⟨xd_180_596, rfl⟩
set_option maxRecDepth 100000 in
theorem xk_180_313 : xk_OkA xp_F (xp_P sc) xp_cl xp_BW xp_NW xp_SW xp_exn 180 313 (.iconst 2) := Or.inl ⟨xd_180_598, rfl⟩
set_option maxRecDepth 100000 in
theorem xk_180_314 : xk_OkA xp_F (xp_P sc) xp_cl xp_BW xp_NW xp_SW xp_exn 180 314 (.iadd) := ⟨xd_180_599, rfl⟩
set_option maxRecDepth 100000 in
theorem xk_180_315 : xk_OkA xp_F (xp_P sc) xp_cl xp_BW xp_NW xp_SW xp_exn 180 315 (.iaload) := ⟨xd_180_600, rfl⟩
set_option maxRecDepth 100000 in
theorem xk_180_316 : xk_OkA xp_F (xp_P sc) xp_cl xp_BW xp_NW xp_SW xp_exn 180 316 (.aload 0) := Or.inr ⟨0, rfl, xd_180_601, rfl⟩
set_option maxRecDepth 100000 in
theorem xk_180_317 : xk_OkA xp_F (xp_P sc) xp_cl xp_BW xp_NW xp_SW xp_exn 180 317 (.iload 4) := Or.inl ⟨xd_180_602, rfl⟩
set_option maxRecDepth 100000 in
theorem xk_180_318 : xk_OkA xp_F (xp_P sc) xp_cl xp_BW xp_NW xp_SW xp_exn 180 318 (.iconst 3) := Or.inl ⟨xd_180_604, rfl⟩
set_option maxRecDepth 100000 in
theorem xk_180_319 : xk_OkA xp_F (xp_P sc) xp_cl xp_BW xp_NW xp_SW xp_exn 180 319 (.iadd) := ⟨xd_180_605, rfl⟩
set_option maxRecDepth 100000 in
theorem xk_180_320 : xk_OkA xp_F (xp_P sc) xp_cl xp_BW xp_NW xp_SW xp_exn 180 320 (.iaload) := ⟨xd_180_606, rfl⟩
set_option maxRecDepth 100000 in
theorem xk_180_321 : xk_OkA xp_F (xp_P sc) xp_cl xp_BW xp_NW xp_SW xp_exn 180 321 (.aload 3) := Or.inr ⟨3, rfl, xd_180_607, rfl⟩
set_option maxRecDepth 100000 in
theorem xk_180_322 : xk_OkA xp_F (xp_P sc) xp_cl xp_BW xp_NW xp_SW xp_exn 180 322 (.invokeinterface 168 5) := ⟨rfl, Or.inr xwt_553, rfl, rfl, xwt_0, by decide +kernel, by decide +kernel, Nat.le_of_ble_eq_true rfl, _, Or.inl xwt_551, Or.inl ⟨xd_180_608, xwt_552, rfl, by decide +kernel⟩⟩
set_option maxRecDepth 100000 in
theorem xk_180_323 : xk_OkA xp_F (xp_P sc) xp_cl xp_BW xp_NW xp_SW xp_exn 180 323 (.istore 5) := Or.inl ⟨xd_180_611, rfl⟩
set_option maxRecDepth 100000 in
theorem xk_180_324 : xk_OkA xp_F (xp_P sc) xp_cl xp_BW xp_NW xp_SW xp_exn 180 324 (.aload 2) := Or.inr ⟨2, rfl, xd_180_613, rfl⟩
set_option maxRecDepth 100000 in
theorem xk_180_325 : xk_OkA xp_F (xp_P sc) xp_cl xp_BW xp_NW xp_SW xp_exn 180 325 (.aload 0) := Or.inr ⟨0, rfl, xd_180_614, rfl⟩
set_option maxRecDepth 100000 in
theorem xk_180_326 : xk_OkA xp_F (xp_P sc) xp_cl xp_BW xp_NW xp_SW xp_exn 180 326 (.iload 4) := Or.inl ⟨xd_180_615, rfl⟩
set_option maxRecDepth 100000 in
theorem xk_180_327 : xk_OkA xp_F (xp_P sc) xp_cl xp_BW xp_NW xp_SW xp_exn 180 327 (.iconst 1) := Or.inl ⟨xd_180_617, rfl⟩
set_option maxRecDepth 100000 in
theorem xk_180_328 : xk_OkA xp_F (xp_P sc) xp_cl xp_BW xp_NW xp_SW xp_exn 180 328 (.iadd) := ⟨xd_180_618, rfl⟩
set_option maxRecDepth 100000 in
theorem xk_180_329 : xk_OkA xp_F (xp_P sc) xp_cl xp_BW xp_NW xp_SW xp_exn 180 329 (.iaload) := ⟨xd_180_619, rfl⟩
set_option maxRecDepth 100000 in
theorem xk_180_330 : xk_OkA xp_F (xp_P sc) xp_cl xp_BW xp_NW xp_SW xp_exn 180 330 (.aload 0) := Or.inr ⟨0, rfl, xd_180_620, rfl⟩
set_option maxRecDepth 100000 in
theorem xk_180_331 : xk_OkA xp_F (xp_P sc) xp_cl xp_BW xp_NW xp_SW xp_exn 180 331 (.iload 4) := Or.inl ⟨xd_180_621, rfl⟩
set_option maxRecDepth 100000 in
theorem xk_180_332 : xk_OkA xp_F (xp_P sc) xp_cl xp_BW xp_NW xp_SW xp_exn 180 332 (.iconst 2) := Or.inl ⟨xd_180_623, rfl⟩
set_option maxRecDepth 100000 in
theorem xk_180_333 : xk_OkA xp_F (xp_P sc) xp_cl xp_BW xp_NW xp_SW xp_exn 180 333 (.iadd) := ⟨xd_180_624, rfl⟩
set_option maxRecDepth 100000 in
theorem xk_180_334 : xk_OkA xp_F (xp_P sc) xp_cl xp_BW xp_NW xp_SW xp_exn 180 334 (.iaload) := ⟨xd_180_625, rfl⟩
set_option maxRecDepth 100000 in
theorem xk_180_335 : xk_OkA xp_F (xp_P sc) xp_cl xp_BW xp_NW xp_SW xp_exn 180 335 (.aload 0) := Or.inr ⟨0, rfl, xd_180_626, rfl⟩
set_option maxRecDepth 100000 in
theorem xk_180_336 : xk_OkA xp_F (xp_P sc) xp_cl xp_BW xp_NW xp_SW xp_exn 180 336 (.iload 4) := Or.inl ⟨xd_180_627, rfl⟩
set_option maxRecDepth 100000 in
theorem xk_180_337 : xk_OkA xp_F (xp_P sc) xp_cl xp_BW xp_NW xp_SW xp_exn 180 337 (.iconst 3) := Or.inl ⟨xd_180_629, rfl⟩
set_option maxRecDepth 100000 in
theorem xk_180_338 : xk_OkA xp_F (xp_P sc) xp_cl xp_BW xp_NW xp_SW xp_exn 180 338 (.iadd) := ⟨xd_180_630, rfl⟩
set_option maxRecDepth 100000 in
theorem xk_180_339 : xk_OkA xp_F (xp_P sc) xp_cl xp_BW xp_NW xp_SW xp_exn 180 339 (.iaload) := ⟨xd_180_631, rfl⟩
set_option maxRecDepth 100000 in
theorem xk_180_340 : xk_OkA xp_F (xp_P sc) xp_cl xp_BW xp_NW xp_SW xp_exn 180 340 (.invokeinterface 146 4) := ⟨rfl, Or.inl ⟨xwt_933, rfl⟩, rfl, rfl, xwt_5, by decide +kernel, by decide +kernel, Nat.le_of_ble_eq_true rfl, _, Or.inl xwt_930, Or.inr ⟨xd_180_632, xwt_931, xwt_932, ⟨_, _, _, rfl, rfl⟩, by decide +kernel⟩⟩
set_option maxRecDepth 100000 in
theorem xk_180_341 : xk_OkA xp_F (xp_P sc) xp_cl xp_BW xp_NW xp_SW xp_exn 180 341 (.istore 6) := Or.inl ⟨xd_180_635, rfl⟩
set_option maxRecDepth 100000 in
theorem xk_180_342 : xk_OkA xp_F (xp_P sc) xp_cl xp_BW xp_NW xp_SW xp_exn 180 342 (.aload 2) := Or.inr ⟨2, rfl, xd_180_637, rfl⟩
set_option maxRecDepth 100000 in
theorem xk_180_343 : xk_OkA xp_F (xp_P sc) xp_cl xp_BW xp_NW xp_SW xp_exn 180 343 (.invokeinterface 107 1) := ⟨rfl, Or.inl ⟨xwt_797, rfl⟩, rfl, rfl, xwt_5, by decide +kernel, by decide +kernel, Nat.le_of_ble_eq_true rfl, _, Or.inl xwt_794, Or.inr ⟨xd_180_638, xwt_795, xwt_796, ⟨_, _, _, rfl, rfl⟩, by decide +kernel⟩⟩
set_option maxRecDepth 100000 in
theorem xk_180_344 : xk_OkA xp_F (xp_P sc) xp_cl xp_BW xp_NW xp_SW xp_exn 180 344 (.iload 5) := Or.inl ⟨xd_180_641, rfl⟩
set_option maxRecDepth 100000 in
theorem xk_180_345 : xk_OkA xp_F (xp_P sc) xp_cl xp_BW xp_NW xp_SW xp_exn 180 345 (.if_icmp .eq 348) := ⟨_, xd_180_643, by unfold xf_to; decide +kernel, rfl⟩
set_option maxRecDepth 100000 in
theorem xk_180_346 : xk_OkA xp_F (xp_P sc) xp_cl xp_BW xp_NW xp_SW xp_exn 180 346 (.iconst 0) := Or.inl ⟨xd_180_646, rfl⟩
set_option maxRecDepth 100000 in
theorem xk_180_347 : xk_OkA xp_F (xp_P sc) xp_cl xp_BW xp_NW xp_SW xp_exn 180 347 (.freturn) := ⟨xd_180_647, rfl⟩
set_option maxRecDepth 100000 in
theorem xk_180_348 : xk_OkA xp_F (xp_P sc) xp_cl xp_BW xp_NW xp_SW xp_exn 180 348 (.iload 5) := Or.inl ⟨xd_180_648, rfl⟩
set_option maxRecDepth 100000 in
theorem xk_180_349 : xk_OkA xp_F (xp_P sc) xp_cl xp_BW xp_NW xp_SW xp_exn 180 349 (.ifCond .ne 359) := ⟨_, xd_180_650, by unfold xf_to; decide +kernel, rfl⟩
set_option maxRecDepth 100000 in
theorem xk_180_350 : xk_OkA xp_F (xp_P sc) xp_cl xp_BW xp_NW xp_SW xp_exn 180 350 (.aload 3) := Or.inr ⟨3, rfl, xd_180_653, rfl⟩
set_option maxRecDepth 100000 in
theorem xk_180_351 : xk_OkA xp_F (xp_P sc) xp_cl xp_BW xp_NW xp_SW xp_exn 180 351 (.iconst 0) := Or.inl ⟨xd_180_654, rfl⟩
set_option maxRecDepth 100000 in
theorem xk_180_352 : xk_OkA xp_F (xp_P sc) xp_cl xp_BW xp_NW xp_SW xp_exn 180 352 (.laload) := ⟨xd_180_655, rfl⟩
set_option maxRecDepth 100000 in
theorem xk_180_353 : xk_OkA xp_F (xp_P sc) xp_cl xp_BW xp_NW xp_SW xp_exn 180 353 (.iload 6) := Or.inl ⟨xd_180_656, rfl⟩
set_option maxRecDepth 100000 in
theorem xk_180_354 : xk_OkA xp_F (xp_P sc) xp_cl xp_BW xp_NW xp_SW xp_exn 180 354 (.i2l) := ⟨xd_180_658, rfl⟩
set_option maxRecDepth 100000 in
theorem xk_180_355 : xk_OkA xp_F (xp_P sc) xp_cl xp_BW xp_NW xp_SW xp_exn 180 355 (.lcmp) := ⟨xd_180_659, rfl⟩
set_option maxRecDepth 100000 in
theorem xk_180_356 : xk_OkA xp_F (xp_P sc) xp_cl xp_BW xp_NW xp_SW xp_exn 180 356 (.ifCond .eq 359) := ⟨_, xd_180_660, by unfold xf_to; decide +kernel, rfl⟩
set_option maxRecDepth 100000 in
theorem xk_180_357 : xk_OkA xp_F (xp_P sc) xp_cl xp_BW xp_NW xp_SW xp_exn 180 357 (.iconst 0) := Or.inl ⟨xd_180_663, rfl⟩
set_option maxRecDepth 100000 in
theorem xk_180_358 : xk_OkA xp_F (xp_P sc) xp_cl xp_BW xp_NW xp_SW xp_exn 180 358 (.freturn) := ⟨xd_180_664, rfl⟩
set_option maxRecDepth 100000 in
theorem xk_180_359 : xk_OkA xp_F (xp_P sc) xp_cl xp_BW xp_NW xp_SW xp_exn 180 359 (.goto 784) := ⟨_, xd_180_665, by unfold xf_to; decide +kernel⟩
set_option maxRecDepth 100000 in
theorem xk_180_360 : xk_OkA xp_F (xp_P sc) xp_cl xp_BW xp_NW xp_SW xp_exn 180 360 (.aload 1) := Or.inr ⟨1, rfl, xd_180_668, rfl⟩
set_option maxRecDepth 100000 in
theorem xk_180_361 : xk_OkA xp_F (xp_P sc) xp_cl xp_BW xp_NW xp_SW xp_exn 180 361 (.aload 0) := Or.inr ⟨0, rfl, xd_180_669, rfl⟩
set_option maxRecDepth 100000 in
theorem xk_180_362 : xk_OkA xp_F (xp_P sc) xp_cl xp_BW xp_NW xp_SW xp_exn 180 362 (.iload 4) := Or.inl ⟨xd_180_670, rfl⟩
set_option maxRecDepth 100000 in
theorem xk_180_363 : xk_OkA xp_F (xp_P sc) xp_cl xp_BW xp_NW xp_SW xp_exn 180 363 (.iconst 1) := Or.inl ⟨xd_180_672, rfl⟩
set_option maxRecDepth 100000 in
theorem xk_180_364 : xk_OkA xp_F (xp_P sc) xp_cl xp_BW xp_NW xp_SW xp_exn 180 364 (.iadd) := ⟨xd_180_673, rfl⟩
set_option maxRecDepth 100000 in
theorem xk_180_365 : xk_OkA xp_F (xp_P sc) xp_cl xp_BW xp_NW xp_SW xp_exn 180 365 (.iaload) := ⟨xd_180_674, rfl⟩
set_option maxRecDepth 100000 in
theorem xk_180_366 : xk_OkA xp_F (xp_P sc) xp_cl xp_BW xp_NW xp_SW xp_exn 180 366 (.aload 0) := Or.inr ⟨0, rfl, xd_180_675, rfl⟩
set_option maxRecDepth 100000 in
theorem xk_180_367 : xk_OkA xp_F (xp_P sc) xp_cl xp_BW xp_NW xp_SW xp_exn 180 367 (.iload 4) := Or.inl ⟨xd_180_676, rfl⟩
set_option maxRecDepth 100000 in
theorem xk_180_368 : xk_OkA xp_F (xp_P sc) xp_cl xp_BW xp_NW xp_SW xp_exn 180 368 (.iconst 2) := Or.inl ⟨xd_180_678, rfl⟩
set_option maxRecDepth 100000 in
theorem xk_180_369 : xk_OkA xp_F (xp_P sc) xp_cl xp_BW xp_NW xp_SW xp_exn 180 369 (.iadd) := ⟨xd_180_679, rfl⟩
set_option maxRecDepth 100000 in
theorem xk_180_370 : xk_OkA xp_F (xp_P sc) xp_cl xp_BW xp_NW xp_SW xp_exn 180 370 (.iaload) := ⟨xd_180_680, rfl⟩
set_option maxRecDepth 100000 in
theorem xk_180_371 : xk_OkA xp_F (xp_P sc) xp_cl xp_BW xp_NW xp_SW xp_exn 180 371 (.aload 3) := Or.inr ⟨3, rfl, xd_180_681, rfl⟩
set_option maxRecDepth 100000 in
theorem xk_180_372 : xk_OkA xp_F (xp_P sc) xp_cl xp_BW xp_NW xp_SW xp_exn 180 372 (.invokeinterface 169 4) := ⟨rfl, Or.inr xwt_614, rfl, rfl, xwt_0, by decide +kernel, by decide +kernel, Nat.le_of_ble_eq_true rfl, _, Or.inl xwt_612, Or.inl ⟨xd_180_682, xwt_613, rfl, by decide +kernel⟩⟩
set_option maxRecDepth 100000 in
theorem xk_180_373 : xk_OkA xp_F (xp_P sc) xp_cl xp_BW xp_NW xp_SW xp_exn 180 373 (.istore 5) := Or.inl ⟨xd_180_685, rfl⟩
set_option maxRecDepth 100000 in
theorem xk_180_374 : xk_OkA xp_F (xp_P sc) xp_cl xp_BW xp_NW xp_SW xp_exn 180 374 (.aload 2) := Or.inr ⟨2, rfl, xd_180_687, rfl⟩
set_option maxRecDepth 100000 in
theorem xk_180_375 : xk_OkA xp_F (xp_P sc) xp_cl xp_BW xp_NW xp_SW xp_exn 180 375 (.aload 0) := Or.inr ⟨0, rfl, xd_180_688, rfl⟩
set_option maxRecDepth 100000 in
theorem xk_180_376 : xk_OkA xp_F (xp_P sc) xp_cl xp_BW xp_NW xp_SW xp_exn 180 376 (.iload 4) := Or.inl ⟨xd_180_689, rfl⟩
set_option maxRecDepth 100000 in
theorem xk_180_377 : xk_OkA xp_F (xp_P sc) xp_cl xp_BW xp_NW xp_SW xp_exn 180 377 (.iconst 1) := Or.inl ⟨xd_180_691, rfl⟩
set_option maxRecDepth 100000 in
theorem xk_180_378 : xk_OkA xp_F (xp_P sc) xp_cl xp_BW xp_NW xp_SW xp_exn 180 378 (.iadd) := ⟨xd_180_692, rfl⟩
set_option maxRecDepth 100000 in
theorem xk_180_379 : xk_OkA xp_F (xp_P sc) xp_cl xp_BW xp_NW xp_SW xp_exn 180 379 (.iaload) := ⟨xd_180_693, rfl⟩
set_option maxRecDepth 100000 in
theorem xk_180_380 : xk_OkA xp_F (xp_P sc) xp_cl xp_BW xp_NW xp_SW xp_exn 180 380 (.aload 0) := Or.inr ⟨0, rfl, xd_180_694, rfl⟩
set_option maxRecDepth 100000 in
theorem xk_180_381 : xk_OkA xp_F (xp_P sc) xp_cl xp_BW xp_NW xp_SW xp_exn 180 381 (.iload 4) := Or.inl ⟨xd_180_695, rfl⟩
set_option maxRecDepth 100000 in
theorem xk_180_382 : xk_OkA xp_F (xp_P sc) xp_cl xp_BW xp_NW xp_SW xp_exn 180 382 (.iconst 2) := Or.inl ⟨xd_180_697, rfl⟩
set_option maxRecDepth 100000 in
theorem xk_180_383 : xk_OkA xp_F (xp_P sc) xp_cl xp_BW xp_NW xp_SW xp_exn 180 383 (.iadd) := ⟨xd_180_698, rfl⟩
set_option maxRecDepth 100000 in
theorem xk_180_384 : xk_OkA xp_F (xp_P sc) xp_cl xp_BW xp_NW xp_SW xp_exn 180 384 (.iaload) := ⟨xd_180_699, rfl⟩
set_option maxRecDepth 100000 in
theorem xk_180_385 : xk_OkA xp_F (xp_P sc) xp_cl xp_BW xp_NW xp_SW xp_exn 180 385 (.invokeinterface 147 3) := ⟨rfl, Or.inl ⟨xwt_949, rfl⟩, rfl, rfl, xwt_5, by decide +kernel, by decide +kernel, Nat.le_of_ble_eq_true rfl, _, Or.inl xwt_946, Or.inr ⟨xd_180_700, xwt_947, xwt_948, ⟨_, _, _, rfl, rfl⟩, by decide +kernel⟩⟩
set_option maxRecDepth 100000 in
theorem xk_180_386 : xk_OkA xp_F (xp_P sc) xp_cl xp_BW xp_NW xp_SW xp_exn 180 386 (.istore 6) := Or.inl ⟨xd_180_703, rfl⟩
set_option maxRecDepth 100000 in
theorem xk_180_387 : xk_OkA xp_F (xp_P sc) xp_cl xp_BW xp_NW xp_SW xp_exn 180 387 (.aload 2) := Or.inr ⟨2, rfl, xd_180_705, rfl⟩
set_option maxRecDepth 100000 in
theorem xk_180_388 : xk_OkA xp_F (xp_P sc) xp_cl xp_BW xp_NW xp_SW xp_exn 180 388 (.invokeinterface 107 1) := ⟨rfl, Or.inl ⟨xwt_797, rfl⟩, rfl, rfl, xwt_5, by decide +kernel, by decide +kernel, Nat.le_of_ble_eq_true rfl, _, Or.inl xwt_794, Or.inr ⟨xd_180_706, xwt_795, xwt_796, ⟨_, _, _, rfl, rfl⟩, by decide +kernel⟩⟩
set_option maxRecDepth 100000 in
theorem xk_180_389 : xk_OkA xp_F (xp_P sc) xp_cl xp_BW xp_NW xp_SW xp_exn 180 389 (.iload 5) := Or.inl ⟨xd_180_709, rfl⟩
set_option maxRecDepth 100000 in
theorem xk_180_390 : xk_OkA xp_F (xp_P sc) xp_cl xp_BW xp_NW xp_SW xp_exn 180 390 (.if_icmp .eq 393) := ⟨_, xd_180_711, by unfold xf_to; decide +kernel, rfl⟩
set_option maxRecDepth 100000 in
theorem xk_180_391 : xk_OkA xp_F (xp_P sc) xp_cl xp_BW xp_NW xp_SW xp_exn 180 391 (.iconst 0) := Or.inl ⟨xd_180_714, rfl⟩
set_option maxRecDepth 100000 in
theorem xk_180_392 : xk_OkA xp_F (xp_P sc) xp_cl xp_BW xp_NW xp_SW xp_exn 180 392 (.freturn) := ⟨xd_180_715, rfl⟩
set_option maxRecDepth 100000 in
theorem xk_180_393 : xk_OkA xp_F (xp_P sc) xp_cl xp_BW xp_NW xp_SW xp_exn 180 393 (.iload 5) := Or.inl ⟨xd_180_716, rfl⟩
set_option maxRecDepth 100000 in
theorem xk_180_394 : xk_OkA xp_F (xp_P sc) xp_cl xp_BW xp_NW xp_SW xp_exn 180 394 (.ifCond .ne 404) := ⟨_, xd_180_718, by unfold xf_to; decide +kernel, rfl⟩
set_option maxRecDepth 100000 in
theorem xk_180_395 : xk_OkA xp_F (xp_P sc) xp_cl xp_BW xp_NW xp_SW xp_exn 180 395 (.aload 3) := Or.inr ⟨3, rfl, xd_180_721, rfl⟩
set_option maxRecDepth 100000 in
theorem xk_180_396 : xk_OkA xp_F (xp_P sc) xp_cl xp_BW xp_NW xp_SW xp_exn 180 396 (.iconst 0) := Or.inl ⟨xd_180_722, rfl⟩
set_option maxRecDepth 100000 in
theorem xk_180_397 : xk_OkA xp_F (xp_P sc) xp_cl xp_BW xp_NW xp_SW xp_exn 180 397 (.laload) := ⟨xd_180_723, rfl⟩
set_option maxRecDepth 100000 in
theorem xk_180_398 : xk_OkA xp_F (xp_P sc) xp_cl xp_BW xp_NW xp_SW xp_exn 180 398 (.iload 6) := Or.inl ⟨xd_180_724, rfl⟩
set_option maxRecDepth 100000 in
theorem xk_180_399 : xk_OkA xp_F (xp_P sc) xp_cl xp_BW xp_NW xp_SW xp_exn 180 399 (.i2l) := ⟨xd_180_726, rfl⟩
set_option maxRecDepth 100000 in
theorem xk_180_400 : xk_OkA xp_F (xp_P sc) xp_cl xp_BW xp_NW xp_SW xp_exn 180 400 (.lcmp) := ⟨xd_180_727, rfl⟩
set_option maxRecDepth 100000 in
theorem xk_180_401 : xk_OkA xp_F (xp_P sc) xp_cl xp_BW xp_NW xp_SW xp_exn 180 401 (.ifCond .eq 404) := ⟨_, xd_180_728, by unfold xf_to; decide +kernel, rfl⟩
set_option maxRecDepth 100000 in
theorem xk_180_402 : xk_OkA xp_F (xp_P sc) xp_cl xp_BW xp_NW xp_SW xp_exn 180 402 (.iconst 0) := Or.inl ⟨xd_180_731, rfl⟩
set_option maxRecDepth 100000 in
theorem xk_180_403 : xk_OkA xp_F (xp_P sc) xp_cl xp_BW xp_NW xp_SW xp_exn 180 403 (.freturn) := ⟨xd_180_732, rfl⟩
set_option maxRecDepth 100000 in
theorem xk_180_404 : xk_OkA xp_F (xp_P sc) xp_cl xp_BW xp_NW xp_SW xp_exn 180 404 (.goto 784) := ⟨_, xd_180_733, by unfold xf_to; decide +kernel⟩
set_option maxRecDepth 100000 in
theorem xk_180_405 : xk_OkA xp_F (xp_P sc) xp_cl xp_BW xp_NW xp_SW xp_exn 180 405 (.aload 1) := Or.inr ⟨1, rfl, xd_180_736, rfl⟩
set_option maxRecDepth 100000 in
theorem xk_180_406 : xk_OkA xp_F (xp_P sc) xp_cl xp_BW xp_NW xp_SW xp_exn 180 406 (.aload 0) := Or.inr ⟨0, rfl, xd_180_737, rfl⟩
set_option maxRecDepth 100000 in
theorem xk_180_407 : xk_OkA xp_F (xp_P sc) xp_cl xp_BW xp_NW xp_SW xp_exn 180 407 (.iload 4) := Or.inl ⟨xd_180_738, rfl⟩
set_option maxRecDepth 100000 in
theorem xk_180_408 : xk_OkA xp_F (xp_P sc) xp_cl xp_BW xp_NW xp_SW xp_exn 180 408 (.iconst 1) := Or.inl ⟨xd_180_740, rfl⟩
set_option maxRecDepth 100000 in
theorem xk_180_409 : xk_OkA xp_F (xp_P sc) xp_cl xp_BW xp_NW xp_SW xp_exn 180 409 (.iadd) := ⟨xd_180_741, rfl⟩
set_option maxRecDepth 100000 in
theorem xk_180_410 : xk_OkA xp_F (xp_P sc) xp_cl xp_BW xp_NW xp_SW xp_exn 180 410 (.iaload) := ⟨xd_180_742, rfl⟩
set_option maxRecDepth 100000 in
theorem xk_180_411 : xk_OkA xp_F (xp_P sc) xp_cl xp_BW xp_NW xp_SW xp_exn 180 411 (.aload 3) := Or.inr ⟨3, rfl, xd_180_743, rfl⟩
set_option maxRecDepth 100000 in
theorem xk_180_412 : xk_OkA xp_F (xp_P sc) xp_cl xp_BW xp_NW xp_SW xp_exn 180 412 (.invokeinterface 170 3) := ⟨rfl, Or.inr xwt_622, rfl, rfl, xwt_0, by decide +kernel, by decide +kernel, Nat.le_of_ble_eq_true rfl, _, Or.inl xwt_620, Or.inl ⟨xd_180_744, xwt_621, rfl, by decide +kernel⟩⟩
set_option maxRecDepth 100000 in
theorem xk_180_413 : xk_OkA xp_F (xp_P sc) xp_cl xp_BW xp_NW xp_SW xp_exn 180 413 (.istore 5) := Or.inl ⟨xd_180_747, rfl⟩
set_option maxRecDepth 100000 in
theorem xk_180_414 : xk_OkA xp_F (xp_P sc) xp_cl xp_BW xp_NW xp_SW xp_exn 180 414 (.aload 2) := Or.inr ⟨2, rfl, xd_180_749, rfl⟩
set_option maxRecDepth 100000 in
theorem xk_180_415 : xk_OkA xp_F (xp_P sc) xp_cl xp_BW xp_NW xp_SW xp_exn 180 415 (.aload 0) := Or.inr ⟨0, rfl, xd_180_750, rfl⟩
set_option maxRecDepth 100000 in
theorem xk_180_416 : xk_OkA xp_F (xp_P sc) xp_cl xp_BW xp_NW xp_SW xp_exn 180 416 (.iload 4) := Or.inl ⟨xd_180_751, rfl⟩
set_option maxRecDepth 100000 in
theorem xk_180_417 : xk_OkA xp_F (xp_P sc) xp_cl xp_BW xp_NW xp_SW xp_exn 180 417 (.iconst 1) := Or.inl ⟨xd_180_753, rfl⟩
set_option maxRecDepth 100000 in
theorem xk_180_418 : xk_OkA xp_F (xp_P sc) xp_cl xp_BW xp_NW xp_SW xp_exn 180 418 (.iadd) := ⟨xd_180_754, rfl⟩
set_option maxRecDepth 100000 in
theorem xk_180_419 : xk_OkA xp_F (xp_P sc) xp_cl xp_BW xp_NW xp_SW xp_exn 180 419 (.iaload) := ⟨xd_180_755, rfl⟩
set_option maxRecDepth 100000 in
theorem xk_180_420 : xk_OkA xp_F (xp_P sc) xp_cl xp_BW xp_NW xp_SW xp_exn 180 420 (.invokeinterface 148 2) := ⟨rfl, Or.inl ⟨xwt_953, rfl⟩, rfl, rfl, xwt_5, by decide +kernel, by decide +kernel, Nat.le_of_ble_eq_true rfl, _, Or.inl xwt_950, Or.inr ⟨xd_180_756, xwt_951, xwt_952, ⟨_, _, _, rfl, rfl⟩, by decide +kernel⟩⟩
set_option maxRecDepth 100000 in
theorem xk_180_421 : xk_OkA xp_F (xp_P sc) xp_cl xp_BW xp_NW xp_SW xp_exn 180 421 (.istore 6) := Or.inl ⟨xd_180_759, rfl⟩
set_option maxRecDepth 100000 in
theorem xk_180_422 : xk_OkA xp_F (xp_P sc) xp_cl xp_BW xp_NW xp_SW xp_exn 180 422 (.aload 2) := Or.inr ⟨2, rfl, xd_180_761, rfl⟩
set_option maxRecDepth 100000 in
theorem xk_180_423 : xk_OkA xp_F (xp_P sc) xp_cl xp_BW xp_NW xp_SW xp_exn 180 423 (.invokeinterface 107 1) := ⟨rfl, Or.inl ⟨xwt_797, rfl⟩, rfl, rfl, xwt_5, by decide +kernel, by decide +kernel, Nat.le_of_ble_eq_true rfl, _, Or.inl xwt_794, Or.inr ⟨xd_180_762, xwt_795, xwt_796, ⟨_, _, _, rfl, rfl⟩, by decide +kernel⟩⟩
set_option maxRecDepth 100000 in
theorem xk_180_424 : xk_OkA xp_F (xp_P sc) xp_cl xp_BW xp_NW xp_SW xp_exn 180 424 (.iload 5) := Or.inl ⟨xd_180_765, rfl⟩
set_option maxRecDepth 100000 in
theorem xk_180_425 : xk_OkA xp_F (xp_P sc) xp_cl xp_BW xp_NW xp_SW xp_exn 180 425 (.if_icmp .eq 428) := ⟨_, xd_180_767, by unfold xf_to; decide +kernel, rfl⟩
set_option maxRecDepth 100000 in
theorem xk_180_426 : xk_OkA xp_F (xp_P sc) xp_cl xp_BW xp_NW xp_SW xp_exn 180 426 (.iconst 0) := Or.inl ⟨xd_180_770, rfl⟩
set_option maxRecDepth 100000 in
theorem xk_180_427 : xk_OkA xp_F (xp_P sc) xp_cl xp_BW xp_NW xp_SW xp_exn 180 427 (.freturn) := ⟨xd_180_771, rfl⟩
set_option maxRecDepth 100000 in
theorem xk_180_428 : xk_OkA xp_F (xp_P sc) xp_cl xp_BW xp_NW xp_SW xp_exn 180 428 (.iload 5) := Or.inl ⟨xd_180_772, rfl⟩
set_option maxRecDepth 100000 in
theorem xk_180_429 : xk_OkA xp_F (xp_P sc) xp_cl xp_BW xp_NW xp_SW xp_exn 180 429 (.ifCond .ne 439) := ⟨_, xd_180_774, by unfold xf_to; decide +kernel, rfl⟩
set_option maxRecDepth 100000 in
theorem xk_180_430 : xk_OkA xp_F (xp_P sc) xp_cl xp_BW xp_NW xp_SW xp_exn 180 430 (.aload 3) := Or.inr ⟨3, rfl, xd_180_777, rfl⟩
set_option maxRecDepth 100000 in
theorem xk_180_431 : xk_OkA xp_F (xp_P sc) xp_cl xp_BW xp_NW xp_SW xp_exn 180 431 (.iconst 0) := Or.inl ⟨xd_180_778, rfl⟩
set_option maxRecDepth 100000 in
theorem xk_180_432 : xk_OkA xp_F (xp_P sc) xp_cl xp_BW xp_NW xp_SW xp_exn 180 432 (.laload) := ⟨xd_180_779, rfl⟩
set_option maxRecDepth 100000 in
theorem xk_180_433 : xk_OkA xp_F (xp_P sc) xp_cl xp_BW xp_NW xp_SW xp_exn 180 433 (.iload 6) := Or.inl ⟨xd_180_780, rfl⟩
set_option maxRecDepth 100000 in
theorem xk_180_434 : xk_OkA xp_F (xp_P sc) xp_cl xp_BW xp_NW xp_SW xp_exn 180 434 (.i2l) := ⟨xd_180_782, rfl⟩
set_option maxRecDepth 100000 in
theorem xk_180_435 : xk_OkA xp_F (xp_P sc) xp_cl xp_BW xp_NW xp_SW xp_exn 180 435 (.lcmp) := ⟨xd_180_783, rfl⟩
set_option maxRecDepth 100000 in
theorem xk_180_436 : xk_OkA xp_F (xp_P sc) xp_cl xp_BW xp_NW xp_SW xp_exn 180 436 (.ifCond .eq 439) := ⟨_, xd_180_784, by unfold xf_to; decide +kernel, rfl⟩
set_option maxRecDepth 100000 in
theorem xk_180_437 : xk_OkA xp_F (xp_P sc) xp_cl xp_BW xp_NW xp_SW xp_exn 180 437 (.iconst 0) := Or.inl ⟨xd_180_787, rfl⟩
set_option maxRecDepth 100000 in
theorem xk_180_438 : xk_OkA xp_F (xp_P sc) xp_cl xp_BW xp_NW xp_SW xp_exn 180 438 (.freturn) := ⟨xd_180_788, rfl⟩
set_option maxRecDepth 100000 in
theorem xk_180_439 : xk_OkA xp_F (xp_P sc) xp_cl xp_BW xp_NW xp_SW xp_exn 180 439 (.goto 784) := ⟨_, xd_180_789, by unfold xf_to; decide +kernel⟩
set_option maxRecDepth 100000 in
theorem xk_180_440 : xk_OkA xp_F (xp_P sc) xp_cl xp_BW xp_NW xp_SW xp_exn 180 440 (.aload 1) := Or.inr ⟨1, rfl, xd_180_792, rfl⟩
set_option maxRecDepth 100000 in
theorem xk_180_441 : xk_OkA xp_F (xp_P sc) xp_cl xp_BW xp_NW xp_SW xp_exn 180 441 (.aload 3) := Or.inr ⟨3, rfl, xd_180_793, rfl⟩
set_option maxRecDepth 100000 in
theorem xk_180_442 : xk_OkA xp_F (xp_P sc) xp_cl xp_BW xp_NW xp_SW xp_exn 180 442 (.invokeinterface 171 2) := ⟨rfl, Or.inr xwt_634, rfl, rfl, xwt_0, by decide +kernel, by decide +kernel, Nat.le_of_ble_eq_true rfl, _, Or.inl xwt_632, Or.inl ⟨xd_180_794, xwt_633, rfl, by decide +kernel⟩⟩
set_option maxRecDepth 100000 in
theorem xk_180_443 : xk_OkA xp_F (xp_P sc) xp_cl xp_BW xp_NW xp_SW xp_exn 180 443 (.istore 5) := Or.inl ⟨xd_180_797, rfl⟩
set_option maxRecDepth 100000 in
theorem xk_180_444 : xk_OkA xp_F (xp_P sc) xp_cl xp_BW xp_NW xp_SW xp_exn 180 444 (.aload 2) := Or.inr ⟨2, rfl, xd_180_799, rfl⟩
set_option maxRecDepth 100000 in
theorem xk_180_445 : xk_OkA xp_F (xp_P sc) xp_cl xp_BW xp_NW xp_SW xp_exn 180 445 (.invokeinterface 149 1) := ⟨rfl, Or.inl ⟨xwt_957, rfl⟩, rfl, rfl, xwt_5, by decide +kernel, by decide +kernel, Nat.le_of_ble_eq_true rfl, _, Or.inl xwt_954, Or.inr ⟨xd_180_800, xwt_955, xwt_956, ⟨_, _, _, rfl, rfl⟩, by decide +kernel⟩⟩
set_option maxRecDepth 100000 in
theorem xk_180_446 : xk_OkA xp_F (xp_P sc) xp_cl xp_BW xp_NW xp_SW xp_exn 180 446 (.istore 6) := Or.inl ⟨xd_180_803, rfl⟩
set_option maxRecDepth 100000 in
theorem xk_180_447 : xk_OkA xp_F (xp_P sc) xp_cl xp_BW xp_NW xp_SW xp_exn 180 447 (.aload 2) := Or.inr ⟨2, rfl, xd_180_805, rfl⟩
set_option maxRecDepth 100000 in
theorem xk_180_448 : xk_OkA xp_F (xp_P sc) xp_cl xp_BW xp_NW xp_SW xp_exn 180 448 (.invokeinterface 107 1) := ⟨rfl, Or.inl ⟨xwt_797, rfl⟩, rfl, rfl, xwt_5, by decide +kernel, by decide +kernel, Nat.le_of_ble_eq_true rfl, _, Or.inl xwt_794, Or.inr ⟨xd_180_806, xwt_795, xwt_796, ⟨_, _, _, rfl, rfl⟩, by decide +kernel⟩⟩
set_option maxRecDepth 100000 in
theorem xk_180_449 : xk_OkA xp_F (xp_P sc) xp_cl xp_BW xp_NW xp_SW xp_exn 180 449 (.iload 5) := Or.inl ⟨xd_180_809, rfl⟩
set_option maxRecDepth 100000 in
theorem xk_180_450 : xk_OkA xp_F (xp_P sc) xp_cl xp_BW xp_NW xp_SW xp_exn 180 450 (.if_icmp .eq 453) := ⟨_, xd_180_811, by unfold xf_to; decide +kernel, rfl⟩
set_option maxRecDepth 100000 in
theorem xk_180_451 : xk_OkA xp_F (xp_P sc) xp_cl xp_BW xp_NW xp_SW xp_exn 180 451 (.iconst 0) := Or.inl ⟨xd_180_814, rfl⟩
set_option maxRecDepth 100000 in
theorem xk_180_452 : xk_OkA xp_F (xp_P sc) xp_cl xp_BW xp_NW xp_SW xp_exn 180 452 (.freturn) := ⟨xd_180_815, rfl⟩
set_option maxRecDepth 100000 in
theorem xk_180_453 : xk_OkA xp_F (xp_P sc) xp_cl xp_BW xp_NW xp_SW xp_exn 180 453 (.iload 5) := Or.inl ⟨xd_180_816, rfl⟩
set_option maxRecDepth 100000 in
theorem xk_180_454 : xk_OkA xp_F (xp_P sc) xp_cl xp_BW xp_NW xp_SW xp_exn 180 454 (.ifCond .ne 464) := ⟨_, xd_180_818, by unfold xf_to; decide +kernel, rfl⟩
set_option maxRecDepth 100000 in
theorem xk_180_455 : xk_OkA xp_F (xp_P sc) xp_cl xp_BW xp_NW xp_SW xp_exn 180 455 (.aload 3) := Or.inr ⟨3, rfl, xd_180_821, rfl⟩
set_option maxRecDepth 100000 in
theorem xk_180_456 : xk_OkA xp_F (xp_P sc) xp_cl xp_BW xp_NW xp_SW xp_exn 180 456 (.iconst 0) := Or.inl ⟨xd_180_822, rfl⟩
set_option maxRecDepth 100000 in
theorem xk_180_457 : xk_OkA xp_F (xp_P sc) xp_cl xp_BW xp_NW xp_SW xp_exn 180 457 (.laload) := ⟨xd_180_823, rfl⟩
set_option maxRecDepth 100000 in
theorem xk_180_458 : xk_OkA xp_F (xp_P sc) xp_cl xp_BW xp_NW xp_SW xp_exn 180 458 (.iload 6) := Or.inl ⟨xd_180_824, rfl⟩
set_option maxRecDepth 100000 in
theorem xk_180_459 : xk_OkA xp_F (xp_P sc) xp_cl xp_BW xp_NW xp_SW xp_exn 180 459 (.i2l) := ⟨xd_180_826, rfl⟩
set_option maxRecDepth 100000 in
theorem xk_180_460 : xk_OkA xp_F (xp_P sc) xp_cl xp_BW xp_NW xp_SW xp_exn 180 460 (.lcmp) := ⟨xd_180_827, rfl⟩
set_option maxRecDepth 100000 in
theorem xk_180_461 : xk_OkA xp_F (xp_P sc) xp_cl xp_BW xp_NW xp_SW xp_exn 180 461 (.ifCond .eq 464) := ⟨_, xd_180_828, by unfold xf_to; decide +kernel, rfl⟩
set_option maxRecDepth 100000 in
theorem xk_180_462 : xk_OkA xp_F (xp_P sc) xp_cl xp_BW xp_NW xp_SW xp_exn 180 462 (.iconst 0) := Or.inl ⟨xd_180_831, rfl⟩
set_option maxRecDepth 100000 in
theorem xk_180_463 : xk_OkA xp_F (xp_P sc) xp_cl xp_BW xp_NW xp_SW xp_exn 180 463 (.freturn) := ⟨xd_180_832, rfl⟩
set_option maxRecDepth 100000 in
theorem xk_180_464 : xk_OkA xp_F (xp_P sc) xp_cl xp_BW xp_NW xp_SW xp_exn 180 464 (.goto 784) := ⟨_, xd_180_833, by unfold xf_to; decide +kernel⟩
set_option maxRecDepth 100000 in
theorem xk_180_465 : xk_OkA xp_F (xp_P sc) xp_cl xp_BW xp_NW xp_SW xp_exn 180 465 (.aload 1) := Or.inr ⟨1, rfl, xd_180_836, rfl⟩
set_option maxRecDepth 100000 in
theorem xk_180_466 : xk_OkA xp_F (xp_P sc) xp_cl xp_BW xp_NW xp_SW xp_exn 180 466 (.invokeinterface 52 1) := ⟨rfl, Or.inl ⟨xwt_99, rfl⟩, rfl, rfl, xwt_1, by decide +kernel, by decide +kernel, Nat.le_of_ble_eq_true rfl, _, Or.inl xwt_96, Or.inr ⟨xd_180_837, xwt_97, xwt_98, ⟨_, _, _, rfl, rfl⟩, by decide +kernel⟩⟩
set_option maxRecDepth 100000 in
theorem xk_180_467 : xk_OkA xp_F (xp_P sc) xp_cl xp_BW xp_NW xp_SW xp_exn 180 467 (.aload 2) := Or.inr ⟨2, rfl, xd_180_840, rfl⟩
set_option maxRecDepth 100000 in
theorem xk_180_468 : xk_OkA xp_F (xp_P sc) xp_cl xp_BW xp_NW xp_SW xp_exn 180 468 (.invokeinterface 150 1) := ⟨rfl, Or.inl ⟨xwt_961, rfl⟩, rfl, rfl, xwt_5, by decide +kernel, by decide +kernel, Nat.le_of_ble_eq_true rfl, _, Or.inl xwt_958, Or.inr ⟨xd_180_841, xwt_959, xwt_960, ⟨_, _, _, rfl, rfl⟩, by decide +kernel⟩⟩
set_option maxRecDepth 100000 in
theorem xk_180_469 : xk_OkA xp_F (xp_P sc) xp_cl xp_BW xp_NW xp_SW xp_exn 180 469 (.if_icmp .eq 784) := ⟨_, xd_180_844, by unfold xf_to; decide +kernel, rfl⟩
set_option maxRecDepth 100000 in
theorem xk_180_470 : xk_OkA xp_F (xp_P sc) xp_cl xp_BW xp_NW xp_SW xp_exn 180 470 (.iconst 0) := Or.inl ⟨xd_180_847, rfl⟩
set_option maxRecDepth 100000 in
theorem xk_180_471 : xk_OkA xp_F (xp_P sc) xp_cl xp_BW xp_NW xp_SW xp_exn 180 471 (.freturn) := ⟨xd_180_848, rfl⟩
set_option maxRecDepth 100000 in
theorem xk_180_472 : xk_OkA xp_F (xp_P sc) xp_cl xp_BW xp_NW xp_SW xp_exn 180 472 (.aload 1) := Or.inr ⟨1, rfl, xd_180_849, rfl⟩
set_option maxRecDepth 100000 in
theorem xk_180_473 : xk_OkA xp_F (xp_P sc) xp_cl xp_BW xp_NW xp_SW xp_exn 180 473 (.aload 0) := Or.inr ⟨0, rfl, xd_180_850, rfl⟩
set_option maxRecDepth 100000 in
theorem xk_180_474 : xk_OkA xp_F (xp_P sc) xp_cl xp_BW xp_NW xp_SW xp_exn 180 474 (.iload 4) := Or.inl ⟨xd_180_851, rfl⟩
set_option maxRecDepth 100000 in
theorem xk_180_475 : xk_OkA xp_F (xp_P sc) xp_cl xp_BW xp_NW xp_SW xp_exn 180 475 (.iconst 1) := Or.inl ⟨xd_180_853, rfl⟩
set_option maxRecDepth 100000 in
theorem xk_180_476 : xk_OkA xp_F (xp_P sc) xp_cl xp_BW xp_NW xp_SW xp_exn 180 476 (.iadd) := ⟨xd_180_854, rfl⟩
set_option maxRecDepth 100000 in
theorem xk_180_477 : xk_OkA xp_F (xp_P sc) xp_cl xp_BW xp_NW xp_SW xp_exn 180 477 (.iaload) := ⟨xd_180_855, rfl⟩
set_option maxRecDepth 100000 in
theorem xk_180_478 : xk_OkA xp_F (xp_P sc) xp_cl xp_BW xp_NW xp_SW xp_exn 180 478 (.aload 0) := Or.inr ⟨0, rfl, xd_180_856, rfl⟩
set_option maxRecDepth 100000 in
theorem xk_180_479 : xk_OkA xp_F (xp_P sc) xp_cl xp_BW xp_NW xp_SW xp_exn 180 479 (.iload 4) := Or.inl ⟨xd_180_857, rfl⟩
set_option maxRecDepth 100000 in
theorem xk_180_480 : xk_OkA xp_F (xp_P sc) xp_cl xp_BW xp_NW xp_SW xp_exn 180 480 (.iconst 2) := Or.inl ⟨xd_180_859, rfl⟩
set_option maxRecDepth 100000 in
theorem xk_180_481 : xk_OkA xp_F (xp_P sc) xp_cl xp_BW xp_NW xp_SW xp_exn 180 481 (.iadd) := ⟨xd_180_860, rfl⟩
set_option maxRecDepth 100000 in
theorem xk_180_482 : xk_OkA xp_F (xp_P sc) xp_cl xp_BW xp_NW xp_SW xp_exn 180 482 (.iaload) := ⟨xd_180_861, rfl⟩
set_option maxRecDepth 100000 in
theorem xk_180_483 : xk_OkA xp_F (xp_P sc) xp_cl xp_BW xp_NW xp_SW xp_exn 180 483 (.aload 3) := Or.inr ⟨3, rfl, xd_180_862, rfl⟩
set_option maxRecDepth 100000 in
theorem xk_180_484 : xk_OkA xp_F (xp_P sc) xp_cl xp_BW xp_NW xp_SW xp_exn 180 484 (.invokeinterface 172 4) := ⟨rfl, Or.inr xwt_658, rfl, rfl, xwt_0, by decide +kernel, by decide +kernel, Nat.le_of_ble_eq_true rfl, _, Or.inl xwt_656, Or.inl ⟨xd_180_863, xwt_657, rfl, by decide +kernel⟩⟩
set_option maxRecDepth 100000 in
theorem xk_180_485 : xk_OkA xp_F (xp_P sc) xp_cl xp_BW xp_NW xp_SW xp_exn 180 485 (.istore 5) := Or.inl ⟨xd_180_866, rfl⟩
set_option maxRecDepth 100000 in
theorem xk_180_486 : xk_OkA xp_F (xp_P sc) xp_cl xp_BW xp_NW xp_SW xp_exn 180 486 (.aload 2) := Or.inr ⟨2, rfl, xd_180_868, rfl⟩
set_option maxRecDepth 100000 in
theorem xk_180_487 : xk_OkA xp_F (xp_P sc) xp_cl xp_BW xp_NW xp_SW xp_exn 180 487 (.aload 0) := Or.inr ⟨0, rfl, xd_180_869, rfl⟩
set_option maxRecDepth 100000 in
theorem xk_180_488 : xk_OkA xp_F (xp_P sc) xp_cl xp_BW xp_NW xp_SW xp_exn 180 488 (.iload 4) := Or.inl ⟨xd_180_870, rfl⟩
set_option maxRecDepth 100000 in
theorem xk_180_489 : xk_OkA xp_F (xp_P sc) xp_cl xp_BW xp_NW xp_SW xp_exn 180 489 (.iconst 1) := Or.inl ⟨xd_180_872, rfl⟩
set_option maxRecDepth 100000 in
theorem xk_180_490 : xk_OkA xp_F (xp_P sc) xp_cl xp_BW xp_NW xp_SW xp_exn 180 490 (.iadd) := ⟨xd_180_873, rfl⟩
set_option maxRecDepth 100000 in
theorem xk_180_491 : xk_OkA xp_F (xp_P sc) xp_cl xp_BW xp_NW xp_SW xp_exn 180 491 (.iaload) := ⟨xd_180_874, rfl⟩
set_option maxRecDepth 100000 in
theorem xk_180_492 : xk_OkA xp_F (xp_P sc) xp_cl xp_BW xp_NW xp_SW xp_exn 180 492 (.aload 0) := Or.inr ⟨0, rfl, xd_180_875, rfl⟩
set_option maxRecDepth 100000 in
theorem xk_180_493 : xk_OkA xp_F (xp_P sc) xp_cl xp_BW xp_NW xp_SW xp_exn 180 493 (.iload 4) := Or.inl ⟨xd_180_876, rfl⟩
set_option maxRecDepth 100000 in
theorem xk_180_494 : xk_OkA xp_F (xp_P sc) xp_cl xp_BW xp_NW xp_SW xp_exn 180 494 (.iconst 2) := Or.inl ⟨xd_180_878, rfl⟩
set_option maxRecDepth 100000 in
theorem xk_180_495 : xk_OkA xp_F (xp_P sc) xp_cl xp_BW xp_NW xp_SW xp_exn 180 495 (.iadd) := ⟨xd_180_879, rfl⟩
set_option maxRecDepth 100000 in
theorem xk_180_496 : xk_OkA xp_F (xp_P sc) xp_cl xp_BW xp_NW xp_SW xp_exn 180 496 (.iaload) := ⟨xd_180_880, rfl⟩
set_option maxRecDepth 100000 in
theorem xk_180_497 : xk_OkA xp_F (xp_P sc) xp_cl xp_BW xp_NW xp_SW xp_exn 180 497 (.invokeinterface 151 3) := ⟨rfl, Or.inl ⟨xwt_965, rfl⟩, rfl, rfl, xwt_5, by decide +kernel, by decide +kernel, Nat.le_of_ble_eq_true rfl, _, Or.inl xwt_962, Or.inr ⟨xd_180_881, xwt_963, xwt_964, ⟨_, _, _, rfl, rfl⟩, by decide +kernel⟩⟩
set_option maxRecDepth 100000 in
theorem xk_180_498 : xk_OkA xp_F (xp_P sc) xp_cl xp_BW xp_NW xp_SW xp_exn 180 498 (.istore 6) := Or.inl ⟨xd_180_884, rfl⟩
set_option maxRecDepth 100000 in
theorem xk_180_499 : xk_OkA xp_F (xp_P sc) xp_cl xp_BW xp_NW xp_SW xp_exn 180 499 (.aload 2) := Or.inr ⟨2, rfl, xd_180_886, rfl⟩
set_option maxRecDepth 100000 in
theorem xk_180_500 : xk_OkA xp_F (xp_P sc) xp_cl xp_BW xp_NW xp_SW xp_exn 180 500 (.invokeinterface 107 1) := ⟨rfl, Or.inl ⟨xwt_797, rfl⟩, rfl, rfl, xwt_5, by decide +kernel, by decide +kernel, Nat.le_of_ble_eq_true rfl, _, Or.inl xwt_794, Or.inr ⟨xd_180_887, xwt_795, xwt_796, ⟨_, _, _, rfl, rfl⟩, by decide +kernel⟩⟩
set_option maxRecDepth 100000 in
theorem xk_180_501 : xk_OkA xp_F (xp_P sc) xp_cl xp_BW xp_NW xp_SW xp_exn 180 501 (.iload 5) := Or.inl ⟨xd_180_890, rfl⟩
set_option maxRecDepth 100000 in
theorem xk_180_502 : xk_OkA xp_F (xp_P sc) xp_cl xp_BW xp_NW xp_SW xp_exn 180 502 (.if_icmp .eq 505) := ⟨_, xd_180_892, by unfold xf_to; decide +kernel, rfl⟩
set_option maxRecDepth 100000 in
theorem xk_180_503 : xk_OkA xp_F (xp_P sc) xp_cl xp_BW xp_NW xp_SW xp_exn 180 503 (.iconst 0) := Or.inl ⟨xd_180_895, rfl⟩
set_option maxRecDepth 100000 in
theorem xk_180_504 : xk_OkA xp_F (xp_P sc) xp_cl xp_BW xp_NW xp_SW xp_exn 180 504 (.freturn) := ⟨xd_180_896, rfl⟩
set_option maxRecDepth 100000 in
theorem xk_180_505 : xk_OkA xp_F (xp_P sc) xp_cl xp_BW xp_NW xp_SW xp_exn 180 505 (.iload 5) := Or.inl ⟨xd_180_897, rfl⟩
set_option maxRecDepth 100000 in
theorem xk_180_506 : xk_OkA xp_F (xp_P sc) xp_cl xp_BW xp_NW xp_SW xp_exn 180 506 (.ifCond .ne 516) := ⟨_, xd_180_899, by unfold xf_to; decide +kernel, rfl⟩
set_option maxRecDepth 100000 in
theorem xk_180_507 : xk_OkA xp_F (xp_P sc) xp_cl xp_BW xp_NW xp_SW xp_exn 180 507 (.aload 3) := Or.inr ⟨3, rfl, xd_180_902, rfl⟩
set_option maxRecDepth 100000 in
theorem xk_180_508 : xk_OkA xp_F (xp_P sc) xp_cl xp_BW xp_NW xp_SW xp_exn 180 508 (.iconst 0) := Or.inl ⟨xd_180_903, rfl⟩
set_option maxRecDepth 100000 in
theorem xk_180_509 : xk_OkA xp_F (xp_P sc) xp_cl xp_BW xp_NW xp_SW xp_exn 180 509 (.laload) := ⟨xd_180_904, rfl⟩
set_option maxRecDepth 100000 in
theorem xk_180_510 : xk_OkA xp_F (xp_P sc) xp_cl xp_BW xp_NW xp_SW xp_exn 180 510 (.iload 6) := Or.inl ⟨xd_180_905, rfl⟩
set_option maxRecDepth 100000 in
theorem xk_180_511 : xk_OkA xp_F (xp_P sc) xp_cl xp_BW xp_NW xp_SW xp_exn 180 511 (.i2l) := ⟨xd_180_907, rfl⟩
set_option maxRecDepth 100000 in
theorem xk_180_512 : xk_OkA xp_F (xp_P sc) xp_cl xp_BW xp_NW xp_SW xp_exn 180 512 (.lcmp) := ⟨xd_180_908, rfl⟩
set_option maxRecDepth 100000 in
theorem xk_180_513 : xk_OkA xp_F (xp_P sc) xp_cl xp_BW xp_NW xp_SW xp_exn 180 513 (.ifCond .eq 516) := ⟨_, xd_180_909, by unfold xf_to; decide +kernel, rfl⟩
set_option maxRecDepth 100000 in
theorem xk_180_514 : xk_OkA xp_F (xp_P sc) xp_cl xp_BW xp_NW xp_SW xp_exn 180 514 (.iconst 0) := Or.inl ⟨xd_180_912, rfl⟩
set_option maxRecDepth 100000 in
theorem xk_180_515 : xk_OkA xp_F (xp_P sc) xp_cl xp_BW xp_NW xp_SW xp_exn 180 515 (.freturn) := ⟨xd_180_913, rfl⟩
set_option maxRecDepth 100000 in
theorem xk_180_516 : xk_OkA xp_F (xp_P sc) xp_cl xp_BW xp_NW xp_SW xp_exn 180 516 (.goto 784) := ⟨_, xd_180_914, by unfold xf_to; decide +kernel⟩
set_option maxRecDepth 100000 in
theorem xk_180_517 : xk_OkA xp_F (xp_P sc) xp_cl xp_BW xp_NW xp_SW xp_exn 180 517 (.aload 1) := Or.inr ⟨1, rfl, xd_180_917, rfl⟩
set_option maxRecDepth 100000 in
theorem xk_180_518 : xk_OkA xp_F (xp_P sc) xp_cl xp_BW xp_NW xp_SW xp_exn 180 518 (.aload 0) := Or.inr ⟨0, rfl, xd_180_918, rfl⟩
set_option maxRecDepth 100000 in
theorem xk_180_519 : xk_OkA xp_F (xp_P sc) xp_cl xp_BW xp_NW xp_SW xp_exn 180 519 (.iload 4) := Or.inl ⟨xd_180_919, rfl⟩
set_option maxRecDepth 100000 in
theorem xk_180_520 : xk_OkA xp_F (xp_P sc) xp_cl xp_BW xp_NW xp_SW xp_exn 180 520 (.iconst 1) := Or.inl ⟨xd_180_921, rfl⟩
set_option maxRecDepth 100000 in
theorem xk_180_521 : xk_OkA xp_F (xp_P sc) xp_cl xp_BW xp_NW xp_SW xp_exn 180 521 (.iadd) := ⟨xd_180_922, rfl⟩
set_option maxRecDepth 100000 in
theorem xk_180_522 : xk_OkA xp_F (xp_P sc) xp_cl xp_BW xp_NW xp_SW xp_exn 180 522 (.iaload) := ⟨xd_180_923, rfl⟩
set_option maxRecDepth 100000 in
theorem xk_180_523 : xk_OkA xp_F (xp_P sc) xp_cl xp_BW xp_NW xp_SW xp_exn 180 523 (.aload 0) := Or.inr ⟨0, rfl, xd_180_924, rfl⟩
set_option maxRecDepth 100000 in
theorem xk_180_524 : xk_OkA xp_F (xp_P sc) xp_cl xp_BW xp_NW xp_SW xp_exn 180 524 (.iload 4) := Or.inl ⟨xd_180_925, rfl⟩
set_option maxRecDepth 100000 in
theorem xk_180_525 : xk_OkA xp_F (xp_P sc) xp_cl xp_BW xp_NW xp_SW xp_exn 180 525 (.iconst 2) := Or.inl ⟨xd_180_927, rfl⟩
set_option maxRecDepth 100000 in
theorem xk_180_526 : xk_OkA xp_F (xp_P sc) xp_cl xp_BW xp_NW xp_SW xp_exn 180 526 (.iadd) := ⟨xd_180_928, rfl⟩
set_option maxRecDepth 100000 in
theorem xk_180_527 : xk_OkA xp_F (xp_P sc) xp_cl xp_BW xp_NW xp_SW xp_exn 180 527 (.iaload) := ⟨xd_180_929, rfl⟩
set_option maxRecDepth 100000 in
theorem xk_180_528 : xk_OkA xp_F (xp_P sc) xp_cl xp_BW xp_NW xp_SW xp_exn 180 528 (.aload 0) := Or.inr ⟨0, rfl, xd_180_930, rfl⟩
set_option maxRecDepth 100000 in
theorem xk_180_529 : xk_OkA xp_F (xp_P sc) xp_cl xp_BW xp_NW xp_SW xp_exn 180 529 (.iload 4) := Or.inl ⟨xd_180_931, rfl⟩
set_option maxRecDepth 100000 in
theorem xk_180_530 : xk_OkA xp_F (xp_P sc) xp_cl xp_BW xp_NW xp_SW xp_exn 180 530 (.iconst 3) := Or.inl ⟨xd_180_933, rfl⟩
set_option maxRecDepth 100000 in
theorem xk_180_531 : xk_OkA xp_F (xp_P sc) xp_cl xp_BW xp_NW xp_SW xp_exn 180 531 (.iadd) := ⟨xd_180_934, rfl⟩
set_option maxRecDepth 100000 in
theorem xk_180_532 : xk_OkA xp_F (xp_P sc) xp_cl xp_BW xp_NW xp_SW xp_exn 180 532 (.iaload) := ⟨xd_180_935, rfl⟩
set_option maxRecDepth 100000 in
theorem xk_180_533 : xk_OkA xp_F (xp_P sc) xp_cl xp_BW xp_NW xp_SW xp_exn 180 533 (.aload 3) := Or.inr ⟨3, rfl, xd_180_936, rfl⟩
set_option maxRecDepth 100000 in
theorem xk_180_534 : xk_OkA xp_F (xp_P sc) xp_cl xp_BW xp_NW xp_SW xp_exn 180 534 (.invokeinterface 173 5) := ⟨rfl, Or.inr xwt_666, rfl, rfl, xwt_0, by decide +kernel, by decide +kernel, Nat.le_of_ble_eq_true rfl, _, Or.inl xwt_664, Or.inl ⟨xd_180_937, xwt_665, rfl, by decide +kernel⟩⟩
set_option maxRecDepth 100000 in
theorem xk_180_535 : xk_OkA xp_F (xp_P sc) xp_cl xp_BW xp_NW xp_SW xp_exn 180 535 (.istore 5) := Or.inl ⟨xd_180_940, rfl⟩
set_option maxRecDepth 100000 in
theorem xk_180_536 : xk_OkA xp_F (xp_P sc) xp_cl xp_BW xp_NW xp_SW xp_exn 180 536 (.aload 2) := Or.inr ⟨2, rfl, xd_180_942, rfl⟩
set_option maxRecDepth 100000 in
theorem xk_180_537 : xk_OkA xp_F (xp_P sc) xp_cl xp_BW xp_NW xp_SW xp_exn 180 537 (.aload 0) := Or.inr ⟨0, rfl, xd_180_943, rfl⟩
set_option maxRecDepth 100000 in
theorem xk_180_538 : xk_OkA xp_F (xp_P sc) xp_cl xp_BW xp_NW xp_SW xp_exn 180 538 (.iload 4) := Or.inl ⟨xd_180_944, rfl⟩
set_option maxRecDepth 100000 in
theorem xk_180_539 : xk_OkA xp_F (xp_P sc) xp_cl xp_BW xp_NW xp_SW xp_exn 180 539 (.iconst 1) := Or.inl ⟨xd_180_946, rfl⟩
set_option maxRecDepth 100000 in
theorem xk_180_540 : xk_OkA xp_F (xp_P sc) xp_cl xp_BW xp_NW xp_SW xp_exn 180 540 (.iadd) := ⟨xd_180_947, rfl⟩
set_option maxRecDepth 100000 in
theorem xk_180_541 : xk_OkA xp_F (xp_P sc) xp_cl xp_BW xp_NW xp_SW xp_exn 180 541 (.iaload) := ⟨xd_180_948, rfl⟩
set_option maxRecDepth 100000 in
theorem xk_180_542 : xk_OkA xp_F (xp_P sc) xp_cl xp_BW xp_NW xp_SW xp_exn 180 542 (.aload 0) := Or.inr ⟨0, rfl, xd_180_949, rfl⟩
set_option maxRecDepth 100000 in
theorem xk_180_543 : xk_OkA xp_F (xp_P sc) xp_cl xp_BW xp_NW xp_SW xp_exn 180 543 (.iload 4) := Or.inl ⟨xd_180_950, rfl⟩
set_option maxRecDepth 100000 in
theorem xk_180_544 : xk_OkA xp_F (xp_P sc) xp_cl xp_BW xp_NW xp_SW xp_exn 180 544 (.iconst 2) := Or.inl ⟨xd_180_952, rfl⟩
set_option maxRecDepth 100000 in
theorem xk_180_545 : xk_OkA xp_F (xp_P sc) xp_cl xp_BW xp_NW xp_SW xp_exn 180 545 (.iadd) := ⟨xd_180_953, rfl⟩
set_option maxRecDepth 100000 in
theorem xk_180_546 : xk_OkA xp_F (xp_P sc) xp_cl xp_BW xp_NW xp_SW xp_exn 180 546 (.iaload) := ⟨xd_180_954, rfl⟩
set_option maxRecDepth 100000 in
theorem xk_180_547 : xk_OkA xp_F (xp_P sc) xp_cl xp_BW xp_NW xp_SW xp_exn 180 547 (.aload 0) := Or.inr ⟨0, rfl, xd_180_955, rfl⟩
set_option maxRecDepth 100000 in
theorem xk_180_548 : xk_OkA xp_F (xp_P sc) xp_cl xp_BW xp_NW xp_SW xp_exn 180 548 (.iload 4) := Or.inl ⟨xd_180_956, rfl⟩
set_option maxRecDepth 100000 in
theorem xk_180_549 : xk_OkA xp_F (xp_P sc) xp_cl xp_BW xp_NW xp_SW xp_exn 180 549 (.iconst 3) := Or.inl ⟨xd_180_958, rfl⟩
set_option maxRecDepth 100000 in
theorem xk_180_550 : xk_OkA xp_F (xp_P sc) xp_cl xp_BW xp_NW xp_SW xp_exn 180 550 (.iadd) := ⟨xd_180_959, rfl⟩
set_option maxRecDepth 100000 in
theorem xk_180_551 : xk_OkA xp_F (xp_P sc) xp_cl xp_BW xp_NW xp_SW xp_exn 180 551 (.iaload) := ⟨xd_180_960, rfl⟩
set_option maxRecDepth 100000 in
theorem xk_180_552 : xk_OkA xp_F (xp_P sc) xp_cl xp_BW xp_NW xp_SW xp_exn 180 552 (.invokeinterface 152 4) := ⟨rfl, Or.inl ⟨xwt_969, rfl⟩, rfl, rfl, xwt_5, by decide +kernel, by decide +kernel, Nat.le_of_ble_eq_true rfl, _, Or.inl xwt_966, Or.inr ⟨xd_180_961, xwt_967, xwt_968, ⟨_, _, _, rfl, rfl⟩, by decide +kernel⟩⟩
set_option maxRecDepth 100000 in
theorem xk_180_553 : xk_OkA xp_F (xp_P sc) xp_cl xp_BW xp_NW xp_SW xp_exn 180 553 (.istore 6) := Or.inl ⟨xd_180_964, rfl⟩
set_option maxRecDepth 100000 in
theorem xk_180_554 : xk_OkA xp_F (xp_P sc) xp_cl xp_BW xp_NW xp_SW xp_exn 180 554 (.aload 2) := Or.inr ⟨2, rfl, xd_180_966, rfl⟩
set_option maxRecDepth 100000 in
theorem xk_180_555 : xk_OkA xp_F (xp_P sc) xp_cl xp_BW xp_NW xp_SW xp_exn 180 555 (.invokeinterface 107 1) := ⟨rfl, Or.inl ⟨xwt_797, rfl⟩, rfl, rfl, xwt_5, by decide +kernel, by decide +kernel, Nat.le_of_ble_eq_true rfl, _, Or.inl xwt_794, Or.inr ⟨xd_180_967, xwt_795, xwt_796, ⟨_, _, _, rfl, rfl⟩, by decide +kernel⟩⟩
set_option maxRecDepth 100000 in
theorem xk_180_556 : xk_OkA xp_F (xp_P sc) xp_cl xp_BW xp_NW xp_SW xp_exn 180 556 (.iload 5) := Or.inl ⟨xd_180_970, rfl⟩
set_option maxRecDepth 100000 in
theorem xk_180_557 : xk_OkA xp_F (xp_P sc) xp_cl xp_BW xp_NW xp_SW xp_exn 180 557 (.if_icmp .eq 560) := ⟨_, xd_180_972, by unfold xf_to; decide +kernel, rfl⟩
set_option maxRecDepth 100000 in
theorem xk_180_558 : xk_OkA xp_F (xp_P sc) xp_cl xp_BW xp_NW xp_SW xp_exn 180 558 (.iconst 0) := Or.inl ⟨xd_180_975, rfl⟩
set_option maxRecDepth 100000 in
theorem xk_180_559 : xk_OkA xp_F (xp_P sc) xp_cl xp_BW xp_NW xp_SW xp_exn 180 559 (.freturn) := ⟨xd_180_976, rfl⟩
set_option maxRecDepth 100000 in
theorem xk_180_560 : xk_OkA xp_F (xp_P sc) xp_cl xp_BW xp_NW xp_SW xp_exn 180 560 (.iload 5) := Or.inl ⟨xd_180_977, rfl⟩
set_option maxRecDepth 100000 in
theorem xk_180_561 : xk_OkA xp_F (xp_P sc) xp_cl xp_BW xp_NW xp_SW xp_exn 180 561 (.ifCond .ne 571) := ⟨_, xd_180_979, by unfold xf_to; decide +kernel, rfl⟩
set_option maxRecDepth 100000 in
theorem xk_180_562 : xk_OkA xp_F (xp_P sc) xp_cl xp_BW xp_NW xp_SW xp_exn 180 562 (.aload 3) := Or.inr ⟨3, rfl, xd_180_982, rfl⟩
set_option maxRecDepth 100000 in
theorem xk_180_563 : xk_OkA xp_F (xp_P sc) xp_cl xp_BW xp_NW xp_SW xp_exn 180 563 (.iconst 0) := Or.inl ⟨xd_180_983, rfl⟩
set_option maxRecDepth 100000 in
theorem xk_180_564 : xk_OkA xp_F (xp_P sc) xp_cl xp_BW xp_NW xp_SW xp_exn 180 564 (.laload) := ⟨xd_180_984, rfl⟩
set_option maxRecDepth 100000 in
theorem xk_180_565 : xk_OkA xp_F (xp_P sc) xp_cl xp_BW xp_NW xp_SW xp_exn 180 565 (.iload 6) := Or.inl ⟨xd_180_985, rfl⟩
set_option maxRecDepth 100000 in
theorem xk_180_566 : xk_OkA xp_F (xp_P sc) xp_cl xp_BW xp_NW xp_SW xp_exn 180 566 (.i2l) := ⟨xd_180_987, rfl⟩
set_option maxRecDepth 100000 in
theorem xk_180_567 : xk_OkA xp_F (xp_P sc) xp_cl xp_BW xp_NW xp_SW xp_exn 180 567 (.lcmp) := ⟨xd_180_988, rfl⟩
set_option maxRecDepth 100000 in
theorem xk_180_568 : xk_OkA xp_F (xp_P sc) xp_cl xp_BW xp_NW xp_SW xp_exn 180 568 (.ifCond .eq 571) := ⟨_, xd_180_989, by unfold xf_to; decide +kernel, rfl⟩
set_option maxRecDepth 100000 in
theorem xk_180_569 : xk_OkA xp_F (xp_P sc) xp_cl xp_BW xp_NW xp_SW xp_exn 180 569 (.iconst 0) := Or.inl ⟨xd_180_992, rfl⟩
set_option maxRecDepth 100000 in
theorem xk_180_570 : xk_OkA xp_F (xp_P sc) xp_cl xp_BW xp_NW xp_SW xp_exn 180 570 (.freturn) := ⟨xd_180_993, rfl⟩
set_option maxRecDepth 100000 in
theorem xk_180_571 : xk_OkA xp_F (xp_P sc) xp_cl xp_BW xp_NW xp_SW xp_exn 180 571 (.goto 784) := ⟨_, xd_180_994, by unfold xf_to; decide +kernel⟩
set_option maxRecDepth 100000 in
theorem xk_180_572 : xk_OkA xp_F (xp_P sc) xp_cl xp_BW xp_NW xp_SW xp_exn 180 572 (.aload 1) := Or.inr ⟨1, rfl, xd_180_997, rfl⟩
set_option maxRecDepth 100000 in
theorem xk_180_573 : xk_OkA xp_F (xp_P sc) xp_cl xp_BW xp_NW xp_SW xp_exn 180 573 (.aload 0) := Or.inr ⟨0, rfl, xd_180_998, rfl⟩
set_option maxRecDepth 100000 in
theorem xk_180_574 : xk_OkA xp_F (xp_P sc) xp_cl xp_BW xp_NW xp_SW xp_exn 180 574 (.iload 4) := Or.inl ⟨xd_180_999, rfl⟩
set_option maxRecDepth 100000 in
theorem xk_180_575 : xk_OkA xp_F (xp_P sc) xp_cl xp_BW xp_NW xp_SW xp_exn 180 575 (.iconst 1) := Or.inl ⟨xd_180_1001, rfl⟩
set_option maxRecDepth 100000 in
theorem xk_180_576 : xk_OkA xp_F (xp_P sc) xp_cl xp_BW xp_NW xp_SW xp_exn 180 576 (.iadd) := ⟨xd_180_1002, rfl⟩
set_option maxRecDepth 100000 in
theorem xk_180_577 : xk_OkA xp_F (xp_P sc) xp_cl xp_BW xp_NW xp_SW xp_exn 180 577 (.iaload) := ⟨xd_180_1003, rfl⟩
set_option maxRecDepth 100000 in
theorem xk_180_578 : xk_OkA xp_F (xp_P sc) xp_cl xp_BW xp_NW xp_SW xp_exn 180 578 (.aload 3) := Or.inr ⟨3, rfl, xd_180_1004, rfl⟩
set_option maxRecDepth 100000 in
theorem xk_180_579 : xk_OkA xp_F (xp_P sc) xp_cl xp_BW xp_NW xp_SW xp_exn 180 579 (.invokeinterface 174 3) := ⟨rfl, Or.inr xwt_673, rfl, rfl, xwt_0, by decide +kernel, by decide +kernel, Nat.le_of_ble_eq_true rfl, _, Or.inl xwt_671, Or.inl ⟨xd_180_1005, xwt_672, rfl, by decide +kernel⟩⟩
set_option maxRecDepth 100000 in
theorem xk_180_580 : xk_OkA xp_F (xp_P sc) xp_cl xp_BW xp_NW xp_SW xp_exn 180 580 (.istore 5) := Or.inl ⟨xd_180_1008, rfl⟩
set_option maxRecDepth 100000 in
theorem xk_180_581 : xk_OkA xp_F (xp_P sc) xp_cl xp_BW xp_NW xp_SW xp_exn 180 581 (.aload 2) := Or.inr ⟨2, rfl, xd_180_1010, rfl⟩
set_option maxRecDepth 100000 in
theorem xk_180_582 : xk_OkA xp_F (xp_P sc) xp_cl xp_BW xp_NW xp_SW xp_exn 180 582 (.aload 0) := Or.inr ⟨0, rfl, xd_180_1011, rfl⟩
set_option maxRecDepth 100000 in
theorem xk_180_583 : xk_OkA xp_F (xp_P sc) xp_cl xp_BW xp_NW xp_SW xp_exn 180 583 (.iload 4) := Or.inl ⟨xd_180_1012, rfl⟩
set_option maxRecDepth 100000 in
theorem xk_180_584 : xk_OkA xp_F (xp_P sc) xp_cl xp_BW xp_NW xp_SW xp_exn 180 584 (.iconst 1) := Or.inl ⟨xd_180_1014, rfl⟩
set_option maxRecDepth 100000 in
theorem xk_180_585 : xk_OkA xp_F (xp_P sc) xp_cl xp_BW xp_NW xp_SW xp_exn 180 585 (.iadd) := ⟨xd_180_1015, rfl⟩
set_option maxRecDepth 100000 in
theorem xk_180_586 : xk_OkA xp_F (xp_P sc) xp_cl xp_BW xp_NW xp_SW xp_exn 180 586 (.iaload) := ⟨xd_180_1016, rfl⟩
set_option maxRecDepth 100000 in
theorem xk_180_587 : xk_OkA xp_F (xp_P sc) xp_cl xp_BW xp_NW xp_SW xp_exn 180 587 (.invokeinterface 153 2) := ⟨rfl, Or.inl ⟨xwt_973, rfl⟩, rfl, rfl, xwt_5, by decide +kernel, by decide +kernel, Nat.le_of_ble_eq_true rfl, _, Or.inl xwt_970, Or.inr ⟨xd_180_1017, xwt_971, xwt_972, ⟨_, _, _, rfl, rfl⟩, by decide +kernel⟩⟩
set_option maxRecDepth 100000 in
theorem xk_180_588 : xk_OkA xp_F (xp_P sc) xp_cl xp_BW xp_NW xp_SW xp_exn 180 588 (.istore 6) := Or.inl ⟨xd_180_1020, rfl⟩
set_option maxRecDepth 100000 in
theorem xk_180_589 : xk_OkA xp_F (xp_P sc) xp_cl xp_BW xp_NW xp_SW xp_exn 180 589 (.aload 2) := Or.inr ⟨2, rfl, xd_180_1022, rfl⟩
set_option maxRecDepth 100000 in
theorem xk_180_590 : xk_OkA xp_F (xp_P sc) xp_cl xp_BW xp_NW xp_SW xp_exn 180 590 (.invokeinterface 107 1) := ⟨rfl, Or.inl ⟨xwt_797, rfl⟩, rfl, rfl, xwt_5, by decide +kernel, by decide +kernel, Nat.le_of_ble_eq_true rfl, _, Or.inl xwt_794, Or.inr ⟨xd_180_1023, xwt_795, xwt_796, ⟨_, _, _, rfl, rfl⟩, by decide +kernel⟩⟩
set_option maxRecDepth 100000 in
theorem xk_180_591 : xk_OkA xp_F (xp_P sc) xp_cl xp_BW xp_NW xp_SW xp_exn 180 591 (.iload 5) := Or.inl ⟨xd_180_1026, rfl⟩
set_option maxRecDepth 100000 in
theorem xk_180_592 : xk_OkA xp_F (xp_P sc) xp_cl xp_BW xp_NW xp_SW xp_exn 180 592 (.if_icmp .eq 595) := ⟨_, xd_180_1028, by unfold xf_to; decide +kernel, rfl⟩
set_option maxRecDepth 100000 in
theorem xk_180_593 : xk_OkA xp_F (xp_P sc) xp_cl xp_BW xp_NW xp_SW xp_exn 180 593 (.iconst 0) := Or.inl ⟨xd_180_1031, rfl⟩
set_option maxRecDepth 100000 in
theorem xk_180_594 : xk_OkA xp_F (xp_P sc) xp_cl xp_BW xp_NW xp_SW xp_exn 180 594 (.freturn) := ⟨xd_180_1032, rfl⟩
set_option maxRecDepth 100000 in
theorem xk_180_595 : xk_OkA xp_F (xp_P sc) xp_cl xp_BW xp_NW xp_SW xp_exn 180 595 (.iload 5) := Or.inl ⟨xd_180_1033, rfl⟩
set_option maxRecDepth 100000 in
theorem xk_180_596 : xk_OkA xp_F (xp_P sc) xp_cl xp_BW xp_NW xp_SW xp_exn 180 596 (.ifCond .ne 606) := ⟨_, xd_180_1035, by unfold xf_to; decide +kernel, rfl⟩
set_option maxRecDepth 100000 in
theorem xk_180_597 : xk_OkA xp_F (xp_P sc) xp_cl xp_BW xp_NW xp_SW xp_exn 180 597 (.aload 3) := Or.inr ⟨3, rfl, xd_180_1038, rfl⟩
set_option maxRecDepth 100000 in
theorem xk_180_598 : xk_OkA xp_F (xp_P sc) xp_cl xp_BW xp_NW xp_SW xp_exn 180 598 (.iconst 0) := Or.inl ⟨xd_180_1039, rfl⟩
set_option maxRecDepth 100000 in
theorem xk_180_599 : xk_OkA xp_F (xp_P sc) xp_cl xp_BW xp_NW xp_SW xp_exn 180 599 (.laload) := ⟨xd_180_1040, rfl⟩
set_option maxRecDepth 100000 in
theorem xk_180_600 : xk_OkA xp_F (xp_P sc) xp_cl xp_BW xp_NW xp_SW xp_exn 180 600 (.iload 6) := Or.inl ⟨xd_180_1041, rfl⟩
set_option maxRecDepth 100000 in
theorem xk_180_601 : xk_OkA xp_F (xp_P sc) xp_cl xp_BW xp_NW xp_SW xp_exn 180 601 (.i2l) := ⟨xd_180_1043, rfl⟩
set_option maxRecDepth 100000 in
theorem xk_180_602 : xk_OkA xp_F (xp_P sc) xp_cl xp_BW xp_NW xp_SW xp_exn 180 602 (.lcmp) := ⟨xd_180_1044, rfl⟩
set_option maxRecDepth 100000 in
theorem xk_180_603 : xk_OkA xp_F (xp_P sc) xp_cl xp_BW xp_NW xp_SW xp_exn 180 603 (.ifCond .eq 606) := ⟨_, xd_180_1045, by unfold xf_to; decide +kernel, rfl⟩
set_option maxRecDepth 100000 in
theorem xk_180_604 : xk_OkA xp_F (xp_P sc) xp_cl xp_BW xp_NW xp_SW xp_exn 180 604 (.iconst 0) := Or.inl ⟨xd_180_1048, rfl⟩
set_option maxRecDepth 100000 in
theorem xk_180_605 : xk_OkA xp_F (xp_P sc) xp_cl xp_BW xp_NW xp_SW xp_exn 180 605 (.freturn) := ⟨xd_180_1049, rfl⟩
set_option maxRecDepth 100000 in
theorem xk_180_606 : xk_OkA xp_F (xp_P sc) xp_cl xp_BW xp_NW xp_SW xp_exn 180 606 (.goto 784) := ⟨_, xd_180_1050, by unfold xf_to; decide +kernel⟩
set_option maxRecDepth 100000 in
theorem xk_180_607 : xk_OkA xp_F (xp_P sc) xp_cl xp_BW xp_NW xp_SW xp_exn 180 607 (.aload 1) := Or.inr ⟨1, rfl, xd_180_1053, rfl⟩
set_option maxRecDepth 100000 in
theorem xk_180_608 : xk_OkA xp_F (xp_P sc) xp_cl xp_BW xp_NW xp_SW xp_exn 180 608 (.aload 0) := Or.inr ⟨0, rfl, xd_180_1054, rfl⟩
set_option maxRecDepth 100000 in
theorem xk_180_609 : xk_OkA xp_F (xp_P sc) xp_cl xp_BW xp_NW xp_SW xp_exn 180 609 (.iload 4) := Or.inl ⟨xd_180_1055, rfl⟩
set_option maxRecDepth 100000 in
theorem xk_180_610 : xk_OkA xp_F (xp_P sc) xp_cl xp_BW xp_NW xp_SW xp_exn 180 610 (.iconst 1) := Or.inl ⟨xd_180_1057, rfl⟩
set_option maxRecDepth 100000 in
theorem xk_180_611 : xk_OkA xp_F (xp_P sc) xp_cl xp_BW xp_NW xp_SW xp_exn 180 611 (.iadd) := ⟨xd_180_1058, rfl⟩
set_option maxRecDepth 100000 in
theorem xk_180_612 : xk_OkA xp_F (xp_P sc) xp_cl xp_BW xp_NW xp_SW xp_exn 180 612 (.iaload) := ⟨xd_180_1059, rfl⟩
set_option maxRecDepth 100000 in
theorem xk_180_613 : xk_OkA xp_F (xp_P sc) xp_cl xp_BW xp_NW xp_SW xp_exn 180 613 (.invokeinterface 175 2) := ⟨rfl, Or.inr xwt_680, rfl, rfl, xwt_0, by decide +kernel, by decide +kernel, Nat.le_of_ble_eq_true rfl, _, Or.inl xwt_678, Or.inl ⟨xd_180_1060, xwt_679, rfl, by decide +kernel⟩⟩
set_option maxRecDepth 100000 in
theorem xk_180_614 : xk_OkA xp_F (xp_P sc) xp_cl xp_BW xp_NW xp_SW xp_exn 180 614 (.istore 5) := Or.inl ⟨xd_180_1063, rfl⟩
set_option maxRecDepth 100000 in
theorem xk_180_615 : xk_OkA xp_F (xp_P sc) xp_cl xp_BW xp_NW xp_SW xp_exn 180 615 (.aload 2) := Or.inr ⟨2, rfl, xd_180_1065, rfl⟩
set_option maxRecDepth 100000 in
theorem xk_180_616 : xk_OkA xp_F (xp_P sc) xp_cl xp_BW xp_NW xp_SW xp_exn 180 616 (.aload 0) := Or.inr ⟨0, rfl, xd_180_1066, rfl⟩
set_option maxRecDepth 100000 in
theorem xk_180_617 : xk_OkA xp_F (xp_P sc) xp_cl xp_BW xp_NW xp_SW xp_exn 180 617 (.iload 4) := Or.inl ⟨xd_180_1067, rfl⟩
set_option maxRecDepth 100000 in
theorem xk_180_618 : xk_OkA xp_F (xp_P sc) xp_cl xp_BW xp_NW xp_SW xp_exn 180 618 (.iconst 1) := Or.inl ⟨xd_180_1069, rfl⟩
set_option maxRecDepth 100000 in
theorem xk_180_619 : xk_OkA xp_F (xp_P sc) xp_cl xp_BW xp_NW xp_SW xp_exn 180 619 (.iadd) := ⟨xd_180_1070, rfl⟩
set_option maxRecDepth 100000 in
theorem xk_180_620 : xk_OkA xp_F (xp_P sc) xp_cl xp_BW xp_NW xp_SW xp_exn 180 620 (.iaload) := ⟨xd_180_1071, rfl⟩
set_option maxRecDepth 100000 in
theorem xk_180_621 : xk_OkA xp_F (xp_P sc) xp_cl xp_BW xp_NW xp_SW xp_exn 180 621 (.invokeinterface 156 2) := ⟨rfl, Or.inl ⟨xwt_985, rfl⟩, rfl, rfl, xwt_5, by decide +kernel, by decide +kernel, Nat.le_of_ble_eq_true rfl, _, Or.inl xwt_982, Or.inr ⟨xd_180_1072, xwt_983, xwt_984, ⟨_, _, _, rfl, rfl⟩, by decide +kernel⟩⟩
set_option maxRecDepth 100000 in
theorem xk_180_622 : xk_OkA xp_F (xp_P sc) xp_cl xp_BW xp_NW xp_SW xp_exn 180 622 (.aload 2) := Or.inr ⟨2, rfl, xd_180_1075, rfl⟩
set_option maxRecDepth 100000 in
theorem xk_180_623 : xk_OkA xp_F (xp_P sc) xp_cl xp_BW xp_NW xp_SW xp_exn 180 623 (.invokeinterface 107 1) := ⟨rfl, Or.inl ⟨xwt_797, rfl⟩, rfl, rfl, xwt_5, by decide +kernel, by decide +kernel, Nat.le_of_ble_eq_true rfl, _, Or.inl xwt_794, Or.inr ⟨xd_180_1076, xwt_795, xwt_796, ⟨_, _, _, rfl, rfl⟩, by decide +kernel⟩⟩
set_option maxRecDepth 100000 in
theorem xk_180_624 : xk_OkA xp_F (xp_P sc) xp_cl xp_BW xp_NW xp_SW xp_exn 180 624 (.iload 5) := Or.inl ⟨xd_180_1079, rfl⟩
set_option maxRecDepth 100000 in
theorem xk_180_625 : xk_OkA xp_F (xp_P sc) xp_cl xp_BW xp_NW xp_SW xp_exn 180 625 (.if_icmp .eq 628) := ⟨_, xd_180_1081, by unfold xf_to; decide +kernel, rfl⟩
set_option maxRecDepth 100000 in
theorem xk_180_626 : xk_OkA xp_F (xp_P sc) xp_cl xp_BW xp_NW xp_SW xp_exn 180 626 (.iconst 0) := Or.inl ⟨xd_180_1084, rfl⟩
set_option maxRecDepth 100000 in
theorem xk_180_627 : xk_OkA xp_F (xp_P sc) xp_cl xp_BW xp_NW xp_SW xp_exn 180 627 (.freturn) := ⟨xd_180_1085, rfl⟩
set_option maxRecDepth 100000 in
theorem xk_180_628 : xk_OkA xp_F (xp_P sc) xp_cl xp_BW xp_NW xp_SW xp_exn 180 628 (.goto 784) := ⟨_, xd_180_1086, by unfold xf_to; decide +kernel⟩
set_option maxRecDepth 100000 in
theorem xk_180_629 : xk_OkA xp_F (xp_P sc) xp_cl xp_BW xp_NW xp_SW xp_exn 180 629 (.aload 1) := Or.inr ⟨1, rfl, xd_180_1089, rfl⟩
set_option maxRecDepth 100000 in
theorem xk_180_630 : xk_OkA xp_F (xp_P sc) xp_cl xp_BW xp_NW xp_SW xp_exn 180 630 (.invokeinterface 176 1) := ⟨rfl, Or.inr xwt_688, rfl, rfl, xwt_0, by decide +kernel, by decide +kernel, Nat.le_of_ble_eq_true rfl, _, Or.inl xwt_686, Or.inl ⟨xd_180_1090, xwt_687, rfl, by decide +kernel⟩⟩
set_option maxRecDepth 100000 in
theorem xk_180_631 : xk_OkA xp_F (xp_P sc) xp_cl xp_BW xp_NW xp_SW xp_exn 180 631 (.istore 5) := Or.inl ⟨xd_180_1093, rfl⟩
set_option maxRecDepth 100000 in
theorem xk_180_632 : xk_OkA xp_F (xp_P sc) xp_cl xp_BW xp_NW xp_SW xp_exn 180 632 (.aload 2) := Or.inr ⟨2, rfl, xd_180_1095, rfl⟩
set_option maxRecDepth 100000 in
theorem xk_180_633 : xk_OkA xp_F (xp_P sc) xp_cl xp_BW xp_NW xp_SW xp_exn 180 633 (.invokeinterface 157 1) := ⟨rfl, Or.inl ⟨xwt_989, rfl⟩, rfl, rfl, xwt_5, by decide +kernel, by decide +kernel, Nat.le_of_ble_eq_true rfl, _, Or.inl xwt_986, Or.inr ⟨xd_180_1096, xwt_987, xwt_988, ⟨_, _, _, rfl, rfl⟩, by decide +kernel⟩⟩
set_option maxRecDepth 100000 in
theorem xk_180_634 : xk_OkA xp_F (xp_P sc) xp_cl xp_BW xp_NW xp_SW xp_exn 180 634 (.aload 2) := Or.inr ⟨2, rfl, xd_180_1099, rfl⟩
set_option maxRecDepth 100000 in
theorem xk_180_635 : xk_OkA xp_F (xp_P sc) xp_cl xp_BW xp_NW xp_SW xp_exn 180 635 (.invokeinterface 107 1) := ⟨rfl, Or.inl ⟨xwt_797, rfl⟩, rfl, rfl, xwt_5, by decide +kernel, by decide +kernel, Nat.le_of_ble_eq_true rfl, _, Or.inl xwt_794, Or.inr ⟨xd_180_1100, xwt_795, xwt_796, ⟨_, _, _, rfl, rfl⟩, by decide +kernel⟩⟩
set_option maxRecDepth 100000 in
theorem xk_180_636 : xk_OkA xp_F (xp_P sc) xp_cl xp_BW xp_NW xp_SW xp_exn 180 636 (.iload 5) := Or.inl ⟨xd_180_1103, rfl⟩
set_option maxRecDepth 100000 in
theorem xk_180_637 : xk_OkA xp_F (xp_P sc) xp_cl xp_BW xp_NW xp_SW xp_exn 180 637 (.if_icmp .eq 640) := ⟨_, xd_180_1105, by unfold xf_to; decide +kernel, rfl⟩
set_option maxRecDepth 100000 in
theorem xk_180_638 : xk_OkA xp_F (xp_P sc) xp_cl xp_BW xp_NW xp_SW xp_exn 180 638 (.iconst 0) := Or.inl ⟨xd_180_1108, rfl⟩
set_option maxRecDepth 100000 in
theorem xk_180_639 : xk_OkA xp_F (xp_P sc) xp_cl xp_BW xp_NW xp_SW xp_exn 180 639 (.freturn) := ⟨xd_180_1109, rfl⟩
set_option maxRecDepth 100000 in
theorem xk_180_640 : xk_OkA xp_F (xp_P sc) xp_cl xp_BW xp_NW xp_SW xp_exn 180 640 (.goto 784) := ⟨_, xd_180_1110, by unfold xf_to; decide +kernel⟩
set_option maxRecDepth 100000 in
theorem xk_180_641 : xk_OkA xp_F (xp_P sc) xp_cl xp_BW xp_NW xp_SW xp_exn 180 641 (.aload 1) := Or.inr ⟨1, rfl, xd_180_1113, rfl⟩
set_option maxRecDepth 100000 in
theorem xk_180_642 : xk_OkA xp_F (xp_P sc) xp_cl xp_BW xp_NW xp_SW xp_exn 180 642 (.aload 0) := Or.inr ⟨0, rfl, xd_180_1114, rfl⟩
set_option maxRecDepth 100000 in
theorem xk_180_643 : xk_OkA xp_F (xp_P sc) xp_cl xp_BW xp_NW xp_SW xp_exn 180 643 (.iload 4) := Or.inl ⟨xd_180_1115, rfl⟩
set_option maxRecDepth 100000 in
theorem xk_180_644 : xk_OkA xp_F (xp_P sc) xp_cl xp_BW xp_NW xp_SW xp_exn 180 644 (.iconst 1) := Or.inl ⟨xd_180_1117, rfl⟩
set_option maxRecDepth 100000 in
theorem xk_180_645 : xk_OkA xp_F (xp_P sc) xp_cl xp_BW xp_NW xp_SW xp_exn 180 645 (.iadd) := ⟨xd_180_1118, rfl⟩
set_option maxRecDepth 100000 in
theorem xk_180_646 : xk_OkA xp_F (xp_P sc) xp_cl xp_BW xp_NW xp_SW xp_exn 180 646 (.iaload) := ⟨xd_180_1119, rfl⟩
set_option maxRecDepth 100000 in
theorem xk_180_647 : xk_OkA xp_F (xp_P sc) xp_cl xp_BW xp_NW xp_SW xp_exn 180 647 (.aload 0) := Or.inr ⟨0, rfl, xd_180_1120, rfl⟩
set_option maxRecDepth 100000 in
theorem xk_180_648 : xk_OkA xp_F (xp_P sc) xp_cl xp_BW xp_NW xp_SW xp_exn 180 648 (.iload 4) := Or.inl ⟨xd_180_1121, rfl⟩
set_option maxRecDepth 100000 in
theorem xk_180_649 : xk_OkA xp_F (xp_P sc) xp_cl xp_BW xp_NW xp_SW xp_exn 180 649 (.iconst 2) := Or.inl ⟨xd_180_1123, rfl⟩
set_option maxRecDepth 100000 in
theorem xk_180_650 : xk_OkA xp_F (xp_P sc) xp_cl xp_BW xp_NW xp_SW xp_exn 180 650 (.iadd) := ⟨xd_180_1124, rfl⟩
set_option maxRecDepth 100000 in
theorem xk_180_651 : xk_OkA xp_F (xp_P sc) xp_cl xp_BW xp_NW xp_SW xp_exn 180 651 (.iaload) := ⟨xd_180_1125, rfl⟩
set_option maxRecDepth 100000 in
theorem xk_180_652 : xk_OkA xp_F (xp_P sc) xp_cl xp_BW xp_NW xp_SW xp_exn 180 652 (.ifCond .eq 655) := ⟨_, xd_180_1126, by unfold xf_to; decide +kernel, rfl⟩
set_option maxRecDepth 100000 in
theorem xk_180_653 : xk_OkA xp_F (xp_P sc) xp_cl xp_BW xp_NW xp_SW xp_exn 180 653 (.iconst 1) := Or.inl ⟨xd_180_1129, rfl⟩
set_option maxRecDepth 100000 in
theorem xk_180_654 : xk_OkA xp_F (xp_P sc) xp_cl xp_BW xp_NW xp_SW xp_exn 180 654 (.goto 656) := ⟨_, xd_180_1130, by unfold xf_to; decide +kernel⟩
set_option maxRecDepth 100000 in
theorem xk_180_655 : xk_OkA xp_F (xp_P sc) xp_cl xp_BW xp_NW xp_SW xp_exn 180 655 (.iconst 0) := Or.inl ⟨xd_180_1133, rfl⟩
set_option maxRecDepth 100000 in
theorem xk_180_656 : xk_OkA xp_F (xp_P sc) xp_cl xp_BW xp_NW xp_SW xp_exn 180 656 (.aload 3) := Or.inr ⟨3, rfl, xd_180_1134, rfl⟩
set_option maxRecDepth 100000 in
theorem xk_180_657 : xk_OkA xp_F (xp_P sc) xp_cl xp_BW xp_NW xp_SW xp_exn 180 657 (.invokeinterface 177 4) := ⟨rfl, Or.inr xwt_695, rfl, rfl, xwt_0, by decide +kernel, by decide +kernel, Nat.le_of_ble_eq_true rfl, _, Or.inl xwt_693, Or.inl ⟨xd_180_1135, xwt_694, rfl, by decide +kernel⟩⟩
set_option maxRecDepth 100000 in
theorem xk_180_658 : xk_OkA xp_F (xp_P sc) xp_cl xp_BW xp_NW xp_SW xp_exn 180 658 (.istore 5) := Or.inl ⟨xd_180_1138, rfl⟩
set_option maxRecDepth 100000 in
theorem xk_180_659 : xk_OkA xp_F (xp_P sc) xp_cl xp_BW xp_NW xp_SW xp_exn 180 659 (.aload 2) := Or.inr ⟨2, rfl, xd_180_1140, rfl⟩
set_option maxRecDepth 100000 in
theorem xk_180_660 : xk_OkA xp_F (xp_P sc) xp_cl xp_BW xp_NW xp_SW xp_exn 180 660 (.aload 0) := Or.inr ⟨0, rfl, xd_180_1141, rfl⟩
set_option maxRecDepth 100000 in
theorem xk_180_661 : xk_OkA xp_F (xp_P sc) xp_cl xp_BW xp_NW xp_SW xp_exn 180 661 (.iload 4) := Or.inl ⟨xd_180_1142, rfl⟩
set_option maxRecDepth 100000 in
theorem xk_180_662 : xk_OkA xp_F (xp_P sc) xp_cl xp_BW xp_NW xp_SW xp_exn 180 662 (.iconst 1) := Or.inl ⟨xd_180_1144, rfl⟩
set_option maxRecDepth 100000 in
theorem xk_180_663 : xk_OkA xp_F (xp_P sc) xp_cl xp_BW xp_NW xp_SW xp_exn 180 663 (.iadd) := ⟨xd_180_1145, rfl⟩
set_option maxRecDepth 100000 in
theorem xk_180_664 : xk_OkA xp_F (xp_P sc) xp_cl xp_BW xp_NW xp_SW xp_exn 180 664 (.iaload) := ⟨xd_180_1146, rfl⟩
set_option maxRecDepth 100000 in
theorem xk_180_665 : xk_OkA xp_F (xp_P sc) xp_cl xp_BW xp_NW xp_SW xp_exn 180 665 (.aload 0) := Or.inr ⟨0, rfl, xd_180_1147, rfl⟩
set_option maxRecDepth 100000 in
theorem xk_180_666 : xk_OkA xp_F (xp_P sc) xp_cl xp_BW xp_NW xp_SW xp_exn 180 666 (.iload 4) := Or.inl ⟨xd_180_1148, rfl⟩
set_option maxRecDepth 100000 in
theorem xk_180_667 : xk_OkA xp_F (xp_P sc) xp_cl xp_BW xp_NW xp_SW xp_exn 180 667 (.iconst 2) := Or.inl ⟨xd_180_1150, rfl⟩
set_option maxRecDepth 100000 in
theorem xk_180_668 : xk_OkA xp_F (xp_P sc) xp_cl xp_BW xp_NW xp_SW xp_exn 180 668 (.iadd) := ⟨xd_180_1151, rfl⟩
set_option maxRecDepth 100000 in
theorem xk_180_669 : xk_OkA xp_F (xp_P sc) xp_cl xp_BW xp_NW xp_SW xp_exn 180 669 (.iaload) := ⟨xd_180_1152, rfl⟩
set_option maxRecDepth 100000 in
theorem xk_180_670 : xk_OkA xp_F (xp_P sc) xp_cl xp_BW xp_NW xp_SW xp_exn 180 670 (.ifCond .eq 673) := ⟨_, xd_180_1153, by unfold xf_to; decide +kernel, rfl⟩
set_option maxRecDepth 100000 in
theorem xk_180_671 : xk_OkA xp_F (xp_P sc) xp_cl xp_BW xp_NW xp_SW xp_exn 180 671 (.iconst 1) := Or.inl ⟨xd_180_1156, rfl⟩
set_option maxRecDepth 100000 in
theorem xk_180_672 : xk_OkA xp_F (xp_P sc) xp_cl xp_BW xp_NW xp_SW xp_exn 180 672 (.goto 674) := ⟨_, xd_180_1157, by unfold xf_to; decide +kernel⟩
set_option maxRecDepth 100000 in
theorem xk_180_673 : xk_OkA xp_F (xp_P sc) xp_cl xp_BW xp_NW xp_SW xp_exn 180 673 (.iconst 0) := Or.inl ⟨xd_180_1160, rfl⟩
set_option maxRecDepth 100000 in
theorem xk_180_674 : xk_OkA xp_F (xp_P sc) xp_cl xp_BW xp_NW xp_SW xp_exn 180 674 (.invokeinterface 158 3) := ⟨rfl, Or.inl ⟨xwt_993, rfl⟩, rfl, rfl, xwt_5, by decide +kernel, by decide +kernel, Nat.le_of_ble_eq_true rfl, _, Or.inl xwt_990, Or.inr ⟨xd_180_1161, xwt_991, xwt_992, ⟨_, _, _, rfl, rfl⟩, by decide +kernel⟩⟩
set_option maxRecDepth 100000 in
theorem xk_180_675 : xk_OkA xp_F (xp_P sc) xp_cl xp_BW xp_NW xp_SW xp_exn 180 675 (.istore 6) := Or.inl ⟨xd_180_1164, rfl⟩
set_option maxRecDepth 100000 in
theorem xk_180_676 : xk_OkA xp_F (xp_P sc) xp_cl xp_BW xp_NW xp_SW xp_exn 180 676 (.aload 2) := Or.inr ⟨2, rfl, xd_180_1166, rfl⟩
set_option maxRecDepth 100000 in
theorem xk_180_677 : xk_OkA xp_F (xp_P sc) xp_cl xp_BW xp_NW xp_SW xp_exn 180 677 (.invokeinterface 107 1) := ⟨rfl, Or.inl ⟨xwt_797, rfl⟩, rfl, rfl, xwt_5, by decide +kernel, by decide +kernel, Nat.le_of_ble_eq_true rfl, _, Or.inl xwt_794, Or.inr ⟨xd_180_1167, xwt_795, xwt_796, ⟨_, _, _, rfl, rfl⟩, by decide +kernel⟩⟩
set_option maxRecDepth 100000 in
theorem xk_180_678 : xk_OkA xp_F (xp_P sc) xp_cl xp_BW xp_NW xp_SW xp_exn 180 678 (.iload 5) := Or.inl ⟨xd_180_1170, rfl⟩
set_option maxRecDepth 100000 in
theorem xk_180_679 : xk_OkA xp_F (xp_P sc) xp_cl xp_BW xp_NW xp_SW xp_exn 180 679 (.if_icmp .eq 682) := ⟨_, xd_180_1172, by unfold xf_to; decide +kernel, rfl⟩
set_option maxRecDepth 100000 in
theorem xk_180_680 : xk_OkA xp_F (xp_P sc) xp_cl xp_BW xp_NW xp_SW xp_exn 180 680 (.iconst 0) := Or.inl ⟨xd_180_1175, rfl⟩
set_option maxRecDepth 100000 in
theorem xk_180_681 : xk_OkA xp_F (xp_P sc) xp_cl xp_BW xp_NW xp_SW xp_exn 180 681 (.freturn) := ⟨xd_180_1176, rfl⟩
set_option maxRecDepth 100000 in
theorem xk_180_682 : xk_OkA xp_F (xp_P sc) xp_cl xp_BW xp_NW xp_SW xp_exn 180 682 (.iload 5) := Or.inl ⟨xd_180_1177, rfl⟩
set_option maxRecDepth 100000 in
theorem xk_180_683 : xk_OkA xp_F (xp_P sc) xp_cl xp_BW xp_NW xp_SW xp_exn 180 683 (.ifCond .ne 696) := ⟨_, xd_180_1179, by unfold xf_to; decide +kernel, rfl⟩
set_option maxRecDepth 100000 in
theorem xk_180_684 : xk_OkA xp_F (xp_P sc) xp_cl xp_BW xp_NW xp_SW xp_exn 180 684 (.aload 3) := Or.inr ⟨3, rfl, xd_180_1182, rfl⟩
set_option maxRecDepth 100000 in
theorem xk_180_685 : xk_OkA xp_F (xp_P sc) xp_cl xp_BW xp_NW xp_SW xp_exn 180 685 (.iconst 0) := Or.inl ⟨xd_180_1183, rfl⟩
set_option maxRecDepth 100000 in
theorem xk_180_686 : xk_OkA xp_F (xp_P sc) xp_cl xp_BW xp_NW xp_SW xp_exn 180 686 (.laload) := ⟨xd_180_1184, rfl⟩
set_option maxRecDepth 100000 in
theorem xk_180_687 : xk_OkA xp_F (xp_P sc) xp_cl xp_BW xp_NW xp_SW xp_exn 180 687 (.iload 6) := Or.inl ⟨xd_180_1185, rfl⟩
set_option maxRecDepth 100000 in
theorem xk_180_688 : xk_OkA xp_F (xp_P sc) xp_cl xp_BW xp_NW xp_SW xp_exn 180 688 (.ifCond .eq 691) := ⟨_, xd_180_1187, by unfold xf_to; decide +kernel, rfl⟩
set_option maxRecDepth 100000 in
theorem xk_180_689 : xk_OkA xp_F (xp_P sc) xp_cl xp_BW xp_NW xp_SW xp_exn 180 689 (.lconst 1) := ⟨xd_180_1190, rfl⟩
set_option maxRecDepth 100000 in
theorem xk_180_690 : xk_OkA xp_F (xp_P sc) xp_cl xp_BW xp_NW xp_SW xp_exn 180 690 (.goto 692) := ⟨_, xd_180_1191, by unfold xf_to; decide +kernel⟩
set_option maxRecDepth 100000 in
theorem xk_180_691 : xk_OkA xp_F (xp_P sc) xp_cl xp_BW xp_NW xp_SW xp_exn 180 691 (.lconst 0) := ⟨xd_180_1194, rfl⟩
set_option maxRecDepth 100000 in
theorem xk_180_692 : xk_OkA xp_F (xp_P sc) xp_cl xp_BW xp_NW xp_SW xp_exn 180 692 (.lcmp) := ⟨xd_180_1195, rfl⟩
set_option maxRecDepth 100000 in
theorem xk_180_693 : xk_OkA xp_F (xp_P sc) xp_cl xp_BW xp_NW xp_SW xp_exn 180 693 (.ifCond .eq 696) := ⟨_, xd_180_1196, by unfold xf_to; decide +kernel, rfl⟩
set_option maxRecDepth 100000 in
theorem xk_180_694 : xk_OkA xp_F (xp_P sc) xp_cl xp_BW xp_NW xp_SW xp_exn 180 694 (.iconst 0) := Or.inl ⟨xd_180_1199, rfl⟩
set_option maxRecDepth 100000 in
theorem xk_180_695 : xk_OkA xp_F (xp_P sc) xp_cl xp_BW xp_NW xp_SW xp_exn 180 695 (.freturn) := ⟨xd_180_1200, rfl⟩
set_option maxRecDepth 100000 in
theorem xk_180_696 : xk_OkA xp_F (xp_P sc) xp_cl xp_BW xp_NW xp_SW xp_exn 180 696 (.goto 784) := ⟨_, xd_180_1201, by unfold xf_to; decide +kernel⟩
set_option maxRecDepth 100000 in
theorem xk_180_697 : xk_OkA xp_F (xp_P sc) xp_cl xp_BW xp_NW xp_SW xp_exn 180 697 (.aload 1) := Or.inr ⟨1, rfl, xd_180_1204, rfl⟩
set_option maxRecDepth 100000 in
theorem xk_180_698 : xk_OkA xp_F (xp_P sc) xp_cl xp_BW xp_NW xp_SW xp_exn 180 698 (.aload 3) := Or.inr ⟨3, rfl, xd_180_1205, rfl⟩
set_option maxRecDepth 100000 in
theorem xk_180_699 : xk_OkA xp_F (xp_P sc) xp_cl xp_BW xp_NW xp_SW xp_exn 180 699 (.invokeinterface 178 2) := ⟨rfl, Or.inr xwt_711, rfl, rfl, xwt_0, by decide +kernel, by decide +kernel, Nat.le_of_ble_eq_true rfl, _, Or.inl xwt_709, Or.inl ⟨xd_180_1206, xwt_710, rfl, by decide +kernel⟩⟩
set_option maxRecDepth 100000 in
theorem xk_180_700 : xk_OkA xp_F (xp_P sc) xp_cl xp_BW xp_NW xp_SW xp_exn 180 700 (.istore 5) := Or.inl ⟨xd_180_1209, rfl⟩
set_option maxRecDepth 100000 in
theorem xk_180_701 : xk_OkA xp_F (xp_P sc) xp_cl xp_BW xp_NW xp_SW xp_exn 180 701 (.aload 2) := Or.inr ⟨2, rfl, xd_180_1211, rfl⟩
set_option maxRecDepth 100000 in
theorem xk_180_702 : xk_OkA xp_F (xp_P sc) xp_cl xp_BW xp_NW xp_SW xp_exn 180 702 (.invokeinterface 159 1) := ⟨rfl, Or.inl ⟨xwt_997, rfl⟩, rfl, rfl, xwt_5, by decide +kernel, by decide +kernel, Nat.le_of_ble_eq_true rfl, _, Or.inl xwt_994, Or.inr ⟨xd_180_1212, xwt_995, xwt_996, ⟨_, _, _, rfl, rfl⟩, by decide +kernel⟩⟩
set_option maxRecDepth 100000 in
theorem xk_180_703 : xk_OkA xp_F (xp_P sc) xp_cl xp_BW xp_NW xp_SW xp_exn 180 703 (.istore 6) := Or.inl ⟨xd_180_1215, rfl⟩
set_option maxRecDepth 100000 in
theorem xk_180_704 : xk_OkA xp_F (xp_P sc) xp_cl xp_BW xp_NW xp_SW xp_exn 180 704 (.aload 2) := Or.inr ⟨2, rfl, xd_180_1217, rfl⟩
set_option maxRecDepth 100000 in
theorem xk_180_705 : xk_OkA xp_F (xp_P sc) xp_cl xp_BW xp_NW xp_SW xp_exn 180 705 (.invokeinterface 107 1) := ⟨rfl, Or.inl ⟨xwt_797, rfl⟩, rfl, rfl, xwt_5, by decide +kernel, by decide +kernel, Nat.le_of_ble_eq_true rfl, _, Or.inl xwt_794, Or.inr ⟨xd_180_1218, xwt_795, xwt_796, ⟨_, _, _, rfl, rfl⟩, by decide +kernel⟩⟩
set_option maxRecDepth 100000 in
theorem xk_180_706 : xk_OkA xp_F (xp_P sc) xp_cl xp_BW xp_NW xp_SW xp_exn 180 706 (.iload 5) := Or.inl ⟨xd_180_1221, rfl⟩
set_option maxRecDepth 100000 in
theorem xk_180_707 : xk_OkA xp_F (xp_P sc) xp_cl xp_BW xp_NW xp_SW xp_exn 180 707 (.if_icmp .eq 710) := ⟨_, xd_180_1223, by unfold xf_to; decide +kernel, rfl⟩
set_option maxRecDepth 100000 in
theorem xk_180_708 : xk_OkA xp_F (xp_P sc) xp_cl xp_BW xp_NW xp_SW xp_exn 180 708 (.iconst 0) := Or.inl ⟨xd_180_1226, rfl⟩
set_option maxRecDepth 100000 in
theorem xk_180_709 : xk_OkA xp_F (xp_P sc) xp_cl xp_BW xp_NW xp_SW xp_exn 180 709 (.freturn) := ⟨xd_180_1227, rfl⟩
set_option maxRecDepth 100000 in
theorem xk_180_710 : xk_OkA xp_F (xp_P sc) xp_cl xp_BW xp_NW xp_SW xp_exn 180 710 (.iload 5) := Or.inl ⟨xd_180_1228, rfl⟩
set_option maxRecDepth 100000 in
theorem xk_180_711 : xk_OkA xp_F (xp_P sc) xp_cl xp_BW xp_NW xp_SW xp_exn 180 711 (.ifCond .ne 721) := ⟨_, xd_180_1230, by unfold xf_to; decide +kernel, rfl⟩
set_option maxRecDepth 100000 in
theorem xk_180_712 : xk_OkA xp_F (xp_P sc) xp_cl xp_BW xp_NW xp_SW xp_exn 180 712 (.aload 3) := Or.inr ⟨3, rfl, xd_180_1233, rfl⟩
set_option maxRecDepth 100000 in
theorem xk_180_713 : xk_OkA xp_F (xp_P sc) xp_cl xp_BW xp_NW xp_SW xp_exn 180 713 (.iconst 0) := Or.inl ⟨xd_180_1234, rfl⟩
set_option maxRecDepth 100000 in
theorem xk_180_714 : xk_OkA xp_F (xp_P sc) xp_cl xp_BW xp_NW xp_SW xp_exn 180 714 (.laload) := ⟨xd_180_1235, rfl⟩
set_option maxRecDepth 100000 in
theorem xk_180_715 : xk_OkA xp_F (xp_P sc) xp_cl xp_BW xp_NW xp_SW xp_exn 180 715 (.iload 6) := Or.inl ⟨xd_180_1236, rfl⟩
set_option maxRecDepth 100000 in
theorem xk_180_716 : xk_OkA xp_F (xp_P sc) xp_cl xp_BW xp_NW xp_SW xp_exn 180 716 (.i2l) := ⟨xd_180_1238, rfl⟩
set_option maxRecDepth 100000 in
theorem xk_180_717 : xk_OkA xp_F (xp_P sc) xp_cl xp_BW xp_NW xp_SW xp_exn 180 717 (.lcmp) := ⟨xd_180_1239, rfl⟩
set_option maxRecDepth 100000 in
theorem xk_180_718 : xk_OkA xp_F (xp_P sc) xp_cl xp_BW xp_NW xp_SW xp_exn 180 718 (.ifCond .eq 721) := ⟨_, xd_180_1240, by unfold xf_to; decide +kernel, rfl⟩
set_option maxRecDepth 100000 in
theorem xk_180_719 : xk_OkA xp_F (xp_P sc) xp_cl xp_BW xp_NW xp_SW xp_exn 180 719 (.iconst 0) := Or.inl ⟨xd_180_1243, rfl⟩
set_option maxRecDepth 100000 in
theorem xk_180_720 : xk_OkA xp_F (xp_P sc) xp_cl xp_BW xp_NW xp_SW xp_exn 180 720 (.freturn) := ⟨xd_180_1244, rfl⟩
set_option maxRecDepth 100000 in
theorem xk_180_721 : xk_OkA xp_F (xp_P sc) xp_cl xp_BW xp_NW xp_SW xp_exn 180 721 (.goto 784) := ⟨_, xd_180_1245, by unfold xf_to; decide +kernel⟩
set_option maxRecDepth 100000 in
theorem xk_180_722 : xk_OkA xp_F (xp_P sc) xp_cl xp_BW xp_NW xp_SW xp_exn 180 722 (.aload 1) := Or.inr ⟨1, rfl, xd_180_1248, rfl⟩
set_option maxRecDepth 100000 in
theorem xk_180_723 : xk_OkA xp_F (xp_P sc) xp_cl xp_BW xp_NW xp_SW xp_exn 180 723 (.invokeinterface 60 1) := ⟨rfl, Or.inl ⟨xwt_103, rfl⟩, rfl, rfl, xwt_1, by decide +kernel, by decide +kernel, Nat.le_of_ble_eq_true rfl, _, Or.inl xwt_100, Or.inr ⟨xd_180_1249, xwt_101, xwt_102, ⟨_, _, _, rfl, rfl⟩, by decide +kernel⟩⟩
set_option maxRecDepth 100000 in
theorem xk_180_724 : xk_OkA xp_F (xp_P sc) xp_cl xp_BW xp_NW xp_SW xp_exn 180 724 (.aload 2) := Or.inr ⟨2, rfl, xd_180_1252, rfl⟩
set_option maxRecDepth 100000 in
theorem xk_180_725 : xk_OkA xp_F (xp_P sc) xp_cl xp_BW xp_NW xp_SW xp_exn 180 725 (.invokeinterface 154 1) := ⟨rfl, Or.inl ⟨xwt_977, rfl⟩, rfl, rfl, xwt_5, by decide +kernel, by decide +kernel, Nat.le_of_ble_eq_true rfl, _, Or.inl xwt_974, Or.inr ⟨xd_180_1253, xwt_975, xwt_976, ⟨_, _, _, rfl, rfl⟩, by decide +kernel⟩⟩
set_option maxRecDepth 100000 in
theorem xk_180_726 : xk_OkA xp_F (xp_P sc) xp_cl xp_BW xp_NW xp_SW xp_exn 180 726 (.if_icmp .eq 784) := ⟨_, xd_180_1256, by unfold xf_to; decide +kernel, rfl⟩
set_option maxRecDepth 100000 in
theorem xk_180_727 : xk_OkA xp_F (xp_P sc) xp_cl xp_BW xp_NW xp_SW xp_exn 180 727 (.iconst 0) := Or.inl ⟨xd_180_1259, rfl⟩
set_option maxRecDepth 100000 in
theorem xk_180_728 : xk_OkA xp_F (xp_P sc) xp_cl xp_BW xp_NW xp_SW xp_exn 180 728 (.freturn) := ⟨xd_180_1260, rfl⟩
set_option maxRecDepth 100000 in
theorem xk_180_729 : xk_OkA xp_F (xp_P sc) xp_cl xp_BW xp_NW xp_SW xp_exn 180 729 (.aload 1) := Or.inr ⟨1, rfl, xd_180_1261, rfl⟩
set_option maxRecDepth 100000 in
theorem xk_180_730 : xk_OkA xp_F (xp_P sc) xp_cl xp_BW xp_NW xp_SW xp_exn 180 730 (.aload 0) := Or.inr ⟨0, rfl, xd_180_1262, rfl⟩
set_option maxRecDepth 100000 in
theorem xk_180_731 : xk_OkA xp_F (xp_P sc) xp_cl xp_BW xp_NW xp_SW xp_exn 180 731 (.iload 4) := Or.inl ⟨xd_180_1263, rfl⟩
set_option maxRecDepth 100000 in
theorem xk_180_732 : xk_OkA xp_F (xp_P sc) xp_cl xp_BW xp_NW xp_SW xp_exn 180 732 (.iconst 1) := Or.inl ⟨xd_180_1265, rfl⟩
set_option maxRecDepth 100000 in
theorem xk_180_733 : xk_OkA xp_F (xp_P sc) xp_cl xp_BW xp_NW xp_SW xp_exn 180 733 (.iadd) := ⟨xd_180_1266, rfl⟩
set_option maxRecDepth 100000 in
theorem xk_180_734 : xk_OkA xp_F (xp_P sc) xp_cl xp_BW xp_NW xp_SW xp_exn 180 734 (.iaload) := ⟨xd_180_1267, rfl⟩
set_option maxRecDepth 100000 in
theorem xk_180_735 : xk_OkA xp_F (xp_P sc) xp_cl xp_BW xp_NW xp_SW xp_exn 180 735 (.aload 0) := Or.inr ⟨0, rfl, xd_180_1268, rfl⟩
set_option maxRecDepth 100000 in
theorem xk_180_736 : xk_OkA xp_F (xp_P sc) xp_cl xp_BW xp_NW xp_SW xp_exn 180 736 (.iload 4) := Or.inl ⟨xd_180_1269, rfl⟩
set_option maxRecDepth 100000 in
theorem xk_180_737 : xk_OkA xp_F (xp_P sc) xp_cl xp_BW xp_NW xp_SW xp_exn 180 737 (.iconst 2) := Or.inl ⟨xd_180_1271, rfl⟩
set_option maxRecDepth 100000 in
theorem xk_180_738 : xk_OkA xp_F (xp_P sc) xp_cl xp_BW xp_NW xp_SW xp_exn 180 738 (.iadd) := ⟨xd_180_1272, rfl⟩
set_option maxRecDepth 100000 in
theorem xk_180_739 : xk_OkA xp_F (xp_P sc) xp_cl xp_BW xp_NW xp_SW xp_exn 180 739 (.iaload) := ⟨xd_180_1273, rfl⟩
set_option maxRecDepth 100000 in
theorem xk_180_740 : xk_OkA xp_F (xp_P sc) xp_cl xp_BW xp_NW xp_SW xp_exn 180 740 (.aload 0) := Or.inr ⟨0, rfl, xd_180_1274, rfl⟩
set_option maxRecDepth 100000 in
theorem xk_180_741 : xk_OkA xp_F (xp_P sc) xp_cl xp_BW xp_NW xp_SW xp_exn 180 741 (.iload 4) := Or.inl ⟨xd_180_1275, rfl⟩
set_option maxRecDepth 100000 in
theorem xk_180_742 : xk_OkA xp_F (xp_P sc) xp_cl xp_BW xp_NW xp_SW xp_exn 180 742 (.iconst 3) := Or.inl ⟨xd_180_1277, rfl⟩
set_option maxRecDepth 100000 in
theorem xk_180_743 : xk_OkA xp_F (xp_P sc) xp_cl xp_BW xp_NW xp_SW xp_exn 180 743 (.iadd) := ⟨xd_180_1278, rfl⟩
set_option maxRecDepth 100000 in
theorem xk_180_744 : xk_OkA xp_F (xp_P sc) xp_cl xp_BW xp_NW xp_SW xp_exn 180 744 (.iaload) := ⟨xd_180_1279, rfl⟩
set_option maxRecDepth 100000 in
theorem xk_180_745 : xk_OkA xp_F (xp_P sc) xp_cl xp_BW xp_NW xp_SW xp_exn 180 745 (.aload 3) := Or.inr ⟨3, rfl, xd_180_1280, rfl⟩
set_option maxRecDepth 100000 in
theorem xk_180_746 : xk_OkA xp_F (xp_P sc) xp_cl xp_BW xp_NW xp_SW xp_exn 180 746 (.invokeinterface 179 5) := ⟨rfl, Or.inr xwt_739, rfl, rfl, xwt_0, by decide +kernel, by decide +kernel, Nat.le_of_ble_eq_true rfl, _, Or.inl xwt_737, Or.inl ⟨xd_180_1281, xwt_738, rfl, by decide +kernel⟩⟩
set_option maxRecDepth 100000 in
theorem xk_180_747 : xk_OkA xp_F (xp_P sc) xp_cl xp_BW xp_NW xp_SW xp_exn 180 747 (.istore 5) := Or.inl ⟨xd_180_1284, rfl⟩
set_option maxRecDepth 100000 in
theorem xk_180_748 : xk_OkA xp_F (xp_P sc) xp_cl xp_BW xp_NW xp_SW xp_exn 180 748 (.aload 2) := Or.inr ⟨2, rfl, xd_180_1286, rfl⟩
set_option maxRecDepth 100000 in
theorem xk_180_749 : xk_OkA xp_F (xp_P sc) xp_cl xp_BW xp_NW xp_SW xp_exn 180 749 (.aload 0) := Or.inr ⟨0, rfl, xd_180_1287, rfl⟩
set_option maxRecDepth 100000 in
theorem xk_180_750 : xk_OkA xp_F (xp_P sc) xp_cl xp_BW xp_NW xp_SW xp_exn 180 750 (.iload 4) := Or.inl ⟨xd_180_1288, rfl⟩
set_option maxRecDepth 100000 in
theorem xk_180_751 : xk_OkA xp_F (xp_P sc) xp_cl xp_BW xp_NW xp_SW xp_exn 180 751 (.iconst 1) := Or.inl ⟨xd_180_1290, rfl⟩
set_option maxRecDepth 100000 in
theorem xk_180_752 : xk_OkA xp_F (xp_P sc) xp_cl xp_BW xp_NW xp_SW xp_exn 180 752 (.iadd) := ⟨xd_180_1291, rfl⟩
set_option maxRecDepth 100000 in
theorem xk_180_753 : xk_OkA xp_F (xp_P sc) xp_cl xp_BW xp_NW xp_SW xp_exn 180 753 (.iaload) := ⟨xd_180_1292, rfl⟩
set_option maxRecDepth 100000 in
theorem xk_180_754 : xk_OkA xp_F (xp_P sc) xp_cl xp_BW xp_NW xp_SW xp_exn 180 754 (.aload 0) := Or.inr ⟨0, rfl, xd_180_1293, rfl⟩
set_option maxRecDepth 100000 in
theorem xk_180_755 : xk_OkA xp_F (xp_P sc) xp_cl xp_BW xp_NW xp_SW xp_exn 180 755 (.iload 4) := Or.inl ⟨xd_180_1294, rfl⟩
set_option maxRecDepth 100000 in
theorem xk_180_756 : xk_OkA xp_F (xp_P sc) xp_cl xp_BW xp_NW xp_SW xp_exn 180 756 (.iconst 2) := Or.inl ⟨xd_180_1296, rfl⟩
set_option maxRecDepth 100000 in
theorem xk_180_757 : xk_OkA xp_F (xp_P sc) xp_cl xp_BW xp_NW xp_SW xp_exn 180 757 (.iadd) := ⟨xd_180_1297, rfl⟩
set_option maxRecDepth 100000 in
theorem xk_180_758 : xk_OkA xp_F (xp_P sc) xp_cl xp_BW xp_NW xp_SW xp_exn 180 758 (.iaload) := ⟨xd_180_1298, rfl⟩
set_option maxRecDepth 100000 in
theorem xk_180_759 : xk_OkA xp_F (xp_P sc) xp_cl xp_BW xp_NW xp_SW xp_exn 180 759 (.aload 0) := Or.inr ⟨0, rfl, xd_180_1299, rfl⟩
set_option maxRecDepth 100000 in
theorem xk_180_760 : xk_OkA xp_F (xp_P sc) xp_cl xp_BW xp_NW xp_SW xp_exn 180 760 (.iload 4) := Or.inl ⟨xd_180_1300, rfl⟩
set_option maxRecDepth 100000 in
theorem xk_180_761 : xk_OkA xp_F (xp_P sc) xp_cl xp_BW xp_NW xp_SW xp_exn 180 761 (.iconst 3) := Or.inl ⟨xd_180_1302, rfl⟩
set_option maxRecDepth 100000 in
theorem xk_180_762 : xk_OkA xp_F (xp_P sc) xp_cl xp_BW xp_NW xp_SW xp_exn 180 762 (.iadd) := ⟨xd_180_1303, rfl⟩
set_option maxRecDepth 100000 in
theorem xk_180_763 : xk_OkA xp_F (xp_P sc) xp_cl xp_BW xp_NW xp_SW xp_exn 180 763 (.iaload) := ⟨xd_180_1304, rfl⟩
set_option maxRecDepth 100000 in
theorem xk_180_764 : xk_OkA xp_F (xp_P sc) xp_cl xp_BW xp_NW xp_SW xp_exn 180 764 (.invokeinterface 155 4) := ⟨rfl, Or.inl ⟨xwt_981, rfl⟩, rfl, rfl, xwt_5, by decide +kernel, by decide +kernel, Nat.le_of_ble_eq_true rfl, _, Or.inl xwt_978, Or.inr ⟨xd_180_1305, xwt_979, xwt_980, ⟨_, _, _, rfl, rfl⟩, by decide +kernel⟩⟩
set_option maxRecDepth 100000 in
theorem xk_180_765 : xk_OkA xp_F (xp_P sc) xp_cl xp_BW xp_NW xp_SW xp_exn 180 765 (.istore 6) := Or.inl ⟨xd_180_1308, rfl⟩
set_option maxRecDepth 100000 in
theorem xk_180_766 : xk_OkA xp_F (xp_P sc) xp_cl xp_BW xp_NW xp_SW xp_exn 180 766 (.aload 2) := Or.inr ⟨2, rfl, xd_180_1310, rfl⟩
set_option maxRecDepth 100000 in
theorem xk_180_767 : xk_OkA xp_F (xp_P sc) xp_cl xp_BW xp_NW xp_SW xp_exn 180 767 (.invokeinterface 107 1) := ⟨rfl, Or.inl ⟨xwt_797, rfl⟩, rfl, rfl, xwt_5, by decide +kernel, by decide +kernel, Nat.le_of_ble_eq_true rfl, _, Or.inl xwt_794, Or.inr ⟨xd_180_1311, xwt_795, xwt_796, ⟨_, _, _, rfl, rfl⟩, by decide +kernel⟩⟩
set_option maxRecDepth 100000 in
theorem xk_180_768 : xk_OkA xp_F (xp_P sc) xp_cl xp_BW xp_NW xp_SW xp_exn 180 768 (.iload 5) := Or.inl ⟨xd_180_1314, rfl⟩
set_option maxRecDepth 100000 in
theorem xk_180_769 : xk_OkA xp_F (xp_P sc) xp_cl xp_BW xp_NW xp_SW xp_exn 180 769 (.if_icmp .eq 772) := ⟨_, xd_180_1316, by unfold xf_to; decide +kernel, rfl⟩
set_option maxRecDepth 100000 in
theorem xk_180_770 : xk_OkA xp_F (xp_P sc) xp_cl xp_BW xp_NW xp_SW xp_exn 180 770 (.iconst 0) := Or.inl ⟨xd_180_1319, rfl⟩
set_option maxRecDepth 100000 in
theorem xk_180_771 : xk_OkA xp_F (xp_P sc) xp_cl xp_BW xp_NW xp_SW xp_exn 180 771 (.freturn) := ⟨xd_180_1320, rfl⟩
set_option maxRecDepth 100000 in
theorem xk_180_772 : xk_OkA xp_F (xp_P sc) xp_cl xp_BW xp_NW xp_SW xp_exn 180 772 (.iload 5) := Or.inl ⟨xd_180_1321, rfl⟩
set_option maxRecDepth 100000 in
theorem xk_180_773 : xk_OkA xp_F (xp_P sc) xp_cl xp_BW xp_NW xp_SW xp_exn 180 773 (.ifCond .ne 783) := ⟨_, xd_180_1323, by unfold xf_to; decide +kernel, rfl⟩
set_option maxRecDepth 100000 in
theorem xk_180_774 : xk_OkA xp_F (xp_P sc) xp_cl xp_BW xp_NW xp_SW xp_exn 180 774 (.aload 3) := Or.inr ⟨3, rfl, xd_180_1326, rfl⟩
set_option maxRecDepth 100000 in
theorem xk_180_775 : xk_OkA xp_F (xp_P sc) xp_cl xp_BW xp_NW xp_SW xp_exn 180 775 (.iconst 0) := Or.inl ⟨xd_180_1327, rfl⟩
set_option maxRecDepth 100000 in
theorem xk_180_776 : xk_OkA xp_F (xp_P sc) xp_cl xp_BW xp_NW xp_SW xp_exn 180 776 (.laload) := ⟨xd_180_1328, rfl⟩
set_option maxRecDepth 100000 in
theorem xk_180_777 : xk_OkA xp_F (xp_P sc) xp_cl xp_BW xp_NW xp_SW xp_exn 180 777 (.iload 6) := Or.inl ⟨xd_180_1329, rfl⟩
set_option maxRecDepth 100000 in
theorem xk_180_778 : xk_OkA xp_F (xp_P sc) xp_cl xp_BW xp_NW xp_SW xp_exn 180 778 (.i2l) := ⟨xd_180_1331, rfl⟩
set_option maxRecDepth 100000 in
theorem xk_180_779 : xk_OkA xp_F (xp_P sc) xp_cl xp_BW xp_NW xp_SW xp_exn 180 779 (.lcmp) := ⟨xd_180_1332, rfl⟩
set_option maxRecDepth 100000 in
theorem xk_180_780 : xk_OkA xp_F (xp_P sc) xp_cl xp_BW xp_NW xp_SW xp_exn 180 780 (.ifCond .eq 783) := ⟨_, xd_180_1333, by unfold xf_to; decide +kernel, rfl⟩
set_option maxRecDepth 100000 in
theorem xk_180_781 : xk_OkA xp_F (xp_P sc) xp_cl xp_BW xp_NW xp_SW xp_exn 180 781 (.iconst 0) := Or.inl ⟨xd_180_1336, rfl⟩
set_option maxRecDepth 100000 in
theorem xk_180_782 : xk_OkA xp_F (xp_P sc) xp_cl xp_BW xp_NW xp_SW xp_exn 180 782 (.freturn) := ⟨xd_180_1337, rfl⟩
set_option maxRecDepth 100000 in
theorem xk_180_783 : xk_OkA xp_F (xp_P sc) xp_cl xp_BW xp_NW xp_SW xp_exn 180 783 (.goto 784) := ⟨_, xd_180_1338, by unfold xf_to; decide +kernel⟩
set_option maxRecDepth 100000 in
theorem xk_180_784 : xk_OkA xp_F (xp_P sc) xp_cl xp_BW xp_NW xp_SW xp_exn 180 784 (.iinc 4 (4)) := ⟨xd_180_1341, rfl⟩
set_option maxRecDepth 100000 in
theorem xk_180_785 : xk_OkA xp_F (xp_P sc) xp_cl xp_BW xp_NW xp_SW xp_exn 180 785 (.goto 2) := ⟨_, xd_180_1344, by unfold xf_to; decide +kernel⟩
set_option maxRecDepth 100000 in
theorem xk_180_786 : xk_OkA xp_F (xp_P sc) xp_cl xp_BW xp_NW xp_SW xp_exn 180 786 (.iconst 1) := Or.inl ⟨xd_180_1347, rfl⟩
set_option maxRecDepth 100000 in
theorem xk_180_787 : xk_OkA xp_F (xp_P sc) xp_cl xp_BW xp_NW xp_SW xp_exn 180 787 (.freturn) := ⟨xd_180_1348, rfl⟩
set_option maxRecDepth 100000 in
theorem xl_180 : xk_OkL xp_F (xp_P sc) xp_cl xp_BW xp_NW xp_SW xp_exn 180 0 xc_180 := ⟨xk_180_0, xk_180_1, xk_180_2, xk_180_3, xk_180_4, xk_180_5, xk_180_6, xk_180_7, xk_180_8, xk_180_9, xk_180_10, xk_180_11, xk_180_12, xk_180_13, xk_180_14, xk_180_15, xk_180_16, xk_180_17, xk_180_18, xk_180_19, xk_180_20, xk_180_21, xk_180_22, xk_180_23, xk_180_24, xk_180_25, xk_180_26, xk_180_27, xk_180_28, xk_180_29, xk_180_30, xk_180_31, xk_180_32, xk_180_33, xk_180_34, xk_180_35, xk_180_36, xk_180_37, xk_180_38, xk_180_39, xk_180_40, xk_180_41, xk_180_42, xk_180_43, xk_180_44, xk_180_45, xk_180_46, xk_180_47, xk_180_48, xk_180_49, xk_180_50, xk_180_51, xk_180_52, xk_180_53, xk_180_54, xk_180_55, xk_180_56, xk_180_57, xk_180_58, xk_180_59, xk_180_60, xk_180_61, xk_180_62, xk_180_63, xk_180_64, xk_180_65, xk_180_66, xk_180_67, xk_180_68, xk_180_69, xk_180_70, xk_180_71, xk_180_72, xk_180_73, xk_180_74, xk_180_75, xk_180_76, xk_180_77, xk_180_78, xk_180_79, xk_180_80, xk_180_81, xk_180_82, xk_180_83, xk_180_84, xk_180_85, xk_180_86, xk_180_87, xk_180_88, xk_180_89, xk_180_90, xk_180_91, xk_180_92, xk_180_93, xk_180_94, xk_180_95, xk_180_96, xk_180_97, xk_180_98, xk_180_99, xk_180_100, xk_180_101, xk_180_102, xk_180_103, xk_180_104, xk_180_105, xk_180_106, xk_180_107, xk_180_108, xk_180_109, xk_180_110, xk_180_111, xk_180_112, xk_180_113, xk_180_114, xk_180_115, xk_180_116, xk_180_117, xk_180_118, xk_180_119, xk_180_120, xk_180_121, xk_180_122, xk_180_123, xk_180_124, xk_180_125, xk_180_126, xk_180_127, xk_180_128, xk_180_129, xk_180_130, xk_180_131, xk_180_132, xk_180_133, xk_180_134, xk_180_135, xk_180_136, xk_180_137, xk_180_138, xk_180_139, xk_180_140, xk_180_141, xk_180_142, xk_180_143, xk_180_144, xk_180_145, xk_180_146, xk_180_147, xk_180_148, xk_180_149, xk_180_150, xk_180_151, xk_180_152, xk_180_153, xk_180_154, xk_180_155, xk_180_156, xk_180_157, xk_180_158, xk_180_159, xk_180_160, xk_180_161, xk_180_162, xk_180_163, xk_180_164, xk_180_165, xk_180_166, xk_180_167, xk_180_168, xk_180_169, xk_180_170, xk_180_171, xk_180_172, xk_180_173, xk_180_174, xk_180_175, xk_180_176, xk_180_177, xk_180_178, xk_180_179, xk_180_180, xk_180_181, xk_180_182, xk_180_183, xk_180_184, xk_180_185, xk_180_186, xk_180_187, xk_180_188, xk_180_189, xk_180_190, xk_180_191, xk_180_192, xk_180_193, xk_180_194, xk_180_195, xk_180_196, xk_180_197, xk_180_198, xk_180_199, xk_180_200, xk_180_201, xk_180_202, xk_180_203, xk_180_204, xk_180_205, xk_180_206, xk_180_207, xk_180_208, xk_180_209, xk_180_210, xk_180_211, xk_180_212, xk_180_213, xk_180_214, xk_180_215, xk_180_216, xk_180_217, xk_180_218, xk_180_219, xk_180_220, xk_180_221, xk_180_222, xk_180_223, xk_180_224, xk_180_225, xk_180_226, xk_180_227, xk_180_228, xk_180_229, xk_180_230, xk_180_231, xk_180_232, xk_180_233, xk_180_234, xk_180_235, xk_180_236, xk_180_237, xk_180_238, xk_180_239, xk_180_240, xk_180_241, xk_180_242, xk_180_243, xk_180_244, xk_180_245, xk_180_246, xk_180_247, xk_180_248, xk_180_249, xk_180_250, xk_180_251, xk_180_252, xk_180_253, xk_180_254, xk_180_255, xk_180_256, xk_180_257, xk_180_258, xk_180_259, xk_180_260, xk_180_261, xk_180_262, xk_180_263, xk_180_264, xk_180_265, xk_180_266, xk_180_267, xk_180_268, xk_180_269, xk_180_270, xk_180_271, xk_180_272, xk_180_273, xk_180_274, xk_180_275, xk_180_276, xk_180_277, xk_180_278, xk_180_279, xk_180_280, xk_180_281, xk_180_282, xk_180_283, xk_180_284, xk_180_285, xk_180_286, xk_180_287, xk_180_288, xk_180_289, xk_180_290, xk_180_291, xk_180_292, xk_180_293, xk_180_294, xk_180_295, xk_180_296, xk_180_297, xk_180_298, xk_180_299, xk_180_300, xk_180_301, xk_180_302, xk_180_303, xk_180_304, xk_180_305, xk_180_306, xk_180_307, xk_180_308, xk_180_309, xk_180_310, xk_180_311, xk_180_312, xk_180_313, xk_180_314, xk_180_315, xk_180_316, xk_180_317, xk_180_318, xk_180_319, xk_180_320, xk_180_321, xk_180_322, xk_180_323, xk_180_324, xk_180_325, xk_180_326, xk_180_327, xk_180_328, xk_180_329, xk_180_330, xk_180_331, xk_180_332, xk_180_333, xk_180_334, xk_180_335, xk_180_336, xk_180_337, xk_180_338, xk_180_339, xk_180_340, xk_180_341, xk_180_342, xk_180_343, xk_180_344, xk_180_345, xk_180_346, xk_180_347, xk_180_348, xk_180_349, xk_180_350, xk_180_351, xk_180_352, xk_180_353, xk_180_354, xk_180_355, xk_180_356, xk_180_357, xk_180_358, xk_180_359, xk_180_360, xk_180_361, xk_180_362, xk_180_363, xk_180_364, xk_180_365, xk_180_366, xk_180_367, xk_180_368, xk_180_369, xk_180_370, xk_180_371, xk_180_372, xk_180_373, xk_180_374, xk_180_375, xk_180_376, xk_180_377, xk_180_378, xk_180_379, xk_180_380, xk_180_381, xk_180_382, xk_180_383, xk_180_384, xk_180_385, xk_180_386, xk_180_387, xk_180_388, xk_180_389, xk_180_390, xk_180_391, xk_180_392, xk_180_393, xk_180_394, xk_180_395, xk_180_396, xk_180_397, xk_180_398, xk_180_399, xk_180_400, xk_180_401, xk_180_402, xk_180_403, xk_180_404, xk_180_405, xk_180_406, xk_180_407, xk_180_408, xk_180_409, xk_180_410, xk_180_411, xk_180_412, xk_180_413, xk_180_414, xk_180_415, xk_180_416, xk_180_417, xk_180_418, xk_180_419, xk_180_420, xk_180_421, xk_180_422, xk_180_423, xk_180_424, xk_180_425, xk_180_426, xk_180_427, xk_180_428, xk_180_429, xk_180_430, xk_180_431, xk_180_432, xk_180_433, xk_180_434, xk_180_435, xk_180_436, xk_180_437, xk_180_438, xk_180_439, xk_180_440, xk_180_441, xk_180_442, xk_180_443, xk_180_444, xk_180_445, xk_180_446, xk_180_447, xk_180_448, xk_180_449, xk_180_450, xk_180_451, xk_180_452, xk_180_453, xk_180_454, xk_180_455, xk_180_456, xk_180_457, xk_180_458, xk_180_459, xk_180_460, xk_180_461, xk_180_462, xk_180_463, xk_180_464, xk_180_465, xk_180_466, xk_180_467, xk_180_468, xk_180_469, xk_180_470, xk_180_471, xk_180_472, xk_180_473, xk_180_474, xk_180_475, xk_180_476, xk_180_477, xk_180_478, xk_180_479, xk_180_480, xk_180_481, xk_180_482, xk_180_483, xk_180_484, xk_180_485, xk_180_486, xk_180_487, xk_180_488, xk_180_489, xk_180_490, xk_180_491, xk_180_492, xk_180_493, xk_180_494, xk_180_495, xk_180_496, xk_180_497, xk_180_498, xk_180_499, xk_180_500, xk_180_501, xk_180_502, xk_180_503, xk_180_504, xk_180_505, xk_180_506, xk_180_507, xk_180_508, xk_180_509, xk_180_510, xk_180_511, xk_180_512, xk_180_513, xk_180_514, xk_180_515, xk_180_516, xk_180_517, xk_180_518, xk_180_519, xk_180_520, xk_180_521, xk_180_522, xk_180_523, xk_180_524, xk_180_525, xk_180_526, xk_180_527, xk_180_528, xk_180_529, xk_180_530, xk_180_531, xk_180_532, xk_180_533, xk_180_534, xk_180_535, xk_180_536, xk_180_537, xk_180_538, xk_180_539, xk_180_540, xk_180_541, xk_180_542, xk_180_543, xk_180_544, xk_180_545, xk_180_546, xk_180_547, xk_180_548, xk_180_549, xk_180_550, xk_180_551, xk_180_552, xk_180_553, xk_180_554, xk_180_555, xk_180_556, xk_180_557, xk_180_558, xk_180_559, xk_180_560, xk_180_561, xk_180_562, xk_180_563, xk_180_564, xk_180_565, xk_180_566, xk_180_567, xk_180_568, xk_180_569, xk_180_570, xk_180_571, xk_180_572, xk_180_573, xk_180_574, xk_180_575, xk_180_576, xk_180_577, xk_180_578, xk_180_579, xk_180_580, xk_180_581, xk_180_582, xk_180_583, xk_180_584, xk_180_585, xk_180_586, xk_180_587, xk_180_588, xk_180_589, xk_180_590, xk_180_591, xk_180_592, xk_180_593, xk_180_594, xk_180_595, xk_180_596, xk_180_597, xk_180_598, xk_180_599, xk_180_600, xk_180_601, xk_180_602, xk_180_603, xk_180_604, xk_180_605, xk_180_606, xk_180_607, xk_180_608, xk_180_609, xk_180_610, xk_180_611, xk_180_612, xk_180_613, xk_180_614, xk_180_615, xk_180_616, xk_180_617, xk_180_618, xk_180_619, xk_180_620, xk_180_621, xk_180_622, xk_180_623, xk_180_624, xk_180_625, xk_180_626, xk_180_627, xk_180_628, xk_180_629, xk_180_630, xk_180_631, xk_180_632, xk_180_633, xk_180_634, xk_180_635, xk_180_636, xk_180_637, xk_180_638, xk_180_639, xk_180_640, xk_180_641, xk_180_642, xk_180_643, xk_180_644, xk_180_645, xk_180_646, xk_180_647, xk_180_648, xk_180_649, xk_180_650, xk_180_651, xk_180_652, xk_180_653, xk_180_654, xk_180_655, xk_180_656, xk_180_657, xk_180_658, xk_180_659, xk_180_660, xk_180_661, xk_180_662, xk_180_663, xk_180_664, xk_180_665, xk_180_666, xk_180_667, xk_180_668, xk_180_669, xk_180_670, xk_180_671, xk_180_672, xk_180_673, xk_180_674, xk_180_675, xk_180_676, xk_180_677, xk_180_678, xk_180_679, xk_180_680, xk_180_681, xk_180_682, xk_180_683, xk_180_684, xk_180_685, xk_180_686, xk_180_687, xk_180_688, xk_180_689, xk_180_690, xk_180_691, xk_180_692, xk_180_693, xk_180_694, xk_180_695, xk_180_696, xk_180_697, xk_180_698, xk_180_699, xk_180_700, xk_180_701, xk_180_702, xk_180_703, xk_180_704, xk_180_705, xk_180_706, xk_180_707, xk_180_708, xk_180_709, xk_180_710, xk_180_711, xk_180_712, xk_180_713, xk_180_714, xk_180_715, xk_180_716, xk_180_717, xk_180_718, xk_180_719, xk_180_720, xk_180_721, xk_180_722, xk_180_723, xk_180_724, xk_180_725, xk_180_726, xk_180_727, xk_180_728, xk_180_729, xk_180_730, xk_180_731, xk_180_732, xk_180_733, xk_180_734, xk_180_735, xk_180_736, xk_180_737, xk_180_738, xk_180_739, xk_180_740, xk_180_741, xk_180_742, xk_180_743, xk_180_744, xk_180_745, xk_180_746, xk_180_747, xk_180_748, xk_180_749, xk_180_750, xk_180_751, xk_180_752, xk_180_753, xk_180_754, xk_180_755, xk_180_756, xk_180_757, xk_180_758, xk_180_759, xk_180_760, xk_180_761, xk_180_762, xk_180_763, xk_180_764, xk_180_765, xk_180_766, xk_180_767, xk_180_768, xk_180_769, xk_180_770, xk_180_771, xk_180_772, xk_180_773, xk_180_774, xk_180_775, xk_180_776, xk_180_777, xk_180_778, xk_180_779, xk_180_780, xk_180_781, xk_180_782, xk_180_783, xk_180_784, xk_180_785, xk_180_786, xk_180_787, trivial⟩
end XkOk8
