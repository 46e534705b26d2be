/-! The instructions of the methods, one by one: written by wip/whole/gen_tables.py. -/
section XkOk8
theorem xd_172_0 : decode method_15_code 0 = .ok (.aload_n 3, 1) := by decide +kernel
theorem xd_172_1 : decode method_15_code 1 = .ok (.iconst 0, 1) := by decide +kernel
theorem xd_172_2 : decode method_15_code 2 = .ok (.aload_n 0, 1) := by decide +kernel
theorem xd_172_3 : decode method_15_code 3 = .ok (.iload_n 1, 1) := by decide +kernel
theorem xd_172_4 : decode method_15_code 4 = .ok (.iload_n 2, 1) := by decide +kernel
theorem xd_172_5 : decode method_15_code 5 = .ok (.invokevirtual 61, 3) := by decide +kernel
theorem xd_172_8 : decode method_15_code 8 = .ok (.i2l, 1) := by decide +kernel
theorem xd_172_9 : decode method_15_code 9 = .ok (.lastore, 1) := by decide +kernel
theorem xd_172_10 : decode method_15_code 10 = .ok (.goto 15, 3) := by decide +kernel
theorem xd_172_13 : decode method_15_code 13 = .ok (.astore 4, 2) := by decide +kernel
theorem xd_172_15 : decode method_15_code 15 = .ok (.iconst 1, 1) := by decide +kernel
theorem xd_172_16 : decode method_15_code 16 = .ok (.ireturn, 1) := by decide +kernel
theorem xd_172_17 : decode method_15_code 17 = .ok (.astore 4, 2) := by decide +kernel
theorem xd_172_19 : decode method_15_code 19 = .ok (.iconst 2, 1) := by decide +kernel
theorem xd_172_20 : decode method_15_code 20 = .ok (.ireturn, 1) := by decide +kernel
theorem xd_172_21 : decode method_15_code 21 = .ok (.astore 4, 2) := by decide +kernel
theorem xd_172_23 : decode method_15_code 23 = .ok (.iconst 3, 1) := by decide +kernel
theorem xd_172_24 : decode method_15_code 24 = .ok (.ireturn, 1) := by decide +kernel
theorem xd_172_25 : decode method_15_code 25 = .ok (.iconst 0, 1) := by decide +kernel
theorem xd_172_26 : decode method_15_code 26 = .ok (.ireturn, 1) := by decide +kernel
theorem xk_172_0 : xk_OkA xp_F xp_P xp_cl xp_BW xp_NW xp_SW xp_exn 172 0 (.aload 3) := Or.inr ⟨3, rfl, xd_172_0, rfl⟩
theorem xk_172_1 : xk_OkA xp_F xp_P xp_cl xp_BW xp_NW xp_SW xp_exn 172 1 (.iconst 0) := Or.inl ⟨xd_172_1, rfl⟩
theorem xk_172_2 : xk_OkA xp_F xp_P xp_cl xp_BW xp_NW xp_SW xp_exn 172 2 (.aload 0) := Or.inr ⟨0, rfl, xd_172_2, rfl⟩
theorem xk_172_3 : xk_OkA xp_F xp_P xp_cl xp_BW xp_NW xp_SW xp_exn 172 3 (.iload 1) := Or.inr ⟨1, rfl, xd_172_3, rfl⟩
theorem xk_172_4 : xk_OkA xp_F xp_P xp_cl xp_BW xp_NW xp_SW xp_exn 172 4 (.iload 2) := Or.inr ⟨2, rfl, xd_172_4, rfl⟩
theorem xk_172_5 : xk_OkA xp_F xp_P xp_cl xp_BW xp_NW xp_SW xp_exn 172 5 (.invokeinterface 53 3) := ⟨rfl, Or.inl ⟨xwt_662, rfl⟩, xwt_1, by decide +kernel, by decide +kernel, by decide +kernel, _, Or.inl xwt_659, Or.inr ⟨xd_172_5, xwt_660, xwt_661, ⟨_, _, _, rfl, rfl⟩, by decide +kernel⟩⟩
theorem xk_172_6 : xk_OkA xp_F xp_P xp_cl xp_BW xp_NW xp_SW xp_exn 172 6 (.i2l) := ⟨xd_172_8, rfl⟩
theorem xk_172_7 : xk_OkA xp_F xp_P xp_cl xp_BW xp_NW xp_SW xp_exn 172 7 (.lastore) := ⟨xd_172_9, rfl⟩
theorem xk_172_8 : xk_OkA xp_F xp_P xp_cl xp_BW xp_NW xp_SW xp_exn 172 8 (.goto 18) := ⟨_, xd_172_10, by unfold xf_to; decide +kernel⟩
theorem xk_172_9 : xk_OkA xp_F xp_P xp_cl xp_BW xp_NW xp_SW xp_exn 172 9 (.astore 4) := Or.inl ⟨xd_172_13, rfl⟩
theorem xk_172_10 : xk_OkA xp_F xp_P xp_cl xp_BW xp_NW xp_SW xp_exn 172 10 (.iconst 1) := Or.inl ⟨xd_172_15, rfl⟩
theorem xk_172_11 : xk_OkA xp_F xp_P xp_cl xp_BW xp_NW xp_SW xp_exn 172 11 (.ireturn) := ⟨xd_172_16, rfl⟩
theorem xk_172_12 : xk_OkA xp_F xp_P xp_cl xp_BW xp_NW xp_SW xp_exn 172 12 (.astore 4) := Or.inl ⟨xd_172_17, rfl⟩
theorem xk_172_13 : xk_OkA xp_F xp_P xp_cl xp_BW xp_NW xp_SW xp_exn 172 13 (.iconst 2) := Or.inl ⟨xd_172_19, rfl⟩
theorem xk_172_14 : xk_OkA xp_F xp_P xp_cl xp_BW xp_NW xp_SW xp_exn 172 14 (.ireturn) := ⟨xd_172_20, rfl⟩
theorem xk_172_15 : xk_OkA xp_F xp_P xp_cl xp_BW xp_NW xp_SW xp_exn 172 15 (.astore 4) := Or.inl ⟨xd_172_21, rfl⟩
theorem xk_172_16 : xk_OkA xp_F xp_P xp_cl xp_BW xp_NW xp_SW xp_exn 172 16 (.iconst 3) := Or.inl ⟨xd_172_23, rfl⟩
theorem xk_172_17 : xk_OkA xp_F xp_P xp_cl xp_BW xp_NW xp_SW xp_exn 172 17 (.ireturn) := ⟨xd_172_24, rfl⟩
theorem xk_172_18 : xk_OkA xp_F xp_P xp_cl xp_BW xp_NW xp_SW xp_exn 172 18 (.iconst 0) := Or.inl ⟨xd_172_25, rfl⟩
theorem xk_172_19 : xk_OkA xp_F xp_P xp_cl xp_BW xp_NW xp_SW xp_exn 172 19 (.ireturn) := ⟨xd_172_26, rfl⟩
theorem xl_172 : xk_OkL xp_F xp_P xp_cl xp_BW xp_NW xp_SW xp_exn 172 0 xc_172 := ⟨xk_172_0, xk_172_1, xk_172_2, xk_172_3, xk_172_4, xk_172_5, xk_172_6, xk_172_7, xk_172_8, xk_172_9, xk_172_10, xk_172_11, xk_172_12, xk_172_13, xk_172_14, xk_172_15, xk_172_16, xk_172_17, xk_172_18, xk_172_19, trivial⟩
theorem xd_173_0 : decode method_16_code 0 = .ok (.aload 4, 2) := by decide +kernel
theorem xd_173_2 : decode method_16_code 2 = .ok (.iconst 0, 1) := by decide +kernel
theorem xd_173_3 : decode method_16_code 3 = .ok (.aload_n 0, 1) := by decide +kernel
theorem xd_173_4 : decode method_16_code 4 = .ok (.iload_n 1, 1) := by decide +kernel
theorem xd_173_5 : decode method_16_code 5 = .ok (.iload_n 2, 1) := by decide +kernel
theorem xd_173_6 : decode method_16_code 6 = .ok (.iload_n 3, 1) := by decide +kernel
theorem xd_173_7 : decode method_16_code 7 = .ok (.invokevirtual 64, 3) := by decide +kernel
theorem xd_173_10 : decode method_16_code 10 = .ok (.i2l, 1) := by decide +kernel
theorem xd_173_11 : decode method_16_code 11 = .ok (.lastore, 1) := by decide +kernel
theorem xd_173_12 : decode method_16_code 12 = .ok (.goto 11, 3) := by decide +kernel
theorem xd_173_15 : decode method_16_code 15 = .ok (.astore 5, 2) := by decide +kernel
theorem xd_173_17 : decode method_16_code 17 = .ok (.iconst 1, 1) := by decide +kernel
theorem xd_173_18 : decode method_16_code 18 = .ok (.ireturn, 1) := by decide +kernel
theorem xd_173_19 : decode method_16_code 19 = .ok (.astore 5, 2) := by decide +kernel
theorem xd_173_21 : decode method_16_code 21 = .ok (.iconst 2, 1) := by decide +kernel
theorem xd_173_22 : decode method_16_code 22 = .ok (.ireturn, 1) := by decide +kernel
theorem xd_173_23 : decode method_16_code 23 = .ok (.iconst 0, 1) := by decide +kernel
theorem xd_173_24 : decode method_16_code 24 = .ok (.ireturn, 1) := by decide +kernel
theorem xk_173_0 : xk_OkA xp_F xp_P xp_cl xp_BW xp_NW xp_SW xp_exn 173 0 (.aload 4) := Or.inl ⟨xd_173_0, rfl⟩
theorem xk_173_1 : xk_OkA xp_F xp_P xp_cl xp_BW xp_NW xp_SW xp_exn 173 1 (.iconst 0) := Or.inl ⟨xd_173_2, rfl⟩
theorem xk_173_2 : xk_OkA xp_F xp_P xp_cl xp_BW xp_NW xp_SW xp_exn 173 2 (.aload 0) := Or.inr ⟨0, rfl, xd_173_3, rfl⟩
theorem xk_173_3 : xk_OkA xp_F xp_P xp_cl xp_BW xp_NW xp_SW xp_exn 173 3 (.iload 1) := Or.inr ⟨1, rfl, xd_173_4, rfl⟩
theorem xk_173_4 : xk_OkA xp_F xp_P xp_cl xp_BW xp_NW xp_SW xp_exn 173 4 (.iload 2) := Or.inr ⟨2, rfl, xd_173_5, rfl⟩
theorem xk_173_5 : xk_OkA xp_F xp_P xp_cl xp_BW xp_NW xp_SW xp_exn 173 5 (.iload 3) := Or.inr ⟨3, rfl, xd_173_6, rfl⟩
theorem xk_173_6 : xk_OkA xp_F xp_P xp_cl xp_BW xp_NW xp_SW xp_exn 173 6 (.invokeinterface 54 4) := ⟨rfl, Or.inl ⟨xwt_670, rfl⟩, xwt_1, by decide +kernel, by decide +kernel, by decide +kernel, _, Or.inl xwt_667, Or.inr ⟨xd_173_7, xwt_668, xwt_669, ⟨_, _, _, rfl, rfl⟩, by decide +kernel⟩⟩
theorem xk_173_7 : xk_OkA xp_F xp_P xp_cl xp_BW xp_NW xp_SW xp_exn 173 7 (.i2l) := ⟨xd_173_10, rfl⟩
theorem xk_173_8 : xk_OkA xp_F xp_P xp_cl xp_BW xp_NW xp_SW xp_exn 173 8 (.lastore) := ⟨xd_173_11, rfl⟩
theorem xk_173_9 : xk_OkA xp_F xp_P xp_cl xp_BW xp_NW xp_SW xp_exn 173 9 (.goto 16) := ⟨_, xd_173_12, by unfold xf_to; decide +kernel⟩
theorem xk_173_10 : xk_OkA xp_F xp_P xp_cl xp_BW xp_NW xp_SW xp_exn 173 10 (.astore 5) := Or.inl ⟨xd_173_15, rfl⟩
theorem xk_173_11 : xk_OkA xp_F xp_P xp_cl xp_BW xp_NW xp_SW xp_exn 173 11 (.iconst 1) := Or.inl ⟨xd_173_17, rfl⟩
theorem xk_173_12 : xk_OkA xp_F xp_P xp_cl xp_BW xp_NW xp_SW xp_exn 173 12 (.ireturn) := ⟨xd_173_18, rfl⟩
theorem xk_173_13 : xk_OkA xp_F xp_P xp_cl xp_BW xp_NW xp_SW xp_exn 173 13 (.astore 5) := Or.inl ⟨xd_173_19, rfl⟩
theorem xk_173_14 : xk_OkA xp_F xp_P xp_cl xp_BW xp_NW xp_SW xp_exn 173 14 (.iconst 2) := Or.inl ⟨xd_173_21, rfl⟩
theorem xk_173_15 : xk_OkA xp_F xp_P xp_cl xp_BW xp_NW xp_SW xp_exn 173 15 (.ireturn) := ⟨xd_173_22, rfl⟩
theorem xk_173_16 : xk_OkA xp_F xp_P xp_cl xp_BW xp_NW xp_SW xp_exn 173 16 (.iconst 0) := Or.inl ⟨xd_173_23, rfl⟩
theorem xk_173_17 : xk_OkA xp_F xp_P xp_cl xp_BW xp_NW xp_SW xp_exn 173 17 (.ireturn) := ⟨xd_173_24, rfl⟩
theorem xl_173 : xk_OkL xp_F xp_P xp_cl xp_BW xp_NW xp_SW xp_exn 173 0 xc_173 := ⟨xk_173_0, xk_173_1, xk_173_2, xk_173_3, xk_173_4, xk_173_5, xk_173_6, xk_173_7, xk_173_8, xk_173_9, xk_173_10, xk_173_11, xk_173_12, xk_173_13, xk_173_14, xk_173_15, xk_173_16, xk_173_17, trivial⟩
theorem xd_174_0 : decode method_17_code 0 = .ok (.aload_n 2, 1) := by decide +kernel
theorem xd_174_1 : decode method_17_code 1 = .ok (.iconst 0, 1) := by decide +kernel
theorem xd_174_2 : decode method_17_code 2 = .ok (.aload_n 0, 1) := by decide +kernel
theorem xd_174_3 : decode method_17_code 3 = .ok (.iload_n 1, 1) := by decide +kernel
theorem xd_174_4 : decode method_17_code 4 = .ok (.invokevirtual 67, 3) := by decide +kernel
theorem xd_174_7 : decode method_17_code 7 = .ok (.i2l, 1) := by decide +kernel
theorem xd_174_8 : decode method_17_code 8 = .ok (.lastore, 1) := by decide +kernel
theorem xd_174_9 : decode method_17_code 9 = .ok (.goto 9, 3) := by decide +kernel
theorem xd_174_12 : decode method_17_code 12 = .ok (.astore_n 3, 1) := by decide +kernel
theorem xd_174_13 : decode method_17_code 13 = .ok (.iconst 1, 1) := by decide +kernel
theorem xd_174_14 : decode method_17_code 14 = .ok (.ireturn, 1) := by decide +kernel
theorem xd_174_15 : decode method_17_code 15 = .ok (.astore_n 3, 1) := by decide +kernel
theorem xd_174_16 : decode method_17_code 16 = .ok (.iconst 2, 1) := by decide +kernel
theorem xd_174_17 : decode method_17_code 17 = .ok (.ireturn, 1) := by decide +kernel
theorem xd_174_18 : decode method_17_code 18 = .ok (.iconst 0, 1) := by decide +kernel
theorem xd_174_19 : decode method_17_code 19 = .ok (.ireturn, 1) := by decide +kernel
theorem xk_174_0 : xk_OkA xp_F xp_P xp_cl xp_BW xp_NW xp_SW xp_exn 174 0 (.aload 2) := Or.inr ⟨2, rfl, xd_174_0, rfl⟩
theorem xk_174_1 : xk_OkA xp_F xp_P xp_cl xp_BW xp_NW xp_SW xp_exn 174 1 (.iconst 0) := Or.inl ⟨xd_174_1, rfl⟩
theorem xk_174_2 : xk_OkA xp_F xp_P xp_cl xp_BW xp_NW xp_SW xp_exn 174 2 (.aload 0) := Or.inr ⟨0, rfl, xd_174_2, rfl⟩
theorem xk_174_3 : xk_OkA xp_F xp_P xp_cl xp_BW xp_NW xp_SW xp_exn 174 3 (.iload 1) := Or.inr ⟨1, rfl, xd_174_3, rfl⟩
theorem xk_174_4 : xk_OkA xp_F xp_P xp_cl xp_BW xp_NW xp_SW xp_exn 174 4 (.invokeinterface 55 2) := ⟨rfl, Or.inl ⟨xwt_677, rfl⟩, xwt_1, by decide +kernel, by decide +kernel, by decide +kernel, _, Or.inl xwt_674, Or.inr ⟨xd_174_4, xwt_675, xwt_676, ⟨_, _, _, rfl, rfl⟩, by decide +kernel⟩⟩
theorem xk_174_5 : xk_OkA xp_F xp_P xp_cl xp_BW xp_NW xp_SW xp_exn 174 5 (.i2l) := ⟨xd_174_7, rfl⟩
theorem xk_174_6 : xk_OkA xp_F xp_P xp_cl xp_BW xp_NW xp_SW xp_exn 174 6 (.lastore) := ⟨xd_174_8, rfl⟩
theorem xk_174_7 : xk_OkA xp_F xp_P xp_cl xp_BW xp_NW xp_SW xp_exn 174 7 (.goto 14) := ⟨_, xd_174_9, by unfold xf_to; decide +kernel⟩
theorem xk_174_8 : xk_OkA xp_F xp_P xp_cl xp_BW xp_NW xp_SW xp_exn 174 8 (.astore 3) := Or.inr ⟨3, rfl, xd_174_12, rfl⟩
theorem xk_174_9 : xk_OkA xp_F xp_P xp_cl xp_BW xp_NW xp_SW xp_exn 174 9 (.iconst 1) := Or.inl ⟨xd_174_13, rfl⟩
theorem xk_174_10 : xk_OkA xp_F xp_P xp_cl xp_BW xp_NW xp_SW xp_exn 174 10 (.ireturn) := ⟨xd_174_14, rfl⟩
theorem xk_174_11 : xk_OkA xp_F xp_P xp_cl xp_BW xp_NW xp_SW xp_exn 174 11 (.astore 3) := Or.inr ⟨3, rfl, xd_174_15, rfl⟩
theorem xk_174_12 : xk_OkA xp_F xp_P xp_cl xp_BW xp_NW xp_SW xp_exn 174 12 (.iconst 2) := Or.inl ⟨xd_174_16, rfl⟩
theorem xk_174_13 : xk_OkA xp_F xp_P xp_cl xp_BW xp_NW xp_SW xp_exn 174 13 (.ireturn) := ⟨xd_174_17, rfl⟩
theorem xk_174_14 : xk_OkA xp_F xp_P xp_cl xp_BW xp_NW xp_SW xp_exn 174 14 (.iconst 0) := Or.inl ⟨xd_174_18, rfl⟩
theorem xk_174_15 : xk_OkA xp_F xp_P xp_cl xp_BW xp_NW xp_SW xp_exn 174 15 (.ireturn) := ⟨xd_174_19, rfl⟩
theorem xl_174 : xk_OkL xp_F xp_P xp_cl xp_BW xp_NW xp_SW xp_exn 174 0 xc_174 := ⟨xk_174_0, xk_174_1, xk_174_2, xk_174_3, xk_174_4, xk_174_5, xk_174_6, xk_174_7, xk_174_8, xk_174_9, xk_174_10, xk_174_11, xk_174_12, xk_174_13, xk_174_14, xk_174_15, trivial⟩
theorem xd_175_0 : decode method_18_code 0 = .ok (.aload_n 0, 1) := by decide +kernel
theorem xd_175_1 : decode method_18_code 1 = .ok (.iload_n 1, 1) := by decide +kernel
theorem xd_175_2 : decode method_18_code 2 = .ok (.invokevirtual 70, 3) := by decide +kernel
theorem xd_175_5 : decode method_18_code 5 = .ok (.goto 9, 3) := by decide +kernel
theorem xd_175_8 : decode method_18_code 8 = .ok (.astore_n 2, 1) := by decide +kernel
theorem xd_175_9 : decode method_18_code 9 = .ok (.iconst 1, 1) := by decide +kernel
theorem xd_175_10 : decode method_18_code 10 = .ok (.ireturn, 1) := by decide +kernel
theorem xd_175_11 : decode method_18_code 11 = .ok (.astore_n 2, 1) := by decide +kernel
theorem xd_175_12 : decode method_18_code 12 = .ok (.iconst 2, 1) := by decide +kernel
theorem xd_175_13 : decode method_18_code 13 = .ok (.ireturn, 1) := by decide +kernel
theorem xd_175_14 : decode method_18_code 14 = .ok (.iconst 0, 1) := by decide +kernel
theorem xd_175_15 : decode method_18_code 15 = .ok (.ireturn, 1) := by decide +kernel
theorem xk_175_0 : xk_OkA xp_F xp_P xp_cl xp_BW xp_NW xp_SW xp_exn 175 0 (.aload 0) := Or.inr ⟨0, rfl, xd_175_0, rfl⟩
theorem xk_175_1 : xk_OkA xp_F xp_P xp_cl xp_BW xp_NW xp_SW xp_exn 175 1 (.iload 1) := Or.inr ⟨1, rfl, xd_175_1, rfl⟩
theorem xk_175_2 : xk_OkA xp_F xp_P xp_cl xp_BW xp_NW xp_SW xp_exn 175 2 (.invokeinterface 56 2) := ⟨rfl, Or.inl ⟨xwt_684, rfl⟩, xwt_1, by decide +kernel, by decide +kernel, by decide +kernel, _, Or.inl xwt_681, Or.inr ⟨xd_175_2, xwt_682, xwt_683, ⟨_, _, _, rfl, rfl⟩, by decide +kernel⟩⟩
theorem xk_175_3 : xk_OkA xp_F xp_P xp_cl xp_BW xp_NW xp_SW xp_exn 175 3 (.goto 10) := ⟨_, xd_175_5, by unfold xf_to; decide +kernel⟩
theorem xk_175_4 : xk_OkA xp_F xp_P xp_cl xp_BW xp_NW xp_SW xp_exn 175 4 (.astore 2) := Or.inr ⟨2, rfl, xd_175_8, rfl⟩
theorem xk_175_5 : xk_OkA xp_F xp_P xp_cl xp_BW xp_NW xp_SW xp_exn 175 5 (.iconst 1) := Or.inl ⟨xd_175_9, rfl⟩
theorem xk_175_6 : xk_OkA xp_F xp_P xp_cl xp_BW xp_NW xp_SW xp_exn 175 6 (.ireturn) := ⟨xd_175_10, rfl⟩
theorem xk_175_7 : xk_OkA xp_F xp_P xp_cl xp_BW xp_NW xp_SW xp_exn 175 7 (.astore 2) := Or.inr ⟨2, rfl, xd_175_11, rfl⟩
theorem xk_175_8 : xk_OkA xp_F xp_P xp_cl xp_BW xp_NW xp_SW xp_exn 175 8 (.iconst 2) := Or.inl ⟨xd_175_12, rfl⟩
theorem xk_175_9 : xk_OkA xp_F xp_P xp_cl xp_BW xp_NW xp_SW xp_exn 175 9 (.ireturn) := ⟨xd_175_13, rfl⟩
theorem xk_175_10 : xk_OkA xp_F xp_P xp_cl xp_BW xp_NW xp_SW xp_exn 175 10 (.iconst 0) := Or.inl ⟨xd_175_14, rfl⟩
theorem xk_175_11 : xk_OkA xp_F xp_P xp_cl xp_BW xp_NW xp_SW xp_exn 175 11 (.ireturn) := ⟨xd_175_15, rfl⟩
theorem xl_175 : xk_OkL xp_F xp_P xp_cl xp_BW xp_NW xp_SW xp_exn 175 0 xc_175 := ⟨xk_175_0, xk_175_1, xk_175_2, xk_175_3, xk_175_4, xk_175_5, xk_175_6, xk_175_7, xk_175_8, xk_175_9, xk_175_10, xk_175_11, trivial⟩
theorem xd_176_0 : decode method_19_code 0 = .ok (.aload_n 0, 1) := by decide +kernel
theorem xd_176_1 : decode method_19_code 1 = .ok (.invokevirtual 73, 3) := by decide +kernel
theorem xd_176_4 : decode method_19_code 4 = .ok (.goto 6, 3) := by decide +kernel
theorem xd_176_7 : decode method_19_code 7 = .ok (.astore_n 1, 1) := by decide +kernel
theorem xd_176_8 : decode method_19_code 8 = .ok (.iconst 1, 1) := by decide +kernel
theorem xd_176_9 : decode method_19_code 9 = .ok (.ireturn, 1) := by decide +kernel
theorem xd_176_10 : decode method_19_code 10 = .ok (.iconst 0, 1) := by decide +kernel
theorem xd_176_11 : decode method_19_code 11 = .ok (.ireturn, 1) := by decide +kernel
theorem xk_176_0 : xk_OkA xp_F xp_P xp_cl xp_BW xp_NW xp_SW xp_exn 176 0 (.aload 0) := Or.inr ⟨0, rfl, xd_176_0, rfl⟩
theorem xk_176_1 : xk_OkA xp_F xp_P xp_cl xp_BW xp_NW xp_SW xp_exn 176 1 (.invokeinterface 57 1) := ⟨rfl, Or.inl ⟨xwt_692, rfl⟩, xwt_1, by decide +kernel, by decide +kernel, by decide +kernel, _, Or.inl xwt_689, Or.inr ⟨xd_176_1, xwt_690, xwt_691, ⟨_, _, _, rfl, rfl⟩, by decide +kernel⟩⟩
theorem xk_176_2 : xk_OkA xp_F xp_P xp_cl xp_BW xp_NW xp_SW xp_exn 176 2 (.goto 6) := ⟨_, xd_176_4, by unfold xf_to; decide +kernel⟩
theorem xk_176_3 : xk_OkA xp_F xp_P xp_cl xp_BW xp_NW xp_SW xp_exn 176 3 (.astore 1) := Or.inr ⟨1, rfl, xd_176_7, rfl⟩
theorem xk_176_4 : xk_OkA xp_F xp_P xp_cl xp_BW xp_NW xp_SW xp_exn 176 4 (.iconst 1) := Or.inl ⟨xd_176_8, rfl⟩
theorem xk_176_5 : xk_OkA xp_F xp_P xp_cl xp_BW xp_NW xp_SW xp_exn 176 5 (.ireturn) := ⟨xd_176_9, rfl⟩
theorem xk_176_6 : xk_OkA xp_F xp_P xp_cl xp_BW xp_NW xp_SW xp_exn 176 6 (.iconst 0) := Or.inl ⟨xd_176_10, rfl⟩
theorem xk_176_7 : xk_OkA xp_F xp_P xp_cl xp_BW xp_NW xp_SW xp_exn 176 7 (.ireturn) := ⟨xd_176_11, rfl⟩
theorem xl_176 : xk_OkL xp_F xp_P xp_cl xp_BW xp_NW xp_SW xp_exn 176 0 xc_176 := ⟨xk_176_0, xk_176_1, xk_176_2, xk_176_3, xk_176_4, xk_176_5, xk_176_6, xk_176_7, trivial⟩
theorem xd_177_0 : decode method_20_code 0 = .ok (.aload_n 3, 1) := by decide +kernel
theorem xd_177_1 : decode method_20_code 1 = .ok (.iconst 0, 1) := by decide +kernel
theorem xd_177_2 : decode method_20_code 2 = .ok (.aload_n 0, 1) := by decide +kernel
theorem xd_177_3 : decode method_20_code 3 = .ok (.iload_n 1, 1) := by decide +kernel
theorem xd_177_4 : decode method_20_code 4 = .ok (.iload_n 2, 1) := by decide +kernel
theorem xd_177_5 : decode method_20_code 5 = .ok (.invokevirtual 76, 3) := by decide +kernel
theorem xd_177_8 : decode method_20_code 8 = .ok (.ifCond .eq 7, 3) := by decide +kernel
theorem xd_177_11 : decode method_20_code 11 = .ok (.lconst 1, 1) := by decide +kernel
theorem xd_177_12 : decode method_20_code 12 = .ok (.goto 4, 3) := by decide +kernel
theorem xd_177_15 : decode method_20_code 15 = .ok (.lconst 0, 1) := by decide +kernel
theorem xd_177_16 : decode method_20_code 16 = .ok (.lastore, 1) := by decide +kernel
theorem xd_177_17 : decode method_20_code 17 = .ok (.goto 11, 3) := by decide +kernel
theorem xd_177_20 : decode method_20_code 20 = .ok (.astore 4, 2) := by decide +kernel
theorem xd_177_22 : decode method_20_code 22 = .ok (.iconst 1, 1) := by decide +kernel
theorem xd_177_23 : decode method_20_code 23 = .ok (.ireturn, 1) := by decide +kernel
theorem xd_177_24 : decode method_20_code 24 = .ok (.astore 4, 2) := by decide +kernel
theorem xd_177_26 : decode method_20_code 26 = .ok (.iconst 2, 1) := by decide +kernel
theorem xd_177_27 : decode method_20_code 27 = .ok (.ireturn, 1) := by decide +kernel
theorem xd_177_28 : decode method_20_code 28 = .ok (.iconst 0, 1) := by decide +kernel
theorem xd_177_29 : decode method_20_code 29 = .ok (.ireturn, 1) := by decide +kernel
theorem xk_177_0 : xk_OkA xp_F xp_P xp_cl xp_BW xp_NW xp_SW xp_exn 177 0 (.aload 3) := Or.inr ⟨3, rfl, xd_177_0, rfl⟩
theorem xk_177_1 : xk_OkA xp_F xp_P xp_cl xp_BW xp_NW xp_SW xp_exn 177 1 (.iconst 0) := Or.inl ⟨xd_177_1, rfl⟩
theorem xk_177_2 : xk_OkA xp_F xp_P xp_cl xp_BW xp_NW xp_SW xp_exn 177 2 (.aload 0) := Or.inr ⟨0, rfl, xd_177_2, rfl⟩
theorem xk_177_3 : xk_OkA xp_F xp_P xp_cl xp_BW xp_NW xp_SW xp_exn 177 3 (.iload 1) := Or.inr ⟨1, rfl, xd_177_3, rfl⟩
theorem xk_177_4 : xk_OkA xp_F xp_P xp_cl xp_BW xp_NW xp_SW xp_exn 177 4 (.iload 2) := Or.inr ⟨2, rfl, xd_177_4, rfl⟩
theorem xk_177_5 : xk_OkA xp_F xp_P xp_cl xp_BW xp_NW xp_SW xp_exn 177 5 (.invokeinterface 58 3) := ⟨rfl, Or.inl ⟨xwt_699, rfl⟩, xwt_1, by decide +kernel, by decide +kernel, by decide +kernel, _, Or.inl xwt_696, Or.inr ⟨xd_177_5, xwt_697, xwt_698, ⟨_, _, _, rfl, rfl⟩, by decide +kernel⟩⟩
theorem xk_177_6 : xk_OkA xp_F xp_P xp_cl xp_BW xp_NW xp_SW xp_exn 177 6 (.ifCond .eq 9) := ⟨_, xd_177_8, by unfold xf_to; decide +kernel, rfl⟩
theorem xk_177_7 : xk_OkA xp_F xp_P xp_cl xp_BW xp_NW xp_SW xp_exn 177 7 (.lconst 1) := ⟨xd_177_11, rfl⟩
theorem xk_177_8 : xk_OkA xp_F xp_P xp_cl xp_BW xp_NW xp_SW xp_exn 177 8 (.goto 10) := ⟨_, xd_177_12, by unfold xf_to; decide +kernel⟩
theorem xk_177_9 : xk_OkA xp_F xp_P xp_cl xp_BW xp_NW xp_SW xp_exn 177 9 (.lconst 0) := ⟨xd_177_15, rfl⟩
theorem xk_177_10 : xk_OkA xp_F xp_P xp_cl xp_BW xp_NW xp_SW xp_exn 177 10 (.lastore) := ⟨xd_177_16, rfl⟩
theorem xk_177_11 : xk_OkA xp_F xp_P xp_cl xp_BW xp_NW xp_SW xp_exn 177 11 (.goto 18) := ⟨_, xd_177_17, by unfold xf_to; decide +kernel⟩
theorem xk_177_12 : xk_OkA xp_F xp_P xp_cl xp_BW xp_NW xp_SW xp_exn 177 12 (.astore 4) := Or.inl ⟨xd_177_20, rfl⟩
theorem xk_177_13 : xk_OkA xp_F xp_P xp_cl xp_BW xp_NW xp_SW xp_exn 177 13 (.iconst 1) := Or.inl ⟨xd_177_22, rfl⟩
theorem xk_177_14 : xk_OkA xp_F xp_P xp_cl xp_BW xp_NW xp_SW xp_exn 177 14 (.ireturn) := ⟨xd_177_23, rfl⟩
theorem xk_177_15 : xk_OkA xp_F xp_P xp_cl xp_BW xp_NW xp_SW xp_exn 177 15 (.astore 4) := Or.inl ⟨xd_177_24, rfl⟩
theorem xk_177_16 : xk_OkA xp_F xp_P xp_cl xp_BW xp_NW xp_SW xp_exn 177 16 (.iconst 2) := Or.inl ⟨xd_177_26, rfl⟩
theorem xk_177_17 : xk_OkA xp_F xp_P xp_cl xp_BW xp_NW xp_SW xp_exn 177 17 (.ireturn) := ⟨xd_177_27, rfl⟩
theorem xk_177_18 : xk_OkA xp_F xp_P xp_cl xp_BW xp_NW xp_SW xp_exn 177 18 (.iconst 0) := Or.inl ⟨xd_177_28, rfl⟩
theorem xk_177_19 : xk_OkA xp_F xp_P xp_cl xp_BW xp_NW xp_SW xp_exn 177 19 (.ireturn) := ⟨xd_177_29, rfl⟩
theorem xl_177 : xk_OkL xp_F xp_P xp_cl xp_BW xp_NW xp_SW xp_exn 177 0 xc_177 := ⟨xk_177_0, xk_177_1, xk_177_2, xk_177_3, xk_177_4, xk_177_5, xk_177_6, xk_177_7, xk_177_8, xk_177_9, xk_177_10, xk_177_11, xk_177_12, xk_177_13, xk_177_14, xk_177_15, xk_177_16, xk_177_17, xk_177_18, xk_177_19, trivial⟩
theorem xd_178_0 : decode method_21_code 0 = .ok (.aload_n 1, 1) := by decide +kernel
theorem xd_178_1 : decode method_21_code 1 = .ok (.iconst 0, 1) := by decide +kernel
theorem xd_178_2 : decode method_21_code 2 = .ok (.aload_n 0, 1) := by decide +kernel
theorem xd_178_3 : decode method_21_code 3 = .ok (.invokevirtual 80, 3) := by decide +kernel
theorem xd_178_6 : decode method_21_code 6 = .ok (.i2l, 1) := by decide +kernel
theorem xd_178_7 : decode method_21_code 7 = .ok (.lastore, 1) := by decide +kernel
theorem xd_178_8 : decode method_21_code 8 = .ok (.goto 6, 3) := by decide +kernel
theorem xd_178_11 : decode method_21_code 11 = .ok (.astore_n 2, 1) := by decide +kernel
theorem xd_178_12 : decode method_21_code 12 = .ok (.iconst 1, 1) := by decide +kernel
theorem xd_178_13 : decode method_21_code 13 = .ok (.ireturn, 1) := by decide +kernel
theorem xd_178_14 : decode method_21_code 14 = .ok (.iconst 0, 1) := by decide +kernel
theorem xd_178_15 : decode method_21_code 15 = .ok (.ireturn, 1) := by decide +kernel
theorem xk_178_0 : xk_OkA xp_F xp_P xp_cl xp_BW xp_NW xp_SW xp_exn 178 0 (.aload 1) := Or.inr ⟨1, rfl, xd_178_0, rfl⟩
theorem xk_178_1 : xk_OkA xp_F xp_P xp_cl xp_BW xp_NW xp_SW xp_exn 178 1 (.iconst 0) := Or.inl ⟨xd_178_1, rfl⟩
theorem xk_178_2 : xk_OkA xp_F xp_P xp_cl xp_BW xp_NW xp_SW xp_exn 178 2 (.aload 0) := Or.inr ⟨0, rfl, xd_178_2, rfl⟩
theorem xk_178_3 : xk_OkA xp_F xp_P xp_cl xp_BW xp_NW xp_SW xp_exn 178 3 (.invokeinterface 59 1) := ⟨rfl, Or.inl ⟨xwt_715, rfl⟩, xwt_1, by decide +kernel, by decide +kernel, by decide +kernel, _, Or.inl xwt_712, Or.inr ⟨xd_178_3, xwt_713, xwt_714, ⟨_, _, _, rfl, rfl⟩, by decide +kernel⟩⟩
theorem xk_178_4 : xk_OkA xp_F xp_P xp_cl xp_BW xp_NW xp_SW xp_exn 178 4 (.i2l) := ⟨xd_178_6, rfl⟩
theorem xk_178_5 : xk_OkA xp_F xp_P xp_cl xp_BW xp_NW xp_SW xp_exn 178 5 (.lastore) := ⟨xd_178_7, rfl⟩
theorem xk_178_6 : xk_OkA xp_F xp_P xp_cl xp_BW xp_NW xp_SW xp_exn 178 6 (.goto 10) := ⟨_, xd_178_8, by unfold xf_to; decide +kernel⟩
theorem xk_178_7 : xk_OkA xp_F xp_P xp_cl xp_BW xp_NW xp_SW xp_exn 178 7 (.astore 2) := Or.inr ⟨2, rfl, xd_178_11, rfl⟩
theorem xk_178_8 : xk_OkA xp_F xp_P xp_cl xp_BW xp_NW xp_SW xp_exn 178 8 (.iconst 1) := Or.inl ⟨xd_178_12, rfl⟩
theorem xk_178_9 : xk_OkA xp_F xp_P xp_cl xp_BW xp_NW xp_SW xp_exn 178 9 (.ireturn) := ⟨xd_178_13, rfl⟩
theorem xk_178_10 : xk_OkA xp_F xp_P xp_cl xp_BW xp_NW xp_SW xp_exn 178 10 (.iconst 0) := Or.inl ⟨xd_178_14, rfl⟩
theorem xk_178_11 : xk_OkA xp_F xp_P xp_cl xp_BW xp_NW xp_SW xp_exn 178 11 (.ireturn) := ⟨xd_178_15, rfl⟩
theorem xl_178 : xk_OkL xp_F xp_P xp_cl xp_BW xp_NW xp_SW xp_exn 178 0 xc_178 := ⟨xk_178_0, xk_178_1, xk_178_2, xk_178_3, xk_178_4, xk_178_5, xk_178_6, xk_178_7, xk_178_8, xk_178_9, xk_178_10, xk_178_11, trivial⟩
theorem xd_179_0 : decode method_22_code 0 = .ok (.aload 4, 2) := by decide +kernel
theorem xd_179_2 : decode method_22_code 2 = .ok (.iconst 0, 1) := by decide +kernel
theorem xd_179_3 : decode method_22_code 3 = .ok (.aload_n 0, 1) := by decide +kernel
theorem xd_179_4 : decode method_22_code 4 = .ok (.iload_n 1, 1) := by decide +kernel
theorem xd_179_5 : decode method_22_code 5 = .ok (.iload_n 2, 1) := by decide +kernel
theorem xd_179_6 : decode method_22_code 6 = .ok (.iload_n 3, 1) := by decide +kernel
theorem xd_179_7 : decode method_22_code 7 = .ok (.invokevirtual 83, 3) := by decide +kernel
theorem xd_179_10 : decode method_22_code 10 = .ok (.i2l, 1) := by decide +kernel
theorem xd_179_11 : decode method_22_code 11 = .ok (.lastore, 1) := by decide +kernel
theorem xd_179_12 : decode method_22_code 12 = .ok (.goto 7, 3) := by decide +kernel
theorem xd_179_15 : decode method_22_code 15 = .ok (.astore 5, 2) := by decide +kernel
theorem xd_179_17 : decode method_22_code 17 = .ok (.iconst 1, 1) := by decide +kernel
theorem xd_179_18 : decode method_22_code 18 = .ok (.ireturn, 1) := by decide +kernel
theorem xd_179_19 : decode method_22_code 19 = .ok (.iconst 0, 1) := by decide +kernel
theorem xd_179_20 : decode method_22_code 20 = .ok (.ireturn, 1) := by decide +kernel
theorem xk_179_0 : xk_OkA xp_F xp_P xp_cl xp_BW xp_NW xp_SW xp_exn 179 0 (.aload 4) := Or.inl ⟨xd_179_0, rfl⟩
theorem xk_179_1 : xk_OkA xp_F xp_P xp_cl xp_BW xp_NW xp_SW xp_exn 179 1 (.iconst 0) := Or.inl ⟨xd_179_2, rfl⟩
theorem xk_179_2 : xk_OkA xp_F xp_P xp_cl xp_BW xp_NW xp_SW xp_exn 179 2 (.aload 0) := Or.inr ⟨0, rfl, xd_179_3, rfl⟩
theorem xk_179_3 : xk_OkA xp_F xp_P xp_cl xp_BW xp_NW xp_SW xp_exn 179 3 (.iload 1) := Or.inr ⟨1, rfl, xd_179_4, rfl⟩
theorem xk_179_4 : xk_OkA xp_F xp_P xp_cl xp_BW xp_NW xp_SW xp_exn 179 4 (.iload 2) := Or.inr ⟨2, rfl, xd_179_5, rfl⟩
theorem xk_179_5 : xk_OkA xp_F xp_P xp_cl xp_BW xp_NW xp_SW xp_exn 179 5 (.iload 3) := Or.inr ⟨3, rfl, xd_179_6, rfl⟩
theorem xk_179_6 : xk_OkA xp_F xp_P xp_cl xp_BW xp_NW xp_SW xp_exn 179 6 (.invokeinterface 61 4) := ⟨rfl, Or.inl ⟨xwt_743, rfl⟩, xwt_1, by decide +kernel, by decide +kernel, by decide +kernel, _, Or.inl xwt_740, Or.inr ⟨xd_179_7, xwt_741, xwt_742, ⟨_, _, _, rfl, rfl⟩, by decide +kernel⟩⟩
theorem xk_179_7 : xk_OkA xp_F xp_P xp_cl xp_BW xp_NW xp_SW xp_exn 179 7 (.i2l) := ⟨xd_179_10, rfl⟩
theorem xk_179_8 : xk_OkA xp_F xp_P xp_cl xp_BW xp_NW xp_SW xp_exn 179 8 (.lastore) := ⟨xd_179_11, rfl⟩
theorem xk_179_9 : xk_OkA xp_F xp_P xp_cl xp_BW xp_NW xp_SW xp_exn 179 9 (.goto 13) := ⟨_, xd_179_12, by unfold xf_to; decide +kernel⟩
theorem xk_179_10 : xk_OkA xp_F xp_P xp_cl xp_BW xp_NW xp_SW xp_exn 179 10 (.astore 5) := Or.inl ⟨xd_179_15, rfl⟩
theorem xk_179_11 : xk_OkA xp_F xp_P xp_cl xp_BW xp_NW xp_SW xp_exn 179 11 (.iconst 1) := Or.inl ⟨xd_179_17, rfl⟩
theorem xk_179_12 : xk_OkA xp_F xp_P xp_cl xp_BW xp_NW xp_SW xp_exn 179 12 (.ireturn) := ⟨xd_179_18, rfl⟩
theorem xk_179_13 : xk_OkA xp_F xp_P xp_cl xp_BW xp_NW xp_SW xp_exn 179 13 (.iconst 0) := Or.inl ⟨xd_179_19, rfl⟩
theorem xk_179_14 : xk_OkA xp_F xp_P xp_cl xp_BW xp_NW xp_SW xp_exn 179 14 (.ireturn) := ⟨xd_179_20, rfl⟩
theorem xl_179 : xk_OkL xp_F xp_P xp_cl xp_BW xp_NW xp_SW xp_exn 179 0 xc_179 := ⟨xk_179_0, xk_179_1, xk_179_2, xk_179_3, xk_179_4, xk_179_5, xk_179_6, xk_179_7, xk_179_8, xk_179_9, xk_179_10, xk_179_11, xk_179_12, xk_179_13, xk_179_14, trivial⟩
end XkOk8
