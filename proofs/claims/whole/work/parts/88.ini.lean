section XkIni
theorem xi_int {D : va_G} {cl : List vw_C} {dA : Nat → ClassId} {cA : ClassId} {s : State} (h : va_K D cl (xk_t dA ++ [(cA, .int)]) s) : cA = dA 0 := by
  have h1 : va_RA s (dA 0) .int := (h.2 0 _ rfl).2
  have h2 : va_RA s cA .int := (h.2 3 _ rfl).2
  exact Option.some.inj (h2.symm.trans h1)
theorem xi_boolean {D : va_G} {cl : List vw_C} {dA : Nat → ClassId} {cA : ClassId} {s : State} (h : va_K D cl (xk_t dA ++ [(cA, .boolean)]) s) : cA = dA 1 := by
  have h1 : va_RA s (dA 1) .boolean := (h.2 1 _ rfl).2
  have h2 : va_RA s cA .boolean := (h.2 3 _ rfl).2
  exact Option.some.inj (h2.symm.trans h1)
theorem xi_long {D : va_G} {cl : List vw_C} {dA : Nat → ClassId} {cA : ClassId} {s : State} (h : va_K D cl (xk_t dA ++ [(cA, .long)]) s) : cA = dA 2 := by
  have h1 : va_RA s (dA 2) .long := (h.2 2 _ rfl).2
  have h2 : va_RA s cA .long := (h.2 3 _ rfl).2
  exact Option.some.inj (h2.symm.trans h1)
theorem xi_ones {D : va_G} {cl : List vw_C} {x : Nat × va_E} {q : Nat} {cA : ClassId} {H : Heap} (h : va_P D cl [x, (q, .inl (cA, 4, .inl (upd (upd (upd (upd (fun _ => 0) 0 1) 1 1) 2 1) 3 1)))] H) : va_P D cl [x, (q, .inl (cA, 4, .inl (fun _ => 1)))] H := fun k p hk => by
  match k, hk with
  | 0, hk => exact h 0 p hk
  | 1, hk =>
    cases hk
    have h1 := h 1 _ rfl
    have e : vp_cell cA (4, .inl (upd (upd (upd (upd (fun _ => 0) 0 1) 1 1) 2 1) 3 1)) = vp_cell cA (4, .inl (fun _ => 1)) := rfl
    exact h1.trans (congrArg some e)
  | k + 2, hk => simp at hk
theorem xi_onesD {A : Nat → Prop} {x : Nat × va_E} {q : Nat} {a b : va_E} (h : va_D A [x, (q, a)]) : va_D A [x, (q, b)] := by
  have g : ∀ (k : Nat) (p : Nat × va_E), [x, (q, b)][k]? = some p → ∃ p2, [x, (q, a)][k]? = some p2 ∧ p2.1 = p.1 := by
    intro k p hk
    match k, hk with
    | 0, hk => exact ⟨_, rfl, by cases hk; rfl⟩
    | 1, hk => exact ⟨_, rfl, by cases hk; rfl⟩
    | k + 2, hk => simp at hk
  refine ⟨fun i j p1 p2 h1 h2 he => ?_, fun k p hk => ?_⟩
  · obtain ⟨r1, g1, f1⟩ := g i p1 h1
    obtain ⟨r2, g2, f2⟩ := g j p2 h2
    exact h.1 i j r1 r2 g1 g2 (by rw [f1, f2]; exact he)
  · obtain ⟨r, g1, f1⟩ := g k p hk
    rw [← f1]
    exact h.2 k r g1
theorem xi_d0 : ∀ j, j < 3 → defaultValue (xY_0 j) = vp_V [.null, .null, .null] j := by decide
theorem xi_d1 : ∀ j, j < 4 → defaultValue (xY_1 j) = vp_V [.int 0, .int 0, .int 0, .int 0] j := by decide
theorem xi_d2 : ∀ j, j < 1 → defaultValue (xY_2 j) = vp_V [.null] j := by decide
theorem xi_d3 : ∀ j, j < 6 → defaultValue (xY_3 j) = vp_V [.null, .null, .null, .null, .int 0, .int 0] j := by decide
theorem xi_d4 : ∀ j, j < 13 → defaultValue (xY_4 j) = vp_V [.int 0, .null, .null, .null, .int 0, .int 0, .null, .null, .int 0, .int 0, .int 0, .int 0, .int 0] j := by decide
theorem xid_D_0 : decode prog_2_method_1_code 0 = .ok (.aload_n 0, 1) := by decide +kernel
theorem xid_D_1 : decode prog_2_method_1_code 1 = .ok (.invokespecial 3, 3) := by decide +kernel
theorem xid_D_4 : decode prog_2_method_1_code 4 = .ok (.aload_n 0, 1) := by decide +kernel
theorem xid_D_5 : decode prog_2_method_1_code 5 = .ok (.sipush 408, 3) := by decide +kernel
theorem xid_D_8 : decode prog_2_method_1_code 8 = .ok (.newarray .int, 2) := by decide +kernel
theorem xid_D_10 : decode prog_2_method_1_code 10 = .ok (.putfield 9, 3) := by decide +kernel
theorem xid_D_13 : decode prog_2_method_1_code 13 = .ok (.aload_n 0, 1) := by decide +kernel
theorem xid_D_14 : decode prog_2_method_1_code 14 = .ok (.sipush 128, 3) := by decide +kernel
theorem xid_D_17 : decode prog_2_method_1_code 17 = .ok (.newarray .int, 2) := by decide +kernel
theorem xid_D_19 : decode prog_2_method_1_code 19 = .ok (.putfield 15, 3) := by decide +kernel
theorem xid_D_22 : decode prog_2_method_1_code 22 = .ok (.aload_n 0, 1) := by decide +kernel
theorem xid_D_23 : decode prog_2_method_1_code 23 = .ok (.iconst 4, 1) := by decide +kernel
theorem xid_D_24 : decode prog_2_method_1_code 24 = .ok (.newarray .boolean, 2) := by decide +kernel
theorem xid_D_26 : decode prog_2_method_1_code 26 = .ok (.putfield 18, 3) := by decide +kernel
theorem xid_D_29 : decode prog_2_method_1_code 29 = .ok (.return_, 1) := by decide +kernel
def xiy_D : MethodName := ⟨"ExtentShelf$Disks", "<init>", "()V"⟩
def xiw_D : List Cond := .code xiy_D prog_2_method_1_code 1 none :: xp_BW
theorem xim_D : ∀ q ∈ ([.code ⟨"ExtentShelf$Disks", "<init>", "()V"⟩ prog_2_method_1_code 1 none, .methodLink "ExtentShelf$Disks" 3 objectInit, .instanceMethod objectInit, .code objectInit ⟨#[0xb1]⟩ 1 none, .arrayClass .int, .fieldLink "ExtentShelf$Disks" 9 "ExtentShelf$Disks" "slots" "[I", .fieldLink "ExtentShelf$Disks" 15 "ExtentShelf$Disks" "extents" "[I", .arrayClass .boolean, .fieldLink "ExtentShelf$Disks" 18 "ExtentShelf$Disks" "absent" "[Z"] : List Cond), q ∈ xp_BW := xp_inB _ (by decide +kernel)
theorem xig_D : GoodIn xp_BW xiw_D := fun w hw => by
  have h : w ∈ xp_BW := (List.mem_cons.mp hw).elim (fun h => by rw [h]; exact xim_D _ (List.mem_of_getElem? (i := 0) rfl)) (fun h => h)
  exact ⟨h, good_of_word (List.mem_filter.mp h).2⟩
set_option maxHeartbeats 4000000 in
set_option maxRecDepth 100000 in
theorem xi_D (l : Launch) (D : va_G) (dA : Nat → ClassId) (h0 sz : Nat) : Met l xiy_D xiw_D ({ frames := 1, cells := 3, slots := 540, locals := 12 }) (va_Pc [.ref h0] (fun U => U.heap.size = sz ∧ va_P D xp_cl [(h0, .inr (0, [.null, .null, .null]))] U.heap ∧ va_K D xp_cl (xk_t dA) U ∧ va_D (fun _ => True) [(h0, .inr (0, [.null, .null, .null]))])) (va_Qv (fun _ : Unit => True) (fun _ t => ∃ (q1 q2 q3 : Nat), va_P D xp_cl [(h0, .inr (0, [.ref q1, .ref q2, .ref q3])), (q1, .inl (dA 0, 408, .inl (fun _ => 0))), (q2, .inl (dA 0, 128, .inl (fun _ => 0))), (q3, .inl (dA 1, 4, .inl (fun _ => 0)))] t.heap ∧ va_D (va_A [(h0, .inr (0, [.null, .null, .null]))] sz) [(h0, .inr (0, [.ref q1, .ref q2, .ref q3])), (q1, .inl (dA 0, 408, .inl (fun _ => 0))), (q2, .inl (dA 0, 128, .inl (fun _ => 0))), (q3, .inl (dA 1, 4, .inl (fun _ => 0)))]) (va_A [(h0, .inr (0, [.null, .null, .null]))] sz)) 3 540 (va_A [(h0, .inr (0, [.null, .null, .null]))] sz) := by
  refine Met.ofW (cc := prog_2_method_1_code) (maxL := 1) (ret := none) (by decide) rfl ?_
  intro p e s m args below meth c s₁ B hml hv
  obtain ⟨rfl, hsz, hP, hK, hD0⟩ := hv
  have hx := B.exec
  have hb := B.bytes
  have hr := B.returns
  have hts := atoms_spec (ws := xiw_D) B.pre
  have ht : ∀ q ∈ xp_BW, q.before #[Value.ref h0] s = true := fun q hq => hts q (List.mem_cons_of_mem _ hq)
  have hown : s.vm.findClass "ExtentShelf$Disks" = some m.cls := findClass_of_methodNamed B.named
  have hlocks := B.notSynchronized
  have hin : meth.name = "<init>" := (name_of_methodNamed B.named B.method).1
  subst hsz
  have hD := hD0.self (sz := s.heap.size)
  generalize hAe : va_A [(h0, .inr (0, [.null, .null, .null]))] s.heap.size = A at hD ⊢
  have hA : ∀ q : Nat, s.heap.size ≤ q → A q := fun q h => by rw [← hAe]; exact Or.inr h
  have hS : va_S A s.heap s.heap [] := va_S.rf
  have hP : va_P D xp_cl [(h0, .inr (0, [.null, .null, .null]))] s.heap := hP
  have hl := lv_entry ([.ref h0]) (n := 1) (Nat.le_of_ble_eq_true rfl)
  rw [lg_entry_eq]
  generalize (lg_sl ([.ref h0]) ++ List.replicate (1 - (lg_sl ([.ref h0])).length) Slot.unset).toArray = ls at hl ⊢
  have hl : lv_has ls 1 [(0, .ref h0)] := hl
  refine lv_aload_n hx hb xid_D_0 rfl (lv_at hl 0 rfl) ?_
  refine W.objInit hx hb hown (ht (.methodLink "ExtentShelf$Disks" 3 objectInit) (xim_D _ (List.mem_of_getElem? (i := 1) rfl))) (ht (.instanceMethod objectInit) (xim_D _ (List.mem_of_getElem? (i := 2) rfl))) (ht (.code objectInit ⟨#[0xb1]⟩ 1 none) (xim_D _ (List.mem_of_getElem? (i := 3) rfl))) rfl (by rw [hml]; exact hl.1) rfl xid_D_1 (Nat.le_of_ble_eq_true rfl) (Nat.le_of_ble_eq_true rfl) ?_
  refine W.eq (g2 := F0 m 4 ls []) rfl ?_
  refine lv_aload_n hx hb xid_D_4 rfl (lv_at hl 0 rfl) ?_
  refine lv_sipush (v := 408) hx hb xid_D_5 (by decide) ?_
  refine va_newa (atype := .int) (ty := .int) (a0 := (408, .inl (fun _ => 0))) (N' := 408) hx hb (ht (.arrayClass .int) (xim_D _ (List.mem_of_getElem? (i := 4) rfl))) rfl hK hP hD hS hA (fun _ => rfl) (by decide) (by decide) (by decide) (show 1 ≤ 3 by decide) (show 408 ≤ 540 by decide) xid_D_8 (fun q1 cA H hK1 hP hD hS => ?_)
  obtain rfl : cA = dA 0 := xi_int hK1
  have hP : va_P D xp_cl [(h0, .inr (0, [.null, .null, .null])), (q1, .inl (dA 0, 408, .inl (fun _ => 0)))] H := hP
  have hD : va_D A [(h0, .inr (0, [.null, .null, .null])), (q1, .inl (dA 0, 408, .inl (fun _ => 0)))] := hD
  refine W.widen (k := 1) (n := 408) (by omega) (by omega) ?_
  refine va_putF (D := D) (ci := 0) (v := .ref q1) (ty := .array .int) (C := "ExtentShelf$Disks") (T := xT_0) (N := 3) hx hb ht xu_0 xY_0 xy_0 xn_0 hown hK hP hD hS 0 rfl rfl 0 (by decide) (ht (.fieldLink "ExtentShelf$Disks" 9 "ExtentShelf$Disks" "slots" "[I") (xim_D _ (List.mem_of_getElem? (i := 5) rfl))) (fun _ h9 => h9) rfl hin rfl (by decide +kernel) rfl rfl (Nat.le_of_ble_eq_true rfl) xid_D_10 (fun H locs hP hD hS => ?_)
  have hP : va_P D xp_cl [(h0, .inr (0, [.ref q1, .null, .null])), (q1, .inl (dA 0, 408, .inl (fun _ => 0)))] H := hP
  have hD : va_D A [(h0, .inr (0, [.ref q1, .null, .null])), (q1, .inl (dA 0, 408, .inl (fun _ => 0)))] := hD
  refine lv_aload_n hx hb xid_D_13 rfl (lv_at hl 0 rfl) ?_
  refine lv_sipush (v := 128) hx hb xid_D_14 (by decide) ?_
  refine va_newa (atype := .int) (ty := .int) (a0 := (128, .inl (fun _ => 0))) (N' := 128) hx hb (ht (.arrayClass .int) (xim_D _ (List.mem_of_getElem? (i := 4) rfl))) rfl hK hP hD hS hA (fun _ => rfl) (by decide) (by decide) (by decide) (show 2 ≤ 3 by decide) (show 536 ≤ 540 by decide) xid_D_17 (fun q2 cA H hK1 hP hD hS => ?_)
  obtain rfl : cA = dA 0 := xi_int hK1
  have hP : va_P D xp_cl [(h0, .inr (0, [.ref q1, .null, .null])), (q1, .inl (dA 0, 408, .inl (fun _ => 0))), (q2, .inl (dA 0, 128, .inl (fun _ => 0)))] H := hP
  have hD : va_D A [(h0, .inr (0, [.ref q1, .null, .null])), (q1, .inl (dA 0, 408, .inl (fun _ => 0))), (q2, .inl (dA 0, 128, .inl (fun _ => 0)))] := hD
  refine W.widen (k := 2) (n := 536) (by omega) (by omega) ?_
  refine va_putF (D := D) (ci := 0) (v := .ref q2) (ty := .array .int) (C := "ExtentShelf$Disks") (T := xT_0) (N := 3) hx hb ht xu_0 xY_0 xy_0 xn_0 hown hK hP hD hS 0 rfl rfl 1 (by decide) (ht (.fieldLink "ExtentShelf$Disks" 15 "ExtentShelf$Disks" "extents" "[I") (xim_D _ (List.mem_of_getElem? (i := 6) rfl))) (fun _ h9 => h9) rfl hin rfl (by decide +kernel) rfl rfl (Nat.le_of_ble_eq_true rfl) xid_D_19 (fun H locs hP hD hS => ?_)
  have hP : va_P D xp_cl [(h0, .inr (0, [.ref q1, .ref q2, .null])), (q1, .inl (dA 0, 408, .inl (fun _ => 0))), (q2, .inl (dA 0, 128, .inl (fun _ => 0)))] H := hP
  have hD : va_D A [(h0, .inr (0, [.ref q1, .ref q2, .null])), (q1, .inl (dA 0, 408, .inl (fun _ => 0))), (q2, .inl (dA 0, 128, .inl (fun _ => 0)))] := hD
  refine lv_aload_n hx hb xid_D_22 rfl (lv_at hl 0 rfl) ?_
  refine lv_iconst (v := 4) hx hb xid_D_23 (by decide) ?_
  refine va_newa (atype := .boolean) (ty := .boolean) (a0 := (4, .inl (fun _ => 0))) (N' := 4) hx hb (ht (.arrayClass .boolean) (xim_D _ (List.mem_of_getElem? (i := 7) rfl))) rfl hK hP hD hS hA (fun _ => rfl) (by decide) (by decide) (by decide) (show 3 ≤ 3 by decide) (show 540 ≤ 540 by decide) xid_D_24 (fun q3 cA H hK1 hP hD hS => ?_)
  obtain rfl : cA = dA 1 := xi_boolean hK1
  have hP : va_P D xp_cl [(h0, .inr (0, [.ref q1, .ref q2, .null])), (q1, .inl (dA 0, 408, .inl (fun _ => 0))), (q2, .inl (dA 0, 128, .inl (fun _ => 0))), (q3, .inl (dA 1, 4, .inl (fun _ => 0)))] H := hP
  have hD : va_D A [(h0, .inr (0, [.ref q1, .ref q2, .null])), (q1, .inl (dA 0, 408, .inl (fun _ => 0))), (q2, .inl (dA 0, 128, .inl (fun _ => 0))), (q3, .inl (dA 1, 4, .inl (fun _ => 0)))] := hD
  refine W.widen (k := 3) (n := 540) (by omega) (by omega) ?_
  refine va_putF (D := D) (ci := 0) (v := .ref q3) (ty := .array .boolean) (C := "ExtentShelf$Disks") (T := xT_0) (N := 3) hx hb ht xu_0 xY_0 xy_0 xn_0 hown hK hP hD hS 0 rfl rfl 2 (by decide) (ht (.fieldLink "ExtentShelf$Disks" 18 "ExtentShelf$Disks" "absent" "[Z") (xim_D _ (List.mem_of_getElem? (i := 8) rfl))) (fun _ h9 => h9) rfl hin rfl (by decide +kernel) rfl rfl (Nat.le_of_ble_eq_true rfl) xid_D_26 (fun H locs hP hD hS => ?_)
  have hP : va_P D xp_cl [(h0, .inr (0, [.ref q1, .ref q2, .ref q3])), (q1, .inl (dA 0, 408, .inl (fun _ => 0))), (q2, .inl (dA 0, 128, .inl (fun _ => 0))), (q3, .inl (dA 1, 4, .inl (fun _ => 0)))] H := hP
  have hD : va_D A [(h0, .inr (0, [.ref q1, .ref q2, .ref q3])), (q1, .inl (dA 0, 408, .inl (fun _ => 0))), (q2, .inl (dA 0, 128, .inl (fun _ => 0))), (q3, .inl (dA 1, 4, .inl (fun _ => 0)))] := hD
  exact W.vret hx hb hr (fun t hT hW => ⟨⟨(), rfl, trivial, q1, q2, q3, by rw [hT]; exact hP, hD⟩, hS.F hT⟩) hS.2.2 xid_D_29
theorem xid_V_0 : decode prog_3_method_1_code 0 = .ok (.aload_n 0, 1) := by decide +kernel
theorem xid_V_1 : decode prog_3_method_1_code 1 = .ok (.invokespecial 3, 3) := by decide +kernel
theorem xid_V_4 : decode prog_3_method_1_code 4 = .ok (.aload_n 0, 1) := by decide +kernel
theorem xid_V_5 : decode prog_3_method_1_code 5 = .ok (.iconst (-1), 1) := by decide +kernel
theorem xid_V_6 : decode prog_3_method_1_code 6 = .ok (.putfield 9, 3) := by decide +kernel
theorem xid_V_9 : decode prog_3_method_1_code 9 = .ok (.aload_n 0, 1) := by decide +kernel
theorem xid_V_10 : decode prog_3_method_1_code 10 = .ok (.iconst (-1), 1) := by decide +kernel
theorem xid_V_11 : decode prog_3_method_1_code 11 = .ok (.putfield 15, 3) := by decide +kernel
theorem xid_V_14 : decode prog_3_method_1_code 14 = .ok (.aload_n 0, 1) := by decide +kernel
theorem xid_V_15 : decode prog_3_method_1_code 15 = .ok (.iconst (-1), 1) := by decide +kernel
theorem xid_V_16 : decode prog_3_method_1_code 16 = .ok (.putfield 18, 3) := by decide +kernel
theorem xid_V_19 : decode prog_3_method_1_code 19 = .ok (.aload_n 0, 1) := by decide +kernel
theorem xid_V_20 : decode prog_3_method_1_code 20 = .ok (.iconst 0, 1) := by decide +kernel
theorem xid_V_21 : decode prog_3_method_1_code 21 = .ok (.putfield 21, 3) := by decide +kernel
theorem xid_V_24 : decode prog_3_method_1_code 24 = .ok (.return_, 1) := by decide +kernel
def xiy_V : MethodName := ⟨"ExtentShelf$Move", "<init>", "()V"⟩
def xiw_V : List Cond := .code xiy_V prog_3_method_1_code 1 none :: xp_BW
theorem xim_V : ∀ q ∈ ([.code ⟨"ExtentShelf$Move", "<init>", "()V"⟩ prog_3_method_1_code 1 none, .methodLink "ExtentShelf$Move" 3 objectInit, .instanceMethod objectInit, .code objectInit ⟨#[0xb1]⟩ 1 none, .fieldLink "ExtentShelf$Move" 9 "ExtentShelf$Move" "disk" "I", .fieldLink "ExtentShelf$Move" 15 "ExtentShelf$Move" "leg" "I", .fieldLink "ExtentShelf$Move" 18 "ExtentShelf$Move" "target" "I", .fieldLink "ExtentShelf$Move" 21 "ExtentShelf$Move" "copied" "I"] : List Cond), q ∈ xp_BW := xp_inB _ (by decide +kernel)
theorem xig_V : GoodIn xp_BW xiw_V := fun w hw => by
  have h : w ∈ xp_BW := (List.mem_cons.mp hw).elim (fun h => by rw [h]; exact xim_V _ (List.mem_of_getElem? (i := 0) rfl)) (fun h => h)
  exact ⟨h, good_of_word (List.mem_filter.mp h).2⟩
set_option maxHeartbeats 4000000 in
set_option maxRecDepth 100000 in
theorem xi_V (l : Launch) (D : va_G) (dA : Nat → ClassId) (h0 sz : Nat) : Met l xiy_V xiw_V ({ frames := 1, cells := 0, slots := 0, locals := 12 }) (va_Pc [.ref h0] (fun U => U.heap.size = sz ∧ va_P D xp_cl [(h0, .inr (1, [.int 0, .int 0, .int 0, .int 0]))] U.heap ∧ va_K D xp_cl (xk_t dA) U ∧ va_D (fun _ => True) [(h0, .inr (1, [.int 0, .int 0, .int 0, .int 0]))])) (va_Qv (fun _ : Unit => True) (fun _ t => va_P D xp_cl [(h0, .inr (1, [.int (-1), .int (-1), .int (-1), .int 0]))] t.heap ∧ va_D (va_A [(h0, .inr (1, [.int 0, .int 0, .int 0, .int 0]))] sz) [(h0, .inr (1, [.int (-1), .int (-1), .int (-1), .int 0]))]) (va_A [(h0, .inr (1, [.int 0, .int 0, .int 0, .int 0]))] sz)) 0 0 (va_A [(h0, .inr (1, [.int 0, .int 0, .int 0, .int 0]))] sz) := by
  refine Met.ofW (cc := prog_3_method_1_code) (maxL := 1) (ret := none) (by decide) rfl ?_
  intro p e s m args below meth c s₁ B hml hv
  obtain ⟨rfl, hsz, hP, hK, hD0⟩ := hv
  have hx := B.exec
  have hb := B.bytes
  have hr := B.returns
  have hts := atoms_spec (ws := xiw_V) B.pre
  have ht : ∀ q ∈ xp_BW, q.before #[Value.ref h0] s = true := fun q hq => hts q (List.mem_cons_of_mem _ hq)
  have hown : s.vm.findClass "ExtentShelf$Move" = some m.cls := findClass_of_methodNamed B.named
  have hlocks := B.notSynchronized
  have hin : meth.name = "<init>" := (name_of_methodNamed B.named B.method).1
  subst hsz
  have hD := hD0.self (sz := s.heap.size)
  generalize hAe : va_A [(h0, .inr (1, [.int 0, .int 0, .int 0, .int 0]))] s.heap.size = A at hD ⊢
  have hA : ∀ q : Nat, s.heap.size ≤ q → A q := fun q h => by rw [← hAe]; exact Or.inr h
  have hS : va_S A s.heap s.heap [] := va_S.rf
  have hP : va_P D xp_cl [(h0, .inr (1, [.int 0, .int 0, .int 0, .int 0]))] s.heap := hP
  have hl := lv_entry ([.ref h0]) (n := 1) (Nat.le_of_ble_eq_true rfl)
  rw [lg_entry_eq]
  generalize (lg_sl ([.ref h0]) ++ List.replicate (1 - (lg_sl ([.ref h0])).length) Slot.unset).toArray = ls at hl ⊢
  have hl : lv_has ls 1 [(0, .ref h0)] := hl
  refine lv_aload_n hx hb xid_V_0 rfl (lv_at hl 0 rfl) ?_
  refine W.objInit hx hb hown (ht (.methodLink "ExtentShelf$Move" 3 objectInit) (xim_V _ (List.mem_of_getElem? (i := 1) rfl))) (ht (.instanceMethod objectInit) (xim_V _ (List.mem_of_getElem? (i := 2) rfl))) (ht (.code objectInit ⟨#[0xb1]⟩ 1 none) (xim_V _ (List.mem_of_getElem? (i := 3) rfl))) rfl (by rw [hml]; exact hl.1) rfl xid_V_1 (Nat.le_of_ble_eq_true rfl) (Nat.le_of_ble_eq_true rfl) ?_
  refine W.eq (g2 := F0 m 4 ls []) rfl ?_
  refine lv_aload_n hx hb xid_V_4 rfl (lv_at hl 0 rfl) ?_
  refine lv_iconst (v := (-1)) hx hb xid_V_5 (by decide) ?_
  refine va_put (D := D) (ci := 1) (v := .int (-1)) (ty := .int) (C := "ExtentShelf$Move") (T := xT_1) (N := 4) hx hb ht xu_1 xY_1 xy_1 xn_1 hown hK hP hD hS 0 rfl rfl 0 (by decide) (ht (.fieldLink "ExtentShelf$Move" 9 "ExtentShelf$Move" "disk" "I") (xim_V _ (List.mem_of_getElem? (i := 4) rfl))) (fun _ h9 => h9) rfl (by decide +kernel) rfl rfl (Nat.le_of_ble_eq_true rfl) xid_V_6 (fun H locs hP hD hS => ?_)
  have hP : va_P D xp_cl [(h0, .inr (1, [.int (-1), .int 0, .int 0, .int 0]))] H := hP
  have hD : va_D A [(h0, .inr (1, [.int (-1), .int 0, .int 0, .int 0]))] := hD
  refine lv_aload_n hx hb xid_V_9 rfl (lv_at hl 0 rfl) ?_
  refine lv_iconst (v := (-1)) hx hb xid_V_10 (by decide) ?_
  refine va_put (D := D) (ci := 1) (v := .int (-1)) (ty := .int) (C := "ExtentShelf$Move") (T := xT_1) (N := 4) hx hb ht xu_1 xY_1 xy_1 xn_1 hown hK hP hD hS 0 rfl rfl 1 (by decide) (ht (.fieldLink "ExtentShelf$Move" 15 "ExtentShelf$Move" "leg" "I") (xim_V _ (List.mem_of_getElem? (i := 5) rfl))) (fun _ h9 => h9) rfl (by decide +kernel) rfl rfl (Nat.le_of_ble_eq_true rfl) xid_V_11 (fun H locs hP hD hS => ?_)
  have hP : va_P D xp_cl [(h0, .inr (1, [.int (-1), .int (-1), .int 0, .int 0]))] H := hP
  have hD : va_D A [(h0, .inr (1, [.int (-1), .int (-1), .int 0, .int 0]))] := hD
  refine lv_aload_n hx hb xid_V_14 rfl (lv_at hl 0 rfl) ?_
  refine lv_iconst (v := (-1)) hx hb xid_V_15 (by decide) ?_
  refine va_put (D := D) (ci := 1) (v := .int (-1)) (ty := .int) (C := "ExtentShelf$Move") (T := xT_1) (N := 4) hx hb ht xu_1 xY_1 xy_1 xn_1 hown hK hP hD hS 0 rfl rfl 2 (by decide) (ht (.fieldLink "ExtentShelf$Move" 18 "ExtentShelf$Move" "target" "I") (xim_V _ (List.mem_of_getElem? (i := 6) rfl))) (fun _ h9 => h9) rfl (by decide +kernel) rfl rfl (Nat.le_of_ble_eq_true rfl) xid_V_16 (fun H locs hP hD hS => ?_)
  have hP : va_P D xp_cl [(h0, .inr (1, [.int (-1), .int (-1), .int (-1), .int 0]))] H := hP
  have hD : va_D A [(h0, .inr (1, [.int (-1), .int (-1), .int (-1), .int 0]))] := hD
  refine lv_aload_n hx hb xid_V_19 rfl (lv_at hl 0 rfl) ?_
  refine lv_iconst (v := 0) hx hb xid_V_20 (by decide) ?_
  refine va_put (D := D) (ci := 1) (v := .int 0) (ty := .int) (C := "ExtentShelf$Move") (T := xT_1) (N := 4) hx hb ht xu_1 xY_1 xy_1 xn_1 hown hK hP hD hS 0 rfl rfl 3 (by decide) (ht (.fieldLink "ExtentShelf$Move" 21 "ExtentShelf$Move" "copied" "I") (xim_V _ (List.mem_of_getElem? (i := 7) rfl))) (fun _ h9 => h9) rfl (by decide +kernel) rfl rfl (Nat.le_of_ble_eq_true rfl) xid_V_21 (fun H locs hP hD hS => ?_)
  have hP : va_P D xp_cl [(h0, .inr (1, [.int (-1), .int (-1), .int (-1), .int 0]))] H := hP
  have hD : va_D A [(h0, .inr (1, [.int (-1), .int (-1), .int (-1), .int 0]))] := hD
  exact W.vret hx hb hr (fun t hT hW => ⟨⟨(), rfl, trivial, by rw [hT]; exact hP, hD⟩, hS.F hT⟩) hS.2.2 xid_V_24
theorem xid_T_0 : decode prog_4_method_1_code 0 = .ok (.aload_n 0, 1) := by decide +kernel
theorem xid_T_1 : decode prog_4_method_1_code 1 = .ok (.invokespecial 3, 3) := by decide +kernel
theorem xid_T_4 : decode prog_4_method_1_code 4 = .ok (.aload_n 0, 1) := by decide +kernel
theorem xid_T_5 : decode prog_4_method_1_code 5 = .ok (.bipush 51, 2) := by decide +kernel
theorem xid_T_7 : decode prog_4_method_1_code 7 = .ok (.newarray .int, 2) := by decide +kernel
theorem xid_T_9 : decode prog_4_method_1_code 9 = .ok (.putfield 9, 3) := by decide +kernel
theorem xid_T_12 : decode prog_4_method_1_code 12 = .ok (.return_, 1) := by decide +kernel
def xiy_T : MethodName := ⟨"ExtentShelf$Table", "<init>", "()V"⟩
def xiw_T : List Cond := .code xiy_T prog_4_method_1_code 1 none :: xp_BW
theorem xim_T : ∀ q ∈ ([.code ⟨"ExtentShelf$Table", "<init>", "()V"⟩ prog_4_method_1_code 1 none, .methodLink "ExtentShelf$Table" 3 objectInit, .instanceMethod objectInit, .code objectInit ⟨#[0xb1]⟩ 1 none, .arrayClass .int, .fieldLink "ExtentShelf$Table" 9 "ExtentShelf$Table" "words" "[I"] : List Cond), q ∈ xp_BW := xp_inB _ (by decide +kernel)
theorem xig_T : GoodIn xp_BW xiw_T := fun w hw => by
  have h : w ∈ xp_BW := (List.mem_cons.mp hw).elim (fun h => by rw [h]; exact xim_T _ (List.mem_of_getElem? (i := 0) rfl)) (fun h => h)
  exact ⟨h, good_of_word (List.mem_filter.mp h).2⟩
set_option maxHeartbeats 4000000 in
set_option maxRecDepth 100000 in
theorem xi_T (l : Launch) (D : va_G) (dA : Nat → ClassId) (h0 sz : Nat) : Met l xiy_T xiw_T ({ frames := 1, cells := 1, slots := 51, locals := 12 }) (va_Pc [.ref h0] (fun U => U.heap.size = sz ∧ va_P D xp_cl [(h0, .inr (2, [.null]))] U.heap ∧ va_K D xp_cl (xk_t dA) U ∧ va_D (fun _ => True) [(h0, .inr (2, [.null]))])) (va_Qv (fun _ : Unit => True) (fun _ t => ∃ (q1 : Nat), va_P D xp_cl [(h0, .inr (2, [.ref q1])), (q1, .inl (dA 0, 51, .inl (fun _ => 0)))] t.heap ∧ va_D (va_A [(h0, .inr (2, [.null]))] sz) [(h0, .inr (2, [.ref q1])), (q1, .inl (dA 0, 51, .inl (fun _ => 0)))]) (va_A [(h0, .inr (2, [.null]))] sz)) 1 51 (va_A [(h0, .inr (2, [.null]))] sz) := by
  refine Met.ofW (cc := prog_4_method_1_code) (maxL := 1) (ret := none) (by decide) rfl ?_
  intro p e s m args below meth c s₁ B hml hv
  obtain ⟨rfl, hsz, hP, hK, hD0⟩ := hv
  have hx := B.exec
  have hb := B.bytes
  have hr := B.returns
  have hts := atoms_spec (ws := xiw_T) B.pre
  have ht : ∀ q ∈ xp_BW, q.before #[Value.ref h0] s = true := fun q hq => hts q (List.mem_cons_of_mem _ hq)
  have hown : s.vm.findClass "ExtentShelf$Table" = some m.cls := findClass_of_methodNamed B.named
  have hlocks := B.notSynchronized
  have hin : meth.name = "<init>" := (name_of_methodNamed B.named B.method).1
  subst hsz
  have hD := hD0.self (sz := s.heap.size)
  generalize hAe : va_A [(h0, .inr (2, [.null]))] s.heap.size = A at hD ⊢
  have hA : ∀ q : Nat, s.heap.size ≤ q → A q := fun q h => by rw [← hAe]; exact Or.inr h
  have hS : va_S A s.heap s.heap [] := va_S.rf
  have hP : va_P D xp_cl [(h0, .inr (2, [.null]))] s.heap := hP
  have hl := lv_entry ([.ref h0]) (n := 1) (Nat.le_of_ble_eq_true rfl)
  rw [lg_entry_eq]
  generalize (lg_sl ([.ref h0]) ++ List.replicate (1 - (lg_sl ([.ref h0])).length) Slot.unset).toArray = ls at hl ⊢
  have hl : lv_has ls 1 [(0, .ref h0)] := hl
  refine lv_aload_n hx hb xid_T_0 rfl (lv_at hl 0 rfl) ?_
  refine W.objInit hx hb hown (ht (.methodLink "ExtentShelf$Table" 3 objectInit) (xim_T _ (List.mem_of_getElem? (i := 1) rfl))) (ht (.instanceMethod objectInit) (xim_T _ (List.mem_of_getElem? (i := 2) rfl))) (ht (.code objectInit ⟨#[0xb1]⟩ 1 none) (xim_T _ (List.mem_of_getElem? (i := 3) rfl))) rfl (by rw [hml]; exact hl.1) rfl xid_T_1 (Nat.le_of_ble_eq_true rfl) (Nat.le_of_ble_eq_true rfl) ?_
  refine W.eq (g2 := F0 m 4 ls []) rfl ?_
  refine lv_aload_n hx hb xid_T_4 rfl (lv_at hl 0 rfl) ?_
  refine lv_bipush (v := 51) hx hb xid_T_5 (by decide) ?_
  refine va_newa (atype := .int) (ty := .int) (a0 := (51, .inl (fun _ => 0))) (N' := 51) hx hb (ht (.arrayClass .int) (xim_T _ (List.mem_of_getElem? (i := 4) rfl))) rfl hK hP hD hS hA (fun _ => rfl) (by decide) (by decide) (by decide) (show 1 ≤ 1 by decide) (show 51 ≤ 51 by decide) xid_T_7 (fun q1 cA H hK1 hP hD hS => ?_)
  obtain rfl : cA = dA 0 := xi_int hK1
  have hP : va_P D xp_cl [(h0, .inr (2, [.null])), (q1, .inl (dA 0, 51, .inl (fun _ => 0)))] H := hP
  have hD : va_D A [(h0, .inr (2, [.null])), (q1, .inl (dA 0, 51, .inl (fun _ => 0)))] := hD
  refine W.widen (k := 1) (n := 51) (by omega) (by omega) ?_
  refine va_putF (D := D) (ci := 2) (v := .ref q1) (ty := .array .int) (C := "ExtentShelf$Table") (T := xT_2) (N := 1) hx hb ht xu_2 xY_2 xy_2 xn_2 hown hK hP hD hS 0 rfl rfl 0 (by decide) (ht (.fieldLink "ExtentShelf$Table" 9 "ExtentShelf$Table" "words" "[I") (xim_T _ (List.mem_of_getElem? (i := 5) rfl))) (fun _ h9 => h9) rfl hin rfl (by decide +kernel) rfl rfl (Nat.le_of_ble_eq_true rfl) xid_T_9 (fun H locs hP hD hS => ?_)
  have hP : va_P D xp_cl [(h0, .inr (2, [.ref q1])), (q1, .inl (dA 0, 51, .inl (fun _ => 0)))] H := hP
  have hD : va_D A [(h0, .inr (2, [.ref q1])), (q1, .inl (dA 0, 51, .inl (fun _ => 0)))] := hD
  exact W.vret hx hb hr (fun t hT hW => ⟨⟨(), rfl, trivial, q1, by rw [hT]; exact hP, hD⟩, hS.F hT⟩) hS.2.2 xid_T_12
theorem xid_S_0 : decode prog_1_method_1_code 0 = .ok (.aload_n 0, 1) := by decide +kernel
theorem xid_S_1 : decode prog_1_method_1_code 1 = .ok (.invokespecial 3, 3) := by decide +kernel
theorem xid_S_4 : decode prog_1_method_1_code 4 = .ok (.aload_n 0, 1) := by decide +kernel
theorem xid_S_5 : decode prog_1_method_1_code 5 = .ok (.new 9, 3) := by decide +kernel
theorem xid_S_8 : decode prog_1_method_1_code 8 = .ok (.dup, 1) := by decide +kernel
theorem xid_S_9 : decode prog_1_method_1_code 9 = .ok (.invokespecial 11, 3) := by decide +kernel
theorem xid_S_12 : decode prog_1_method_1_code 12 = .ok (.putfield 12, 3) := by decide +kernel
theorem xid_S_15 : decode prog_1_method_1_code 15 = .ok (.aload_n 0, 1) := by decide +kernel
theorem xid_S_16 : decode prog_1_method_1_code 16 = .ok (.new 16, 3) := by decide +kernel
theorem xid_S_19 : decode prog_1_method_1_code 19 = .ok (.dup, 1) := by decide +kernel
theorem xid_S_20 : decode prog_1_method_1_code 20 = .ok (.invokespecial 18, 3) := by decide +kernel
theorem xid_S_23 : decode prog_1_method_1_code 23 = .ok (.putfield 19, 3) := by decide +kernel
theorem xid_S_26 : decode prog_1_method_1_code 26 = .ok (.aload_n 0, 1) := by decide +kernel
theorem xid_S_27 : decode prog_1_method_1_code 27 = .ok (.new 16, 3) := by decide +kernel
theorem xid_S_30 : decode prog_1_method_1_code 30 = .ok (.dup, 1) := by decide +kernel
theorem xid_S_31 : decode prog_1_method_1_code 31 = .ok (.invokespecial 18, 3) := by decide +kernel
theorem xid_S_34 : decode prog_1_method_1_code 34 = .ok (.putfield 23, 3) := by decide +kernel
theorem xid_S_37 : decode prog_1_method_1_code 37 = .ok (.aload_n 0, 1) := by decide +kernel
theorem xid_S_38 : decode prog_1_method_1_code 38 = .ok (.new 26, 3) := by decide +kernel
theorem xid_S_41 : decode prog_1_method_1_code 41 = .ok (.dup, 1) := by decide +kernel
theorem xid_S_42 : decode prog_1_method_1_code 42 = .ok (.invokespecial 28, 3) := by decide +kernel
theorem xid_S_45 : decode prog_1_method_1_code 45 = .ok (.putfield 29, 3) := by decide +kernel
theorem xid_S_48 : decode prog_1_method_1_code 48 = .ok (.aload_n 0, 1) := by decide +kernel
theorem xid_S_49 : decode prog_1_method_1_code 49 = .ok (.iconst 1, 1) := by decide +kernel
theorem xid_S_50 : decode prog_1_method_1_code 50 = .ok (.putfield 33, 3) := by decide +kernel
theorem xid_S_53 : decode prog_1_method_1_code 53 = .ok (.aload_n 0, 1) := by decide +kernel
theorem xid_S_54 : decode prog_1_method_1_code 54 = .ok (.iconst (-1), 1) := by decide +kernel
theorem xid_S_55 : decode prog_1_method_1_code 55 = .ok (.putfield 37, 3) := by decide +kernel
theorem xid_S_58 : decode prog_1_method_1_code 58 = .ok (.return_, 1) := by decide +kernel
def xiy_S : MethodName := ⟨"ExtentShelf", "<init>", "()V"⟩
def xiw_S : List Cond := .code xiy_S prog_1_method_1_code 1 none :: xp_BW
theorem xim_S : ∀ q ∈ ([.code ⟨"ExtentShelf", "<init>", "()V"⟩ prog_1_method_1_code 1 none, .methodLink "ExtentShelf" 3 objectInit, .instanceMethod objectInit, .code objectInit ⟨#[0xb1]⟩ 1 none, .classLink "ExtentShelf" 9 "ExtentShelf$Disks", .instantiable "ExtentShelf$Disks" 3, .initialized "ExtentShelf$Disks", .instanceMethod ⟨"ExtentShelf$Disks", "<init>", "()V"⟩, .fieldLink "ExtentShelf" 12 "ExtentShelf" "disks" "LExtentShelf$Disks;", .classLink "ExtentShelf" 16 "ExtentShelf$Table", .instantiable "ExtentShelf$Table" 1, .initialized "ExtentShelf$Table", .instanceMethod ⟨"ExtentShelf$Table", "<init>", "()V"⟩, .fieldLink "ExtentShelf" 19 "ExtentShelf" "table" "LExtentShelf$Table;", .fieldLink "ExtentShelf" 23 "ExtentShelf" "draft" "LExtentShelf$Table;", .classLink "ExtentShelf" 26 "ExtentShelf$Move", .instantiable "ExtentShelf$Move" 4, .initialized "ExtentShelf$Move", .instanceMethod ⟨"ExtentShelf$Move", "<init>", "()V"⟩, .fieldLink "ExtentShelf" 29 "ExtentShelf" "move" "LExtentShelf$Move;", .fieldLink "ExtentShelf" 33 "ExtentShelf" "powerOn" "Z", .fieldLink "ExtentShelf" 37 "ExtentShelf" "wordsBeforeCut" "I"] : List Cond), q ∈ xp_BW := xp_inB _ (by decide +kernel)
theorem xig_S : GoodIn xp_BW xiw_S := fun w hw => by
  have h : w ∈ xp_BW := (List.mem_cons.mp hw).elim (fun h => by rw [h]; exact xim_S _ (List.mem_of_getElem? (i := 0) rfl)) (fun h => h)
  exact ⟨h, good_of_word (List.mem_filter.mp h).2⟩
theorem xin_S_D : Cond.methodLinkNest "ExtentShelf" 11 xiy_D "ExtentShelf" ∈ xp_NW := (xp_in [Cond.methodLinkNest "ExtentShelf" 11 xiy_D "ExtentShelf"] (by decide +kernel) _ List.mem_cons_self).elim (fun h => absurd (List.mem_filter.mp h).2 (by decide)) (fun h => h)
theorem xin_S_V : Cond.methodLinkNest "ExtentShelf" 28 xiy_V "ExtentShelf" ∈ xp_NW := (xp_in [Cond.methodLinkNest "ExtentShelf" 28 xiy_V "ExtentShelf"] (by decide +kernel) _ List.mem_cons_self).elim (fun h => absurd (List.mem_filter.mp h).2 (by decide)) (fun h => h)
theorem xin_S_T : Cond.methodLinkNest "ExtentShelf" 18 xiy_T "ExtentShelf" ∈ xp_NW := (xp_in [Cond.methodLinkNest "ExtentShelf" 18 xiy_T "ExtentShelf"] (by decide +kernel) _ List.mem_cons_self).elim (fun h => absurd (List.mem_filter.mp h).2 (by decide)) (fun h => h)
set_option maxHeartbeats 4000000 in
set_option maxRecDepth 100000 in
theorem xi_S (l : Launch) (D : va_G) (dA : Nat → ClassId) (h0 sz : Nat) : Met l xiy_S xiw_S ({ frames := 2, cells := 9, slots := 651, locals := 32 }) (va_Pc [.ref h0] (fun U => U.heap.size = sz ∧ va_P D xp_cl [(h0, .inr (3, [.null, .null, .null, .null, .int 0, .int 0]))] U.heap ∧ va_K D xp_cl (xk_t dA) U ∧ va_D (fun _ => True) [(h0, .inr (3, [.null, .null, .null, .null, .int 0, .int 0]))] ∧ (∀ q ∈ xp_NW, va_Nw q U))) (va_Qv (fun _ : Unit => True) (fun _ t => ∃ (q1 q2 q3 q4 q5 q6 q7 q8 q9 : Nat), va_P D xp_cl [(h0, .inr (3, [.ref q1, .ref q5, .ref q7, .ref q9, .int 1, .int (-1)])), (q1, .inr (0, [.ref q2, .ref q3, .ref q4])), (q2, .inl (dA 0, 408, .inl (fun _ => 0))), (q3, .inl (dA 0, 128, .inl (fun _ => 0))), (q4, .inl (dA 1, 4, .inl (fun _ => 0))), (q5, .inr (2, [.ref q6])), (q6, .inl (dA 0, 51, .inl (fun _ => 0))), (q7, .inr (2, [.ref q8])), (q8, .inl (dA 0, 51, .inl (fun _ => 0))), (q9, .inr (1, [.int (-1), .int (-1), .int (-1), .int 0]))] t.heap ∧ va_D (va_A [(h0, .inr (3, [.null, .null, .null, .null, .int 0, .int 0]))] sz) [(h0, .inr (3, [.ref q1, .ref q5, .ref q7, .ref q9, .int 1, .int (-1)])), (q1, .inr (0, [.ref q2, .ref q3, .ref q4])), (q2, .inl (dA 0, 408, .inl (fun _ => 0))), (q3, .inl (dA 0, 128, .inl (fun _ => 0))), (q4, .inl (dA 1, 4, .inl (fun _ => 0))), (q5, .inr (2, [.ref q6])), (q6, .inl (dA 0, 51, .inl (fun _ => 0))), (q7, .inr (2, [.ref q8])), (q8, .inl (dA 0, 51, .inl (fun _ => 0))), (q9, .inr (1, [.int (-1), .int (-1), .int (-1), .int 0]))]) (va_A [(h0, .inr (3, [.null, .null, .null, .null, .int 0, .int 0]))] sz)) 9 651 (va_A [(h0, .inr (3, [.null, .null, .null, .null, .int 0, .int 0]))] sz) := by
  refine Met.ofW (cc := prog_1_method_1_code) (maxL := 1) (ret := none) (by decide) rfl ?_
  intro p e s m args below meth c s₁ B hml hv
  obtain ⟨rfl, hsz, hP, hK, hD0, hN⟩ := hv
  have hx := B.exec
  have hb := B.bytes
  have hr := B.returns
  have hts := atoms_spec (ws := xiw_S) B.pre
  have ht : ∀ q ∈ xp_BW, q.before #[Value.ref h0] s = true := fun q hq => hts q (List.mem_cons_of_mem _ hq)
  have hown : s.vm.findClass "ExtentShelf" = some m.cls := findClass_of_methodNamed B.named
  have hlocks := B.notSynchronized
  have hin : meth.name = "<init>" := (name_of_methodNamed B.named B.method).1
  subst hsz
  have hD := hD0.self (sz := s.heap.size)
  generalize hAe : va_A [(h0, .inr (3, [.null, .null, .null, .null, .int 0, .int 0]))] s.heap.size = A at hD ⊢
  have hA : ∀ q : Nat, s.heap.size ≤ q → A q := fun q h => by rw [← hAe]; exact Or.inr h
  have hS : va_S A s.heap s.heap [] := va_S.rf
  have hP : va_P D xp_cl [(h0, .inr (3, [.null, .null, .null, .null, .int 0, .int 0]))] s.heap := hP
  have hl := lv_entry ([.ref h0]) (n := 1) (Nat.le_of_ble_eq_true rfl)
  rw [lg_entry_eq]
  generalize (lg_sl ([.ref h0]) ++ List.replicate (1 - (lg_sl ([.ref h0])).length) Slot.unset).toArray = ls at hl ⊢
  have hl : lv_has ls 1 [(0, .ref h0)] := hl
  refine lv_aload_n hx hb xid_S_0 rfl (lv_at hl 0 rfl) ?_
  refine W.objInit hx hb hown (ht (.methodLink "ExtentShelf" 3 objectInit) (xim_S _ (List.mem_of_getElem? (i := 1) rfl))) (ht (.instanceMethod objectInit) (xim_S _ (List.mem_of_getElem? (i := 2) rfl))) (ht (.code objectInit ⟨#[0xb1]⟩ 1 none) (xim_S _ (List.mem_of_getElem? (i := 3) rfl))) rfl (by rw [hml]; exact hl.1) rfl xid_S_1 (Nat.le_of_ble_eq_true rfl) (Nat.le_of_ble_eq_true rfl) ?_
  refine W.eq (g2 := F0 m 4 ls []) rfl ?_
  refine lv_aload_n hx hb xid_S_4 rfl (lv_at hl 0 rfl) ?_
  refine va_new (ci := 0) (fs := [.null, .null, .null]) (C := "ExtentShelf$Disks") (T := xT_0) (N := 3) hx hb ht xu_0 xY_0 xy_0 hown (ht (.classLink "ExtentShelf" 9 "ExtentShelf$Disks") (xim_S _ (List.mem_of_getElem? (i := 4) rfl))) (ht (.instantiable "ExtentShelf$Disks" 3) (xim_S _ (List.mem_of_getElem? (i := 5) rfl))) (ht (.initialized "ExtentShelf$Disks") (xim_S _ (List.mem_of_getElem? (i := 6) rfl))) hK hP hD hS hA rfl (xi_d0) (show 1 ≤ 9 by decide) (show 3 ≤ 651 by decide) xid_S_5 (fun q1 H hP hD hS => ?_)
  have hP : va_P D xp_cl [(h0, .inr (3, [.null, .null, .null, .null, .int 0, .int 0])), (q1, .inr (0, [.null, .null, .null]))] H := hP
  have hD : va_D A [(h0, .inr (3, [.null, .null, .null, .null, .int 0, .int 0])), (q1, .inr (0, [.null, .null, .null]))] := hD
  refine W.widen (k := 1) (n := 3) (by omega) (by omega) ?_
  refine lv_dup hx hb xid_S_8 rfl ?_
  have hPc := hP.sub (ws' := [(q1, .inr (0, [.null, .null, .null]))]) [1] rfl
  have hDc := hD.sub (ws' := [(q1, .inr (0, [.null, .null, .null]))]) [1] (by decide) rfl
  have hFc := va_free (wc := [(q1, .inr (0, [.null, .null, .null]))]) hD hS hA [1] rfl
  refine va_callv (va_runIN (host := "ExtentShelf") (As := []) (rest := [.ref q1, .ref h0]) ⟨hx, hb, hml, hown, ht⟩ (xi_D l D dA q1 H.size) ⟨va_cnB 0 ht xig_D rfl rfl rfl (hN _ (xin_S_D)) (ht (.initialized "ExtentShelf$Disks") (xim_S _ (List.mem_of_getElem? (i := 6) rfl))) (by decide +kernel) ⟨Nat.le_of_ble_eq_true rfl, Nat.le_of_ble_eq_true rfl⟩, rfl, (ht (.instanceMethod ⟨"ExtentShelf$Disks", "<init>", "()V"⟩) (xim_S _ (List.mem_of_getElem? (i := 7) rfl)))⟩ ⟨fun a U g mk q => by obtain ⟨q0, q1, qP, qK, qD⟩ := q; exact ⟨q0, q1, qP, va_K.moved (u := U) (U := U.calling g mk a) (Vm.Alike.refl U.vm) qK, qD⟩, fun U hU hW => ⟨rfl, by rw [hU], by rw [hU]; exact hPc, va_K.moved hW.alike hK, hDc.weaken (fun _ _ _ _ => trivial)⟩⟩ rfl rfl hl.1 rfl (lv_room (Nat.le_of_ble_eq_true rfl)) xid_S_9 ⟨show 4 ≤ 9 by decide, show 543 ≤ 651 by decide⟩) hS (fun q _ h => hFc q h) hFc (fun u t H1 locs hT hvm h5 hB hz1 hk1 hS => ?_)
  obtain ⟨q2, q3, q4, hP1, hD1⟩ := hB
  rw [hT] at hP1
  obtain ⟨hP, hD⟩ := va_join (wr := [(h0, .inr (3, [.null, .null, .null, .null, .int 0, .int 0]))]) (w1 := [(q1, .inr (0, [.ref q2, .ref q3, .ref q4])), (q2, .inl (dA 0, 408, .inl (fun _ => 0))), (q3, .inl (dA 0, 128, .inl (fun _ => 0))), (q4, .inl (dA 1, 4, .inl (fun _ => 0)))]) hP hD [1] [0] rfl rfl (by decide) (by decide) hk1 hFc hP1 hD1
  generalize H1 = H at hP hS ⊢
  have hP : va_P D xp_cl [(h0, .inr (3, [.null, .null, .null, .null, .int 0, .int 0])), (q1, .inr (0, [.ref q2, .ref q3, .ref q4])), (q2, .inl (dA 0, 408, .inl (fun _ => 0))), (q3, .inl (dA 0, 128, .inl (fun _ => 0))), (q4, .inl (dA 1, 4, .inl (fun _ => 0)))] H := hP
  have hD : va_D A [(h0, .inr (3, [.null, .null, .null, .null, .int 0, .int 0])), (q1, .inr (0, [.ref q2, .ref q3, .ref q4])), (q2, .inl (dA 0, 408, .inl (fun _ => 0))), (q3, .inl (dA 0, 128, .inl (fun _ => 0))), (q4, .inl (dA 1, 4, .inl (fun _ => 0)))] := hD
  refine W.widen (k := 4) (n := 543) (by omega) (by omega) ?_
  refine va_putF (D := D) (ci := 3) (v := .ref q1) (ty := .object "ExtentShelf$Disks") (C := "ExtentShelf") (T := xT_3) (N := 6) hx hb ht xu_3 xY_3 xy_3 xn_3 hown hK hP hD hS 0 rfl rfl 0 (by decide) (ht (.fieldLink "ExtentShelf" 12 "ExtentShelf" "disks" "LExtentShelf$Disks;") (xim_S _ (List.mem_of_getElem? (i := 8) rfl))) (fun _ h9 => h9) rfl hin rfl (by decide +kernel) rfl rfl (Nat.le_of_ble_eq_true rfl) xid_S_12 (fun H locs hP hD hS => ?_)
  have hP : va_P D xp_cl [(h0, .inr (3, [.ref q1, .null, .null, .null, .int 0, .int 0])), (q1, .inr (0, [.ref q2, .ref q3, .ref q4])), (q2, .inl (dA 0, 408, .inl (fun _ => 0))), (q3, .inl (dA 0, 128, .inl (fun _ => 0))), (q4, .inl (dA 1, 4, .inl (fun _ => 0)))] H := hP
  have hD : va_D A [(h0, .inr (3, [.ref q1, .null, .null, .null, .int 0, .int 0])), (q1, .inr (0, [.ref q2, .ref q3, .ref q4])), (q2, .inl (dA 0, 408, .inl (fun _ => 0))), (q3, .inl (dA 0, 128, .inl (fun _ => 0))), (q4, .inl (dA 1, 4, .inl (fun _ => 0)))] := hD
  refine lv_aload_n hx hb xid_S_15 rfl (lv_at hl 0 rfl) ?_
  refine va_new (ci := 2) (fs := [.null]) (C := "ExtentShelf$Table") (T := xT_2) (N := 1) hx hb ht xu_2 xY_2 xy_2 hown (ht (.classLink "ExtentShelf" 16 "ExtentShelf$Table") (xim_S _ (List.mem_of_getElem? (i := 9) rfl))) (ht (.instantiable "ExtentShelf$Table" 1) (xim_S _ (List.mem_of_getElem? (i := 10) rfl))) (ht (.initialized "ExtentShelf$Table") (xim_S _ (List.mem_of_getElem? (i := 11) rfl))) hK hP hD hS hA rfl (xi_d2) (show 5 ≤ 9 by decide) (show 544 ≤ 651 by decide) xid_S_16 (fun q5 H hP hD hS => ?_)
  have hP : va_P D xp_cl [(h0, .inr (3, [.ref q1, .null, .null, .null, .int 0, .int 0])), (q1, .inr (0, [.ref q2, .ref q3, .ref q4])), (q2, .inl (dA 0, 408, .inl (fun _ => 0))), (q3, .inl (dA 0, 128, .inl (fun _ => 0))), (q4, .inl (dA 1, 4, .inl (fun _ => 0))), (q5, .inr (2, [.null]))] H := hP
  have hD : va_D A [(h0, .inr (3, [.ref q1, .null, .null, .null, .int 0, .int 0])), (q1, .inr (0, [.ref q2, .ref q3, .ref q4])), (q2, .inl (dA 0, 408, .inl (fun _ => 0))), (q3, .inl (dA 0, 128, .inl (fun _ => 0))), (q4, .inl (dA 1, 4, .inl (fun _ => 0))), (q5, .inr (2, [.null]))] := hD
  refine W.widen (k := 5) (n := 544) (by omega) (by omega) ?_
  refine lv_dup hx hb xid_S_19 rfl ?_
  have hPc := hP.sub (ws' := [(q5, .inr (2, [.null]))]) [5] rfl
  have hDc := hD.sub (ws' := [(q5, .inr (2, [.null]))]) [5] (by decide) rfl
  have hFc := va_free (wc := [(q5, .inr (2, [.null]))]) hD hS hA [5] rfl
  refine va_callv (va_runIN (host := "ExtentShelf") (As := []) (rest := [.ref q5, .ref h0]) ⟨hx, hb, hml, hown, ht⟩ (xi_T l D dA q5 H.size) ⟨va_cnB 0 ht xig_T rfl rfl rfl (hN _ (xin_S_T)) (ht (.initialized "ExtentShelf$Table") (xim_S _ (List.mem_of_getElem? (i := 11) rfl))) (by decide +kernel) ⟨Nat.le_of_ble_eq_true rfl, Nat.le_of_ble_eq_true rfl⟩, rfl, (ht (.instanceMethod ⟨"ExtentShelf$Table", "<init>", "()V"⟩) (xim_S _ (List.mem_of_getElem? (i := 12) rfl)))⟩ ⟨fun a U g mk q => by obtain ⟨q0, q1, qP, qK, qD⟩ := q; exact ⟨q0, q1, qP, va_K.moved (u := U) (U := U.calling g mk a) (Vm.Alike.refl U.vm) qK, qD⟩, fun U hU hW => ⟨rfl, by rw [hU], by rw [hU]; exact hPc, va_K.moved hW.alike hK, hDc.weaken (fun _ _ _ _ => trivial)⟩⟩ rfl rfl hl.1 rfl (lv_room (Nat.le_of_ble_eq_true rfl)) xid_S_20 ⟨show 6 ≤ 9 by decide, show 595 ≤ 651 by decide⟩) hS (fun q _ h => hFc q h) hFc (fun u t H1 locs hT hvm h5 hB hz1 hk1 hS => ?_)
  obtain ⟨q6, hP1, hD1⟩ := hB
  rw [hT] at hP1
  obtain ⟨hP, hD⟩ := va_join (wr := [(h0, .inr (3, [.ref q1, .null, .null, .null, .int 0, .int 0])), (q1, .inr (0, [.ref q2, .ref q3, .ref q4])), (q2, .inl (dA 0, 408, .inl (fun _ => 0))), (q3, .inl (dA 0, 128, .inl (fun _ => 0))), (q4, .inl (dA 1, 4, .inl (fun _ => 0)))]) (w1 := [(q5, .inr (2, [.ref q6])), (q6, .inl (dA 0, 51, .inl (fun _ => 0)))]) hP hD [5] [0, 1, 2, 3, 4] rfl rfl (by decide) (by decide) hk1 hFc hP1 hD1
  generalize H1 = H at hP hS ⊢
  have hP : va_P D xp_cl [(h0, .inr (3, [.ref q1, .null, .null, .null, .int 0, .int 0])), (q1, .inr (0, [.ref q2, .ref q3, .ref q4])), (q2, .inl (dA 0, 408, .inl (fun _ => 0))), (q3, .inl (dA 0, 128, .inl (fun _ => 0))), (q4, .inl (dA 1, 4, .inl (fun _ => 0))), (q5, .inr (2, [.ref q6])), (q6, .inl (dA 0, 51, .inl (fun _ => 0)))] H := hP
  have hD : va_D A [(h0, .inr (3, [.ref q1, .null, .null, .null, .int 0, .int 0])), (q1, .inr (0, [.ref q2, .ref q3, .ref q4])), (q2, .inl (dA 0, 408, .inl (fun _ => 0))), (q3, .inl (dA 0, 128, .inl (fun _ => 0))), (q4, .inl (dA 1, 4, .inl (fun _ => 0))), (q5, .inr (2, [.ref q6])), (q6, .inl (dA 0, 51, .inl (fun _ => 0)))] := hD
  refine W.widen (k := 6) (n := 595) (by omega) (by omega) ?_
  refine va_putF (D := D) (ci := 3) (v := .ref q5) (ty := .object "ExtentShelf$Table") (C := "ExtentShelf") (T := xT_3) (N := 6) hx hb ht xu_3 xY_3 xy_3 xn_3 hown hK hP hD hS 0 rfl rfl 1 (by decide) (ht (.fieldLink "ExtentShelf" 19 "ExtentShelf" "table" "LExtentShelf$Table;") (xim_S _ (List.mem_of_getElem? (i := 13) rfl))) (fun _ h9 => h9) rfl hin rfl (by decide +kernel) rfl rfl (Nat.le_of_ble_eq_true rfl) xid_S_23 (fun H locs hP hD hS => ?_)
  have hP : va_P D xp_cl [(h0, .inr (3, [.ref q1, .ref q5, .null, .null, .int 0, .int 0])), (q1, .inr (0, [.ref q2, .ref q3, .ref q4])), (q2, .inl (dA 0, 408, .inl (fun _ => 0))), (q3, .inl (dA 0, 128, .inl (fun _ => 0))), (q4, .inl (dA 1, 4, .inl (fun _ => 0))), (q5, .inr (2, [.ref q6])), (q6, .inl (dA 0, 51, .inl (fun _ => 0)))] H := hP
  have hD : va_D A [(h0, .inr (3, [.ref q1, .ref q5, .null, .null, .int 0, .int 0])), (q1, .inr (0, [.ref q2, .ref q3, .ref q4])), (q2, .inl (dA 0, 408, .inl (fun _ => 0))), (q3, .inl (dA 0, 128, .inl (fun _ => 0))), (q4, .inl (dA 1, 4, .inl (fun _ => 0))), (q5, .inr (2, [.ref q6])), (q6, .inl (dA 0, 51, .inl (fun _ => 0)))] := hD
  refine lv_aload_n hx hb xid_S_26 rfl (lv_at hl 0 rfl) ?_
  refine va_new (ci := 2) (fs := [.null]) (C := "ExtentShelf$Table") (T := xT_2) (N := 1) hx hb ht xu_2 xY_2 xy_2 hown (ht (.classLink "ExtentShelf" 16 "ExtentShelf$Table") (xim_S _ (List.mem_of_getElem? (i := 9) rfl))) (ht (.instantiable "ExtentShelf$Table" 1) (xim_S _ (List.mem_of_getElem? (i := 10) rfl))) (ht (.initialized "ExtentShelf$Table") (xim_S _ (List.mem_of_getElem? (i := 11) rfl))) hK hP hD hS hA rfl (xi_d2) (show 7 ≤ 9 by decide) (show 596 ≤ 651 by decide) xid_S_27 (fun q7 H hP hD hS => ?_)
  have hP : va_P D xp_cl [(h0, .inr (3, [.ref q1, .ref q5, .null, .null, .int 0, .int 0])), (q1, .inr (0, [.ref q2, .ref q3, .ref q4])), (q2, .inl (dA 0, 408, .inl (fun _ => 0))), (q3, .inl (dA 0, 128, .inl (fun _ => 0))), (q4, .inl (dA 1, 4, .inl (fun _ => 0))), (q5, .inr (2, [.ref q6])), (q6, .inl (dA 0, 51, .inl (fun _ => 0))), (q7, .inr (2, [.null]))] H := hP
  have hD : va_D A [(h0, .inr (3, [.ref q1, .ref q5, .null, .null, .int 0, .int 0])), (q1, .inr (0, [.ref q2, .ref q3, .ref q4])), (q2, .inl (dA 0, 408, .inl (fun _ => 0))), (q3, .inl (dA 0, 128, .inl (fun _ => 0))), (q4, .inl (dA 1, 4, .inl (fun _ => 0))), (q5, .inr (2, [.ref q6])), (q6, .inl (dA 0, 51, .inl (fun _ => 0))), (q7, .inr (2, [.null]))] := hD
  refine W.widen (k := 7) (n := 596) (by omega) (by omega) ?_
  refine lv_dup hx hb xid_S_30 rfl ?_
  have hPc := hP.sub (ws' := [(q7, .inr (2, [.null]))]) [7] rfl
  have hDc := hD.sub (ws' := [(q7, .inr (2, [.null]))]) [7] (by decide) rfl
  have hFc := va_free (wc := [(q7, .inr (2, [.null]))]) hD hS hA [7] rfl
  refine va_callv (va_runIN (host := "ExtentShelf") (As := []) (rest := [.ref q7, .ref h0]) ⟨hx, hb, hml, hown, ht⟩ (xi_T l D dA q7 H.size) ⟨va_cnB 0 ht xig_T rfl rfl rfl (hN _ (xin_S_T)) (ht (.initialized "ExtentShelf$Table") (xim_S _ (List.mem_of_getElem? (i := 11) rfl))) (by decide +kernel) ⟨Nat.le_of_ble_eq_true rfl, Nat.le_of_ble_eq_true rfl⟩, rfl, (ht (.instanceMethod ⟨"ExtentShelf$Table", "<init>", "()V"⟩) (xim_S _ (List.mem_of_getElem? (i := 12) rfl)))⟩ ⟨fun a U g mk q => by obtain ⟨q0, q1, qP, qK, qD⟩ := q; exact ⟨q0, q1, qP, va_K.moved (u := U) (U := U.calling g mk a) (Vm.Alike.refl U.vm) qK, qD⟩, fun U hU hW => ⟨rfl, by rw [hU], by rw [hU]; exact hPc, va_K.moved hW.alike hK, hDc.weaken (fun _ _ _ _ => trivial)⟩⟩ rfl rfl hl.1 rfl (lv_room (Nat.le_of_ble_eq_true rfl)) xid_S_31 ⟨show 8 ≤ 9 by decide, show 647 ≤ 651 by decide⟩) hS (fun q _ h => hFc q h) hFc (fun u t H1 locs hT hvm h5 hB hz1 hk1 hS => ?_)
  obtain ⟨q8, hP1, hD1⟩ := hB
  rw [hT] at hP1
  obtain ⟨hP, hD⟩ := va_join (wr := [(h0, .inr (3, [.ref q1, .ref q5, .null, .null, .int 0, .int 0])), (q1, .inr (0, [.ref q2, .ref q3, .ref q4])), (q2, .inl (dA 0, 408, .inl (fun _ => 0))), (q3, .inl (dA 0, 128, .inl (fun _ => 0))), (q4, .inl (dA 1, 4, .inl (fun _ => 0))), (q5, .inr (2, [.ref q6])), (q6, .inl (dA 0, 51, .inl (fun _ => 0)))]) (w1 := [(q7, .inr (2, [.ref q8])), (q8, .inl (dA 0, 51, .inl (fun _ => 0)))]) hP hD [7] [0, 1, 2, 3, 4, 5, 6] rfl rfl (by decide) (by decide) hk1 hFc hP1 hD1
  generalize H1 = H at hP hS ⊢
  have hP : va_P D xp_cl [(h0, .inr (3, [.ref q1, .ref q5, .null, .null, .int 0, .int 0])), (q1, .inr (0, [.ref q2, .ref q3, .ref q4])), (q2, .inl (dA 0, 408, .inl (fun _ => 0))), (q3, .inl (dA 0, 128, .inl (fun _ => 0))), (q4, .inl (dA 1, 4, .inl (fun _ => 0))), (q5, .inr (2, [.ref q6])), (q6, .inl (dA 0, 51, .inl (fun _ => 0))), (q7, .inr (2, [.ref q8])), (q8, .inl (dA 0, 51, .inl (fun _ => 0)))] H := hP
  have hD : va_D A [(h0, .inr (3, [.ref q1, .ref q5, .null, .null, .int 0, .int 0])), (q1, .inr (0, [.ref q2, .ref q3, .ref q4])), (q2, .inl (dA 0, 408, .inl (fun _ => 0))), (q3, .inl (dA 0, 128, .inl (fun _ => 0))), (q4, .inl (dA 1, 4, .inl (fun _ => 0))), (q5, .inr (2, [.ref q6])), (q6, .inl (dA 0, 51, .inl (fun _ => 0))), (q7, .inr (2, [.ref q8])), (q8, .inl (dA 0, 51, .inl (fun _ => 0)))] := hD
  refine W.widen (k := 8) (n := 647) (by omega) (by omega) ?_
  refine va_putF (D := D) (ci := 3) (v := .ref q7) (ty := .object "ExtentShelf$Table") (C := "ExtentShelf") (T := xT_3) (N := 6) hx hb ht xu_3 xY_3 xy_3 xn_3 hown hK hP hD hS 0 rfl rfl 2 (by decide) (ht (.fieldLink "ExtentShelf" 23 "ExtentShelf" "draft" "LExtentShelf$Table;") (xim_S _ (List.mem_of_getElem? (i := 14) rfl))) (fun _ h9 => h9) rfl hin rfl (by decide +kernel) rfl rfl (Nat.le_of_ble_eq_true rfl) xid_S_34 (fun H locs hP hD hS => ?_)
  have hP : va_P D xp_cl [(h0, .inr (3, [.ref q1, .ref q5, .ref q7, .null, .int 0, .int 0])), (q1, .inr (0, [.ref q2, .ref q3, .ref q4])), (q2, .inl (dA 0, 408, .inl (fun _ => 0))), (q3, .inl (dA 0, 128, .inl (fun _ => 0))), (q4, .inl (dA 1, 4, .inl (fun _ => 0))), (q5, .inr (2, [.ref q6])), (q6, .inl (dA 0, 51, .inl (fun _ => 0))), (q7, .inr (2, [.ref q8])), (q8, .inl (dA 0, 51, .inl (fun _ => 0)))] H := hP
  have hD : va_D A [(h0, .inr (3, [.ref q1, .ref q5, .ref q7, .null, .int 0, .int 0])), (q1, .inr (0, [.ref q2, .ref q3, .ref q4])), (q2, .inl (dA 0, 408, .inl (fun _ => 0))), (q3, .inl (dA 0, 128, .inl (fun _ => 0))), (q4, .inl (dA 1, 4, .inl (fun _ => 0))), (q5, .inr (2, [.ref q6])), (q6, .inl (dA 0, 51, .inl (fun _ => 0))), (q7, .inr (2, [.ref q8])), (q8, .inl (dA 0, 51, .inl (fun _ => 0)))] := hD
  refine lv_aload_n hx hb xid_S_37 rfl (lv_at hl 0 rfl) ?_
  refine va_new (ci := 1) (fs := [.int 0, .int 0, .int 0, .int 0]) (C := "ExtentShelf$Move") (T := xT_1) (N := 4) hx hb ht xu_1 xY_1 xy_1 hown (ht (.classLink "ExtentShelf" 26 "ExtentShelf$Move") (xim_S _ (List.mem_of_getElem? (i := 15) rfl))) (ht (.instantiable "ExtentShelf$Move" 4) (xim_S _ (List.mem_of_getElem? (i := 16) rfl))) (ht (.initialized "ExtentShelf$Move") (xim_S _ (List.mem_of_getElem? (i := 17) rfl))) hK hP hD hS hA rfl (xi_d1) (show 9 ≤ 9 by decide) (show 651 ≤ 651 by decide) xid_S_38 (fun q9 H hP hD hS => ?_)
  have hP : va_P D xp_cl [(h0, .inr (3, [.ref q1, .ref q5, .ref q7, .null, .int 0, .int 0])), (q1, .inr (0, [.ref q2, .ref q3, .ref q4])), (q2, .inl (dA 0, 408, .inl (fun _ => 0))), (q3, .inl (dA 0, 128, .inl (fun _ => 0))), (q4, .inl (dA 1, 4, .inl (fun _ => 0))), (q5, .inr (2, [.ref q6])), (q6, .inl (dA 0, 51, .inl (fun _ => 0))), (q7, .inr (2, [.ref q8])), (q8, .inl (dA 0, 51, .inl (fun _ => 0))), (q9, .inr (1, [.int 0, .int 0, .int 0, .int 0]))] H := hP
  have hD : va_D A [(h0, .inr (3, [.ref q1, .ref q5, .ref q7, .null, .int 0, .int 0])), (q1, .inr (0, [.ref q2, .ref q3, .ref q4])), (q2, .inl (dA 0, 408, .inl (fun _ => 0))), (q3, .inl (dA 0, 128, .inl (fun _ => 0))), (q4, .inl (dA 1, 4, .inl (fun _ => 0))), (q5, .inr (2, [.ref q6])), (q6, .inl (dA 0, 51, .inl (fun _ => 0))), (q7, .inr (2, [.ref q8])), (q8, .inl (dA 0, 51, .inl (fun _ => 0))), (q9, .inr (1, [.int 0, .int 0, .int 0, .int 0]))] := hD
  refine W.widen (k := 9) (n := 651) (by omega) (by omega) ?_
  refine lv_dup hx hb xid_S_41 rfl ?_
  have hPc := hP.sub (ws' := [(q9, .inr (1, [.int 0, .int 0, .int 0, .int 0]))]) [9] rfl
  have hDc := hD.sub (ws' := [(q9, .inr (1, [.int 0, .int 0, .int 0, .int 0]))]) [9] (by decide) rfl
  have hFc := va_free (wc := [(q9, .inr (1, [.int 0, .int 0, .int 0, .int 0]))]) hD hS hA [9] rfl
  refine va_callv (va_runIN (host := "ExtentShelf") (As := []) (rest := [.ref q9, .ref h0]) ⟨hx, hb, hml, hown, ht⟩ (xi_V l D dA q9 H.size) ⟨va_cnB 0 ht xig_V rfl rfl rfl (hN _ (xin_S_V)) (ht (.initialized "ExtentShelf$Move") (xim_S _ (List.mem_of_getElem? (i := 17) rfl))) (by decide +kernel) ⟨Nat.le_of_ble_eq_true rfl, Nat.le_of_ble_eq_true rfl⟩, rfl, (ht (.instanceMethod ⟨"ExtentShelf$Move", "<init>", "()V"⟩) (xim_S _ (List.mem_of_getElem? (i := 18) rfl)))⟩ ⟨fun a U g mk q => by obtain ⟨q0, q1, qP, qK, qD⟩ := q; exact ⟨q0, q1, qP, va_K.moved (u := U) (U := U.calling g mk a) (Vm.Alike.refl U.vm) qK, qD⟩, fun U hU hW => ⟨rfl, by rw [hU], by rw [hU]; exact hPc, va_K.moved hW.alike hK, hDc.weaken (fun _ _ _ _ => trivial)⟩⟩ rfl rfl hl.1 rfl (lv_room (Nat.le_of_ble_eq_true rfl)) xid_S_42 ⟨show 9 ≤ 9 by decide, show 651 ≤ 651 by decide⟩) hS (fun q _ h => hFc q h) hFc (fun u t H1 locs hT hvm h5 hB hz1 hk1 hS => ?_)
  obtain ⟨hP1, hD1⟩ := hB
  rw [hT] at hP1
  obtain ⟨hP, hD⟩ := va_join (wr := [(h0, .inr (3, [.ref q1, .ref q5, .ref q7, .null, .int 0, .int 0])), (q1, .inr (0, [.ref q2, .ref q3, .ref q4])), (q2, .inl (dA 0, 408, .inl (fun _ => 0))), (q3, .inl (dA 0, 128, .inl (fun _ => 0))), (q4, .inl (dA 1, 4, .inl (fun _ => 0))), (q5, .inr (2, [.ref q6])), (q6, .inl (dA 0, 51, .inl (fun _ => 0))), (q7, .inr (2, [.ref q8])), (q8, .inl (dA 0, 51, .inl (fun _ => 0)))]) (w1 := [(q9, .inr (1, [.int (-1), .int (-1), .int (-1), .int 0]))]) hP hD [9] [0, 1, 2, 3, 4, 5, 6, 7, 8] rfl rfl (by decide) (by decide) hk1 hFc hP1 hD1
  generalize H1 = H at hP hS ⊢
  have hP : va_P D xp_cl [(h0, .inr (3, [.ref q1, .ref q5, .ref q7, .null, .int 0, .int 0])), (q1, .inr (0, [.ref q2, .ref q3, .ref q4])), (q2, .inl (dA 0, 408, .inl (fun _ => 0))), (q3, .inl (dA 0, 128, .inl (fun _ => 0))), (q4, .inl (dA 1, 4, .inl (fun _ => 0))), (q5, .inr (2, [.ref q6])), (q6, .inl (dA 0, 51, .inl (fun _ => 0))), (q7, .inr (2, [.ref q8])), (q8, .inl (dA 0, 51, .inl (fun _ => 0))), (q9, .inr (1, [.int (-1), .int (-1), .int (-1), .int 0]))] H := hP
  have hD : va_D A [(h0, .inr (3, [.ref q1, .ref q5, .ref q7, .null, .int 0, .int 0])), (q1, .inr (0, [.ref q2, .ref q3, .ref q4])), (q2, .inl (dA 0, 408, .inl (fun _ => 0))), (q3, .inl (dA 0, 128, .inl (fun _ => 0))), (q4, .inl (dA 1, 4, .inl (fun _ => 0))), (q5, .inr (2, [.ref q6])), (q6, .inl (dA 0, 51, .inl (fun _ => 0))), (q7, .inr (2, [.ref q8])), (q8, .inl (dA 0, 51, .inl (fun _ => 0))), (q9, .inr (1, [.int (-1), .int (-1), .int (-1), .int 0]))] := hD
  refine W.widen (k := 9) (n := 651) (by omega) (by omega) ?_
  refine va_putF (D := D) (ci := 3) (v := .ref q9) (ty := .object "ExtentShelf$Move") (C := "ExtentShelf") (T := xT_3) (N := 6) hx hb ht xu_3 xY_3 xy_3 xn_3 hown hK hP hD hS 0 rfl rfl 3 (by decide) (ht (.fieldLink "ExtentShelf" 29 "ExtentShelf" "move" "LExtentShelf$Move;") (xim_S _ (List.mem_of_getElem? (i := 19) rfl))) (fun _ h9 => h9) rfl hin rfl (by decide +kernel) rfl rfl (Nat.le_of_ble_eq_true rfl) xid_S_45 (fun H locs hP hD hS => ?_)
  have hP : va_P D xp_cl [(h0, .inr (3, [.ref q1, .ref q5, .ref q7, .ref q9, .int 0, .int 0])), (q1, .inr (0, [.ref q2, .ref q3, .ref q4])), (q2, .inl (dA 0, 408, .inl (fun _ => 0))), (q3, .inl (dA 0, 128, .inl (fun _ => 0))), (q4, .inl (dA 1, 4, .inl (fun _ => 0))), (q5, .inr (2, [.ref q6])), (q6, .inl (dA 0, 51, .inl (fun _ => 0))), (q7, .inr (2, [.ref q8])), (q8, .inl (dA 0, 51, .inl (fun _ => 0))), (q9, .inr (1, [.int (-1), .int (-1), .int (-1), .int 0]))] H := hP
  have hD : va_D A [(h0, .inr (3, [.ref q1, .ref q5, .ref q7, .ref q9, .int 0, .int 0])), (q1, .inr (0, [.ref q2, .ref q3, .ref q4])), (q2, .inl (dA 0, 408, .inl (fun _ => 0))), (q3, .inl (dA 0, 128, .inl (fun _ => 0))), (q4, .inl (dA 1, 4, .inl (fun _ => 0))), (q5, .inr (2, [.ref q6])), (q6, .inl (dA 0, 51, .inl (fun _ => 0))), (q7, .inr (2, [.ref q8])), (q8, .inl (dA 0, 51, .inl (fun _ => 0))), (q9, .inr (1, [.int (-1), .int (-1), .int (-1), .int 0]))] := hD
  refine lv_aload_n hx hb xid_S_48 rfl (lv_at hl 0 rfl) ?_
  refine lv_iconst (v := 1) hx hb xid_S_49 (by decide) ?_
  refine va_put (D := D) (ci := 3) (v := .int 1) (ty := .boolean) (C := "ExtentShelf") (T := xT_3) (N := 6) hx hb ht xu_3 xY_3 xy_3 xn_3 hown hK hP hD hS 0 rfl rfl 4 (by decide) (ht (.fieldLink "ExtentShelf" 33 "ExtentShelf" "powerOn" "Z") (xim_S _ (List.mem_of_getElem? (i := 20) rfl))) (fun _ h9 => h9) rfl (by decide +kernel) rfl rfl (Nat.le_of_ble_eq_true rfl) xid_S_50 (fun H locs hP hD hS => ?_)
  have hP : va_P D xp_cl [(h0, .inr (3, [.ref q1, .ref q5, .ref q7, .ref q9, .int 1, .int 0])), (q1, .inr (0, [.ref q2, .ref q3, .ref q4])), (q2, .inl (dA 0, 408, .inl (fun _ => 0))), (q3, .inl (dA 0, 128, .inl (fun _ => 0))), (q4, .inl (dA 1, 4, .inl (fun _ => 0))), (q5, .inr (2, [.ref q6])), (q6, .inl (dA 0, 51, .inl (fun _ => 0))), (q7, .inr (2, [.ref q8])), (q8, .inl (dA 0, 51, .inl (fun _ => 0))), (q9, .inr (1, [.int (-1), .int (-1), .int (-1), .int 0]))] H := hP
  have hD : va_D A [(h0, .inr (3, [.ref q1, .ref q5, .ref q7, .ref q9, .int 1, .int 0])), (q1, .inr (0, [.ref q2, .ref q3, .ref q4])), (q2, .inl (dA 0, 408, .inl (fun _ => 0))), (q3, .inl (dA 0, 128, .inl (fun _ => 0))), (q4, .inl (dA 1, 4, .inl (fun _ => 0))), (q5, .inr (2, [.ref q6])), (q6, .inl (dA 0, 51, .inl (fun _ => 0))), (q7, .inr (2, [.ref q8])), (q8, .inl (dA 0, 51, .inl (fun _ => 0))), (q9, .inr (1, [.int (-1), .int (-1), .int (-1), .int 0]))] := hD
  refine lv_aload_n hx hb xid_S_53 rfl (lv_at hl 0 rfl) ?_
  refine lv_iconst (v := (-1)) hx hb xid_S_54 (by decide) ?_
  refine va_put (D := D) (ci := 3) (v := .int (-1)) (ty := .int) (C := "ExtentShelf") (T := xT_3) (N := 6) hx hb ht xu_3 xY_3 xy_3 xn_3 hown hK hP hD hS 0 rfl rfl 5 (by decide) (ht (.fieldLink "ExtentShelf" 37 "ExtentShelf" "wordsBeforeCut" "I") (xim_S _ (List.mem_of_getElem? (i := 21) rfl))) (fun _ h9 => h9) rfl (by decide +kernel) rfl rfl (Nat.le_of_ble_eq_true rfl) xid_S_55 (fun H locs hP hD hS => ?_)
  have hP : va_P D xp_cl [(h0, .inr (3, [.ref q1, .ref q5, .ref q7, .ref q9, .int 1, .int (-1)])), (q1, .inr (0, [.ref q2, .ref q3, .ref q4])), (q2, .inl (dA 0, 408, .inl (fun _ => 0))), (q3, .inl (dA 0, 128, .inl (fun _ => 0))), (q4, .inl (dA 1, 4, .inl (fun _ => 0))), (q5, .inr (2, [.ref q6])), (q6, .inl (dA 0, 51, .inl (fun _ => 0))), (q7, .inr (2, [.ref q8])), (q8, .inl (dA 0, 51, .inl (fun _ => 0))), (q9, .inr (1, [.int (-1), .int (-1), .int (-1), .int 0]))] H := hP
  have hD : va_D A [(h0, .inr (3, [.ref q1, .ref q5, .ref q7, .ref q9, .int 1, .int (-1)])), (q1, .inr (0, [.ref q2, .ref q3, .ref q4])), (q2, .inl (dA 0, 408, .inl (fun _ => 0))), (q3, .inl (dA 0, 128, .inl (fun _ => 0))), (q4, .inl (dA 1, 4, .inl (fun _ => 0))), (q5, .inr (2, [.ref q6])), (q6, .inl (dA 0, 51, .inl (fun _ => 0))), (q7, .inr (2, [.ref q8])), (q8, .inl (dA 0, 51, .inl (fun _ => 0))), (q9, .inr (1, [.int (-1), .int (-1), .int (-1), .int 0]))] := hD
  exact W.vret hx hb hr (fun t hT hW => ⟨⟨(), rfl, trivial, q1, q2, q3, q4, q5, q6, q7, q8, q9, by rw [hT]; exact hP, hD⟩, hS.F hT⟩) hS.2.2 xid_S_58
theorem xid_M_0 : decode prog_6_method_1_code 0 = .ok (.aload_n 0, 1) := by decide +kernel
theorem xid_M_1 : decode prog_6_method_1_code 1 = .ok (.invokespecial 1, 3) := by decide +kernel
theorem xid_M_4 : decode prog_6_method_1_code 4 = .ok (.aload_n 0, 1) := by decide +kernel
theorem xid_M_5 : decode prog_6_method_1_code 5 = .ok (.iconst 4, 1) := by decide +kernel
theorem xid_M_6 : decode prog_6_method_1_code 6 = .ok (.newarray .boolean, 2) := by decide +kernel
theorem xid_M_8 : decode prog_6_method_1_code 8 = .ok (.dup, 1) := by decide +kernel
theorem xid_M_9 : decode prog_6_method_1_code 9 = .ok (.iconst 0, 1) := by decide +kernel
theorem xid_M_10 : decode prog_6_method_1_code 10 = .ok (.iconst 1, 1) := by decide +kernel
theorem xid_M_11 : decode prog_6_method_1_code 11 = .ok (.bastore, 1) := by decide +kernel
theorem xid_M_12 : decode prog_6_method_1_code 12 = .ok (.dup, 1) := by decide +kernel
theorem xid_M_13 : decode prog_6_method_1_code 13 = .ok (.iconst 1, 1) := by decide +kernel
theorem xid_M_14 : decode prog_6_method_1_code 14 = .ok (.iconst 1, 1) := by decide +kernel
theorem xid_M_15 : decode prog_6_method_1_code 15 = .ok (.bastore, 1) := by decide +kernel
theorem xid_M_16 : decode prog_6_method_1_code 16 = .ok (.dup, 1) := by decide +kernel
theorem xid_M_17 : decode prog_6_method_1_code 17 = .ok (.iconst 2, 1) := by decide +kernel
theorem xid_M_18 : decode prog_6_method_1_code 18 = .ok (.iconst 1, 1) := by decide +kernel
theorem xid_M_19 : decode prog_6_method_1_code 19 = .ok (.bastore, 1) := by decide +kernel
theorem xid_M_20 : decode prog_6_method_1_code 20 = .ok (.dup, 1) := by decide +kernel
theorem xid_M_21 : decode prog_6_method_1_code 21 = .ok (.iconst 3, 1) := by decide +kernel
theorem xid_M_22 : decode prog_6_method_1_code 22 = .ok (.iconst 1, 1) := by decide +kernel
theorem xid_M_23 : decode prog_6_method_1_code 23 = .ok (.bastore, 1) := by decide +kernel
theorem xid_M_24 : decode prog_6_method_1_code 24 = .ok (.putfield 7, 3) := by decide +kernel
theorem xid_M_27 : decode prog_6_method_1_code 27 = .ok (.aload_n 0, 1) := by decide +kernel
theorem xid_M_28 : decode prog_6_method_1_code 28 = .ok (.sipush 408, 3) := by decide +kernel
theorem xid_M_31 : decode prog_6_method_1_code 31 = .ok (.newarray .int, 2) := by decide +kernel
theorem xid_M_33 : decode prog_6_method_1_code 33 = .ok (.putfield 13, 3) := by decide +kernel
theorem xid_M_36 : decode prog_6_method_1_code 36 = .ok (.aload_n 0, 1) := by decide +kernel
theorem xid_M_37 : decode prog_6_method_1_code 37 = .ok (.sipush 128, 3) := by decide +kernel
theorem xid_M_40 : decode prog_6_method_1_code 40 = .ok (.newarray .int, 2) := by decide +kernel
theorem xid_M_42 : decode prog_6_method_1_code 42 = .ok (.putfield 17, 3) := by decide +kernel
theorem xid_M_45 : decode prog_6_method_1_code 45 = .ok (.aload_n 0, 1) := by decide +kernel
theorem xid_M_46 : decode prog_6_method_1_code 46 = .ok (.iconst 1, 1) := by decide +kernel
theorem xid_M_47 : decode prog_6_method_1_code 47 = .ok (.putfield 20, 3) := by decide +kernel
theorem xid_M_50 : decode prog_6_method_1_code 50 = .ok (.aload_n 0, 1) := by decide +kernel
theorem xid_M_51 : decode prog_6_method_1_code 51 = .ok (.iconst (-1), 1) := by decide +kernel
theorem xid_M_52 : decode prog_6_method_1_code 52 = .ok (.putfield 24, 3) := by decide +kernel
theorem xid_M_55 : decode prog_6_method_1_code 55 = .ok (.aload_n 0, 1) := by decide +kernel
theorem xid_M_56 : decode prog_6_method_1_code 56 = .ok (.bipush 51, 2) := by decide +kernel
theorem xid_M_58 : decode prog_6_method_1_code 58 = .ok (.newarray .int, 2) := by decide +kernel
theorem xid_M_60 : decode prog_6_method_1_code 60 = .ok (.putfield 28, 3) := by decide +kernel
theorem xid_M_63 : decode prog_6_method_1_code 63 = .ok (.aload_n 0, 1) := by decide +kernel
theorem xid_M_64 : decode prog_6_method_1_code 64 = .ok (.bipush 51, 2) := by decide +kernel
theorem xid_M_66 : decode prog_6_method_1_code 66 = .ok (.newarray .int, 2) := by decide +kernel
theorem xid_M_68 : decode prog_6_method_1_code 68 = .ok (.putfield 31, 3) := by decide +kernel
theorem xid_M_71 : decode prog_6_method_1_code 71 = .ok (.aload_n 0, 1) := by decide +kernel
theorem xid_M_72 : decode prog_6_method_1_code 72 = .ok (.iconst (-1), 1) := by decide +kernel
theorem xid_M_73 : decode prog_6_method_1_code 73 = .ok (.putfield 34, 3) := by decide +kernel
theorem xid_M_76 : decode prog_6_method_1_code 76 = .ok (.return_, 1) := by decide +kernel
def xiy_M : MethodName := ⟨"ExtentShelfModel", "<init>", "()V"⟩
def xiw_M : List Cond := .code xiy_M prog_6_method_1_code 1 none :: xp_BW
theorem xim_M : ∀ q ∈ ([.code ⟨"ExtentShelfModel", "<init>", "()V"⟩ prog_6_method_1_code 1 none, .methodLink "ExtentShelfModel" 1 objectInit, .instanceMethod objectInit, .code objectInit ⟨#[0xb1]⟩ 1 none, .arrayClass .boolean, .fieldLink "ExtentShelfModel" 7 "ExtentShelfModel" "present" "[Z", .arrayClass .int, .fieldLink "ExtentShelfModel" 13 "ExtentShelfModel" "slots" "[I", .fieldLink "ExtentShelfModel" 17 "ExtentShelfModel" "data" "[I", .fieldLink "ExtentShelfModel" 20 "ExtentShelfModel" "on" "Z", .fieldLink "ExtentShelfModel" 24 "ExtentShelfModel" "left" "I", .fieldLink "ExtentShelfModel" 28 "ExtentShelfModel" "table" "[I", .fieldLink "ExtentShelfModel" 31 "ExtentShelfModel" "next" "[I", .fieldLink "ExtentShelfModel" 34 "ExtentShelfModel" "moved" "I"] : List Cond), q ∈ xp_BW := xp_inB _ (by decide +kernel)
theorem xig_M : GoodIn xp_BW xiw_M := fun w hw => by
  have h : w ∈ xp_BW := (List.mem_cons.mp hw).elim (fun h => by rw [h]; exact xim_M _ (List.mem_of_getElem? (i := 0) rfl)) (fun h => h)
  exact ⟨h, good_of_word (List.mem_filter.mp h).2⟩
set_option maxHeartbeats 4000000 in
set_option maxRecDepth 100000 in
theorem xi_M (l : Launch) (D : va_G) (dA : Nat → ClassId) (h0 sz : Nat) : Met l xiy_M xiw_M ({ frames := 1, cells := 5, slots := 642, locals := 12 }) (va_Pc [.ref h0] (fun U => U.heap.size = sz ∧ va_P D xp_cl [(h0, .inr (4, [.int 0, .null, .null, .null, .int 0, .int 0, .null, .null, .int 0, .int 0, .int 0, .int 0, .int 0]))] U.heap ∧ va_K D xp_cl (xk_t dA) U ∧ va_D (fun _ => True) [(h0, .inr (4, [.int 0, .null, .null, .null, .int 0, .int 0, .null, .null, .int 0, .int 0, .int 0, .int 0, .int 0]))])) (va_Qv (fun _ : Unit => True) (fun _ t => ∃ (q1 q2 q3 q4 q5 : Nat), va_P D xp_cl [(h0, .inr (4, [.int 0, .ref q1, .ref q2, .ref q3, .int 1, .int (-1), .ref q4, .ref q5, .int (-1), .int 0, .int 0, .int 0, .int 0])), (q1, .inl (dA 1, 4, .inl (fun _ => 1))), (q2, .inl (dA 0, 408, .inl (fun _ => 0))), (q3, .inl (dA 0, 128, .inl (fun _ => 0))), (q4, .inl (dA 0, 51, .inl (fun _ => 0))), (q5, .inl (dA 0, 51, .inl (fun _ => 0)))] t.heap ∧ va_D (va_A [(h0, .inr (4, [.int 0, .null, .null, .null, .int 0, .int 0, .null, .null, .int 0, .int 0, .int 0, .int 0, .int 0]))] sz) [(h0, .inr (4, [.int 0, .ref q1, .ref q2, .ref q3, .int 1, .int (-1), .ref q4, .ref q5, .int (-1), .int 0, .int 0, .int 0, .int 0])), (q1, .inl (dA 1, 4, .inl (fun _ => 1))), (q2, .inl (dA 0, 408, .inl (fun _ => 0))), (q3, .inl (dA 0, 128, .inl (fun _ => 0))), (q4, .inl (dA 0, 51, .inl (fun _ => 0))), (q5, .inl (dA 0, 51, .inl (fun _ => 0)))]) (va_A [(h0, .inr (4, [.int 0, .null, .null, .null, .int 0, .int 0, .null, .null, .int 0, .int 0, .int 0, .int 0, .int 0]))] sz)) 5 642 (va_A [(h0, .inr (4, [.int 0, .null, .null, .null, .int 0, .int 0, .null, .null, .int 0, .int 0, .int 0, .int 0, .int 0]))] sz) := by
  refine Met.ofW (cc := prog_6_method_1_code) (maxL := 1) (ret := none) (by decide) rfl ?_
  intro p e s m args below meth c s₁ B hml hv
  obtain ⟨rfl, hsz, hP, hK, hD0⟩ := hv
  have hx := B.exec
  have hb := B.bytes
  have hr := B.returns
  have hts := atoms_spec (ws := xiw_M) B.pre
  have ht : ∀ q ∈ xp_BW, q.before #[Value.ref h0] s = true := fun q hq => hts q (List.mem_cons_of_mem _ hq)
  have hown : s.vm.findClass "ExtentShelfModel" = some m.cls := findClass_of_methodNamed B.named
  have hlocks := B.notSynchronized
  have hin : meth.name = "<init>" := (name_of_methodNamed B.named B.method).1
  subst hsz
  have hD := hD0.self (sz := s.heap.size)
  generalize hAe : va_A [(h0, .inr (4, [.int 0, .null, .null, .null, .int 0, .int 0, .null, .null, .int 0, .int 0, .int 0, .int 0, .int 0]))] s.heap.size = A at hD ⊢
  have hA : ∀ q : Nat, s.heap.size ≤ q → A q := fun q h => by rw [← hAe]; exact Or.inr h
  have hS : va_S A s.heap s.heap [] := va_S.rf
  have hP : va_P D xp_cl [(h0, .inr (4, [.int 0, .null, .null, .null, .int 0, .int 0, .null, .null, .int 0, .int 0, .int 0, .int 0, .int 0]))] s.heap := hP
  have hl := lv_entry ([.ref h0]) (n := 1) (Nat.le_of_ble_eq_true rfl)
  rw [lg_entry_eq]
  generalize (lg_sl ([.ref h0]) ++ List.replicate (1 - (lg_sl ([.ref h0])).length) Slot.unset).toArray = ls at hl ⊢
  have hl : lv_has ls 1 [(0, .ref h0)] := hl
  refine lv_aload_n hx hb xid_M_0 rfl (lv_at hl 0 rfl) ?_
  refine W.objInit hx hb hown (ht (.methodLink "ExtentShelfModel" 1 objectInit) (xim_M _ (List.mem_of_getElem? (i := 1) rfl))) (ht (.instanceMethod objectInit) (xim_M _ (List.mem_of_getElem? (i := 2) rfl))) (ht (.code objectInit ⟨#[0xb1]⟩ 1 none) (xim_M _ (List.mem_of_getElem? (i := 3) rfl))) rfl (by rw [hml]; exact hl.1) rfl xid_M_1 (Nat.le_of_ble_eq_true rfl) (Nat.le_of_ble_eq_true rfl) ?_
  refine W.eq (g2 := F0 m 4 ls []) rfl ?_
  refine lv_aload_n hx hb xid_M_4 rfl (lv_at hl 0 rfl) ?_
  refine lv_iconst (v := 4) hx hb xid_M_5 (by decide) ?_
  refine va_newa (atype := .boolean) (ty := .boolean) (a0 := (4, .inl (fun _ => 0))) (N' := 4) hx hb (ht (.arrayClass .boolean) (xim_M _ (List.mem_of_getElem? (i := 4) rfl))) rfl hK hP hD hS hA (fun _ => rfl) (by decide) (by decide) (by decide) (show 1 ≤ 5 by decide) (show 4 ≤ 642 by decide) xid_M_6 (fun q1 cA H hK1 hP hD hS => ?_)
  obtain rfl : cA = dA 1 := xi_boolean hK1
  have hP : va_P D xp_cl [(h0, .inr (4, [.int 0, .null, .null, .null, .int 0, .int 0, .null, .null, .int 0, .int 0, .int 0, .int 0, .int 0])), (q1, .inl (dA 1, 4, .inl (fun _ => 0)))] H := hP
  have hD : va_D A [(h0, .inr (4, [.int 0, .null, .null, .null, .int 0, .int 0, .null, .null, .int 0, .int 0, .int 0, .int 0, .int 0])), (q1, .inl (dA 1, 4, .inl (fun _ => 0)))] := hD
  refine W.widen (k := 1) (n := 4) (by omega) (by omega) ?_
  refine lv_dup hx hb xid_M_8 rfl ?_
  refine lv_iconst (v := 0) hx hb xid_M_9 (by decide) ?_
  refine lv_iconst (v := 1) hx hb xid_M_10 (by decide) ?_
  refine va_zast (D := D) hx hb hK hP hD hS 1 1 rfl rfl (i := 0) (x := 1) (by unfold vp_in; decide) xid_M_11 (fun H locs hP hD hS => ?_)
  have hP : va_P D xp_cl [(h0, .inr (4, [.int 0, .null, .null, .null, .int 0, .int 0, .null, .null, .int 0, .int 0, .int 0, .int 0, .int 0])), (q1, .inl (dA 1, 4, .inl (upd (fun _ => 0) 0 1)))] H := hP
  have hD : va_D A [(h0, .inr (4, [.int 0, .null, .null, .null, .int 0, .int 0, .null, .null, .int 0, .int 0, .int 0, .int 0, .int 0])), (q1, .inl (dA 1, 4, .inl (upd (fun _ => 0) 0 1)))] := hD
  refine lv_dup hx hb xid_M_12 rfl ?_
  refine lv_iconst (v := 1) hx hb xid_M_13 (by decide) ?_
  refine lv_iconst (v := 1) hx hb xid_M_14 (by decide) ?_
  refine va_zast (D := D) hx hb hK hP hD hS 1 1 rfl rfl (i := 1) (x := 1) (by unfold vp_in; decide) xid_M_15 (fun H locs hP hD hS => ?_)
  have hP : va_P D xp_cl [(h0, .inr (4, [.int 0, .null, .null, .null, .int 0, .int 0, .null, .null, .int 0, .int 0, .int 0, .int 0, .int 0])), (q1, .inl (dA 1, 4, .inl (upd (upd (fun _ => 0) 0 1) 1 1)))] H := hP
  have hD : va_D A [(h0, .inr (4, [.int 0, .null, .null, .null, .int 0, .int 0, .null, .null, .int 0, .int 0, .int 0, .int 0, .int 0])), (q1, .inl (dA 1, 4, .inl (upd (upd (fun _ => 0) 0 1) 1 1)))] := hD
  refine lv_dup hx hb xid_M_16 rfl ?_
  refine lv_iconst (v := 2) hx hb xid_M_17 (by decide) ?_
  refine lv_iconst (v := 1) hx hb xid_M_18 (by decide) ?_
  refine va_zast (D := D) hx hb hK hP hD hS 1 1 rfl rfl (i := 2) (x := 1) (by unfold vp_in; decide) xid_M_19 (fun H locs hP hD hS => ?_)
  have hP : va_P D xp_cl [(h0, .inr (4, [.int 0, .null, .null, .null, .int 0, .int 0, .null, .null, .int 0, .int 0, .int 0, .int 0, .int 0])), (q1, .inl (dA 1, 4, .inl (upd (upd (upd (fun _ => 0) 0 1) 1 1) 2 1)))] H := hP
  have hD : va_D A [(h0, .inr (4, [.int 0, .null, .null, .null, .int 0, .int 0, .null, .null, .int 0, .int 0, .int 0, .int 0, .int 0])), (q1, .inl (dA 1, 4, .inl (upd (upd (upd (fun _ => 0) 0 1) 1 1) 2 1)))] := hD
  refine lv_dup hx hb xid_M_20 rfl ?_
  refine lv_iconst (v := 3) hx hb xid_M_21 (by decide) ?_
  refine lv_iconst (v := 1) hx hb xid_M_22 (by decide) ?_
  refine va_zast (D := D) hx hb hK hP hD hS 1 1 rfl rfl (i := 3) (x := 1) (by unfold vp_in; decide) xid_M_23 (fun H locs hP hD hS => ?_)
  have hP : va_P D xp_cl [(h0, .inr (4, [.int 0, .null, .null, .null, .int 0, .int 0, .null, .null, .int 0, .int 0, .int 0, .int 0, .int 0])), (q1, .inl (dA 1, 4, .inl (upd (upd (upd (upd (fun _ => 0) 0 1) 1 1) 2 1) 3 1)))] H := hP
  have hD : va_D A [(h0, .inr (4, [.int 0, .null, .null, .null, .int 0, .int 0, .null, .null, .int 0, .int 0, .int 0, .int 0, .int 0])), (q1, .inl (dA 1, 4, .inl (upd (upd (upd (upd (fun _ => 0) 0 1) 1 1) 2 1) 3 1)))] := hD
  have hP : va_P D xp_cl [(h0, .inr (4, [.int 0, .null, .null, .null, .int 0, .int 0, .null, .null, .int 0, .int 0, .int 0, .int 0, .int 0])), (q1, .inl (dA 1, 4, .inl (fun _ => 1)))] H := xi_ones hP
  have hD : va_D A [(h0, .inr (4, [.int 0, .null, .null, .null, .int 0, .int 0, .null, .null, .int 0, .int 0, .int 0, .int 0, .int 0])), (q1, .inl (dA 1, 4, .inl (fun _ => 1)))] := xi_onesD hD
  refine va_putF (D := D) (ci := 4) (v := .ref q1) (ty := .array .boolean) (C := "ExtentShelfModel") (T := xT_4) (N := 13) hx hb ht xu_4 xY_4 xy_4 xn_4 hown hK hP hD hS 0 rfl rfl 1 (by decide) (ht (.fieldLink "ExtentShelfModel" 7 "ExtentShelfModel" "present" "[Z") (xim_M _ (List.mem_of_getElem? (i := 5) rfl))) (fun _ h9 => h9) rfl hin rfl (by decide +kernel) rfl rfl (Nat.le_of_ble_eq_true rfl) xid_M_24 (fun H locs hP hD hS => ?_)
  have hP : va_P D xp_cl [(h0, .inr (4, [.int 0, .ref q1, .null, .null, .int 0, .int 0, .null, .null, .int 0, .int 0, .int 0, .int 0, .int 0])), (q1, .inl (dA 1, 4, .inl (fun _ => 1)))] H := hP
  have hD : va_D A [(h0, .inr (4, [.int 0, .ref q1, .null, .null, .int 0, .int 0, .null, .null, .int 0, .int 0, .int 0, .int 0, .int 0])), (q1, .inl (dA 1, 4, .inl (fun _ => 1)))] := hD
  refine lv_aload_n hx hb xid_M_27 rfl (lv_at hl 0 rfl) ?_
  refine lv_sipush (v := 408) hx hb xid_M_28 (by decide) ?_
  refine va_newa (atype := .int) (ty := .int) (a0 := (408, .inl (fun _ => 0))) (N' := 408) hx hb (ht (.arrayClass .int) (xim_M _ (List.mem_of_getElem? (i := 6) rfl))) rfl hK hP hD hS hA (fun _ => rfl) (by decide) (by decide) (by decide) (show 2 ≤ 5 by decide) (show 412 ≤ 642 by decide) xid_M_31 (fun q2 cA H hK1 hP hD hS => ?_)
  obtain rfl : cA = dA 0 := xi_int hK1
  have hP : va_P D xp_cl [(h0, .inr (4, [.int 0, .ref q1, .null, .null, .int 0, .int 0, .null, .null, .int 0, .int 0, .int 0, .int 0, .int 0])), (q1, .inl (dA 1, 4, .inl (fun _ => 1))), (q2, .inl (dA 0, 408, .inl (fun _ => 0)))] H := hP
  have hD : va_D A [(h0, .inr (4, [.int 0, .ref q1, .null, .null, .int 0, .int 0, .null, .null, .int 0, .int 0, .int 0, .int 0, .int 0])), (q1, .inl (dA 1, 4, .inl (fun _ => 1))), (q2, .inl (dA 0, 408, .inl (fun _ => 0)))] := hD
  refine W.widen (k := 2) (n := 412) (by omega) (by omega) ?_
  refine va_putF (D := D) (ci := 4) (v := .ref q2) (ty := .array .int) (C := "ExtentShelfModel") (T := xT_4) (N := 13) hx hb ht xu_4 xY_4 xy_4 xn_4 hown hK hP hD hS 0 rfl rfl 2 (by decide) (ht (.fieldLink "ExtentShelfModel" 13 "ExtentShelfModel" "slots" "[I") (xim_M _ (List.mem_of_getElem? (i := 7) rfl))) (fun _ h9 => h9) rfl hin rfl (by decide +kernel) rfl rfl (Nat.le_of_ble_eq_true rfl) xid_M_33 (fun H locs hP hD hS => ?_)
  have hP : va_P D xp_cl [(h0, .inr (4, [.int 0, .ref q1, .ref q2, .null, .int 0, .int 0, .null, .null, .int 0, .int 0, .int 0, .int 0, .int 0])), (q1, .inl (dA 1, 4, .inl (fun _ => 1))), (q2, .inl (dA 0, 408, .inl (fun _ => 0)))] H := hP
  have hD : va_D A [(h0, .inr (4, [.int 0, .ref q1, .ref q2, .null, .int 0, .int 0, .null, .null, .int 0, .int 0, .int 0, .int 0, .int 0])), (q1, .inl (dA 1, 4, .inl (fun _ => 1))), (q2, .inl (dA 0, 408, .inl (fun _ => 0)))] := hD
  refine lv_aload_n hx hb xid_M_36 rfl (lv_at hl 0 rfl) ?_
  refine lv_sipush (v := 128) hx hb xid_M_37 (by decide) ?_
  refine va_newa (atype := .int) (ty := .int) (a0 := (128, .inl (fun _ => 0))) (N' := 128) hx hb (ht (.arrayClass .int) (xim_M _ (List.mem_of_getElem? (i := 6) rfl))) rfl hK hP hD hS hA (fun _ => rfl) (by decide) (by decide) (by decide) (show 3 ≤ 5 by decide) (show 540 ≤ 642 by decide) xid_M_40 (fun q3 cA H hK1 hP hD hS => ?_)
  obtain rfl : cA = dA 0 := xi_int hK1
  have hP : va_P D xp_cl [(h0, .inr (4, [.int 0, .ref q1, .ref q2, .null, .int 0, .int 0, .null, .null, .int 0, .int 0, .int 0, .int 0, .int 0])), (q1, .inl (dA 1, 4, .inl (fun _ => 1))), (q2, .inl (dA 0, 408, .inl (fun _ => 0))), (q3, .inl (dA 0, 128, .inl (fun _ => 0)))] H := hP
  have hD : va_D A [(h0, .inr (4, [.int 0, .ref q1, .ref q2, .null, .int 0, .int 0, .null, .null, .int 0, .int 0, .int 0, .int 0, .int 0])), (q1, .inl (dA 1, 4, .inl (fun _ => 1))), (q2, .inl (dA 0, 408, .inl (fun _ => 0))), (q3, .inl (dA 0, 128, .inl (fun _ => 0)))] := hD
  refine W.widen (k := 3) (n := 540) (by omega) (by omega) ?_
  refine va_putF (D := D) (ci := 4) (v := .ref q3) (ty := .array .int) (C := "ExtentShelfModel") (T := xT_4) (N := 13) hx hb ht xu_4 xY_4 xy_4 xn_4 hown hK hP hD hS 0 rfl rfl 3 (by decide) (ht (.fieldLink "ExtentShelfModel" 17 "ExtentShelfModel" "data" "[I") (xim_M _ (List.mem_of_getElem? (i := 8) rfl))) (fun _ h9 => h9) rfl hin rfl (by decide +kernel) rfl rfl (Nat.le_of_ble_eq_true rfl) xid_M_42 (fun H locs hP hD hS => ?_)
  have hP : va_P D xp_cl [(h0, .inr (4, [.int 0, .ref q1, .ref q2, .ref q3, .int 0, .int 0, .null, .null, .int 0, .int 0, .int 0, .int 0, .int 0])), (q1, .inl (dA 1, 4, .inl (fun _ => 1))), (q2, .inl (dA 0, 408, .inl (fun _ => 0))), (q3, .inl (dA 0, 128, .inl (fun _ => 0)))] H := hP
  have hD : va_D A [(h0, .inr (4, [.int 0, .ref q1, .ref q2, .ref q3, .int 0, .int 0, .null, .null, .int 0, .int 0, .int 0, .int 0, .int 0])), (q1, .inl (dA 1, 4, .inl (fun _ => 1))), (q2, .inl (dA 0, 408, .inl (fun _ => 0))), (q3, .inl (dA 0, 128, .inl (fun _ => 0)))] := hD
  refine lv_aload_n hx hb xid_M_45 rfl (lv_at hl 0 rfl) ?_
  refine lv_iconst (v := 1) hx hb xid_M_46 (by decide) ?_
  refine va_put (D := D) (ci := 4) (v := .int 1) (ty := .boolean) (C := "ExtentShelfModel") (T := xT_4) (N := 13) hx hb ht xu_4 xY_4 xy_4 xn_4 hown hK hP hD hS 0 rfl rfl 4 (by decide) (ht (.fieldLink "ExtentShelfModel" 20 "ExtentShelfModel" "on" "Z") (xim_M _ (List.mem_of_getElem? (i := 9) rfl))) (fun _ h9 => h9) rfl (by decide +kernel) rfl rfl (Nat.le_of_ble_eq_true rfl) xid_M_47 (fun H locs hP hD hS => ?_)
  have hP : va_P D xp_cl [(h0, .inr (4, [.int 0, .ref q1, .ref q2, .ref q3, .int 1, .int 0, .null, .null, .int 0, .int 0, .int 0, .int 0, .int 0])), (q1, .inl (dA 1, 4, .inl (fun _ => 1))), (q2, .inl (dA 0, 408, .inl (fun _ => 0))), (q3, .inl (dA 0, 128, .inl (fun _ => 0)))] H := hP
  have hD : va_D A [(h0, .inr (4, [.int 0, .ref q1, .ref q2, .ref q3, .int 1, .int 0, .null, .null, .int 0, .int 0, .int 0, .int 0, .int 0])), (q1, .inl (dA 1, 4, .inl (fun _ => 1))), (q2, .inl (dA 0, 408, .inl (fun _ => 0))), (q3, .inl (dA 0, 128, .inl (fun _ => 0)))] := hD
  refine lv_aload_n hx hb xid_M_50 rfl (lv_at hl 0 rfl) ?_
  refine lv_iconst (v := (-1)) hx hb xid_M_51 (by decide) ?_
  refine va_put (D := D) (ci := 4) (v := .int (-1)) (ty := .int) (C := "ExtentShelfModel") (T := xT_4) (N := 13) hx hb ht xu_4 xY_4 xy_4 xn_4 hown hK hP hD hS 0 rfl rfl 5 (by decide) (ht (.fieldLink "ExtentShelfModel" 24 "ExtentShelfModel" "left" "I") (xim_M _ (List.mem_of_getElem? (i := 10) rfl))) (fun _ h9 => h9) rfl (by decide +kernel) rfl rfl (Nat.le_of_ble_eq_true rfl) xid_M_52 (fun H locs hP hD hS => ?_)
  have hP : va_P D xp_cl [(h0, .inr (4, [.int 0, .ref q1, .ref q2, .ref q3, .int 1, .int (-1), .null, .null, .int 0, .int 0, .int 0, .int 0, .int 0])), (q1, .inl (dA 1, 4, .inl (fun _ => 1))), (q2, .inl (dA 0, 408, .inl (fun _ => 0))), (q3, .inl (dA 0, 128, .inl (fun _ => 0)))] H := hP
  have hD : va_D A [(h0, .inr (4, [.int 0, .ref q1, .ref q2, .ref q3, .int 1, .int (-1), .null, .null, .int 0, .int 0, .int 0, .int 0, .int 0])), (q1, .inl (dA 1, 4, .inl (fun _ => 1))), (q2, .inl (dA 0, 408, .inl (fun _ => 0))), (q3, .inl (dA 0, 128, .inl (fun _ => 0)))] := hD
  refine lv_aload_n hx hb xid_M_55 rfl (lv_at hl 0 rfl) ?_
  refine lv_bipush (v := 51) hx hb xid_M_56 (by decide) ?_
  refine va_newa (atype := .int) (ty := .int) (a0 := (51, .inl (fun _ => 0))) (N' := 51) hx hb (ht (.arrayClass .int) (xim_M _ (List.mem_of_getElem? (i := 6) rfl))) rfl hK hP hD hS hA (fun _ => rfl) (by decide) (by decide) (by decide) (show 4 ≤ 5 by decide) (show 591 ≤ 642 by decide) xid_M_58 (fun q4 cA H hK1 hP hD hS => ?_)
  obtain rfl : cA = dA 0 := xi_int hK1
  have hP : va_P D xp_cl [(h0, .inr (4, [.int 0, .ref q1, .ref q2, .ref q3, .int 1, .int (-1), .null, .null, .int 0, .int 0, .int 0, .int 0, .int 0])), (q1, .inl (dA 1, 4, .inl (fun _ => 1))), (q2, .inl (dA 0, 408, .inl (fun _ => 0))), (q3, .inl (dA 0, 128, .inl (fun _ => 0))), (q4, .inl (dA 0, 51, .inl (fun _ => 0)))] H := hP
  have hD : va_D A [(h0, .inr (4, [.int 0, .ref q1, .ref q2, .ref q3, .int 1, .int (-1), .null, .null, .int 0, .int 0, .int 0, .int 0, .int 0])), (q1, .inl (dA 1, 4, .inl (fun _ => 1))), (q2, .inl (dA 0, 408, .inl (fun _ => 0))), (q3, .inl (dA 0, 128, .inl (fun _ => 0))), (q4, .inl (dA 0, 51, .inl (fun _ => 0)))] := hD
  refine W.widen (k := 4) (n := 591) (by omega) (by omega) ?_
  refine va_putF (D := D) (ci := 4) (v := .ref q4) (ty := .array .int) (C := "ExtentShelfModel") (T := xT_4) (N := 13) hx hb ht xu_4 xY_4 xy_4 xn_4 hown hK hP hD hS 0 rfl rfl 6 (by decide) (ht (.fieldLink "ExtentShelfModel" 28 "ExtentShelfModel" "table" "[I") (xim_M _ (List.mem_of_getElem? (i := 11) rfl))) (fun _ h9 => h9) rfl hin rfl (by decide +kernel) rfl rfl (Nat.le_of_ble_eq_true rfl) xid_M_60 (fun H locs hP hD hS => ?_)
  have hP : va_P D xp_cl [(h0, .inr (4, [.int 0, .ref q1, .ref q2, .ref q3, .int 1, .int (-1), .ref q4, .null, .int 0, .int 0, .int 0, .int 0, .int 0])), (q1, .inl (dA 1, 4, .inl (fun _ => 1))), (q2, .inl (dA 0, 408, .inl (fun _ => 0))), (q3, .inl (dA 0, 128, .inl (fun _ => 0))), (q4, .inl (dA 0, 51, .inl (fun _ => 0)))] H := hP
  have hD : va_D A [(h0, .inr (4, [.int 0, .ref q1, .ref q2, .ref q3, .int 1, .int (-1), .ref q4, .null, .int 0, .int 0, .int 0, .int 0, .int 0])), (q1, .inl (dA 1, 4, .inl (fun _ => 1))), (q2, .inl (dA 0, 408, .inl (fun _ => 0))), (q3, .inl (dA 0, 128, .inl (fun _ => 0))), (q4, .inl (dA 0, 51, .inl (fun _ => 0)))] := hD
  refine lv_aload_n hx hb xid_M_63 rfl (lv_at hl 0 rfl) ?_
  refine lv_bipush (v := 51) hx hb xid_M_64 (by decide) ?_
  refine va_newa (atype := .int) (ty := .int) (a0 := (51, .inl (fun _ => 0))) (N' := 51) hx hb (ht (.arrayClass .int) (xim_M _ (List.mem_of_getElem? (i := 6) rfl))) rfl hK hP hD hS hA (fun _ => rfl) (by decide) (by decide) (by decide) (show 5 ≤ 5 by decide) (show 642 ≤ 642 by decide) xid_M_66 (fun q5 cA H hK1 hP hD hS => ?_)
  obtain rfl : cA = dA 0 := xi_int hK1
  have hP : va_P D xp_cl [(h0, .inr (4, [.int 0, .ref q1, .ref q2, .ref q3, .int 1, .int (-1), .ref q4, .null, .int 0, .int 0, .int 0, .int 0, .int 0])), (q1, .inl (dA 1, 4, .inl (fun _ => 1))), (q2, .inl (dA 0, 408, .inl (fun _ => 0))), (q3, .inl (dA 0, 128, .inl (fun _ => 0))), (q4, .inl (dA 0, 51, .inl (fun _ => 0))), (q5, .inl (dA 0, 51, .inl (fun _ => 0)))] H := hP
  have hD : va_D A [(h0, .inr (4, [.int 0, .ref q1, .ref q2, .ref q3, .int 1, .int (-1), .ref q4, .null, .int 0, .int 0, .int 0, .int 0, .int 0])), (q1, .inl (dA 1, 4, .inl (fun _ => 1))), (q2, .inl (dA 0, 408, .inl (fun _ => 0))), (q3, .inl (dA 0, 128, .inl (fun _ => 0))), (q4, .inl (dA 0, 51, .inl (fun _ => 0))), (q5, .inl (dA 0, 51, .inl (fun _ => 0)))] := hD
  refine W.widen (k := 5) (n := 642) (by omega) (by omega) ?_
  refine va_putF (D := D) (ci := 4) (v := .ref q5) (ty := .array .int) (C := "ExtentShelfModel") (T := xT_4) (N := 13) hx hb ht xu_4 xY_4 xy_4 xn_4 hown hK hP hD hS 0 rfl rfl 7 (by decide) (ht (.fieldLink "ExtentShelfModel" 31 "ExtentShelfModel" "next" "[I") (xim_M _ (List.mem_of_getElem? (i := 12) rfl))) (fun _ h9 => h9) rfl hin rfl (by decide +kernel) rfl rfl (Nat.le_of_ble_eq_true rfl) xid_M_68 (fun H locs hP hD hS => ?_)
  have hP : va_P D xp_cl [(h0, .inr (4, [.int 0, .ref q1, .ref q2, .ref q3, .int 1, .int (-1), .ref q4, .ref q5, .int 0, .int 0, .int 0, .int 0, .int 0])), (q1, .inl (dA 1, 4, .inl (fun _ => 1))), (q2, .inl (dA 0, 408, .inl (fun _ => 0))), (q3, .inl (dA 0, 128, .inl (fun _ => 0))), (q4, .inl (dA 0, 51, .inl (fun _ => 0))), (q5, .inl (dA 0, 51, .inl (fun _ => 0)))] H := hP
  have hD : va_D A [(h0, .inr (4, [.int 0, .ref q1, .ref q2, .ref q3, .int 1, .int (-1), .ref q4, .ref q5, .int 0, .int 0, .int 0, .int 0, .int 0])), (q1, .inl (dA 1, 4, .inl (fun _ => 1))), (q2, .inl (dA 0, 408, .inl (fun _ => 0))), (q3, .inl (dA 0, 128, .inl (fun _ => 0))), (q4, .inl (dA 0, 51, .inl (fun _ => 0))), (q5, .inl (dA 0, 51, .inl (fun _ => 0)))] := hD
  refine lv_aload_n hx hb xid_M_71 rfl (lv_at hl 0 rfl) ?_
  refine lv_iconst (v := (-1)) hx hb xid_M_72 (by decide) ?_
  refine va_put (D := D) (ci := 4) (v := .int (-1)) (ty := .int) (C := "ExtentShelfModel") (T := xT_4) (N := 13) hx hb ht xu_4 xY_4 xy_4 xn_4 hown hK hP hD hS 0 rfl rfl 8 (by decide) (ht (.fieldLink "ExtentShelfModel" 34 "ExtentShelfModel" "moved" "I") (xim_M _ (List.mem_of_getElem? (i := 13) rfl))) (fun _ h9 => h9) rfl (by decide +kernel) rfl rfl (Nat.le_of_ble_eq_true rfl) xid_M_73 (fun H locs hP hD hS => ?_)
  have hP : va_P D xp_cl [(h0, .inr (4, [.int 0, .ref q1, .ref q2, .ref q3, .int 1, .int (-1), .ref q4, .ref q5, .int (-1), .int 0, .int 0, .int 0, .int 0])), (q1, .inl (dA 1, 4, .inl (fun _ => 1))), (q2, .inl (dA 0, 408, .inl (fun _ => 0))), (q3, .inl (dA 0, 128, .inl (fun _ => 0))), (q4, .inl (dA 0, 51, .inl (fun _ => 0))), (q5, .inl (dA 0, 51, .inl (fun _ => 0)))] H := hP
  have hD : va_D A [(h0, .inr (4, [.int 0, .ref q1, .ref q2, .ref q3, .int 1, .int (-1), .ref q4, .ref q5, .int (-1), .int 0, .int 0, .int 0, .int 0])), (q1, .inl (dA 1, 4, .inl (fun _ => 1))), (q2, .inl (dA 0, 408, .inl (fun _ => 0))), (q3, .inl (dA 0, 128, .inl (fun _ => 0))), (q4, .inl (dA 0, 51, .inl (fun _ => 0))), (q5, .inl (dA 0, 51, .inl (fun _ => 0)))] := hD
  exact W.vret hx hb hr (fun t hT hW => ⟨⟨(), rfl, trivial, q1, q2, q3, q4, q5, by rw [hT]; exact hP, hD⟩, hS.F hT⟩) hS.2.2 xid_M_76
end XkIni
