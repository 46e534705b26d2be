section XkWho
theorem xi_arr {s : State} {args : Array Value} {ty : FieldType} (h : (Cond.arrayClass ty).before args s = true) (ht : ∀ cA, s.vm.findClass ("[" ++ ty.toString) = some cA → va_RA s cA ty) : ∃ cA, ArrOfT s cA ty ∧ va_RA s cA ty := by
  obtain ⟨cA, kA, comp, h1, h2, h3⟩ := Cond.arrayClass_spec h
  exact ⟨cA, fun n z => ⟨fun k h => (by cases h), kA, h2, comp, h3⟩, ht cA h1⟩
theorem xi_str {own tx : String} {k : Nat} {args : Array Value} {s : State} (h : (Cond.stringRef own k tx).before args s = true) : ∃ a, vk_R own k tx a s := by
  have h0 := h
  simp only [Cond.before, Cond.holds, Cond.value] at h
  cases hr : s.resolvedAt? own k with
  | none => cases hc : s.vm.findClass own <;> simp [hr, hc] at h
  | some r =>
    cases r with
    | string a =>
      refine ⟨a, vk_R.of h0 ?_⟩
      have e : s.resolvedAt? own k = some (.string a) := hr
      unfold State.resolvedAt? at e
      show (Term.string own k).eval args s none [] s = some (.ref a)
      unfold Term.eval
      cases hc : s.vm.findClass own with
      | none => simp [hc] at e
      | some c =>
        cases hk : s.vm.classes[c]? with
        | none => simp [hc, hk] at e
        | some kk =>
          simp only [hc, hk, Option.bind_eq_bind, Option.bind_some] at e ⊢
          rw [e]
          rfl
    | _ => cases hc : s.vm.findClass own <;> simp [hr, hc] at h
theorem xi_sw : ∀ q ∈ xp_SW, Cond.stringRef q.1 q.2.1 q.2.2 ∈ lw_tbl := by
  have h : xp_SW.all (fun q => decide (Cond.stringRef q.1 q.2.1 q.2.2 ∈ tables_1)) = true := by decide +kernel
  intro q hq
  exact List.mem_append_right _ (of_decide_eq_true (List.all_eq_true.mp h q hq))
theorem xi_nc : ∀ q ∈ xp_nc, q ∈ flatC (Jvm.Cond.and given_1 narrow_1) := by
  have h : xp_nc.all (fun q => decide (q ∈ flatC (Jvm.Cond.and given_1 narrow_1))) = true := by decide +kernel
  intro q hq
  exact of_decide_eq_true (List.all_eq_true.mp h q hq)
def xi_z : Nat → Int32 := fun _ => 0
def xi_W : xk_W := cw (fun _ => 0) (fun _ => 0) (fun _ => 0) (fun _ => 0) (fun _ => 0) (-1) (-1) (-1) 0 1 (-1) (mrr 0 (fun _ => 1) (fun _ => 0) (fun _ => 0) (fun _ => 0) (fun _ => 0) 1 (-1) (-1) 0 0 0 0 (fun _ => 0))
theorem xi_ws0 (a : Nat) : n_ws (fun _ => 0) a = 0 := by
  have e : s_ws (fun _ => 0) a = 0 := by
    unfold s_ws
    repeat' split
    all_goals rfl
  unfold n_ws
  rw [e]
  rfl
theorem xi_Dv (a b : Nat) : s_Dv 0 (fun _ => 0) a b := ⟨fun h => absurd (xi_ws0 a) h, by rw [xi_ws0]; exact Nat.le_refl 0, rfl, fun _ => .inl rfl⟩
theorem xi_R : s_R 0 0 (fun _ => 0) xi_W := by
  have e : n_pr (fun _ => 0) = fun _ => 1 := funext (fun i => if_pos rfl)
  refine .inl ⟨fun _ => 0, fun _ => 0, fun _ => 0, fun _ => 0, fun _ => 0, fun _ => 0, fun _ => 0, 0, 4, 40, 32, 0, 0, -1, 0, 0, 0, 0, fun _ _ => rfl, fun _ _ => rfl, ⟨⟨⟨fun d _ => xi_Dv _ _, fun d _ => xi_Dv _ _, fun d _ _ => xi_ws0 _⟩, fun _ => .inl rfl, ⟨fun _ _ => rfl, fun _ _ _ => rfl, n_Tv_0⟩, ⟨rfl, Nat.le_refl 0⟩, fun d u _ _ _ => by rw [xi_ws0]; exact Nat.le_refl 0, fun z => absurd z (by omega), fun z => absurd z (by omega), fun z => absurd z (by omega), fun z => absurd z (by omega)⟩, ⟨0, 0, by omega, by omega, rfl, rfl, fun z => absurd z (by omega)⟩, fun z => absurd z (by omega), fun z => absurd z (by omega)⟩, ?_⟩
  rw [e]
  rfl
theorem xid_L_0 : decode code 0 = .ok (.new 8, 3) := by decide +kernel
theorem xid_L_3 : decode code 3 = .ok (.dup, 1) := by decide +kernel
theorem xid_L_4 : decode code 4 = .ok (.invokespecial 86, 3) := by decide +kernel
theorem xid_L_7 : decode code 7 = .ok (.astore_n 1, 1) := by decide +kernel
theorem xid_L_8 : decode code 8 = .ok (.new 87, 3) := by decide +kernel
theorem xid_L_11 : decode code 11 = .ok (.dup, 1) := by decide +kernel
theorem xid_L_12 : decode code 12 = .ok (.invokespecial 89, 3) := by decide +kernel
theorem xid_L_15 : decode code 15 = .ok (.astore_n 2, 1) := by decide +kernel
theorem xid_L_16 : decode code 16 = .ok (.iconst 1, 1) := by decide +kernel
theorem xid_L_17 : decode code 17 = .ok (.newarray .long, 2) := by decide +kernel
theorem xid_L_19 : decode code 19 = .ok (.astore_n 3, 1) := by decide +kernel
theorem xim_L : ∀ q ∈ ([.arrayClass .int, .arrayClass .boolean, .arrayClass .long, .classLink "ExtentShelfLaw" 8 "ExtentShelf", .initialized "ExtentShelf", .methodLink "ExtentShelfLaw" 86 xiy_S, .instanceMethod xiy_S, .classLink "ExtentShelfLaw" 87 "ExtentShelfModel", .initialized "ExtentShelfModel", .methodLink "ExtentShelfLaw" 89 xiy_M, .instanceMethod xiy_M, .laysStatic Bundle.tN "UNASSIGNED_STACK" Bundle.steD, .laysStatic Bundle.tN "SUPPRESSED_SENTINEL" Bundle.listD, .initialized Bundle.tN, .instantiable "ExtentShelf$Disks" 3, .instantiable "ExtentShelf$Move" 4, .instantiable "ExtentShelf$Table" 1, .instantiable "ExtentShelf" 6, .instantiable "ExtentShelfModel" 13] : List Cond), q ∈ lw_tbl := by
  have h : ([.arrayClass .int, .arrayClass .boolean, .arrayClass .long, .classLink "ExtentShelfLaw" 8 "ExtentShelf", .initialized "ExtentShelf", .methodLink "ExtentShelfLaw" 86 xiy_S, .instanceMethod xiy_S, .classLink "ExtentShelfLaw" 87 "ExtentShelfModel", .initialized "ExtentShelfModel", .methodLink "ExtentShelfLaw" 89 xiy_M, .instanceMethod xiy_M, .laysStatic Bundle.tN "UNASSIGNED_STACK" Bundle.steD, .laysStatic Bundle.tN "SUPPRESSED_SENTINEL" Bundle.listD, .initialized Bundle.tN, .instantiable "ExtentShelf$Disks" 3, .instantiable "ExtentShelf$Move" 4, .instantiable "ExtentShelf$Table" 1, .instantiable "ExtentShelf" 6, .instantiable "ExtentShelfModel" 13] : List Cond).all (fun q => decide (q ∈ lw_tbl)) = true := by decide +kernel
  intro q hq
  exact of_decide_eq_true (List.all_eq_true.mp h q hq)
def R_law : String := "ExtentShelfLaw"
def lw_P (b : Addr) (xs : List Int32) (args : Array Value) (s : State) : Prop := args = #[.ref b] ∧ s.IntsAt b xs ∧ xs.length ≤ 2048 ∧ (Jvm.Cond.and given_1 narrow_1).before args s = true
def lw_Q (_ : Array Value) (s : State) (o : Outcome) (t : State) : Prop := o = .returned (some (.int 1)) ∧ Framed s o t [] 1067 9661
def lw_Z (below : List Frame) (a : Array Value) (s : State) : State → Prop := fun t => ∃ o, t.status = .running ∧ Ended t below o ∧ lw_Q a s o t
theorem lw_ret {p : Program} {l : Launch} {e : Env} {s : State} {m : MethodId} {below : List Frame} {meth : Method} {c : Code} {b : Nat} (hx : p.tables.exec = Jvm.exec) (hb : c.code = code) (hr : meth.sig.returnType = ret) (hlocks : meth.locks = false) {pc : Nat} {H : Heap} {ls : Array Slot} (hdg : decode code pc = .ok (.ireturn, 1)) : W p l e room_1 s m #[Value.ref b] below meth c H [] 1067 9661 (lw_Z below #[Value.ref b] s) (F0 m pc ls [.int 1]) := by
  intro T hT X
  obtain ⟨fs, hret, hrun, hended, hW, hframe⟩ := X.leave (v := some (.int 1)) (hlocks := hlocks) (fun h => by rw [hr] at h; cases h)
  have hmeth' : T.vm.method? m = some meth := X.method'
  refine ⟨T.setFrames fs, ?_, .returned (some (.int 1)), hrun, hended, rfl, ⟨_, rfl⟩, hW, hframe⟩
  jvm_step X.here [X.here.top, hx, hb, hdg, hmeth', hr, ret, narrow_b1]
  (try refine ⟨rfl, ?_⟩); (try refine ⟨rfl, ?_⟩)
  first | (intro acts; rw [hret _ acts rfl rfl rfl]) | rw [hret _ _ rfl rfl rfl]
  exact Steps.refl _
def lw_At (p : Program) (s : State) (m : MethodId) (meth : Method) (c : Code) (b L : Nat) (xs : Nat → Int32) : Prop :=
  p.tables.exec = Jvm.exec ∧ c.code = code ∧ meth.sig.returnType = ret ∧ c.maxLocals = 7 ∧ s.vm.findClass R_law = some m.cls ∧ (∀ w ∈ lw_tbl, w.before #[Value.ref b] s = true) ∧ va_X b L xs s s.heap ∧ b < s.heap.size ∧ meth.locks = false ∧ (Jvm.Cond.and given_1 narrow_1).before #[Value.ref b] s = true
theorem xi_F : xp_F 180 = (⟨"ExtentShelfLaw", "law", "([I)Z"⟩, code, some .boolean, xq_180, 12, 248, []) := rfl
def xi_ad (l : List Nat) (b k : Nat) : Nat := l.getD k b
theorem xi_wd {dA : Nat → ClassId} {h0 h1 h2 h3 h4 h5 h6 h7 h8 h9 h10 h11 h12 h13 h14 h15 h16 b : Nat} : xk_w dA (xi_ad [h0, h1, h2, h3, h4, h5, h6, h7, h8, h9, h10, h11, h12, h13, h14, h15, h16] b) xi_W = [(h0, .inr (3, [.ref h1, .ref h5, .ref h7, .ref h9, .int 1, .int (-1)])), (h1, .inr (0, [.ref h2, .ref h3, .ref h4])), (h2, .inl (dA 0, 408, .inl (fun _ => 0))), (h3, .inl (dA 0, 128, .inl (fun _ => 0))), (h4, .inl (dA 1, 4, .inl (fun _ => 0))), (h5, .inr (2, [.ref h6])), (h6, .inl (dA 0, 51, .inl (fun _ => 0))), (h7, .inr (2, [.ref h8])), (h8, .inl (dA 0, 51, .inl (fun _ => 0))), (h9, .inr (1, [.int (-1), .int (-1), .int (-1), .int 0])), (h10, .inr (4, [.int 0, .ref h11, .ref h12, .ref h13, .int 1, .int (-1), .ref h14, .ref h15, .int (-1), .int 0, .int 0, .int 0, .int 0])), (h11, .inl (dA 1, 4, .inl (fun _ => 1))), (h12, .inl (dA 0, 408, .inl (fun _ => 0))), (h13, .inl (dA 0, 128, .inl (fun _ => 0))), (h14, .inl (dA 0, 51, .inl (fun _ => 0))), (h15, .inl (dA 0, 51, .inl (fun _ => 0))), (h16, .inl (dA 2, 1, .inr (.inl (fun _ => 0))))] := rfl
theorem xi_ld {h0 h1 h2 h3 h4 h5 h6 h7 h8 h9 h10 h11 h12 h13 h14 h15 h16 b : Nat} : xk_l (xi_ad [h0, h1, h2, h3, h4, h5, h6, h7, h8, h9, h10, h11, h12, h13, h14, h15, h16] b) [.ref 999, .ref 0, .ref 10, .ref 16, .retAddr 0, .retAddr 0, .retAddr 0] = [(0, .ref b), (1, .ref h0), (2, .ref h10), (3, .ref h16)] := rfl
set_option maxRecDepth 100000 in
theorem xi_tail {p : Program} {l : Launch} {e : Env} {s : State} {m : MethodId} {below : List Frame} {meth : Method} {c : Code} {b L : Nat} {xs : Nat → Int32} {D : va_G} {dA : Nat → ClassId} {ad : Nat → Nat} {A : Nat → Prop} {H : Heap} {locs : List Loc} {ls : Array Slot} (hst : l.stackTraces = false) (hL : L ≤ 2048) (hxt : c.exceptionTable.isEmpty = true) (hx : p.tables.exec = Jvm.exec) (hb : c.code = code) (hr : meth.sig.returnType = ret) (hml : c.maxLocals = 7) (hown : s.vm.findClass R_law = some m.cls) (ht : ∀ q ∈ xp_BW, q.before #[Value.ref b] s = true) (hN : ∀ q ∈ xp_NW, q.before #[Value.ref b] s = true) (hX : va_X b L xs s s.heap) (hbl : b < s.heap.size) (hlk : meth.locks = false) (hK : va_K D xp_cl (xk_t dA) s) (hG : xk_G xp_NW xp_SW A s s.heap) (hA : ∀ q : Nat, s.heap.size ≤ q → A q) (hAn : ∀ q : Nat, A q → s.heap.size ≤ q) (had9 : ad 999 = b) (hl2 : lv_has ls 7 (xk_l ad [.ref 999, .ref 0, .ref 10, .ref 16, .retAddr 0, .retAddr 0, .retAddr 0])) (hP2 : va_P D xp_cl (xk_w dA ad xi_W) H) (hD2 : va_D A (xk_w dA ad xi_W)) (hS : va_S A s.heap H locs) : W p l e room_1 s m #[Value.ref b] below meth c H locs 17 1313 (lw_Z below #[Value.ref b] s) (F0 m 20 ls []) := by
  obtain ⟨⟨o, d, w2⟩, ⟨n, hrun⟩, ho, hd, -⟩ := l_all (sc := (L, xs)) (y4 := .retAddr 0) (y5 := .retAddr 0) (y6 := .retAddr 0) (show L ≤ 100000 by omega) xi_R
  have ho : o = .inl (some (.int 1)) := ho
  have hd : d ≤ L / 4 := hd
  have hxt2 : c.exceptionTable = #[] := Array.isEmpty_iff.mp hxt
  have hX2 : xk_X xp_F (xp_P (L, xs)) xp_cl xp_BW xp_NW xp_SW D dA ad A 180 p room_1 s m #[Value.ref b] meth c := by
    unfold xk_X
    rw [xi_F]
    refine ⟨hx, hb, hml, hown, ht, hN, hK, hG, hA, by decide, by decide, hlk, hr, by rw [hxt2]; rfl, fun n f h => ?_⟩
    have h : some ((L, xs) : Nat × (Nat → Int32)) = some (n, f) := h
    cases h
    rw [had9]
    exact ⟨hX, hbl, fun h => absurd (hAn b h) (Nat.not_le.mpr hbl)⟩
  have S := xp_snd (sc := (L, xs)) hst n 180 0 [.ref 999, .ref 0, .ref 10, .ref 16, .retAddr 0, .retAddr 0, .retAddr 0] [] xi_W o d w2 (hrun n (Nat.le_refl n)) rfl p e room_1 s m #[Value.ref b] below meth c (lw_Z below #[Value.ref b] s) D dA ad A 17 1313 hX2 ⟨show 17 + d ≤ 1067 by omega, show 1313 + 6 * d ≤ 9661 by omega⟩ (fun pc L2 v hv hrt => by
    rw [ho] at hv
    cases hv
    rw [xi_F] at hrt
    rcases hrt with ⟨h, -⟩ | ⟨x, h, hdec, -⟩
    · cases h
    · intro ls2 H2 locs2 g1 g2 g3 g4
      refine va_forget (fun q hq => hAn _ (g4.2.2 q hq)) ?_
      refine W.widen (k := 1067) (n := 9661) (by omega) (by omega) ?_
      exact lw_ret hx hb hr hlk hdec) (fun x hx9 => by
    rw [ho] at hx9
    cases hx9)
  exact S ls H locs hl2 hP2 hD2 hS
set_option maxHeartbeats 4000000 in
set_option maxRecDepth 100000 in
theorem whole_start {p : Program} {e : Env} {s : State} {m : MethodId} {below : List Frame} {meth : Method} {c : Code} (l : Launch) (hst : l.stackTraces = false) {b L : Nat} {xs : Nat → Int32} (hL : L ≤ 2048) (hxt : c.exceptionTable.isEmpty = true) (C0 : lw_At p s m meth c b L xs) : W p l e room_1 s m #[Value.ref b] below meth c s.heap [] 0 0 (lw_Z below #[Value.ref b] s) (entryFrame m ([Value.ref b] : List Value).toArray 7) := by
  obtain ⟨hx, hb, hr, hml, hown, hts, hX, hbl, hlk, hgv⟩ := C0
  have ht : ∀ q ∈ xp_BW, q.before #[Value.ref b] s = true := fun q hq => hts q (List.mem_filter.mp hq).1
  have hN : ∀ q ∈ xp_NW, q.before #[Value.ref b] s = true := fun q hq => (List.mem_append.mp hq).elim (fun h => hts q (List.mem_append_right _ (List.mem_filter.mp h).1)) (fun h => flat_of_before _ hgv q (xi_nc q h))
  obtain ⟨c0, i0, k0⟩ := u_known ht xu_0 (hts (.instantiable "ExtentShelf$Disks" 3) (xim_L _ (List.mem_of_getElem? (i := 14) rfl)))
  obtain ⟨c1, i1, k1⟩ := u_known ht xu_1 (hts (.instantiable "ExtentShelf$Move" 4) (xim_L _ (List.mem_of_getElem? (i := 15) rfl)))
  obtain ⟨c2, i2, k2⟩ := u_known ht xu_2 (hts (.instantiable "ExtentShelf$Table" 1) (xim_L _ (List.mem_of_getElem? (i := 16) rfl)))
  obtain ⟨c3, i3, k3⟩ := u_known ht xu_3 (hts (.instantiable "ExtentShelf" 6) (xim_L _ (List.mem_of_getElem? (i := 17) rfl)))
  obtain ⟨c4, i4, k4⟩ := u_known ht xu_4 (hts (.instantiable "ExtentShelfModel" 13) (xim_L _ (List.mem_of_getElem? (i := 18) rfl)))
  obtain ⟨aI, aI1, aI2⟩ := xi_arr (ty := .int) (hts (.arrayClass .int) (xim_L _ (List.mem_of_getElem? (i := 0) rfl))) (fun cA h => h)
  obtain ⟨aZ, aZ1, aZ2⟩ := xi_arr (ty := .boolean) (hts (.arrayClass .boolean) (xim_L _ (List.mem_of_getElem? (i := 1) rfl))) (fun cA h => h)
  obtain ⟨aJ, aJ1, aJ2⟩ := xi_arr (ty := .long) (hts (.arrayClass .long) (xim_L _ (List.mem_of_getElem? (i := 2) rfl))) (fun cA h => h)
  obtain ⟨D, hK0⟩ : ∃ D : va_G, ∀ (c : Nat) (q : vw_C), xp_cl[c]? = some q → u_Kn s q.1 q.2.1 q.2.2 (D.1 c) (D.2 c) := by
    refine ⟨(fun c => match c with | 0 => c0 | 1 => c1 | 2 => c2 | 3 => c3 | _ => c4, fun c => match c with | 0 => i0 | 1 => i1 | 2 => i2 | 3 => i3 | _ => i4), fun c q h => ?_⟩
    match c, h with
    | 0, h => cases h; exact k0
    | 1, h => cases h; exact k1
    | 2, h => cases h; exact k2
    | 3, h => cases h; exact k3
    | 4, h => cases h; exact k4
    | k + 5, h => simp [xp_cl] at h
  obtain ⟨dA, hA0⟩ : ∃ dA : Nat → ClassId, ∀ (k : Nat) (q : ClassId × FieldType), (xk_t dA)[k]? = some q → ArrOfT s q.1 q.2 ∧ va_RA s q.1 q.2 := by
    refine ⟨fun k => match k with | 0 => aI | 1 => aZ | _ => aJ, fun k q h => ?_⟩
    match k, h with
    | 0, h => cases h; exact ⟨aI1, aI2⟩
    | 1, h => cases h; exact ⟨aZ1, aZ2⟩
    | 2, h => cases h; exact ⟨aJ1, aJ2⟩
    | k + 3, h => simp [xk_t] at h
  have hK : va_K D xp_cl (xk_t dA) s := ⟨hK0, hA0⟩
  obtain ⟨A, hAe⟩ : ∃ A : Nat → Prop, A = fun q => s.heap.size ≤ q := ⟨_, rfl⟩
  have hA : ∀ q : Nat, s.heap.size ≤ q → A q := fun q h => by rw [hAe]; exact h
  have hAn : ∀ q : Nat, A q → s.heap.size ≤ q := fun q h => by rw [hAe] at h; exact h
  have hG : xk_G xp_NW xp_SW A s s.heap := ⟨fun q hq => xk_nest_tabs (xp_nest q hq) rfl (hN q hq), fun q hq => xi_str (hts _ (xi_sw q hq)), vx_Zqof (hts (.laysStatic Bundle.tN "UNASSIGNED_STACK" Bundle.steD) (xim_L _ (List.mem_of_getElem? (i := 11) rfl))) (hts (.initialized Bundle.tN) (xim_L _ (List.mem_of_getElem? (i := 13) rfl))) (flat_of_before _ hgv (.isRef (.static Bundle.tN "UNASSIGNED_STACK" Bundle.steD)) (by decide +kernel)) (fun a h9 h => absurd (hAn a h) (Nat.not_le.mpr h9)), vx_Zqof (hts (.laysStatic Bundle.tN "SUPPRESSED_SENTINEL" Bundle.listD) (xim_L _ (List.mem_of_getElem? (i := 12) rfl))) (hts (.initialized Bundle.tN) (xim_L _ (List.mem_of_getElem? (i := 13) rfl))) (flat_of_before _ hgv (.isRef (.static Bundle.tN "SUPPRESSED_SENTINEL" Bundle.listD)) (by decide +kernel)) (fun a h9 h => absurd (hAn a h) (Nat.not_le.mpr h9))⟩
  have hS : va_S A s.heap s.heap [] := va_S.rf
  have hP : va_P D xp_cl [] s.heap := fun k q h => by simp at h
  have hD : va_D A [] := ⟨fun i j p q h => by simp at h, fun k q h => by simp at h⟩
  have hl := lv_entry ([.ref b]) (n := 7) (Nat.le_of_ble_eq_true rfl)
  rw [lg_entry_eq]
  generalize (lg_sl ([.ref b]) ++ List.replicate (7 - (lg_sl ([.ref b])).length) Slot.unset).toArray = ls at hl ⊢
  have hl : lv_has ls 7 [(0, .ref b)] := hl
  refine va_new (ci := 3) (fs := [.null, .null, .null, .null, .int 0, .int 0]) (C := "ExtentShelf") (T := xT_3) (N := 6) hx hb ht xu_3 xY_3 xy_3 hown (hts (.classLink "ExtentShelfLaw" 8 "ExtentShelf") (xim_L _ (List.mem_of_getElem? (i := 3) rfl))) (hts (.instantiable "ExtentShelf" 6) (xim_L _ (List.mem_of_getElem? (i := 17) rfl))) (hts (.initialized "ExtentShelf") (xim_L _ (List.mem_of_getElem? (i := 4) rfl))) hK hP hD hS hA rfl (xi_d3) (show 1 ≤ 1067 by decide) (show 6 ≤ 9661 by decide) xid_L_0 (fun h0 H hP hD hS => ?_)
  have hP : va_P D xp_cl [(h0, .inr (3, [.null, .null, .null, .null, .int 0, .int 0]))] H := hP
  have hD : va_D A [(h0, .inr (3, [.null, .null, .null, .null, .int 0, .int 0]))] := hD
  refine W.widen (k := 1) (n := 6) (by omega) (by omega) ?_
  refine lv_dup hx hb xid_L_3 rfl ?_
  have hPc := hP.sub (ws' := [(h0, .inr (3, [.null, .null, .null, .null, .int 0, .int 0]))]) [0] rfl
  have hDc := hD.sub (ws' := [(h0, .inr (3, [.null, .null, .null, .null, .int 0, .int 0]))]) [0] (by decide) rfl
  have hFc := va_free (wc := [(h0, .inr (3, [.null, .null, .null, .null, .int 0, .int 0]))]) hD hS hA [0] rfl
  refine va_callv (va_runI (As := []) (rest := [.ref h0]) ⟨hx, hb, hml, hown, ht⟩ (xi_S l D dA h0 H.size) (cwI 0 ht xig_S rfl rfl rfl (hts (.initialized "ExtentShelf") (xim_L _ (List.mem_of_getElem? (i := 4) rfl))) (hts (.methodLink "ExtentShelfLaw" 86 xiy_S) (xim_L _ (List.mem_of_getElem? (i := 5) rfl))) (hts (.instanceMethod xiy_S) (xim_L _ (List.mem_of_getElem? (i := 6) rfl))) rfl (by decide +kernel) ⟨Nat.le_of_ble_eq_true rfl, Nat.le_of_ble_eq_true rfl⟩) ⟨fun a U g mk q => by obtain ⟨q0, q1, qP, qK, qD, qN⟩ := q; exact ⟨q0, q1, qP, va_K.moved (u := U) (U := U.calling g mk a) (Vm.Alike.refl U.vm) qK, qD, fun w hw => xk_nest_tabs (u := U) (U := U.calling g mk a) (xp_nest w hw) rfl (qN w hw)⟩, fun U hU hW => ⟨rfl, by rw [hU], by rw [hU]; exact hPc, va_K.moved hW.alike hK, hDc.weaken (fun _ _ _ _ => trivial), fun w hw => xk_nest_warm (xp_nest w hw) hW (hG.1 w hw)⟩⟩ rfl rfl hl.1 rfl (lv_room (Nat.le_of_ble_eq_true rfl)) xid_L_4 ⟨show 10 ≤ 1067 by decide, show 657 ≤ 9661 by decide⟩) hS (fun q _ h => hFc q h) hFc (fun u t H1 locs hT hvm hU5 hB hz1 hk1 hS => ?_)
  obtain ⟨h1, h2, h3, h4, h5, h6, h7, h8, h9, hP1, hD1⟩ := hB
  rw [hT] at hP1
  obtain ⟨hP, hD⟩ := va_join (wr := []) (w1 := [(h0, .inr (3, [.ref h1, .ref h5, .ref h7, .ref h9, .int 1, .int (-1)])), (h1, .inr (0, [.ref h2, .ref h3, .ref h4])), (h2, .inl (dA 0, 408, .inl (fun _ => 0))), (h3, .inl (dA 0, 128, .inl (fun _ => 0))), (h4, .inl (dA 1, 4, .inl (fun _ => 0))), (h5, .inr (2, [.ref h6])), (h6, .inl (dA 0, 51, .inl (fun _ => 0))), (h7, .inr (2, [.ref h8])), (h8, .inl (dA 0, 51, .inl (fun _ => 0))), (h9, .inr (1, [.int (-1), .int (-1), .int (-1), .int 0]))]) hP hD [0] [] rfl rfl (by decide) (by decide) hk1 hFc hP1 hD1
  generalize H1 = H at hP hS ⊢
  have hP : va_P D xp_cl [(h0, .inr (3, [.ref h1, .ref h5, .ref h7, .ref h9, .int 1, .int (-1)])), (h1, .inr (0, [.ref h2, .ref h3, .ref h4])), (h2, .inl (dA 0, 408, .inl (fun _ => 0))), (h3, .inl (dA 0, 128, .inl (fun _ => 0))), (h4, .inl (dA 1, 4, .inl (fun _ => 0))), (h5, .inr (2, [.ref h6])), (h6, .inl (dA 0, 51, .inl (fun _ => 0))), (h7, .inr (2, [.ref h8])), (h8, .inl (dA 0, 51, .inl (fun _ => 0))), (h9, .inr (1, [.int (-1), .int (-1), .int (-1), .int 0]))] H := hP
  have hD : va_D A [(h0, .inr (3, [.ref h1, .ref h5, .ref h7, .ref h9, .int 1, .int (-1)])), (h1, .inr (0, [.ref h2, .ref h3, .ref h4])), (h2, .inl (dA 0, 408, .inl (fun _ => 0))), (h3, .inl (dA 0, 128, .inl (fun _ => 0))), (h4, .inl (dA 1, 4, .inl (fun _ => 0))), (h5, .inr (2, [.ref h6])), (h6, .inl (dA 0, 51, .inl (fun _ => 0))), (h7, .inr (2, [.ref h8])), (h8, .inl (dA 0, 51, .inl (fun _ => 0))), (h9, .inr (1, [.int (-1), .int (-1), .int (-1), .int 0]))] := hD
  refine W.widen (k := 10) (n := 657) (by omega) (by omega) ?_
  refine lv_astore_n hx hb xid_L_7 rfl hl (by decide) (lv' := [(1, .ref h0), (0, .ref b)]) rfl (fun ls hl => ?_)
  refine va_new (ci := 4) (fs := [.int 0, .null, .null, .null, .int 0, .int 0, .null, .null, .int 0, .int 0, .int 0, .int 0, .int 0]) (C := "ExtentShelfModel") (T := xT_4) (N := 13) hx hb ht xu_4 xY_4 xy_4 hown (hts (.classLink "ExtentShelfLaw" 87 "ExtentShelfModel") (xim_L _ (List.mem_of_getElem? (i := 7) rfl))) (hts (.instantiable "ExtentShelfModel" 13) (xim_L _ (List.mem_of_getElem? (i := 18) rfl))) (hts (.initialized "ExtentShelfModel") (xim_L _ (List.mem_of_getElem? (i := 8) rfl))) hK hP hD hS hA rfl (xi_d4) (show 11 ≤ 1067 by decide) (show 670 ≤ 9661 by decide) xid_L_8 (fun h10 H hP hD hS => ?_)
  have hP : va_P D xp_cl [(h0, .inr (3, [.ref h1, .ref h5, .ref h7, .ref h9, .int 1, .int (-1)])), (h1, .inr (0, [.ref h2, .ref h3, .ref h4])), (h2, .inl (dA 0, 408, .inl (fun _ => 0))), (h3, .inl (dA 0, 128, .inl (fun _ => 0))), (h4, .inl (dA 1, 4, .inl (fun _ => 0))), (h5, .inr (2, [.ref h6])), (h6, .inl (dA 0, 51, .inl (fun _ => 0))), (h7, .inr (2, [.ref h8])), (h8, .inl (dA 0, 51, .inl (fun _ => 0))), (h9, .inr (1, [.int (-1), .int (-1), .int (-1), .int 0])), (h10, .inr (4, [.int 0, .null, .null, .null, .int 0, .int 0, .null, .null, .int 0, .int 0, .int 0, .int 0, .int 0]))] H := hP
  have hD : va_D A [(h0, .inr (3, [.ref h1, .ref h5, .ref h7, .ref h9, .int 1, .int (-1)])), (h1, .inr (0, [.ref h2, .ref h3, .ref h4])), (h2, .inl (dA 0, 408, .inl (fun _ => 0))), (h3, .inl (dA 0, 128, .inl (fun _ => 0))), (h4, .inl (dA 1, 4, .inl (fun _ => 0))), (h5, .inr (2, [.ref h6])), (h6, .inl (dA 0, 51, .inl (fun _ => 0))), (h7, .inr (2, [.ref h8])), (h8, .inl (dA 0, 51, .inl (fun _ => 0))), (h9, .inr (1, [.int (-1), .int (-1), .int (-1), .int 0])), (h10, .inr (4, [.int 0, .null, .null, .null, .int 0, .int 0, .null, .null, .int 0, .int 0, .int 0, .int 0, .int 0]))] := hD
  refine W.widen (k := 11) (n := 670) (by omega) (by omega) ?_
  refine lv_dup hx hb xid_L_11 rfl ?_
  have hPc := hP.sub (ws' := [(h10, .inr (4, [.int 0, .null, .null, .null, .int 0, .int 0, .null, .null, .int 0, .int 0, .int 0, .int 0, .int 0]))]) [10] rfl
  have hDc := hD.sub (ws' := [(h10, .inr (4, [.int 0, .null, .null, .null, .int 0, .int 0, .null, .null, .int 0, .int 0, .int 0, .int 0, .int 0]))]) [10] (by decide) rfl
  have hFc := va_free (wc := [(h10, .inr (4, [.int 0, .null, .null, .null, .int 0, .int 0, .null, .null, .int 0, .int 0, .int 0, .int 0, .int 0]))]) hD hS hA [10] rfl
  refine va_callv (va_runI (As := []) (rest := [.ref h10]) ⟨hx, hb, hml, hown, ht⟩ (xi_M l D dA h10 H.size) (cwI 0 ht xig_M rfl rfl rfl (hts (.initialized "ExtentShelfModel") (xim_L _ (List.mem_of_getElem? (i := 8) rfl))) (hts (.methodLink "ExtentShelfLaw" 89 xiy_M) (xim_L _ (List.mem_of_getElem? (i := 9) rfl))) (hts (.instanceMethod xiy_M) (xim_L _ (List.mem_of_getElem? (i := 10) rfl))) rfl (by decide +kernel) ⟨Nat.le_of_ble_eq_true rfl, Nat.le_of_ble_eq_true rfl⟩) ⟨fun a U g mk q => by obtain ⟨q0, q1, qP, qK, qD⟩ := q; exact ⟨q0, q1, qP, va_K.moved (u := U) (U := U.calling g mk a) (Vm.Alike.refl U.vm) qK, qD⟩, fun U hU hW => ⟨rfl, by rw [hU], by rw [hU]; exact hPc, va_K.moved hW.alike hK, hDc.weaken (fun _ _ _ _ => trivial)⟩⟩ rfl rfl hl.1 rfl (lv_room (Nat.le_of_ble_eq_true rfl)) xid_L_12 ⟨show 16 ≤ 1067 by decide, show 1312 ≤ 9661 by decide⟩) hS (fun q _ h => hFc q h) hFc (fun u t H1 locs hT hvm hU5 hB hz1 hk1 hS => ?_)
  obtain ⟨h11, h12, h13, h14, h15, hP1, hD1⟩ := hB
  rw [hT] at hP1
  obtain ⟨hP, hD⟩ := va_join (wr := [(h0, .inr (3, [.ref h1, .ref h5, .ref h7, .ref h9, .int 1, .int (-1)])), (h1, .inr (0, [.ref h2, .ref h3, .ref h4])), (h2, .inl (dA 0, 408, .inl (fun _ => 0))), (h3, .inl (dA 0, 128, .inl (fun _ => 0))), (h4, .inl (dA 1, 4, .inl (fun _ => 0))), (h5, .inr (2, [.ref h6])), (h6, .inl (dA 0, 51, .inl (fun _ => 0))), (h7, .inr (2, [.ref h8])), (h8, .inl (dA 0, 51, .inl (fun _ => 0))), (h9, .inr (1, [.int (-1), .int (-1), .int (-1), .int 0]))]) (w1 := [(h10, .inr (4, [.int 0, .ref h11, .ref h12, .ref h13, .int 1, .int (-1), .ref h14, .ref h15, .int (-1), .int 0, .int 0, .int 0, .int 0])), (h11, .inl (dA 1, 4, .inl (fun _ => 1))), (h12, .inl (dA 0, 408, .inl (fun _ => 0))), (h13, .inl (dA 0, 128, .inl (fun _ => 0))), (h14, .inl (dA 0, 51, .inl (fun _ => 0))), (h15, .inl (dA 0, 51, .inl (fun _ => 0)))]) hP hD [10] [0, 1, 2, 3, 4, 5, 6, 7, 8, 9] rfl rfl (by decide) (by decide) hk1 hFc hP1 hD1
  generalize H1 = H at hP hS ⊢
  have hP : va_P D xp_cl [(h0, .inr (3, [.ref h1, .ref h5, .ref h7, .ref h9, .int 1, .int (-1)])), (h1, .inr (0, [.ref h2, .ref h3, .ref h4])), (h2, .inl (dA 0, 408, .inl (fun _ => 0))), (h3, .inl (dA 0, 128, .inl (fun _ => 0))), (h4, .inl (dA 1, 4, .inl (fun _ => 0))), (h5, .inr (2, [.ref h6])), (h6, .inl (dA 0, 51, .inl (fun _ => 0))), (h7, .inr (2, [.ref h8])), (h8, .inl (dA 0, 51, .inl (fun _ => 0))), (h9, .inr (1, [.int (-1), .int (-1), .int (-1), .int 0])), (h10, .inr (4, [.int 0, .ref h11, .ref h12, .ref h13, .int 1, .int (-1), .ref h14, .ref h15, .int (-1), .int 0, .int 0, .int 0, .int 0])), (h11, .inl (dA 1, 4, .inl (fun _ => 1))), (h12, .inl (dA 0, 408, .inl (fun _ => 0))), (h13, .inl (dA 0, 128, .inl (fun _ => 0))), (h14, .inl (dA 0, 51, .inl (fun _ => 0))), (h15, .inl (dA 0, 51, .inl (fun _ => 0)))] H := hP
  have hD : va_D A [(h0, .inr (3, [.ref h1, .ref h5, .ref h7, .ref h9, .int 1, .int (-1)])), (h1, .inr (0, [.ref h2, .ref h3, .ref h4])), (h2, .inl (dA 0, 408, .inl (fun _ => 0))), (h3, .inl (dA 0, 128, .inl (fun _ => 0))), (h4, .inl (dA 1, 4, .inl (fun _ => 0))), (h5, .inr (2, [.ref h6])), (h6, .inl (dA 0, 51, .inl (fun _ => 0))), (h7, .inr (2, [.ref h8])), (h8, .inl (dA 0, 51, .inl (fun _ => 0))), (h9, .inr (1, [.int (-1), .int (-1), .int (-1), .int 0])), (h10, .inr (4, [.int 0, .ref h11, .ref h12, .ref h13, .int 1, .int (-1), .ref h14, .ref h15, .int (-1), .int 0, .int 0, .int 0, .int 0])), (h11, .inl (dA 1, 4, .inl (fun _ => 1))), (h12, .inl (dA 0, 408, .inl (fun _ => 0))), (h13, .inl (dA 0, 128, .inl (fun _ => 0))), (h14, .inl (dA 0, 51, .inl (fun _ => 0))), (h15, .inl (dA 0, 51, .inl (fun _ => 0)))] := hD
  refine W.widen (k := 16) (n := 1312) (by omega) (by omega) ?_
  refine lv_astore_n hx hb xid_L_15 rfl hl (by decide) (lv' := [(2, .ref h10), (1, .ref h0), (0, .ref b)]) rfl (fun ls hl => ?_)
  refine lv_iconst (v := 1) hx hb xid_L_16 (by decide) ?_
  refine va_newa (atype := .long) (ty := .long) (a0 := (1, .inr (.inl (fun _ => 0)))) (N' := 1) hx hb (hts (.arrayClass .long) (xim_L _ (List.mem_of_getElem? (i := 2) rfl))) rfl hK hP hD hS hA (fun _ => rfl) (by decide) (by decide) (by decide) (show 17 ≤ 1067 by decide) (show 1313 ≤ 9661 by decide) xid_L_17 (fun h16 cA H hK1 hP hD hS => ?_)
  obtain rfl : cA = dA 2 := xi_long hK1
  refine W.widen (k := 17) (n := 1313) (by omega) (by omega) ?_
  refine lv_astore_n hx hb xid_L_19 rfl hl (by decide) (lv' := [(3, .ref h16), (2, .ref h10), (1, .ref h0), (0, .ref b)]) rfl (fun ls hl => ?_)
  have hP2 : va_P D xp_cl (xk_w dA (xi_ad [h0, h1, h2, h3, h4, h5, h6, h7, h8, h9, h10, h11, h12, h13, h14, h15, h16] b) xi_W) H := by rw [xi_wd]; exact hP
  have hD2 : va_D A (xk_w dA (xi_ad [h0, h1, h2, h3, h4, h5, h6, h7, h8, h9, h10, h11, h12, h13, h14, h15, h16] b) xi_W) := by rw [xi_wd]; exact hD
  have hl2 : lv_has ls 7 (xk_l (xi_ad [h0, h1, h2, h3, h4, h5, h6, h7, h8, h9, h10, h11, h12, h13, h14, h15, h16] b) [.ref 999, .ref 0, .ref 10, .ref 16, .retAddr 0, .retAddr 0, .retAddr 0]) := by rw [xi_ld]; exact lv_sub hl [3, 2, 1, 0] rfl
  exact xi_tail (ad := xi_ad [h0, h1, h2, h3, h4, h5, h6, h7, h8, h9, h10, h11, h12, h13, h14, h15, h16] b) hst hL hxt hx hb hr hml hown ht hN hX hbl hlk hK hG hA hAn rfl hl2 hP2 hD2 hS
set_option maxHeartbeats 4000000 in
theorem lw_walk (l : Launch) (hst : l.stackTraces = false) (b : Addr) (xs : List Int32) : MetFree l x (headSpec (Jvm.Cond.code x code maxLocals ret :: tables_1) room_1) (lw_P b xs) (fun _ _ _ _ _ => True) lw_Q := by
  refine MetFree.of_bodyS (code := code) (maxLocals := maxLocals) (ret := ret) (by decide) ?_ ?_
  · intro args s m h hn
    obtain ⟨meth, c, h1, h2, h3, h4, h5, h6, -, -⟩ := Cond.code_spec hn (atoms_spec (ws := Jvm.Cond.code x code maxLocals ret :: tables_1) h _ List.mem_cons_self)
    exact ⟨meth, c, h1, h2, h3, h4, h5, h6⟩
  · intro p e s m args below meth c s₁ B hml0 hP _
    obtain ⟨rfl, hx, hbd, hgv⟩ := hP
    obtain ⟨scr, harrAt, hlist, hof, hsmall⟩ := hx
    obtain ⟨hcb, hkn, -, -⟩ := State.arrayAt?_spec harrAt
    have hown : s.vm.findClass R_law = some m.cls := findClass_of_methodNamed B.named
    have hts0 : ∀ c ∈ (Jvm.Cond.code x code maxLocals ret :: tables_1), c.before #[Value.ref b] s = true := atoms_spec (ws := Jvm.Cond.code x code maxLocals ret :: tables_1) B.pre
    have hts : ∀ w ∈ lw_tbl, w.before #[Value.ref b] s = true := k2_hts_sels lw_privs (fun w hw => hts0 w (List.mem_cons_of_mem _ hw)) lw_privs_ok
    have hxt : c.exceptionTable.isEmpty = true := by
      obtain ⟨meth2, c2, h1, h2, h3, h4, h5, h6, h7, -⟩ := Cond.code_spec B.named (hts0 _ List.mem_cons_self)
      cases B.method.symm.trans h1
      have hcc : c = c2 := Option.some.inj ((Stand.of_body B).code.symm.trans h2)
      rw [hcc]
      exact h7
    have hml : c.maxLocals = 7 := B.maxLocals_eq (hts0 _ List.mem_cons_self)
    have X₀ : Stand p l e room_1 s m #[Value.ref b] below meth c s₁ [] 0 0 := Stand.of_body B
    have hh0 : s₁.heap = s.heap := by rw [B.state]; rfl
    have hsz : scr.slots.size = xs.length := by rw [← Array.length_toList, hlist, List.length_map]
    have hval : ∀ j : Nat, j < xs.length → scr.slots[j]? = some (.int (xs.getD j 0)) := fun j hj => by
      rw [← Array.getElem?_toList, hlist]
      simp [hj]
    have hbl : b < s.heap.size := (Array.getElem?_eq_some_iff.mp hcb).1
    have hX : va_X b xs.length (fun j => xs.getD j 0) s s.heap := ⟨scr, hcb, hof, hkn, hsz, hval⟩
    have K : W p l e room_1 s m #[Value.ref b] below meth c s₁.heap [] 0 0 (lw_Z below #[Value.ref b] s) (entryFrame m ([Value.ref b] : List Value).toArray 7) := by
      rw [hh0]
      exact whole_start l hst hbd hxt ⟨B.exec, B.bytes, B.returns, hml, hown, hts, hX, hbl, B.notSynchronized, hgv⟩
    obtain ⟨t, a1, o, b1, b2, b3⟩ := K s₁ rfl X₀
    exact ⟨t, o, a1, b1, b2, b3⟩
theorem lw_pre_spec {args : Array Value} {s : State} (h : (Jvm.Cond.and given_1 narrow_1).before args s = true) (hr : rest_1_c.before args s = true) : ∃ (b : Addr) (xs : List Int32), lw_P b xs args s := by
  have hs := flat_of_before _ h
  have hq := flat_of_before _ hr
  have hc : (Cond.count 1).before args s = true := hs _ (by decide +kernel)
  have harr : (Cond.arrayOf (.arg 0) .int).before args s = true := hs _ (by decide +kernel)
  have hle : (Cond.le (.length (.arg 0)) (.int 2048)).before args s = true := hs _ (by decide +kernel)
  have hlen : (Cond.isInt (.length (.arg 0))).before args s = true := hq _ (by decide +kernel)
  have hall : (Cond.all (.arg 0) (.isInt (.elem (.arg 0) (.index 0)))).before args s = true := hq _ (by decide +kernel)
  obtain ⟨b, xs, hb, hx⟩ := State.ints_of_pre rfl harr hlen hall
  have hsm : xs.length < 2 ^ 31 := hx.choose_spec.2.2.2
  have hev : (Term.length (.arg 0)).eval args s none [] s = some (.int xs.length.toInt32) := hx.length_eval hb
  have hv := Cond.le_ints hev (show (Term.int 2048).eval args s none [] s = some (.int 2048) from rfl)
  have hd : xs.length.toInt32 ≤ 2048 := by
    simpa [Cond.before, Cond.holds, hv] using hle
  have hN : xs.length ≤ 2048 := (Int32.ofNat_le_ofNat hsm (by decide)).mp (show Int32.ofNat xs.length ≤ Int32.ofNat 2048 from hd)
  exact ⟨b, xs, Cond.one_arg hc (show args[0]? = some (.ref b) from hb), hx, hN, h⟩
theorem lw_comes (l : Launch) (hst : l.stackTraces = false) : Comes l x (Jvm.Cond.code x code maxLocals ret :: tables_1) room_1 (fun tb e args s => Calls_1 tb e args s ∧ rest_1 tb e args s ∧ Pre_1 tb e args s)
    (fun _ _ args s o t => lw_Q args s o t) := by
  intro p e ha hc hk s m args below hf hfit hheap happ hpre
  obtain ⟨b, xs, hP⟩ := lw_pre_spec hpre.2.2 hpre.2.1
  obtain ⟨k, o, h1, h2, h3, hQ⟩ := lw_walk l hst b xs p e ha hc hk s m args below hf ((Spec.applies_iff_loose hf).mp happ).1 hP trivial
  exact ⟨k, o, h1, h2, h3, hQ⟩
theorem lw_frame {s t : State} {o : Outcome} {args : Array Value} (h : Framed s o t [] 1067 9661) :
    Framed s o t (fieldLocs frame_1_writes args s ++ arrayLocs frame_1_arrays args s ++ staticLocs frame_1_statics s) 1067 9661 := h
theorem lw_limb (L : Cond) (hL : ∀ (args : Array Value) (s t : State), L.after args s (.returned (some (.int 1))) t = true) :
    ArmFor flags0 classFile x code maxLocals ret World_1 tables_1 room_1 Calls_1 rest_1 Pre_1
      (fun tb e a s o t => postC L tb e a s o t ∧ Framed s o t (fieldLocs frame_1_writes a s ++ arrayLocs frame_1_arrays a s ++ staticLocs frame_1_statics s) 1067 9661) := by
  intro l hfl _ _ p e ha hc hk s m args below hf hfit hheap happ hpre
  obtain ⟨k, o, h1, h2, h3, rfl, hF⟩ := lw_comes l (by unfold Launch.stackTraces; rw [hfl]; decide) p e ha hc hk s m args below hf hfit hheap happ hpre
  exact ⟨k, _, h1, h2, h3, hL args s _, lw_frame hF⟩
end XkWho
theorem i_vc : Claimed_1_1 ∧ Claimed_1_2 := ⟨lw_limb limb_1_1 (fun args s t => by simp [limb_1_1, Cond.after, Cond.holds, Cond.value]), lw_limb limb_1_2 (fun args s t => Cond.after_iff.mpr (by
  first | (rw [show limb_1_2 = Cond.eq .result (.int 1) from rfl, Cond.eq_ints (x := 1) (y := 1) rfl rfl]; simp; done) | (simp [limb_1_2, Cond.value, Term.eval]; done)))⟩
