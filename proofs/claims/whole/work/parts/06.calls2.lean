/-! Calls of the interpreter's methods. -/
section XkCall2
variable {p : Program} {l : Launch} {e : Env} {R : Room} {s : State} {m : MethodId} {args : Array Value} {below : List Frame} {meth : Method} {c : Code} {Q : State → Prop} {D : va_G} {dA : Nat → ClassId} {ad : Nat → Nat} {A : Nat → Prop} {cl : List vw_C} {cells slots : Nat}
variable {F : Nat → xk_F} {P : Nat → xk_M} {BW NW : List Cond} {SW : List (String × Nat × String)} {k i j na : Nat} {L st : List Value} {w w1 : xk_W}
/-- a method's code stands in the words -/
def xf_cd (F : Nat → xk_F) (P : Nat → xk_M) (BW : List Cond) (j : Nat) : Prop := (Cond.code (F j).1 (F j).2.1 (P j).2.1 (F j).2.2.1 ∈ BW ∧ (F j).2.2.2.2.2.2 = []) ∨ Cond.codeWith (F j).1 (F j).2.1 (P j).2.1 (F j).2.2.1 (F j).2.2.2.2.2.2 ∈ BW
theorem xf_cd.spec (h : xf_cd F P BW j) {U : State} {a : Array Value} (hts : ∀ q ∈ BW, q.before a U = true) : ∃ mk methY cY, U.methodNamed? (F j).1 = some mk ∧ U.vm.method? mk = some methY ∧ methY.code = some cY ∧ cY.code = (F j).2.1 ∧ cY.maxLocals = (P j).2.1 ∧ methY.sig.returnType = (F j).2.2.1 ∧ methY.locks = false ∧ parseMethodDescriptor (F j).1.desc = some methY.sig ∧ cY.exceptionTable.toList.map (fun h => (h.startPc, h.endPc, h.handlerPc, h.catchType)) = (F j).2.2.2.2.2.2 := by
  rcases h with ⟨h, h0⟩ | h
  · have h1 := hts _ h
    obtain ⟨mk, hn⟩ := Cond.code_named h1
    obtain ⟨methY, cY, a1, a2, a3, a4, a5, a6, a8, a7⟩ := Cond.code_spec hn h1
    refine ⟨mk, methY, cY, hn, a1, a2, a3, a4, a5, a6, a7, ?_⟩
    have h2 : cY.exceptionTable.size = 0 := by simpa [Array.isEmpty] using a8
    have h3 : cY.exceptionTable.toList = [] := List.eq_nil_of_length_eq_zero (by simpa using h2)
    rw [h0, h3]
    rfl
  · obtain ⟨mk, methY, cY, hn, a1, a2, a3, a4, a8, a5, a6, a7⟩ := Cond.codeWith_spec (hts _ h)
    exact ⟨mk, methY, cY, hn, a1, a2, a3, a4, a5, a6, a7, a8⟩
def xf_lk (BW NW : List Cond) (own : String) (idx : Nat) (y : MethodName) : Prop := Cond.methodLink own idx y ∈ BW ∨ ∃ host, Cond.methodLinkNest own idx y host ∈ NW
/-- a call's words -/
def xk_Oc (F : Nat → xk_F) (P : Nat → xk_M) (cl : List vw_C) (BW NW : List Cond) (k i j na : Nat) : Prop :=
  xf_nx F k i 3 ∧ xf_cd F P BW j ∧ (P j).2.2.2.2 = none ∧ xf_pc F j 0 = 0 ∧ Cond.initialized (F j).1.cls ∈ BW ∧ ((F j).1.cls ≠ "java/lang/invoke/MethodHandle" ∧ (F j).1.cls ≠ "java/lang/invoke/VarHandle") ∧ (F j).2.2.2.2.1 + 1 ≤ (F k).2.2.2.2.1 ∧ 12 + ((P j).2.1 + 11) + (F j).2.2.2.2.2.1 ≤ (F k).2.2.2.2.2.1 ∧
  ∃ idx, xf_lk BW NW (F k).1.cls idx (F j).1 ∧
    ((xf_in F k i (.invokestatic idx) 3 ∧ Cond.static (F j).1 ∈ BW ∧ (P j).2.2.1 = none ∧ (parseMethodDescriptor (F j).1.desc).map (fun d => d.parameters.length) = some na) ∨
     (xf_in F k i (.invokevirtual idx) 3 ∧ Cond.instanceMethod (F j).1 ∈ BW ∧ Cond.selects (F j).1.cls (F j).1 (F j).1 ∈ BW ∧ (∃ ci T N, (P j).2.2.1 = some ci ∧ cl[ci]? = some ((F j).1.cls, T, N)) ∧ (parseMethodDescriptor (F j).1.desc).map (fun d => d.parameters.length + 1) = some na))
theorem xk_recv {a ci : Nat} {fs : List Value} {T : u_T} {N : Nat} {C : String} {H : Heap} (hK : va_K D cl (xk_t dA) s) (hP : va_P D cl (xk_w dA ad w) H) (he : w[a]? = some (.inr (ci, fs))) (hc : cl[ci]? = some (C, T, N)) :
    ∃ cell : Cell, H[ad a]? = some cell ∧ cell.vm.isStatics = false ∧ s.vm.findClass C = some cell.cls := by
  obtain ⟨r, h1, cell, q1, q2, q3, -⟩ := hP a _ (xk_w_at he)
  obtain ⟨-, hfc, -⟩ := hK.1 ci _ hc
  exact ⟨cell, q1, by rw [q3]; rfl, by rw [q2]; exact hfc⟩
set_option maxHeartbeats 2000000 in
/-- the invoking instruction's own step -/
theorem xk_invoke {T : State} {locs : List Loc} (X : Stand p l e R s m args below meth c T locs cells slots) (hx : xk_X F P cl BW NW SW D dA ad A k p R s m args meth c) (hc : xk_Oc F P cl BW NW k i j na) (hP : va_P D cl (xk_w dA ad w) T.heap)
    (hf : xk_fit P j na st w = true) {ls : Array Slot} :
    ∃ (mk : MethodId) (methY : Method) (cY : Code) (vm₁ : Vm), Stand p l e R s m args below meth c (T.setVm vm₁) locs cells slots ∧ (T.setVm vm₁).methodNamed? (F j).1 = some mk ∧ (T.setVm vm₁).vm.method? mk = some methY ∧ methY.code = some cY ∧ cY.maxLocals = (P j).2.1 ∧
      ∃ ig, decode c.code (xf_pc F k i) = .ok (ig, 3) ∧
      ∀ target, (∀ acts, Steps p.tables e below (doInvoke e ((T.setVm vm₁).setTop (F0 m (xf_pc F k i) ls ((st.drop na).map (xk_v ad)))) acts mk (((st.take na).reverse).map (xk_v ad)).toArray).1 target) →
        Steps p.tables e below (T.setTop (F0 m (xf_pc F k i) ls (st.map (xk_v ad)))) target := by
  obtain ⟨hexec, hb, hml, hown, hts, hN, hK, hG, hA, hRf, hRl, hlk, hrt, hxt, hsc⟩ := hx
  obtain ⟨hnx, hcd, -, -, hini, hy, hr1, hr2, idx, hlink, hkind⟩ := hc
  obtain ⟨mk, methY, cY, hn, a1, a2, a3, a4, a5, a6, a7, -⟩ := hcd.spec hts
  obtain ⟨kY, hkY, -⟩ := className_of_methodNamed hn
  have hinitY : kY.init = .initialized := Cond.initialized_spec (findClass_of_methodNamed hn) hkY (hts _ hini)
  simp only [xk_fit, Bool.and_eq_true, decide_eq_true_eq] at hf
  obtain ⟨⟨⟨⟨f1, f2⟩, f3⟩, f4⟩, f5⟩ := hf
  have hst : st.map (xk_v ad) = (((st.take na).reverse).map (xk_v ad)).reverse ++ (st.drop na).map (xk_v ad) := by
    rw [← List.map_reverse, List.reverse_reverse, ← List.map_append, List.take_append_drop]
  rcases hkind with ⟨hin, hstat, hrc, hlen⟩ | ⟨hin, hinst, hsel, ⟨ci, TT, N, hrc, hcl⟩, hlen⟩
  · have hlen2 : (((st.take na).reverse).map (xk_v ad)).length = methY.sig.parameters.length := by
      rw [a7] at hlen
      have := Option.some.inj hlen
      rw [List.length_map, List.length_reverse, List.length_take, Nat.min_eq_left f1]
      exact this.symm
    have hstatic : methY.isStatic = true := Cond.static_spec hn a1 (hts _ hstat)
    rcases hlink with hlink | ⟨host, hlink⟩
    · obtain ⟨vm₁, X₁, step⟩ := X.invokestatic hexec hown (hts _ hlink) hn a1 hstatic hkY hinitY hy (g := F0 m (xf_pc F k i) ls (st.map (xk_v ad))) rfl hlen2 hst (by rw [hb]; exact hin)
      exact ⟨mk, methY, cY, vm₁, X₁, X₁.named hn, by rw [X₁.warmed.alike.method?]; exact a1, a2, a4, _, by rw [hb]; exact hin, step⟩
    · obtain ⟨vm₁, X₁, step⟩ := X.invokestaticNest hexec hown (hN _ hlink) hn a1 hstatic hkY hinitY hy (g := F0 m (xf_pc F k i) ls (st.map (xk_v ad))) rfl hlen2 hst (by rw [hb]; exact hin)
      exact ⟨mk, methY, cY, vm₁, X₁, X₁.named hn, by rw [X₁.warmed.alike.method?]; exact a1, a2, a4, _, by rw [hb]; exact hin, step⟩
  · rw [hrc] at f5
    dsimp only at f5
    split at f5
    · rename_i a vs hvs
      split at f5
      · rename_i c0 fs he
        have hc0 : c0 = ci := of_decide_eq_true f5
        subst hc0
        obtain ⟨cellB, hcB, hoB, hclB⟩ := xk_recv hK hP he hcl
        obtain ⟨mk', methM, hnamed, hmethM, hstM, habM⟩ := Cond.instanceMethod_spec (hts _ hinst)
        cases hn.symm.trans hnamed
        cases a1.symm.trans hmethM
        obtain ⟨c2, r2, m2, q1, q2, q3, q4, kP, hkP, hkPi⟩ := Cond.selects_spec (hts _ hsel)
        cases hclB.symm.trans q1
        cases (State.methodFound?_of_named hn hy).symm.trans q2
        cases hn.symm.trans q3
        have hselP : selectMethod e.platform s.vm cellB.cls mk = .method mk := by rw [Launch.admits_selectMethod X.admits]; exact q4
        have hlen2 : (vs.map (xk_v ad)).length = methY.sig.parameters.length := by
          rw [a7] at hlen
          have h8 := Option.some.inj hlen
          have h9 : ((st.take na).reverse).length = na := by rw [List.length_reverse, List.length_take, Nat.min_eq_left f1]
          rw [hvs] at h9
          simp only [List.length_cons] at h9
          rw [List.length_map]
          have h8 : methY.sig.parameters.length + 1 = na := h8
          omega
        have hst2 : st.map (xk_v ad) = (vs.map (xk_v ad)).reverse ++ .ref (ad a) :: (st.drop na).map (xk_v ad) := by
          rw [hst, hvs]
          simp [xk_v]
        have hvv : (((st.take na).reverse).map (xk_v ad)) = .ref (ad a) :: vs.map (xk_v ad) := by rw [hvs]; rfl
        rw [hvv]
        rcases hlink with hlink | ⟨host, hlink⟩
        · obtain ⟨vm₁, X₁, step⟩ := X.invokevirtual hexec hown (hts _ hlink) hn a1 hstM hkP hkPi hy (a := ad a) (cell := cellB) hcB (fun z h => by rw [h] at hoB; cases hoB) hselP a1 habM hkP hkPi (g := F0 m (xf_pc F k i) ls (st.map (xk_v ad))) rfl hlen2 hst2 (by rw [hb]; exact hin)
          exact ⟨mk, methY, cY, vm₁, X₁, X₁.named hn, by rw [X₁.warmed.alike.method?]; exact a1, a2, a4, _, by rw [hb]; exact hin, step⟩
        · obtain ⟨vm₁, X₁, step⟩ := X.invokevirtualNest hexec hown (hN _ hlink) hn a1 hstM hkP hkPi hy (a := ad a) (cell := cellB) hcB (fun z h => by rw [h] at hoB; cases hoB) hselP a1 habM hkP hkPi (g := F0 m (xf_pc F k i) ls (st.map (xk_v ad))) rfl hlen2 hst2 (by rw [hb]; exact hin)
          exact ⟨mk, methY, cY, vm₁, X₁, X₁.named hn, by rw [X₁.warmed.alike.method?]; exact a1, a2, a4, _, by rw [hb]; exact hin, step⟩
      · cases f5
    · cases f5
/-- a contract's start -/
def xk_Pc (cl : List vw_C) (NW : List Cond) (SW : List (String × Nat × String)) (D : va_G) (dA : Nat → ClassId) (ad : Nat → Nat) (w : xk_W) (sz : Nat) (vs : List Value) : Array Value → State → Prop := fun a U =>
  a = (vs.map (xk_v ad)).toArray ∧ U.heap.size = sz ∧ va_P D cl (xk_w dA ad w) U.heap ∧ va_K D cl (xk_t dA) U ∧ va_D (fun _ => True) (xk_w dA ad w) ∧ xk_G NW SW (va_A (xk_w dA ad w) sz) U U.heap
/-- and its end: 'exn x' is the name of the exceptions of the kind x -/
def xk_Qc (cl : List vw_C) (exn : Nat → String) (D : va_G) (dA : Nat → ClassId) (ad : Nat → Nat) (B : Nat → Prop) (o : Option Value ⊕ Nat) (w1 : xk_W) : Array Value → State → Outcome → State → Prop := fun _ st oc t =>
  va_F B st t ∧ va_P D cl (xk_w dA ad w1) t.heap ∧ (match o with
    | .inl v => oc = .returned (v.map (xk_v ad))
    | .inr x => ∃ (a : Nat) (ce : Cell), oc = .threw a ∧ t.heap[a]? = some ce ∧ ce.vm = .none ∧ t.vm.findClass (exn x) = some ce.cls)
def xk_rm (F : Nat → xk_F) (j d : Nat) : Room := { frames := (F j).2.2.2.2.1, cells := d, slots := 6 * d, locals := (F j).2.2.2.2.2.1 }
/-- **the contract** of the method j on these values and this world -/
def xk_Con (l : Launch) (F : Nat → xk_F) (cl : List vw_C) (BW NW : List Cond) (SW : List (String × Nat × String)) (exn : Nat → String) (j : Nat) (vs : List Value) (w : xk_W) (o : Option Value ⊕ Nat) (d : Nat) (w1 : xk_W) : Prop :=
  ∀ (D : va_G) (dA : Nat → ClassId) (ad : Nat → Nat) (sz : Nat), xk_Kn l (F j).1 BW (xk_rm F j d) (xk_Pc cl NW SW D dA ad w sz vs) (xk_Qc cl exn D dA ad (va_A (xk_w dA ad w) sz) o w1) d (6 * d) (va_A (xk_w dA ad w) sz)
/-- the walk, where an exception of the kind x has come to it -/
def xk_T (p : Program) (l : Launch) (e : Env) (R : Room) (s : State) (m : MethodId) (args : Array Value) (below : List Frame) (meth : Method) (c : Code) (Q : State → Prop) (nL : Nat) (D : va_G) (dA : Nat → ClassId) (ad : Nat → Nat) (A : Nat → Prop) (cl : List vw_C) (exn : Nat → String)
    (cells slots : Nat) (pc : Nat) (L st : List Value) (x : Nat) (w : xk_W) : Prop :=
  ∀ (ls : Array Slot) (H : Heap) (locs : List Loc) (a : Nat) (ce : Cell), lv_has ls nL (xk_l ad L) → va_P D cl (xk_w dA ad w) H → va_D A (xk_w dA ad w) → va_S A s.heap H locs → H[a]? = some ce → ce.vm = .none → s.vm.findClass (exn x) = some ce.cls →
    ∀ T : State, T.heap = H → Stand p l e R s m args below meth c T locs cells slots → ∃ t, Steps p.tables e below ((T.setTop (F0 m pc ls (st.map (xk_v ad)))).pushFrame (.throwing a)) t ∧ Q t
variable {exn : Nat → String}
theorem xk_D_len {B : Nat → Prop} (h : va_D B (xk_w dA ad w)) (hl : w1.length = w.length) : va_D B (xk_w dA ad w1) := by
  have key : ∀ (i : Nat) (q : Nat × va_E), (xk_w dA ad w1)[i]? = some q → ∃ q', (xk_w dA ad w)[i]? = some q' ∧ q'.1 = q.1 := by
    intro i q hq
    rw [xk_w_get, Option.map_eq_some_iff] at hq
    obtain ⟨x, hx, rfl⟩ := hq
    have hi : i < w.length := by rw [← hl]; exact (List.getElem?_eq_some_iff.mp hx).1
    exact ⟨_, xk_w_at (List.getElem?_eq_getElem hi), rfl⟩
  refine ⟨fun i j p q hp hq hpq => ?_, fun i q hq => ?_⟩
  · obtain ⟨p', hp', e1⟩ := key i p hp
    obtain ⟨q', hq', e2⟩ := key j q hq
    exact h.1 i j p' q' hp' hq' (by rw [e1, e2, hpq])
  · obtain ⟨q', hq', e2⟩ := key i q hq
    rw [← e2]
    exact h.2 i q' hq'
set_option maxHeartbeats 2000000 in
/-- **a call** -/
theorem xk_J_call {o : Option Value ⊕ Nat} {d : Nat} (hx : xk_X F P cl BW NW SW D dA ad A k p R s m args meth c) (hgood : ∀ q ∈ BW, goodWord q = true) (hgn : ∀ q ∈ NW, xk_nest q = true)
    (hc : xk_Oc F P cl BW NW k i j na) (hf : xk_fit P j na st w = true) (hM : xk_Con l F cl BW NW SW exn j ((st.take na).reverse) w o d w1) (hl : w1.length = w.length) (hr : cells + d ≤ R.cells ∧ slots + 6 * d ≤ R.slots)
    (kr : ∀ v, o = .inl v → xk_J p l e R s m args below meth c Q (P k).2.1 D dA ad A cl (cells + d) (slots + 6 * d) (xf_pc F k (i + 1)) L (v.toList ++ st.drop na) w1)
    (kt : ∀ x, o = .inr x → xk_T p l e R s m args below meth c Q (P k).2.1 D dA ad A cl exn (cells + d) (slots + 6 * d) (xf_pc F k i) L (st.drop na) x w1) :
    xk_J p l e R s m args below meth c Q (P k).2.1 D dA ad A cl cells slots (xf_pc F k i) L st w := by
  intro ls H locs g1 g2 g3 g4 T hT X
  subst hT
  obtain ⟨mk, methY, cY, vm₁, X₁, hn, a1, a2, a4, ig, hdg, step⟩ := xk_invoke X hx hc g2 hf (ls := ls)
  have hx0 := hx
  have hf0 := hf
  obtain ⟨hexec, hb, hml, hown, hts, hN, hK, hG, hA, hRf, hRl, hlk, hrt, hxt, hsc⟩ := hx
  obtain ⟨hnx, hcd, -, -, hini, hy, hr1, hr2, -⟩ := hc
  simp only [xk_fit, Bool.and_eq_true, decide_eq_true_eq] at hf
  obtain ⟨⟨⟨⟨f1, f2⟩, f3⟩, f4⟩, f5⟩ := hf
  have hcat : ∀ q : List Value, ((q.map (xk_v ad)).map fun v => v.category).sum ≤ 2 * q.length := by
    intro q
    induction q with
    | nil => exact Nat.le_refl _
    | cons u q ih =>
      have h9 : (xk_v ad u).category ≤ 2 := by cases u <;> simp [xk_v, Value.category]
      simp only [List.map_cons, List.sum_cons, List.length_cons]
      omega
  have hW : 2 * (F0 m (xf_pc F k i) ls ((st.drop na).map (xk_v ad))).monitorRoom + (((F0 m (xf_pc F k i) ls ((st.drop na).map (xk_v ad))).stack).map fun v => v.category).sum ≤ 12 := by
    show 2 * 0 + (((st.drop na).map (xk_v ad)).map fun v => v.category).sum ≤ 12
    have := hcat (st.drop na)
    rw [List.length_drop] at this
    omega
  have hAA : ∀ q, va_A (xk_w dA ad w) T.heap.size q → A q := by
    rintro q (⟨k9, e9, h9⟩ | h9)
    · exact g3.2 k9 _ h9
    · exact hA q (Nat.le_trans g4.1 h9)
  obtain ⟨o', t, B, L', XB, hL', hBh, hBv, hq, hsteps⟩ := xk_call X₁ (hM D dA ad T.heap.size) (g := F0 m (xf_pc F k i) ls ((st.drop na).map (xk_v ad))) rfl (by rw [hml]; exact g1.1) hdg hW hn a1 a2 a4
    (fun a' q hq => word_at X₁.warmed (good_of_word (hgood q hq)) (hts q hq)) (fun a' => word_at X₁.warmed (good_of_word (hgood _ hini)) (hts _ hini))
    (by show (F j).2.2.2.2.1 + 1 ≤ R.frames; omega) (by show 12 + ((P j).2.1 + 11) + (F j).2.2.2.2.2.1 ≤ R.locals; omega) (by show cells + d ≤ _; exact hr.1) (by show slots + 6 * d ≤ _; exact hr.2)
    (a := (((st.take na).reverse).map (xk_v ad)).toArray)
    (fun g mk => ⟨rfl, rfl, g2, va_K.moved (u := s) (U := (T.setVm vm₁).calling g mk _) X₁.warmed.alike hK, g3.weaken (fun _ _ _ _ => trivial),
      xk_G.same (u := T.setVm vm₁) hgn (hG.go hgn X₁.warmed (fun q h1 h2 => g4.2.1 q h1 h2) hAA) rfl⟩)
  obtain ⟨hF, hP1, ho⟩ := hq
  have hF1 : T.heap.size ≤ t.heap.size := hF.1
  have hF2 : ∀ q : Nat, q < T.heap.size → ¬ va_A (xk_w dA ad w) T.heap.size q → t.heap[q]? = T.heap[q]? := hF.2
  have hS1 : va_S A s.heap t.heap (locs ++ L') := by
    refine ⟨Nat.le_trans g4.1 hF1, fun q h1 h2 => ?_, fun q hq => ?_⟩
    · rw [hF2 q (Nat.lt_of_lt_of_le h1 g4.1) (fun z => h2 (hAA q z))]
      exact g4.2.1 q h1 h2
    · rcases List.mem_append.mp hq with h | h
      · exact g4.2.2 q h
      · exact hAA _ (hL' q h)
  have hD1 : va_D A (xk_w dA ad w1) := xk_D_len g3 hl
  cases o with
  | inl v =>
    dsimp only at ho
    subst ho
    obtain ⟨t2, s2, q2⟩ := kr v rfl ls t.heap (locs ++ L') g1 hP1 hD1 hS1 B hBh XB
    refine ⟨t2, step t2 (fun acts => ?_), q2⟩
    rw [doInvoke_state]
    refine hsteps.trans ?_
    have e1 : xk_after B (F0 m (xf_pc F k i) ls ((st.drop na).map (xk_v ad))) 3 (.returned (v.map (xk_v ad))) = B.setTop (F0 m (xf_pc F k (i + 1)) ls ((v.toList ++ st.drop na).map (xk_v ad))) := by
      have e2 : xf_pc F k (i + 1) = xf_pc F k i + 3 := hnx
      rw [e2]
      cases v <;> rfl
    rw [e1]
    exact s2
  | inr x =>
    obtain ⟨a, ce, rfl, h1, h2, h3⟩ := ho
    obtain ⟨t2, s2, q2⟩ := kt x rfl ls t.heap (locs ++ L') a ce g1 hP1 hD1 hS1 h1 h2 (by rw [← XB.warmed.alike.findClass, hBv]; exact h3) B hBh XB
    refine ⟨t2, step t2 (fun acts => ?_), q2⟩
    rw [doInvoke_state]
    exact hsteps.trans s2
end XkCall2
