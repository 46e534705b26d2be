/-! The interpreter is sound: the induction. -/
section XkSound2
variable {l : Launch} {cl : List vw_C} {F : Nat → xk_F} {P : Nat → xk_M} {BW NW : List Cond} {SW : List (String × Nat × String)} {exn : Nat → String}
/-- a return stands there, and fits the answer -/
def xk_rt (cc : ByteArray) (pc : Nat) (ret : Option FieldType) (v : Option Value) : Prop :=
  (v = none ∧ ret = none ∧ decode cc pc = .ok (.return_, 1)) ∨ ∃ x : Int32, v = some (.int x) ∧ decode cc pc = .ok (.ireturn, 1) ∧ (ret = some .int ∨ (ret = some .boolean ∧ (x = 0 ∨ x = 1)))
def xk_OkA (F : Nat → xk_F) (P : Nat → xk_M) (cl : List vw_C) (BW NW : List Cond) (SW : List (String × Nat × String)) (exn : Nat → String) (k i : Nat) (mi : Instr) : Prop := match mi with
  | .return_ => xf_in F k i .return_ 1 ∧ (F k).2.2.1 = none
  | .ireturn => xf_in F k i .ireturn 1 ∧ (F k).2.2.1 = some .int
  | .freturn => xf_in F k i .ireturn 1 ∧ (F k).2.2.1 = some .boolean
  | .new x => xk_On F BW NW SW exn k i x
  | .invokeinterface j na => xk_Oc F P cl BW NW k i j na
  | mi => xk_Ok F cl BW NW k i mi
set_option maxHeartbeats 2000000 in
theorem xk_OkA.plain {sc : Option (Nat × (Nat → Int32))} {k i : Nat} {mi : Instr} {L st : List Value} {w : xk_W} {q : xk_C} (hs : xk_step sc mi i L st w = some q) (h : xk_OkA F P cl BW NW SW exn k i mi) : xk_Ok F cl BW NW k i mi := by
  cases mi <;> first
    | exact h
    | (simp only [xk_step] at hs; cases hs)
set_option maxHeartbeats 4000000 in
theorem xk_step_len {sc : Option (Nat × (Nat → Int32))} {i i1 : Nat} {mi : Instr} {L L1 st st1 : List Value} {w w1 : xk_W} (hs : xk_step sc mi i L st w = some (i1, L1, st1, w1)) : L1.length = L.length ∧ w1.length = w.length := by
  cases mi <;> first
    | (simp only [xk_step] at hs; cases hs; done)
    | (simp only [xk_step] at hs
       repeat' (first
         | (cases hs; done)
         | (cases hs; simp; done)
         | split at hs))
theorem xk_run_len : ∀ (n k i : Nat) (L st : List Value) (w : xk_W) (o : Option Value ⊕ Nat) (d : Nat) (w' : xk_W), xk_run P n k i L st w = some (o, d, w') → w'.length = w.length
  | 0, k, i, L, st, w, o, d, w', h => by cases h
  | n + 1, k, i, L, st, w, o, d, w', h => by
    have h : xk_body P (xk_run P n) k i L st w = some (o, d, w') := h
    unfold xk_body at h
    split at h
    · cases h
    · split at h
      · split at h
        · cases h; rfl
        · cases h
      · split at h
        · cases h; rfl
        · cases h
      · split at h
        · split at h
          · cases h; rfl
          · cases h
        · cases h
      · split at h
        · cases h; rfl
        · cases h
      · split at h
        · split at h
          · cases h
          · rename_i h1
            split at h
            · cases h
            · rename_i h2
              cases h
              rw [xk_run_len n _ _ _ _ _ _ _ _ h2, xk_run_len n _ _ _ _ _ _ _ _ h1]
          · rename_i h1
            split at h
            · cases h
              exact xk_run_len n _ _ _ _ _ _ _ _ h1
            · split at h
              · cases h
              · cases h
                exact xk_run_len n _ _ _ _ _ _ _ _ h1
        · cases h
      · split at h
        · cases h
        · rename_i h1
          rw [xk_run_len n _ _ _ _ _ _ _ _ h, (xk_step_len h1).2]
/-- the program is linked as its tables say -/
def xk_Good (l : Launch) (F : Nat → xk_F) (P : Nat → xk_M) (cl : List vw_C) (BW NW : List Cond) (SW : List (String × Nat × String)) (exn : Nat → String) : Prop :=
  (∀ k i mi, (P k).1[i]? = some mi → xk_OkA F P cl BW NW SW exn k i mi) ∧ (∀ q ∈ BW, goodWord q = true) ∧ (∀ q ∈ NW, xk_nest q = true) ∧ l.stackTraces = false ∧ (∀ k, plainName (F k).1.cls = true) ∧ (∀ k, (P k).2.2.2.1 = [] → (F k).2.2.2.2.2.2 = [])
/-- what is caught -/
def xk_Cat (l : Launch) (F : Nat → xk_F) (P : Nat → xk_M) (cl : List vw_C) (BW NW : List Cond) (SW : List (String × Nat × String)) (exn : Nat → String) : Prop :=
  ∀ (k i j na x : Nat) (z : Nat × Int), (P k).1[i]? = some (.invokeinterface j na) → (P k).2.2.2.1.find? (fun q => q.1 == x) = some z →
    ∀ (p : Program) (e : Env) (R : Room) (s : State) (m : MethodId) (args : Array Value) (below : List Frame) (meth : Method) (c : Code) (Q : State → Prop) (D : va_G) (dA : Nat → ClassId) (ad : Nat → Nat) (A : Nat → Prop) (cells slots : Nat) (L st : List Value) (w : xk_W),
      xk_X F P cl BW NW SW D dA ad A k p R s m args meth c → (∀ pc L', xk_rt (F k).2.1 pc (F k).2.2.1 (some (.int (Int32.ofInt z.2))) → xk_J p l e R s m args below meth c Q (P k).2.1 D dA ad A cl cells slots pc L' [.int (Int32.ofInt z.2)] w) →
      xk_T p l e R s m args below meth c Q (P k).2.1 D dA ad A cl exn cells slots (xf_pc F k i) L st x w
/-- what the soundness of n steps says -/
def xk_Snd (l : Launch) (F : Nat → xk_F) (P : Nat → xk_M) (cl : List vw_C) (BW NW : List Cond) (SW : List (String × Nat × String)) (exn : Nat → String) (n : Nat) : Prop :=
  ∀ (k i : Nat) (L st : List Value) (w : xk_W) (o : Option Value ⊕ Nat) (d : Nat) (w' : xk_W), xk_run P n k i L st w = some (o, d, w') → L.length = (P k).2.1 →
    ∀ (p : Program) (e : Env) (R : Room) (s : State) (m : MethodId) (args : Array Value) (below : List Frame) (meth : Method) (c : Code) (Q : State → Prop) (D : va_G) (dA : Nat → ClassId) (ad : Nat → Nat) (A : Nat → Prop) (cells slots : Nat),
      xk_X F P cl BW NW SW D dA ad A k p R s m args meth c → cells + d ≤ R.cells ∧ slots + 6 * d ≤ R.slots →
      (∀ pc L' v, o = .inl v → xk_rt (F k).2.1 pc (F k).2.2.1 v → xk_J p l e R s m args below meth c Q (P k).2.1 D dA ad A cl (cells + d) (slots + 6 * d) pc L' v.toList w') →
      (∀ x, o = .inr x → xk_ET below s Q D dA ad A cl exn (cells + d) (slots + 6 * d) x w') →
      xk_J p l e R s m args below meth c Q (P k).2.1 D dA ad A cl cells slots (xf_pc F k i) L st w
theorem xk_args_mem {ad : Nat → Nat} : ∀ (vs : List Value) (a : Nat), (∀ v ∈ vs, xk_one v = true) → ∀ (j : Nat) (u v : Value), vs[j]? = some u → xk_c ad u = some v → (a + j, v) ∈ lv_args a (vs.map (xk_v ad))
  | [], a, _, j, u, v, h, _ => by simp at h
  | x :: vs, a, hv, j, u, v, h, h2 => by
    have hx := xk_one_cat (ad := ad) (hv x (List.mem_cons_self))
    show (a + j, v) ∈ (a, xk_v ad x) :: lv_args (if (xk_v ad x).category = 2 then a + 2 else a + 1) (vs.map (xk_v ad))
    rw [if_neg (by omega)]
    cases j with
    | zero =>
      have e1 : x = u := by simpa using h
      subst e1
      have e2 : xk_v ad x = v := by
        cases x <;> simp only [xk_c, Option.some.injEq, reduceCtorEq] at h2 <;> subst h2 <;> rfl
      rw [e2]
      exact List.mem_cons_self
    | succ j =>
      have := xk_args_mem vs (a + 1) (fun y hy => hv y (List.mem_cons_of_mem _ hy)) j u v (by simpa using h) h2
      rw [show a + (j + 1) = a + 1 + j by omega]
      exact List.mem_cons_of_mem _ this
theorem xk_sl_len {ad : Nat → Nat} : ∀ (vs : List Value), (∀ v ∈ vs, xk_one v = true) → (lg_sl (vs.map (xk_v ad))).length = vs.length
  | [], _ => rfl
  | x :: vs, hv => by
    have hx := xk_one_cat (ad := ad) (hv x (List.mem_cons_self))
    have ih := xk_sl_len (ad := ad) vs (fun y hy => hv y (List.mem_cons_of_mem _ hy))
    have e1 : lg_sl ((x :: vs).map (xk_v ad)) = [.val (xk_v ad x)] ++ lg_sl (vs.map (xk_v ad)) := by
      unfold lg_sl
      rw [List.map_cons, List.flatMap_cons, if_neg (by omega)]
    rw [e1, List.length_append, ih]
    simp [Nat.add_comm]
theorem xk_entry {ad : Nat → Nat} {vs : List Value} {n : Nat} (hv : ∀ v ∈ vs, xk_one v = true) (hn : vs.length ≤ n) :
    lv_has ((lg_sl (vs.map (xk_v ad)) ++ List.replicate (n - (lg_sl (vs.map (xk_v ad))).length) Slot.unset).toArray) n (xk_l ad (vs ++ List.replicate (n - vs.length) (.retAddr 0))) := by
  have h := lv_entry (vs.map (xk_v ad)) (n := n) (by rw [xk_sl_len vs hv]; exact hn)
  refine ⟨h.1, h.2.1, fun q hq => h.2.2 q ?_⟩
  obtain ⟨j, v⟩ := q
  obtain ⟨u, g1, g2⟩ := xk_l_mem.mp hq
  by_cases hj : j < vs.length
  · rw [List.getElem?_append_left hj] at g1
    have := xk_args_mem vs 0 hv j u v g1 g2
    rw [Nat.zero_add] at this
    exact this
  · rw [List.getElem?_append_right (by omega)] at g1
    have e1 := List.eq_of_mem_replicate (List.mem_of_getElem? g1)
    subst e1
    simp [xk_c] at g2
set_option maxHeartbeats 4000000 in
/-- from the soundness of n steps to a method's contract -/
theorem xk_con_of (hg : xk_Good l F P cl BW NW SW exn) {n j : Nat} (hcd : xf_cd F P BW j) (hns : (P j).2.2.2.2 = none) (hpc0 : xf_pc F j 0 = 0) (hS : xk_Snd l F P cl BW NW SW exn n) {vs : List Value} {w w1 : xk_W} {o : Option Value ⊕ Nat} {d : Nat} (hv : ∀ v ∈ vs, xk_one v = true) (hn : vs.length ≤ (P j).2.1)
    (hrun : xk_run P n j 0 (vs ++ List.replicate ((P j).2.1 - vs.length) (.retAddr 0)) [] w = some (o, d, w1)) : xk_Con l F cl BW NW SW exn j vs w o d w1 := by
  obtain ⟨hOk, hgood, hnest, htr, hplain, hnoh⟩ := hg
  intro D dA ad sz
  refine xk_Kn.ofW (cc := (F j).2.1) (maxL := (P j).2.1) (ret := (F j).2.2.1) (hplain j) (fun args s m hw hnm => ?_) ?_
  · obtain ⟨mk, methY, cY, h1, h2, h3, h4, h5, h6, h7, -⟩ := hcd.spec hw
    cases hnm.symm.trans h1
    exact ⟨methY, cY, h2, h3, h4, h5, h6, h7⟩
  · intro p e s m args below meth c s₁ B hml hPc
    obtain ⟨rfl, rfl, hP, hK, hD, hG⟩ := hPc
    have hts : ∀ q ∈ BW, q.before (vs.map (xk_v ad)).toArray s = true := fun q hq => atoms_spec (ws := BW) B.pre q hq
    obtain ⟨mk, methY, cY, h1, h2, h3, h4, h5, h6, h7, -, h8⟩ := hcd.spec hts
    cases B.named.symm.trans h1
    cases B.method.symm.trans h2
    have hcc : c = cY := Option.some.inj ((Stand.of_body B).code.symm.trans h3)
    subst hcc
    have hl := xk_entry (ad := ad) hv hn
    rw [lg_entry_eq]
    have hx : xk_X F P cl BW NW SW D dA ad (va_A (xk_w dA ad w) s.heap.size) j p (headSpec BW (xk_rm F j d)).room s m (vs.map (xk_v ad)).toArray meth c :=
      ⟨B.exec, B.bytes, hml, findClass_of_methodNamed B.named, hts, fun q hq => xk_nest_tabs (hnest q hq) rfl (hG.1 q hq), hK, hG, fun q hq => Or.inr hq, Nat.le_refl _, Nat.le_refl _, B.notSynchronized, B.returns, h8, fun n f hnf => by rw [hns] at hnf; cases hnf⟩
    have key := hS j 0 _ [] w o d w1 hrun (by rw [List.length_append, List.length_replicate]; omega) p e (headSpec BW (xk_rm F j d)).room s m (vs.map (xk_v ad)).toArray below meth c
      (xk_MQ below (xk_Qc cl exn D dA ad (va_A (xk_w dA ad w) s.heap.size) o w1) (vs.map (xk_v ad)).toArray s d (6 * d) (va_A (xk_w dA ad w) s.heap.size)) D dA ad (va_A (xk_w dA ad w) s.heap.size) 0 0 hx (by constructor <;> (rw [Nat.zero_add]; exact Nat.le_refl _)) ?_ ?_
    · have k2 := key _ s.heap [] hl hP hD.self va_S.rf
      rw [hpc0] at k2
      exact k2
    · intro pc L' v ho hrt ls H locs g1 g2 g3 g4
      subst ho
      rw [Nat.zero_add, Nat.zero_add]
      refine xk_Wmono (fun t ht => xk_MQ.of ht) ?_
      rcases hrt with ⟨rfl, hr, hd⟩ | ⟨x, rfl, hd, hr⟩
      · exact W.vret B.exec B.bytes (B.returns.trans hr) (fun t ht hW => ⟨g4.F ht, by rw [ht]; exact g2, rfl⟩) g4.2.2 hd
      · rcases hr with hr | ⟨hr, hx01⟩
        · exact W.iret B.exec B.bytes (B.returns.trans hr) (fun t ht hW => ⟨g4.F ht, by rw [ht]; exact g2, rfl⟩) g4.2.2 hd
        · exact W.zret B.exec B.bytes (B.returns.trans hr) (by rcases hx01 with rfl | rfl <;> rfl) (fun t ht hW => ⟨g4.F ht, by rw [ht]; exact g2, rfl⟩) g4.2.2 hd
    · intro x ho U a ce locs u1 u2 u3 u4 u5 u6 u7 u8 u9
      subst ho
      rw [Nat.zero_add, Nat.zero_add] at u4
      exact ⟨.threw a, u1, u2, ⟨u6.F rfl, u5, a, ce, rfl, u7, u8, u9⟩, locs, ⟨u3, u4⟩, u6.2.2⟩
set_option maxHeartbeats 4000000 in
theorem xk_sound (hg : xk_Good l F P cl BW NW SW exn) (hcat : xk_Cat l F P cl BW NW SW exn) : ∀ n, xk_Snd l F P cl BW NW SW exn n
  | 0 => fun k i L st w o d w' h => by cases h
  | n + 1 => by
    intro k i L st w o d w' h hL p e R s m args below meth c Q D dA ad A cells slots hx hr hR hT
    have ih := xk_sound hg hcat n
    have hg0 := hg
    obtain ⟨hOk, hgood, hnest, htr, hplain, hnoh⟩ := hg
    have h : xk_body P (xk_run P n) k i L st w = some (o, d, w') := h
    unfold xk_body at h
    split at h
    · cases h
    · rename_i mi hmi
      have hok := hOk k i mi hmi
      split at h
      · split at h
        · cases h
          have hok : xf_in F k i .return_ 1 ∧ (F k).2.2.1 = none := hok
          exact hR (xf_pc F k i) L none rfl (Or.inl ⟨rfl, hok.2, hok.1⟩)
        · cases h
      · split at h
        · cases h
          rename_i x
          have hok : xf_in F k i .ireturn 1 ∧ (F k).2.2.1 = some .int := hok
          exact hR (xf_pc F k i) L (some (.int x)) rfl (Or.inr ⟨x, rfl, hok.1, Or.inl hok.2⟩)
        · cases h
      · split at h
        · split at h
          · rename_i hx01
            cases h
            have hok : xf_in F k i .ireturn 1 ∧ (F k).2.2.1 = some .boolean := hok
            exact hR (xf_pc F k i) L _ rfl (Or.inr ⟨_, rfl, hok.1, Or.inr ⟨hok.2, hx01⟩⟩)
          · cases h
        · cases h
      · split at h
        · cases h
          exact xk_J_throw hx hgood htr hok hr (hT _ rfl)
        · cases h
      · rename_i j na
        have hok : xk_Oc F P cl BW NW k i j na := hok
        split at h
        · rename_i hf
          have hf0 := hf
          simp only [xk_fit, Bool.and_eq_true, decide_eq_true_eq] at hf
          obtain ⟨⟨⟨⟨f1, f2⟩, f3⟩, f4⟩, -⟩ := hf
          have hlen : ((st.take na).reverse).length = na := by rw [List.length_reverse, List.length_take, Nat.min_eq_left f1]
          have hone : ∀ v ∈ (st.take na).reverse, xk_one v = true := fun v hv => List.all_eq_true.mp f4 v (List.mem_reverse.mp hv)
          split at h
          · cases h
          · rename_i v d1 w1 h1
            split at h
            · cases h
            · rename_i o2 d2 w2 h2
              cases h
              have hcon : xk_Con l F cl BW NW SW exn j ((st.take na).reverse) w (.inl v) d1 w1 := xk_con_of hg0 hok.2.1 hok.2.2.1 hok.2.2.2.1 ih hone (by rw [hlen]; exact f3) (by rw [hlen]; exact h1)
              refine xk_J_call hx hgood hnest hok hf0 hcon (xk_run_len _ _ _ _ _ _ _ _ _ h1) (by constructor <;> omega) (fun v2 e2 => ?_) (fun x e2 => by cases e2)
              cases e2
              refine ih k (i + 1) L _ w1 _ d2 _ h2 hL p e R s m args below meth c Q D dA ad A (cells + d1) (slots + 6 * d1) hx (by constructor <;> omega) (fun pc L' v e3 e4 => ?_) (fun x e3 => ?_)
              · have := hR pc L' v e3 e4
                rw [show cells + d1 + d2 = cells + (d1 + d2) by omega, show slots + 6 * d1 + 6 * d2 = slots + 6 * (d1 + d2) by omega]
                exact this
              · have := hT x e3
                rw [show cells + d1 + d2 = cells + (d1 + d2) by omega, show slots + 6 * d1 + 6 * d2 = slots + 6 * (d1 + d2) by omega]
                exact this
          · rename_i x d1 w1 h1
            have hcon : xk_Con l F cl BW NW SW exn j ((st.take na).reverse) w (.inr x) d1 w1 := xk_con_of hg0 hok.2.1 hok.2.2.1 hok.2.2.2.1 ih hone (by rw [hlen]; exact f3) (by rw [hlen]; exact h1)
            split at h
            · rename_i hh
              cases h
              refine xk_J_call hx hgood hnest hok hf0 hcon (xk_run_len _ _ _ _ _ _ _ _ _ h1) hr (fun v2 e2 => by cases e2) (fun x2 e2 => ?_)
              cases e2
              exact xk_T_out hx (hnoh k (List.isEmpty_iff.mp hh)) (hT _ rfl)
            · split at h
              · cases h
              · rename_i z hh
                cases h
                refine xk_J_call hx hgood hnest hok hf0 hcon (xk_run_len _ _ _ _ _ _ _ _ _ h1) hr (fun v2 e2 => by cases e2) (fun x2 e2 => ?_)
                cases e2
                exact hcat k i j na x z hmi hh p e R s m args below meth c Q D dA ad A _ _ L _ w' hx (fun pc L' e3 => hR pc L' _ rfl e3)
        · cases h
      · split at h
        · cases h
        · rename_i i1 L1 st1 w1 hs
          have hok2 := xk_OkA.plain hs hok
          refine xk_step_sound hx hok2 hL (by constructor <;> omega) hs ?_
          exact ih k i1 L1 st1 w1 o d w' h ((xk_step_len hs).1.trans hL) p e R s m args below meth c Q D dA ad A cells slots hx hr hR hT
end XkSound2
