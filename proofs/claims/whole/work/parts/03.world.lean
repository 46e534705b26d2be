/-! Worlds whose references are places, and the walk's rows over them. -/
section XkWorld
/-- a value: a reference is a place in the world, 'ad' has the places' addresses -/
def xk_v (ad : Nat → Nat) (v : Value) : Value := match v with
  | .ref k => .ref (ad k)
  | v => v
/-- a cell of the world: an array (its kind, its length, what it holds), or an object (its class's number, its fields) -/
abbrev xk_E : Type := (Nat × Nat × ((Nat → Int32) ⊕ (Nat → Int64))) ⊕ (Nat × List Value)
abbrev xk_W : Type := List xk_E
def xk_e (dA : Nat → ClassId) (ad : Nat → Nat) (x : xk_E) : va_E := match x with
  | .inl (t, n, .inl f) => .inl (dA t, n, .inl f)
  | .inl (t, n, .inr f) => .inl (dA t, n, .inr (.inl f))
  | .inr (c, fs) => .inr (c, fs.map (xk_v ad))
def xk_w (dA : Nat → ClassId) (ad : Nat → Nat) (w : xk_W) : va_W := w.mapIdx (fun i x => (ad i, xk_e dA ad x))
theorem xk_w_get (dA : Nat → ClassId) (ad : Nat → Nat) (w : xk_W) (i : Nat) : (xk_w dA ad w)[i]? = (w[i]?).map (fun x => (ad i, xk_e dA ad x)) := by
  simp [xk_w]
theorem xk_w_at {dA : Nat → ClassId} {ad : Nat → Nat} {w : xk_W} {i : Nat} {x : xk_E} (h : w[i]? = some x) : (xk_w dA ad w)[i]? = some (ad i, xk_e dA ad x) := by
  rw [xk_w_get, h]; rfl
theorem xk_w_set (dA : Nat → ClassId) (ad : Nat → Nat) (w : xk_W) (i : Nat) (x : xk_E) : xk_w dA ad (w.set i x) = (xk_w dA ad w).set i (ad i, xk_e dA ad x) := by
  apply List.ext_getElem?
  intro j
  rw [xk_w_get, List.getElem?_set, List.getElem?_set, xk_w_get]
  by_cases h : i = j
  · subst h
    by_cases h2 : i < w.length
    · simp [h2, xk_w]
    · simp [h2, xk_w]
  · simp [h]
theorem xk_w_len (dA : Nat → ClassId) (ad : Nat → Nat) (w : xk_W) : (xk_w dA ad w).length = w.length := by simp [xk_w]
/-- a local variable's value, if it is one that the walk reads -/
def xk_c (ad : Nat → Nat) (v : Value) : Option Value := match v with
  | .int x => some (.int x)
  | .ref k => some (.ref (ad k))
  | .null => some .null
  | _ => none
def xk_l (ad : Nat → Nat) (L : List Value) : List (Nat × Value) := (List.range L.length).filterMap (fun i => (L[i]?.bind (xk_c ad)).map (fun v => (i, v)))
theorem xk_l_mem {ad : Nat → Nat} {L : List Value} {i : Nat} {v : Value} : (i, v) ∈ xk_l ad L ↔ ∃ u, L[i]? = some u ∧ xk_c ad u = some v := by
  unfold xk_l
  rw [List.mem_filterMap]
  constructor
  · rintro ⟨j, hj, h⟩
    rw [Option.map_eq_some_iff] at h
    obtain ⟨v2, h2, h3⟩ := h
    cases h3
    rw [Option.bind_eq_some_iff] at h2
    exact h2
  · rintro ⟨u, h1, h2⟩
    refine ⟨i, List.mem_range.mpr (List.getElem?_eq_some_iff.mp h1).1, ?_⟩
    rw [h1]
    simp [h2]
theorem xk_c_cat {ad : Nat → Nat} {u v : Value} (h : xk_c ad u = some v) : v.category = 1 := by
  cases u <;> simp only [xk_c, Option.some.injEq, reduceCtorEq] at h <;> subst h <;> rfl
theorem xk_l_at {ad : Nat → Nat} {L : List Value} {ls : Array Slot} {nL i : Nat} {u v : Value} (h : lv_has ls nL (xk_l ad L)) (h1 : L[i]? = some u) (h2 : xk_c ad u = some v) : ls[i]? = some (.val v) :=
  h.2.2 (i, v) (xk_l_mem.mpr ⟨u, h1, h2⟩)
theorem xk_l_set {ad : Nat → Nat} {L : List Value} {ls : Array Slot} {nL i : Nat} {u v : Value} (hi : i < L.length) (h2 : xk_c ad u = some v)
    (h : lv_has ls nL ((i, v) :: (xk_l ad L).filter (fun q => !(q.1 == i) && !(q.1 + 1 == i && q.2.category == 2)))) : lv_has ls nL (xk_l ad (L.set i u)) := by
  refine ⟨h.1, h.2.1, fun q hq => h.2.2 q ?_⟩
  obtain ⟨j, v2⟩ := q
  obtain ⟨u2, g1, g2⟩ := xk_l_mem.mp hq
  rw [List.getElem?_set] at g1
  by_cases hij : i = j
  · subst hij
    rw [if_pos rfl, if_pos hi] at g1
    cases g1
    rw [h2] at g2
    cases g2
    exact List.mem_cons_self
  · rw [if_neg hij] at g1
    refine List.mem_cons_of_mem _ (List.mem_filter.mpr ⟨xk_l_mem.mpr ⟨u2, g1, g2⟩, ?_⟩)
    have hc := xk_c_cat g2
    have hji : ¬ j = i := fun e => hij e.symm
    simp [hji, hc]
variable {p : Program} {l : Launch} {e : Env} {R : Room} {s : State} {m : MethodId} {args : Array Value} {below : List Frame} {meth : Method} {c : Code}
/-- **the judgement**: the walk of this invocation, at pc with these locals, this stack and this world, comes to a state with Q, over every heap that holds the world -/
def xk_J (p : Program) (l : Launch) (e : Env) (R : Room) (s : State) (m : MethodId) (args : Array Value) (below : List Frame) (meth : Method) (c : Code) (Q : State → Prop) (nL : Nat) (D : va_G) (dA : Nat → ClassId) (ad : Nat → Nat) (A : Nat → Prop) (cl : List vw_C)
    (cells slots : Nat) (pc : Nat) (L st : List Value) (w : xk_W) : Prop :=
  ∀ (ls : Array Slot) (H : Heap) (locs : List Loc), lv_has ls nL (xk_l ad L) → va_P D cl (xk_w dA ad w) H → va_D A (xk_w dA ad w) → va_S A s.heap H locs →
    W p l e R s m args below meth c H locs cells slots Q (F0 m pc ls (st.map (xk_v ad)))
variable {Q : State → Prop} {nL : Nat} {D : va_G} {dA : Nat → ClassId} {ad : Nat → Nat} {A : Nat → Prop} {cl : List vw_C} {cells slots : Nat} {pc : Nat} {L st r : List Value} {w : xk_W} {cc : ByteArray}
theorem xk_iconst (hexec : p.tables.exec = Jvm.exec) (hb : c.code = cc) {n : Int} {v : Int32} (hd : decode cc pc = .ok (.iconst n, 1)) (hv : Int32.ofInt n = v)
    (k : xk_J p l e R s m args below meth c Q nL D dA ad A cl cells slots (pc + 1) L (.int v :: st) w) : xk_J p l e R s m args below meth c Q nL D dA ad A cl cells slots pc L st w :=
  fun ls H locs h1 h2 h3 h4 => lv_iconst hexec hb hd hv (k ls H locs h1 h2 h3 h4)
theorem xk_bipush (hexec : p.tables.exec = Jvm.exec) (hb : c.code = cc) {n : Int} {v : Int32} (hd : decode cc pc = .ok (.bipush n, 2)) (hv : (Int8.ofInt n).toInt32 = v)
    (k : xk_J p l e R s m args below meth c Q nL D dA ad A cl cells slots (pc + 2) L (.int v :: st) w) : xk_J p l e R s m args below meth c Q nL D dA ad A cl cells slots pc L st w :=
  fun ls H locs h1 h2 h3 h4 => lv_bipush hexec hb hd hv (k ls H locs h1 h2 h3 h4)
theorem xk_sipush (hexec : p.tables.exec = Jvm.exec) (hb : c.code = cc) {n : Int} {v : Int32} (hd : decode cc pc = .ok (.sipush n, 3)) (hv : (Int16.ofInt n).toInt32 = v)
    (k : xk_J p l e R s m args below meth c Q nL D dA ad A cl cells slots (pc + 3) L (.int v :: st) w) : xk_J p l e R s m args below meth c Q nL D dA ad A cl cells slots pc L st w :=
  fun ls H locs h1 h2 h3 h4 => lv_sipush hexec hb hd hv (k ls H locs h1 h2 h3 h4)
theorem xk_lconst (hexec : p.tables.exec = Jvm.exec) (hb : c.code = cc) {n : Fin 2} {v : Int64} (hd : decode cc pc = .ok (.lconst n, 1)) (hv : Int64.ofNat (n : Nat) = v)
    (k : xk_J p l e R s m args below meth c Q nL D dA ad A cl cells slots (pc + 1) L (.long v :: st) w) : xk_J p l e R s m args below meth c Q nL D dA ad A cl cells slots pc L st w :=
  fun ls H locs h1 h2 h3 h4 => lv_lconst hexec hb hd hv (k ls H locs h1 h2 h3 h4)
theorem xk_iload (hexec : p.tables.exec = Jvm.exec) (hb : c.code = cc) {i : Nat} {x : Int32} {d : Nat} (hd : (decode cc pc = .ok (.iload i, 2) ∧ d = 2) ∨ ∃ k : Fin 4, (k : Nat) = i ∧ decode cc pc = .ok (.iload_n k, 1) ∧ d = 1) (hi : L[i]? = some (.int x))
    (k : xk_J p l e R s m args below meth c Q nL D dA ad A cl cells slots (pc + d) L (.int x :: st) w) : xk_J p l e R s m args below meth c Q nL D dA ad A cl cells slots pc L st w := by
  intro ls H locs h1 h2 h3 h4
  have hg := xk_l_at h1 hi rfl
  rcases hd with ⟨hd, rfl⟩ | ⟨q, hq, hd, rfl⟩
  · exact lv_iload hexec hb hd hg (k ls H locs h1 h2 h3 h4)
  · exact lv_iload_n hexec hb hd hq hg (k ls H locs h1 h2 h3 h4)
theorem xk_aload (hexec : p.tables.exec = Jvm.exec) (hb : c.code = cc) {i : Nat} {x : Nat} {d : Nat} (hd : (decode cc pc = .ok (.aload i, 2) ∧ d = 2) ∨ ∃ k : Fin 4, (k : Nat) = i ∧ decode cc pc = .ok (.aload_n k, 1) ∧ d = 1) (hi : L[i]? = some (.ref x))
    (k : xk_J p l e R s m args below meth c Q nL D dA ad A cl cells slots (pc + d) L (.ref x :: st) w) : xk_J p l e R s m args below meth c Q nL D dA ad A cl cells slots pc L st w := by
  intro ls H locs h1 h2 h3 h4
  have hg := xk_l_at h1 hi rfl
  rcases hd with ⟨hd, rfl⟩ | ⟨q, hq, hd, rfl⟩
  · exact lv_aload hexec hb hd hg (k ls H locs h1 h2 h3 h4)
  · exact lv_aload_n hexec hb hd hq hg (k ls H locs h1 h2 h3 h4)
theorem xk_istore (hexec : p.tables.exec = Jvm.exec) (hb : c.code = cc) {i : Nat} {x : Int32} {d : Nat} (hd : (decode cc pc = .ok (.istore i, 2) ∧ d = 2) ∨ ∃ k : Fin 4, (k : Nat) = i ∧ decode cc pc = .ok (.istore_n k, 1) ∧ d = 1) (hi : i < L.length) (hn : i < nL)
    (k : xk_J p l e R s m args below meth c Q nL D dA ad A cl cells slots (pc + d) (L.set i (.int x)) r w) : xk_J p l e R s m args below meth c Q nL D dA ad A cl cells slots pc L (.int x :: r) w := by
  intro ls H locs h1 h2 h3 h4
  rcases hd with ⟨hd, rfl⟩ | ⟨q, hq, hd, rfl⟩
  · exact lv_istore hexec hb hd h1 hn rfl (fun ls' h' => k ls' H locs (xk_l_set hi rfl h') h2 h3 h4)
  · exact lv_istore_n hexec hb hd hq h1 hn rfl (fun ls' h' => k ls' H locs (xk_l_set hi rfl h') h2 h3 h4)
theorem xk_astore (hexec : p.tables.exec = Jvm.exec) (hb : c.code = cc) {i : Nat} {x : Nat} {d : Nat} (hd : (decode cc pc = .ok (.astore i, 2) ∧ d = 2) ∨ ∃ k : Fin 4, (k : Nat) = i ∧ decode cc pc = .ok (.astore_n k, 1) ∧ d = 1) (hi : i < L.length) (hn : i < nL)
    (k : xk_J p l e R s m args below meth c Q nL D dA ad A cl cells slots (pc + d) (L.set i (.ref x)) r w) : xk_J p l e R s m args below meth c Q nL D dA ad A cl cells slots pc L (.ref x :: r) w := by
  intro ls H locs h1 h2 h3 h4
  rcases hd with ⟨hd, rfl⟩ | ⟨q, hq, hd, rfl⟩
  · exact lv_astore hexec hb hd h1 hn rfl (fun ls' h' => k ls' H locs (xk_l_set hi rfl h') h2 h3 h4)
  · exact lv_astore_n hexec hb hd hq h1 hn rfl (fun ls' h' => k ls' H locs (xk_l_set hi rfl h') h2 h3 h4)
theorem xk_iinc (hexec : p.tables.exec = Jvm.exec) (hb : c.code = cc) {i : Nat} {n : Int} {x : Int32} (hd : decode cc pc = .ok (.iinc i n, 3)) (hx : L[i]? = some (.int x)) (hn : i < nL)
    (k : xk_J p l e R s m args below meth c Q nL D dA ad A cl cells slots (pc + 3) (L.set i (.int (x + Int32.ofInt n))) st w) : xk_J p l e R s m args below meth c Q nL D dA ad A cl cells slots pc L st w := by
  intro ls H locs h1 h2 h3 h4
  obtain ⟨j, hj⟩ := List.getElem?_of_mem (xk_l_mem.mpr ⟨_, hx, rfl⟩ : (i, Value.int x) ∈ xk_l ad L)
  exact lv_iinc hexec hb hd h1 hj rfl hn rfl (fun ls' h' => k ls' H locs (xk_l_set (List.getElem?_eq_some_iff.mp hx).1 rfl h') h2 h3 h4)
theorem xk_iadd (hexec : p.tables.exec = Jvm.exec) (hb : c.code = cc) {x y : Int32} (hd : decode cc pc = .ok (.iadd, 1)) (k : xk_J p l e R s m args below meth c Q nL D dA ad A cl cells slots (pc + 1) L (.int (x + y) :: r) w) : xk_J p l e R s m args below meth c Q nL D dA ad A cl cells slots pc L (.int y :: .int x :: r) w :=
  fun ls H locs h1 h2 h3 h4 => lv_iadd hexec hb hd (k ls H locs h1 h2 h3 h4)
theorem xk_isub (hexec : p.tables.exec = Jvm.exec) (hb : c.code = cc) {x y : Int32} (hd : decode cc pc = .ok (.isub, 1)) (k : xk_J p l e R s m args below meth c Q nL D dA ad A cl cells slots (pc + 1) L (.int (x - y) :: r) w) : xk_J p l e R s m args below meth c Q nL D dA ad A cl cells slots pc L (.int y :: .int x :: r) w :=
  fun ls H locs h1 h2 h3 h4 => lv_isub hexec hb hd (k ls H locs h1 h2 h3 h4)
theorem xk_imul (hexec : p.tables.exec = Jvm.exec) (hb : c.code = cc) {x y : Int32} (hd : decode cc pc = .ok (.imul, 1)) (k : xk_J p l e R s m args below meth c Q nL D dA ad A cl cells slots (pc + 1) L (.int (x * y) :: r) w) : xk_J p l e R s m args below meth c Q nL D dA ad A cl cells slots pc L (.int y :: .int x :: r) w :=
  fun ls H locs h1 h2 h3 h4 => lv_imul hexec hb hd (k ls H locs h1 h2 h3 h4)
theorem xk_iand (hexec : p.tables.exec = Jvm.exec) (hb : c.code = cc) {x y : Int32} (hd : decode cc pc = .ok (.iand, 1)) (k : xk_J p l e R s m args below meth c Q nL D dA ad A cl cells slots (pc + 1) L (.int (x &&& y) :: r) w) : xk_J p l e R s m args below meth c Q nL D dA ad A cl cells slots pc L (.int y :: .int x :: r) w :=
  fun ls H locs h1 h2 h3 h4 => lv_iand hexec hb hd (k ls H locs h1 h2 h3 h4)
theorem xk_ior (hexec : p.tables.exec = Jvm.exec) (hb : c.code = cc) {x y : Int32} (hd : decode cc pc = .ok (.ior, 1)) (k : xk_J p l e R s m args below meth c Q nL D dA ad A cl cells slots (pc + 1) L (.int (x ||| y) :: r) w) : xk_J p l e R s m args below meth c Q nL D dA ad A cl cells slots pc L (.int y :: .int x :: r) w :=
  fun ls H locs h1 h2 h3 h4 => lv_ior hexec hb hd (k ls H locs h1 h2 h3 h4)
theorem xk_ixor (hexec : p.tables.exec = Jvm.exec) (hb : c.code = cc) {x y : Int32} (hd : decode cc pc = .ok (.ixor, 1)) (k : xk_J p l e R s m args below meth c Q nL D dA ad A cl cells slots (pc + 1) L (.int (x ^^^ y) :: r) w) : xk_J p l e R s m args below meth c Q nL D dA ad A cl cells slots pc L (.int y :: .int x :: r) w :=
  fun ls H locs h1 h2 h3 h4 => lv_ixor hexec hb hd (k ls H locs h1 h2 h3 h4)
theorem xk_ishl (hexec : p.tables.exec = Jvm.exec) (hb : c.code = cc) {x y : Int32} (hd : decode cc pc = .ok (.ishl, 1)) (k : xk_J p l e R s m args below meth c Q nL D dA ad A cl cells slots (pc + 1) L (.int (x <<< (y &&& 31)) :: r) w) : xk_J p l e R s m args below meth c Q nL D dA ad A cl cells slots pc L (.int y :: .int x :: r) w :=
  fun ls H locs h1 h2 h3 h4 => lv_ishl hexec hb hd (k ls H locs h1 h2 h3 h4)
theorem xk_ishr (hexec : p.tables.exec = Jvm.exec) (hb : c.code = cc) {x y : Int32} (hd : decode cc pc = .ok (.ishr, 1)) (k : xk_J p l e R s m args below meth c Q nL D dA ad A cl cells slots (pc + 1) L (.int (x >>> (y &&& 31)) :: r) w) : xk_J p l e R s m args below meth c Q nL D dA ad A cl cells slots pc L (.int y :: .int x :: r) w :=
  fun ls H locs h1 h2 h3 h4 => lv_ishr hexec hb hd (k ls H locs h1 h2 h3 h4)
theorem xk_iushr (hexec : p.tables.exec = Jvm.exec) (hb : c.code = cc) {x y : Int32} (hd : decode cc pc = .ok (.iushr, 1)) (k : xk_J p l e R s m args below meth c Q nL D dA ad A cl cells slots (pc + 1) L (.int (x.toUInt32 >>> (y.toUInt32 &&& Int32.toUInt32 31)).toInt32 :: r) w) : xk_J p l e R s m args below meth c Q nL D dA ad A cl cells slots pc L (.int y :: .int x :: r) w :=
  fun ls H locs h1 h2 h3 h4 => lv_iushr hexec hb hd rfl (k ls H locs h1 h2 h3 h4)
theorem xk_idiv (hexec : p.tables.exec = Jvm.exec) (hb : c.code = cc) {x y : Int32} (hd : decode cc pc = .ok (.idiv, 1)) (hy : ¬ y = 0) (k : xk_J p l e R s m args below meth c Q nL D dA ad A cl cells slots (pc + 1) L (.int (x / y) :: r) w) : xk_J p l e R s m args below meth c Q nL D dA ad A cl cells slots pc L (.int y :: .int x :: r) w :=
  fun ls H locs h1 h2 h3 h4 => lv_idiv hexec hb hd hy (k ls H locs h1 h2 h3 h4)
theorem xk_irem (hexec : p.tables.exec = Jvm.exec) (hb : c.code = cc) {x y : Int32} (hd : decode cc pc = .ok (.irem, 1)) (hy : ¬ y = 0) (k : xk_J p l e R s m args below meth c Q nL D dA ad A cl cells slots (pc + 1) L (.int (x % y) :: r) w) : xk_J p l e R s m args below meth c Q nL D dA ad A cl cells slots pc L (.int y :: .int x :: r) w := by
  intro ls H locs h1 h2 h3 h4
  refine lv_irem hexec hb hd hy ?_
  rw [irem_eq_mod]
  exact k ls H locs h1 h2 h3 h4
theorem xk_ineg (hexec : p.tables.exec = Jvm.exec) (hb : c.code = cc) {x : Int32} (hd : decode cc pc = .ok (.ineg, 1)) (k : xk_J p l e R s m args below meth c Q nL D dA ad A cl cells slots (pc + 1) L (.int (-x) :: r) w) : xk_J p l e R s m args below meth c Q nL D dA ad A cl cells slots pc L (.int x :: r) w :=
  fun ls H locs h1 h2 h3 h4 => lv_ineg hexec hb hd (k ls H locs h1 h2 h3 h4)
theorem xk_i2l (hexec : p.tables.exec = Jvm.exec) (hb : c.code = cc) {x : Int32} (hd : decode cc pc = .ok (.i2l, 1)) (k : xk_J p l e R s m args below meth c Q nL D dA ad A cl cells slots (pc + 1) L (.long x.toInt64 :: r) w) : xk_J p l e R s m args below meth c Q nL D dA ad A cl cells slots pc L (.int x :: r) w :=
  fun ls H locs h1 h2 h3 h4 => lv_i2l hexec hb hd rfl (k ls H locs h1 h2 h3 h4)
theorem xk_lcmp (hexec : p.tables.exec = Jvm.exec) (hb : c.code = cc) {x y : Int64} (hd : decode cc pc = .ok (.lcmp, 1)) (k : xk_J p l e R s m args below meth c Q nL D dA ad A cl cells slots (pc + 1) L (.int (lg_cmp x y) :: r) w) : xk_J p l e R s m args below meth c Q nL D dA ad A cl cells slots pc L (.long y :: .long x :: r) w :=
  fun ls H locs h1 h2 h3 h4 => W.lcmp hexec hb hd (k ls H locs h1 h2 h3 h4)
theorem xk_cat {u : Value} (h : (match u with
  | .long _ => false
  | .double _ => false
  | _ => true) = true) : (xk_v ad u).category = 1 := by
  cases u <;> simp_all [xk_v, Value.category]
/-- what fills one place of the stack -/
def xk_one (u : Value) : Bool := match u with
  | .int _ => true
  | .ref _ => true
  | _ => false
theorem xk_one_cat {u : Value} (h : xk_one u = true) : (xk_v ad u).category = 1 := by
  cases u <;> first | rfl | simp [xk_one] at h
theorem xk_dup (hexec : p.tables.exec = Jvm.exec) (hb : c.code = cc) {u : Value} (hd : decode cc pc = .ok (.dup, 1)) (hu : xk_one u = true) (k : xk_J p l e R s m args below meth c Q nL D dA ad A cl cells slots (pc + 1) L (u :: u :: r) w) : xk_J p l e R s m args below meth c Q nL D dA ad A cl cells slots pc L (u :: r) w :=
  fun ls H locs h1 h2 h3 h4 => lv_dup hexec hb hd (xk_one_cat hu) (k ls H locs h1 h2 h3 h4)
theorem xk_pop (hexec : p.tables.exec = Jvm.exec) (hb : c.code = cc) {u : Value} (hd : decode cc pc = .ok (.pop, 1)) (hu : xk_one u = true) (k : xk_J p l e R s m args below meth c Q nL D dA ad A cl cells slots (pc + 1) L r w) : xk_J p l e R s m args below meth c Q nL D dA ad A cl cells slots pc L (u :: r) w :=
  fun ls H locs h1 h2 h3 h4 => lv_pop hexec hb hd (xk_one_cat hu) (k ls H locs h1 h2 h3 h4)
theorem xk_dup_x1 (hexec : p.tables.exec = Jvm.exec) (hb : c.code = cc) {u v : Value} (hd : decode cc pc = .ok (.dup_x1, 1)) (hu : xk_one u = true) (hv : xk_one v = true) (k : xk_J p l e R s m args below meth c Q nL D dA ad A cl cells slots (pc + 1) L (u :: v :: u :: r) w) : xk_J p l e R s m args below meth c Q nL D dA ad A cl cells slots pc L (u :: v :: r) w :=
  fun ls H locs h1 h2 h3 h4 => lv_dup_x1 hexec hb hd (xk_one_cat hu) (xk_one_cat hv) (k ls H locs h1 h2 h3 h4)
theorem xk_dup2 (hexec : p.tables.exec = Jvm.exec) (hb : c.code = cc) {u v : Value} (hd : decode cc pc = .ok (.dup2, 1)) (hu : xk_one u = true) (hv : xk_one v = true) (k : xk_J p l e R s m args below meth c Q nL D dA ad A cl cells slots (pc + 1) L (u :: v :: u :: v :: r) w) : xk_J p l e R s m args below meth c Q nL D dA ad A cl cells slots pc L (u :: v :: r) w :=
  fun ls H locs h1 h2 h3 h4 => lv_dup2_11 hexec hb hd (xk_one_cat hu) (xk_one_cat hv) (k ls H locs h1 h2 h3 h4)
theorem xk_goto (hexec : p.tables.exec = Jvm.exec) (hb : c.code = cc) {off : Int} {tgt : Nat} (hd : decode cc pc = .ok (.goto off, 3)) (ht : (pc : Int) + off = (tgt : Int)) (k : xk_J p l e R s m args below meth c Q nL D dA ad A cl cells slots tgt L st w) : xk_J p l e R s m args below meth c Q nL D dA ad A cl cells slots pc L st w :=
  fun ls H locs h1 h2 h3 h4 => lv_goto hexec hb hd ht (k ls H locs h1 h2 h3 h4)
theorem xk_icmp_eq (hexec : p.tables.exec = Jvm.exec) (hb : c.code = cc) {x y : Int32} {off : Int} {tgt : Nat} (hd : decode cc pc = .ok (.if_icmp .eq off, 3)) (ht : (pc : Int) + off = (tgt : Int)) (kt : x = y → xk_J p l e R s m args below meth c Q nL D dA ad A cl cells slots tgt L r w) (kf : ¬ x = y → xk_J p l e R s m args below meth c Q nL D dA ad A cl cells slots (pc + 3) L r w) : xk_J p l e R s m args below meth c Q nL D dA ad A cl cells slots pc L (.int y :: .int x :: r) w :=
  fun ls H locs h1 h2 h3 h4 => lv_icmp_eq hexec hb hd ht (fun q => kt q ls H locs h1 h2 h3 h4) (fun q => kf q ls H locs h1 h2 h3 h4)
theorem xk_if_eq (hexec : p.tables.exec = Jvm.exec) (hb : c.code = cc) {x : Int32} {off : Int} {tgt : Nat} (hd : decode cc pc = .ok (.ifCond .eq off, 3)) (ht : (pc : Int) + off = (tgt : Int)) (kt : x = 0 → xk_J p l e R s m args below meth c Q nL D dA ad A cl cells slots tgt L r w) (kf : ¬ x = 0 → xk_J p l e R s m args below meth c Q nL D dA ad A cl cells slots (pc + 3) L r w) : xk_J p l e R s m args below meth c Q nL D dA ad A cl cells slots pc L (.int x :: r) w :=
  fun ls H locs h1 h2 h3 h4 => lv_if_eq hexec hb hd ht (fun q => kt q ls H locs h1 h2 h3 h4) (fun q => kf q ls H locs h1 h2 h3 h4)
theorem xk_icmp_ne (hexec : p.tables.exec = Jvm.exec) (hb : c.code = cc) {x y : Int32} {off : Int} {tgt : Nat} (hd : decode cc pc = .ok (.if_icmp .ne off, 3)) (ht : (pc : Int) + off = (tgt : Int)) (kt : ¬ x = y → xk_J p l e R s m args below meth c Q nL D dA ad A cl cells slots tgt L r w) (kf : x = y → xk_J p l e R s m args below meth c Q nL D dA ad A cl cells slots (pc + 3) L r w) : xk_J p l e R s m args below meth c Q nL D dA ad A cl cells slots pc L (.int y :: .int x :: r) w :=
  fun ls H locs h1 h2 h3 h4 => lv_icmp_ne hexec hb hd ht (fun q => kt q ls H locs h1 h2 h3 h4) (fun q => kf q ls H locs h1 h2 h3 h4)
theorem xk_if_ne (hexec : p.tables.exec = Jvm.exec) (hb : c.code = cc) {x : Int32} {off : Int} {tgt : Nat} (hd : decode cc pc = .ok (.ifCond .ne off, 3)) (ht : (pc : Int) + off = (tgt : Int)) (kt : ¬ x = 0 → xk_J p l e R s m args below meth c Q nL D dA ad A cl cells slots tgt L r w) (kf : x = 0 → xk_J p l e R s m args below meth c Q nL D dA ad A cl cells slots (pc + 3) L r w) : xk_J p l e R s m args below meth c Q nL D dA ad A cl cells slots pc L (.int x :: r) w :=
  fun ls H locs h1 h2 h3 h4 => lv_if_ne hexec hb hd ht (fun q => kt q ls H locs h1 h2 h3 h4) (fun q => kf q ls H locs h1 h2 h3 h4)
theorem xk_icmp_lt (hexec : p.tables.exec = Jvm.exec) (hb : c.code = cc) {x y : Int32} {off : Int} {tgt : Nat} (hd : decode cc pc = .ok (.if_icmp .lt off, 3)) (ht : (pc : Int) + off = (tgt : Int)) (kt : x < y → xk_J p l e R s m args below meth c Q nL D dA ad A cl cells slots tgt L r w) (kf : ¬ x < y → xk_J p l e R s m args below meth c Q nL D dA ad A cl cells slots (pc + 3) L r w) : xk_J p l e R s m args below meth c Q nL D dA ad A cl cells slots pc L (.int y :: .int x :: r) w :=
  fun ls H locs h1 h2 h3 h4 => lv_icmp_lt hexec hb hd ht (fun q => kt q ls H locs h1 h2 h3 h4) (fun q => kf q ls H locs h1 h2 h3 h4)
theorem xk_if_lt (hexec : p.tables.exec = Jvm.exec) (hb : c.code = cc) {x : Int32} {off : Int} {tgt : Nat} (hd : decode cc pc = .ok (.ifCond .lt off, 3)) (ht : (pc : Int) + off = (tgt : Int)) (kt : x < 0 → xk_J p l e R s m args below meth c Q nL D dA ad A cl cells slots tgt L r w) (kf : ¬ x < 0 → xk_J p l e R s m args below meth c Q nL D dA ad A cl cells slots (pc + 3) L r w) : xk_J p l e R s m args below meth c Q nL D dA ad A cl cells slots pc L (.int x :: r) w :=
  fun ls H locs h1 h2 h3 h4 => lv_if_lt hexec hb hd ht (fun q => kt q ls H locs h1 h2 h3 h4) (fun q => kf q ls H locs h1 h2 h3 h4)
theorem xk_icmp_ge (hexec : p.tables.exec = Jvm.exec) (hb : c.code = cc) {x y : Int32} {off : Int} {tgt : Nat} (hd : decode cc pc = .ok (.if_icmp .ge off, 3)) (ht : (pc : Int) + off = (tgt : Int)) (kt : y ≤ x → xk_J p l e R s m args below meth c Q nL D dA ad A cl cells slots tgt L r w) (kf : ¬ y ≤ x → xk_J p l e R s m args below meth c Q nL D dA ad A cl cells slots (pc + 3) L r w) : xk_J p l e R s m args below meth c Q nL D dA ad A cl cells slots pc L (.int y :: .int x :: r) w :=
  fun ls H locs h1 h2 h3 h4 => lv_icmp_ge hexec hb hd ht (fun q => kt q ls H locs h1 h2 h3 h4) (fun q => kf q ls H locs h1 h2 h3 h4)
theorem xk_if_ge (hexec : p.tables.exec = Jvm.exec) (hb : c.code = cc) {x : Int32} {off : Int} {tgt : Nat} (hd : decode cc pc = .ok (.ifCond .ge off, 3)) (ht : (pc : Int) + off = (tgt : Int)) (kt : 0 ≤ x → xk_J p l e R s m args below meth c Q nL D dA ad A cl cells slots tgt L r w) (kf : ¬ 0 ≤ x → xk_J p l e R s m args below meth c Q nL D dA ad A cl cells slots (pc + 3) L r w) : xk_J p l e R s m args below meth c Q nL D dA ad A cl cells slots pc L (.int x :: r) w :=
  fun ls H locs h1 h2 h3 h4 => lv_if_ge hexec hb hd ht (fun q => kt q ls H locs h1 h2 h3 h4) (fun q => kf q ls H locs h1 h2 h3 h4)
theorem xk_icmp_gt (hexec : p.tables.exec = Jvm.exec) (hb : c.code = cc) {x y : Int32} {off : Int} {tgt : Nat} (hd : decode cc pc = .ok (.if_icmp .gt off, 3)) (ht : (pc : Int) + off = (tgt : Int)) (kt : y < x → xk_J p l e R s m args below meth c Q nL D dA ad A cl cells slots tgt L r w) (kf : ¬ y < x → xk_J p l e R s m args below meth c Q nL D dA ad A cl cells slots (pc + 3) L r w) : xk_J p l e R s m args below meth c Q nL D dA ad A cl cells slots pc L (.int y :: .int x :: r) w :=
  fun ls H locs h1 h2 h3 h4 => lv_icmp_gt hexec hb hd ht (fun q => kt q ls H locs h1 h2 h3 h4) (fun q => kf q ls H locs h1 h2 h3 h4)
theorem xk_if_gt (hexec : p.tables.exec = Jvm.exec) (hb : c.code = cc) {x : Int32} {off : Int} {tgt : Nat} (hd : decode cc pc = .ok (.ifCond .gt off, 3)) (ht : (pc : Int) + off = (tgt : Int)) (kt : 0 < x → xk_J p l e R s m args below meth c Q nL D dA ad A cl cells slots tgt L r w) (kf : ¬ 0 < x → xk_J p l e R s m args below meth c Q nL D dA ad A cl cells slots (pc + 3) L r w) : xk_J p l e R s m args below meth c Q nL D dA ad A cl cells slots pc L (.int x :: r) w :=
  fun ls H locs h1 h2 h3 h4 => lv_if_gt hexec hb hd ht (fun q => kt q ls H locs h1 h2 h3 h4) (fun q => kf q ls H locs h1 h2 h3 h4)
theorem xk_icmp_le (hexec : p.tables.exec = Jvm.exec) (hb : c.code = cc) {x y : Int32} {off : Int} {tgt : Nat} (hd : decode cc pc = .ok (.if_icmp .le off, 3)) (ht : (pc : Int) + off = (tgt : Int)) (kt : x ≤ y → xk_J p l e R s m args below meth c Q nL D dA ad A cl cells slots tgt L r w) (kf : ¬ x ≤ y → xk_J p l e R s m args below meth c Q nL D dA ad A cl cells slots (pc + 3) L r w) : xk_J p l e R s m args below meth c Q nL D dA ad A cl cells slots pc L (.int y :: .int x :: r) w :=
  fun ls H locs h1 h2 h3 h4 => lv_icmp_le hexec hb hd ht (fun q => kt q ls H locs h1 h2 h3 h4) (fun q => kf q ls H locs h1 h2 h3 h4)
theorem xk_if_le (hexec : p.tables.exec = Jvm.exec) (hb : c.code = cc) {x : Int32} {off : Int} {tgt : Nat} (hd : decode cc pc = .ok (.ifCond .le off, 3)) (ht : (pc : Int) + off = (tgt : Int)) (kt : x ≤ 0 → xk_J p l e R s m args below meth c Q nL D dA ad A cl cells slots tgt L r w) (kf : ¬ x ≤ 0 → xk_J p l e R s m args below meth c Q nL D dA ad A cl cells slots (pc + 3) L r w) : xk_J p l e R s m args below meth c Q nL D dA ad A cl cells slots pc L (.int x :: r) w :=
  fun ls H locs h1 h2 h3 h4 => lv_if_le hexec hb hd ht (fun q => kt q ls H locs h1 h2 h3 h4) (fun q => kf q ls H locs h1 h2 h3 h4)
variable {tys : List (ClassId × FieldType)}
theorem xk_get (hexec : p.tables.exec = Jvm.exec) (hb : c.code = cc) {own ref C : String} {T : u_T} {N ci index : Nat} {Ts : List Cond} (hts : ∀ q ∈ Ts, q.before args s = true) (hin : ∀ q ∈ u_ws C T N, q ∈ Ts) (hown : s.vm.findClass own = some m.cls) (hK : va_K D cl tys s) {a : Nat} {fs : List Value} (he : w[a]? = some (.inr (ci, fs))) (hc : cl[ci]? = some (C, T, N)) (k : Nat) (hk : k < N)
    (hlink : (Cond.fieldLink own index ref (T k).2.1 (T k).2.2.1).before args s = true ∨ ∃ host, (Cond.fieldLinkNest own index ref (T k).2.1 (T k).2.2.1 host).before args s = true) (hsame : ref = (T k).1) {v : Value} (hv : fs[k]? = some v) (hd : decode cc pc = .ok (.getfield index, 3))
    (kk : xk_J p l e R s m args below meth c Q nL D dA ad A cl cells slots (pc + 3) L (v :: r) w) : xk_J p l e R s m args below meth c Q nL D dA ad A cl cells slots pc L (.ref a :: r) w := by
  intro ls H locs h1 h2 h3 h4
  have hv' : (fs.map (xk_v ad))[k]? = some (xk_v ad v) := by rw [List.getElem?_map, hv]; rfl
  rcases hlink with hlink | ⟨host, hlink⟩
  · exact va_get hexec hb hts hin hown hK h2 a (xk_w_at he) hc k hk hlink (fun x hx => by rw [hsame]; exact hx) hv' hd (kk ls H locs h1 h2 h3 h4)
  · exact va_getN hexec hb hts hin hown hK h2 a (xk_w_at he) hc k hk hlink (fun x hx => by rw [hsame]; exact hx) hv' hd (kk ls H locs h1 h2 h3 h4)
theorem xk_put (hexec : p.tables.exec = Jvm.exec) (hb : c.code = cc) {own ref C : String} {T : u_T} {N ci index : Nat} {Ts : List Cond} (hts : ∀ q ∈ Ts, q.before args s = true) (hin : ∀ q ∈ u_ws C T N, q ∈ Ts) (ty0 : Nat → FieldType) (hty : ∀ k, k < N → parseFieldDescriptor (T k).2.2.1 = some (ty0 k)) (hnm : ∀ a, a < N → ∀ b, b < N → a ≠ b → (T a).2.1 ≠ (T b).2.1) (hown : s.vm.findClass own = some m.cls) (hK : va_K D cl tys s) {a : Nat} {fs : List Value} (he : w[a]? = some (.inr (ci, fs))) (hc : cl[ci]? = some (C, T, N)) (k : Nat) (hk : k < N)
    (hlink : (Cond.fieldLink own index ref (T k).2.1 (T k).2.2.1).before args s = true ∨ ∃ host, (Cond.fieldLinkNest own index ref (T k).2.1 (T k).2.2.1 host).before args s = true) (hsame : ref = (T k).1) (hfin : (T k).2.2.2 = false) {x : Int32} (hn : narrow (ty0 k) (.int x) = .int x) (hfit : fits (ty0 k) (.int x) = true) (hl : k < fs.length) (hd : decode cc pc = .ok (.putfield index, 3))
    (kk : xk_J p l e R s m args below meth c Q nL D dA ad A cl cells slots (pc + 3) L r (w.set a (.inr (ci, fs.set k (.int x))))) : xk_J p l e R s m args below meth c Q nL D dA ad A cl cells slots pc L (.int x :: .ref a :: r) w := by
  intro ls H locs h1 h2 h3 h4
  have hl' : k < (fs.map (xk_v ad)).length := by simpa using hl
  have hset : (xk_w dA ad w).set a (ad a, .inr (ci, (fs.map (xk_v ad)).set k (.int x))) = xk_w dA ad (w.set a (.inr (ci, fs.set k (.int x)))) := by
    rw [xk_w_set]
    show _ = (xk_w dA ad w).set a (ad a, .inr (ci, (fs.set k (.int x)).map (xk_v ad)))
    rw [List.map_set]
    rfl
  rcases hlink with hlink | ⟨host, hlink⟩
  · exact va_put hexec hb hts hin ty0 hty hnm hown hK h2 h3 h4 a (xk_w_at he) hc k hk hlink (fun x hx => by rw [hsame]; exact hx) hfin (hty k hk) hn hfit hl' hd (fun H1 locs1 g2 g3 g4 => kk ls H1 locs1 h1 (by rw [← hset]; exact g2) (by rw [← hset]; exact g3) g4)
  · exact va_putN hexec hb hts hin ty0 hty hnm hown hK h2 h3 h4 a (xk_w_at he) hc k hk hlink (fun x hx => by rw [hsame]; exact hx) hfin (hty k hk) hn hfit hl' hd (fun H1 locs1 g2 g3 g4 => kk ls H1 locs1 h1 (by rw [← hset]; exact g2) (by rw [← hset]; exact g3) g4)
theorem xk_iald (hexec : p.tables.exec = Jvm.exec) (hb : c.code = cc) (hK : va_K D cl tys s) {a t n : Nat} {f : Nat → Int32} (ha : w[a]? = some (.inl (t, n, .inl f))) (ht : tys[t]? = some (dA t, .int)) {i : Int32} (hin : vp_in i n) (hd : decode cc pc = .ok (.iaload, 1))
    (kk : xk_J p l e R s m args below meth c Q nL D dA ad A cl cells slots (pc + 1) L (.int (f i.toNatClampNeg) :: r) w) : xk_J p l e R s m args below meth c Q nL D dA ad A cl cells slots pc L (.int i :: .ref a :: r) w :=
  fun ls H locs h1 h2 h3 h4 => va_iald hexec hb hK h2 a t (xk_w_at ha) ht hin hd (kk ls H locs h1 h2 h3 h4)
theorem xk_zald (hexec : p.tables.exec = Jvm.exec) (hb : c.code = cc) (hK : va_K D cl tys s) {a t n : Nat} {f : Nat → Int32} (ha : w[a]? = some (.inl (t, n, .inl f))) (ht : tys[t]? = some (dA t, .boolean)) {i : Int32} (hin : vp_in i n) (hd : decode cc pc = .ok (.baload, 1))
    (kk : xk_J p l e R s m args below meth c Q nL D dA ad A cl cells slots (pc + 1) L (.int (f i.toNatClampNeg) :: r) w) : xk_J p l e R s m args below meth c Q nL D dA ad A cl cells slots pc L (.int i :: .ref a :: r) w :=
  fun ls H locs h1 h2 h3 h4 => va_zald hexec hb hK h2 a t (xk_w_at ha) ht hin hd (kk ls H locs h1 h2 h3 h4)
theorem xk_lald (hexec : p.tables.exec = Jvm.exec) (hb : c.code = cc) (hK : va_K D cl tys s) {a t n : Nat} {f : Nat → Int64} (ha : w[a]? = some (.inl (t, n, .inr f))) (ht : tys[t]? = some (dA t, .long)) {i : Int32} (hin : vp_in i n) (hd : decode cc pc = .ok (.laload, 1))
    (kk : xk_J p l e R s m args below meth c Q nL D dA ad A cl cells slots (pc + 1) L (.long (f i.toNatClampNeg) :: r) w) : xk_J p l e R s m args below meth c Q nL D dA ad A cl cells slots pc L (.int i :: .ref a :: r) w :=
  fun ls H locs h1 h2 h3 h4 => va_lald hexec hb hK h2 a t (xk_w_at ha) ht hin hd (kk ls H locs h1 h2 h3 h4)
theorem xk_iast (hexec : p.tables.exec = Jvm.exec) (hb : c.code = cc) (hK : va_K D cl tys s) {a t n : Nat} {f : Nat → Int32} (ha : w[a]? = some (.inl (t, n, .inl f))) (ht : tys[t]? = some (dA t, .int)) {i x : Int32} (hin : vp_in i n) (hd : decode cc pc = .ok (.iastore, 1))
    (kk : xk_J p l e R s m args below meth c Q nL D dA ad A cl cells slots (pc + 1) L r (w.set a (.inl (t, n, .inl (upd f i.toNatClampNeg x))))) : xk_J p l e R s m args below meth c Q nL D dA ad A cl cells slots pc L (.int x :: .int i :: .ref a :: r) w :=
  fun ls H locs h1 h2 h3 h4 => va_iast hexec hb hK h2 h3 h4 a t (xk_w_at ha) ht hin hd (fun H1 locs1 g2 g3 g4 => kk ls H1 locs1 h1 (by rw [xk_w_set]; exact g2) (by rw [xk_w_set]; exact g3) g4)
theorem xk_zast (hexec : p.tables.exec = Jvm.exec) (hb : c.code = cc) (hK : va_K D cl tys s) {a t n : Nat} {f : Nat → Int32} (ha : w[a]? = some (.inl (t, n, .inl f))) (ht : tys[t]? = some (dA t, .boolean)) {i x : Int32} (hin : vp_in i n) (hd : decode cc pc = .ok (.bastore, 1))
    (kk : xk_J p l e R s m args below meth c Q nL D dA ad A cl cells slots (pc + 1) L r (w.set a (.inl (t, n, .inl (upd f i.toNatClampNeg (vp_nar .boolean x)))))) : xk_J p l e R s m args below meth c Q nL D dA ad A cl cells slots pc L (.int x :: .int i :: .ref a :: r) w :=
  fun ls H locs h1 h2 h3 h4 => va_zast hexec hb hK h2 h3 h4 a t (xk_w_at ha) ht hin hd (fun H1 locs1 g2 g3 g4 => kk ls H1 locs1 h1 (by rw [xk_w_set]; exact g2) (by rw [xk_w_set]; exact g3) g4)
theorem xk_last (hexec : p.tables.exec = Jvm.exec) (hb : c.code = cc) (hK : va_K D cl tys s) {a t n : Nat} {f : Nat → Int64} (ha : w[a]? = some (.inl (t, n, .inr f))) (ht : tys[t]? = some (dA t, .long)) {i : Int32} {x : Int64} (hin : vp_in i n) (hd : decode cc pc = .ok (.lastore, 1))
    (kk : xk_J p l e R s m args below meth c Q nL D dA ad A cl cells slots (pc + 1) L r (w.set a (.inl (t, n, .inr (vp_updL f i.toNatClampNeg x))))) : xk_J p l e R s m args below meth c Q nL D dA ad A cl cells slots pc L (.long x :: .int i :: .ref a :: r) w :=
  fun ls H locs h1 h2 h3 h4 => va_last hexec hb hK h2 h3 h4 a t (xk_w_at ha) ht hin hd (fun H1 locs1 g2 g3 g4 => kk ls H1 locs1 h1 (by rw [xk_w_set]; exact g2) (by rw [xk_w_set]; exact g3) g4)
theorem xk_alen (hexec : p.tables.exec = Jvm.exec) (hb : c.code = cc) (hK : va_K D cl tys s) {a t n : Nat} {f : Nat → Int32} (ha : w[a]? = some (.inl (t, n, .inl f))) {ty : FieldType} (ht : tys[t]? = some (dA t, ty)) (hd : decode cc pc = .ok (.arraylength, 1))
    (kk : xk_J p l e R s m args below meth c Q nL D dA ad A cl cells slots (pc + 1) L (.int (Int32.ofNat n) :: r) w) : xk_J p l e R s m args below meth c Q nL D dA ad A cl cells slots pc L (.ref a :: r) w :=
  fun ls H locs h1 h2 h3 h4 => va_alen hexec hb hK h2 a t (xk_w_at ha) ht rfl hd (kk ls H locs h1 h2 h3 h4)
theorem xk_catsum (ad : Nat → Nat) : ∀ q : List Value, ((q.map (xk_v ad)).map fun v => v.category).sum ≤ 2 * q.length
  | [] => Nat.le_refl _
  | u :: q => by
    have ih := xk_catsum ad q
    have h9 : (xk_v ad u).category ≤ 2 := by cases u <;> simp [xk_v, Value.category]
    simp only [List.map_cons, List.sum_cons, List.length_cons]
    omega
theorem xk_max (hexec : p.tables.exec = Jvm.exec) (hb : c.code = cc) (hml : c.maxLocals = nL) {own : String} {index : Nat} (hown : s.vm.findClass own = some m.cls) (hlink : (Cond.methodLink own index Lib.Math.max.name).before args s = true) (hstat : (Cond.static Lib.Math.max.name).before args s = true) (hini : (Cond.initialized "java/lang/Math").before args s = true) (hcode : (Cond.code Lib.Math.max.name Lib.Math.max.code 2 (some .int)).before args s = true)
    (hframes : 1 ≤ R.frames) (hlocals : 21 ≤ R.locals) (hc : cells ≤ R.cells) (hs : slots ≤ R.slots) (hr : r.length ≤ 4) {x y : Int32} (hd : decode cc pc = .ok (.invokestatic index, 3))
    (kk : xk_J p l e R s m args below meth c Q nL D dA ad A cl cells slots (pc + 3) L (.int (if x < y then y else x) :: r) w) : xk_J p l e R s m args below meth c Q nL D dA ad A cl cells slots pc L (.int y :: .int x :: r) w := by
  intro ls H locs h1 h2 h3 h4
  have := xk_catsum ad r
  exact va_mmax hexec hb (hml.trans h1.1.symm) hown hlink hstat hini hcode hframes (by omega) hc hs hd (kk ls H locs h1 h2 h3 h4)
theorem xk_copy (hexec : p.tables.exec = Jvm.exec) (hb : c.code = cc) (hml : c.maxLocals = nL) {own : String} {index : Nat} (hown : s.vm.findClass own = some m.cls) (hlink : (Cond.methodLink own index arraycopyName).before args s = true) (hnat : (Cond.native arraycopyName).before args s = true) (hstat : (Cond.static arraycopyName).before args s = true) (hini : (Cond.initialized "java/lang/System").before args s = true) (hK : va_K D cl tys s)
    {a b na nb : Nat} {f g : Nat → Int32} (ha : w[a]? = some (.inl (0, na, .inl f))) (hbb : w[b]? = some (.inl (0, nb, .inl g))) (ht : tys[0]? = some (dA 0, .int)) {sp dp n : Int32} (h1 : 0 ≤ sp) (h2 : 0 ≤ dp) (h3 : 0 ≤ n) (h4 : sp.toNatClampNeg + n.toNatClampNeg ≤ na) (h5 : dp.toNatClampNeg + n.toNatClampNeg ≤ nb)
    (hframes : 1 ≤ R.frames) (hlocals : 26 ≤ R.locals) (hr : r.length ≤ 4) (hd : decode cc pc = .ok (.invokestatic index, 3))
    (kk : xk_J p l e R s m args below meth c Q nL D dA ad A cl cells slots (pc + 3) L r (w.set b (.inl (0, nb, .inl (va_cpy f g sp.toNatClampNeg dp.toNatClampNeg n.toNatClampNeg))))) : xk_J p l e R s m args below meth c Q nL D dA ad A cl cells slots pc L (.int n :: .int dp :: .ref b :: .int sp :: .ref a :: r) w := by
  intro ls H locs g1 g2 g3 g4
  have h9 := xk_catsum ad r
  have nn : ∀ z : Int32, 0 ≤ z → ¬ z < 0 := fun z hz hz2 => by
    have q1 := Int32.le_iff_toInt_le.mp hz
    have q2 := Int32.lt_iff_toInt_lt.mp hz2
    omega
  exact va_copyi hexec hb (hml.trans g1.1.symm) hown hlink hnat hstat hini hK g2 g3 g4 a b 0 0 (xk_w_at ha) (xk_w_at hbb) ht ht rfl (nn sp h1) (nn dp h2) (nn n h3) h4 h5 (fun i _ => rfl) hframes
    (by show _ + (7 + 11) ≤ R.locals; omega) hd (fun H1 locs1 q2 q3 q4 => kk ls H1 locs1 g1 (by rw [xk_w_set]; exact q2) (by rw [xk_w_set]; exact q3) q4)
end XkWorld
