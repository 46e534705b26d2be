/-! The interpreter is sound: what it says of a method, the machine does. -/
section XkSound
/-- of a method: its name, bytes, type of answer, the instructions' places in the bytes, the room that it needs: frames, words; its exception table -/
abbrev xk_F : Type := MethodName × ByteArray × Option FieldType × List Nat × Nat × Nat × List (Nat × Nat × Nat × Nat)
def xf_pc (F : Nat → xk_F) (k i : Nat) : Nat := (F k).2.2.2.1.getD i 0
/-- an instruction stands in the bytes -/
def xf_in (F : Nat → xk_F) (k i : Nat) (mi : Instr) (len : Nat) : Prop := decode (F k).2.1 (xf_pc F k i) = .ok (mi, len)
def xf_nx (F : Nat → xk_F) (k i len : Nat) : Prop := xf_pc F k (i + 1) = xf_pc F k i + len
def xf_to (F : Nat → xk_F) (k i : Nat) (off t : Int) : Prop := (xf_pc F k i : Int) + off = (xf_pc F k t.toNat : Int)
/-- a field's words -/
def xf_fd (cl : List vw_C) (BW NW : List Cond) (own : String) (idx x : Nat) : Prop :=
  ∃ (C : String) (T : u_T) (N : Nat), cl[x / 32]? = some (C, T, N) ∧ x % 32 < N ∧ (∀ q ∈ u_ws C T N, q ∈ BW) ∧
    (Cond.fieldLink own idx (T (x % 32)).1 (T (x % 32)).2.1 (T (x % 32)).2.2.1 ∈ BW ∨ ∃ host, Cond.fieldLinkNest own idx (T (x % 32)).1 (T (x % 32)).2.1 (T (x % 32)).2.2.1 host ∈ NW)
def xf_pf (cl : List vw_C) (x : Nat) (ty : FieldType) : Prop :=
  ∀ (C : String) (T : u_T) (N : Nat), cl[x / 32]? = some (C, T, N) → (T (x % 32)).2.2.2 = false ∧ ∃ ty0 : Nat → FieldType, ty0 (x % 32) = ty ∧ (∀ k, k < N → parseFieldDescriptor (T k).2.2.1 = some (ty0 k)) ∧ ∀ a, a < N → ∀ b, b < N → a ≠ b → (T a).2.1 ≠ (T b).2.1
/-- a plain instruction of the list is the one in the bytes -/
def xk_Ok (F : Nat → xk_F) (cl : List vw_C) (BW NW : List Cond) (k i : Nat) (mi : Instr) : Prop := match mi with
  | .iconst v => (xf_in F k i (.iconst v) 1 ∧ xf_nx F k i 1) ∨ (xf_in F k i (.bipush v) 2 ∧ (Int8.ofInt v).toInt32 = Int32.ofInt v ∧ xf_nx F k i 2) ∨ (xf_in F k i (.sipush v) 3 ∧ (Int16.ofInt v).toInt32 = Int32.ofInt v ∧ xf_nx F k i 3)
  | .iload n => (xf_in F k i (.iload n) 2 ∧ xf_nx F k i 2) ∨ ∃ q : Fin 4, (q : Nat) = n ∧ xf_in F k i (.iload_n q) 1 ∧ xf_nx F k i 1
  | .aload n => (xf_in F k i (.aload n) 2 ∧ xf_nx F k i 2) ∨ ∃ q : Fin 4, (q : Nat) = n ∧ xf_in F k i (.aload_n q) 1 ∧ xf_nx F k i 1
  | .istore n => (xf_in F k i (.istore n) 2 ∧ xf_nx F k i 2) ∨ ∃ q : Fin 4, (q : Nat) = n ∧ xf_in F k i (.istore_n q) 1 ∧ xf_nx F k i 1
  | .astore n => (xf_in F k i (.astore n) 2 ∧ xf_nx F k i 2) ∨ ∃ q : Fin 4, (q : Nat) = n ∧ xf_in F k i (.astore_n q) 1 ∧ xf_nx F k i 1
  | .iinc n v => xf_in F k i (.iinc n v) 3 ∧ xf_nx F k i 3
  | .goto t => ∃ off, xf_in F k i (.goto off) 3 ∧ xf_to F k i off t
  | .ifCond cd t => ∃ off, xf_in F k i (.ifCond cd off) 3 ∧ xf_to F k i off t ∧ xf_nx F k i 3
  | .if_icmp cd t => ∃ off, xf_in F k i (.if_icmp cd off) 3 ∧ xf_to F k i off t ∧ xf_nx F k i 3
  | .tableswitch d lo hi ts => ∃ (d0 : Int) (ts0 : Array Int) (len : Nat), xf_in F k i (.tableswitch d0 lo hi ts0) len ∧ xf_to F k i d0 d ∧ ∀ (j : Nat) (t : Int), ts[j]? = some t → ∃ t0, ts0[j]? = some t0 ∧ xf_to F k i t0 t
  | .getfield x => ∃ idx, xf_in F k i (.getfield idx) 3 ∧ xf_nx F k i 3 ∧ xf_fd cl BW NW (F k).1.cls idx x
  | .putfield x => ∃ idx, xf_in F k i (.putfield idx) 3 ∧ xf_nx F k i 3 ∧ xf_fd cl BW NW (F k).1.cls idx x ∧ xf_pf cl x .int
  | .putstatic x => ∃ idx, xf_in F k i (.putfield idx) 3 ∧ xf_nx F k i 3 ∧ xf_fd cl BW NW (F k).1.cls idx x ∧ xf_pf cl x .boolean
  | .invokedynamic q => ∃ idx, xf_in F k i (.invokestatic idx) 3 ∧ xf_nx F k i 3 ∧ 1 ≤ (F k).2.2.2.2.1 ∧ 26 ≤ (F k).2.2.2.2.2.1 ∧
      ((q = 0 ∧ Cond.methodLink (F k).1.cls idx Lib.Math.max.name ∈ BW ∧ Cond.static Lib.Math.max.name ∈ BW ∧ Cond.initialized "java/lang/Math" ∈ BW ∧ Cond.code Lib.Math.max.name Lib.Math.max.code 2 (some .int) ∈ BW) ∨
       (q = 1 ∧ Cond.methodLink (F k).1.cls idx arraycopyName ∈ BW ∧ Cond.native arraycopyName ∈ BW ∧ Cond.static arraycopyName ∈ BW ∧ Cond.initialized "java/lang/System" ∈ BW))
  | .lconst v => xf_in F k i (.lconst v) 1 ∧ xf_nx F k i 1
  | .iadd => xf_in F k i .iadd 1 ∧ xf_nx F k i 1
  | .isub => xf_in F k i .isub 1 ∧ xf_nx F k i 1
  | .imul => xf_in F k i .imul 1 ∧ xf_nx F k i 1
  | .iand => xf_in F k i .iand 1 ∧ xf_nx F k i 1
  | .ior => xf_in F k i .ior 1 ∧ xf_nx F k i 1
  | .ixor => xf_in F k i .ixor 1 ∧ xf_nx F k i 1
  | .ishl => xf_in F k i .ishl 1 ∧ xf_nx F k i 1
  | .ishr => xf_in F k i .ishr 1 ∧ xf_nx F k i 1
  | .iushr => xf_in F k i .iushr 1 ∧ xf_nx F k i 1
  | .idiv => xf_in F k i .idiv 1 ∧ xf_nx F k i 1
  | .irem => xf_in F k i .irem 1 ∧ xf_nx F k i 1
  | .ineg => xf_in F k i .ineg 1 ∧ xf_nx F k i 1
  | .i2l => xf_in F k i .i2l 1 ∧ xf_nx F k i 1
  | .lcmp => xf_in F k i .lcmp 1 ∧ xf_nx F k i 1
  | .dup => xf_in F k i .dup 1 ∧ xf_nx F k i 1
  | .pop => xf_in F k i .pop 1 ∧ xf_nx F k i 1
  | .dup_x1 => xf_in F k i .dup_x1 1 ∧ xf_nx F k i 1
  | .dup2 => xf_in F k i .dup2 1 ∧ xf_nx F k i 1
  | .iaload => xf_in F k i .iaload 1 ∧ xf_nx F k i 1
  | .arraylength => xf_in F k i .arraylength 1 ∧ xf_nx F k i 1
  | .baload => xf_in F k i .baload 1 ∧ xf_nx F k i 1
  | .laload => xf_in F k i .laload 1 ∧ xf_nx F k i 1
  | .iastore => xf_in F k i .iastore 1 ∧ xf_nx F k i 1
  | .bastore => xf_in F k i .bastore 1 ∧ xf_nx F k i 1
  | .lastore => xf_in F k i .lastore 1 ∧ xf_nx F k i 1
  | _ => False
def xk_t (dA : Nat → ClassId) : List (ClassId × FieldType) := [(dA 0, .int), (dA 1, .boolean), (dA 2, .long)]
/-- what is carried beside the words: links of nest mates, string constants, the two statics of Throwable that its constructor reads -/
def xk_G (NW : List Cond) (SW : List (String × Nat × String)) (A : Nat → Prop) (U : State) (H : Heap) : Prop :=
  (∀ q ∈ NW, va_Nw q U) ∧ (∀ q ∈ SW, ∃ a, vk_R q.1 q.2.1 q.2.2 a U) ∧ vx_Zq Bundle.tN "UNASSIGNED_STACK" Bundle.steD A U H ∧ vx_Zq Bundle.tN "SUPPRESSED_SENTINEL" Bundle.listD A U H
/-- the words that are carried beside: links of nest mates, what can't be cast, and what stays true under warmer tables -/
def xk_nest (q : Cond) : Bool := match q with
  | .fieldLinkNest .. => true
  | .methodLinkNest .. => true
  | .not (.castable ..) => true
  | q => q.onTables && q.keepsCast
theorem xk_nest_tabs {q : Cond} (h : xk_nest q = true) {B B' : Array Value} {u U : State} (hv : u.vm = U.vm) (hb : q.before B u = true) : q.before B' U = true := by
  unfold xk_nest at h
  split at h
  · exact va_tabs rfl hv hb
  · exact va_tabs rfl hv hb
  · simp only [Cond.before, Cond.holds, Cond.value] at hb ⊢
    rw [← hv]
    exact hb
  · exact va_tabs (Bool.and_eq_true_iff.mp h).1 hv hb
theorem xk_nest_warm {q : Cond} (h : xk_nest q = true) {s U : State} (hW : s.WarmedH U.vm) (hZ : va_Nw q s) : va_Nw q U := by
  have h0 := h
  unfold xk_nest at h
  split at h
  · exact va_Nw.warmF hW hZ
  · exact va_Nw.warmM hW hZ
  · exact xk_nest_tabs h0 (rfl : (s.setVm U.vm).vm = U.vm) (Cond.castAtom_setVm hW.alike _ rfl hZ)
  · exact xk_nest_tabs h0 (rfl : (s.setVm U.vm).vm = U.vm) (Cond.before_shiftedCast (State.Shifted.of_warmed hW) _ (Bool.and_eq_true_iff.mp h).2 hZ)
theorem xk_G.go {NW : List Cond} {SW : List (String × Nat × String)} {A B : Nat → Prop} {s U : State} {H : Heap} (hn : ∀ q ∈ NW, xk_nest q = true) (h : xk_G NW SW A s s.heap) (hW : s.WarmedH U.vm) (hH : ∀ a : Nat, a < s.heap.size → ¬ A a → H[a]? = s.heap[a]?) (hB : ∀ q, B q → A q) : xk_G NW SW B U H :=
  ⟨fun q hq => xk_nest_warm (hn q hq) hW (h.1 q hq), fun q hq => by
    obtain ⟨a, ha⟩ := h.2.1 q hq
    exact ⟨a, ha.warm hW⟩, ((h.2.2.1.moved hW.alike).kept hH).narrow hB, ((h.2.2.2.moved hW.alike).kept hH).narrow hB⟩
theorem xk_G.same {NW : List Cond} {SW : List (String × Nat × String)} {A : Nat → Prop} {u U : State} {H : Heap} (hn : ∀ q ∈ NW, xk_nest q = true) (h : xk_G NW SW A u H) (hv : U.vm = u.vm) : xk_G NW SW A U H :=
  ⟨fun q hq => xk_nest_tabs (hn q hq) hv.symm (h.1 q hq), fun q hq => by
    obtain ⟨a, ha⟩ := h.2.1 q hq
    exact ⟨a, ha.same hv⟩, h.2.2.1.moved (by rw [hv]; exact Vm.Alike.refl _), h.2.2.2.moved (by rw [hv]; exact Vm.Alike.refl _)⟩
/-- what holds of an invocation of the method k -/
def xk_X (F : Nat → xk_F) (P : Nat → xk_M) (cl : List vw_C) (BW NW : List Cond) (SW : List (String × Nat × String)) (D : va_G) (dA : Nat → ClassId) (ad : Nat → Nat) (A : Nat → Prop) (k : Nat) (p : Program) (R : Room) (s : State) (m : MethodId) (args : Array Value) (meth : Method) (c : Code) : Prop :=
  p.tables.exec = Jvm.exec ∧ c.code = (F k).2.1 ∧ c.maxLocals = (P k).2.1 ∧ s.vm.findClass (F k).1.cls = some m.cls ∧ (∀ q ∈ BW, q.before args s = true) ∧ (∀ q ∈ NW, q.before args s = true) ∧ va_K D cl (xk_t dA) s ∧ xk_G NW SW A s s.heap ∧
  (∀ q : Nat, s.heap.size ≤ q → A q) ∧ (F k).2.2.2.2.1 ≤ R.frames ∧ (F k).2.2.2.2.2.1 ≤ R.locals ∧ meth.locks = false ∧ meth.sig.returnType = (F k).2.2.1 ∧ c.exceptionTable.toList.map (fun h => (h.startPc, h.endPc, h.handlerPc, h.catchType)) = (F k).2.2.2.2.2.2 ∧
  ∀ (n : Nat) (f : Nat → Int32), (P k).2.2.2.2 = some (n, f) → va_X (ad 999) n f s s.heap ∧ ad 999 < s.heap.size ∧ ¬ A (ad 999)
variable {p : Program} {l : Launch} {e : Env} {R : Room} {s : State} {m : MethodId} {args : Array Value} {below : List Frame} {meth : Method} {c : Code} {Q : State → Prop} {D : va_G} {dA : Nat → ClassId} {ad : Nat → Nat} {A : Nat → Prop} {cl : List vw_C} {cells slots : Nat}
variable {F : Nat → xk_F} {P : Nat → xk_M} {BW NW : List Cond} {SW : List (String × Nat × String)} {k i i1 : Nat} {L L1 st st1 : List Value} {w w1 : xk_W} {mi : Instr}
theorem xk_Jat {nL pc pc' : Nat} (h : pc = pc') (kk : xk_J p l e R s m args below meth c Q nL D dA ad A cl cells slots pc L st w) : xk_J p l e R s m args below meth c Q nL D dA ad A cl cells slots pc' L st w := h ▸ kk
theorem xk_ix_in {j : Int32} {n : Nat} (h : xk_ix j n = true) : vp_in j n := by
  simp only [xk_ix, Bool.and_eq_true, decide_eq_true_eq] at h
  intro h2
  rcases h2 with h2 | h2
  · have h3 := Int32.le_iff_toInt_le.mp h.1
    have h4 := Int32.lt_iff_toInt_lt.mp h2
    omega
  · omega
set_option maxHeartbeats 4000000 in
set_option maxRecDepth 10000 in
theorem xk_step_sound (hx : xk_X F P cl BW NW SW D dA ad A k p R s m args meth c) (hok : xk_Ok F cl BW NW k i mi) (hL : L.length = (P k).2.1) (hcr : cells ≤ R.cells ∧ slots ≤ R.slots) (hs : xk_step (P k).2.2.2.2 mi i L st w = some (i1, L1, st1, w1))
    (kk : xk_J p l e R s m args below meth c Q (P k).2.1 D dA ad A cl cells slots (xf_pc F k i1) L1 st1 w1) : xk_J p l e R s m args below meth c Q (P k).2.1 D dA ad A cl cells slots (xf_pc F k i) L st w := by
  obtain ⟨hexec, hb, hml, hown, hts, hN, hK, hG, hA, hRf, hRl, hlk, hrt, hxt, hsc⟩ := hx
  cases mi
  all_goals first
    | exact False.elim hok
    | skip
  case iconst v =>
    simp only [xk_step, Option.some.injEq, Prod.mk.injEq] at hs
    obtain ⟨rfl, rfl, rfl, rfl⟩ := hs
    rcases hok with ⟨h1, h2⟩ | ⟨h1, h3, h2⟩ | ⟨h1, h3, h2⟩
    · exact xk_iconst hexec hb h1 rfl (xk_Jat h2 kk)
    · exact xk_bipush hexec hb h1 h3 (xk_Jat h2 kk)
    · exact xk_sipush hexec hb h1 h3 (xk_Jat h2 kk)
  case lconst v =>
    simp only [xk_step, Option.some.injEq, Prod.mk.injEq] at hs
    obtain ⟨rfl, rfl, rfl, rfl⟩ := hs
    exact xk_lconst hexec hb hok.1 rfl (xk_Jat hok.2 kk)
  case iload n =>
    simp only [xk_step] at hs
    split at hs
    · rename_i x hl
      simp only [Option.some.injEq, Prod.mk.injEq] at hs
      obtain ⟨rfl, rfl, rfl, rfl⟩ := hs
      rcases hok with ⟨h1, h2⟩ | ⟨q, hq, h1, h2⟩
      · exact xk_iload hexec hb (Or.inl ⟨h1, rfl⟩) hl (xk_Jat h2 kk)
      · exact xk_iload hexec hb (Or.inr ⟨q, hq, h1, rfl⟩) hl (xk_Jat h2 kk)
    · cases hs
  case aload n =>
    simp only [xk_step] at hs
    split at hs
    · rename_i x hl
      simp only [Option.some.injEq, Prod.mk.injEq] at hs
      obtain ⟨rfl, rfl, rfl, rfl⟩ := hs
      rcases hok with ⟨h1, h2⟩ | ⟨q, hq, h1, h2⟩
      · exact xk_aload hexec hb (Or.inl ⟨h1, rfl⟩) hl (xk_Jat h2 kk)
      · exact xk_aload hexec hb (Or.inr ⟨q, hq, h1, rfl⟩) hl (xk_Jat h2 kk)
    · cases hs
  case istore n =>
    simp only [xk_step] at hs
    split at hs
    · split at hs
      · rename_i hn
        simp only [Option.some.injEq, Prod.mk.injEq] at hs
        obtain ⟨rfl, rfl, rfl, rfl⟩ := hs
        rcases hok with ⟨h1, h2⟩ | ⟨q, hq, h1, h2⟩
        · exact xk_istore hexec hb (Or.inl ⟨h1, rfl⟩) hn (hL ▸ hn) (xk_Jat h2 kk)
        · exact xk_istore hexec hb (Or.inr ⟨q, hq, h1, rfl⟩) hn (hL ▸ hn) (xk_Jat h2 kk)
      · cases hs
    · cases hs
  case astore n =>
    simp only [xk_step] at hs
    split at hs
    · split at hs
      · rename_i hn
        simp only [Option.some.injEq, Prod.mk.injEq] at hs
        obtain ⟨rfl, rfl, rfl, rfl⟩ := hs
        rcases hok with ⟨h1, h2⟩ | ⟨q, hq, h1, h2⟩
        · exact xk_astore hexec hb (Or.inl ⟨h1, rfl⟩) hn (hL ▸ hn) (xk_Jat h2 kk)
        · exact xk_astore hexec hb (Or.inr ⟨q, hq, h1, rfl⟩) hn (hL ▸ hn) (xk_Jat h2 kk)
      · cases hs
    · cases hs
  case iinc n v =>
    simp only [xk_step] at hs
    split at hs
    · rename_i x hl
      simp only [Option.some.injEq, Prod.mk.injEq] at hs
      obtain ⟨rfl, rfl, rfl, rfl⟩ := hs
      exact xk_iinc hexec hb hok.1 hl (hL ▸ (List.getElem?_eq_some_iff.mp hl).1) (xk_Jat hok.2 kk)
    · cases hs
  case iadd =>
    simp only [xk_step] at hs
    split at hs
    · simp only [Option.some.injEq, Prod.mk.injEq] at hs
      obtain ⟨rfl, rfl, rfl, rfl⟩ := hs
      exact xk_iadd hexec hb hok.1 (xk_Jat hok.2 kk)
    · cases hs
  case isub =>
    simp only [xk_step] at hs
    split at hs
    · simp only [Option.some.injEq, Prod.mk.injEq] at hs
      obtain ⟨rfl, rfl, rfl, rfl⟩ := hs
      exact xk_isub hexec hb hok.1 (xk_Jat hok.2 kk)
    · cases hs
  case imul =>
    simp only [xk_step] at hs
    split at hs
    · simp only [Option.some.injEq, Prod.mk.injEq] at hs
      obtain ⟨rfl, rfl, rfl, rfl⟩ := hs
      exact xk_imul hexec hb hok.1 (xk_Jat hok.2 kk)
    · cases hs
  case iand =>
    simp only [xk_step] at hs
    split at hs
    · simp only [Option.some.injEq, Prod.mk.injEq] at hs
      obtain ⟨rfl, rfl, rfl, rfl⟩ := hs
      exact xk_iand hexec hb hok.1 (xk_Jat hok.2 kk)
    · cases hs
  case ior =>
    simp only [xk_step] at hs
    split at hs
    · simp only [Option.some.injEq, Prod.mk.injEq] at hs
      obtain ⟨rfl, rfl, rfl, rfl⟩ := hs
      exact xk_ior hexec hb hok.1 (xk_Jat hok.2 kk)
    · cases hs
  case ixor =>
    simp only [xk_step] at hs
    split at hs
    · simp only [Option.some.injEq, Prod.mk.injEq] at hs
      obtain ⟨rfl, rfl, rfl, rfl⟩ := hs
      exact xk_ixor hexec hb hok.1 (xk_Jat hok.2 kk)
    · cases hs
  case ishl =>
    simp only [xk_step] at hs
    split at hs
    · simp only [Option.some.injEq, Prod.mk.injEq] at hs
      obtain ⟨rfl, rfl, rfl, rfl⟩ := hs
      exact xk_ishl hexec hb hok.1 (xk_Jat hok.2 kk)
    · cases hs
  case ishr =>
    simp only [xk_step] at hs
    split at hs
    · simp only [Option.some.injEq, Prod.mk.injEq] at hs
      obtain ⟨rfl, rfl, rfl, rfl⟩ := hs
      exact xk_ishr hexec hb hok.1 (xk_Jat hok.2 kk)
    · cases hs
  case iushr =>
    simp only [xk_step] at hs
    split at hs
    · simp only [Option.some.injEq, Prod.mk.injEq] at hs
      obtain ⟨rfl, rfl, rfl, rfl⟩ := hs
      exact xk_iushr hexec hb hok.1 (xk_Jat hok.2 kk)
    · cases hs
  case idiv =>
    simp only [xk_step] at hs
    split at hs
    · split at hs
      · cases hs
      · rename_i hy
        simp only [Option.some.injEq, Prod.mk.injEq] at hs
        obtain ⟨rfl, rfl, rfl, rfl⟩ := hs
        exact xk_idiv hexec hb hok.1 hy (xk_Jat hok.2 kk)
    · cases hs
  case irem =>
    simp only [xk_step] at hs
    split at hs
    · split at hs
      · cases hs
      · rename_i hy
        simp only [Option.some.injEq, Prod.mk.injEq] at hs
        obtain ⟨rfl, rfl, rfl, rfl⟩ := hs
        exact xk_irem hexec hb hok.1 hy (xk_Jat hok.2 kk)
    · cases hs
  case ineg =>
    simp only [xk_step] at hs
    split at hs
    · simp only [Option.some.injEq, Prod.mk.injEq] at hs
      obtain ⟨rfl, rfl, rfl, rfl⟩ := hs
      exact xk_ineg hexec hb hok.1 (xk_Jat hok.2 kk)
    · cases hs
  case i2l =>
    simp only [xk_step] at hs
    split at hs
    · simp only [Option.some.injEq, Prod.mk.injEq] at hs
      obtain ⟨rfl, rfl, rfl, rfl⟩ := hs
      exact xk_i2l hexec hb hok.1 (xk_Jat hok.2 kk)
    · cases hs
  case lcmp =>
    simp only [xk_step] at hs
    split at hs
    · simp only [Option.some.injEq, Prod.mk.injEq] at hs
      obtain ⟨rfl, rfl, rfl, rfl⟩ := hs
      exact xk_lcmp hexec hb hok.1 (xk_Jat hok.2 kk)
    · cases hs
  case dup =>
    simp only [xk_step] at hs
    split at hs
    · split at hs
      · rename_i hu
        simp only [Option.some.injEq, Prod.mk.injEq] at hs
        obtain ⟨rfl, rfl, rfl, rfl⟩ := hs
        exact xk_dup hexec hb hok.1 hu (xk_Jat hok.2 kk)
      · cases hs
    · cases hs
  case pop =>
    simp only [xk_step] at hs
    split at hs
    · split at hs
      · rename_i hu
        simp only [Option.some.injEq, Prod.mk.injEq] at hs
        obtain ⟨rfl, rfl, rfl, rfl⟩ := hs
        exact xk_pop hexec hb hok.1 hu (xk_Jat hok.2 kk)
      · cases hs
    · cases hs
  case dup_x1 =>
    simp only [xk_step] at hs
    split at hs
    · split at hs
      · rename_i hu
        simp only [Option.some.injEq, Prod.mk.injEq] at hs
        obtain ⟨rfl, rfl, rfl, rfl⟩ := hs
        exact xk_dup_x1 hexec hb hok.1 (Bool.and_eq_true_iff.mp hu).1 (Bool.and_eq_true_iff.mp hu).2 (xk_Jat hok.2 kk)
      · cases hs
    · cases hs
  case dup2 =>
    simp only [xk_step] at hs
    split at hs
    · split at hs
      · rename_i hu
        simp only [Option.some.injEq, Prod.mk.injEq] at hs
        obtain ⟨rfl, rfl, rfl, rfl⟩ := hs
        exact xk_dup2 hexec hb hok.1 (Bool.and_eq_true_iff.mp hu).1 (Bool.and_eq_true_iff.mp hu).2 (xk_Jat hok.2 kk)
      · cases hs
    · cases hs
  case goto t =>
    simp only [xk_step, Option.some.injEq, Prod.mk.injEq] at hs
    obtain ⟨rfl, rfl, rfl, rfl⟩ := hs
    obtain ⟨off, h1, h2⟩ := hok
    exact xk_goto hexec hb h1 h2 kk
  case ifCond cd t =>
    obtain ⟨off, h1, h2, h3⟩ := hok
    simp only [xk_step] at hs
    split at hs
    · cases cd
      case eq =>
        dsimp only at hs
        refine xk_if_eq hexec hb h1 h2 (fun hq => ?_) (fun hq => ?_)
        · rw [if_pos hq] at hs
          cases hs
          exact kk
        · rw [if_neg hq] at hs
          cases hs
          exact xk_Jat h3 kk
      case ne =>
        dsimp only at hs
        refine xk_if_ne hexec hb h1 h2 (fun hq => ?_) (fun hq => ?_)
        · rw [if_neg hq] at hs
          cases hs
          exact kk
        · rw [if_pos hq] at hs
          cases hs
          exact xk_Jat h3 kk
      case lt =>
        dsimp only at hs
        refine xk_if_lt hexec hb h1 h2 (fun hq => ?_) (fun hq => ?_)
        · rw [if_pos hq] at hs
          cases hs
          exact kk
        · rw [if_neg hq] at hs
          cases hs
          exact xk_Jat h3 kk
      case ge =>
        dsimp only at hs
        refine xk_if_ge hexec hb h1 h2 (fun hq => ?_) (fun hq => ?_)
        · rw [if_pos hq] at hs
          cases hs
          exact kk
        · rw [if_neg hq] at hs
          cases hs
          exact xk_Jat h3 kk
      case gt =>
        dsimp only at hs
        refine xk_if_gt hexec hb h1 h2 (fun hq => ?_) (fun hq => ?_)
        · rw [if_pos hq] at hs
          cases hs
          exact kk
        · rw [if_neg hq] at hs
          cases hs
          exact xk_Jat h3 kk
      case le =>
        dsimp only at hs
        refine xk_if_le hexec hb h1 h2 (fun hq => ?_) (fun hq => ?_)
        · rw [if_pos hq] at hs
          cases hs
          exact kk
        · rw [if_neg hq] at hs
          cases hs
          exact xk_Jat h3 kk
    · cases hs
  case if_icmp cd t =>
    obtain ⟨off, h1, h2, h3⟩ := hok
    simp only [xk_step] at hs
    split at hs
    · cases cd
      case eq =>
        dsimp only at hs
        refine xk_icmp_eq hexec hb h1 h2 (fun hq => ?_) (fun hq => ?_)
        · rw [if_pos hq] at hs
          cases hs
          exact kk
        · rw [if_neg hq] at hs
          cases hs
          exact xk_Jat h3 kk
      case ne =>
        dsimp only at hs
        refine xk_icmp_ne hexec hb h1 h2 (fun hq => ?_) (fun hq => ?_)
        · rw [if_neg hq] at hs
          cases hs
          exact kk
        · rw [if_pos hq] at hs
          cases hs
          exact xk_Jat h3 kk
      case lt =>
        dsimp only at hs
        refine xk_icmp_lt hexec hb h1 h2 (fun hq => ?_) (fun hq => ?_)
        · rw [if_pos hq] at hs
          cases hs
          exact kk
        · rw [if_neg hq] at hs
          cases hs
          exact xk_Jat h3 kk
      case ge =>
        dsimp only at hs
        refine xk_icmp_ge hexec hb h1 h2 (fun hq => ?_) (fun hq => ?_)
        · rw [if_pos hq] at hs
          cases hs
          exact kk
        · rw [if_neg hq] at hs
          cases hs
          exact xk_Jat h3 kk
      case gt =>
        dsimp only at hs
        refine xk_icmp_gt hexec hb h1 h2 (fun hq => ?_) (fun hq => ?_)
        · rw [if_pos hq] at hs
          cases hs
          exact kk
        · rw [if_neg hq] at hs
          cases hs
          exact xk_Jat h3 kk
      case le =>
        dsimp only at hs
        refine xk_icmp_le hexec hb h1 h2 (fun hq => ?_) (fun hq => ?_)
        · rw [if_pos hq] at hs
          cases hs
          exact kk
        · rw [if_neg hq] at hs
          cases hs
          exact xk_Jat h3 kk
    · cases hs
  case tableswitch d lo hi ts =>
    obtain ⟨d0, ts0, len, h1, h2, h3⟩ := hok
    simp only [xk_step] at hs
    split at hs
    · split at hs
      · rename_i hq
        simp only [Option.some.injEq, Prod.mk.injEq] at hs
        obtain ⟨rfl, rfl, rfl, rfl⟩ := hs
        exact fun ls H locs g1 g2 g3 g4 => lv_tableOut hexec hb h1 hq h2 (kk ls H locs g1 g2 g3 g4)
      · rename_i hq
        split at hs
        · rename_i t ht
          simp only [Option.some.injEq, Prod.mk.injEq] at hs
          obtain ⟨rfl, rfl, rfl, rfl⟩ := hs
          obtain ⟨t0, h4, h5⟩ := h3 _ _ ht
          exact fun ls H locs g1 g2 g3 g4 => lv_tableIn hexec hb h1 (fun z => hq (Or.inl z)) (fun z => hq (Or.inr z)) h4 h5 (kk ls H locs g1 g2 g3 g4)
        · cases hs
    · cases hs
  case getfield x =>
    obtain ⟨idx, h1, h2, C, T, N, h3, h4, h5, h6⟩ := hok
    simp only [xk_step] at hs
    split at hs
    · split at hs
      · rename_i ci fs he
        split at hs
        · rename_i hci
          subst hci
          split at hs
          · rename_i v hv
            simp only [Option.some.injEq, Prod.mk.injEq] at hs
            obtain ⟨rfl, rfl, rfl, rfl⟩ := hs
            exact xk_get hexec hb hts h5 hown hK he h3 (x % 32) h4 (h6.imp (fun z => hts _ z) (fun ⟨host, z⟩ => ⟨host, hN _ z⟩)) rfl hv h1 (xk_Jat h2 kk)
          · cases hs
        · cases hs
      · cases hs
    · cases hs
  case putfield x =>
    obtain ⟨idx, h1, h2, ⟨C, T, N, h3, h4, h5, h6⟩, hpf⟩ := hok
    obtain ⟨h7, ty0, h8, h9, h10⟩ := hpf C T N h3
    simp only [xk_step] at hs
    split at hs
    · rename_i v a r
      split at hs
      · rename_i ci fs he
        split at hs
        · rename_i hci
          obtain ⟨hc1, hc2⟩ := id hci
          subst hc1
          simp only [Option.some.injEq, Prod.mk.injEq] at hs
          obtain ⟨rfl, rfl, rfl, rfl⟩ := hs
          exact xk_put hexec hb hts h5 ty0 h9 h10 hown hK he h3 (x % 32) h4 (h6.imp (fun z => hts _ z) (fun ⟨host, z⟩ => ⟨host, hN _ z⟩)) rfl h7 (by rw [h8]; rfl) (by rw [h8]; rfl) hci.2 h1 (xk_Jat h2 kk)
        · cases hs
      · cases hs
    · cases hs
  case putstatic x =>
    obtain ⟨idx, h1, h2, ⟨C, T, N, h3, h4, h5, h6⟩, hpf⟩ := hok
    obtain ⟨h7, ty0, h8, h9, h10⟩ := hpf C T N h3
    simp only [xk_step] at hs
    split at hs
    · rename_i v a r
      split at hs
      · rename_i ci fs he
        split at hs
        · rename_i hci
          obtain ⟨hc1, hc2⟩ := id hci
          subst hc1
          split at hs
          · rename_i hv
            simp only [Option.some.injEq, Prod.mk.injEq] at hs
            obtain ⟨rfl, rfl, rfl, rfl⟩ := hs
            have hn : narrow .boolean (.int v) = .int v := by rcases hv with rfl | rfl <;> rfl
            have hf : fits .boolean (.int v) = true := by rcases hv with rfl | rfl <;> rfl
            exact xk_put hexec hb hts h5 ty0 h9 h10 hown hK he h3 (x % 32) h4 (h6.imp (fun z => hts _ z) (fun ⟨host, z⟩ => ⟨host, hN _ z⟩)) rfl h7 (by rw [h8]; exact hn) (by rw [h8]; exact hf) hci.2 h1 (xk_Jat h2 kk)
          · cases hs
        · cases hs
      · cases hs
    · cases hs
  case iaload =>
    simp only [xk_step] at hs
    split at hs
    · split at hs
      · rename_i he
        split at hs
        · rename_i hix
          simp only [Option.some.injEq, Prod.mk.injEq] at hs
          obtain ⟨rfl, rfl, rfl, rfl⟩ := hs
          exact xk_iald hexec hb hK he rfl (xk_ix_in hix) hok.1 (xk_Jat hok.2 kk)
        · cases hs
      · split at hs
        · rename_i ha
          subst ha
          split at hs
          · rename_i n f hsc1
            split at hs
            · rename_i hix
              simp only [Option.some.injEq, Prod.mk.injEq] at hs
              obtain ⟨rfl, rfl, rfl, rfl⟩ := hs
              obtain ⟨x1, x2, x3⟩ := hsc n f hsc1
              have k2 := xk_Jat hok.2 kk
              exact fun ls H locs g1 g2 g3 g4 => va_sld hexec hb x1 x2 x3 g4 (xk_ix_in hix) hok.1 (k2 ls H locs g1 g2 g3 g4)
            · cases hs
          · cases hs
        · cases hs
      · cases hs
    · cases hs
  case arraylength =>
    simp only [xk_step] at hs
    split at hs
    · split at hs
      · rename_i ha
        subst ha
        split at hs
        · rename_i n f hsc1
          simp only [Option.some.injEq, Prod.mk.injEq] at hs
          obtain ⟨rfl, rfl, rfl, rfl⟩ := hs
          obtain ⟨x1, x2, x3⟩ := hsc n f hsc1
          have k2 := xk_Jat hok.2 kk
          exact fun ls H locs g1 g2 g3 g4 => va_slen hexec hb x1 x2 x3 g4 hok.1 (k2 ls H locs g1 g2 g3 g4)
        · cases hs
      · cases hs
    · cases hs
  case baload =>
    simp only [xk_step] at hs
    split at hs
    · split at hs
      · rename_i he
        split at hs
        · rename_i hix
          simp only [Option.some.injEq, Prod.mk.injEq] at hs
          obtain ⟨rfl, rfl, rfl, rfl⟩ := hs
          exact xk_zald hexec hb hK he rfl (xk_ix_in hix) hok.1 (xk_Jat hok.2 kk)
        · cases hs
      · cases hs
    · cases hs
  case laload =>
    simp only [xk_step] at hs
    split at hs
    · split at hs
      · rename_i he
        split at hs
        · rename_i hix
          simp only [Option.some.injEq, Prod.mk.injEq] at hs
          obtain ⟨rfl, rfl, rfl, rfl⟩ := hs
          exact xk_lald hexec hb hK he rfl (xk_ix_in hix) hok.1 (xk_Jat hok.2 kk)
        · cases hs
      · cases hs
    · cases hs
  case iastore =>
    simp only [xk_step] at hs
    split at hs
    · split at hs
      · rename_i he
        split at hs
        · rename_i hix
          simp only [Option.some.injEq, Prod.mk.injEq] at hs
          obtain ⟨rfl, rfl, rfl, rfl⟩ := hs
          exact xk_iast hexec hb hK he rfl (xk_ix_in hix) hok.1 (xk_Jat hok.2 kk)
        · cases hs
      · cases hs
    · cases hs
  case bastore =>
    simp only [xk_step] at hs
    split at hs
    · split at hs
      · rename_i he
        split at hs
        · rename_i hix
          simp only [Option.some.injEq, Prod.mk.injEq] at hs
          obtain ⟨rfl, rfl, rfl, rfl⟩ := hs
          exact xk_zast hexec hb hK he rfl (xk_ix_in hix) hok.1 (xk_Jat hok.2 kk)
        · cases hs
      · cases hs
    · cases hs
  case lastore =>
    simp only [xk_step] at hs
    split at hs
    · split at hs
      · rename_i he
        split at hs
        · rename_i hix
          simp only [Option.some.injEq, Prod.mk.injEq] at hs
          obtain ⟨rfl, rfl, rfl, rfl⟩ := hs
          exact xk_last hexec hb hK he rfl (xk_ix_in hix) hok.1 (xk_Jat hok.2 kk)
        · cases hs
      · cases hs
    · cases hs
  case invokedynamic q =>
    obtain ⟨idx, h1, h2, h3, h4, h5⟩ := hok
    simp only [xk_step] at hs
    split at hs
    · split at hs
      · rename_i hr
        cases hs
        rcases h5 with ⟨-, h5, h6, h7, h8⟩ | ⟨h5, -⟩
        · exact xk_max hexec hb hml hown (hts _ h5) (hts _ h6) (hts _ h7) (hts _ h8) (by omega) (by omega) hcr.1 hcr.2 hr h1 (xk_Jat h2 kk)
        · cases h5
      · cases hs
    · split at hs
      · rename_i ha hbb
        split at hs
        · rename_i hq
          cases hs
          rcases h5 with ⟨h5, -⟩ | ⟨-, h5, h6, h7, h8⟩
          · cases h5
          · exact xk_copy hexec hb hml hown (hts _ h5) (hts _ h6) (hts _ h7) (hts _ h8) hK ha hbb rfl hq.2.1 hq.2.2.1 hq.2.2.2.1 hq.2.2.2.2.1 hq.2.2.2.2.2 (by omega) (by omega) hq.1 h1 (xk_Jat h2 kk)
        · cases hs
      · cases hs
    · cases hs
end XkSound
