/-! What the interpreter answers, said without its fuel. -/
section XkEv
variable {P : Nat → xk_M} {k i i1 j na N : Nat} {L L1 st st1 : List Value} {w w1 w2 : xk_W} {r : xk_R} {mi : Instr}
def xk_Ev (P : Nat → xk_M) (k i : Nat) (L st : List Value) (w : xk_W) (r : xk_R) : Prop := ∃ n, ∀ q, n ≤ q → xk_run P q k i L st w = some r
set_option maxHeartbeats 2000000 in
theorem xk_body_step {f : Nat → Nat → List Value → List Value → xk_W → Option xk_R} (h : (P k).1[i]? = some mi) (hs : xk_step (P k).2.2.2.2 mi i L st w = some (i1, L1, st1, w1)) : xk_body P f k i L st w = f k i1 L1 st1 w1 := by
  unfold xk_body
  rw [h]
  cases mi <;> first
    | (dsimp only; rw [hs])
    | (simp only [xk_step] at hs; cases hs)
theorem xk_Ev.step (h : (P k).1[i]? = some mi) (hs : xk_step (P k).2.2.2.2 mi i L st w = some (i1, L1, st1, w1)) (hk : xk_Ev P k i1 L1 st1 w1 r) : xk_Ev P k i L st w r := by
  obtain ⟨n, hn⟩ := hk
  refine ⟨n + 1, fun q hq => ?_⟩
  obtain ⟨q', rfl⟩ : ∃ q', q = q' + 1 := ⟨q - 1, by omega⟩
  show xk_body P (xk_run P q') k i L st w = some r
  rw [xk_body_step h hs]
  exact hn q' (by omega)
/-- several plain instructions -/
def xk_go (P : Nat → xk_M) (k : Nat) : Nat → xk_C → Option xk_C
  | 0, c => some c
  | n + 1, (i, L, st, w) => match (P k).1[i]? with
    | none => none
    | some mi => match xk_step (P k).2.2.2.2 mi i L st w with
      | none => none
      | some c' => xk_go P k n c'
theorem xk_Ev.go' : ∀ (N : Nat) (c c' : xk_C), xk_go P k N c = some c' → xk_Ev P k c'.1 c'.2.1 c'.2.2.1 c'.2.2.2 r → xk_Ev P k c.1 c.2.1 c.2.2.1 c.2.2.2 r
  | 0, c, c', h, hk => by
    have e : c = c' := Option.some.inj h
    rw [e]
    exact hk
  | N + 1, (i, L, st, w), c', h, hk => by
    unfold xk_go at h
    split at h
    · cases h
    · rename_i mi hm
      split at h
      · cases h
      · rename_i c1 hs
        exact xk_Ev.step hm hs (xk_Ev.go' N c1 c' h hk)
theorem xk_Ev.go (N : Nat) (h : xk_go P k N (i, L, st, w) = some (i1, L1, st1, w1)) (hk : xk_Ev P k i1 L1 st1 w1 r) : xk_Ev P k i L st w r := xk_Ev.go' N _ _ h hk
/-- a branch -/
theorem xk_Ev.br {b : Prop} [Decidable b] {i2 : Nat} {L2 st2 : List Value} {w2 : xk_W} (h : (P k).1[i]? = some mi) (hs : xk_step (P k).2.2.2.2 mi i L st w = if b then some (i1, L1, st1, w1) else some (i2, L2, st2, w2)) (ht : b → xk_Ev P k i1 L1 st1 w1 r) (hf : ¬ b → xk_Ev P k i2 L2 st2 w2 r) : xk_Ev P k i L st w r := by
  by_cases hb : b
  · rw [if_pos hb] at hs
    exact xk_Ev.step h hs (ht hb)
  · rw [if_neg hb] at hs
    exact xk_Ev.step h hs (hf hb)
/-- an instruction that asks something -/
theorem xk_Ev.ok {b : Prop} [Decidable b] (hb : b) (h : (P k).1[i]? = some mi) (hs : xk_step (P k).2.2.2.2 mi i L st w = if b then some (i1, L1, st1, w1) else none) (hk : xk_Ev P k i1 L1 st1 w1 r) : xk_Ev P k i L st w r := by
  rw [if_pos hb] at hs
  exact xk_Ev.step h hs hk
theorem xk_Ev.no {b : Prop} [Decidable b] (hb : ¬ b) (h : (P k).1[i]? = some mi) (hs : xk_step (P k).2.2.2.2 mi i L st w = if b then none else some (i1, L1, st1, w1)) (hk : xk_Ev P k i1 L1 st1 w1 r) : xk_Ev P k i L st w r := by
  rw [if_neg hb] at hs
  exact xk_Ev.step h hs hk
theorem xk_Ev.ret (h : (P k).1[i]? = some .return_) : xk_Ev P k i L [] w (.inl none, 0, w) :=
  ⟨1, fun q hq => by
    obtain ⟨q', rfl⟩ : ∃ q', q = q' + 1 := ⟨q - 1, by omega⟩
    show xk_body P (xk_run P q') k i L [] w = _
    unfold xk_body
    rw [h]⟩
theorem xk_Ev.iret {x : Int32} (h : (P k).1[i]? = some .ireturn) : xk_Ev P k i L [.int x] w (.inl (some (.int x)), 0, w) :=
  ⟨1, fun q hq => by
    obtain ⟨q', rfl⟩ : ∃ q', q = q' + 1 := ⟨q - 1, by omega⟩
    show xk_body P (xk_run P q') k i L [.int x] w = _
    unfold xk_body
    rw [h]⟩
theorem xk_Ev.zret {x : Int32} (h : (P k).1[i]? = some .freturn) (hx : x = 0 ∨ x = 1) : xk_Ev P k i L [.int x] w (.inl (some (.int x)), 0, w) :=
  ⟨1, fun q hq => by
    obtain ⟨q', rfl⟩ : ∃ q', q = q' + 1 := ⟨q - 1, by omega⟩
    show xk_body P (xk_run P q') k i L [.int x] w = _
    unfold xk_body
    rw [h]
    dsimp only
    rw [if_pos hx]⟩
theorem xk_Ev.thr {x : Nat} (h : (P k).1[i]? = some (.new x)) : xk_Ev P k i L [] w (.inr x, 1, w) :=
  ⟨1, fun q hq => by
    obtain ⟨q', rfl⟩ : ∃ q', q = q' + 1 := ⟨q - 1, by omega⟩
    show xk_body P (xk_run P q') k i L [] w = _
    unfold xk_body
    rw [h]⟩
/-- a call that returns -/
theorem xk_Ev.call {v : Option Value} {d d2 : Nat} {o : Option Value ⊕ Nat} (h : (P k).1[i]? = some (.invokeinterface j na)) (hf : xk_fit P j na st w = true) (hc : xk_Ev P j 0 (xk_in P j na st) [] w (.inl v, d, w1)) (hk : xk_Ev P k (i + 1) L (v.toList ++ st.drop na) w1 (o, d2, w2)) : xk_Ev P k i L st w (o, d + d2, w2) := by
  obtain ⟨n1, h1⟩ := hc
  obtain ⟨n2, h2⟩ := hk
  refine ⟨n1 + n2 + 1, fun q hq => ?_⟩
  obtain ⟨q', rfl⟩ : ∃ q', q = q' + 1 := ⟨q - 1, by omega⟩
  show xk_body P (xk_run P q') k i L st w = _
  unfold xk_body
  rw [h]
  dsimp only
  rw [if_pos hf, h1 q' (by omega)]
  dsimp only
  rw [h2 q' (by omega)]
/-- a call that throws, where nobody catches -/
theorem xk_Ev.callT {x d : Nat} (h : (P k).1[i]? = some (.invokeinterface j na)) (hf : xk_fit P j na st w = true) (hc : xk_Ev P j 0 (xk_in P j na st) [] w (.inr x, d, w1)) (hh : (P k).2.2.2.1.isEmpty = true) : xk_Ev P k i L st w (.inr x, d, w1) := by
  obtain ⟨n1, h1⟩ := hc
  refine ⟨n1 + 1, fun q hq => ?_⟩
  obtain ⟨q', rfl⟩ : ∃ q', q = q' + 1 := ⟨q - 1, by omega⟩
  show xk_body P (xk_run P q') k i L st w = _
  unfold xk_body
  rw [h]
  dsimp only
  rw [if_pos hf, h1 q' (by omega)]
  dsimp only
  rw [if_pos hh]
/-- a call that throws what is caught -/
theorem xk_Ev.callC {x d : Nat} {z : Nat × Int} (h : (P k).1[i]? = some (.invokeinterface j na)) (hf : xk_fit P j na st w = true) (hc : xk_Ev P j 0 (xk_in P j na st) [] w (.inr x, d, w1)) (hh : (P k).2.2.2.1.find? (fun q => q.1 == x) = some z) : xk_Ev P k i L st w (.inl (some (.int (Int32.ofInt z.2))), d, w1) := by
  obtain ⟨n1, h1⟩ := hc
  refine ⟨n1 + 1, fun q hq => ?_⟩
  obtain ⟨q', rfl⟩ : ∃ q', q = q' + 1 := ⟨q - 1, by omega⟩
  show xk_body P (xk_run P q') k i L st w = _
  unfold xk_body
  rw [h]
  dsimp only
  rw [if_pos hf, h1 q' (by omega)]
  have he : ¬ (P k).2.2.2.1.isEmpty = true := by
    intro h9
    rw [List.isEmpty_iff.mp h9] at hh
    cases hh
  dsimp only
  rw [if_neg he, hh]
theorem xk_Ev.cv0 {r0 : List Value} {q : xk_R} (h : (P k).1[i]? = some (.invokeinterface j 0)) (hf : xk_fit P j 0 (r0) w = true) (hc : xk_Ev P j 0 (List.replicate ((P j).2.1 - 0) (.retAddr 0)) [] w (.inl (none), 0, w1)) (hk : xk_Ev P k (i + 1) L (r0) w1 q) : xk_Ev P k i L (r0) w q := by
  obtain ⟨o, d2, w2⟩ := q
  have h9 := xk_Ev.call (st := r0) (v := none) h hf hc hk
  rw [Nat.zero_add] at h9
  exact h9
theorem xk_Ev.ci0 {x : Value} {r0 : List Value} {q : xk_R} (h : (P k).1[i]? = some (.invokeinterface j 0)) (hf : xk_fit P j 0 (r0) w = true) (hc : xk_Ev P j 0 (List.replicate ((P j).2.1 - 0) (.retAddr 0)) [] w (.inl (some x), 0, w1)) (hk : xk_Ev P k (i + 1) L (x :: r0) w1 q) : xk_Ev P k i L (r0) w q := by
  obtain ⟨o, d2, w2⟩ := q
  have h9 := xk_Ev.call (st := r0) (v := some x) h hf hc hk
  rw [Nat.zero_add] at h9
  exact h9
theorem xk_Ev.ct0 {r0 : List Value} {x dd : Nat} (h : (P k).1[i]? = some (.invokeinterface j 0)) (hf : xk_fit P j 0 (r0) w = true) (hc : xk_Ev P j 0 (List.replicate ((P j).2.1 - 0) (.retAddr 0)) [] w (.inr x, dd, w1)) (hh : (P k).2.2.2.1.isEmpty = true) : xk_Ev P k i L (r0) w (.inr x, dd, w1) := xk_Ev.callT (st := r0) h hf hc hh
theorem xk_Ev.cv1 {a : Value} {r0 : List Value} {q : xk_R} (h : (P k).1[i]? = some (.invokeinterface j 1)) (hf : xk_fit P j 1 (a :: r0) w = true) (hc : xk_Ev P j 0 (a :: List.replicate ((P j).2.1 - 1) (.retAddr 0)) [] w (.inl (none), 0, w1)) (hk : xk_Ev P k (i + 1) L (r0) w1 q) : xk_Ev P k i L (a :: r0) w q := by
  obtain ⟨o, d2, w2⟩ := q
  have h9 := xk_Ev.call (st := a :: r0) (v := none) h hf hc hk
  rw [Nat.zero_add] at h9
  exact h9
theorem xk_Ev.ci1 {a : Value} {x : Value} {r0 : List Value} {q : xk_R} (h : (P k).1[i]? = some (.invokeinterface j 1)) (hf : xk_fit P j 1 (a :: r0) w = true) (hc : xk_Ev P j 0 (a :: List.replicate ((P j).2.1 - 1) (.retAddr 0)) [] w (.inl (some x), 0, w1)) (hk : xk_Ev P k (i + 1) L (x :: r0) w1 q) : xk_Ev P k i L (a :: r0) w q := by
  obtain ⟨o, d2, w2⟩ := q
  have h9 := xk_Ev.call (st := a :: r0) (v := some x) h hf hc hk
  rw [Nat.zero_add] at h9
  exact h9
theorem xk_Ev.ct1 {a : Value} {r0 : List Value} {x dd : Nat} (h : (P k).1[i]? = some (.invokeinterface j 1)) (hf : xk_fit P j 1 (a :: r0) w = true) (hc : xk_Ev P j 0 (a :: List.replicate ((P j).2.1 - 1) (.retAddr 0)) [] w (.inr x, dd, w1)) (hh : (P k).2.2.2.1.isEmpty = true) : xk_Ev P k i L (a :: r0) w (.inr x, dd, w1) := xk_Ev.callT (st := a :: r0) h hf hc hh
theorem xk_Ev.cv2 {a b : Value} {r0 : List Value} {q : xk_R} (h : (P k).1[i]? = some (.invokeinterface j 2)) (hf : xk_fit P j 2 (b :: a :: r0) w = true) (hc : xk_Ev P j 0 (a :: b :: List.replicate ((P j).2.1 - 2) (.retAddr 0)) [] w (.inl (none), 0, w1)) (hk : xk_Ev P k (i + 1) L (r0) w1 q) : xk_Ev P k i L (b :: a :: r0) w q := by
  obtain ⟨o, d2, w2⟩ := q
  have h9 := xk_Ev.call (st := b :: a :: r0) (v := none) h hf hc hk
  rw [Nat.zero_add] at h9
  exact h9
theorem xk_Ev.ci2 {a b : Value} {x : Value} {r0 : List Value} {q : xk_R} (h : (P k).1[i]? = some (.invokeinterface j 2)) (hf : xk_fit P j 2 (b :: a :: r0) w = true) (hc : xk_Ev P j 0 (a :: b :: List.replicate ((P j).2.1 - 2) (.retAddr 0)) [] w (.inl (some x), 0, w1)) (hk : xk_Ev P k (i + 1) L (x :: r0) w1 q) : xk_Ev P k i L (b :: a :: r0) w q := by
  obtain ⟨o, d2, w2⟩ := q
  have h9 := xk_Ev.call (st := b :: a :: r0) (v := some x) h hf hc hk
  rw [Nat.zero_add] at h9
  exact h9
theorem xk_Ev.ct2 {a b : Value} {r0 : List Value} {x dd : Nat} (h : (P k).1[i]? = some (.invokeinterface j 2)) (hf : xk_fit P j 2 (b :: a :: r0) w = true) (hc : xk_Ev P j 0 (a :: b :: List.replicate ((P j).2.1 - 2) (.retAddr 0)) [] w (.inr x, dd, w1)) (hh : (P k).2.2.2.1.isEmpty = true) : xk_Ev P k i L (b :: a :: r0) w (.inr x, dd, w1) := xk_Ev.callT (st := b :: a :: r0) h hf hc hh
theorem xk_Ev.cv3 {a b c : Value} {r0 : List Value} {q : xk_R} (h : (P k).1[i]? = some (.invokeinterface j 3)) (hf : xk_fit P j 3 (c :: b :: a :: r0) w = true) (hc : xk_Ev P j 0 (a :: b :: c :: List.replicate ((P j).2.1 - 3) (.retAddr 0)) [] w (.inl (none), 0, w1)) (hk : xk_Ev P k (i + 1) L (r0) w1 q) : xk_Ev P k i L (c :: b :: a :: r0) w q := by
  obtain ⟨o, d2, w2⟩ := q
  have h9 := xk_Ev.call (st := c :: b :: a :: r0) (v := none) h hf hc hk
  rw [Nat.zero_add] at h9
  exact h9
theorem xk_Ev.ci3 {a b c : Value} {x : Value} {r0 : List Value} {q : xk_R} (h : (P k).1[i]? = some (.invokeinterface j 3)) (hf : xk_fit P j 3 (c :: b :: a :: r0) w = true) (hc : xk_Ev P j 0 (a :: b :: c :: List.replicate ((P j).2.1 - 3) (.retAddr 0)) [] w (.inl (some x), 0, w1)) (hk : xk_Ev P k (i + 1) L (x :: r0) w1 q) : xk_Ev P k i L (c :: b :: a :: r0) w q := by
  obtain ⟨o, d2, w2⟩ := q
  have h9 := xk_Ev.call (st := c :: b :: a :: r0) (v := some x) h hf hc hk
  rw [Nat.zero_add] at h9
  exact h9
theorem xk_Ev.ct3 {a b c : Value} {r0 : List Value} {x dd : Nat} (h : (P k).1[i]? = some (.invokeinterface j 3)) (hf : xk_fit P j 3 (c :: b :: a :: r0) w = true) (hc : xk_Ev P j 0 (a :: b :: c :: List.replicate ((P j).2.1 - 3) (.retAddr 0)) [] w (.inr x, dd, w1)) (hh : (P k).2.2.2.1.isEmpty = true) : xk_Ev P k i L (c :: b :: a :: r0) w (.inr x, dd, w1) := xk_Ev.callT (st := c :: b :: a :: r0) h hf hc hh
theorem xk_Ev.cv4 {a b c d : Value} {r0 : List Value} {q : xk_R} (h : (P k).1[i]? = some (.invokeinterface j 4)) (hf : xk_fit P j 4 (d :: c :: b :: a :: r0) w = true) (hc : xk_Ev P j 0 (a :: b :: c :: d :: List.replicate ((P j).2.1 - 4) (.retAddr 0)) [] w (.inl (none), 0, w1)) (hk : xk_Ev P k (i + 1) L (r0) w1 q) : xk_Ev P k i L (d :: c :: b :: a :: r0) w q := by
  obtain ⟨o, d2, w2⟩ := q
  have h9 := xk_Ev.call (st := d :: c :: b :: a :: r0) (v := none) h hf hc hk
  rw [Nat.zero_add] at h9
  exact h9
theorem xk_Ev.ci4 {a b c d : Value} {x : Value} {r0 : List Value} {q : xk_R} (h : (P k).1[i]? = some (.invokeinterface j 4)) (hf : xk_fit P j 4 (d :: c :: b :: a :: r0) w = true) (hc : xk_Ev P j 0 (a :: b :: c :: d :: List.replicate ((P j).2.1 - 4) (.retAddr 0)) [] w (.inl (some x), 0, w1)) (hk : xk_Ev P k (i + 1) L (x :: r0) w1 q) : xk_Ev P k i L (d :: c :: b :: a :: r0) w q := by
  obtain ⟨o, d2, w2⟩ := q
  have h9 := xk_Ev.call (st := d :: c :: b :: a :: r0) (v := some x) h hf hc hk
  rw [Nat.zero_add] at h9
  exact h9
theorem xk_Ev.ct4 {a b c d : Value} {r0 : List Value} {x dd : Nat} (h : (P k).1[i]? = some (.invokeinterface j 4)) (hf : xk_fit P j 4 (d :: c :: b :: a :: r0) w = true) (hc : xk_Ev P j 0 (a :: b :: c :: d :: List.replicate ((P j).2.1 - 4) (.retAddr 0)) [] w (.inr x, dd, w1)) (hh : (P k).2.2.2.1.isEmpty = true) : xk_Ev P k i L (d :: c :: b :: a :: r0) w (.inr x, dd, w1) := xk_Ev.callT (st := d :: c :: b :: a :: r0) h hf hc hh
theorem xk_Ev.cv5 {a b c d e : Value} {r0 : List Value} {q : xk_R} (h : (P k).1[i]? = some (.invokeinterface j 5)) (hf : xk_fit P j 5 (e :: d :: c :: b :: a :: r0) w = true) (hc : xk_Ev P j 0 (a :: b :: c :: d :: e :: List.replicate ((P j).2.1 - 5) (.retAddr 0)) [] w (.inl (none), 0, w1)) (hk : xk_Ev P k (i + 1) L (r0) w1 q) : xk_Ev P k i L (e :: d :: c :: b :: a :: r0) w q := by
  obtain ⟨o, d2, w2⟩ := q
  have h9 := xk_Ev.call (st := e :: d :: c :: b :: a :: r0) (v := none) h hf hc hk
  rw [Nat.zero_add] at h9
  exact h9
theorem xk_Ev.ci5 {a b c d e : Value} {x : Value} {r0 : List Value} {q : xk_R} (h : (P k).1[i]? = some (.invokeinterface j 5)) (hf : xk_fit P j 5 (e :: d :: c :: b :: a :: r0) w = true) (hc : xk_Ev P j 0 (a :: b :: c :: d :: e :: List.replicate ((P j).2.1 - 5) (.retAddr 0)) [] w (.inl (some x), 0, w1)) (hk : xk_Ev P k (i + 1) L (x :: r0) w1 q) : xk_Ev P k i L (e :: d :: c :: b :: a :: r0) w q := by
  obtain ⟨o, d2, w2⟩ := q
  have h9 := xk_Ev.call (st := e :: d :: c :: b :: a :: r0) (v := some x) h hf hc hk
  rw [Nat.zero_add] at h9
  exact h9
theorem xk_Ev.ct5 {a b c d e : Value} {r0 : List Value} {x dd : Nat} (h : (P k).1[i]? = some (.invokeinterface j 5)) (hf : xk_fit P j 5 (e :: d :: c :: b :: a :: r0) w = true) (hc : xk_Ev P j 0 (a :: b :: c :: d :: e :: List.replicate ((P j).2.1 - 5) (.retAddr 0)) [] w (.inr x, dd, w1)) (hh : (P k).2.2.2.1.isEmpty = true) : xk_Ev P k i L (e :: d :: c :: b :: a :: r0) w (.inr x, dd, w1) := xk_Ev.callT (st := e :: d :: c :: b :: a :: r0) h hf hc hh
end XkEv
