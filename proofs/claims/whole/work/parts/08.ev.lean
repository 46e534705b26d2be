/-! What the interpreter answers, said without its fuel. -/
section XkEv
variable {P : Nat → xk_M} {k i i1 j na N : Nat} {L L1 st st1 : List Value} {w w1 w2 : xk_W} {r : xk_R} {mi : Instr}
def xk_Ev (P : Nat → xk_M) (k i : Nat) (L st : List Value) (w : xk_W) (r : xk_R) : Prop := ∃ n, ∀ q, n ≤ q → xk_run P q k i L st w = some r
set_option maxHeartbeats 2000000 in
theorem xk_body_step {f : Nat → Nat → List Value → List Value → xk_W → Option xk_R} (h : (P k).1[i]? = some mi) (hs : xk_step mi i L st w = some (i1, L1, st1, w1)) : xk_body P f k i L st w = f k i1 L1 st1 w1 := by
  unfold xk_body
  rw [h]
  cases mi <;> first
    | (dsimp only; rw [hs])
    | (simp only [xk_step] at hs; cases hs)
theorem xk_Ev.step (h : (P k).1[i]? = some mi) (hs : xk_step mi i L st w = some (i1, L1, st1, w1)) (hk : xk_Ev P k i1 L1 st1 w1 r) : xk_Ev P k i L st w r := by
  obtain ⟨n, hn⟩ := hk
  refine ⟨n + 1, fun q hq => ?_⟩
  obtain ⟨q', rfl⟩ : ∃ q', q = q' + 1 := ⟨q - 1, by omega⟩
  show xk_body P (xk_run P q') k i L st w = some r
  rw [xk_body_step h hs]
  exact hn q' (by omega)
/-- several plain instructions -/
def xk_go (P : Nat → xk_M) (k : Nat) : Nat → xk_C → Option xk_C
  | 0, c => some c
  | n + 1, c => match (P k).1[c.1]? with
    | none => none
    | some mi => match xk_step mi c.1 c.2.1 c.2.2.1 c.2.2.2 with
      | none => none
      | some c' => xk_go P k n c'
theorem xk_Ev.go' : ∀ (N : Nat) (c c' : xk_C), xk_go P k N c = some c' → xk_Ev P k c'.1 c'.2.1 c'.2.2.1 c'.2.2.2 r → xk_Ev P k c.1 c.2.1 c.2.2.1 c.2.2.2 r
  | 0, c, c', h, hk => by
    have e : c = c' := Option.some.inj h
    rw [e]
    exact hk
  | N + 1, c, c', h, hk => by
    unfold xk_go at h
    split at h
    · cases h
    · rename_i mi hm
      split at h
      · cases h
      · rename_i c1 hs
        exact xk_Ev.step hm hs (xk_Ev.go' N c1 c' h hk)
theorem xk_Ev.go (N : Nat) (h : xk_go P k N (i, L, st, w) = some (i1, L1, st1, w1)) (hk : xk_Ev P k i1 L1 st1 w1 r) : xk_Ev P k i L st w r := xk_Ev.go' N _ _ h hk
/-- to a branch -/
theorem xk_Ev.br (N : Nat) {b : Prop} [Decidable b] {i2 : Nat} {L2 st2 : List Value} {w2 : xk_W} (h : xk_go P k N (i, L, st, w) = if b then some (i1, L1, st1, w1) else some (i2, L2, st2, w2)) (ht : b → xk_Ev P k i1 L1 st1 w1 r) (hf : ¬ b → xk_Ev P k i2 L2 st2 w2 r) : xk_Ev P k i L st w r := by
  by_cases hb : b
  · rw [if_pos hb] at h
    exact xk_Ev.go N h (ht hb)
  · rw [if_neg hb] at h
    exact xk_Ev.go N h (hf hb)
/-- to an instruction that asks something -/
theorem xk_Ev.ok (N : Nat) {b : Prop} [Decidable b] (hb : b) (h : xk_go P k N (i, L, st, w) = if b then some (i1, L1, st1, w1) else none) (hk : xk_Ev P k i1 L1 st1 w1 r) : xk_Ev P k i L st w r := by
  rw [if_pos hb] at h
  exact xk_Ev.go N h hk
theorem xk_Ev.no (N : Nat) {b : Prop} [Decidable b] (hb : ¬ b) (h : xk_go P k N (i, L, st, w) = if b then none else some (i1, L1, st1, w1)) (hk : xk_Ev P k i1 L1 st1 w1 r) : xk_Ev P k i L st w r := by
  rw [if_neg hb] at h
  exact xk_Ev.go N h hk
theorem xk_Ev.ret (h : (P k).1[i]? = some .return_) : xk_Ev P k i L [] w (.inl none, 0, w) :=
  ⟨1, fun q hq => by
    obtain ⟨q', rfl⟩ : ∃ q', q = q' + 1 := ⟨q - 1, by omega⟩
    show xk_body P (xk_run P q') k i L [] w = _
    unfold xk_body
    rw [h]⟩
theorem xk_Ev.iret {x : Int32} (h : (P k).1[i]? = some .ireturn) : xk_Ev P k i L [.int x] w (.inl (some (.int x)), 0, w) :=
  ⟨1, fun q hq => by
    obtain ⟨q', rfl⟩ : ∃ q', q = q' + 1 := ⟨q - 1, by omega⟩
    show xk_body P (xk_run P q') k i L [.int x] w = _
    unfold xk_body
    rw [h]⟩
theorem xk_Ev.zret {x : Int32} (h : (P k).1[i]? = some .freturn) (hx : x = 0 ∨ x = 1) : xk_Ev P k i L [.int x] w (.inl (some (.int x)), 0, w) :=
  ⟨1, fun q hq => by
    obtain ⟨q', rfl⟩ : ∃ q', q = q' + 1 := ⟨q - 1, by omega⟩
    show xk_body P (xk_run P q') k i L [.int x] w = _
    unfold xk_body
    rw [h]
    dsimp only
    rw [if_pos hx]⟩
theorem xk_Ev.thr {x : Nat} (h : (P k).1[i]? = some (.new x)) : xk_Ev P k i L [] w (.inr x, 1, w) :=
  ⟨1, fun q hq => by
    obtain ⟨q', rfl⟩ : ∃ q', q = q' + 1 := ⟨q - 1, by omega⟩
    show xk_body P (xk_run P q') k i L [] w = _
    unfold xk_body
    rw [h]⟩
/-- a call that returns -/
theorem xk_Ev.call {v : Option Value} {d d2 : Nat} {o : Option Value ⊕ Nat} (h : (P k).1[i]? = some (.invokeinterface j na)) (hf : xk_fit P j na st w = true) (hc : xk_Ev P j 0 (xk_in P j na st) [] w (.inl v, d, w1)) (hk : xk_Ev P k (i + 1) L (v.toList ++ st.drop na) w1 (o, d2, w2)) : xk_Ev P k i L st w (o, d + d2, w2) := by
  obtain ⟨n1, h1⟩ := hc
  obtain ⟨n2, h2⟩ := hk
  refine ⟨n1 + n2 + 1, fun q hq => ?_⟩
  obtain ⟨q', rfl⟩ : ∃ q', q = q' + 1 := ⟨q - 1, by omega⟩
  show xk_body P (xk_run P q') k i L st w = _
  unfold xk_body
  rw [h]
  dsimp only
  rw [if_pos hf, h1 q' (by omega)]
  dsimp only
  rw [h2 q' (by omega)]
/-- a call that throws, where nobody catches -/
theorem xk_Ev.callT {x d : Nat} (h : (P k).1[i]? = some (.invokeinterface j na)) (hf : xk_fit P j na st w = true) (hc : xk_Ev P j 0 (xk_in P j na st) [] w (.inr x, d, w1)) (hh : (P k).2.2.2.isEmpty = true) : xk_Ev P k i L st w (.inr x, d, w1) := by
  obtain ⟨n1, h1⟩ := hc
  refine ⟨n1 + 1, fun q hq => ?_⟩
  obtain ⟨q', rfl⟩ : ∃ q', q = q' + 1 := ⟨q - 1, by omega⟩
  show xk_body P (xk_run P q') k i L st w = _
  unfold xk_body
  rw [h]
  dsimp only
  rw [if_pos hf, h1 q' (by omega)]
  dsimp only
  rw [if_pos hh]
/-- a call that throws what is caught -/
theorem xk_Ev.callC {x d : Nat} {z : Nat × Int} (h : (P k).1[i]? = some (.invokeinterface j na)) (hf : xk_fit P j na st w = true) (hc : xk_Ev P j 0 (xk_in P j na st) [] w (.inr x, d, w1)) (hh : (P k).2.2.2.find? (fun q => q.1 == x) = some z) : xk_Ev P k i L st w (.inl (some (.int (Int32.ofInt z.2))), d, w1) := by
  obtain ⟨n1, h1⟩ := hc
  refine ⟨n1 + 1, fun q hq => ?_⟩
  obtain ⟨q', rfl⟩ : ∃ q', q = q' + 1 := ⟨q - 1, by omega⟩
  show xk_body P (xk_run P q') k i L st w = _
  unfold xk_body
  rw [h]
  dsimp only
  rw [if_pos hf, h1 q' (by omega)]
  have he : ¬ (P k).2.2.2.isEmpty = true := by
    intro h9
    rw [List.isEmpty_iff.mp h9] at hh
    cases hh
  dsimp only
  rw [if_neg he, hh]
end XkEv
