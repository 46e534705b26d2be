/-! What the interpreter answers, by what is asked of the answer. -/
section XkPo
variable {P : Nat → xk_M} {k i i1 j : Nat} {L L1 st st1 : List Value} {w w1 : xk_W} {mi : Instr} {Φ : xk_R → Prop}
def xk_Po (P : Nat → xk_M) (k i : Nat) (L st : List Value) (w : xk_W) (Φ : xk_R → Prop) : Prop := ∃ r, xk_Ev P k i L st w r ∧ Φ r
theorem xk_Ev.of {q : xk_R} (h : xk_Po P k i L st w (fun r => r = q)) : xk_Ev P k i L st w q := by
  obtain ⟨r, h1, rfl⟩ := h
  exact h1
theorem xk_Po.go (N : Nat) (h : xk_go P k N (i, L, st, w) = some (i1, L1, st1, w1)) (hk : xk_Po P k i1 L1 st1 w1 Φ) : xk_Po P k i L st w Φ := by
  obtain ⟨r, h1, h2⟩ := hk
  exact ⟨r, xk_Ev.go N h h1, h2⟩
theorem xk_Po.br {b : Prop} [Decidable b] {i2 : Nat} {L2 st2 : List Value} {w2 : xk_W} (h : (P k).1[i]? = some mi) (hs : xk_step (P k).2.2.2.2 mi i L st w = if b then some (i1, L1, st1, w1) else some (i2, L2, st2, w2)) (ht : b → xk_Po P k i1 L1 st1 w1 Φ) (hf : ¬ b → xk_Po P k i2 L2 st2 w2 Φ) : xk_Po P k i L st w Φ := by
  by_cases hb : b
  · obtain ⟨r, h1, h2⟩ := ht hb
    rw [if_pos hb] at hs
    exact ⟨r, xk_Ev.step h hs h1, h2⟩
  · obtain ⟨r, h1, h2⟩ := hf hb
    rw [if_neg hb] at hs
    exact ⟨r, xk_Ev.step h hs h1, h2⟩
theorem xk_Po.ok {b : Prop} [Decidable b] (h : (P k).1[i]? = some mi) (hs : xk_step (P k).2.2.2.2 mi i L st w = if b then some (i1, L1, st1, w1) else none) (hb : b) (hk : xk_Po P k i1 L1 st1 w1 Φ) : xk_Po P k i L st w Φ := by
  obtain ⟨r, h1, h2⟩ := hk
  exact ⟨r, xk_Ev.ok hb h hs h1, h2⟩
theorem xk_Po.no {b : Prop} [Decidable b] (h : (P k).1[i]? = some mi) (hs : xk_step (P k).2.2.2.2 mi i L st w = if b then none else some (i1, L1, st1, w1)) (hb : ¬ b) (hk : xk_Po P k i1 L1 st1 w1 Φ) : xk_Po P k i L st w Φ := by
  obtain ⟨r, h1, h2⟩ := hk
  exact ⟨r, xk_Ev.no hb h hs h1, h2⟩
theorem xk_Po.ret (h : (P k).1[i]? = some .return_) (hq : Φ (.inl none, 0, w)) : xk_Po P k i L [] w Φ := ⟨_, xk_Ev.ret h, hq⟩
theorem xk_Po.iret {x : Int32} (h : (P k).1[i]? = some .ireturn) (hq : Φ (.inl (some (.int x)), 0, w)) : xk_Po P k i L [.int x] w Φ := ⟨_, xk_Ev.iret h, hq⟩
theorem xk_Po.zret {x : Int32} (h : (P k).1[i]? = some .freturn) (hx : x = 0 ∨ x = 1) (hq : Φ (.inl (some (.int x)), 0, w)) : xk_Po P k i L [.int x] w Φ := ⟨_, xk_Ev.zret h hx, hq⟩
theorem xk_Po.thr {x : Nat} (h : (P k).1[i]? = some (.new x)) (hq : Φ (.inr x, 1, w)) : xk_Po P k i L [] w Φ := ⟨_, xk_Ev.thr h, hq⟩
/-- further on with what is known already -/
theorem xk_Po.ev {q : xk_R} (h : xk_Ev P k i L st w q) (hq : Φ q) : xk_Po P k i L st w Φ := ⟨q, h, hq⟩
theorem xk_Po.mono {Ψ : xk_R → Prop} (h : xk_Po P k i L st w Ψ) (hq : ∀ r, Ψ r → Φ r) : xk_Po P k i L st w Φ := by
  obtain ⟨r, h1, h2⟩ := h
  exact ⟨r, h1, hq r h2⟩
theorem xk_Po.cv0 {r0 : List Value} (h : (P k).1[i]? = some (.invokeinterface j 0)) (hf : xk_fit P j 0 (r0) w = true) (hc : xk_Ev P j 0 (List.replicate ((P j).2.1 - 0) (.retAddr 0)) [] w (.inl (none), 0, w1)) (hk : xk_Po P k (i + 1) L (r0) w1 Φ) : xk_Po P k i L (r0) w Φ := by
  obtain ⟨q, h1, h2⟩ := hk
  exact ⟨q, xk_Ev.cv0 h hf hc h1, h2⟩
theorem xk_Po.ci0 {x : Value} {r0 : List Value} (h : (P k).1[i]? = some (.invokeinterface j 0)) (hf : xk_fit P j 0 (r0) w = true) (hc : xk_Ev P j 0 (List.replicate ((P j).2.1 - 0) (.retAddr 0)) [] w (.inl (some x), 0, w1)) (hk : xk_Po P k (i + 1) L (x :: r0) w1 Φ) : xk_Po P k i L (r0) w Φ := by
  obtain ⟨q, h1, h2⟩ := hk
  exact ⟨q, xk_Ev.ci0 h hf hc h1, h2⟩
theorem xk_Po.ct0 {r0 : List Value} {x dd : Nat} (h : (P k).1[i]? = some (.invokeinterface j 0)) (hf : xk_fit P j 0 (r0) w = true) (hc : xk_Ev P j 0 (List.replicate ((P j).2.1 - 0) (.retAddr 0)) [] w (.inr x, dd, w1)) (hh : (P k).2.2.2.1.isEmpty = true) (hq : Φ (.inr x, dd, w1)) : xk_Po P k i L (r0) w Φ := ⟨_, xk_Ev.ct0 h hf hc hh, hq⟩
theorem xk_Po.cv1 {a : Value} {r0 : List Value} (h : (P k).1[i]? = some (.invokeinterface j 1)) (hf : xk_fit P j 1 (a :: r0) w = true) (hc : xk_Ev P j 0 (a :: List.replicate ((P j).2.1 - 1) (.retAddr 0)) [] w (.inl (none), 0, w1)) (hk : xk_Po P k (i + 1) L (r0) w1 Φ) : xk_Po P k i L (a :: r0) w Φ := by
  obtain ⟨q, h1, h2⟩ := hk
  exact ⟨q, xk_Ev.cv1 h hf hc h1, h2⟩
theorem xk_Po.ci1 {a : Value} {x : Value} {r0 : List Value} (h : (P k).1[i]? = some (.invokeinterface j 1)) (hf : xk_fit P j 1 (a :: r0) w = true) (hc : xk_Ev P j 0 (a :: List.replicate ((P j).2.1 - 1) (.retAddr 0)) [] w (.inl (some x), 0, w1)) (hk : xk_Po P k (i + 1) L (x :: r0) w1 Φ) : xk_Po P k i L (a :: r0) w Φ := by
  obtain ⟨q, h1, h2⟩ := hk
  exact ⟨q, xk_Ev.ci1 h hf hc h1, h2⟩
theorem xk_Po.ct1 {a : Value} {r0 : List Value} {x dd : Nat} (h : (P k).1[i]? = some (.invokeinterface j 1)) (hf : xk_fit P j 1 (a :: r0) w = true) (hc : xk_Ev P j 0 (a :: List.replicate ((P j).2.1 - 1) (.retAddr 0)) [] w (.inr x, dd, w1)) (hh : (P k).2.2.2.1.isEmpty = true) (hq : Φ (.inr x, dd, w1)) : xk_Po P k i L (a :: r0) w Φ := ⟨_, xk_Ev.ct1 h hf hc hh, hq⟩
theorem xk_Po.cv2 {a b : Value} {r0 : List Value} (h : (P k).1[i]? = some (.invokeinterface j 2)) (hf : xk_fit P j 2 (b :: a :: r0) w = true) (hc : xk_Ev P j 0 (a :: b :: List.replicate ((P j).2.1 - 2) (.retAddr 0)) [] w (.inl (none), 0, w1)) (hk : xk_Po P k (i + 1) L (r0) w1 Φ) : xk_Po P k i L (b :: a :: r0) w Φ := by
  obtain ⟨q, h1, h2⟩ := hk
  exact ⟨q, xk_Ev.cv2 h hf hc h1, h2⟩
theorem xk_Po.ci2 {a b : Value} {x : Value} {r0 : List Value} (h : (P k).1[i]? = some (.invokeinterface j 2)) (hf : xk_fit P j 2 (b :: a :: r0) w = true) (hc : xk_Ev P j 0 (a :: b :: List.replicate ((P j).2.1 - 2) (.retAddr 0)) [] w (.inl (some x), 0, w1)) (hk : xk_Po P k (i + 1) L (x :: r0) w1 Φ) : xk_Po P k i L (b :: a :: r0) w Φ := by
  obtain ⟨q, h1, h2⟩ := hk
  exact ⟨q, xk_Ev.ci2 h hf hc h1, h2⟩
theorem xk_Po.ct2 {a b : Value} {r0 : List Value} {x dd : Nat} (h : (P k).1[i]? = some (.invokeinterface j 2)) (hf : xk_fit P j 2 (b :: a :: r0) w = true) (hc : xk_Ev P j 0 (a :: b :: List.replicate ((P j).2.1 - 2) (.retAddr 0)) [] w (.inr x, dd, w1)) (hh : (P k).2.2.2.1.isEmpty = true) (hq : Φ (.inr x, dd, w1)) : xk_Po P k i L (b :: a :: r0) w Φ := ⟨_, xk_Ev.ct2 h hf hc hh, hq⟩
theorem xk_Po.cv3 {a b c : Value} {r0 : List Value} (h : (P k).1[i]? = some (.invokeinterface j 3)) (hf : xk_fit P j 3 (c :: b :: a :: r0) w = true) (hc : xk_Ev P j 0 (a :: b :: c :: List.replicate ((P j).2.1 - 3) (.retAddr 0)) [] w (.inl (none), 0, w1)) (hk : xk_Po P k (i + 1) L (r0) w1 Φ) : xk_Po P k i L (c :: b :: a :: r0) w Φ := by
  obtain ⟨q, h1, h2⟩ := hk
  exact ⟨q, xk_Ev.cv3 h hf hc h1, h2⟩
theorem xk_Po.ci3 {a b c : Value} {x : Value} {r0 : List Value} (h : (P k).1[i]? = some (.invokeinterface j 3)) (hf : xk_fit P j 3 (c :: b :: a :: r0) w = true) (hc : xk_Ev P j 0 (a :: b :: c :: List.replicate ((P j).2.1 - 3) (.retAddr 0)) [] w (.inl (some x), 0, w1)) (hk : xk_Po P k (i + 1) L (x :: r0) w1 Φ) : xk_Po P k i L (c :: b :: a :: r0) w Φ := by
  obtain ⟨q, h1, h2⟩ := hk
  exact ⟨q, xk_Ev.ci3 h hf hc h1, h2⟩
theorem xk_Po.ct3 {a b c : Value} {r0 : List Value} {x dd : Nat} (h : (P k).1[i]? = some (.invokeinterface j 3)) (hf : xk_fit P j 3 (c :: b :: a :: r0) w = true) (hc : xk_Ev P j 0 (a :: b :: c :: List.replicate ((P j).2.1 - 3) (.retAddr 0)) [] w (.inr x, dd, w1)) (hh : (P k).2.2.2.1.isEmpty = true) (hq : Φ (.inr x, dd, w1)) : xk_Po P k i L (c :: b :: a :: r0) w Φ := ⟨_, xk_Ev.ct3 h hf hc hh, hq⟩
theorem xk_Po.cv4 {a b c d : Value} {r0 : List Value} (h : (P k).1[i]? = some (.invokeinterface j 4)) (hf : xk_fit P j 4 (d :: c :: b :: a :: r0) w = true) (hc : xk_Ev P j 0 (a :: b :: c :: d :: List.replicate ((P j).2.1 - 4) (.retAddr 0)) [] w (.inl (none), 0, w1)) (hk : xk_Po P k (i + 1) L (r0) w1 Φ) : xk_Po P k i L (d :: c :: b :: a :: r0) w Φ := by
  obtain ⟨q, h1, h2⟩ := hk
  exact ⟨q, xk_Ev.cv4 h hf hc h1, h2⟩
theorem xk_Po.ci4 {a b c d : Value} {x : Value} {r0 : List Value} (h : (P k).1[i]? = some (.invokeinterface j 4)) (hf : xk_fit P j 4 (d :: c :: b :: a :: r0) w = true) (hc : xk_Ev P j 0 (a :: b :: c :: d :: List.replicate ((P j).2.1 - 4) (.retAddr 0)) [] w (.inl (some x), 0, w1)) (hk : xk_Po P k (i + 1) L (x :: r0) w1 Φ) : xk_Po P k i L (d :: c :: b :: a :: r0) w Φ := by
  obtain ⟨q, h1, h2⟩ := hk
  exact ⟨q, xk_Ev.ci4 h hf hc h1, h2⟩
theorem xk_Po.ct4 {a b c d : Value} {r0 : List Value} {x dd : Nat} (h : (P k).1[i]? = some (.invokeinterface j 4)) (hf : xk_fit P j 4 (d :: c :: b :: a :: r0) w = true) (hc : xk_Ev P j 0 (a :: b :: c :: d :: List.replicate ((P j).2.1 - 4) (.retAddr 0)) [] w (.inr x, dd, w1)) (hh : (P k).2.2.2.1.isEmpty = true) (hq : Φ (.inr x, dd, w1)) : xk_Po P k i L (d :: c :: b :: a :: r0) w Φ := ⟨_, xk_Ev.ct4 h hf hc hh, hq⟩
theorem xk_Po.cv5 {a b c d e : Value} {r0 : List Value} (h : (P k).1[i]? = some (.invokeinterface j 5)) (hf : xk_fit P j 5 (e :: d :: c :: b :: a :: r0) w = true) (hc : xk_Ev P j 0 (a :: b :: c :: d :: e :: List.replicate ((P j).2.1 - 5) (.retAddr 0)) [] w (.inl (none), 0, w1)) (hk : xk_Po P k (i + 1) L (r0) w1 Φ) : xk_Po P k i L (e :: d :: c :: b :: a :: r0) w Φ := by
  obtain ⟨q, h1, h2⟩ := hk
  exact ⟨q, xk_Ev.cv5 h hf hc h1, h2⟩
theorem xk_Po.ci5 {a b c d e : Value} {x : Value} {r0 : List Value} (h : (P k).1[i]? = some (.invokeinterface j 5)) (hf : xk_fit P j 5 (e :: d :: c :: b :: a :: r0) w = true) (hc : xk_Ev P j 0 (a :: b :: c :: d :: e :: List.replicate ((P j).2.1 - 5) (.retAddr 0)) [] w (.inl (some x), 0, w1)) (hk : xk_Po P k (i + 1) L (x :: r0) w1 Φ) : xk_Po P k i L (e :: d :: c :: b :: a :: r0) w Φ := by
  obtain ⟨q, h1, h2⟩ := hk
  exact ⟨q, xk_Ev.ci5 h hf hc h1, h2⟩
theorem xk_Po.ct5 {a b c d e : Value} {r0 : List Value} {x dd : Nat} (h : (P k).1[i]? = some (.invokeinterface j 5)) (hf : xk_fit P j 5 (e :: d :: c :: b :: a :: r0) w = true) (hc : xk_Ev P j 0 (a :: b :: c :: d :: e :: List.replicate ((P j).2.1 - 5) (.retAddr 0)) [] w (.inr x, dd, w1)) (hh : (P k).2.2.2.1.isEmpty = true) (hq : Φ (.inr x, dd, w1)) : xk_Po P k i L (e :: d :: c :: b :: a :: r0) w Φ := ⟨_, xk_Ev.ct5 h hf hc hh, hq⟩
end XkPo
