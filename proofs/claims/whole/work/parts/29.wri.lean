/-! Words that are written, and the power that may go off at each. -/
section XkWri
variable {sc : Nat × (Nat → Int32)} {sl ex ab ta dr : Nat → Int32} {md ml mt mc on ct : Int32} {r w : xk_W}
/-- slots, extents, words before the cut -/
abbrev s_S : Type := (Nat → Int32) × (Nat → Int32) × Int32
abbrev s_M : Type := s_S → Bool × s_S
def cs (s : s_S) (ab ta dr : Nat → Int32) (md ml mt mc on : Int32) (r : xk_W) : xk_W := cw s.1 s.2.1 ab ta dr md ml mt mc on s.2.2 r
def s_out (o : Bool × s_S) (ab ta dr : Nat → Int32) (md ml mt mc on : Int32) (r : xk_W) : xk_R := if o.1 = true then (.inl none, 0, cs o.2 ab ta dr md ml mt mc on r) else (.inr 0, 1, cw o.2.1 o.2.2.1 ab ta dr (-1) (-1) (-1) mc 0 (-1) r)
def s_dec (c : Int32) : Int32 := if c ≤ 0 then c else c - 1
def m_ex (a : Nat) (y : Int32) : s_M := fun s => if s.2.2 = 0 then (false, s) else (true, (s.1, upd s.2.1 a y, s_dec s.2.2))
def m_sl (a : Nat) (y : Int32) : s_M := fun s => if s.2.2 = 0 then (false, s) else (true, (upd s.1 a y, s.2.1, s_dec s.2.2))
def m_seq (X Y : s_M) : s_M := fun s => if (X s).1 = true then Y (X s).2 else X s
def m_no : s_M := fun s => (true, s)
def m_for (F : Nat → s_M) : Nat → Nat → s_M
  | 0, _ => m_no
  | m + 1, j => m_seq (F j) (m_for F m (j + 1))
theorem xk_Po.loopS {σ : Type} {P : Nat → xk_M} {k i : Nat} (N : Nat) (L : Nat → List Value) (w : σ → xk_W) (Φ : Nat → Nat → σ → xk_R → Prop) (hs : ∀ m j s, j + (m + 1) = N → (∀ s, xk_Po P k i (L (j + 1)) [] (w s) (Φ m (j + 1) s)) → xk_Po P k i (L j) [] (w s) (Φ (m + 1) j s)) (he : ∀ s, xk_Po P k i (L N) [] (w s) (Φ 0 N s)) (s : σ) : xk_Po P k i (L 0) [] (w s) (Φ N 0 s) := by
  have h : ∀ m j, j + m = N → ∀ s, xk_Po P k i (L j) [] (w s) (Φ m j s) := by
    intro m
    induction m with
    | zero =>
      intro j hj s
      have e : j = N := by omega
      rw [e]
      exact he s
    | succ m ih =>
      intro j hj s
      exact hs m j s hj (ih (j + 1) (by omega))
  exact h N 0 (by omega) s
theorem xk_Po.cm1 {P : Nat → xk_M} {k i j : Nat} {L : List Value} {w w1 w2 : xk_W} {Φ : xk_R → Prop} {a : Value} {r0 : List Value} {b : Bool} {x dd : Nat} (h : (P k).1[i]? = some (.invokeinterface j 1)) (hf : xk_fit P j 1 (a :: r0) w = true) (hc : xk_Ev P j 0 (a :: List.replicate ((P j).2.1 - 1) (.retAddr 0)) [] w (if b = true then (.inl none, 0, w1) else (.inr x, dd, w2))) (hh : (P k).2.2.2.1.isEmpty = true) (hq : ¬ b = true → Φ (.inr x, dd, w2)) (hk : b = true → xk_Po P k (i + 1) L r0 w1 Φ) : xk_Po P k i L (a :: r0) w Φ := by
  by_cases hb : b = true
  · rw [if_pos hb] at hc
    exact xk_Po.cv1 h hf hc (hk hb)
  · rw [if_neg hb] at hc
    exact xk_Po.ct1 h hf hc hh (hq hb)
theorem xk_Po.cm2 {P : Nat → xk_M} {k i j : Nat} {L : List Value} {w w1 w2 : xk_W} {Φ : xk_R → Prop} {a b : Value} {r0 : List Value} {b : Bool} {x dd : Nat} (h : (P k).1[i]? = some (.invokeinterface j 2)) (hf : xk_fit P j 2 (b :: a :: r0) w = true) (hc : xk_Ev P j 0 (a :: b :: List.replicate ((P j).2.1 - 2) (.retAddr 0)) [] w (if b = true then (.inl none, 0, w1) else (.inr x, dd, w2))) (hh : (P k).2.2.2.1.isEmpty = true) (hq : ¬ b = true → Φ (.inr x, dd, w2)) (hk : b = true → xk_Po P k (i + 1) L r0 w1 Φ) : xk_Po P k i L (b :: a :: r0) w Φ := by
  by_cases hb : b = true
  · rw [if_pos hb] at hc
    exact xk_Po.cv2 h hf hc (hk hb)
  · rw [if_neg hb] at hc
    exact xk_Po.ct2 h hf hc hh (hq hb)
theorem xk_Po.cm3 {P : Nat → xk_M} {k i j : Nat} {L : List Value} {w w1 w2 : xk_W} {Φ : xk_R → Prop} {a b c : Value} {r0 : List Value} {b : Bool} {x dd : Nat} (h : (P k).1[i]? = some (.invokeinterface j 3)) (hf : xk_fit P j 3 (c :: b :: a :: r0) w = true) (hc : xk_Ev P j 0 (a :: b :: c :: List.replicate ((P j).2.1 - 3) (.retAddr 0)) [] w (if b = true then (.inl none, 0, w1) else (.inr x, dd, w2))) (hh : (P k).2.2.2.1.isEmpty = true) (hq : ¬ b = true → Φ (.inr x, dd, w2)) (hk : b = true → xk_Po P k (i + 1) L r0 w1 Φ) : xk_Po P k i L (c :: b :: a :: r0) w Φ := by
  by_cases hb : b = true
  · rw [if_pos hb] at hc
    exact xk_Po.cv3 h hf hc (hk hb)
  · rw [if_neg hb] at hc
    exact xk_Po.ct3 h hf hc hh (hq hb)
theorem xk_Po.cm4 {P : Nat → xk_M} {k i j : Nat} {L : List Value} {w w1 w2 : xk_W} {Φ : xk_R → Prop} {a b c d : Value} {r0 : List Value} {b : Bool} {x dd : Nat} (h : (P k).1[i]? = some (.invokeinterface j 4)) (hf : xk_fit P j 4 (d :: c :: b :: a :: r0) w = true) (hc : xk_Ev P j 0 (a :: b :: c :: d :: List.replicate ((P j).2.1 - 4) (.retAddr 0)) [] w (if b = true then (.inl none, 0, w1) else (.inr x, dd, w2))) (hh : (P k).2.2.2.1.isEmpty = true) (hq : ¬ b = true → Φ (.inr x, dd, w2)) (hk : b = true → xk_Po P k (i + 1) L r0 w1 Φ) : xk_Po P k i L (d :: c :: b :: a :: r0) w Φ := by
  by_cases hb : b = true
  · rw [if_pos hb] at hc
    exact xk_Po.cv4 h hf hc (hk hb)
  · rw [if_neg hb] at hc
    exact xk_Po.ct4 h hf hc hh (hq hb)
theorem xk_Po.cm5 {P : Nat → xk_M} {k i j : Nat} {L : List Value} {w w1 w2 : xk_W} {Φ : xk_R → Prop} {a b c d e : Value} {r0 : List Value} {b : Bool} {x dd : Nat} (h : (P k).1[i]? = some (.invokeinterface j 5)) (hf : xk_fit P j 5 (e :: d :: c :: b :: a :: r0) w = true) (hc : xk_Ev P j 0 (a :: b :: c :: d :: e :: List.replicate ((P j).2.1 - 5) (.retAddr 0)) [] w (if b = true then (.inl none, 0, w1) else (.inr x, dd, w2))) (hh : (P k).2.2.2.1.isEmpty = true) (hq : ¬ b = true → Φ (.inr x, dd, w2)) (hk : b = true → xk_Po P k (i + 1) L r0 w1 Φ) : xk_Po P k i L (e :: d :: c :: b :: a :: r0) w Φ := by
  by_cases hb : b = true
  · rw [if_pos hb] at hc
    exact xk_Po.cv5 h hf hc (hk hb)
  · rw [if_neg hb] at hc
    exact xk_Po.ct5 h hf hc hh (hq hb)
theorem c_spendWord (h : ¬ ct = 0) : xk_Ev (xp_P sc) 82 0 [.ref 0] [] (cw sl ex ab ta dr md ml mt mc on ct r) (.inl none, 0, cw sl ex ab ta dr md ml mt mc on (s_dec ct) r) := by
  apply xk_Ev.of
  refine xk_Po.go 2 rfl ?_
  refine xk_Po.br rfl rfl (fun h0 => ?_) (fun h0 => ?_) -- 2 .ifCond .ne 6
  · refine xk_Po.go 1 rfl ?_
    refine xk_Po.cv1 rfl rfl (c_losePower) ?_
    exact xk_Po.thr rfl (absurd h0 h)
  · refine xk_Po.go 2 rfl ?_
    refine xk_Po.br rfl rfl (fun h1 => ?_) (fun h1 => ?_) -- 8 .ifCond .le 15
    · exact xk_Po.ret rfl (by rw [show s_dec ct = ct from if_pos h1])
    · refine xk_Po.go 6 rfl ?_
      exact xk_Po.ret rfl (by rw [show s_dec ct = ct - 1 from if_neg h1]; rfl)
theorem c_spendWord_t (h : ct = 0) : xk_Ev (xp_P sc) 82 0 [.ref 0] [] (cw sl ex ab ta dr md ml mt mc on ct r) (.inr 0, 1, cw sl ex ab ta dr (-1) (-1) (-1) mc (0) (-1) r) := by
  apply xk_Ev.of
  refine xk_Po.go 2 rfl ?_
  refine xk_Po.br rfl rfl (fun h0 => ?_) (fun h0 => ?_) -- 2 .ifCond .ne 6
  · refine xk_Po.go 1 rfl ?_
    refine xk_Po.cv1 rfl rfl (c_losePower) ?_
    exact xk_Po.thr rfl rfl
  · refine xk_Po.go 2 rfl ?_
    refine xk_Po.br rfl rfl (fun h1 => ?_) (fun h1 => ?_) -- 8 .ifCond .le 15
    · exact xk_Po.ret rfl (absurd h h0)
    · refine xk_Po.go 6 rfl ?_
      exact xk_Po.ret rfl (absurd h h0)
theorem c_putWord_ok {x k : Nat} {y : Int32} (hx : x < 32) (hk : k < 4) (h : ¬ ct = 0) : xk_Ev (xp_P sc) 83 0 [.ref 0, .int (Int32.ofNat x), .int (Int32.ofNat k), .int y] [] (cw sl ex ab ta dr md ml mt mc on ct r) (.inl none, 0, cw sl (upd ex (x * 4 + k) y) ab ta dr md ml mt mc on (s_dec ct) r) := by
  apply xk_Ev.of
  refine xk_Po.go 1 rfl ?_
  refine xk_Po.cv1 rfl rfl (c_spendWord h) ?_
  refine xk_Po.go 5 rfl ?_
  refine xk_Po.cv4 rfl rfl (c_setExtentWord hx hk) ?_
  exact xk_Po.ret rfl rfl
theorem c_putWord_t {x k : Nat} {y : Int32} (hx : x < 32) (hk : k < 4) (h : ct = 0) : xk_Ev (xp_P sc) 83 0 [.ref 0, .int (Int32.ofNat x), .int (Int32.ofNat k), .int y] [] (cw sl ex ab ta dr md ml mt mc on ct r) (.inr 0, 1, cw sl ex ab ta dr (-1) (-1) (-1) mc (0) (-1) r) := by
  apply xk_Ev.of
  refine xk_Po.go 1 rfl ?_
  exact xk_Po.ct1 rfl rfl (c_spendWord_t h) rfl rfl
theorem c_putWord {s : s_S} {x k : Nat} {y : Int32} (hx : x < 32) (hk : k < 4)  : xk_Ev (xp_P sc) 83 0 [.ref 0, .int (Int32.ofNat x), .int (Int32.ofNat k), .int y] [] (cs (s) ab ta dr md ml mt mc on r) (s_out (m_ex (x * 4 + k) y s) ab ta dr md ml mt mc on r) := by
  unfold m_ex
  by_cases h : s.2.2 = 0
  · rw [if_pos h]
    exact c_putWord_t hx hk h
  · rw [if_neg h]
    exact c_putWord_ok hx hk h
end XkWri
