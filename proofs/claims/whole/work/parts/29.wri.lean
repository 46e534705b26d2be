/-! Words that are written, and the power that may go off at each. -/
section XkWri
variable {sc : Nat × (Nat → Int32)} {sl ex ab ta dr : Nat → Int32} {md ml mt mc on ct : Int32} {r w : xk_W}
/-- slots, extents, words before the cut -/
abbrev s_S : Type := (Nat → Int32) × (Nat → Int32) × Int32
abbrev s_M : Type := s_S → Bool × s_S
def cs (s : s_S) (ab ta dr : Nat → Int32) (md ml mt mc on : Int32) (r : xk_W) : xk_W := cw s.1 s.2.1 ab ta dr md ml mt mc on s.2.2 r
/-- the power went off -/
def cl (s : s_S) (ab ta dr : Nat → Int32) (mc : Int32) (r : xk_W) : xk_W := cw s.1 s.2.1 ab ta dr (-1) (-1) (-1) mc 0 (-1) r
def s_out (o : Bool × s_S) (W V : s_S → xk_W) : xk_R := if o.1 = true then (.inl none, 0, W o.2) else (.inr 0, 1, V o.2)
theorem s_good {o : Bool × s_S} {W V : s_S → xk_W} {s : s_S} (e : o = (true, s)) : ((.inl none, 0, W s) : xk_R) = s_out o W V := by
  rw [e]
  rfl
theorem s_bad {o u : Bool × s_S} {W V : s_S → xk_W} (e : o = u) (q : ¬ u.1 = true) : ((.inr 0, 1, V u.2) : xk_R) = s_out o W V := by
  rw [e]
  exact (if_neg q).symm
def s_dec (c : Int32) : Int32 := if c ≤ 0 then c else c - 1
def m_tick : s_M := fun s => if s.2.2 = 0 then (false, s) else (true, (s.1, s.2.1, s_dec s.2.2))
def m_ex (a : Nat) (y : Int32) : s_M := fun s => if (m_tick s).1 = true then (true, ((m_tick s).2.1, upd (m_tick s).2.2.1 a y, (m_tick s).2.2.2)) else m_tick s
def m_sl (a : Nat) (y : Int32) : s_M := fun s => if (m_tick s).1 = true then (true, (upd (m_tick s).2.1 a y, (m_tick s).2.2.1, (m_tick s).2.2.2)) else m_tick s
def m_seq (X Y : s_M) : s_M := fun s => if (X s).1 = true then Y (X s).2 else X s
def m_no : s_M := fun s => (true, s)
def m_cp (a b : Nat) : s_M := fun s => m_ex a (s.2.1 b) s
def s_slot (f : Nat → Int32) (d : Nat) : Nat := if s_ws f (s_start d 1) < s_ws f (s_start d 0) then 1 else 0
def m_for (F : Nat → s_M) : Nat → Nat → s_M
  | 0, _ => m_no
  | m + 1, j => m_seq (F j) (m_for F m (j + 1))
def m_wt (d : Nat) (t : Nat → Int32) : s_M := fun s => m_for (fun i => m_sl (s_start d (s_slot s.1 d) + i) (t i)) 51 0 s
theorem m_for_ok {F : Nat → s_M} {m j : Nat} {s u : s_S} (h : F j s = (true, u)) : m_for F (m + 1) j s = m_for F m (j + 1) u := by
  show m_seq (F j) (m_for F m (j + 1)) s = _
  unfold m_seq
  rw [h]
  rfl
theorem m_for_no {F : Nat → s_M} {m j : Nat} {s : s_S} {u : Bool × s_S} (h : F j s = u) (q : ¬ u.1 = true) : m_for F (m + 1) j s = u := by
  show m_seq (F j) (m_for F m (j + 1)) s = _
  unfold m_seq
  rw [h, if_neg q]
theorem m_true {o : Bool × s_S} (q : o.1 = true) : o = (true, o.2) := by
  rw [← q]
theorem xk_Po.loopS {σ : Type} {P : Nat → xk_M} {k i : Nat} (N : Nat) (L : Nat → List Value) (w : σ → xk_W) (Φ : Nat → Nat → σ → xk_R → Prop) (hs : ∀ m j s, j + (m + 1) = N → (∀ s, xk_Po P k i (L (j + 1)) [] (w s) (Φ m (j + 1) s)) → xk_Po P k i (L j) [] (w s) (Φ (m + 1) j s)) (he : ∀ s, xk_Po P k i (L N) [] (w s) (Φ 0 N s)) (s : σ) : xk_Po P k i (L 0) [] (w s) (Φ N 0 s) := by
  have h : ∀ m j, j + m = N → ∀ s, xk_Po P k i (L j) [] (w s) (Φ m j s) := by
    intro m
    induction m with
    | zero =>
      intro j hj s
      have e : j = N := by omega
      rw [e]
      exact he s
    | succ m ih =>
      intro j hj s
      exact hs m j s hj (ih (j + 1) (by omega))
  exact h N 0 (by omega) s
theorem xk_Po.cm1 {P : Nat → xk_M} {k i j : Nat} {L : List Value} {w w1 w2 : xk_W} {Φ : xk_R → Prop} {a : Value} {r0 : List Value} {bo : Bool} {x dd : Nat} (h : (P k).1[i]? = some (.invokeinterface j 1)) (hf : xk_fit P j 1 (a :: r0) w = true) (hc : xk_Ev P j 0 (a :: List.replicate ((P j).2.1 - 1) (.retAddr 0)) [] w (if bo = true then (.inl none, 0, w1) else (.inr x, dd, w2))) (hh : (P k).2.2.2.1.isEmpty = true) (hq : ¬ bo = true → Φ (.inr x, dd, w2)) (hk : bo = true → xk_Po P k (i + 1) L r0 w1 Φ) : xk_Po P k i L (a :: r0) w Φ := by
  by_cases hb : bo = true
  · rw [if_pos hb] at hc
    exact xk_Po.cv1 h hf hc (hk hb)
  · rw [if_neg hb] at hc
    exact xk_Po.ct1 h hf hc hh (hq hb)
theorem xk_Po.cm2 {P : Nat → xk_M} {k i j : Nat} {L : List Value} {w w1 w2 : xk_W} {Φ : xk_R → Prop} {a b : Value} {r0 : List Value} {bo : Bool} {x dd : Nat} (h : (P k).1[i]? = some (.invokeinterface j 2)) (hf : xk_fit P j 2 (b :: a :: r0) w = true) (hc : xk_Ev P j 0 (a :: b :: List.replicate ((P j).2.1 - 2) (.retAddr 0)) [] w (if bo = true then (.inl none, 0, w1) else (.inr x, dd, w2))) (hh : (P k).2.2.2.1.isEmpty = true) (hq : ¬ bo = true → Φ (.inr x, dd, w2)) (hk : bo = true → xk_Po P k (i + 1) L r0 w1 Φ) : xk_Po P k i L (b :: a :: r0) w Φ := by
  by_cases hb : bo = true
  · rw [if_pos hb] at hc
    exact xk_Po.cv2 h hf hc (hk hb)
  · rw [if_neg hb] at hc
    exact xk_Po.ct2 h hf hc hh (hq hb)
theorem xk_Po.cm3 {P : Nat → xk_M} {k i j : Nat} {L : List Value} {w w1 w2 : xk_W} {Φ : xk_R → Prop} {a b c : Value} {r0 : List Value} {bo : Bool} {x dd : Nat} (h : (P k).1[i]? = some (.invokeinterface j 3)) (hf : xk_fit P j 3 (c :: b :: a :: r0) w = true) (hc : xk_Ev P j 0 (a :: b :: c :: List.replicate ((P j).2.1 - 3) (.retAddr 0)) [] w (if bo = true then (.inl none, 0, w1) else (.inr x, dd, w2))) (hh : (P k).2.2.2.1.isEmpty = true) (hq : ¬ bo = true → Φ (.inr x, dd, w2)) (hk : bo = true → xk_Po P k (i + 1) L r0 w1 Φ) : xk_Po P k i L (c :: b :: a :: r0) w Φ := by
  by_cases hb : bo = true
  · rw [if_pos hb] at hc
    exact xk_Po.cv3 h hf hc (hk hb)
  · rw [if_neg hb] at hc
    exact xk_Po.ct3 h hf hc hh (hq hb)
theorem xk_Po.cm4 {P : Nat → xk_M} {k i j : Nat} {L : List Value} {w w1 w2 : xk_W} {Φ : xk_R → Prop} {a b c d : Value} {r0 : List Value} {bo : Bool} {x dd : Nat} (h : (P k).1[i]? = some (.invokeinterface j 4)) (hf : xk_fit P j 4 (d :: c :: b :: a :: r0) w = true) (hc : xk_Ev P j 0 (a :: b :: c :: d :: List.replicate ((P j).2.1 - 4) (.retAddr 0)) [] w (if bo = true then (.inl none, 0, w1) else (.inr x, dd, w2))) (hh : (P k).2.2.2.1.isEmpty = true) (hq : ¬ bo = true → Φ (.inr x, dd, w2)) (hk : bo = true → xk_Po P k (i + 1) L r0 w1 Φ) : xk_Po P k i L (d :: c :: b :: a :: r0) w Φ := by
  by_cases hb : bo = true
  · rw [if_pos hb] at hc
    exact xk_Po.cv4 h hf hc (hk hb)
  · rw [if_neg hb] at hc
    exact xk_Po.ct4 h hf hc hh (hq hb)
theorem xk_Po.cm5 {P : Nat → xk_M} {k i j : Nat} {L : List Value} {w w1 w2 : xk_W} {Φ : xk_R → Prop} {a b c d e : Value} {r0 : List Value} {bo : Bool} {x dd : Nat} (h : (P k).1[i]? = some (.invokeinterface j 5)) (hf : xk_fit P j 5 (e :: d :: c :: b :: a :: r0) w = true) (hc : xk_Ev P j 0 (a :: b :: c :: d :: e :: List.replicate ((P j).2.1 - 5) (.retAddr 0)) [] w (if bo = true then (.inl none, 0, w1) else (.inr x, dd, w2))) (hh : (P k).2.2.2.1.isEmpty = true) (hq : ¬ bo = true → Φ (.inr x, dd, w2)) (hk : bo = true → xk_Po P k (i + 1) L r0 w1 Φ) : xk_Po P k i L (e :: d :: c :: b :: a :: r0) w Φ := by
  by_cases hb : bo = true
  · rw [if_pos hb] at hc
    exact xk_Po.cv5 h hf hc (hk hb)
  · rw [if_neg hb] at hc
    exact xk_Po.ct5 h hf hc hh (hq hb)
theorem c_spendWord (h : ¬ ct = 0) : xk_Ev (xp_P sc) 82 0 [.ref 0] [] (cw sl ex ab ta dr md ml mt mc on ct r) (.inl none, 0, cw sl ex ab ta dr md ml mt mc on (s_dec ct) r) := by
  apply xk_Ev.of
  refine xk_Po.go 2 rfl ?_
  refine xk_Po.br rfl rfl (fun h0 => ?_) (fun h0 => ?_) -- 2 .ifCond .ne 6
  · refine xk_Po.go 1 rfl ?_
    refine xk_Po.cv1 rfl rfl (c_losePower) ?_
    exact xk_Po.thr rfl (absurd h0 h)
  · refine xk_Po.go 2 rfl ?_
    refine xk_Po.br rfl rfl (fun h1 => ?_) (fun h1 => ?_) -- 8 .ifCond .le 15
    · exact xk_Po.ret rfl (by rw [show s_dec ct = ct from if_pos h1])
    · refine xk_Po.go 6 rfl ?_
      exact xk_Po.ret rfl (by rw [show s_dec ct = ct - 1 from if_neg h1]; rfl)
theorem c_spendWord_t (h : ct = 0) : xk_Ev (xp_P sc) 82 0 [.ref 0] [] (cw sl ex ab ta dr md ml mt mc on ct r) (.inr 0, 1, cw sl ex ab ta dr (-1) (-1) (-1) mc (0) (-1) r) := by
  apply xk_Ev.of
  refine xk_Po.go 2 rfl ?_
  refine xk_Po.br rfl rfl (fun h0 => ?_) (fun h0 => ?_) -- 2 .ifCond .ne 6
  · refine xk_Po.go 1 rfl ?_
    refine xk_Po.cv1 rfl rfl (c_losePower) ?_
    exact xk_Po.thr rfl rfl
  · refine xk_Po.go 2 rfl ?_
    refine xk_Po.br rfl rfl (fun h1 => ?_) (fun h1 => ?_) -- 8 .ifCond .le 15
    · exact xk_Po.ret rfl (absurd h h0)
    · refine xk_Po.go 6 rfl ?_
      exact xk_Po.ret rfl (absurd h h0)
theorem c_spendM {s : s_S} : xk_Ev (xp_P sc) 82 0 [.ref 0] [] (cs (s) ab ta dr md ml mt mc on r) (s_out (m_tick s) (fun s => cs (s) ab ta dr md ml mt mc on r) (fun s => cl (s) ab ta dr mc r)) := by
  unfold m_tick
  by_cases h : s.2.2 = 0
  · rw [if_pos h]
    exact c_spendWord_t h
  · rw [if_neg h]
    exact c_spendWord h
theorem c_putWord {s : s_S} {x k : Nat} {y : Int32} (hx : x < 32) (hk : k < 4)  : xk_Ev (xp_P sc) 83 0 [.ref 0, .int (Int32.ofNat x), .int (Int32.ofNat k), .int y] [] (cs (s) ab ta dr md ml mt mc on r) (s_out (m_ex (x * 4 + k) y s) (fun s => cs (s) ab ta dr md ml mt mc on r) (fun s => cl (s) ab ta dr mc r)) := by
  apply xk_Ev.of
  refine xk_Po.go 1 rfl ?_
  refine xk_Po.cm1 rfl rfl (c_spendM) rfl (fun q0 => s_bad (W := fun s => cs (s) ab ta dr md ml mt mc on r) (V := fun s => cl (s) ab ta dr mc r) (u := m_tick s) (if_neg q0) q0) (fun q0 => ?_)
  refine xk_Po.go 5 rfl ?_
  refine xk_Po.cv4 rfl rfl (c_setExtentWord hx hk) ?_
  exact xk_Po.ret rfl (s_good (W := fun s => cs (s) ab ta dr md ml mt mc on r) (V := fun s => cl (s) ab ta dr mc r) (s := ((m_tick s).2.1, upd (m_tick s).2.2.1 (x * 4 + k) y, (m_tick s).2.2.2)) (if_pos q0))
theorem c_clearLeg {s : s_S} {j x : Nat} (hj : j < 40) (hx : x < 32) (hw : dr (9 + j) - 1 = Int32.ofNat x) : xk_Ev (xp_P sc) 98 0 [.ref 0, .int (Int32.ofNat j), .retAddr 0] [] (cs (s) ab ta dr md ml mt mc on r) (s_out (m_for (fun k => m_ex (x * 4 + k) 0) 4 0 s) (fun s => cs (s) ab ta dr md ml mt mc on r) (fun s => cl (s) ab ta dr mc r)) := by
  apply xk_Ev.of
  refine xk_Po.go 2 rfl ?_
  refine xk_Po.loopS 4 (fun j0 => [.ref 0, .int (Int32.ofNat j), .int (Int32.ofNat j0)]) (fun s => cs (s) ab ta dr md ml mt mc on r) (fun m0 j0 s => fun z => z = s_out (m_for (fun k => m_ex (x * 4 + k) 0) m0 j0 s) (fun s => cs (s) ab ta dr md ml mt mc on r) (fun s => cl (s) ab ta dr mc r)) (fun m0 j0 s hj0 ih0 => ?_) (fun s => ?_) s
  · have uj0 : j0 < 4 := by omega
    refine xk_Po.go 2 rfl ?_
    refine xk_Po.br rfl rfl (fun hx => absurd ((xn_le (a := 4) (b := j0) (by omega) (by omega)).1 hx) (by omega)) (fun _ => ?_)
    refine xk_Po.go 4 rfl ?_
    refine xk_Po.ci2 rfl rfl (by have h := d_spotOfN (sc := sc) (sl := (s).1) (ex := (s).2.1) (ab := ab) (ta := ta) (dr := dr) (md := md) (ml := ml) (mt := mt) (mc := mc) (on := on) (ct := (s).2.2) (r := r) hj; rw [hw] at h; exact h) ?_
    refine xk_Po.go 2 rfl ?_
    refine xk_Po.cm4 rfl rfl (c_putWord hx (by omega)) rfl (fun q0 => s_bad (W := fun s => cs (s) ab ta dr md ml mt mc on r) (V := fun s => cl (s) ab ta dr mc r) (u := m_ex (x * 4 + j0) 0 s) (m_for_no rfl q0) q0) (fun q0 => ?_)
    refine xk_Po.go 2 rfl ?_
    rw [show m_for (fun k => m_ex (x * 4 + k) 0) (m0 + 1) j0 s = m_for (fun k => m_ex (x * 4 + k) 0) m0 (j0 + 1) _ from m_for_ok (m_true q0)]
    rw [← xn_suc j0] at ih0
    exact ih0 _
  · refine xk_Po.go 3 rfl ?_
    exact xk_Po.ret rfl (s_good (W := fun s => cs (s) ab ta dr md ml mt mc on r) (V := fun s => cl (s) ab ta dr mc r) (s := s) (rfl))
theorem c_copyExtent {s : s_S} {x y : Nat} (hx : x < 32) (hy : y < 32) : xk_Ev (xp_P sc) 102 0 [.ref 0, .int (Int32.ofNat x), .int (Int32.ofNat y), .retAddr 0] [] (cs (s) ab ta dr md ml mt mc on r) (s_out (m_for (fun k => m_cp (y * 4 + k) (x * 4 + k)) 4 0 s) (fun s => cs (s) ab ta dr md ml mt mc on r) (fun s => cl (s) ab ta dr mc r)) := by
  apply xk_Ev.of
  refine xk_Po.go 2 rfl ?_
  refine xk_Po.loopS 4 (fun j0 => [.ref 0, .int (Int32.ofNat x), .int (Int32.ofNat y), .int (Int32.ofNat j0)]) (fun s => cs (s) ab ta dr md ml mt mc on r) (fun m0 j0 s => fun z => z = s_out (m_for (fun k => m_cp (y * 4 + k) (x * 4 + k)) m0 j0 s) (fun s => cs (s) ab ta dr md ml mt mc on r) (fun s => cl (s) ab ta dr mc r)) (fun m0 j0 s hj0 ih0 => ?_) (fun s => ?_) s
  · have uj0 : j0 < 4 := by omega
    refine xk_Po.go 2 rfl ?_
    refine xk_Po.br rfl rfl (fun hx => absurd ((xn_le (a := 4) (b := j0) (by omega) (by omega)).1 hx) (by omega)) (fun _ => ?_)
    refine xk_Po.go 7 rfl ?_
    refine xk_Po.ci3 rfl rfl (c_extentWord hx (by omega)) ?_
    refine xk_Po.cm4 rfl rfl (c_putWord hy (by omega)) rfl (fun q0 => s_bad (W := fun s => cs (s) ab ta dr md ml mt mc on r) (V := fun s => cl (s) ab ta dr mc r) (u := m_cp (y * 4 + j0) (x * 4 + j0) s) (m_for_no rfl q0) q0) (fun q0 => ?_)
    refine xk_Po.go 2 rfl ?_
    rw [show m_for (fun k => m_cp (y * 4 + k) (x * 4 + k)) (m0 + 1) j0 s = m_for (fun k => m_cp (y * 4 + k) (x * 4 + k)) m0 (j0 + 1) _ from m_for_ok (m_true q0)]
    rw [← xn_suc j0] at ih0
    exact ih0 _
  · refine xk_Po.go 3 rfl ?_
    exact xk_Po.ret rfl (s_good (W := fun s => cs (s) ab ta dr md ml mt mc on r) (V := fun s => cl (s) ab ta dr mc r) (s := s) (rfl))
theorem c_slotToWriteN {d : Nat} (hd : d < 4) : xk_Ev (xp_P sc) 7 0 [.ref 1, .int (Int32.ofNat d)] [] (cw sl ex ab ta dr md ml mt mc on ct r) (.inl (some (.int (Int32.ofNat (s_slot sl d)))), 0, cw sl ex ab ta dr md ml mt mc on ct r) := by
  have h := c_slotToWrite (sc := sc) (sl := sl) (ex := ex) (ab := ab) (ta := ta) (dr := dr) (md := md) (ml := ml) (mt := mt) (mc := mc) (on := on) (ct := ct) (r := r) hd
  rw [show (if s_ws sl (s_start d 1) < s_ws sl (s_start d 0) then (1 : Int32) else 0) = Int32.ofNat (s_slot sl d) from by unfold s_slot; split <;> rfl] at h
  exact h
theorem c_writeTable0 {s : s_S} {d n : Nat} (hd : d < 4) (hn : n < 2) (hs : s_slot s.1 d = n) : xk_Ev (xp_P sc) 88 0 [.ref 0, .ref 5, .int (Int32.ofNat d), .retAddr 0, .retAddr 0] [] (cs (s) ab ta dr md ml mt mc on r) (s_out (m_for (fun i => m_sl (s_start d n + i) (ta i)) 51 0 s) (fun s => cs (s) ab ta dr md ml mt mc on r) (fun s => cl (s) ab ta dr mc r)) := by
  apply xk_Ev.of
  refine xk_Po.go 3 rfl ?_
  refine xk_Po.ci2 rfl rfl (by have h := c_slotToWriteN (sc := sc) (sl := (s).1) (ex := (s).2.1) (ab := ab) (ta := ta) (dr := dr) (md := md) (ml := ml) (mt := mt) (mc := mc) (on := on) (ct := (s).2.2) (r := r) hd; rw [hs] at h; exact h) ?_
  refine xk_Po.go 3 rfl ?_
  refine xk_Po.loopS 51 (fun j0 => [.ref 0, .ref 5, .int (Int32.ofNat d), .int (Int32.ofNat n), .int (Int32.ofNat j0)]) (fun s => cs (s) ab ta dr md ml mt mc on r) (fun m0 j0 s => fun z => z = s_out (m_for (fun i => m_sl (s_start d n + i) (ta i)) m0 j0 s) (fun s => cs (s) ab ta dr md ml mt mc on r) (fun s => cl (s) ab ta dr mc r)) (fun m0 j0 s hj0 ih0 => ?_) (fun s => ?_) s
  · have uj0 : j0 < 51 := by omega
    refine xk_Po.go 2 rfl ?_
    refine xk_Po.br rfl rfl (fun hx => absurd ((xn_le (a := 51) (b := j0) (by omega) (by omega)).1 hx) (by omega)) (fun _ => ?_)
    refine xk_Po.go 1 rfl ?_
    refine xk_Po.cm1 rfl rfl (c_spendM) rfl (fun q0 => s_bad (W := fun s => cs (s) ab ta dr md ml mt mc on r) (V := fun s => cl (s) ab ta dr mc r) (u := m_tick s) (m_for_no (if_neg q0) q0) q0) (fun q0 => ?_)
    refine xk_Po.go 8 rfl ?_
    refine xk_Po.ok rfl rfl (xn_ix (j := j0) (by omega) (by omega)) ?_ -- .iaload
    rw [xn_nat (j := j0) (by omega)]
    refine xk_Po.cv5 rfl rfl (c_setSlotWord hd hn (by omega)) ?_
    refine xk_Po.go 2 rfl ?_
    rw [show m_for (fun i => m_sl (s_start d n + i) (ta i)) (m0 + 1) j0 s = m_for (fun i => m_sl (s_start d n + i) (ta i)) m0 (j0 + 1) _ from m_for_ok (if_pos q0)]
    rw [← xn_suc j0] at ih0
    exact ih0 (upd (m_tick s).2.1 (s_start d n + j0) (ta j0), (m_tick s).2.2.1, (m_tick s).2.2.2)
  · refine xk_Po.go 3 rfl ?_
    exact xk_Po.ret rfl (s_good (W := fun s => cs (s) ab ta dr md ml mt mc on r) (V := fun s => cl (s) ab ta dr mc r) (s := s) (rfl))
theorem c_writeTable {s : s_S} {d : Nat} (hd : d < 4) : xk_Ev (xp_P sc) 88 0 [.ref 0, .ref 5, .int (Int32.ofNat d), .retAddr 0, .retAddr 0] [] (cs (s) ab ta dr md ml mt mc on r) (s_out (m_wt d ta s) (fun s => cs (s) ab ta dr md ml mt mc on r) (fun s => cl (s) ab ta dr mc r)) := c_writeTable0 hd (by unfold s_slot; split <;> omega) rfl
theorem d_writeTable0 {s : s_S} {d n : Nat} (hd : d < 4) (hn : n < 2) (hs : s_slot s.1 d = n) : xk_Ev (xp_P sc) 88 0 [.ref 0, .ref 7, .int (Int32.ofNat d), .retAddr 0, .retAddr 0] [] (cs (s) ab ta dr md ml mt mc on r) (s_out (m_for (fun i => m_sl (s_start d n + i) (dr i)) 51 0 s) (fun s => cs (s) ab ta dr md ml mt mc on r) (fun s => cl (s) ab ta dr mc r)) := by
  apply xk_Ev.of
  refine xk_Po.go 3 rfl ?_
  refine xk_Po.ci2 rfl rfl (by have h := c_slotToWriteN (sc := sc) (sl := (s).1) (ex := (s).2.1) (ab := ab) (ta := ta) (dr := dr) (md := md) (ml := ml) (mt := mt) (mc := mc) (on := on) (ct := (s).2.2) (r := r) hd; rw [hs] at h; exact h) ?_
  refine xk_Po.go 3 rfl ?_
  refine xk_Po.loopS 51 (fun j0 => [.ref 0, .ref 7, .int (Int32.ofNat d), .int (Int32.ofNat n), .int (Int32.ofNat j0)]) (fun s => cs (s) ab ta dr md ml mt mc on r) (fun m0 j0 s => fun z => z = s_out (m_for (fun i => m_sl (s_start d n + i) (dr i)) m0 j0 s) (fun s => cs (s) ab ta dr md ml mt mc on r) (fun s => cl (s) ab ta dr mc r)) (fun m0 j0 s hj0 ih0 => ?_) (fun s => ?_) s
  · have uj0 : j0 < 51 := by omega
    refine xk_Po.go 2 rfl ?_
    refine xk_Po.br rfl rfl (fun hx => absurd ((xn_le (a := 51) (b := j0) (by omega) (by omega)).1 hx) (by omega)) (fun _ => ?_)
    refine xk_Po.go 1 rfl ?_
    refine xk_Po.cm1 rfl rfl (c_spendM) rfl (fun q0 => s_bad (W := fun s => cs (s) ab ta dr md ml mt mc on r) (V := fun s => cl (s) ab ta dr mc r) (u := m_tick s) (m_for_no (if_neg q0) q0) q0) (fun q0 => ?_)
    refine xk_Po.go 8 rfl ?_
    refine xk_Po.ok rfl rfl (xn_ix (j := j0) (by omega) (by omega)) ?_ -- .iaload
    rw [xn_nat (j := j0) (by omega)]
    refine xk_Po.cv5 rfl rfl (c_setSlotWord hd hn (by omega)) ?_
    refine xk_Po.go 2 rfl ?_
    rw [show m_for (fun i => m_sl (s_start d n + i) (dr i)) (m0 + 1) j0 s = m_for (fun i => m_sl (s_start d n + i) (dr i)) m0 (j0 + 1) _ from m_for_ok (if_pos q0)]
    rw [← xn_suc j0] at ih0
    exact ih0 (upd (m_tick s).2.1 (s_start d n + j0) (dr j0), (m_tick s).2.2.1, (m_tick s).2.2.2)
  · refine xk_Po.go 3 rfl ?_
    exact xk_Po.ret rfl (s_good (W := fun s => cs (s) ab ta dr md ml mt mc on r) (V := fun s => cl (s) ab ta dr mc r) (s := s) (rfl))
theorem d_writeTable {s : s_S} {d : Nat} (hd : d < 4) : xk_Ev (xp_P sc) 88 0 [.ref 0, .ref 7, .int (Int32.ofNat d), .retAddr 0, .retAddr 0] [] (cs (s) ab ta dr md ml mt mc on r) (s_out (m_wt d dr s) (fun s => cs (s) ab ta dr md ml mt mc on r) (fun s => cl (s) ab ta dr mc r)) := d_writeTable0 hd (by unfold s_slot; split <;> omega) rfl
end XkWri
