/-! Small numbers, and the loops over them. -/
section XkNum
theorem xn_int {j : Nat} (h : j < 2147483648) : (Int32.ofNat j).toInt = j := by
  rw [Int32.toInt_ofNat_of_lt (by simpa using h)]
theorem xn_nat {j : Nat} (h : j < 2147483648) : (Int32.ofNat j).toNatClampNeg = j := by
  show (Int32.ofNat j).toInt.toNat = j
  rw [xn_int h]
  rfl
theorem xn_add (a b : Nat) : Int32.ofNat a + Int32.ofNat b = Int32.ofNat (a + b) := (Int32.ofNat_add a b).symm
theorem xn_lt {a b : Nat} (ha : a < 2147483648) (hb : b < 2147483648) : Int32.ofNat a < Int32.ofNat b ↔ a < b := by
  rw [Int32.lt_iff_toInt_lt, xn_int ha, xn_int hb]
  omega
theorem xn_le {a b : Nat} (ha : a < 2147483648) (hb : b < 2147483648) : Int32.ofNat a ≤ Int32.ofNat b ↔ a ≤ b := by
  rw [Int32.le_iff_toInt_le, xn_int ha, xn_int hb]
  omega
theorem xn_ix {j n : Nat} (h : j < n) (hn : n < 2147483648) : xk_ix (Int32.ofNat j) n = true := by
  have h0 : (0 : Int32) ≤ Int32.ofNat j := (xn_le (a := 0) (by omega) (by omega)).2 (by omega)
  simp only [xk_ix, xn_nat (show j < 2147483648 by omega), h0, h, decide_true, Bool.and_self]
theorem xn_ixa {a j n : Nat} (h : a + j < n) (hn : n < 2147483648) : xk_ix (Int32.ofNat a + Int32.ofNat j) n = true := by
  rw [xn_add]
  exact xn_ix h hn
theorem xn_nata {a j : Nat} (h : a + j < 2147483648) : (Int32.ofNat a + Int32.ofNat j).toNatClampNeg = a + j := by
  rw [xn_add]
  exact xn_nat h
theorem xn_suc (j : Nat) : Int32.ofNat j + Int32.ofInt 1 = Int32.ofNat (j + 1) := xn_add j 1
theorem xn_mul (a b : Nat) : Int32.ofNat a * Int32.ofNat b = Int32.ofNat (a * b) := (Int32.ofNat_mul a b).symm
/-- a truth as a number -/
def s_b (p : Prop) [Decidable p] : Int32 := if p then 1 else 0
theorem xn_bt {p : Prop} [Decidable p] (h : p) : s_b p = 1 := if_pos h
theorem xn_bf {p : Prop} [Decidable p] (h : ¬ p) : s_b p = 0 := if_neg h
theorem xn_b0 {p : Prop} [Decidable p] (h : s_b p = 0) : ¬ p := fun hp => by
  rw [xn_bt hp] at h
  exact absurd h (by decide)
theorem xn_b1 {p : Prop} [Decidable p] (h : ¬ s_b p = 0) : p := Decidable.byContradiction (fun hp => h (xn_bf hp))
/-- how many -/
def s_cnt (p : Nat → Prop) [DecidablePred p] : Nat → Int32
  | 0 => 0
  | n + 1 => if p n then s_cnt p n + 1 else s_cnt p n
/-- the least, or -1 -/
def s_least (p : Nat → Prop) [DecidablePred p] : Nat → Nat → Int32
  | 0, _ => -1
  | m + 1, j => if p j then Int32.ofNat j else s_least p m (j + 1)
def s_any (p : Nat → Prop) [DecidablePred p] : Nat → Nat → Int32
  | 0, _ => 0
  | m + 1, j => if p j then 1 else s_any p m (j + 1)
def s_disk (x : Int32) : Int32 := if x = -1 then -1 else x / 8
def s_sum (f : Nat → Int32) (at_ : Nat) : Nat → Int32
  | 0 => 0
  | n + 1 => s_sum f at_ n + f (at_ + n) * (Int32.ofNat n + 1)
/-- words set to nothing -/
def s_clr (f : Nat → Int32) (p : Nat → Prop) [DecidablePred p] (a : Nat) : Nat → Nat → Int32
  | 0 => f
  | n + 1 => if p n then upd (s_clr f p a n) (a + n) 0 else s_clr f p a n
theorem s_clr_at (f : Nat → Int32) (p : Nat → Prop) [DecidablePred p] (a i : Nat) : ∀ n, n ≤ i → s_clr f p a n (a + i) = f (a + i)
  | 0, _ => rfl
  | n + 1, h => by
    have ih := s_clr_at f p a i n (by omega)
    unfold s_clr
    split
    · unfold upd
      rw [if_neg (by omega)]
      exact ih
    · exact ih
theorem xk_Po.loop {P : Nat → xk_M} {k i : Nat} (N : Nat) (L : Nat → List Value) (w : Nat → xk_W) (Φ : Nat → Nat → xk_R → Prop) (hs : ∀ m j, j + (m + 1) = N → xk_Po P k i (L (j + 1)) [] (w (j + 1)) (Φ m (j + 1)) → xk_Po P k i (L j) [] (w j) (Φ (m + 1) j)) (he : xk_Po P k i (L N) [] (w N) (Φ 0 N)) : xk_Po P k i (L 0) [] (w 0) (Φ N 0) := by
  have h : ∀ m j, j + m = N → xk_Po P k i (L j) [] (w j) (Φ m j) := by
    intro m
    induction m with
    | zero =>
      intro j hj
      have e : j = N := by omega
      rw [e]
      exact he
    | succ m ih =>
      intro j hj
      exact hs m j hj (ih (j + 1) (by omega))
  exact h N 0 (by omega)
theorem xk_Po.loopJ {P : Nat → xk_M} {k i : Nat} (N : Nat) (L : Nat → Value → Value → List Value) (w : Nat → xk_W) (Φ : Nat → Nat → xk_R → Prop) (hs : ∀ m j x y, j + (m + 1) = N → (∀ x y, xk_Po P k i (L (j + 1) x y) [] (w (j + 1)) (Φ m (j + 1))) → xk_Po P k i (L j x y) [] (w j) (Φ (m + 1) j)) (he : ∀ x y, xk_Po P k i (L N x y) [] (w N) (Φ 0 N)) (x y : Value) : xk_Po P k i (L 0 x y) [] (w 0) (Φ N 0) := by
  have h : ∀ m j, j + m = N → ∀ x y, xk_Po P k i (L j x y) [] (w j) (Φ m j) := by
    intro m
    induction m with
    | zero =>
      intro j hj x y
      have e : j = N := by omega
      rw [e]
      exact he x y
    | succ m ih =>
      intro j hj x y
      exact hs m j x y hj (ih (j + 1) (by omega))
  exact h N 0 (by omega) x y
theorem xn_of {g : Int32} {n : Nat} (h : ¬ g < 0) (h2 : ¬ Int32.ofNat n ≤ g) (hn : n < 2147483648) : ∃ j, j < n ∧ g = Int32.ofNat j := by
  have e0 : 0 ≤ g.toInt := by
    rw [Int32.lt_iff_toInt_lt] at h
    simpa using h
  have e1 : g.toInt < n := by
    rw [Int32.le_iff_toInt_le, xn_int hn] at h2
    omega
  refine ⟨g.toInt.toNat, by omega, ?_⟩
  apply Int32.toInt_inj.1
  rw [xn_int (by omega)]
  omega
end XkNum
