section XkGrp
def n_bs (b : Int32) (P : Nat → Prop) : Prop := ∃ a, a < 16 ∧ b = Int32.ofNat a ∧ ∀ d, d < 4 → (a.testBit d = true ↔ P d)
theorem xn_or : ∀ a, a < 16 → ∀ b, b < 16 → Int32.ofNat a ||| Int32.ofNat b = Int32.ofNat (a ||| b) := by decide
theorem n_bs_or {a b : Int32} {P Q R : Nat → Prop} (ha : n_bs a P) (hb : n_bs b Q) (h : ∀ d, d < 4 → (R d ↔ (P d ∨ Q d))) : n_bs (a ||| b) R := by
  obtain ⟨x, x1, x2, x3⟩ := ha
  obtain ⟨y, y1, y2, y3⟩ := hb
  refine ⟨x ||| y, Nat.or_lt_two_pow (n := 4) x1 y1, by rw [x2, y2, xn_or x x1 y y1], fun d hd => ?_⟩
  rw [Nat.testBit_or, h d hd, ← x3 d hd, ← y3 d hd, Bool.or_eq_true]
theorem n_bs_congr {a : Int32} {P Q : Nat → Prop} (ha : n_bs a P) (h : ∀ d, d < 4 → (Q d ↔ P d)) : n_bs a Q := by
  obtain ⟨x, x1, x2, x3⟩ := ha
  exact ⟨x, x1, x2, fun d hd => (x3 d hd).trans (h d hd).symm⟩
theorem n_bs_0 {P : Nat → Prop} (h : ∀ d, d < 4 → ¬ P d) : n_bs 0 P :=
  ⟨0, by omega, rfl, fun d hd => ⟨fun q => absurd q (by simp), fun q => absurd q (h d hd)⟩⟩
theorem s_bit_leg : ∀ y, y < 33 → ∀ d, d < 4 → (s_bit (Int32.ofNat y - 1)).toNatClampNeg < 16 ∧ s_bit (Int32.ofNat y - 1) = Int32.ofNat (s_bit (Int32.ofNat y - 1)).toNatClampNeg ∧ ((s_bit (Int32.ofNat y - 1)).toNatClampNeg.testBit d = true ↔ (y ≠ 0 ∧ (y - 1) / 8 = d)) := by decide
theorem s_bit_mt : ∀ y, y < 32 → ∀ d, d < 4 → (s_bit (Int32.ofNat y)).toNatClampNeg < 16 ∧ s_bit (Int32.ofNat y) = Int32.ofNat (s_bit (Int32.ofNat y)).toNatClampNeg ∧ ((s_bit (Int32.ofNat y)).toNatClampNeg.testBit d = true ↔ y / 8 = d) := by decide
theorem s_bit_not : ∀ y, y < 4 → ∀ d, d < 4 → ((1 : Int32) <<< (Int32.ofNat y &&& 31)).toNatClampNeg < 16 ∧ (1 : Int32) <<< (Int32.ofNat y &&& 31) = Int32.ofNat ((1 : Int32) <<< (Int32.ofNat y &&& 31)).toNatClampNeg ∧ (((1 : Int32) <<< (Int32.ofNat y &&& 31)).toNatClampNeg.testBit d = true ↔ y = d) := by decide
theorem n_bs_not {y : Nat} (hy : y < 4) : n_bs ((1 : Int32) <<< (Int32.ofNat y &&& 31)) (fun d => y = d) :=
  ⟨_, (s_bit_not y hy 0 (by omega)).1, (s_bit_not y hy 0 (by omega)).2.1, fun d hd => (s_bit_not y hy d hd).2.2⟩
theorem n_bs_leg {t : Nat → Int32} {f : Nat → Nat} {j : Nat} (T : s_Tv t f) (hj : j < 40) : n_bs (s_bit (t (9 + j) - 1)) (fun d => n_on f d j) := by
  rw [T.w (9 + j) (by omega) (by omega)]
  have hl := T.l j hj
  exact ⟨_, (s_bit_leg _ (by omega) 0 (by omega)).1, (s_bit_leg _ (by omega) 0 (by omega)).2.1, fun d hd => (s_bit_leg _ (by omega) d hd).2.2⟩
theorem n_bs_mt {x : Nat} : n_bs (s_bit (n_mt x)) (fun d => x < 32 ∧ x / 8 = d) := by
  unfold n_mt
  by_cases h : x < 32
  · rw [if_pos h]
    exact ⟨_, (s_bit_mt x h 0 (by omega)).1, (s_bit_mt x h 0 (by omega)).2.1, fun d hd => ((s_bit_mt x h d hd).2.2).trans ⟨fun q => ⟨h, q⟩, fun q => q.2⟩⟩
  · rw [if_neg h]
    exact n_bs_0 (fun d _ q => h q.1)
def n_ml (m : Nat) : Int32 := if m < 40 then Int32.ofNat m else -1
theorem n_ml_eq {m j : Nat} (hj : j < 40) : n_ml m = Int32.ofNat j ↔ m = j := by
  unfold n_ml
  by_cases h : m < 40
  · rw [if_pos h, xn_inj (by omega) (by omega)]
  · rw [if_neg h]
    constructor
    · intro q
      have := congrArg Int32.toInt q
      rw [xn_int (by omega)] at this
      exact absurd this.symm (by show ¬ ((j : Nat) : Int) = -1; omega)
    · intro q
      omega
abbrev n_onc (f : Nat → Nat) (m x d j : Nat) : Prop := n_on f d j ∨ (j = m ∧ x < 32 ∧ x / 8 = d)
theorem n_bs_dol {t : Nat → Int32} {f : Nat → Nat} {j m x : Nat} (T : s_Tv t f) (hj : j < 40) : n_bs (s_dol t (n_ml m) (n_mt x) j) (fun d => n_onc f m x d j) := by
  unfold s_dol
  by_cases h : n_ml m = Int32.ofNat j
  · rw [if_pos h]
    have e := (n_ml_eq hj).1 h
    exact n_bs_or (n_bs_leg T hj) n_bs_mt (fun d _ => ⟨fun q => q.elim .inl (fun q => .inr q.2), fun q => q.elim .inl (fun q => .inr ⟨e.symm, q⟩)⟩)
  · rw [if_neg h]
    exact n_bs_congr (n_bs_leg T hj) (fun d _ => ⟨fun q => q.elim id (fun q => absurd ((n_ml_eq hj).2 q.1.symm) h), .inl⟩)
theorem n_bs_gI {t : Nat → Int32} {f : Nat → Nat} {m x v i e l : Nat} {a : Int32} {P : Nat → Prop} (T : s_Tv t f) (hv : v < 4) (hi : i < 5) (he : e < 5) (hl : l < 2) (ha : n_bs a P) : ∀ n, n ≤ 2 → n_bs (s_gI t (n_ml m) (n_mt x) v i e l n a) (fun d => P d ∨ ∃ k, k < n ∧ ¬ (i = e ∧ k = l) ∧ n_onc f m x d (v * 10 + i * 2 + k))
  | 0, _ => n_bs_congr ha (fun d _ => ⟨fun q => q.elim id (fun ⟨_, h, _⟩ => absurd h (by omega)), .inl⟩)
  | n + 1, hn => by
    have ih := n_bs_gI (m := m) (x := x) T hv hi he hl ha n (by omega)
    have hd := n_bs_dol (j := v * 10 + i * 2 + n) (m := m) (x := x) T (by omega)
    have join : ¬ (i = e ∧ n = l) → n_bs (s_gI t (n_ml m) (n_mt x) v i e l n a ||| s_dol t (n_ml m) (n_mt x) (v * 10 + i * 2 + n)) (fun d => P d ∨ ∃ k, k < n + 1 ∧ ¬ (i = e ∧ k = l) ∧ n_onc f m x d (v * 10 + i * 2 + k)) := fun hne =>
      n_bs_or ih hd (fun d _ => by
        constructor
        · rintro (q | ⟨k, h1, h2, h3⟩)
          · exact .inl (.inl q)
          · rcases Nat.lt_or_ge k n with h4 | h4
            · exact .inl (.inr ⟨k, h4, h2, h3⟩)
            · rw [show k = n by omega] at h3
              exact .inr h3
        · rintro ((q | ⟨k, h1, h2, h3⟩) | q)
          · exact .inl q
          · exact .inr ⟨k, by omega, h2, h3⟩
          · exact .inr ⟨n, by omega, hne, q⟩)
    unfold s_gI
    by_cases h1 : Int32.ofNat i = Int32.ofNat e
    · rw [if_pos h1]
      have e1 := (xn_inj (by omega) (by omega)).1 h1
      by_cases h2 : Int32.ofNat n = Int32.ofNat l
      · rw [if_pos h2]
        have e2 := (xn_inj (by omega) (by omega)).1 h2
        refine n_bs_congr ih (fun d _ => ?_)
        constructor
        · rintro (q | ⟨k, k1, k2, k3⟩)
          · exact .inl q
          · exact .inr ⟨k, by omega, k2, k3⟩
        · rintro (q | ⟨k, k1, k2, k3⟩)
          · exact .inl q
          · exact .inr ⟨k, by omega, k2, k3⟩
      · rw [if_neg h2]
        exact join (fun q => h2 (by rw [q.2]))
    · rw [if_neg h1]
      exact join (fun q => h1 (by rw [q.1]))
theorem n_bs_gO {t : Nat → Int32} {f : Nat → Nat} {m x v e l b : Nat} (T : s_Tv t f) (hv : v < 4) (he : e < 5) (hl : l < 2) : ∀ n, b + n ≤ 5 → n_bs (s_gO t (n_ml m) (n_mt x) v e l b n) (fun d => ∃ i k, b ≤ i ∧ i < b + n ∧ k < 2 ∧ ¬ (i = e ∧ k = l) ∧ n_onc f m x d (v * 10 + i * 2 + k))
  | 0, _ => n_bs_0 (fun d _ ⟨i, k, h1, h2, _⟩ => absurd h2 (by omega))
  | n + 1, hn => by
    have ih := n_bs_gO (m := m) (x := x) T hv he hl (b := b) n (by omega)
    unfold s_gO
    refine n_bs_congr (n_bs_gI (m := m) (x := x) T hv (i := b + n) (by omega) he hl ih 2 (Nat.le_refl 2)) (fun d _ => ?_)
    constructor
    · rintro ⟨i, k, h1, h2, h3, h4, h5⟩
      rcases Nat.lt_or_ge i (b + n) with h6 | h6
      · exact .inl ⟨i, k, h1, h6, h3, h4, h5⟩
      · rw [show i = b + n by omega] at h4 h5
        exact .inr ⟨k, h3, h4, h5⟩
    · rintro (⟨i, k, h1, h2, h3, h4, h5⟩ | ⟨k, h3, h4, h5⟩)
      · exact ⟨i, k, h1, by omega, h3, h4, h5⟩
      · exact ⟨b + n, k, by omega, by omega, h3, h4, h5⟩
end XkGrp
