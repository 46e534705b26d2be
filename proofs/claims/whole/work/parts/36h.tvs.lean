section XkTvs
abbrev n_Tv (f : Nat → Nat) : Prop := (∀ d, d < 4 → f (1 + d) ≤ 8) ∧ (∀ v, v < 4 → f (5 + v) ∈ s_dv) ∧ (∀ j, j < 40 → f (9 + j) ≤ 32) ∧ (∀ j, j < 40 → f (9 + j) ≠ 0 → (f (9 + j) - 1) % 8 < f (1 + (f (9 + j) - 1) / 8)) ∧ (∀ i j, i < 40 → j < 40 → f (9 + i) = f (9 + j) → f (9 + i) = 0 ∨ i = j) ∧ (∀ v i, v < 4 → i < 10 → f (9 + (v * 10 + i)) ≠ 0 → i / 2 < f (5 + v) / 32 ∧ (i % 2 = 0 ∨ f (5 + v) % 4 = 3))
theorem n_Tv.e {f : Nat → Nat} (h : n_Tv f) : ∀ d, d < 4 → f (1 + d) ≤ 8 := h.1
theorem n_Tv.v {f : Nat → Nat} (h : n_Tv f) : ∀ v, v < 4 → f (5 + v) ∈ s_dv := h.2.1
theorem n_Tv.l {f : Nat → Nat} (h : n_Tv f) : ∀ j, j < 40 → f (9 + j) ≤ 32 := h.2.2.1
theorem n_Tv.p {f : Nat → Nat} (h : n_Tv f) : ∀ j, j < 40 → f (9 + j) ≠ 0 → (f (9 + j) - 1) % 8 < f (1 + (f (9 + j) - 1) / 8) := h.2.2.2.1
theorem n_Tv.d {f : Nat → Nat} (h : n_Tv f) : ∀ i j, i < 40 → j < 40 → f (9 + i) = f (9 + j) → f (9 + i) = 0 ∨ i = j := h.2.2.2.2.1
theorem n_Tv.g {f : Nat → Nat} (h : n_Tv f) : ∀ v i, v < 4 → i < 10 → f (9 + (v * 10 + i)) ≠ 0 → i / 2 < f (5 + v) / 32 ∧ (i % 2 = 0 ∨ f (5 + v) % 4 = 3) := h.2.2.2.2.2
theorem s_Tv.n {t : Nat → Int32} {f : Nat → Nat} (T : s_Tv t f) : n_Tv f := ⟨T.e, T.v, T.l, T.p, T.d, T.g⟩
theorem n_Tv.s {t : Nat → Int32} {f : Nat → Nat} (T : n_Tv f) (z : ∀ i, 51 ≤ i → t i = 0) (w : ∀ i, 1 ≤ i → i < 49 → t i = Int32.ofNat (f i)) : s_Tv t f := ⟨z, w, T.e, T.v, T.l, T.p, T.d, T.g⟩
def n_up (f : Nat → Nat) (k y : Nat) : Nat → Nat := fun j => if j = k then y else f j
theorem n_up_at {f : Nat → Nat} {k y : Nat} : n_up f k y k = y := if_pos rfl
theorem n_up_ne {f : Nat → Nat} {k y j : Nat} (h : j ≠ k) : n_up f k y j = f j := if_neg h
theorem n_up_w {t : Nat → Int32} {f : Nat → Nat} {k y : Nat} (w : ∀ i, 1 ≤ i → i < 49 → t i = Int32.ofNat (f i)) : ∀ i, 1 ≤ i → i < 49 → upd t k (Int32.ofNat y) i = Int32.ofNat (n_up f k y i) := fun i h1 h2 => by
  unfold upd n_up
  by_cases h : i = k
  · rw [if_pos h, if_pos h]
  · rw [if_neg h, if_neg h]
    exact w i h1 h2
theorem n_Tv.ext {f : Nat → Nat} {j y : Nat} (T : n_Tv f) (hj : j < 4) (hy : y ≤ 8) (h : ∀ i, i < 40 → ¬ n_on f j i) : n_Tv (n_up f (1 + j) y) := by
  have l : ∀ i, n_up f (1 + j) y (9 + i) = f (9 + i) := fun i => n_up_ne (by omega)
  have v : ∀ i, n_up f (1 + j) y (5 + i) = f (5 + i) := fun i => n_up_ne (by omega)
  refine ⟨fun d hd => ?_, fun i hi => ?_, fun i hi => ?_, fun i hi => ?_, fun a b ha hb => ?_, fun a b ha hb => ?_⟩
  · by_cases q : d = j
    · rw [q, n_up_at]
      exact hy
    · rw [n_up_ne (by omega)]
      exact T.e d hd
  · rw [v]
    exact T.v i hi
  · rw [l]
    exact T.l i hi
  · rw [l]
    intro q
    rw [n_up_ne]
    · exact T.p i hi q
    · intro r
      exact h i hi ⟨q, by omega⟩
  · rw [l, l]
    exact T.d a b ha hb
  · rw [l, v]
    exact T.g a b ha hb
theorem n_Tv.leg {f : Nat → Nat} {j x : Nat} (T : n_Tv f) (hj : j < 40) (hx : x < 32) (hp : x % 8 < f (1 + x / 8)) (hu : ¬ n_use f 40 x) (hg : j % 10 / 2 < f (5 + j / 10) / 32 ∧ (j % 2 = 0 ∨ f (5 + j / 10) % 4 = 3)) : n_Tv (n_up f (9 + j) (x + 1)) := by
  have e : ∀ i, i < 4 → n_up f (9 + j) (x + 1) (1 + i) = f (1 + i) := fun i hi => n_up_ne (by omega)
  have v : ∀ i, i < 4 → n_up f (9 + j) (x + 1) (5 + i) = f (5 + i) := fun i hi => n_up_ne (by omega)
  have l : ∀ i, i ≠ j → n_up f (9 + j) (x + 1) (9 + i) = f (9 + i) := fun i hi => n_up_ne (by omega)
  have lj : n_up f (9 + j) (x + 1) (9 + j) = x + 1 := n_up_at
  refine ⟨fun d hd => ?_, fun i hi => ?_, fun i hi => ?_, fun i hi => ?_, fun a b ha hb => ?_, fun a b ha hb => ?_⟩
  · rw [e d hd]
    exact T.e d hd
  · rw [v i hi]
    exact T.v i hi
  · by_cases q : i = j
    · rw [q, lj]
      omega
    · rw [l i q]
      exact T.l i hi
  · by_cases q : i = j
    · rw [q, lj]
      intro _
      rw [show x + 1 - 1 = x by omega, e _ (by omega)]
      exact hp
    · rw [l i q]
      intro r
      have := T.l i hi
      rw [e _ (by omega)]
      exact T.p i hi r
  · by_cases qa : a = j
    · by_cases qb : b = j
      · intro _
        exact .inr (by omega)
      · rw [qa, lj, l b qb]
        intro r
        exact absurd ⟨b, hb, r.symm⟩ hu
    · by_cases qb : b = j
      · rw [qb, lj, l a qa]
        intro r
        exact absurd ⟨a, ha, r⟩ hu
      · rw [l a qa, l b qb]
        exact T.d a b ha hb
  · rw [v a ha]
    by_cases q : a * 10 + b = j
    · intro _
      rw [show j / 10 = a by omega, show j % 10 = b by omega] at hg
      refine ⟨hg.1, ?_⟩
      rcases hg.2 with h | h
      · left
        omega
      · exact .inr h
    · rw [l _ q]
      exact T.g a b ha hb
theorem n_Tv.lose {f g : Nat → Nat} (T : n_Tv f) (h1 : ∀ i, 1 ≤ i → i < 9 → g i = f i) (h2 : ∀ j, j < 40 → g (9 + j) = f (9 + j) ∨ g (9 + j) = 0) : n_Tv g := by
  have e : ∀ i, i < 4 → g (1 + i) = f (1 + i) := fun i hi => h1 _ (by omega) (by omega)
  have v : ∀ i, i < 4 → g (5 + i) = f (5 + i) := fun i hi => h1 _ (by omega) (by omega)
  have l : ∀ j, j < 40 → g (9 + j) ≠ 0 → g (9 + j) = f (9 + j) := fun j hj q => (h2 j hj).elim id (fun r => absurd r q)
  refine ⟨fun d hd => ?_, fun i hi => ?_, fun i hi => ?_, fun i hi q => ?_, fun a b ha hb q => ?_, fun a b ha hb q => ?_⟩
  · rw [e d hd]
    exact T.e d hd
  · rw [v i hi]
    exact T.v i hi
  · rcases h2 i hi with r | r
    · rw [r]
      exact T.l i hi
    · rw [r]
      omega
  · have r := l i hi q
    rw [r] at q ⊢
    have := T.l i hi
    rw [e _ (by omega)]
    exact T.p i hi q
  · by_cases r : g (9 + a) = 0
    · exact .inl r
    · have r1 := l a ha r
      have r2 := l b hb (by omega)
      rcases T.d a b ha hb (by omega) with k | k
      · exact .inl (by omega)
      · exact .inr k
  · have r := l _ (show a * 10 + b < 40 by omega) q
    rw [r] at q
    rw [v a ha]
    exact T.g a b ha hb q
theorem n_Tv.desc {f : Nat → Nat} {v D : Nat} (T : n_Tv f) (hv : v < 4) (hD : D ∈ s_dv) (h : ∀ i, i < 10 → f (9 + (v * 10 + i)) ≠ 0 → i / 2 < D / 32 ∧ (i % 2 = 0 ∨ D % 4 = 3)) : n_Tv (n_up f (5 + v) D) := by
  have e : ∀ i, i < 4 → n_up f (5 + v) D (1 + i) = f (1 + i) := fun i hi => n_up_ne (by omega)
  have l : ∀ i, i < 40 → n_up f (5 + v) D (9 + i) = f (9 + i) := fun i hi => n_up_ne (by omega)
  refine ⟨fun d hd => ?_, fun i hi => ?_, fun i hi => ?_, fun i hi => ?_, fun a b ha hb => ?_, fun a b ha hb => ?_⟩
  · rw [e d hd]
    exact T.e d hd
  · by_cases q : i = v
    · rw [q, n_up_at]
      exact hD
    · rw [n_up_ne (by omega)]
      exact T.v i hi
  · rw [l i hi]
    exact T.l i hi
  · rw [l i hi]
    intro q
    have := T.l i hi
    rw [e _ (by omega)]
    exact T.p i hi q
  · rw [l a ha, l b hb]
    exact T.d a b ha hb
  · rw [l _ (by omega)]
    by_cases q : a = v
    · rw [q, n_up_at]
      exact h b hb
    · rw [n_up_ne (by omega)]
      exact T.g a b ha hb
theorem s_clr_eq (t : Nat → Int32) (p : Nat → Prop) [DecidablePred p] (a : Nat) : ∀ n i, s_clr t p a n i = if a ≤ i ∧ i < a + n ∧ p (i - a) then 0 else t i
  | 0, i => by
    rw [if_neg (by omega)]
    rfl
  | n + 1, i => by
    have ih := s_clr_eq t p a n i
    unfold s_clr
    by_cases hp : p n
    · rw [if_pos hp]
      unfold upd
      by_cases q : i = a + n
      · rw [if_pos q, if_pos ⟨by omega, by omega, by rw [show i - a = n by omega]; exact hp⟩]
      · rw [if_neg q, ih]
        by_cases r : a ≤ i ∧ i < a + n ∧ p (i - a)
        · rw [if_pos r, if_pos ⟨r.1, by omega, r.2.2⟩]
        · rw [if_neg r, if_neg (fun k => r ⟨k.1, by omega, k.2.2⟩)]
    · rw [if_neg hp, ih]
      by_cases r : a ≤ i ∧ i < a + n ∧ p (i - a)
      · rw [if_pos r, if_pos ⟨r.1, by omega, r.2.2⟩]
      · rw [if_neg r, if_neg (fun k => ?_)]
        by_cases q : i = a + n
        · rw [show i - a = n by omega] at k
          exact hp k.2.2
        · exact r ⟨k.1, by omega, k.2.2⟩
theorem s_seal_at {t : Nat → Int32} {x : Int32} {i : Nat} (h1 : 1 ≤ i) (h2 : i < 49) : s_seal t x i = t i := by
  unfold s_seal upd
  rw [if_neg (by omega), if_neg (by omega), if_neg (by omega)]
theorem s_seal_Tv {t : Nat → Int32} {f : Nat → Nat} {x : Int32} (T : s_Tv t f) : s_Tv (s_seal t x) f :=
  T.n.s (s_seal_z T.z) (fun i h1 h2 => (s_seal_at h1 h2).trans (T.w i h1 h2))
theorem s_seal_Sd {t : Nat → Int32} {N : Nat} : s_Sd (s_seal t (Int32.ofNat N)) N := by
  refine ⟨?_, ?_, ?_⟩
  · unfold s_seal upd
    rw [if_neg (by omega), if_neg (by omega), if_pos rfl]
  · have e : s_sum (s_seal t (Int32.ofNat N)) 0 49 = s_sum (upd t 0 (Int32.ofNat N)) 0 49 := s_sum_congr 49 (fun i hi => by
      unfold s_seal
      show upd _ _ _ (0 + i) = _
      unfold upd
      rw [if_neg (by omega), if_neg (by omega)])
    rw [e]
    unfold s_seal
    show upd _ _ _ 49 = _
    unfold upd
    rw [if_neg (by omega), if_pos rfl]
  · unfold s_seal
    exact if_pos rfl
end XkTvs
