section XkBes
abbrev n_bes (D j k : Nat) : Prop := if D % 4 = 2 then j / 2 / (D / 4 % 8) = k / 2 / (D / 4 % 8) ∧ j / 2 ≠ k / 2 else D % 4 = 3 ∧ j / 2 = k / 2 ∧ j ≠ k
theorem s_dv_cases {D : Nat} (h : D ∈ s_dv) : D = 0 ∨ D = 37 ∨ D = 69 ∨ D = 101 ∨ D = 133 ∨ D = 165 ∨ D = 74 ∨ D = 138 ∨ D = 110 ∨ D = 39 ∨ D = 71 ∨ D = 103 ∨ D = 135 ∨ D = 167 := by
  simpa [s_dv] using h
theorem n_bes_eq {D j e l : Nat} (h : D ∈ s_dv) (h0 : D ≠ 0) (hj : j / 2 < D / 32) (hk : j % 2 = 0 ∨ D % 4 = 3) (he : e < D / 32) (hl : l < 2) (hm : l = 0 ∨ D % 4 = 3) : (e - e % (D / 4 % 8) ≤ j / 2 ∧ j / 2 < e - e % (D / 4 % 8) + D / 4 % 8 ∧ ¬ (j / 2 = e ∧ j % 2 = l)) ↔ n_bes D j (2 * e + l) := by
  unfold n_bes
  rcases s_dv_cases h with r | r | r | r | r | r | r | r | r | r | r | r | r | r
  · exact absurd r h0
  all_goals
    subst r
    simp only [Nat.reduceMod, Nat.reduceDiv, Nat.reduceEqDiff, if_true, if_false, or_false, or_true, false_and, true_and, iff_false] at *
    omega
theorem s_dv_col : ∀ D, D ∈ s_dv → D ≠ 0 → s_col (Int32.ofNat D) = Int32.ofNat (D / 4 % 8) ∧ 1 ≤ D / 4 % 8 ∧ D / 4 % 8 < 4 ∧ 1 ≤ D / 32 ∧ D / 32 ≤ 5 ∧ (∀ e, e < D / 32 → e - e % (D / 4 % 8) + D / 4 % 8 ≤ D / 32) := by
  decide
theorem n_grp {t : Nat → Int32} {f : Nat → Nat} {m x v e l d : Nat} (T : s_Tv t f) (hv : v < 4) (h0 : f (5 + v) ≠ 0) (he : e < f (5 + v) / 32) (hl : l < 2) (hk : l = 0 ∨ f (5 + v) % 4 = 3) (hm : m < 40 → f (9 + m) ≠ 0) : (∃ i k, e - e % (f (5 + v) / 4 % 8) ≤ i ∧ i < e - e % (f (5 + v) / 4 % 8) + f (5 + v) / 4 % 8 ∧ k < 2 ∧ ¬ (i = e ∧ k = l) ∧ n_onc f m x d (v * 10 + i * 2 + k)) ↔ ((m < 40 ∧ m / 10 = v ∧ x < 32 ∧ x / 8 = d ∧ n_bes (f (5 + v)) (m % 10) (2 * e + l)) ∨ ∃ j, j < 2 * (f (5 + v) / 32) ∧ n_bes (f (5 + v)) j (2 * e + l) ∧ n_on f d (v * 10 + j)) := by
  obtain ⟨_, c1, c2, c3, c4, c5⟩ := s_dv_col _ (T.v v hv) h0
  have hc := c5 e he
  constructor
  · rintro ⟨i, k, h1, h2, h3, h4, h5⟩
    rcases h5 with h5 | ⟨h5, h6, h7⟩
    · right
      have hg := T.g v (i * 2 + k) hv (by omega) (by rw [show v * 10 + (i * 2 + k) = v * 10 + i * 2 + k by omega]; exact h5.1)
      refine ⟨i * 2 + k, by omega, (n_bes_eq (j := i * 2 + k) (T.v v hv) h0 hg.1 hg.2 he hl hk).1 ⟨by omega, by omega, by omega⟩, ?_⟩
      rw [show v * 10 + (i * 2 + k) = v * 10 + i * 2 + k by omega]
      exact h5
    · left
      have hm2 : m < 40 := by omega
      have hg := T.g v (i * 2 + k) hv (by omega) (by rw [show v * 10 + (i * 2 + k) = m by omega]; exact hm hm2)
      refine ⟨hm2, by omega, h6, h7, ?_⟩
      rw [show m % 10 = i * 2 + k by omega]
      exact (n_bes_eq (j := i * 2 + k) (T.v v hv) h0 hg.1 hg.2 he hl hk).1 ⟨by omega, by omega, by omega⟩
  · rintro (⟨h1, h2, h3, h4, h5⟩ | ⟨j, h1, h2, h3⟩)
    · have hg := T.g v (m % 10) hv (by omega) (by rw [show v * 10 + m % 10 = m by omega]; exact hm h1)
      obtain ⟨a, b, c⟩ := (n_bes_eq (T.v v hv) h0 hg.1 hg.2 he hl hk).2 h5
      exact ⟨m % 10 / 2, m % 10 % 2, a, b, by omega, c, .inr ⟨by omega, h3, h4⟩⟩
    · have hg := T.g v j hv (by omega) h3.1
      obtain ⟨a, b, c⟩ := (n_bes_eq (T.v v hv) h0 hg.1 hg.2 he hl hk).2 h2
      refine ⟨j / 2, j % 2, a, b, by omega, c, .inl ?_⟩
      rw [show v * 10 + j / 2 * 2 + j % 2 = v * 10 + j by omega]
      exact h3
theorem s_room_g {t ab : Nat → Int32} {f : Nat → Nat} {m x v e l : Nat} {b0 : Int32} {P : Nat → Prop} (T : s_Tv t f) (hx : n_tg f x) (hv : v < 4) (h0 : f (5 + v) ≠ 0) (he : e < f (5 + v) / 32) (hl : l < 2) (hk : l = 0 ∨ f (5 + v) % 4 = 3) (hm : m < 40 → f (9 + m) ≠ 0) (hb : n_bs b0 P) : ∃ a, a < 16 ∧ (∀ d, d < 4 → (a.testBit d = true ↔ (P d ∨ (m < 40 ∧ m / 10 = v ∧ x < 32 ∧ x / 8 = d ∧ n_bes (f (5 + v)) (m % 10) (2 * e + l)) ∨ ∃ j, j < 2 * (f (5 + v) / 32) ∧ n_bes (f (5 + v)) j (2 * e + l) ∧ n_on f d (v * 10 + j)))) ∧ s_room t ab (n_mt x) (b0 ||| s_gO t (n_ml m) (n_mt x) v e l (e - e % (f (5 + v) / 4 % 8)) (f (5 + v) / 4 % 8)) = n_mt (n_room f ab x a) := by
  obtain ⟨_, c1, c2, c3, c4, c5⟩ := s_dv_col _ (T.v v hv) h0
  have hc := c5 e he
  obtain ⟨a, a1, a2, a3⟩ := n_bs_or hb (n_bs_gO (m := m) (x := x) (b := e - e % (f (5 + v) / 4 % 8)) T hv (show e < 5 by omega) hl (f (5 + v) / 4 % 8) (by omega)) (fun d _ => Iff.rfl)
  refine ⟨a, a1, fun d hd => ?_, ?_⟩
  · exact (a3 d hd).trans (or_congr Iff.rfl (n_grp T hv h0 he hl hk hm))
  · rw [a2]
    exact s_room_eq T hx a1
end XkBes
