section XkQ
def q_br (F : Nat → Nat) : Nat → Nat × Nat
  | 0 => (4, 0)
  | i + 1 => (if 0 < F (3 - i) ∧ (q_br F i).2 ≤ F (3 - i) then 3 - i else (q_br F i).1, if (q_br F i).2 < F (3 - i) then F (3 - i) else (q_br F i).2)
theorem n_br_max (F : Nat → Nat) : ∀ n, n ≤ 4 → (∀ d, d < n → F d ≤ (n_br F n).2) ∧ (∀ d, d < n → d < (n_br F n).1 → (n_br F n).1 < 4 → F d < (n_br F n).2)
  | 0, _ => ⟨fun d h => absurd h (by omega), fun d h => absurd h (by omega)⟩
  | n + 1, hn => by
    obtain ⟨i1, i2⟩ := n_br_max F n (by omega)
    have hb := n_br_lt F n (by omega)
    unfold n_br
    by_cases h : F n ≤ (n_br F n).2
    · rw [if_pos h]
      refine ⟨fun d hd => ?_, fun d hd h1 h2 => ?_⟩
      · rcases Nat.lt_or_ge d n with h4 | h4
        · exact i1 d h4
        · rw [show d = n by omega]
          exact h
      · exact i2 d (by omega) h1 h2
    · rw [if_neg h]
      refine ⟨fun d hd => ?_, fun d hd h1 h2 => ?_⟩
      · show F d ≤ F n
        rcases Nat.lt_or_ge d n with h4 | h4
        · have := i1 d h4
          omega
        · rw [show d = n by omega]
          exact Nat.le_refl _
      · have h3 : d < n := h1
        have := i1 d h3
        show F d < F n
        omega
theorem q_br_max (F : Nat → Nat) : ∀ i, i ≤ 4 → (∀ d, d < 4 → 4 ≤ d + i → F d ≤ (q_br F i).2) ∧ (((q_br F i).1 = 4 ∧ (q_br F i).2 = 0) ∨ ((q_br F i).1 < 4 ∧ 4 ≤ (q_br F i).1 + i ∧ (q_br F i).2 = F (q_br F i).1 ∧ 0 < (q_br F i).2 ∧ (∀ d, 4 ≤ d + i → d < (q_br F i).1 → F d < (q_br F i).2)))
  | 0, _ => ⟨fun d h1 h2 => absurd h1 (by omega), .inl ⟨rfl, rfl⟩⟩
  | i + 1, hi => by
    obtain ⟨i1, i2⟩ := q_br_max F i (by omega)
    have e1 : (q_br F (i + 1)).1 = if 0 < F (3 - i) ∧ (q_br F i).2 ≤ F (3 - i) then 3 - i else (q_br F i).1 := rfl
    have e2 : (q_br F (i + 1)).2 = if (q_br F i).2 < F (3 - i) then F (3 - i) else (q_br F i).2 := rfl
    rw [e1, e2]
    generalize q_br F i = r at *
    have low : ∀ d, d < 4 → 4 ≤ d + (i + 1) → (4 ≤ d + i ∨ d = 3 - i) := by omega
    by_cases h : 0 < F (3 - i) ∧ r.2 ≤ F (3 - i)
    · rw [if_pos h]
      have e3 : (if r.2 < F (3 - i) then F (3 - i) else r.2) = F (3 - i) := by
        split <;> omega
      rw [e3]
      refine ⟨fun d h1 h2 => ?_, .inr ⟨by omega, by omega, rfl, h.1, fun d h1 h2 => by omega⟩⟩
      rcases low d h1 h2 with h3 | h3
      · have := i1 d h1 h3
        omega
      · rw [h3]
        exact Nat.le_refl _
    · rw [if_neg h]
      have e3 : (if r.2 < F (3 - i) then F (3 - i) else r.2) = r.2 := by
        split <;> omega
      rw [e3]
      refine ⟨fun d h1 h2 => ?_, ?_⟩
      · rcases low d h1 h2 with h3 | h3
        · exact i1 d h1 h3
        · rw [h3]
          omega
      · rcases i2 with ⟨h1, h2⟩ | ⟨h1, h2, h3, h4, h5⟩
        · exact .inl ⟨h1, h2⟩
        · refine .inr ⟨h1, by omega, h3, h4, fun d h6 h7 => ?_⟩
          rcases low d (by omega) h6 with h8 | h8
          · exact h5 d h8 h7
          · rw [h8]
            omega
theorem q_br_eq (F : Nat → Nat) : q_br F 4 = n_br F 4 := by
  obtain ⟨a1, a2⟩ := n_br_max F 4 (Nat.le_refl 4)
  have a3 := n_br_lt F 4 (Nat.le_refl 4)
  obtain ⟨b1, b2⟩ := q_br_max F 4 (Nat.le_refl 4)
  generalize q_br F 4 = r at *
  generalize n_br F 4 = q at *
  obtain ⟨r1, r2⟩ := r
  obtain ⟨q1, q2⟩ := q
  dsimp only at *
  rcases a3 with ⟨h1, h2, h3⟩ | ⟨h1, h2, h3⟩
  · rcases b2 with ⟨k1, k2⟩ | ⟨k1, k2, k3, k4, k5⟩
    · rw [h1, h2, k1, k2]
    · have := h3 r1 k1
      omega
  · rcases b2 with ⟨k1, k2⟩ | ⟨k1, k2, k3, k4, k5⟩
    · have := b1 q1 h1 (by omega)
      omega
    · have m1 := b1 q1 h1 (by omega)
      have m2 := a1 r1 k1
      have e : r2 = q2 := by omega
      have e2 : r1 = q1 := by
        rcases Nat.lt_trichotomy r1 q1 with h | h | h
        · have := a2 r1 k1 h h1
          omega
        · exact h
        · have := k5 q1 (by omega) h
          omega
      rw [e, e2]
end XkQ
