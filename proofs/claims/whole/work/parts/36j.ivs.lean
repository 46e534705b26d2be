section XkIvs
def n_md (d : Nat) : Int32 := if d < 4 then Int32.ofNat d else -1
def n_mx (g : Nat → Nat) (m x : Nat) : Nat × Nat := if m < 40 ∧ g (9 + m) = 0 then (40, 32) else (m, x)
abbrev s_On (B : Nat) (sl ab ta : Nat → Int32) (f : Nat → Nat) (n dN mN xN cN : Nat) : Prop := s_Sv B sl ∧ (∀ i, ab i = 0 ∨ ab i = 1) ∧ s_Tv ta f ∧ (ta 0 = Int32.ofNat n ∧ n ≤ B) ∧ (∀ d u, d < 4 → u < 2 → ab d = 0 → n_ws sl (s_start d u) ≤ n) ∧ (dN < 4 → ∀ e, e < 4 → f (1 + e) ≠ 0 → ab e = 0) ∧ (mN < 40 → dN < 4 ∧ f (9 + mN) ≠ 0 ∧ xN < 32 ∧ cN < 4) ∧ (xN < 32 → mN < 40) ∧ n_tg f xN
theorem s_ml_eq {t : Nat → Int32} {g : Nat → Nat} {m x : Nat} (T : s_Tv t g) : s_ml t (n_ml m) (n_mt x) = (n_ml (n_mx g m x).1, n_mt (n_mx g m x).2) := by
  unfold s_ml n_mx
  by_cases h : m < 40
  · have e : n_ml m = Int32.ofNat m := if_pos h
    have hl := T.l m h
    have key : t (9 + m) - 1 = Int32.ofInt (-1) ↔ g (9 + m) = 0 := by
      rw [T.w (9 + m) (by omega) (by omega)]
      generalize g (9 + m) = y at *
      constructor
      · intro q
        have q2 : Int32.ofNat y = Int32.ofInt (-1) + 1 := by
          rw [← q]
          exact (Int32.sub_add_cancel _ _).symm
        have q3 : Int32.ofNat y = Int32.ofNat 0 := q2
        exact (xn_inj (by omega) (by omega)).1 q3
      · intro q
        rw [q]
        rfl
    rw [e, if_neg (fun q => by
      have := congrArg Int32.toInt q
      rw [xn_int (by omega)] at this
      exact absurd this (by show ¬ ((m : Nat) : Int) = -1; omega)), xn_nat (by omega)]
    by_cases q : g (9 + m) = 0
    · rw [if_pos (key.2 q), if_pos ⟨h, q⟩]
      rfl
    · rw [if_neg (fun r => q (key.1 r)), if_neg (fun r => q r.2), ← e]
  · have e : n_ml m = -1 := if_neg h
    rw [if_neg (show ¬ (m < 40 ∧ g (9 + m) = 0) from fun q => h q.1), if_pos (show n_ml m = Int32.ofInt (-1) from e)]
theorem s_On_com {B : Nat} {sl ab ta D0 : Nat → Int32} {f g : Nat → Nat} {n dN mN xN cN k : Nat} {s : s_S} (O : s_On B sl ab ta f n dN mN xN cN) (T : s_Tv D0 g) (hk : k = 1 ∨ k = 2) (hB : B + 2 < 2147483648) (hs : s.1 = sl) : s_Sv (B + 2) (m_com (s_seal D0 (Int32.ofNat (n + k))) ab s).2.1 ∧ (m_com (s_seal D0 (Int32.ofNat (n + k))) ab s).2.2.1 = s.2.1 ∧ (∀ d u, d < 4 → u < 2 → ab d = 0 → n_ws (m_com (s_seal D0 (Int32.ofNat (n + k))) ab s).2.1 (s_start d u) ≤ n + k) ∧ s_Tv (s_seal D0 (Int32.ofNat (n + k))) g ∧ s_seal D0 (Int32.ofNat (n + k)) 0 = Int32.ofNat (n + k) := by
  obtain ⟨V, hb, T0, ⟨N1, N2⟩, W, M1, M2, M3, M4⟩ := O
  have T2 : s_Tv (s_seal D0 (Int32.ofNat (n + k))) g := s_seal_Tv T
  have S2 : s_Sd (s_seal D0 (Int32.ofNat (n + k))) (n + k) := s_seal_Sd
  obtain ⟨a1, a2, a3⟩ := m_com_ok (B := B + 2) (ab := ab) (s := s) (by rw [hs]; exact s_Sv_up (by omega) V) T2 S2 (by omega) (by omega) hB (fun d u h1 h2 h3 => by
    rw [hs]
    have := W d u h1 h2 h3
    omega)
  exact ⟨a1, a2, a3, T2, S2.a⟩
theorem s_On_new {B : Nat} {sl ab ta D0 : Nat → Int32} {f g : Nat → Nat} {n dN mN xN cN k : Nat} {s : s_S} (O : s_On B sl ab ta f n dN mN xN cN) (T : s_Tv D0 g) (hk : k = 1 ∨ k = 2) (hB : B + 2 < 2147483648) (hs : s.1 = sl) (h1 : dN < 4 → ∀ e, e < 4 → g (1 + e) ≠ 0 → ab e = 0) (h2 : mN < 40 → g (9 + mN) ≠ 0 → n_tg g xN) : s_On (B + 2) (m_com (s_seal D0 (Int32.ofNat (n + k))) ab s).2.1 ab (s_seal D0 (Int32.ofNat (n + k))) g (n + k) dN (n_mx g mN xN).1 (n_mx g mN xN).2 cN := by
  obtain ⟨a1, a2, a3, a4, a5⟩ := s_On_com O T hk hB hs
  obtain ⟨V, hb, T0, ⟨N1, N2⟩, W, M1, M2, M3, M4⟩ := O
  refine ⟨a1, hb, a4, ⟨a5, by omega⟩, a3, h1, ?_⟩
  unfold n_mx
  by_cases h : mN < 40 ∧ g (9 + mN) = 0
  · rw [if_pos h]
    exact ⟨fun q => absurd q (by show ¬ 40 < 40; omega), fun q => absurd q (by show ¬ 32 < 32; omega), fun q => absurd q (by show ¬ 32 < 32; omega)⟩
  · rw [if_neg h]
    refine ⟨fun q => ?_, M3, fun q => ?_⟩
    · obtain ⟨b1, b2, b3, b4⟩ := M2 q
      exact ⟨b1, fun r => h ⟨q, r⟩, b3, b4⟩
    · have q2 := M3 q
      exact h2 q2 (fun r => h ⟨q2, r⟩) q
theorem s_On_end {B : Nat} {sl ab ta : Nat → Int32} {f : Nat → Nat} {n dN mN xN cN c : Nat} (O : s_On B sl ab ta f n dN mN xN cN) : s_On B sl ab ta f n 4 40 32 c := by
  obtain ⟨V, hb, T0, N, W, M1, M2, M3, M4⟩ := O
  exact ⟨V, hb, T0, N, W, fun q => absurd q (by omega), fun q => absurd q (by omega), fun q => absurd q (by omega), fun q => absurd q (by omega)⟩
theorem s_On_ext {B : Nat} {sl ab ta : Nat → Int32} {f : Nat → Nat} {n dN mN xN cN : Nat} (O : s_On B sl ab ta f n dN mN xN cN) {d : Nat} (hd : d < 4) : (ta (1 + d) = 0 ↔ f (1 + d) = 0) ∧ ∃ n, n ≤ 8 ∧ ta (1 + d) = Int32.ofNat n := by
  have T := O.2.2.1
  have e := T.e d hd
  rw [T.w (1 + d) (by omega) (by omega)]
  exact ⟨xn_inj (b := 0) (by omega) (by omega), f (1 + d), e, rfl⟩
end XkIvs
