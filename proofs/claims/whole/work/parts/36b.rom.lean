section XkRom
def n_br (F : Nat → Nat) : Nat → Nat × Nat
  | 0 => (4, 0)
  | d + 1 => if F d ≤ (n_br F d).2 then n_br F d else (d, F d)
def n_ls (p : Nat → Prop) [DecidablePred p] : Nat → Nat → Nat
  | 0, j => j
  | m + 1, j => if p j then j else n_ls p m (j + 1)
theorem n_ls_le (p : Nat → Prop) [DecidablePred p] : ∀ m j, j ≤ n_ls p m j ∧ n_ls p m j ≤ j + m ∧ (n_ls p m j < j + m → p (n_ls p m j)) ∧ (∀ i, j ≤ i → i < n_ls p m j → ¬ p i)
  | 0, j => ⟨Nat.le_refl j, Nat.le_refl j, fun h => absurd h (by show ¬ j < j + 0; omega), fun i h1 h2 => absurd h2 (by show ¬ i < j; omega)⟩
  | m + 1, j => by
    obtain ⟨h1, h2, h3, h4⟩ := n_ls_le p m (j + 1)
    unfold n_ls
    by_cases hp : p j
    · rw [if_pos hp]
      exact ⟨Nat.le_refl j, by omega, fun _ => hp, fun i h5 h6 => absurd h6 (by omega)⟩
    · rw [if_neg hp]
      refine ⟨by omega, by omega, fun h => h3 (by omega), fun i h5 h6 => ?_⟩
      rcases Nat.lt_or_ge j i with h7 | h7
      · exact h4 i h7 h6
      · have e : i = j := by omega
        rw [e]
        exact hp
theorem n_ls_eq {p : Nat → Prop} [DecidablePred p] {m n : Nat} (h : ∃ i, i < m ∧ p i) (hn : m ≤ n) : n_ls p m 0 = n_ls p n 0 := by
  obtain ⟨i, hi, hp⟩ := h
  obtain ⟨_, a2, a3, a4⟩ := n_ls_le p m 0
  obtain ⟨_, b2, b3, b4⟩ := n_ls_le p n 0
  have ha : n_ls p m 0 ≤ i := Decidable.byContradiction (fun q => a4 i (by omega) (by omega) hp)
  have hb : n_ls p n 0 ≤ i := Decidable.byContradiction (fun q => b4 i (by omega) (by omega) hp)
  have pa := a3 (by omega)
  have pb := b3 (by omega)
  rcases Nat.lt_trichotomy (n_ls p m 0) (n_ls p n 0) with h | h | h
  · exact absurd pa (b4 _ (by omega) h)
  · exact h
  · exact absurd pb (a4 _ (by omega) h)
theorem n_ls_congr {p q : Nat → Prop} [DecidablePred p] [DecidablePred q] : ∀ m j, (∀ i, j ≤ i → i < j + m → (p i ↔ q i)) → n_ls p m j = n_ls q m j
  | 0, _, _ => rfl
  | m + 1, j, h => by
    have hj := h j (by omega) (by omega)
    have ih := n_ls_congr m (j + 1) (fun i h1 h2 => h i (by omega) (by omega))
    unfold n_ls
    by_cases hp : p j
    · rw [if_pos hp, if_pos (hj.1 hp)]
    · rw [if_neg hp, if_neg (fun r => hp (hj.2 r)), ih]
abbrev n_F (f : Nat → Nat) (ab : Nat → Int32) (x b d : Nat) : Nat := if ab d = 0 ∧ b.testBit d = false then n_cf f x d else 0
def n_room (f : Nat → Nat) (ab : Nat → Int32) (x b : Nat) : Nat := if (n_br (n_F f ab x b) 4).1 < 4 then 8 * (n_br (n_F f ab x b) 4).1 + n_ls (fun p => n_fre f x (8 * (n_br (n_F f ab x b) 4).1 + p)) (f (1 + (n_br (n_F f ab x b) 4).1)) 0 else 32
theorem n_br_lt (F : Nat → Nat) : ∀ n, n ≤ 4 → ((n_br F n).1 = 4 ∧ (n_br F n).2 = 0 ∧ (∀ d, d < n → F d = 0)) ∨ ((n_br F n).1 < n ∧ (n_br F n).2 = F (n_br F n).1 ∧ 0 < (n_br F n).2)
  | 0, _ => .inl ⟨rfl, rfl, fun d h => absurd h (by omega)⟩
  | n + 1, hn => by
    have ih := n_br_lt F n (by omega)
    unfold n_br
    by_cases h : F n ≤ (n_br F n).2
    · rw [if_pos h]
      rcases ih with ⟨h1, h2, h3⟩ | ⟨h1, h2, h3⟩
      · refine .inl ⟨h1, h2, fun d hd => ?_⟩
        rcases Nat.lt_or_ge d n with h4 | h4
        · exact h3 d h4
        · have e : d = n := by omega
          rw [e]
          omega
      · exact .inr ⟨by omega, h2, h3⟩
    · rw [if_neg h]
      exact .inr ⟨by show n < n + 1; omega, rfl, by show 0 < F n; omega⟩
theorem n_room_ok {f : Nat → Nat} {ab : Nat → Int32} {x b : Nat} (he : ∀ d, d < 4 → f (1 + d) ≤ 8) (h : n_room f ab x b < 32) : n_fre f x (n_room f ab x b) ∧ n_room f ab x b % 8 < f (1 + n_room f ab x b / 8) ∧ ab (n_room f ab x b / 8) = 0 ∧ b.testBit (n_room f ab x b / 8) = false := by
  unfold n_room at h ⊢
  by_cases h4 : (n_br (n_F f ab x b) 4).1 < 4
  · rw [if_pos h4] at h ⊢
    rcases n_br_lt (n_F f ab x b) 4 (Nat.le_refl 4) with ⟨h1, _⟩ | ⟨h1, h2, h3⟩
    · omega
    · generalize (n_br (n_F f ab x b) 4).1 = d at *
      rw [h2] at h3
      unfold n_F at h3
      by_cases hc : ab d = 0 ∧ b.testBit d = false
      · rw [if_pos hc] at h3
        unfold n_cf at h3
        obtain ⟨i, hi, hp⟩ := (n_cnt_pos _).1 h3
        obtain ⟨a1, a2, a3, a4⟩ := n_ls_le (fun p => n_fre f x (8 * d + p)) (f (1 + d)) 0
        have hle : n_ls (fun p => n_fre f x (8 * d + p)) (f (1 + d)) 0 ≤ i := Decidable.byContradiction (fun q => a4 i (by omega) (by omega) hp)
        have := he d h4
        have e1 : (8 * d + n_ls (fun p => n_fre f x (8 * d + p)) (f (1 + d)) 0) / 8 = d := by omega
        have e2 : (8 * d + n_ls (fun p => n_fre f x (8 * d + p)) (f (1 + d)) 0) % 8 = n_ls (fun p => n_fre f x (8 * d + p)) (f (1 + d)) 0 := by omega
        rw [e1, e2]
        exact ⟨a3 (by omega), by omega, hc.1, hc.2⟩
      · rw [if_neg hc] at h3
        omega
  · rw [if_neg h4] at h
    omega
theorem n_room_le {f : Nat → Nat} {ab : Nat → Int32} {x b : Nat} (he : ∀ d, d < 4 → f (1 + d) ≤ 8) : n_room f ab x b ≤ 32 := by
  unfold n_room
  by_cases h4 : (n_br (n_F f ab x b) 4).1 < 4
  · rw [if_pos h4]
    have := he _ h4
    obtain ⟨a1, a2, a3, a4⟩ := n_ls_le (fun p => n_fre f x (8 * (n_br (n_F f ab x b) 4).1 + p)) (f (1 + (n_br (n_F f ab x b) 4).1)) 0
    omega
  · rw [if_neg h4]
    omega
theorem s_testbit : ∀ b, b < 16 → ∀ d, d < 4 → (Int32.ofNat b >>> (Int32.ofNat d &&& 31) &&& 1 = 0 ↔ b.testBit d = false) := by decide
theorem s_lfs_eq {t : Nat → Int32} {f : Nat → Nat} {x : Nat} (T : s_Tv t f) (b : Nat) : ∀ m j, b + (j + m) ≤ 32 → s_lfs t (n_mt x) b m j = (if n_ls (fun p => n_fre f x (b + p)) m j < j + m then Int32.ofNat (b + n_ls (fun p => n_fre f x (b + p)) m j) else -1)
  | 0, j, _ => by
    rw [if_neg (by show ¬ j < j + 0; omega)]
    rfl
  | m + 1, j, h => by
    have ih := s_lfs_eq (x := x) T b m (j + 1) (by omega)
    have e1 : (Int32.ofNat (b + j) = n_mt x) ↔ b + j = x := by
      unfold n_mt
      by_cases hx : x < 32
      · rw [if_pos hx, xn_inj (by omega) (by omega)]
      · rw [if_neg hx]
        constructor
        · intro q
          have := congrArg Int32.toInt q
          rw [xn_int (by omega)] at this
          exact absurd this (by show ¬ ((b + j : Nat) : Int) = -1; omega)
        · intro q
          omega
    have e2 : (s_any (fun i => t (9 + i) - 1 = Int32.ofNat (b + j)) 40 0 = 0) ↔ ¬ n_use f 40 (b + j) := by
      have key : ∀ m i, i + m = 40 → (s_any (fun i => t (9 + i) - 1 = Int32.ofNat (b + j)) m i = 0 ↔ ¬ ∃ k, i ≤ k ∧ k < 40 ∧ f (9 + k) = b + j + 1) := by
        intro m
        induction m with
        | zero =>
          intro i hi
          exact ⟨fun _ ⟨k, h1, h2, _⟩ => by omega, fun _ => rfl⟩
        | succ m im =>
          intro i hi
          have := im (i + 1) (by omega)
          have hl := T.l i (by omega)
          have hc : t (9 + i) - 1 = Int32.ofNat (b + j) ↔ f (9 + i) = b + j + 1 := by
            rw [T.w (9 + i) (by omega) (by omega)]
            constructor
            · intro q
              have q2 : Int32.ofNat (f (9 + i)) = Int32.ofNat (b + j) + Int32.ofNat 1 := by
                rw [← q]
                exact (Int32.sub_add_cancel _ _).symm
              rw [xn_add, xn_inj (by omega) (by omega)] at q2
              exact q2
            · intro q
              rw [q]
              show _ - Int32.ofNat 1 = _
              rw [xn_sub (by omega)]
              rfl
          unfold s_any
          by_cases hp : t (9 + i) - 1 = Int32.ofNat (b + j)
          · rw [if_pos hp]
            exact ⟨fun q => absurd q (by decide), fun q => absurd ⟨i, Nat.le_refl i, by omega, hc.1 hp⟩ q⟩
          · rw [if_neg hp, this]
            constructor
            · rintro q ⟨k, h1, h2, h3⟩
              rcases Nat.lt_or_ge i k with h4 | h4
              · exact q ⟨k, h4, h2, h3⟩
              · have e : k = i := by omega
                rw [e] at h3
                exact hp (hc.2 h3)
            · rintro q ⟨k, h1, h2, h3⟩
              exact q ⟨k, by omega, h2, h3⟩
      rw [key 40 0 rfl]
      constructor
      · rintro q ⟨k, h1, h2⟩
        exact q ⟨k, by omega, h1, h2⟩
      · rintro q ⟨k, _, h1, h2⟩
        exact q ⟨k, h1, h2⟩
    have n1 : ¬ n_fre f x (b + j) → n_ls (fun p => n_fre f x (b + p)) (m + 1) j = n_ls (fun p => n_fre f x (b + p)) m (j + 1) := fun q => if_neg q
    have n2 : n_fre f x (b + j) → n_ls (fun p => n_fre f x (b + p)) (m + 1) j = j := fun q => if_pos q
    unfold s_lfs
    by_cases h1 : b + j = x
    · rw [if_pos (e1.2 h1), n1 (fun q => q.2 h1), ih, show j + 1 + m = j + (m + 1) by omega]
    · rw [if_neg (fun q => h1 (e1.1 q))]
      by_cases h2 : n_use f 40 (b + j)
      · rw [if_neg (fun q => (e2.1 q) h2), n1 (fun q => q.1 h2), ih, show j + 1 + m = j + (m + 1) by omega]
      · rw [if_pos (e2.2 h2), n2 ⟨h2, h1⟩, if_pos (by omega)]
theorem s_room_eq {t ab : Nat → Int32} {f : Nat → Nat} {x b : Nat} (T : s_Tv t f) (hx : n_tg f x) (hb : b < 16) : s_room t ab (n_mt x) (Int32.ofNat b) = n_mt (n_room f ab x b) := by
  have key : ∀ n, n ≤ 4 → s_fr t ab (n_mt x) (Int32.ofNat b) n = (if (n_br (n_F f ab x b) n).1 < 4 then Int32.ofNat (n_br (n_F f ab x b) n).1 else -1, Int32.ofNat (n_br (n_F f ab x b) n).2) ∧ (n_br (n_F f ab x b) n).2 ≤ 8 := by
    intro n
    induction n with
    | zero =>
      intro _
      exact ⟨rfl, by show 0 ≤ 8; omega⟩
    | succ n ih =>
      intro hn
      obtain ⟨ih, i8⟩ := ih (by omega)
      have hcf : n_cf f x n ≤ 8 := Nat.le_trans (n_cnt_le _ _) (T.e n (by omega))
      have hT : t (1 + n) = 0 ↔ f (1 + n) = 0 := by
        rw [T.w (1 + n) (by omega) (by omega)]
        exact xn_inj (b := 0) (by have := T.e n (by omega); omega) (by omega)
      have hz : f (1 + n) = 0 → n_cf f x n = 0 := fun q => by
        unfold n_cf
        rw [q]
        rfl
      unfold s_fr n_br
      rw [n_free_eq T (by omega) hx, ih]
      have stay : n_F f ab x b n = 0 → (if n_F f ab x b n ≤ (n_br (n_F f ab x b) n).2 then n_br (n_F f ab x b) n else (n, n_F f ab x b n)) = n_br (n_F f ab x b) n := fun q => if_pos (by omega)
      by_cases h1 : ¬ t (1 + n) = 0 ∧ ab n = 0
      · rw [if_pos h1]
        by_cases h2 : Int32.ofNat b >>> (Int32.ofNat n &&& 31) &&& 1 = 0
        · rw [if_pos h2]
          have hF : n_F f ab x b n = n_cf f x n := if_pos ⟨h1.2, (s_testbit b hb n (by omega)).1 h2⟩
          rw [hF]
          by_cases h3 : n_cf f x n ≤ (n_br (n_F f ab x b) n).2
          · rw [if_pos ((xn_le (by omega) (by omega)).2 h3), if_pos h3]
            exact ⟨rfl, i8⟩
          · rw [if_neg (fun q => h3 ((xn_le (by omega) (by omega)).1 q)), if_neg h3]
            refine ⟨?_, hcf⟩
            rw [if_pos (show (n, n_cf f x n).1 < 4 by show n < 4; omega)]
        · rw [if_neg h2]
          rw [stay (if_neg (fun q => h2 ((s_testbit b hb n (by omega)).2 q.2)))]
          exact ⟨rfl, i8⟩
      · rw [if_neg h1]
        rw [stay (by
          unfold n_F
          by_cases h5 : ab n = 0 ∧ b.testBit n = false
          · rw [if_pos h5]
            apply hz
            apply hT.1
            exact Decidable.byContradiction (fun q => h1 ⟨q, h5.1⟩)
          · exact if_neg h5)]
        exact ⟨rfl, i8⟩
  have k4 := (key 4 (Nat.le_refl 4)).1
  unfold s_room n_room
  rw [k4]
  by_cases h4 : (n_br (n_F f ab x b) 4).1 < 4
  · rw [if_pos h4, if_pos h4]
    rcases n_br_lt (n_F f ab x b) 4 (Nat.le_refl 4) with ⟨h1, _⟩ | ⟨h1, h2, h3⟩
    · omega
    · have hlt := n_room_le (f := f) (ab := ab) (x := x) (b := b) T.e
      unfold n_room at hlt
      rw [if_pos h4] at hlt
      generalize (n_br (n_F f ab x b) 4).1 = d at *
      have hd8 := T.e d h4
      dsimp only
      rw [if_neg (fun q => by
        have := congrArg Int32.toInt q
        rw [xn_int (by omega)] at this
        exact absurd this (by show ¬ ((d : Nat) : Int) = -1; omega)), xn_nat (by omega), T.w (1 + d) (by omega) (by omega), xn_nat (by omega), s_lfs_eq T (d * 8) (f (1 + d)) 0 (by omega), show d * 8 = 8 * d by omega]
      rw [h2] at h3
      unfold n_F at h3
      have hc : ab d = 0 ∧ b.testBit d = false := Decidable.byContradiction (fun q => by
        rw [if_neg q] at h3
        omega)
      rw [if_pos hc] at h3
      unfold n_cf at h3
      obtain ⟨i, hi, hp⟩ := (n_cnt_pos _).1 h3
      obtain ⟨a1, a2, a3, a4⟩ := n_ls_le (fun p => n_fre f x (8 * d + p)) (f (1 + d)) 0
      have hle : n_ls (fun p => n_fre f x (8 * d + p)) (f (1 + d)) 0 ≤ i := Decidable.byContradiction (fun q => a4 i (by omega) (by omega) hp)
      rw [if_pos (by omega)]
      unfold n_mt
      rw [if_pos (by omega)]
  · rw [if_neg h4, if_neg h4]
    rfl
end XkRom
