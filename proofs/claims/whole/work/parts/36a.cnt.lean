section XkInv
def n_cnt (p : Nat → Prop) [DecidablePred p] : Nat → Nat
  | 0 => 0
  | n + 1 => if p n then n_cnt p n + 1 else n_cnt p n
theorem n_cnt_le (p : Nat → Prop) [DecidablePred p] : ∀ n, n_cnt p n ≤ n
  | 0 => Nat.le_refl 0
  | n + 1 => by
    have := n_cnt_le p n
    unfold n_cnt
    split <;> omega
theorem n_cnt_congr {p q : Nat → Prop} [DecidablePred p] [DecidablePred q] : ∀ n, (∀ i, i < n → (p i ↔ q i)) → n_cnt p n = n_cnt q n
  | 0, _ => rfl
  | n + 1, h => by
    have ih := n_cnt_congr n (fun i hi => h i (by omega))
    have hn := h n (by omega)
    unfold n_cnt
    by_cases hp : p n
    · rw [if_pos hp, if_pos (hn.1 hp), ih]
    · rw [if_neg hp, if_neg (fun hq => hp (hn.2 hq)), ih]
theorem n_cnt_0 {p : Nat → Prop} [DecidablePred p] : ∀ n, (∀ i, i < n → ¬ p i) → n_cnt p n = 0
  | 0, _ => rfl
  | n + 1, h => by
    unfold n_cnt
    rw [if_neg (h n (by omega))]
    exact n_cnt_0 n (fun i hi => h i (by omega))
theorem n_cnt_pos {p : Nat → Prop} [DecidablePred p] : ∀ n, (0 < n_cnt p n ↔ ∃ i, i < n ∧ p i)
  | 0 => ⟨fun h => absurd h (Nat.lt_irrefl 0), fun ⟨_, h, _⟩ => absurd h (by omega)⟩
  | n + 1 => by
    have ih := n_cnt_pos (p := p) n
    unfold n_cnt
    by_cases hp : p n
    · rw [if_pos hp]
      exact ⟨fun _ => ⟨n, by omega, hp⟩, fun _ => by omega⟩
    · rw [if_neg hp, ih]
      constructor
      · rintro ⟨i, h1, h2⟩
        exact ⟨i, by omega, h2⟩
      · rintro ⟨i, h1, h2⟩
        refine ⟨i, ?_, h2⟩
        rcases Nat.lt_or_ge i n with h | h
        · exact h
        · have e : i = n := by omega
          rw [e] at h2
          exact absurd h2 hp
theorem n_cnt_not (p : Nat → Prop) [DecidablePred p] : ∀ n, n_cnt (fun i => ¬ p i) n + n_cnt p n = n
  | 0 => rfl
  | n + 1 => by
    have ih := n_cnt_not p n
    unfold n_cnt
    by_cases hp : p n
    · rw [if_pos hp, if_neg (fun h => h hp)]
      omega
    · rw [if_neg hp, if_pos hp]
      omega
theorem n_cnt_ins {p q : Nat → Prop} [DecidablePred p] [DecidablePred q] {a : Nat} (ha : ¬ p a) (hq : ∀ i, q i ↔ (p i ∨ i = a)) : ∀ n, n_cnt q n = n_cnt p n + (if a < n then 1 else 0)
  | 0 => by
    rw [if_neg (by omega)]
    rfl
  | n + 1 => by
    have ih := n_cnt_ins ha hq n
    unfold n_cnt
    rw [ih]
    have hn := hq n
    by_cases e : n = a
    · have hp : ¬ p n := by rw [e]; exact ha
      rw [if_pos (hn.2 (.inr e)), if_neg hp, if_neg (show ¬ a < n by omega), if_pos (show a < n + 1 by omega)]
    · by_cases hp : p n
      · rw [if_pos (hn.2 (.inl hp)), if_pos hp]
        by_cases h : a < n
        · rw [if_pos h, if_pos (by omega)]
        · rw [if_neg h, if_neg (by omega)]
      · rw [if_neg (fun h => (hn.1 h).elim hp e), if_neg hp]
        by_cases h : a < n
        · rw [if_pos h, if_pos (by omega)]
        · rw [if_neg h, if_neg (by omega)]
theorem n_cnt_eq {p q : Nat → Prop} [DecidablePred p] [DecidablePred q] : ∀ n, (∀ i, i < n → (p i ↔ q i)) → s_cnt p n = Int32.ofNat (n_cnt q n)
  | 0, _ => rfl
  | n + 1, h => by
    have ih := n_cnt_eq n (fun i hi => h i (by omega))
    have hn := h n (by omega)
    unfold s_cnt n_cnt
    by_cases hp : p n
    · rw [if_pos hp, if_pos (hn.1 hp), ih]
      exact xn_add _ 1
    · rw [if_neg hp, if_neg (fun hq => hp (hn.2 hq)), ih]
abbrev n_use (f : Nat → Nat) (m x : Nat) : Prop := ∃ j, j < m ∧ f (9 + j) = x + 1
abbrev n_on (f : Nat → Nat) (d j : Nat) : Prop := f (9 + j) ≠ 0 ∧ (f (9 + j) - 1) / 8 = d
theorem n_used {f : Nat → Nat} (d : Nat) (he : f (1 + d) ≤ 8) (hp : ∀ j, j < 40 → f (9 + j) ≠ 0 → (f (9 + j) - 1) % 8 < f (1 + (f (9 + j) - 1) / 8)) (hd : ∀ i j, i < 40 → j < 40 → f (9 + i) = f (9 + j) → f (9 + i) = 0 ∨ i = j) : ∀ m, m ≤ 40 → n_cnt (fun p => n_use f m (8 * d + p)) (f (1 + d)) = n_cnt (n_on f d) m
  | 0, _ => n_cnt_0 _ (fun _ _ ⟨_, h, _⟩ => absurd h (by omega))
  | m + 1, hm => by
    have ih := n_used d he hp hd m (by omega)
    show _ = if n_on f d m then n_cnt (n_on f d) m + 1 else n_cnt (n_on f d) m
    by_cases ho : n_on f d m
    · rw [if_pos ho, ← ih]
      obtain ⟨h0, h1⟩ := ho
      have h2 := hp m (by omega) h0
      rw [h1] at h2
      rw [n_cnt_ins (p := fun p => n_use f m (8 * d + p)) (q := fun p => n_use f (m + 1) (8 * d + p)) (a := (f (9 + m) - 1) % 8), if_pos h2]
      · rintro ⟨j, h3, h4⟩
        have h5 := hd j m (by omega) (by omega) (by omega)
        omega
      · intro i
        constructor
        · rintro ⟨j, h3, h4⟩
          rcases Nat.lt_or_ge j m with h5 | h5
          · exact .inl ⟨j, h5, h4⟩
          · have e : j = m := by omega
            rw [e] at h4
            right
            rw [h4]
            omega
        · rintro (⟨j, h3, h4⟩ | h3)
          · exact ⟨j, by omega, h4⟩
          · exact ⟨m, by omega, by omega⟩
    · rw [if_neg ho, ← ih]
      apply n_cnt_congr
      intro i hi
      constructor
      · rintro ⟨j, h3, h4⟩
        rcases Nat.lt_or_ge j m with h5 | h5
        · exact ⟨j, h5, h4⟩
        · have e : j = m := by omega
          rw [e] at h4
          exfalso
          apply ho
          refine ⟨by omega, ?_⟩
          rw [h4]
          omega
      · rintro ⟨j, h3, h4⟩
        exact ⟨j, by omega, h4⟩
theorem xn_sub {a b : Nat} (h : b ≤ a) : Int32.ofNat a - Int32.ofNat b = Int32.ofNat (a - b) := by
  have e : Int32.ofNat a = Int32.ofNat (a - b) + Int32.ofNat b := by
    rw [xn_add]
    congr 1
    omega
  rw [e, Int32.add_sub_cancel]
theorem xn_inj {a b : Nat} (ha : a < 2147483648) (hb : b < 2147483648) : Int32.ofNat a = Int32.ofNat b ↔ a = b :=
  ⟨fun h => by
    have := congrArg Int32.toNatClampNeg h
    rw [xn_nat ha, xn_nat hb] at this
    exact this, fun h => by rw [h]⟩
def s_dv : List Nat := [0, 37, 69, 101, 133, 165, 74, 138, 110, 39, 71, 103, 135, 167]
abbrev s_Tv (t : Nat → Int32) (f : Nat → Nat) : Prop := (∀ i, 51 ≤ i → t i = 0) ∧ (∀ i, 1 ≤ i → i < 49 → t i = Int32.ofNat (f i)) ∧ (∀ d, d < 4 → f (1 + d) ≤ 8) ∧ (∀ v, v < 4 → f (5 + v) ∈ s_dv) ∧ (∀ j, j < 40 → f (9 + j) ≤ 32) ∧ (∀ j, j < 40 → f (9 + j) ≠ 0 → (f (9 + j) - 1) % 8 < f (1 + (f (9 + j) - 1) / 8)) ∧ (∀ i j, i < 40 → j < 40 → f (9 + i) = f (9 + j) → f (9 + i) = 0 ∨ i = j) ∧ (∀ v i, v < 4 → i < 10 → f (9 + (v * 10 + i)) ≠ 0 → i / 2 < f (5 + v) / 32 ∧ (i % 2 = 0 ∨ f (5 + v) % 4 = 3))
theorem s_Tv.z {t : Nat → Int32} {f : Nat → Nat} (h : s_Tv t f) : ∀ i, 51 ≤ i → t i = 0 := h.1
theorem s_Tv.w {t : Nat → Int32} {f : Nat → Nat} (h : s_Tv t f) : ∀ i, 1 ≤ i → i < 49 → t i = Int32.ofNat (f i) := h.2.1
theorem s_Tv.e {t : Nat → Int32} {f : Nat → Nat} (h : s_Tv t f) : ∀ d, d < 4 → f (1 + d) ≤ 8 := h.2.2.1
theorem s_Tv.v {t : Nat → Int32} {f : Nat → Nat} (h : s_Tv t f) : ∀ v, v < 4 → f (5 + v) ∈ s_dv := h.2.2.2.1
theorem s_Tv.l {t : Nat → Int32} {f : Nat → Nat} (h : s_Tv t f) : ∀ j, j < 40 → f (9 + j) ≤ 32 := h.2.2.2.2.1
theorem s_Tv.p {t : Nat → Int32} {f : Nat → Nat} (h : s_Tv t f) : ∀ j, j < 40 → f (9 + j) ≠ 0 → (f (9 + j) - 1) % 8 < f (1 + (f (9 + j) - 1) / 8) := h.2.2.2.2.2.1
theorem s_Tv.d {t : Nat → Int32} {f : Nat → Nat} (h : s_Tv t f) : ∀ i j, i < 40 → j < 40 → f (9 + i) = f (9 + j) → f (9 + i) = 0 ∨ i = j := h.2.2.2.2.2.2.1
theorem s_Tv.g {t : Nat → Int32} {f : Nat → Nat} (h : s_Tv t f) : ∀ v i, v < 4 → i < 10 → f (9 + (v * 10 + i)) ≠ 0 → i / 2 < f (5 + v) / 32 ∧ (i % 2 = 0 ∨ f (5 + v) % 4 = 3) := h.2.2.2.2.2.2.2
def n_mt (x : Nat) : Int32 := if x < 32 then Int32.ofNat x else -1
abbrev n_fre (f : Nat → Nat) (x y : Nat) : Prop := ¬ n_use f 40 y ∧ y ≠ x
def n_cf (f : Nat → Nat) (x d : Nat) : Nat := n_cnt (fun p => n_fre f x (8 * d + p)) (f (1 + d))
abbrev n_tg (f : Nat → Nat) (x : Nat) : Prop := x < 32 → x % 8 < f (1 + x / 8) ∧ ¬ n_use f 40 x
theorem s_disk_on : ∀ y, y < 33 → ∀ d, d < 4 → (s_disk (Int32.ofNat y - 1) = Int32.ofNat d ↔ (y ≠ 0 ∧ (y - 1) / 8 = d)) := by decide
theorem s_disk_mt : ∀ y, y < 32 → ∀ d, d < 4 → (s_disk (Int32.ofNat y) = Int32.ofNat d ↔ y / 8 = d) := by decide
theorem s_disk_no : ∀ d, d < 4 → ¬ s_disk (-1) = Int32.ofNat d := by decide
theorem n_cf_sum {f : Nat → Nat} {x d : Nat} (hd : d < 4) (he : f (1 + d) ≤ 8) (hp : ∀ j, j < 40 → f (9 + j) ≠ 0 → (f (9 + j) - 1) % 8 < f (1 + (f (9 + j) - 1) / 8)) (hq : ∀ i j, i < 40 → j < 40 → f (9 + i) = f (9 + j) → f (9 + i) = 0 ∨ i = j) (hx : n_tg f x) : n_cf f x d + n_cnt (n_on f d) 40 + (if x < 32 ∧ x / 8 = d then 1 else 0) = f (1 + d) := by
  rw [← n_used d he hp hq 40 (Nat.le_refl 40)]
  unfold n_cf
  by_cases h : x < 32 ∧ x / 8 = d
  · rw [if_pos h]
    obtain ⟨h1, h2⟩ := h
    obtain ⟨h3, h4⟩ := hx h1
    rw [h2] at h3
    have e : x = 8 * d + x % 8 := by omega
    have hi := n_cnt_ins (p := fun p => n_use f 40 (8 * d + p)) (q := fun p => n_use f 40 (8 * d + p) ∨ p = x % 8) (a := x % 8) (by rw [← e]; exact h4) (fun i => Iff.rfl) (f (1 + d))
    rw [if_pos h3] at hi
    have hn := n_cnt_not (fun p => n_use f 40 (8 * d + p) ∨ p = x % 8) (f (1 + d))
    rw [n_cnt_congr (p := fun p => n_fre f x (8 * d + p)) (q := fun p => ¬ (n_use f 40 (8 * d + p) ∨ p = x % 8))]
    · omega
    · intro i _
      constructor
      · rintro ⟨h5, h6⟩ (h7 | h7)
        · exact h5 h7
        · omega
      · intro h5
        exact ⟨fun h6 => h5 (.inl h6), fun h6 => h5 (.inr (by omega))⟩
  · rw [if_neg h]
    have hn := n_cnt_not (fun p => n_use f 40 (8 * d + p)) (f (1 + d))
    rw [n_cnt_congr (p := fun p => n_fre f x (8 * d + p)) (q := fun p => ¬ n_use f 40 (8 * d + p))]
    · omega
    · intro i hi
      constructor
      · rintro ⟨h5, h6⟩
        exact h5
      · intro h5
        exact ⟨h5, fun h6 => h ⟨by omega, by omega⟩⟩
theorem n_free_eq {t : Nat → Int32} {f : Nat → Nat} {x d : Nat} (T : s_Tv t f) (hd : d < 4) (hx : n_tg f x) : s_free t (n_mt x) d = Int32.ofNat (n_cf f x d) := by
  have hs := n_cf_sum hd (T.e d hd) T.p T.d hx
  unfold s_free
  rw [T.w (1 + d) (by omega) (by omega), n_cnt_eq (q := n_on f d) 40 (fun j hj => by
    rw [T.w (9 + j) (by omega) (by omega)]
    exact s_disk_on _ (by have := T.l j hj; omega) d hd), xn_sub (by omega)]
  by_cases h : x < 32
  · unfold n_mt
    rw [if_pos h]
    by_cases h2 : x / 8 = d
    · rw [if_pos ⟨h, h2⟩] at hs
      rw [if_pos ((s_disk_mt x h d hd).2 h2)]
      show _ - Int32.ofNat 1 = _
      rw [xn_sub (by omega)]
      congr 1
      omega
    · rw [if_neg (fun q => h2 q.2)] at hs
      rw [if_neg (fun q => h2 ((s_disk_mt x h d hd).1 q))]
      show _ - Int32.ofNat 0 = _
      rw [xn_sub (by omega)]
      congr 1
      omega
  · unfold n_mt
    rw [if_neg h, if_neg (s_disk_no d hd)]
    rw [if_neg (fun q => h q.1)] at hs
    show _ - Int32.ofNat 0 = _
    rw [xn_sub (by omega)]
    congr 1
    omega
end XkInv
