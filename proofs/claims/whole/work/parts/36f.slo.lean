section XkSlo
theorem xn_nn {x : Int32} (h : ¬ x < 0) : x = Int32.ofNat x.toNatClampNeg := by
  have e0 : 0 ≤ x.toInt := by
    rw [Int32.lt_iff_toInt_lt] at h
    simpa using h
  apply Int32.toInt_inj.1
  have : x.toInt < 2147483648 := Int32.toInt_lt x
  show _ = (Int32.ofNat x.toInt.toNat).toInt
  rw [xn_int (by omega)]
  omega
theorem xn_clamp (x : Int32) : x.toNatClampNeg < 2147483648 := by
  have : x.toInt < 2147483648 := Int32.toInt_lt x
  show x.toInt.toNat < _
  omega
def s_bk (sl : Nat → Int32) (a : Nat) : Nat → Int32 := fun i => if i < 51 then sl (a + i) else 0
def n_ws (sl : Nat → Int32) (a : Nat) : Nat := (s_ws sl a).toNatClampNeg
def n_la (sl : Nat → Int32) (a : Nat) : Nat := (sl (a + 50)).toNatClampNeg
theorem s_ws_nn (sl : Nat → Int32) (a : Nat) : ¬ s_ws sl a < 0 := by
  unfold s_ws
  repeat' split
  all_goals first
    | decide
    | (rename_i h
       intro q
       exact h (Int32.le_of_lt q))
theorem s_ws_eq (sl : Nat → Int32) (a : Nat) : s_ws sl a = Int32.ofNat (n_ws sl a) := xn_nn (s_ws_nn sl a)
theorem n_ws_lt (sl : Nat → Int32) (a : Nat) : n_ws sl a < 2147483648 := xn_clamp _
theorem s_sum_congr {f g : Nat → Int32} {a b : Nat} : ∀ n, (∀ i, i < n → f (a + i) = g (b + i)) → s_sum f a n = s_sum g b n
  | 0, _ => rfl
  | n + 1, h => by
    unfold s_sum
    rw [s_sum_congr n (fun i hi => h i (by omega)), h n (by omega)]
theorem s_ws_congr {f g : Nat → Int32} {a b : Nat} (h : ∀ i, i < 51 → f (a + i) = g (b + i)) : s_ws f a = s_ws g b := by
  unfold s_ws
  rw [h 50 (by omega), h 49 (by omega), s_sum_congr 49 (fun i hi => h i (by omega)), show f a = g b from h 0 (by omega)]
theorem s_bk_congr {f g : Nat → Int32} {a b : Nat} (h : ∀ i, i < 51 → f (a + i) = g (b + i)) : s_bk f a = s_bk g b := by
  funext i
  unfold s_bk
  by_cases hi : i < 51
  · rw [if_pos hi, if_pos hi, h i hi]
  · rw [if_neg hi, if_neg hi]
abbrev s_Dv (B : Nat) (sl : Nat → Int32) (a b : Nat) : Prop := (n_ws sl a ≠ 0 → ∃ f, s_Tv (s_bk sl a) f) ∧ (n_ws sl a ≤ B) ∧ (sl (a + 50) = Int32.ofNat (n_la sl a)) ∧ (n_ws sl a = 0 → n_la sl a = 0 ∨ n_la sl a < n_ws sl b)
theorem s_Dv.v {B : Nat} {sl : Nat → Int32} {a b : Nat} (h : s_Dv B sl a b) : n_ws sl a ≠ 0 → ∃ f, s_Tv (s_bk sl a) f := h.1
theorem s_Dv.n {B : Nat} {sl : Nat → Int32} {a b : Nat} (h : s_Dv B sl a b) : n_ws sl a ≤ B := h.2.1
theorem s_Dv.l0 {B : Nat} {sl : Nat → Int32} {a b : Nat} (h : s_Dv B sl a b) : sl (a + 50) = Int32.ofNat (n_la sl a) := h.2.2.1
theorem s_Dv.l {B : Nat} {sl : Nat → Int32} {a b : Nat} (h : s_Dv B sl a b) : n_ws sl a = 0 → n_la sl a = 0 ∨ n_la sl a < n_ws sl b := h.2.2.2
abbrev s_Sv (B : Nat) (sl : Nat → Int32) : Prop := (∀ d, d < 4 → s_Dv B sl (s_start d 0) (s_start d 1)) ∧ (∀ d, d < 4 → s_Dv B sl (s_start d 1) (s_start d 0)) ∧ (∀ d, d < 4 → n_ws sl (s_start d 0) = n_ws sl (s_start d 1) → n_ws sl (s_start d 0) = 0)
theorem s_Sv.a {B : Nat} {sl : Nat → Int32} (h : s_Sv B sl) : ∀ d, d < 4 → s_Dv B sl (s_start d 0) (s_start d 1) := h.1
theorem s_Sv.b {B : Nat} {sl : Nat → Int32} (h : s_Sv B sl) : ∀ d, d < 4 → s_Dv B sl (s_start d 1) (s_start d 0) := h.2.1
theorem s_Sv.t {B : Nat} {sl : Nat → Int32} (h : s_Sv B sl) : ∀ d, d < 4 → n_ws sl (s_start d 0) = n_ws sl (s_start d 1) → n_ws sl (s_start d 0) = 0 := h.2.2
theorem s_Dv_congr {B B2 : Nat} {f g : Nat → Int32} {a b : Nat} (hB : B ≤ B2) (ha : ∀ i, i < 51 → g (a + i) = f (a + i)) (hb : ∀ i, i < 51 → g (b + i) = f (b + i)) (h : s_Dv B f a b) : s_Dv B2 g a b := by
  have e1 : n_ws g a = n_ws f a := by
    unfold n_ws
    rw [s_ws_congr ha]
  have e2 : n_ws g b = n_ws f b := by
    unfold n_ws
    rw [s_ws_congr hb]
  have e3 : n_la g a = n_la f a := by
    unfold n_la
    rw [ha 50 (by omega)]
  refine ⟨?_, ?_, ?_, ?_⟩
  · rw [e1, s_bk_congr ha]
    exact h.v
  · rw [e1]
    exact Nat.le_trans h.n hB
  · rw [e3, ha 50 (by omega)]
    exact h.l0
  · rw [e1, e2, e3]
    exact h.l
theorem s_Sv_up {B B2 : Nat} {sl : Nat → Int32} (hB : B ≤ B2) (h : s_Sv B sl) : s_Sv B2 sl :=
  ⟨fun d hd => s_Dv_congr hB (fun _ _ => rfl) (fun _ _ => rfl) (h.a d hd), fun d hd => s_Dv_congr hB (fun _ _ => rfl) (fun _ _ => rfl) (h.b d hd), h.t⟩
def n_ov (A : Nat) (t : Nat → Int32) (k : Nat) (sl : Nat → Int32) : Nat → Int32 := fun i => if A ≤ i ∧ i < A + k then t (i - A) else sl i
abbrev s_Sd (t : Nat → Int32) (N : Nat) : Prop := (t 0 = Int32.ofNat N) ∧ (t 49 = s_sum t 0 49) ∧ (t 50 = Int32.ofNat N)
theorem s_Sd.a {t : Nat → Int32} {N : Nat} (h : s_Sd t N) : t 0 = Int32.ofNat N := h.1
theorem s_Sd.s {t : Nat → Int32} {N : Nat} (h : s_Sd t N) : t 49 = s_sum t 0 49 := h.2.1
theorem s_Sd.l {t : Nat → Int32} {N : Nat} (h : s_Sd t N) : t 50 = Int32.ofNat N := h.2.2
theorem n_ov_in {A k i : Nat} {t sl : Nat → Int32} (h : i < k) : n_ov A t k sl (A + i) = t i := by
  unfold n_ov
  rw [if_pos ⟨by omega, by omega⟩, show A + i - A = i by omega]
theorem n_ov_out {A k i : Nat} {t sl : Nat → Int32} (h : k ≤ i) : n_ov A t k sl (A + i) = sl (A + i) := by
  unfold n_ov
  rw [if_neg (by omega)]
theorem n_ov_off {A k i : Nat} {t sl : Nat → Int32} (h : i < A ∨ A + k ≤ i) : n_ov A t k sl i = sl i := by
  unfold n_ov
  rw [if_neg (by omega)]
theorem n_ov_whole {A N : Nat} {t sl : Nat → Int32} (S : s_Sd t N) (h0 : 0 < N) (hN : N < 2147483648) : n_ws (n_ov A t 51 sl) A = N := by
  have e : s_ws (n_ov A t 51 sl) A = Int32.ofNat N := by
    rw [s_ws_congr (g := t) (b := 0) (fun i hi => by rw [n_ov_in hi, Nat.zero_add])]
    unfold s_ws
    rw [if_pos (show t (0 + 50) = t 0 from S.l.trans S.a.symm), if_pos (show t (0 + 49) = s_sum t 0 49 from S.s), if_neg (by
      rw [S.a]
      exact fun q => absurd ((xn_le (b := 0) hN (by omega)).1 q) (by omega)), S.a]
  unfold n_ws
  rw [e, xn_nat hN]
theorem n_ov_part {A N k : Nat} {t sl : Nat → Int32} (S : s_Sd t N) (h1 : 1 ≤ k) (hk : k ≤ 50) (hl : sl (A + 50) ≠ Int32.ofNat N) : n_ws (n_ov A t k sl) A = 0 := by
  have e : s_ws (n_ov A t k sl) A = 0 := by
    unfold s_ws
    rw [if_neg (by
      rw [n_ov_out hk, show n_ov A t k sl A = t 0 from n_ov_in (i := 0) (by omega), S.a]
      exact hl)]
  unfold n_ws
  rw [e]
  rfl
theorem s_slot_lt (sl : Nat → Int32) (d : Nat) : s_slot sl d < 2 := by
  unfold s_slot
  split <;> omega
theorem s_slot_min (sl : Nat → Int32) (d : Nat) : (s_slot sl d = 0 ∧ n_ws sl (s_start d 0) ≤ n_ws sl (s_start d 1)) ∨ (s_slot sl d = 1 ∧ n_ws sl (s_start d 1) < n_ws sl (s_start d 0)) := by
  unfold s_slot
  rw [s_ws_eq, s_ws_eq]
  have h := xn_lt (n_ws_lt sl (s_start d 1)) (n_ws_lt sl (s_start d 0))
  by_cases q : n_ws sl (s_start d 1) < n_ws sl (s_start d 0)
  · rw [if_pos (h.2 q)]
    exact .inr ⟨rfl, q⟩
  · rw [if_neg (fun r => q (h.1 r))]
    exact .inl ⟨rfl, by omega⟩
theorem n_la_ws {sl : Nat → Int32} {A : Nat} (h : n_ws sl A ≠ 0) : n_la sl A = n_ws sl A ∧ sl A = Int32.ofNat (n_ws sl A) ∧ sl (A + 49) = s_sum sl A 49 ∧ sl (A + 50) = Int32.ofNat (n_ws sl A) := by
  have hw : s_ws sl A ≠ 0 := fun q => h (by
    unfold n_ws
    rw [q]
    rfl)
  have e := s_ws_eq sl A
  unfold n_la
  unfold s_ws at hw e
  by_cases q1 : sl (A + 50) = sl A
  · rw [if_pos q1] at hw e
    by_cases q2 : sl (A + 49) = s_sum sl A 49
    · rw [if_pos q2] at hw e
      by_cases q3 : sl A ≤ 0
      · rw [if_pos q3] at hw
        exact absurd rfl hw
      · rw [if_neg q3] at e
        refine ⟨?_, e, q2, q1.trans e⟩
        rw [q1, e, xn_nat (n_ws_lt sl A)]
    · rw [if_neg q2] at hw
      exact absurd rfl hw
  · rw [if_neg q1] at hw
    exact absurd rfl hw
theorem s_Dv_ov {B N k A O : Nat} {t sl : Nat → Int32} {f : Nat → Nat} (hA : s_Dv B sl A O) (hO : s_Dv B sl O A) (hAO : A + 51 ≤ O ∨ O + 51 ≤ A) (T : s_Tv t f) (S : s_Sd t N) (h0 : 0 < N) (hB : N ≤ B) (hB2 : B < 2147483648) (hm : n_ws sl A ≤ n_ws sl O) (he : n_ws sl A = n_ws sl O → n_ws sl A = 0) (hn : n_ws sl A < N) (ho : n_ws sl O < N) (hk : k ≤ 51) : s_Dv B (n_ov A t k sl) A O ∧ s_Dv B (n_ov A t k sl) O A ∧ (n_ws (n_ov A t k sl) A = n_ws (n_ov A t k sl) O → n_ws (n_ov A t k sl) A = 0) ∧ n_ws (n_ov A t k sl) O = n_ws sl O ∧ n_ws (n_ov A t k sl) A ≤ N := by
  have eO : ∀ i, i < 51 → n_ov A t k sl (O + i) = sl (O + i) := fun i hi => n_ov_off (by omega)
  have wO : n_ws (n_ov A t k sl) O = n_ws sl O := by
    unfold n_ws
    rw [s_ws_congr eO]
  have lO : n_la (n_ov A t k sl) O = n_la sl O := by
    unfold n_la
    rw [eO 50 (by omega)]
  rcases Nat.eq_zero_or_pos k with hk0 | hk1
  · subst hk0
    have e : n_ov A t 0 sl = sl := by
      funext i
      unfold n_ov
      rw [if_neg (by omega)]
    rw [e]
    exact ⟨hA, hO, he, rfl, by omega⟩
  · have lOA : n_ws sl O = 0 → n_la sl O = 0 := fun q => by
      rcases hO.l q with h | h
      · exact h
      · omega
    have hla : n_la sl A ≠ N := by
      rcases Nat.eq_zero_or_pos (n_ws sl A) with h | h
      · rcases hA.l h with h2 | h2
        · omega
        · omega
      · have := (n_la_ws (sl := sl) (A := A) (by omega)).1
        omega
    have hne : sl (A + 50) ≠ Int32.ofNat N := fun q => by
      apply hla
      unfold n_la
      rw [q, xn_nat (by omega)]
    rcases Nat.lt_or_ge k 51 with hk2 | hk2
    · have wA := n_ov_part (sl := sl) (A := A) S hk1 (by omega) hne
      have lA : n_la (n_ov A t k sl) A = n_la sl A := by
        unfold n_la
        rw [n_ov_out (by omega)]
      refine ⟨⟨fun q => absurd wA q, by omega, ?_, fun _ => ?_⟩, ⟨fun q => ?_, ?_, ?_, fun q => ?_⟩, fun _ => wA, wO, by omega⟩
      · rw [lA, n_ov_out (by omega)]
        exact hA.l0
      · rw [lA, wO]
        rcases Nat.eq_zero_or_pos (n_ws sl A) with h | h
        · exact hA.l h
        · right
          have := (n_la_ws (sl := sl) (A := A) (by omega)).1
          rcases Nat.lt_or_ge (n_ws sl A) (n_ws sl O) with h2 | h2
          · omega
          · have := he (by omega)
            omega
      · rw [wO] at q
        rw [s_bk_congr eO]
        exact hO.v q
      · rw [wO]
        exact hO.n
      · rw [lO, eO 50 (by omega)]
        exact hO.l0
      · rw [lO]
        rw [wO] at q
        exact .inl (lOA q)
    · have hk3 : k = 51 := by omega
      subst hk3
      have wA := n_ov_whole (sl := sl) (A := A) S h0 (by omega)
      refine ⟨⟨fun _ => ⟨f, ?_⟩, by omega, ?_, fun q => by omega⟩, ⟨fun q => ?_, ?_, ?_, fun q => ?_⟩, fun q => by omega, wO, by omega⟩
      · have e : s_bk (n_ov A t 51 sl) A = t := by
          funext i
          unfold s_bk
          by_cases hi : i < 51
          · rw [if_pos hi, n_ov_in hi]
          · rw [if_neg hi, T.z i (by omega)]
        rw [e]
        exact T
      · have e : n_ov A t 51 sl (A + 50) = Int32.ofNat N := by
          rw [n_ov_in (by omega), S.l]
        unfold n_la
        rw [e, xn_nat (by omega)]
      · rw [wO] at q
        rw [s_bk_congr eO]
        exact hO.v q
      · rw [wO]
        exact hO.n
      · rw [lO, eO 50 (by omega)]
        exact hO.l0
      · rw [lO]
        rw [wO] at q
        exact .inl (lOA q)
end XkSlo
