section XkChg
theorem n_no_legs {f : Nat → Nat} {j : Nat} (T : n_Tv f) (h : f (1 + j) = 0) : ∀ i, i < 40 → ¬ n_on f j i := fun i hi q => by
  have := T.p i hi q.1
  rw [q.2, h] at this
  omega
theorem n_tg_ext {f : Nat → Nat} {j y x : Nat} (h : n_tg f x) (hj : x < 32 → x / 8 = j → f (1 + j) ≤ y) (hj4 : j < 4) : n_tg (n_up f (1 + j) y) x := fun q => by
  obtain ⟨h1, h2⟩ := h q
  refine ⟨?_, fun ⟨i, k1, k2⟩ => h2 ⟨i, k1, by rw [n_up_ne (by omega)] at k2; exact k2⟩⟩
  by_cases r : x / 8 = j
  · rw [r, n_up_at]
    rw [r] at h1
    have := hj q r
    omega
  · rw [n_up_ne (by omega)]
    exact h1
theorem g_add {ta : Nat → Int32} {f : Nat → Nat} {j y : Nat} (T : s_Tv ta f) (hj : j < 4) (hy : y ≤ 8) (h : f (1 + j) = 0) : s_Tv (upd ta (1 + j) (Int32.ofNat y)) (n_up f (1 + j) y) :=
  (T.n.ext hj hy (n_no_legs T.n h)).s (upd_z T.z (by omega)) (n_up_w T.w)
theorem g_rem {ta : Nat → Int32} {f : Nat → Nat} {j : Nat} (T : s_Tv ta f) (hj : j < 4) (h : ∀ i, i < 40 → ¬ n_on f j i) : s_Tv (upd ta (1 + j) 0) (n_up f (1 + j) 0) :=
  (T.n.ext hj (by omega) h).s (upd_z T.z (by omega)) (n_up_w T.w)
def n_dro (f : Nat → Nat) (j : Nat) : Nat → Nat := fun i => if 9 ≤ i ∧ i < 49 ∧ f i ≠ 0 ∧ (f i - 1) / 8 = j then 0 else if i = 1 + j then 0 else f i
theorem g_dro {ta : Nat → Int32} {f : Nat → Nat} {j : Nat} (T : s_Tv ta f) (hj : j < 4) : s_Tv (s_clr (upd ta (1 + j) 0) (fun i => s_disk ((upd ta (1 + j) 0) (9 + i) - 1) = Int32.ofNat j) 9 40) (n_dro f j) := by
  have T1 : n_Tv (fun i => if 9 ≤ i ∧ i < 49 ∧ f i ≠ 0 ∧ (f i - 1) / 8 = j then 0 else f i) := T.n.lose (fun i h1 h2 => if_neg (by omega)) (fun i hi => by
    show (if _ then _ else _) = _ ∨ (if _ then _ else _) = _
    by_cases q : 9 ≤ 9 + i ∧ 9 + i < 49 ∧ f (9 + i) ≠ 0 ∧ (f (9 + i) - 1) / 8 = j
    · rw [if_pos q]
      exact .inr rfl
    · rw [if_neg q]
      exact .inl rfl)
  have T2 := T1.ext (j := j) (y := 0) hj (by omega) (fun i hi q => by
    obtain ⟨q1, q2⟩ := q
    dsimp only at q1 q2
    by_cases r : 9 ≤ 9 + i ∧ 9 + i < 49 ∧ f (9 + i) ≠ 0 ∧ (f (9 + i) - 1) / 8 = j
    · rw [if_pos r] at q1
      exact q1 rfl
    · rw [if_neg r] at q1 q2
      exact r ⟨by omega, by omega, q1, q2⟩)
  have e : n_up (fun i => if 9 ≤ i ∧ i < 49 ∧ f i ≠ 0 ∧ (f i - 1) / 8 = j then 0 else f i) (1 + j) 0 = n_dro f j := by
    funext i
    unfold n_up n_dro
    by_cases q : i = 1 + j
    · rw [if_pos q, if_neg (by omega), if_pos q]
    · rw [if_neg q, if_neg q]
  rw [e] at T2
  refine T2.s (s_clr_z (upd_z T.z (by omega)) 40 (by omega)) (fun i h1 h2 => ?_)
  rw [s_clr_eq]
  unfold n_dro
  by_cases q : 9 ≤ i
  · have hl := T.l (i - 9) (by omega)
    rw [show 9 + (i - 9) = i by omega] at hl
    have k := s_disk_on (f i) (by omega) j hj
    have hu : upd ta (1 + j) 0 i = Int32.ofNat (f i) := by
      unfold upd
      rw [if_neg (by omega), T.w i h1 h2]
    by_cases r : f i ≠ 0 ∧ (f i - 1) / 8 = j
    · rw [if_pos ⟨q, by omega, by rw [show 9 + (i - 9) = i by omega, hu]; exact k.2 r⟩, if_pos ⟨q, h2, r⟩]
      rfl
    · rw [if_neg (fun s => r (k.1 (by have := s.2.2; rw [show 9 + (i - 9) = i by omega, hu] at this; exact this))), if_neg (fun s => r s.2.2), if_neg (by omega), hu]
  · rw [if_neg (fun s => q s.1), if_neg (fun s => q s.1)]
    unfold upd
    by_cases r : i = 1 + j
    · rw [if_pos r, if_pos r]
      rfl
    · rw [if_neg r, if_neg r]
      exact T.w i h1 h2
def n_shr (f : Nat → Nat) (v n D : Nat) : Nat → Nat := fun i => if 9 + (v * 10 + n * 2) ≤ i ∧ i < 9 + (v * 10 + 10) then 0 else if i = 5 + v then D else f i
theorem g_shr {ta : Nat → Int32} {f : Nat → Nat} {v n D : Nat} (T : s_Tv ta f) (hv : v < 4) (hn : n ≤ 5) (hD : D ∈ s_dv) (h1 : n ≤ D / 32) (h2 : n = 0 ∨ D % 4 = f (5 + v) % 4) : s_Tv (s_clr (upd ta (5 + v) (Int32.ofNat D)) (fun _ => True) (9 + (v * 10 + n * 2 + 0)) (10 - n * 2)) (n_shr f v n D) := by
  have T1 : n_Tv (fun i => if 9 + (v * 10 + n * 2) ≤ i ∧ i < 9 + (v * 10 + 10) then 0 else f i) := T.n.lose (fun i h1 h2 => if_neg (by omega)) (fun i hi => by
    show (if _ then _ else _) = _ ∨ (if _ then _ else _) = _
    by_cases q : 9 + (v * 10 + n * 2) ≤ 9 + i ∧ 9 + i < 9 + (v * 10 + 10)
    · rw [if_pos q]
      exact .inr rfl
    · rw [if_neg q]
      exact .inl rfl)
  have T2 := T1.desc (v := v) (D := D) hv hD (fun i hi q => by
    (try dsimp only at q)
    by_cases r : 9 + (v * 10 + n * 2) ≤ 9 + (v * 10 + i) ∧ 9 + (v * 10 + i) < 9 + (v * 10 + 10)
    · rw [if_pos r] at q
      exact absurd rfl q
    · rw [if_neg r] at q
      have := T.g v i hv hi q
      rcases h2 with h2 | h2
      · omega
      · exact ⟨by omega, by omega⟩)
  have e : n_up (fun i => if 9 + (v * 10 + n * 2) ≤ i ∧ i < 9 + (v * 10 + 10) then 0 else f i) (5 + v) D = n_shr f v n D := by
    funext i
    unfold n_up n_shr
    by_cases q : i = 5 + v
    · rw [if_pos q, if_neg (by omega), if_pos q]
    · rw [if_neg q, if_neg q]
  rw [e] at T2
  refine T2.s (s_clr_z (upd_z T.z (by omega)) _ (by omega)) (fun i h3 h4 => ?_)
  rw [s_clr_eq]
  unfold n_shr
  by_cases q : 9 + (v * 10 + n * 2) ≤ i ∧ i < 9 + (v * 10 + 10)
  · rw [if_pos ⟨by omega, by omega, trivial⟩, if_pos q]
    rfl
  · rw [if_neg (by omega), if_neg q]
    unfold upd
    by_cases r : i = 5 + v
    · rw [if_pos r, if_pos r]
    · rw [if_neg r, if_neg r]
      exact T.w i h3 h4
theorem n_tg_lose {f g : Nat → Nat} {x : Nat} (h : n_tg f x) (h1 : ∀ d, d < 4 → g (1 + d) = f (1 + d)) (h2 : ∀ j, j < 40 → g (9 + j) = f (9 + j) ∨ g (9 + j) = 0) : n_tg g x := fun q => by
  obtain ⟨a, b⟩ := h q
  refine ⟨by rw [h1 _ (by omega)]; exact a, fun ⟨i, k1, k2⟩ => b ⟨i, k1, ?_⟩⟩
  rcases h2 i k1 with r | r
  · rw [← r]
    exact k2
  · omega
theorem g_los {ta : Nat → Int32} {f : Nat → Nat} {j : Nat} (T : s_Tv ta f) (hj : j < 40) : s_Tv (upd ta (9 + j) 0) (n_up f (9 + j) 0) :=
  (T.n.lose (fun i _ _ => n_up_ne (by omega)) (fun i hi => by
    by_cases q : i = j
    · rw [q, n_up_at]
      exact .inr rfl
    · rw [n_up_ne (by omega)]
      exact .inl rfl)).s (upd_z T.z (by omega)) (n_up_w T.w)
theorem g_mov {ta : Nat → Int32} {f : Nat → Nat} {j x : Nat} (T : s_Tv ta f) (hj : j < 40) (h0 : f (9 + j) ≠ 0) (hx : x < 32) (ht : n_tg f x) : s_Tv (upd ta (9 + j) (Int32.ofNat (x + 1))) (n_up f (9 + j) (x + 1)) := by
  obtain ⟨t1, t2⟩ := ht hx
  refine (T.n.leg hj hx t1 t2 ?_).s (upd_z T.z (by omega)) (n_up_w T.w)
  have := T.g (j / 10) (j % 10) (by omega) (by omega) (by rw [show j / 10 * 10 + j % 10 = j by omega]; exact h0)
  refine ⟨this.1, ?_⟩
  rcases this.2 with q | q
  · left
    omega
  · exact .inr q
end XkChg
