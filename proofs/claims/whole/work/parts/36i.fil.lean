section XkFil
theorem n_br_congr {F G : Nat → Nat} : ∀ n, (∀ d, d < n → F d = G d) → n_br F n = n_br G n
  | 0, _ => rfl
  | n + 1, h => by
    unfold n_br
    rw [n_br_congr n (fun d hd => h d (by omega)), h n (by omega)]
abbrev n_bar (f : Nat → Nat) (m x v k nt d : Nat) : Prop := nt = d ∨ (m < 40 ∧ m / 10 = v ∧ x < 32 ∧ x / 8 = d ∧ n_bes (f (5 + v)) (m % 10) k) ∨ ∃ j, j < 2 * (f (5 + v) / 32) ∧ n_bes (f (5 + v)) j k ∧ n_on f d (v * 10 + j)
def n_G (f : Nat → Nat) (ab : Nat → Int32) (m x v k nt d : Nat) : Nat := if ab d = 0 ∧ ¬ n_bar f m x v k nt d then n_cf f x d else 0
def n_rm (f : Nat → Nat) (x : Nat) (b : Nat) : Nat := if b < 4 then 8 * b + n_ls (fun p => n_fre f x (8 * b + p)) (f (1 + b)) 0 else 32
def n_R (f : Nat → Nat) (ab : Nat → Int32) (m x v k nt : Nat) : Nat := n_rm f x (n_br (n_G f ab m x v k nt) 4).1
theorem n_R_eq {f : Nat → Nat} {ab : Nat → Int32} {m x v k nt a : Nat} (h : ∀ d, d < 4 → (a.testBit d = true ↔ n_bar f m x v k nt d)) : n_room f ab x a = n_R f ab m x v k nt := by
  have e : n_br (n_F f ab x a) 4 = n_br (n_G f ab m x v k nt) 4 := n_br_congr 4 (fun d hd => by
    unfold n_F n_G
    have q := h d hd
    by_cases r : n_bar f m x v k nt d
    · rw [if_neg (fun s => by rw [q.2 r] at s; exact absurd s.2 (by decide)), if_neg (fun s => s.2 r)]
    · have q2 : a.testBit d = false := by
        cases hb : a.testBit d
        · rfl
        · exact absurd (q.1 hb) r
      by_cases s : ab d = 0
      · rw [if_pos ⟨s, q2⟩, if_pos ⟨s, r⟩]
      · rw [if_neg (fun u => s u.1), if_neg (fun u => s u.1)])
  unfold n_room n_R n_rm
  rw [e]
theorem n_R_ok {f : Nat → Nat} {ab : Nat → Int32} {m x v k nt : Nat} (he : ∀ d, d < 4 → f (1 + d) ≤ 8) (h : n_R f ab m x v k nt < 32) : n_fre f x (n_R f ab m x v k nt) ∧ n_R f ab m x v k nt % 8 < f (1 + n_R f ab m x v k nt / 8) ∧ ab (n_R f ab m x v k nt / 8) = 0 := by
  unfold n_R n_rm at h ⊢
  by_cases h4 : (n_br (n_G f ab m x v k nt) 4).1 < 4
  · rw [if_pos h4] at h ⊢
    rcases n_br_lt (n_G f ab m x v k nt) 4 (Nat.le_refl 4) with ⟨h1, _⟩ | ⟨h1, h2, h3⟩
    · omega
    · generalize (n_br (n_G f ab m x v k nt) 4).1 = d at *
      rw [h2] at h3
      unfold n_G at h3
      by_cases hc : ab d = 0 ∧ ¬ n_bar f m x v k nt d
      · rw [if_pos hc] at h3
        unfold n_cf at h3
        obtain ⟨i, hi, hp⟩ := (n_cnt_pos _).1 h3
        obtain ⟨a1, a2, a3, a4⟩ := n_ls_le (fun p => n_fre f x (8 * d + p)) (f (1 + d)) 0
        have hle : n_ls (fun p => n_fre f x (8 * d + p)) (f (1 + d)) 0 ≤ i := Decidable.byContradiction (fun q => a4 i (by omega) (by omega) hp)
        have := he d h4
        have e1 : (8 * d + n_ls (fun p => n_fre f x (8 * d + p)) (f (1 + d)) 0) / 8 = d := by omega
        have e2 : (8 * d + n_ls (fun p => n_fre f x (8 * d + p)) (f (1 + d)) 0) % 8 = n_ls (fun p => n_fre f x (8 * d + p)) (f (1 + d)) 0 := by omega
        rw [e1, e2]
        exact ⟨a3 (by omega), by omega, hc.1⟩
      · rw [if_neg hc] at h3
        omega
  · rw [if_neg h4] at h
    omega
theorem s_room_R {t ab : Nat → Int32} {f : Nat → Nat} {m x v e l nt : Nat} {b0 : Int32} (T : s_Tv t f) (hx : n_tg f x) (hv : v < 4) (h0 : f (5 + v) ≠ 0) (he : e < f (5 + v) / 32) (hl : l < 2) (hk : l = 0 ∨ f (5 + v) % 4 = 3) (hm : m < 40 → f (9 + m) ≠ 0) (hb : n_bs b0 (fun d => nt = d)) : s_room t ab (n_mt x) (b0 ||| s_gO t (n_ml m) (n_mt x) v e l (e - e % (f (5 + v) / 4 % 8)) (f (5 + v) / 4 % 8)) = n_mt (n_R f ab m x v (2 * e + l) nt) := by
  obtain ⟨a, a1, a2, a3⟩ := s_room_g (ab := ab) (m := m) (e := e) (l := l) T hx hv h0 he hl hk hm hb
  rw [a3, n_R_eq a2]
def s_mk (t : Nat → Int32) (f : Nat → Nat) : Nat → Int32 := fun i => if 1 ≤ i ∧ i < 49 then Int32.ofNat (f i) else t i
theorem s_mk_w (t : Nat → Int32) (f : Nat → Nat) : ∀ i, 1 ≤ i → i < 49 → s_mk t f i = Int32.ofNat (f i) := fun i h1 h2 => if_pos ⟨h1, h2⟩
theorem s_mk_o {t : Nat → Int32} {f : Nat → Nat} {i : Nat} (h : ¬ (1 ≤ i ∧ i < 49)) : s_mk t f i = t i := if_neg h
theorem s_mk_z {t : Nat → Int32} {f : Nat → Nat} (h : ∀ i, 51 ≤ i → t i = 0) : ∀ i, 51 ≤ i → s_mk t f i = 0 := fun i hi => (s_mk_o (by omega)).trans (h i hi)
theorem s_mk_self {t : Nat → Int32} {f : Nat → Nat} (w : ∀ i, 1 ≤ i → i < 49 → t i = Int32.ofNat (f i)) : s_mk t f = t := by
  funext i
  unfold s_mk
  by_cases h : 1 ≤ i ∧ i < 49
  · rw [if_pos h, w i h.1 h.2]
  · rw [if_neg h]
theorem s_mk_up {t : Nat → Int32} {f : Nat → Nat} {k y : Nat} (h1 : 1 ≤ k) (h2 : k < 49) : upd (s_mk t f) k (Int32.ofNat y) = s_mk t (n_up f k y) := by
  funext i
  unfold upd s_mk n_up
  by_cases h : i = k
  · rw [if_pos h, if_pos (by omega), if_pos h]
  · rw [if_neg h, if_neg h]
theorem s_mk_Tv {t : Nat → Int32} {f : Nat → Nat} (T : n_Tv f) (z : ∀ i, 51 ≤ i → t i = 0) : s_Tv (s_mk t f) f := T.s (s_mk_z z) (s_mk_w t f)
theorem s_mk_congr {t : Nat → Int32} {f g : Nat → Nat} (h : ∀ i, 1 ≤ i → i < 49 → f i = g i) : s_mk t f = s_mk t g := by
  funext i
  unfold s_mk
  by_cases q : 1 ≤ i ∧ i < 49
  · rw [if_pos q, if_pos q, h i q.1 q.2]
  · rw [if_neg q, if_neg q]
def n_fil (ab : Nat → Int32) (m x v : Nat) : Nat → Nat → (Nat → Nat) → Option (Nat → Nat)
  | 0, _, f => some f
  | n + 1, k, f => if k % 2 = 0 ∨ f (5 + v) % 4 = 3 then (if n_R f ab m x v k 4 < 32 then n_fil ab m x v n (k + 1) (n_up f (9 + (v * 10 + k)) (n_R f ab m x v k 4 + 1)) else none) else n_fil ab m x v n (k + 1) f
abbrev n_Kp (f g : Nat → Nat) (v : Nat) : Prop := (∀ i, i < 9 → g i = f i) ∧ (∀ j, j < 40 → f (9 + j) ≠ 0 → g (9 + j) = f (9 + j)) ∧ (∀ j, j < 40 → j / 10 ≠ v → g (9 + j) = f (9 + j))
theorem n_use_up {f : Nat → Nat} {j y x : Nat} (h : ¬ n_use f 40 x) (hy : y ≠ x) : ¬ n_use (n_up f (9 + j) (y + 1)) 40 x := by
  rintro ⟨i, h1, h2⟩
  by_cases q : 9 + i = 9 + j
  · rw [q, n_up_at] at h2
    omega
  · rw [n_up_ne q] at h2
    exact h ⟨i, h1, h2⟩
theorem n_tg_up {f : Nat → Nat} {j y x : Nat} (h : n_tg f x) (hy : y ≠ x) : n_tg (n_up f (9 + j) (y + 1)) x := fun q => by
  obtain ⟨h1, h2⟩ := h q
  refine ⟨?_, n_use_up h2 hy⟩
  rw [n_up_ne (by omega)]
  exact h1
theorem n_fil_ok {ab : Nat → Int32} {m x v : Nat} (hv : v < 4) : ∀ n k f g, k + n ≤ 2 * (f (5 + v) / 32) → (∀ i, k ≤ i → i < k + n → f (9 + (v * 10 + i)) = 0) → n_Tv f → n_tg f x → n_fil ab m x v n k f = some g → n_Tv g ∧ n_tg g x ∧ n_Kp f g v ∧ (∀ i, i < 10 → i < k ∨ k + n ≤ i → g (9 + (v * 10 + i)) = f (9 + (v * 10 + i))) ∧ (∀ i, k ≤ i → i < k + n → (i % 2 = 0 ∨ f (5 + v) % 4 = 3) → g (9 + (v * 10 + i)) ≠ 0)
  | 0, k, f, g, _, _, T, hx, h => by
    have e : f = g := Option.some.inj h
    rw [← e]
    exact ⟨T, hx, ⟨fun _ _ => rfl, fun _ _ _ => rfl, fun _ _ _ => rfl⟩, fun _ _ _ => rfl, fun i h1 h2 => absurd h2 (by omega)⟩
  | n + 1, k, f, g, hk, hz, T, hx, h => by
    have h5 : f (5 + v) / 32 ≤ 5 := by
      by_cases q : f (5 + v) = 0
      · rw [q]
        omega
      · exact (s_dv_col _ (T.v v hv) q).2.2.2.2.1
    unfold n_fil at h
    by_cases hc : k % 2 = 0 ∨ f (5 + v) % 4 = 3
    · rw [if_pos hc] at h
      by_cases hr : n_R f ab m x v k 4 < 32
      · rw [if_pos hr] at h
        obtain ⟨r1, r2, r3⟩ := n_R_ok T.e hr
        generalize n_R f ab m x v k 4 = r at *
        have T2 : n_Tv (n_up f (9 + (v * 10 + k)) (r + 1)) := T.leg (by omega) hr r2 r1.1 (by
          rw [show (v * 10 + k) / 10 = v by omega, show (v * 10 + k) % 10 = k by omega]
          refine ⟨by omega, ?_⟩
          rcases hc with q | q
          · left
            omega
          · exact .inr q)
        have e5 : n_up f (9 + (v * 10 + k)) (r + 1) (5 + v) = f (5 + v) := n_up_ne (by omega)
        obtain ⟨a1, a2, ⟨a3, a4, a5⟩, a6, a7⟩ := n_fil_ok hv n (k + 1) _ g (by rw [e5]; omega) (fun i h1 h2 => by
          rw [n_up_ne (by omega)]
          exact hz i (by omega) (by omega)) T2 (n_tg_up hx r1.2) h
        refine ⟨a1, a2, ⟨fun i hi => ?_, fun j hj q => ?_, fun j hj q => ?_⟩, fun i hi q => ?_, fun i h1 h2 q => ?_⟩
        · rw [a3 i hi, n_up_ne (by omega)]
        · by_cases s : j = v * 10 + k
          · rw [s] at q
            exact absurd (hz k (by omega) (by omega)) q
          · rw [a4 j hj (by rw [n_up_ne (by omega)]; exact q), n_up_ne (by omega)]
        · rw [a5 j hj q, n_up_ne (by omega)]
        · rw [a6 i hi (by omega), n_up_ne (by omega)]
        · by_cases s : i = k
          · rw [s, a4 (v * 10 + k) (by omega) (by rw [n_up_at]; omega), n_up_at]
            omega
          · exact a7 i (by omega) (by omega) (by rw [e5]; exact q)
      · rw [if_neg hr] at h
        cases h
    · rw [if_neg hc] at h
      obtain ⟨a1, a2, a3, a6, a7⟩ := n_fil_ok hv n (k + 1) f g (by omega) (fun i h1 h2 => hz i (by omega) (by omega)) T hx h
      refine ⟨a1, a2, a3, fun i hi q => ?_, fun i h1 h2 q => ?_⟩
      · exact a6 i hi (by omega)
      · by_cases s : i = k
        · rw [s] at q
          exact absurd q hc
        · exact a7 i (by omega) (by omega) q
end XkFil
