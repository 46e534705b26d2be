section XkSta
abbrev n_Q (sl : Nat → Int32) (S : Nat → Nat → Prop) (r : Int32 × Int32) : Prop := (r = (Int32.ofInt (-1), 0) ∧ ∀ d u, S d u → n_ws sl (s_start d u) = 0) ∨ ∃ d u, S d u ∧ r = (Int32.ofNat (s_start d u), Int32.ofNat (n_ws sl (s_start d u))) ∧ 0 < n_ws sl (s_start d u) ∧ ∀ e w, S e w → n_ws sl (s_start e w) ≤ n_ws sl (s_start d u)
theorem n_Q_congr {sl : Nat → Int32} {S R : Nat → Nat → Prop} {r : Int32 × Int32} (h : n_Q sl S r) (hS : ∀ d u, S d u ↔ R d u) : n_Q sl R r := by
  rcases h with ⟨h1, h2⟩ | ⟨d, u, h1, h2, h3, h4⟩
  · exact .inl ⟨h1, fun d u q => h2 d u ((hS d u).2 q)⟩
  · exact .inr ⟨d, u, (hS d u).1 h1, h2, h3, fun e w q => h4 e w ((hS e w).2 q)⟩
theorem n_Q_step {sl : Nat → Int32} {S : Nat → Nat → Prop} {r : Int32 × Int32} {d u : Nat} (h : n_Q sl S r) : n_Q sl (fun e w => S e w ∨ (e = d ∧ w = u)) (if s_ws sl (s_start d u) ≤ r.2 then r else (Int32.ofNat (s_start d u), s_ws sl (s_start d u))) := by
  rw [s_ws_eq sl (s_start d u)]
  rcases h with ⟨h1, h2⟩ | ⟨e, w, h1, h2, h3, h4⟩
  · by_cases q : n_ws sl (s_start d u) = 0
    · rw [if_pos (by rw [h1, q]; exact Int32.le_refl _)]
      refine .inl ⟨h1, fun e w k => ?_⟩
      rcases k with k | ⟨k1, k2⟩
      · exact h2 e w k
      · rw [k1, k2]
        exact q
    · rw [if_neg (by
        rw [h1]
        intro k
        exact q (by have := (xn_le (b := 0) (n_ws_lt sl (s_start d u)) (by omega)).1 k; omega))]
      refine .inr ⟨d, u, .inr ⟨rfl, rfl⟩, rfl, by omega, fun e w k => ?_⟩
      rcases k with k | ⟨k1, k2⟩
      · rw [h2 e w k]
        omega
      · rw [k1, k2]
        exact Nat.le_refl _
  · by_cases q : n_ws sl (s_start d u) ≤ n_ws sl (s_start e w)
    · rw [if_pos (by rw [h2]; exact (xn_le (n_ws_lt _ _) (n_ws_lt _ _)).2 q)]
      refine .inr ⟨e, w, .inl h1, h2, h3, fun a b k => ?_⟩
      rcases k with k | ⟨k1, k2⟩
      · exact h4 a b k
      · rw [k1, k2]
        exact q
    · rw [if_neg (by
        rw [h2]
        intro k
        exact q ((xn_le (n_ws_lt _ _) (n_ws_lt _ _)).1 k))]
      refine .inr ⟨d, u, .inr ⟨rfl, rfl⟩, rfl, by omega, fun a b k => ?_⟩
      rcases k with k | ⟨k1, k2⟩
      · have := h4 a b k
        omega
      · rw [k1, k2]
        exact Nat.le_refl _
theorem n_Q_I {sl ab : Nat → Int32} {d : Nat} {S : Nat → Nat → Prop} {r : Int32 × Int32} (h : n_Q sl S r) : ∀ n, n_Q sl (fun e w => S e w ∨ (e = d ∧ w < n ∧ ab d = 0)) (s_nwI sl ab d n r)
  | 0 => n_Q_congr h (fun e w => ⟨.inl, fun q => q.elim id (fun q => absurd q.2.1 (by omega))⟩)
  | n + 1 => by
    have ih := n_Q_I (ab := ab) (d := d) h n
    unfold s_nwI
    by_cases q : ab d = 0
    · rw [if_pos q]
      refine n_Q_congr (n_Q_step (d := d) (u := n) ih) (fun e w => ?_)
      constructor
      · rintro ((k | ⟨k1, k2, k3⟩) | ⟨k1, k2⟩)
        · exact .inl k
        · exact .inr ⟨k1, by omega, k3⟩
        · exact .inr ⟨k1, by omega, q⟩
      · rintro (k | ⟨k1, k2, k3⟩)
        · exact .inl (.inl k)
        · by_cases k4 : w = n
          · exact .inr ⟨k1, k4⟩
          · exact .inl (.inr ⟨k1, by omega, k3⟩)
    · rw [if_neg q]
      exact n_Q_congr ih (fun e w => ⟨fun k => k.elim .inl (fun k => absurd k.2.2 q), fun k => k.elim .inl (fun k => absurd k.2.2 q)⟩)
theorem n_Q_O (sl ab : Nat → Int32) : ∀ n, n_Q sl (fun e w => e < n ∧ w < 2 ∧ ab e = 0) (s_nwO sl ab n)
  | 0 => .inl ⟨rfl, fun d u q => absurd q.1 (by omega)⟩
  | n + 1 => by
    have ih := n_Q_O sl ab n
    unfold s_nwO
    refine n_Q_congr (n_Q_I (ab := ab) (d := n) ih 2) (fun e w => ?_)
    constructor
    · rintro (⟨k1, k2, k3⟩ | ⟨k1, k2, k3⟩)
      · exact ⟨by omega, k2, k3⟩
      · exact ⟨by omega, k2, by rw [k1]; exact k3⟩
    · rintro ⟨k1, k2, k3⟩
      by_cases k4 : e = n
      · exact .inr ⟨k4, k2, by rw [← k4]; exact k3⟩
      · exact .inl ⟨by omega, k2, k3⟩
def n_tb (sl : Nat → Int32) (r : Int32 × Int32) : Nat → Int32 := if r.1 = Int32.ofInt (-1) then fun _ => 0 else s_bk sl r.1.toNatClampNeg
theorem n_tb_z (sl : Nat → Int32) (r : Int32 × Int32) : ∀ i, 51 ≤ i → n_tb sl r i = 0 := fun i hi => by
  unfold n_tb
  split
  · rfl
  · unfold s_bk
    rw [if_neg (by omega)]
theorem s_start_lt {d u : Nat} (hd : d < 4) (hu : u < 2) : s_start d u + 51 ≤ 408 := by
  unfold s_start
  omega
theorem n_ne1 {a : Nat} (h : a < 2147483648) : ¬ Int32.ofNat a = Int32.ofInt (-1) := fun q => by
  have := congrArg Int32.toInt q
  rw [xn_int h] at this
  exact absurd this (by show ¬ ((a : Nat) : Int) = -1; omega)
theorem n_Tv_0 : n_Tv (fun _ => 0) := ⟨fun _ _ => Nat.zero_le 8, fun _ _ => by show 0 ∈ s_dv; decide, fun _ _ => Nat.zero_le 32, fun _ _ q => absurd rfl q, fun _ _ _ _ _ => .inl rfl, fun _ _ _ _ q => absurd rfl q⟩
theorem n_tb_ok {B : Nat} {sl ab : Nat → Int32} (V : s_Sv B sl) (hB : B < 2147483648) : ∃ f n, s_Tv (n_tb sl (s_nwO sl ab 4)) f ∧ n_tb sl (s_nwO sl ab 4) 0 = Int32.ofNat n ∧ n ≤ B ∧ (s_nwO sl ab 4).2 = Int32.ofNat n ∧ (∀ d u, d < 4 → u < 2 → ab d = 0 → n_ws sl (s_start d u) ≤ n) ∧ ((n = 0 ∧ ∀ i, f i = 0) ∨ (0 < n ∧ s_Sd (n_tb sl (s_nwO sl ab 4)) n)) := by
  rcases n_Q_O sl ab 4 with ⟨h1, h2⟩ | ⟨d, u, ⟨h1, h2, h3⟩, h4, h5, h6⟩
  · refine ⟨fun _ => 0, 0, ?_, ?_, by omega, by rw [h1]; rfl, fun d u q1 q2 q3 => by rw [h2 d u ⟨q1, q2, q3⟩]; omega, .inl ⟨rfl, fun _ => rfl⟩⟩
    · have e : n_tb sl (s_nwO sl ab 4) = fun _ => 0 := by
        unfold n_tb
        rw [h1, if_pos rfl]
      rw [e]
      exact n_Tv_0.s (fun _ _ => rfl) (fun _ _ _ => rfl)
    · unfold n_tb
      rw [h1, if_pos rfl]
      rfl
  · have hs := s_start_lt h1 h2
    have e : n_tb sl (s_nwO sl ab 4) = s_bk sl (s_start d u) := by
      unfold n_tb
      rw [h4, if_neg (n_ne1 (by omega)), xn_nat (by omega)]
    have hD : ∃ O, s_Dv B sl (s_start d u) O := by
      rcases Nat.eq_zero_or_pos u with q | q
      · rw [q]
        exact ⟨_, V.a d h1⟩
      · rw [show u = 1 by omega]
        exact ⟨_, V.b d h1⟩
    obtain ⟨O, hD⟩ := hD
    obtain ⟨f, T⟩ := hD.v (by omega)
    obtain ⟨a1, a2, a3, a4⟩ := n_la_ws (sl := sl) (A := s_start d u) (by omega)
    have b0 : s_bk sl (s_start d u) 0 = Int32.ofNat (n_ws sl (s_start d u)) := a2
    rw [e]
    refine ⟨f, n_ws sl (s_start d u), T, b0, hD.n, by rw [h4], fun e w q1 q2 q3 => h6 e w ⟨q1, q2, q3⟩, .inr ⟨h5, b0, ?_, a4⟩⟩
    show sl (s_start d u + 49) = _
    rw [a3]
    exact s_sum_congr 49 (fun i hi => by
      unfold s_bk
      rw [if_pos (by omega), Nat.zero_add])
def p_nwI (sl : Nat → Int32) (d : Nat) : Nat → Int32 × (Nat → Int32) → Int32 × (Nat → Int32)
  | 0, a => a
  | s + 1, a => if (p_nwI sl d s a).1 < s_ws sl (s_start d s) then (s_ws sl (s_start d s), va_cpy sl (p_nwI sl d s a).2 (s_start d s) 0 51) else p_nwI sl d s a
def p_nwO (sl ab : Nat → Int32) : Nat → Int32 × (Nat → Int32)
  | 0 => (0, fun _ => 0)
  | d + 1 => if ab d = 0 then p_nwI sl d 2 (p_nwO sl ab d) else p_nwO sl ab d
theorem n_cpy_bk {sl g : Nat → Int32} {a : Nat} (h : ∀ i, 51 ≤ i → g i = 0) : va_cpy sl g a 0 51 = s_bk sl a := by
  funext i
  unfold va_cpy s_bk
  by_cases q : i < 51
  · rw [if_pos ⟨by omega, by omega⟩, if_pos q, Nat.sub_zero]
  · rw [if_neg (by omega), if_neg q, h i (by omega)]
theorem xn_lt_le {a b : Int32} : a < b ↔ ¬ b ≤ a := by
  rw [Int32.lt_iff_toInt_lt, Int32.le_iff_toInt_le]
  omega
theorem p_nwI_eq {sl ab : Nat → Int32} {d : Nat} (hd : d < 4) (ha : ab d = 0) (r : Int32 × Int32) : ∀ s, s ≤ 2 → p_nwI sl d s (r.2, n_tb sl r) = ((s_nwI sl ab d s r).2, n_tb sl (s_nwI sl ab d s r))
  | 0, _ => rfl
  | s + 1, hs => by
    have ih := p_nwI_eq (ab := ab) (sl := sl) hd ha r s (by omega)
    have hl := s_start_lt hd (show s < 2 by omega)
    unfold p_nwI s_nwI
    rw [ih, if_pos ha]
    by_cases q : s_ws sl (s_start d s) ≤ (s_nwI sl ab d s r).2
    · rw [if_pos q, if_neg (fun k => (xn_lt_le.1 k) q)]
    · rw [if_neg q, if_pos (xn_lt_le.2 q), n_cpy_bk (n_tb_z sl _)]
      unfold n_tb
      rw [if_neg (n_ne1 (by omega)), xn_nat (by omega)]
theorem p_nwO_eq (sl ab : Nat → Int32) : ∀ n, n ≤ 4 → p_nwO sl ab n = ((s_nwO sl ab n).2, n_tb sl (s_nwO sl ab n))
  | 0, _ => rfl
  | n + 1, hn => by
    have ih := p_nwO_eq sl ab n (by omega)
    unfold p_nwO s_nwO
    by_cases q : ab n = 0
    · rw [if_pos q, ih]
      exact p_nwI_eq (by omega) q _ 2 (Nat.le_refl 2)
    · rw [if_neg q, ih]
      have e : ∀ s, s_nwI sl ab n s (s_nwO sl ab n) = s_nwO sl ab n := by
        intro s
        induction s with
        | zero => rfl
        | succ s im =>
          unfold s_nwI
          rw [if_neg q]
          exact im
      rw [e 2]
theorem m_tick_neg {s : s_S} (h : s.2.2 = -1) : m_tick s = (true, s) := by
  unfold m_tick
  rw [if_neg (by rw [h]; decide), h]
  have e : s_dec (-1) = -1 := by decide
  rw [e, ← h]
theorem m_sl_neg {a : Nat} {y : Int32} {s : s_S} (h : s.2.2 = -1) : m_sl a y s = (true, (upd s.1 a y, s.2.1, s.2.2)) := by
  unfold m_sl
  rw [m_tick_neg h, if_pos rfl]
theorem m_ex_neg {a : Nat} {y : Int32} {s : s_S} (h : s.2.2 = -1) : m_ex a y s = (true, (s.1, upd s.2.1 a y, s.2.2)) := by
  unfold m_ex
  rw [m_tick_neg h, if_pos rfl]
theorem m_for_neg {F : Nat → s_M} (h : ∀ i s, s.2.2 = -1 → (F i s).1 = true ∧ (F i s).2.2.2 = -1) (m j : Nat) {s : s_S} (hs : s.2.2 = -1) : (m_for F m j s).1 = true ∧ (m_for F m j s).2.2.2 = -1 :=
  m_for_inv (I := fun _ u => u.2.2 = -1) (Q := fun o => o.1 = true ∧ o.2.2.2 = -1) m j (fun i u _ _ q => ⟨fun _ => (h i u q).2, fun r => absurd (h i u q).1 r⟩) (fun u q => ⟨rfl, q⟩) s hs
theorem m_wt_neg {d : Nat} {t : Nat → Int32} {s : s_S} (h : s.2.2 = -1) : (m_wt d t s).1 = true ∧ (m_wt d t s).2.2.2 = -1 := by
  unfold m_wt
  exact m_for_neg (fun i u q => by rw [m_sl_neg q]; exact ⟨rfl, q⟩) 51 0 h
def m_sta (t ab : Nat → Int32) (N : Int32) : s_M := m_for (fun d s => if (¬ t (1 + d) = 0 ∧ ab d = 0) ∧ ¬ (s_ws s.1 (s_start d 0) = N ∨ s_ws s.1 (s_start d 1) = N) then m_wt d t s else (true, s)) 4 0
def p_sta (t ab : Nat → Int32) (N : Int32) : s_M := m_for (fun d s => if (¬ t (1 + d) = 0 ∧ ab d = 0) ∧ ¬ (s_ws s.1 (s_start d 0) = N ∨ s_ws s.1 (s_start d 1) = N) then p_wt d t s else (true, s)) 4 0
theorem m_sta_ok {B n : Nat} {t ab : Nat → Int32} {f : Nat → Nat} {s : s_S} (V : s_Sv B s.1) (hB : B < 2147483648) (T : s_Tv t f) (hn : n ≤ B) (W : ∀ d u, d < 4 → u < 2 → ab d = 0 → n_ws s.1 (s_start d u) ≤ n) (h : (n = 0 ∧ ∀ i, f i = 0) ∨ (0 < n ∧ s_Sd t n)) (hs : s.2.2 = -1) : (m_sta t ab (Int32.ofNat n) s).1 = true ∧ s_Sv B (m_sta t ab (Int32.ofNat n) s).2.1 ∧ (m_sta t ab (Int32.ofNat n) s).2.2 = (s.2.1, -1) ∧ (∀ d u, d < 4 → u < 2 → ab d = 0 → n_ws (m_sta t ab (Int32.ofNat n) s).2.1 (s_start d u) ≤ n) ∧ p_sta t ab (Int32.ofNat n) s = m_sta t ab (Int32.ofNat n) s := by
  have step : ∀ (i : Nat) (u : s_S), 0 ≤ i → i < 0 + 4 → (s_Sv B u.1 ∧ u.2 = (s.2.1, -1) ∧ (∀ d w, d < 4 → w < 2 → ab d = 0 → n_ws u.1 (s_start d w) ≤ n)) → (¬ t (1 + i) = 0 ∧ ab i = 0) ∧ ¬ (s_ws u.1 (s_start i 0) = Int32.ofNat n ∨ s_ws u.1 (s_start i 1) = Int32.ofNat n) → (m_wt i t u).1 = true ∧ (s_Sv B (m_wt i t u).2.1 ∧ (m_wt i t u).2.2 = (s.2.1, -1) ∧ (∀ d w, d < 4 → w < 2 → ab d = 0 → n_ws (m_wt i t u).2.1 (s_start d w) ≤ n)) := by
    intro i u _ hi ⟨h3, h4, h5⟩ hc
    have hi : i < 4 := by omega
    rcases h with ⟨q1, q2⟩ | ⟨q1, q2⟩
    · exact absurd (by rw [T.w (1 + i) (by omega) (by omega), q2]; rfl) hc.1.1
    · have hlt : ∀ w, w < 2 → n_ws u.1 (s_start i w) < n := fun w hw => by
        have := h5 i w hi hw hc.1.2
        rcases Nat.lt_or_ge (n_ws u.1 (s_start i w)) n with k | k
        · exact k
        · exfalso
          apply hc.2
          have e : s_ws u.1 (s_start i w) = Int32.ofNat n := by
            rw [s_ws_eq, show n_ws u.1 (s_start i w) = n by omega]
          rcases Nat.eq_zero_or_pos w with r | r
          · rw [r] at e
            exact .inl e
          · rw [show w = 1 by omega] at e
            exact .inr e
      obtain ⟨a1, a2, a3, a4, a5⟩ := m_wt_ok h3 hi T q2 q1 hn hB (hlt 0 (by omega)) (hlt 1 (by omega))
      have hneg := m_wt_neg (d := i) (t := t) (s := u) (by rw [h4])
      refine ⟨hneg.1, a1, Prod.ext (a2.trans (by rw [h4])) hneg.2, fun d w r1 r2 r3 => ?_⟩
      by_cases k : d = i
      · rw [k]
        exact a3 w r2
      · rw [a4 d w k r2]
        exact h5 d w r1 r2 r3
  have base : s_Sv B s.1 ∧ s.2 = (s.2.1, -1) ∧ (∀ d w, d < 4 → w < 2 → ab d = 0 → n_ws s.1 (s_start d w) ≤ n) := ⟨V, Prod.ext rfl hs, W⟩
  have main : (m_sta t ab (Int32.ofNat n) s).1 = true ∧ s_Sv B (m_sta t ab (Int32.ofNat n) s).2.1 ∧ (m_sta t ab (Int32.ofNat n) s).2.2 = (s.2.1, -1) ∧ (∀ d u, d < 4 → u < 2 → ab d = 0 → n_ws (m_sta t ab (Int32.ofNat n) s).2.1 (s_start d u) ≤ n) := by
    unfold m_sta
    refine m_for_inv (I := fun _ u => s_Sv B u.1 ∧ u.2 = (s.2.1, -1) ∧ (∀ d w, d < 4 → w < 2 → ab d = 0 → n_ws u.1 (s_start d w) ≤ n)) (Q := fun o => o.1 = true ∧ s_Sv B o.2.1 ∧ o.2.2 = (s.2.1, -1) ∧ (∀ d w, d < 4 → w < 2 → ab d = 0 → n_ws o.2.1 (s_start d w) ≤ n)) 4 0 (fun i u h1 h2 hi => ?_) (fun u hi => ⟨rfl, hi⟩) s base
    by_cases hc : (¬ t (1 + i) = 0 ∧ ab i = 0) ∧ ¬ (s_ws u.1 (s_start i 0) = Int32.ofNat n ∨ s_ws u.1 (s_start i 1) = Int32.ofNat n)
    · rw [if_pos hc]
      have k := step i u h1 h2 hi hc
      exact ⟨fun _ => k.2, fun q => absurd k.1 q⟩
    · rw [if_neg hc]
      exact ⟨fun _ => hi, fun q => absurd rfl q⟩
  refine ⟨main.1, main.2.1, main.2.2.1, main.2.2.2, ?_⟩
  unfold p_sta m_sta
  refine m_for_congr (I := fun _ u => s_Sv B u.1 ∧ u.2 = (s.2.1, -1) ∧ (∀ d w, d < 4 → w < 2 → ab d = 0 → n_ws u.1 (s_start d w) ≤ n)) 4 0 (fun i u h1 h2 hi => ?_) s base
  have hp : p_wt i t u = m_wt i t u := p_wt_eq (hi.1.t i (by omega))
  by_cases hc : (¬ t (1 + i) = 0 ∧ ab i = 0) ∧ ¬ (s_ws u.1 (s_start i 0) = Int32.ofNat n ∨ s_ws u.1 (s_start i 1) = Int32.ofNat n)
  · rw [if_pos hc, if_pos hc, hp]
    have k := step i u h1 h2 hi hc
    exact ⟨rfl, fun _ => k.2⟩
  · rw [if_neg hc, if_neg hc]
    exact ⟨rfl, fun _ => hi⟩
end XkSta
