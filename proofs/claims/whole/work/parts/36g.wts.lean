section XkWts
theorem m_tick_S (s : s_S) : (m_tick s).2.1 = s.1 ∧ (m_tick s).2.2.1 = s.2.1 := by
  unfold m_tick
  split <;> exact ⟨rfl, rfl⟩
theorem m_sl_S (a : Nat) (y : Int32) (s : s_S) : (m_sl a y s).2.2.1 = s.2.1 ∧ ((m_sl a y s).1 = true → (m_sl a y s).2.1 = upd s.1 a y) ∧ (¬ (m_sl a y s).1 = true → (m_sl a y s).2.1 = s.1) := by
  obtain ⟨h1, h2⟩ := m_tick_S s
  unfold m_sl
  by_cases h : (m_tick s).1 = true
  · rw [if_pos h]
    refine ⟨h2, fun _ => ?_, fun q => absurd rfl q⟩
    show upd (m_tick s).2.1 a y = _
    rw [h1]
  · rw [if_neg h]
    exact ⟨h2, fun q => absurd q h, fun _ => h1⟩
theorem m_ex_S (a : Nat) (y : Int32) (s : s_S) : (m_ex a y s).2.1 = s.1 ∧ ((m_ex a y s).1 = true → (m_ex a y s).2.2.1 = upd s.2.1 a y) ∧ (¬ (m_ex a y s).1 = true → (m_ex a y s).2.2.1 = s.2.1) := by
  obtain ⟨h1, h2⟩ := m_tick_S s
  unfold m_ex
  by_cases h : (m_tick s).1 = true
  · rw [if_pos h]
    refine ⟨h1, fun _ => ?_, fun q => absurd rfl q⟩
    show upd (m_tick s).2.2.1 a y = _
    rw [h2]
  · rw [if_neg h]
    exact ⟨h1, fun q => absurd q h, fun _ => h2⟩
theorem m_for_inv {F : Nat → s_M} (I : Nat → s_S → Prop) (Q : Bool × s_S → Prop) : ∀ m j, (∀ i s, j ≤ i → i < j + m → I i s → ((F i s).1 = true → I (i + 1) (F i s).2) ∧ (¬ (F i s).1 = true → Q (F i s))) → (∀ s, I (j + m) s → Q (true, s)) → ∀ s, I j s → Q (m_for F m j s)
  | 0, j, _, he, s, hi => he s hi
  | m + 1, j, hs, he, s, hi => by
    show Q (m_seq (F j) (m_for F m (j + 1)) s)
    unfold m_seq
    obtain ⟨h1, h2⟩ := hs j s (Nat.le_refl j) (by omega) hi
    by_cases h : (F j s).1 = true
    · rw [if_pos h]
      exact m_for_inv I Q m (j + 1) (fun i s a b c => hs i s (by omega) (by omega) c) (fun s q => he s (by rw [show j + (m + 1) = j + 1 + m by omega]; exact q)) _ (h1 h)
    · rw [if_neg h]
      exact h2 h
theorem m_for_congr {F G : Nat → s_M} (I : Nat → s_S → Prop) : ∀ m j, (∀ i s, j ≤ i → i < j + m → I i s → F i s = G i s ∧ ((F i s).1 = true → I (i + 1) (F i s).2)) → ∀ s, I j s → m_for F m j s = m_for G m j s
  | 0, _, _, _, _ => rfl
  | m + 1, j, hs, s, hi => by
    show m_seq (F j) (m_for F m (j + 1)) s = m_seq (G j) (m_for G m (j + 1)) s
    unfold m_seq
    obtain ⟨h1, h2⟩ := hs j s (Nat.le_refl j) (by omega) hi
    rw [← h1]
    by_cases h : (F j s).1 = true
    · rw [if_pos h, if_pos h]
      exact m_for_congr I m (j + 1) (fun i s a b c => hs i s (by omega) (by omega) c) _ (h2 h)
    · rw [if_neg h, if_neg h]
theorem n_ov_upd {A k : Nat} {t sl : Nat → Int32} : upd (n_ov A t k sl) (A + k) (t k) = n_ov A t (k + 1) sl := by
  funext i
  unfold upd n_ov
  by_cases h : i = A + k
  · rw [if_pos h, if_pos (by omega), h, show A + k - A = k by omega]
  · rw [if_neg h]
    by_cases h2 : A ≤ i ∧ i < A + k
    · rw [if_pos h2, if_pos (by omega)]
    · rw [if_neg h2, if_neg (by omega)]
theorem m_wt_ov (d : Nat) (t : Nat → Int32) (s : s_S) : ∃ k, k ≤ 51 ∧ (m_wt d t s).2.1 = n_ov (s_start d (s_slot s.1 d)) t k s.1 ∧ (m_wt d t s).2.2.1 = s.2.1 ∧ ((m_wt d t s).1 = true → k = 51) := by
  unfold m_wt
  generalize s_start d (s_slot s.1 d) = A
  refine m_for_inv (I := fun i u => u.1 = n_ov A t i s.1 ∧ u.2.1 = s.2.1) (Q := fun o => ∃ k, k ≤ 51 ∧ o.2.1 = n_ov A t k s.1 ∧ o.2.2.1 = s.2.1 ∧ (o.1 = true → k = 51)) 51 0 (fun i u h1 h2 ⟨h3, h4⟩ => ?_) (fun u ⟨h3, h4⟩ => ⟨51, Nat.le_refl 51, h3, h4, fun _ => rfl⟩) s ⟨?_, rfl⟩
  · obtain ⟨a1, a2, a3⟩ := m_sl_S (A + i) (t i) u
    refine ⟨fun q => ⟨?_, a1.trans h4⟩, fun q => ⟨i, by omega, ?_, a1.trans h4, fun r => absurd r q⟩⟩
    · rw [a2 q, h3]
      exact n_ov_upd
    · rw [a3 q, h3]
  · funext i
    unfold n_ov
    rw [if_neg (by omega)]
theorem s_start_far {d e s u : Nat} (hs : s < 2) (hu : u < 2) (h : ¬ (d = e ∧ s = u)) : s_start d s + 51 ≤ s_start e u ∨ s_start e u + 51 ≤ s_start d s := by
  unfold s_start
  omega
theorem n_ov_far {d e s u k : Nat} {t sl : Nat → Int32} (hs : s < 2) (hu : u < 2) (hk : k ≤ 51) (h : ¬ (d = e ∧ s = u)) : ∀ i, i < 51 → n_ov (s_start d s) t k sl (s_start e u + i) = sl (s_start e u + i) := fun i hi => by
  have := s_start_far hs hu h
  exact n_ov_off (by omega)
theorem n_ws_far {d e s u k : Nat} {t sl : Nat → Int32} (hs : s < 2) (hu : u < 2) (hk : k ≤ 51) (h : ¬ (d = e ∧ s = u)) : n_ws (n_ov (s_start d s) t k sl) (s_start e u) = n_ws sl (s_start e u) := by
  unfold n_ws
  rw [s_ws_congr (n_ov_far hs hu hk h)]
theorem s_Sv_ov {B N k d : Nat} {t sl : Nat → Int32} {f : Nat → Nat} (V : s_Sv B sl) (hd : d < 4) (T : s_Tv t f) (S : s_Sd t N) (h0 : 0 < N) (hB : N ≤ B) (hB2 : B < 2147483648) (hn0 : n_ws sl (s_start d 0) < N) (hn1 : n_ws sl (s_start d 1) < N) (hk : k ≤ 51) : s_Sv B (n_ov (s_start d (s_slot sl d)) t k sl) ∧ (∀ u, u < 2 → n_ws (n_ov (s_start d (s_slot sl d)) t k sl) (s_start d u) ≤ N) := by
  have hs := s_slot_lt sl d
  have key : s_Dv B (n_ov (s_start d (s_slot sl d)) t k sl) (s_start d 0) (s_start d 1) ∧ s_Dv B (n_ov (s_start d (s_slot sl d)) t k sl) (s_start d 1) (s_start d 0) ∧ (n_ws (n_ov (s_start d (s_slot sl d)) t k sl) (s_start d 0) = n_ws (n_ov (s_start d (s_slot sl d)) t k sl) (s_start d 1) → n_ws (n_ov (s_start d (s_slot sl d)) t k sl) (s_start d 0) = 0) ∧ (∀ u, u < 2 → n_ws (n_ov (s_start d (s_slot sl d)) t k sl) (s_start d u) ≤ N) := by
    rcases s_slot_min sl d with ⟨e, h⟩ | ⟨e, h⟩
    · rw [e]
      obtain ⟨a1, a2, a3, a4, a5⟩ := s_Dv_ov (V.a d hd) (V.b d hd) (s_start_far (by omega) (by omega) (by omega)) T S h0 hB hB2 h (V.t d hd) hn0 hn1 hk
      refine ⟨a1, a2, a3, fun u hu => ?_⟩
      rcases Nat.eq_zero_or_pos u with q | q
      · rw [q]
        exact a5
      · rw [show u = 1 by omega, a4]
        omega
    · rw [e]
      obtain ⟨a1, a2, a3, a4, a5⟩ := s_Dv_ov (V.b d hd) (V.a d hd) (s_start_far (by omega) (by omega) (by omega)) T S h0 hB hB2 (by omega) (fun q => by omega) hn1 hn0 hk
      refine ⟨a2, a1, fun q => ?_, fun u hu => ?_⟩
      · rw [q]
        exact a3 q.symm
      · rcases Nat.eq_zero_or_pos u with q | q
        · rw [q, a4]
          omega
        · rw [show u = 1 by omega]
          exact a5
  obtain ⟨k1, k2, k3, k4⟩ := key
  refine ⟨⟨fun e he => ?_, fun e he => ?_, fun e he => ?_⟩, k4⟩
  · by_cases q : d = e
    · subst q
      exact k1
    · exact s_Dv_congr (Nat.le_refl B) (n_ov_far hs (by omega) hk (fun r => q r.1)) (n_ov_far hs (by omega) hk (fun r => q r.1)) (V.a e he)
  · by_cases q : d = e
    · subst q
      exact k2
    · exact s_Dv_congr (Nat.le_refl B) (n_ov_far hs (by omega) hk (fun r => q r.1)) (n_ov_far hs (by omega) hk (fun r => q r.1)) (V.b e he)
  · by_cases q : d = e
    · subst q
      exact k3
    · rw [n_ws_far hs (by omega) hk (fun r => q r.1), n_ws_far hs (by omega) hk (fun r => q r.1)]
      exact V.t e he
theorem m_wt_ok {B N d : Nat} {t : Nat → Int32} {f : Nat → Nat} {s : s_S} (V : s_Sv B s.1) (hd : d < 4) (T : s_Tv t f) (S : s_Sd t N) (h0 : 0 < N) (hB : N ≤ B) (hB2 : B < 2147483648) (hn0 : n_ws s.1 (s_start d 0) < N) (hn1 : n_ws s.1 (s_start d 1) < N) : s_Sv B (m_wt d t s).2.1 ∧ (m_wt d t s).2.2.1 = s.2.1 ∧ (∀ u, u < 2 → n_ws (m_wt d t s).2.1 (s_start d u) ≤ N) ∧ (∀ e u, e ≠ d → u < 2 → n_ws (m_wt d t s).2.1 (s_start e u) = n_ws s.1 (s_start e u)) ∧ ((m_wt d t s).1 = true → n_ws (m_wt d t s).2.1 (s_start d (s_slot s.1 d)) = N) := by
  obtain ⟨k, k1, k2, k3, k4⟩ := m_wt_ov d t s
  rw [k2]
  obtain ⟨a1, a2⟩ := s_Sv_ov V hd T S h0 hB hB2 hn0 hn1 k1
  refine ⟨a1, k3, a2, fun e u he hu => n_ws_far (s_slot_lt _ _) hu k1 (fun r => he r.1.symm), fun q => ?_⟩
  rw [k4 q]
  exact n_ov_whole S h0 (by omega)
theorem m_com_ok {B N : Nat} {D ab : Nat → Int32} {f : Nat → Nat} {s : s_S} (V : s_Sv B s.1) (T : s_Tv D f) (S : s_Sd D N) (h0 : 0 < N) (hB : N ≤ B) (hB2 : B < 2147483648) (hn : ∀ d u, d < 4 → u < 2 → ab d = 0 → n_ws s.1 (s_start d u) < N) : s_Sv B (m_com D ab s).2.1 ∧ (m_com D ab s).2.2.1 = s.2.1 ∧ (∀ d u, d < 4 → u < 2 → ab d = 0 → n_ws (m_com D ab s).2.1 (s_start d u) ≤ N) := by
  unfold m_com
  refine m_for_inv (I := fun i u => s_Sv B u.1 ∧ u.2.1 = s.2.1 ∧ (∀ d v, d < 4 → v < 2 → ab d = 0 → n_ws u.1 (s_start d v) ≤ N ∧ (i ≤ d → n_ws u.1 (s_start d v) < N))) (Q := fun o => s_Sv B o.2.1 ∧ o.2.2.1 = s.2.1 ∧ (∀ d u, d < 4 → u < 2 → ab d = 0 → n_ws o.2.1 (s_start d u) ≤ N)) 4 0 (fun i u h1 h2 ⟨h3, h4, h5⟩ => ?_) (fun u ⟨h3, h4, h5⟩ => ⟨h3, h4, fun d v a b c => (h5 d v a b c).1⟩) s ⟨V, rfl, fun d v a b c => ⟨Nat.le_of_lt (hn d v a b c), fun _ => hn d v a b c⟩⟩
  by_cases h : ¬ D (1 + i) = 0 ∧ ab i = 0
  · rw [if_pos h]
    obtain ⟨a1, a2, a3, a4, a5⟩ := m_wt_ok h3 (show i < 4 by omega) T S h0 hB hB2 ((h5 i 0 (by omega) (by omega) h.2).2 (Nat.le_refl i)) ((h5 i 1 (by omega) (by omega) h.2).2 (Nat.le_refl i))
    have hall : ∀ d v, d < 4 → v < 2 → ab d = 0 → n_ws (m_wt i D u).2.1 (s_start d v) ≤ N := fun d v q1 q2 q3 => by
      by_cases e : d = i
      · rw [e]
        exact a3 v q2
      · rw [a4 d v e q2]
        exact (h5 d v q1 q2 q3).1
    refine ⟨fun q => ⟨a1, a2.trans h4, fun d v q1 q2 q3 => ⟨hall d v q1 q2 q3, fun q4 => ?_⟩⟩, fun q => ⟨a1, a2.trans h4, hall⟩⟩
    rw [a4 d v (by omega) q2]
    exact (h5 d v q1 q2 q3).2 (by omega)
  · rw [if_neg h]
    exact ⟨fun q => ⟨h3, h4, fun d v q1 q2 q3 => ⟨(h5 d v q1 q2 q3).1, fun q4 => (h5 d v q1 q2 q3).2 (by omega)⟩⟩, fun q => absurd rfl q⟩
def p_slot (f : Nat → Int32) (d : Nat) : Nat := if s_ws f (s_start d 0) = 0 ∨ s_ws f (s_start d 1) = 0 then (if s_ws f (s_start d 0) = 0 then 0 else 1) else (if s_ws f (s_start d 0) < s_ws f (s_start d 1) then 0 else 1)
theorem p_slot_eq {f : Nat → Int32} {d : Nat} (h : n_ws f (s_start d 0) = n_ws f (s_start d 1) → n_ws f (s_start d 0) = 0) : p_slot f d = s_slot f d := by
  unfold p_slot s_slot
  rw [s_ws_eq f (s_start d 0), s_ws_eq f (s_start d 1)]
  have e0 : Int32.ofNat (n_ws f (s_start d 0)) = 0 ↔ n_ws f (s_start d 0) = 0 := xn_inj (b := 0) (n_ws_lt _ _) (by omega)
  have e1 : Int32.ofNat (n_ws f (s_start d 1)) = 0 ↔ n_ws f (s_start d 1) = 0 := xn_inj (b := 0) (n_ws_lt _ _) (by omega)
  have l1 := xn_lt (n_ws_lt f (s_start d 0)) (n_ws_lt f (s_start d 1))
  have l2 := xn_lt (n_ws_lt f (s_start d 1)) (n_ws_lt f (s_start d 0))
  simp only [e0, e1, l1, l2]
  repeat' split
  all_goals omega
def p_wt (d : Nat) (t : Nat → Int32) : s_M := fun s => m_for (fun i => m_sl (s_start d (p_slot s.1 d) + i) (t i)) 51 0 s
theorem p_wt_eq {d : Nat} {t : Nat → Int32} {s : s_S} (h : n_ws s.1 (s_start d 0) = n_ws s.1 (s_start d 1) → n_ws s.1 (s_start d 0) = 0) : p_wt d t s = m_wt d t s := by
  unfold p_wt m_wt
  rw [p_slot_eq h]
end XkWts
