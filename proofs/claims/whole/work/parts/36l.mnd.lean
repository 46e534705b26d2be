section XkMnd
def p_com (D ab : Nat → Int32) : s_M := m_for (fun d => if ¬ D (1 + d) = 0 ∧ ab d = 0 then p_wt d D else m_no) 4 0
theorem p_com_eq {B N : Nat} {D ab : Nat → Int32} {f : Nat → Nat} {s : s_S} (V : s_Sv B s.1) (T : s_Tv D f) (S : s_Sd D N) (h0 : 0 < N) (hB : N ≤ B) (hB2 : B < 2147483648) (hn : ∀ d u, d < 4 → u < 2 → ab d = 0 → n_ws s.1 (s_start d u) < N) : p_com D ab s = m_com D ab s := by
  symm
  unfold m_com p_com
  refine m_for_congr (I := fun i u => s_Sv B u.1 ∧ (∀ d v, d < 4 → v < 2 → ab d = 0 → i ≤ d → n_ws u.1 (s_start d v) < N)) 4 0 (fun i u h1 h2 ⟨h3, h5⟩ => ?_) s ⟨V, fun d v a b c _ => hn d v a b c⟩
  by_cases h : ¬ D (1 + i) = 0 ∧ ab i = 0
  · rw [if_pos h, if_pos h]
    obtain ⟨a1, a2, a3, a4, a5⟩ := m_wt_ok h3 (show i < 4 by omega) T S h0 hB hB2 (h5 i 0 (by omega) (by omega) h.2 (Nat.le_refl i)) (h5 i 1 (by omega) (by omega) h.2 (Nat.le_refl i))
    refine ⟨(p_wt_eq (h3.t i (by omega))).symm, fun q => ⟨a1, fun d v q1 q2 q3 q4 => ?_⟩⟩
    rw [a4 d v (by omega) q2]
    exact h5 d v q1 q2 q3 (by omega)
  · rw [if_neg h, if_neg h]
    exact ⟨rfl, fun _ => ⟨h3, fun d v q1 q2 q3 q4 => h5 d v q1 q2 q3 (by omega)⟩⟩
theorem p_com_On {B : Nat} {sl ab ta D0 : Nat → Int32} {f g : Nat → Nat} {n dN mN xN cN k : Nat} {s : s_S} (O : s_On B sl ab ta f n dN mN xN cN) (T : s_Tv D0 g) (hk : k = 1 ∨ k = 2) (hB : B + 2 < 2147483648) (hs : s.1 = sl) : p_com (s_seal D0 (Int32.ofNat (n + k))) ab s = m_com (s_seal D0 (Int32.ofNat (n + k))) ab s := by
  obtain ⟨V, hb, T0, ⟨N1, N2⟩, W, M1, M2, M3, M4⟩ := O
  exact p_com_eq (B := B + 2) (by rw [hs]; exact s_Sv_up (by omega) V) (s_seal_Tv T) s_seal_Sd (by omega) (by omega) hB (fun d u h1 h2 h3 => by
    rw [hs]
    have := W d u h1 h2 h3
    omega)
theorem m_seq_assoc (X Y Z : s_M) : m_seq (m_seq X Y) Z = m_seq X (m_seq Y Z) := by
  funext s
  unfold m_seq
  by_cases h : (X s).1 = true
  · rw [if_pos h, if_pos h]
  · rw [if_neg h, if_neg h, if_neg h]
theorem m_seq_no (X : s_M) : m_seq m_no X = X := by
  funext s
  unfold m_seq m_no
  rw [if_pos rfl]
theorem m_no_seq (X : s_M) : m_seq X m_no = X := by
  funext s
  unfold m_seq m_no
  by_cases h : (X s).1 = true
  · rw [if_pos h]
    exact (m_true h).symm
  · rw [if_neg h]
theorem m_for_pair (F : Nat → s_M) : ∀ n j, m_for F (2 * n) (2 * j) = m_for (fun e => m_seq (F (2 * e)) (F (2 * e + 1))) n j
  | 0, _ => rfl
  | n + 1, j => by
    show m_seq (F (2 * j)) (m_seq (F (2 * j + 1)) (m_for F (2 * n) (2 * j + 1 + 1))) = m_seq (m_seq (F (2 * j)) (F (2 * j + 1))) (m_for _ n (j + 1))
    rw [m_seq_assoc, ← m_for_pair F n (j + 1)]
    rfl
theorem m_for_nos {F : Nat → s_M} : ∀ n j, (∀ i, j ≤ i → i < j + n → F i = m_no) → m_for F n j = m_no
  | 0, _, _ => rfl
  | n + 1, j, h => by
    show m_seq (F j) (m_for F n (j + 1)) = m_no
    rw [h j (Nat.le_refl j) (by omega), m_seq_no]
    exact m_for_nos n (j + 1) (fun i h1 h2 => h i (by omega) (by omega))
theorem m_for_app (F : Nat → s_M) : ∀ a b j, m_for F (a + b) j = m_seq (m_for F a j) (m_for F b (j + a))
  | 0, b, j => by
    rw [Nat.zero_add]
    exact (m_seq_no _).symm
  | a + 1, b, j => by
    rw [show a + 1 + b = (a + b) + 1 by omega]
    show m_seq (F j) (m_for F (a + b) (j + 1)) = m_seq (m_seq (F j) (m_for F a (j + 1))) (m_for F b (j + (a + 1)))
    rw [m_seq_assoc, m_for_app F a b (j + 1), show j + 1 + a = j + (a + 1) by omega]
theorem m_for_ext {F G : Nat → s_M} : ∀ n j, (∀ i, j ≤ i → i < j + n → F i = G i) → m_for F n j = m_for G n j
  | 0, _, _ => rfl
  | n + 1, j, h => by
    show m_seq (F j) (m_for F n (j + 1)) = m_seq (G j) (m_for G n (j + 1))
    rw [h j (Nat.le_refl j) (by omega), m_for_ext n (j + 1) (fun i h1 h2 => h i (by omega) (by omega))]
theorem m_for_sl {F : Nat → s_M} (h : ∀ i s, (F i s).2.1 = s.1) (m j : Nat) (s : s_S) : (m_for F m j s).2.1 = s.1 :=
  m_for_inv (I := fun _ u => u.1 = s.1) (Q := fun o => o.2.1 = s.1) m j (fun i u _ _ q => ⟨fun _ => (h i u).trans q, fun _ => (h i u).trans q⟩) (fun u q => q) s rfl
theorem m_seq_sl {X Y : s_M} (hX : ∀ s, (X s).2.1 = s.1) (hY : ∀ s, (Y s).2.1 = s.1) (s : s_S) : (m_seq X Y s).2.1 = s.1 := by
  unfold m_seq
  by_cases h : (X s).1 = true
  · rw [if_pos h, hY, hX]
  · rw [if_neg h, hX]
theorem m_cp_sl (a b : Nat) (s : s_S) : (m_cp a b s).2.1 = s.1 := (m_ex_S _ _ s).1
def m_cle (g : Nat → Nat) (v k : Nat) : s_M := if g (9 + (v * 10 + k)) = 0 then m_no else m_for (fun w => m_ex ((g (9 + (v * 10 + k)) - 1) * 4 + w) 0) 4 0
theorem m_cle_sl (g : Nat → Nat) (v k : Nat) (s : s_S) : (m_cle g v k s).2.1 = s.1 := by
  unfold m_cle
  split
  · rfl
  · exact m_for_sl (fun i u => (m_ex_S _ _ u).1) 4 0 s
def n_tw (k : Nat) : Nat := if k % 2 = 0 then k + 1 else k - 1
def n_mnd (ab : Nat → Int32) (m x v : Nat) (f0 : Nat → Nat) : Nat → Nat → (Nat → Nat) → Nat → Option ((Nat → Nat) × Nat)
  | 0, _, f, c => some (f, c)
  | n + 1, k, f, c => if f0 (9 + (v * 10 + k)) = 0 ∧ f0 (9 + (v * 10 + n_tw k)) ≠ 0 then (if n_R f ab m x v k 4 < 32 then n_mnd ab m x v f0 n (k + 1) (n_up f (9 + (v * 10 + k)) (n_R f ab m x v k 4 + 1)) (c + 1) else none) else n_mnd ab m x v f0 n (k + 1) f c
def m_mnd (g f0 : Nat → Nat) (v k : Nat) : s_M := if g (9 + (v * 10 + k)) = f0 (9 + (v * 10 + k)) then m_no else m_for (fun w => m_cp ((g (9 + (v * 10 + k)) - 1) * 4 + w) ((f0 (9 + (v * 10 + n_tw k)) - 1) * 4 + w)) 4 0
theorem m_mnd_sl (g f0 : Nat → Nat) (v k : Nat) (s : s_S) : (m_mnd g f0 v k s).2.1 = s.1 := by
  unfold m_mnd
  split
  · rfl
  · exact m_for_sl (fun i u => m_cp_sl _ _ u) 4 0 s
theorem n_mnd_ok {ab : Nat → Int32} {m x v : Nat} {f0 : Nat → Nat} (hv : v < 4) (h3 : f0 (5 + v) % 4 = 3) : ∀ n k f c g c2, k + n ≤ 2 * (f0 (5 + v) / 32) → (∀ i, i < 9 → f i = f0 i) → (∀ i, k ≤ i → i < 10 → f (9 + (v * 10 + i)) = f0 (9 + (v * 10 + i))) → n_Tv f → n_tg f x → n_mnd ab m x v f0 n k f c = some (g, c2) → n_Tv g ∧ n_tg g x ∧ n_Kp f g v ∧ (∀ i, i < 10 → i < k ∨ k + n ≤ i → g (9 + (v * 10 + i)) = f (9 + (v * 10 + i))) ∧ (∀ i, k ≤ i → i < k + n → (g (9 + (v * 10 + i)) ≠ f0 (9 + (v * 10 + i)) ↔ (f0 (9 + (v * 10 + i)) = 0 ∧ f0 (9 + (v * 10 + n_tw i)) ≠ 0))) ∧ c ≤ c2 ∧ c2 ≤ c + n
  | 0, k, f, c, g, c2, _, _, _, T, hx, h => by
    have e : (f, c) = (g, c2) := Option.some.inj h
    obtain ⟨rfl, rfl⟩ := Prod.mk.inj e
    exact ⟨T, hx, ⟨fun _ _ => rfl, fun _ _ _ => rfl, fun _ _ _ => rfl⟩, fun _ _ _ => rfl, fun i h1 h2 => absurd h2 (by omega), Nat.le_refl c, Nat.le_refl c⟩
  | n + 1, k, f, c, g, c2, hk, h9, hz, T, hx, h => by
    have e5 : f (5 + v) = f0 (5 + v) := h9 _ (by omega)
    have h5 : f (5 + v) / 32 ≤ 5 := (s_dv_col _ (T.v v hv) (by omega)).2.2.2.2.1
    unfold n_mnd at h
    by_cases hc : f0 (9 + (v * 10 + k)) = 0 ∧ f0 (9 + (v * 10 + n_tw k)) ≠ 0
    · rw [if_pos hc] at h
      by_cases hr : n_R f ab m x v k 4 < 32
      · rw [if_pos hr] at h
        obtain ⟨r1, r2, r3⟩ := n_R_ok T.e hr
        generalize n_R f ab m x v k 4 = r at *
        have T2 : n_Tv (n_up f (9 + (v * 10 + k)) (r + 1)) := T.leg (by omega) hr r2 r1.1 (by
          rw [show (v * 10 + k) / 10 = v by omega, show (v * 10 + k) % 10 = k by omega, e5]
          exact ⟨by omega, .inr h3⟩)
        obtain ⟨a1, a2, ⟨a3, a4, a5⟩, a6, a7, a8, a9⟩ := n_mnd_ok hv h3 n (k + 1) _ (c + 1) g c2 (by omega) (fun i hi => by rw [n_up_ne (by omega), h9 i hi]) (fun i h1 h2 => by
          rw [n_up_ne (by omega)]
          exact hz i (by omega) (by omega)) T2 (n_tg_up hx r1.2) h
        refine ⟨a1, a2, ⟨fun i hi => ?_, fun j hj q => ?_, fun j hj q => ?_⟩, fun i hi q => ?_, fun i h1 h2 => ?_, by omega, by omega⟩
        · rw [a3 i hi, n_up_ne (by omega)]
        · by_cases s : j = v * 10 + k
          · rw [s, hz k (by omega) (by omega)] at q
            exact absurd hc.1 q
          · rw [a4 j hj (by rw [n_up_ne (by omega)]; exact q), n_up_ne (by omega)]
        · rw [a5 j hj q, n_up_ne (by omega)]
        · rw [a6 i hi (by omega), n_up_ne (by omega)]
        · by_cases s : i = k
          · rw [s, a4 (v * 10 + k) (by omega) (by rw [n_up_at]; omega), n_up_at]
            exact ⟨fun _ => hc, fun _ => by omega⟩
          · exact a7 i (by omega) (by omega)
      · rw [if_neg hr] at h
        cases h
    · rw [if_neg hc] at h
      obtain ⟨a1, a2, a3, a6, a7, a8, a9⟩ := n_mnd_ok hv h3 n (k + 1) f c g c2 (by omega) h9 (fun i h1 h2 => hz i (by omega) h2) T hx h
      refine ⟨a1, a2, a3, fun i hi q => a6 i hi (by omega), fun i h1 h2 => ?_, by omega, by omega⟩
      by_cases s : i = k
      · rw [s, a6 k (by omega) (by omega), hz k (by omega) (by omega)]
        exact ⟨fun q => absurd rfl q, fun q => absurd q hc⟩
      · exact a7 i (by omega) (by omega)
end XkMnd
