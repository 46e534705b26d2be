section XkKfi
variable {sc : Nat × (Nat → Int32)} {sl ex ab ta dr : Nat → Int32} {md ml mt mc on ct : Int32} {r w : xk_W}
theorem k_give {f : Nat → Nat} {m x v e l : Nat} (hz : ∀ i, 51 ≤ i → ta i = 0) (T : n_Tv f) (hb : ∀ i, ab i = 0 ∨ ab i = 1) (hx : n_tg f x) (hm : m < 40 → f (9 + m) ≠ 0) (hv : v < 4) (h5 : f (5 + v) ≠ 0) (he : e < f (5 + v) / 32) (hl : l < 2) (hk : l = 0 ∨ f (5 + v) % 4 = 3) (hr : n_R f ab m x v (2 * e + l) 4 < 32) : xk_Ev (xp_P sc) 96 0 [.ref 0, .int (Int32.ofNat v), .int (Int32.ofNat e), .int (Int32.ofNat l), .retAddr 0] [] (cw sl ex ab ta (s_mk ta f) md (n_ml m) (n_mt x) mc on ct r) (.inl none, 0, cw sl ex ab ta (s_mk ta (n_up f (9 + (v * 10 + (2 * e + l))) (n_R f ab m x v (2 * e + l) 4 + 1))) md (n_ml m) (n_mt x) mc on ct r) := by
  have TE := s_mk_Tv T hz
  obtain ⟨c0, c1, c2, c3, c4, c5⟩ := s_dv_col _ (T.v v hv) h5
  have cu := c5 e he
  have hR := s_room_R (ab := ab) (m := m) (e := e) (l := l) (nt := 4) (b0 := 0) TE hx hv h5 he hl hk hm (n_bs_0 (fun d hd q => by omega))
  have hE : ∀ d, d < 4 → ∃ n, n ≤ 8 ∧ s_mk ta f (1 + d) = Int32.ofNat n := fun d hd => ⟨_, T.e d hd, s_mk_w ta f (1 + d) (by omega) (by omega)⟩
  have hw : s_col (s_mk ta f (5 + v)) = Int32.ofNat (f (5 + v) / 4 % 8) := by rw [s_mk_w ta f (5 + v) (by omega) (by omega)]; exact c0
  have h := c_giveRoom (sc := sc) (sl := sl) (ex := ex) (ab := ab) (ta := ta) (dr := s_mk ta f) (md := md) (ml := n_ml m) (mt := n_mt x) (mc := mc) (on := on) (ct := ct) (r := r) (v := v) (e := e) (l := l) (c := f (5 + v) / 4 % 8) hv (by omega) hl c1 c2 (by omega) hw hb hE (by rw [hR]; unfold n_mt; rw [if_pos hr]; exact n_ne1 (by omega))
  rw [hR, show n_mt (n_R f ab m x v (2 * e + l) 4) = Int32.ofNat (n_R f ab m x v (2 * e + l) 4) from if_pos hr, show Int32.ofNat (n_R f ab m x v (2 * e + l) 4) + 1 = Int32.ofNat (n_R f ab m x v (2 * e + l) 4 + 1) from xn_suc _, show v * 10 + e * 2 + l = v * 10 + (2 * e + l) by omega, s_mk_up (k := 9 + (v * 10 + (2 * e + l))) (by omega) (by omega)] at h
  exact h
theorem k_give_t {f : Nat → Nat} {m x v e l : Nat} (hz : ∀ i, 51 ≤ i → ta i = 0) (T : n_Tv f) (hb : ∀ i, ab i = 0 ∨ ab i = 1) (hx : n_tg f x) (hm : m < 40 → f (9 + m) ≠ 0) (hv : v < 4) (h5 : f (5 + v) ≠ 0) (he : e < f (5 + v) / 32) (hl : l < 2) (hk : l = 0 ∨ f (5 + v) % 4 = 3) (hr : ¬ n_R f ab m x v (2 * e + l) 4 < 32) : xk_Ev (xp_P sc) 96 0 [.ref 0, .int (Int32.ofNat v), .int (Int32.ofNat e), .int (Int32.ofNat l), .retAddr 0] [] (cw sl ex ab ta (s_mk ta f) md (n_ml m) (n_mt x) mc on ct r) (.inr 2, 1, cw sl ex ab ta (s_mk ta f) md (n_ml m) (n_mt x) mc on ct r) := by
  have TE := s_mk_Tv T hz
  obtain ⟨c0, c1, c2, c3, c4, c5⟩ := s_dv_col _ (T.v v hv) h5
  have cu := c5 e he
  have hR := s_room_R (ab := ab) (m := m) (e := e) (l := l) (nt := 4) (b0 := 0) TE hx hv h5 he hl hk hm (n_bs_0 (fun d hd q => by omega))
  have hE : ∀ d, d < 4 → ∃ n, n ≤ 8 ∧ s_mk ta f (1 + d) = Int32.ofNat n := fun d hd => ⟨_, T.e d hd, s_mk_w ta f (1 + d) (by omega) (by omega)⟩
  have hw : s_col (s_mk ta f (5 + v)) = Int32.ofNat (f (5 + v) / 4 % 8) := by rw [s_mk_w ta f (5 + v) (by omega) (by omega)]; exact c0
  exact c_giveRoom_t (sc := sc) (sl := sl) (ex := ex) (ab := ab) (ta := ta) (dr := s_mk ta f) (md := md) (ml := n_ml m) (mt := n_mt x) (mc := mc) (on := on) (ct := ct) (r := r) (v := v) (e := e) (l := l) (c := f (5 + v) / 4 % 8) hv (by omega) hl c1 c2 (by omega) hw hb hE (by rw [hR]; unfold n_mt; rw [if_neg hr]; rfl)
theorem k_find {f : Nat → Nat} {m x v from_ lg : Nat} {y5 y6 : Value} {Φ : xk_R → Prop} (hz : ∀ i, 51 ≤ i → ta i = 0) (T : n_Tv f) (hb : ∀ i, ab i = 0 ∨ ab i = 1) (hx : n_tg f x) (hm : m < 40 → f (9 + m) ≠ 0) (hv : v < 4) (h5 : f (5 + v) ≠ 0) (hf : from_ ≤ f (5 + v) / 32) (hlg : (lg = 2 ∧ f (5 + v) % 4 = 3) ∨ (lg = 1 ∧ ¬ f (5 + v) % 4 = 3)) (hl : ∀ i, 2 * from_ ≤ i → i < 10 → f (9 + (v * 10 + i)) = 0) (h1 : ∀ g, n_fil ab m x v (2 * (f (5 + v) / 32) - 2 * from_) (2 * from_) f = some g → ∀ y5 y6, xk_Po (xp_P sc) 97 34 [.ref 0, .int (Int32.ofNat v), .int (Int32.ofNat from_), .int (Int32.ofNat lg), .int (Int32.ofNat (f (5 + v) / 32)), y5, y6] [] (cw sl ex ab ta (s_mk ta g) md (n_ml m) (n_mt x) mc on ct r) Φ) (h0 : n_fil ab m x v (2 * (f (5 + v) / 32) - 2 * from_) (2 * from_) f = none → ∀ d2, (∀ i, 51 ≤ i → d2 i = 0) → Φ (.inr 2, 1, cw sl ex ab ta (d2) md (n_ml m) (n_mt x) mc on ct r)) : xk_Po (xp_P sc) 97 15 [.ref 0, .int (Int32.ofNat v), .int (Int32.ofNat from_), .int (Int32.ofNat lg), .int (Int32.ofNat (f (5 + v) / 32)), y5, y6] [] (cw sl ex ab ta (s_mk ta f) md (n_ml m) (n_mt x) mc on ct r) Φ := by
  have e32 := s_dv_32 _ (T.v v hv)
  refine xk_Po.go 2 rfl ?_
  have key : ∀ n e (q : Nat → Nat) (y6 : Value), e + n = f (5 + v) / 32 → (∀ i, i < 9 → q i = f i) → n_Tv q → n_tg q x → (m < 40 → q (9 + m) ≠ 0) → (∀ i, 2 * e ≤ i → i < 10 → q (9 + (v * 10 + i)) = 0) → n_fil ab m x v (2 * n) (2 * e) q = n_fil ab m x v (2 * (f (5 + v) / 32) - 2 * from_) (2 * from_) f → xk_Po (xp_P sc) 97 17 [.ref 0, .int (Int32.ofNat v), .int (Int32.ofNat from_), .int (Int32.ofNat lg), .int (Int32.ofNat (f (5 + v) / 32)), .int (Int32.ofNat e), y6] [] (cw sl ex ab ta (s_mk ta q) md (n_ml m) (n_mt x) mc on ct r) Φ := by
    intro n
    induction n with
    | zero =>
      intro e q y6 he hq Tq hxq hmq hlq hn
      refine xk_Po.go 2 rfl ?_
      refine xk_Po.br rfl rfl (fun _ => ?_) (fun hZ => absurd ((xn_le (a := f (5 + v) / 32) (b := e) (by omega) (by omega)).2 (by omega)) hZ)
      exact h1 q hn.symm _ _
    | succ n ih =>
      intro e q y6 he hq Tq hxq hmq hlq hn
      have q5 : q (5 + v) = f (5 + v) := hq _ (by omega)
      refine xk_Po.go 2 rfl ?_
      refine xk_Po.br rfl rfl (fun hZ => absurd ((xn_le (a := f (5 + v) / 32) (b := e) (by omega) (by omega)).1 hZ) (by omega)) (fun _ => ?_)
      refine xk_Po.go 2 rfl ?_
      have next : ∀ (y6 : Value) (q2 : Nat → Nat), (∀ i, i < 9 → q2 i = f i) → n_Tv q2 → n_tg q2 x → (m < 40 → q2 (9 + m) ≠ 0) → (∀ i, 2 * e + 2 ≤ i → i < 10 → q2 (9 + (v * 10 + i)) = 0) → n_fil ab m x v (2 * n) (2 * e + 2) q2 = n_fil ab m x v (2 * (f (5 + v) / 32) - 2 * from_) (2 * from_) f → xk_Po (xp_P sc) 97 32 [.ref 0, .int (Int32.ofNat v), .int (Int32.ofNat from_), .int (Int32.ofNat lg), .int (Int32.ofNat (f (5 + v) / 32)), .int (Int32.ofNat e), y6] [] (cw sl ex ab ta (s_mk ta q2) md (n_ml m) (n_mt x) mc on ct r) Φ := by
        intro y6 q2 a1 a2 a3 a4 a5 a6
        have hh := ih (e + 1) q2 y6 (by omega) a1 a2 a3 a4 (fun i k1 k2 => a5 i (by omega) k2) a6
        rw [← xn_suc e] at hh
        exact xk_Po.go 2 rfl hh
      have one : ∀ (l : Nat) (q2 : Nat → Nat), l < 2 → l < lg → (∀ i, i < 9 → q2 i = f i) → n_Tv q2 → n_tg q2 x → (m < 40 → q2 (9 + m) ≠ 0) → (∀ i, 2 * e + l ≤ i → i < 10 → q2 (9 + (v * 10 + i)) = 0) → (n_R q2 ab m x v (2 * e + l) 4 < 32 → xk_Po (xp_P sc) 97 22 [.ref 0, .int (Int32.ofNat v), .int (Int32.ofNat from_), .int (Int32.ofNat lg), .int (Int32.ofNat (f (5 + v) / 32)), .int (Int32.ofNat e), .int (Int32.ofNat (l + 1))] [] (cw sl ex ab ta (s_mk ta (n_up q2 (9 + (v * 10 + (2 * e + l))) (n_R q2 ab m x v (2 * e + l) 4 + 1))) md (n_ml m) (n_mt x) mc on ct r) Φ) → (¬ n_R q2 ab m x v (2 * e + l) 4 < 32 → n_fil ab m x v (2 * (f (5 + v) / 32) - 2 * from_) (2 * from_) f = none) → xk_Po (xp_P sc) 97 22 [.ref 0, .int (Int32.ofNat v), .int (Int32.ofNat from_), .int (Int32.ofNat lg), .int (Int32.ofNat (f (5 + v) / 32)), .int (Int32.ofNat e), .int (Int32.ofNat l)] [] (cw sl ex ab ta (s_mk ta q2) md (n_ml m) (n_mt x) mc on ct r) Φ := by
        intro l q2 hl2 hll a1 a2 a3 a4 a5 hy hn2
        have q5 : q2 (5 + v) = f (5 + v) := a1 _ (by omega)
        refine xk_Po.go 2 rfl ?_
        refine xk_Po.br rfl rfl (fun hZ => absurd ((xn_le (a := lg) (b := l) (by omega) (by omega)).1 hZ) (by omega)) (fun _ => ?_)
        refine xk_Po.go 4 rfl ?_
        by_cases hr : n_R q2 ab m x v (2 * e + l) 4 < 32
        · refine xk_Po.cv4 rfl rfl (k_give hz a2 hb a3 a4 hv (by rw [q5]; exact h5) (by rw [q5]; omega) hl2 (by rw [q5]; omega) hr) ?_
          have hh := hy hr
          rw [← xn_suc l] at hh
          exact xk_Po.go 2 rfl hh
        · exact xk_Po.ct4 rfl rfl (k_give_t hz a2 hb a3 a4 hv (by rw [q5]; exact h5) (by rw [q5]; omega) hl2 (by rw [q5]; omega) hr) rfl (h0 (hn2 hr) _ (s_mk_z hz))
      have s0 : n_fil ab m x v (2 * (n + 1)) (2 * e) q = if n_R q ab m x v (2 * e) 4 < 32 then n_fil ab m x v (2 * n + 1) (2 * e + 1) (n_up q (9 + (v * 10 + (2 * e))) (n_R q ab m x v (2 * e) 4 + 1)) else none := if_pos (.inl (by omega))
      refine one 0 q (by omega) (by omega) hq Tq hxq hmq hlq (fun hr => ?_) (fun hr => by rw [← hn, s0]; exact if_neg hr)
      rw [show 2 * e + 0 = 2 * e from rfl] at hr ⊢
      rw [s0, if_pos hr] at hn
      obtain ⟨r1, r2, r3⟩ := n_R_ok Tq.e hr
      generalize n_R q ab m x v (2 * e) 4 = R at *
      have TU : n_Tv (n_up q (9 + (v * 10 + 2 * e)) (R + 1)) := Tq.leg (by omega) hr r2 r1.1 (by
        rw [show (v * 10 + 2 * e) / 10 = v by omega, show (v * 10 + 2 * e) % 10 = 2 * e by omega, q5]
        exact ⟨by omega, .inl (by omega)⟩)
      have u5 : ∀ i, i < 9 → n_up q (9 + (v * 10 + 2 * e)) (R + 1) i = f i := fun i hi => by rw [n_up_ne (by omega)]; exact hq i hi
      have ux := n_tg_up (j := v * 10 + 2 * e) hxq r1.2
      have um : m < 40 → n_up q (9 + (v * 10 + 2 * e)) (R + 1) (9 + m) ≠ 0 := fun k => by
        by_cases z : m = v * 10 + 2 * e
        · rw [z, n_up_at]
          omega
        · rw [n_up_ne (by omega)]
          exact hmq k
      have ul : ∀ i, 2 * e + 1 ≤ i → i < 10 → n_up q (9 + (v * 10 + 2 * e)) (R + 1) (9 + (v * 10 + i)) = 0 := fun i k1 k2 => by
        rw [n_up_ne (by omega)]
        exact hlq i (by omega) k2
      have uv : n_up q (9 + (v * 10 + 2 * e)) (R + 1) (5 + v) = f (5 + v) := u5 _ (by omega)
      generalize n_up q (9 + (v * 10 + 2 * e)) (R + 1) = q2 at *
      rcases hlg with ⟨z1, z2⟩ | ⟨z1, z2⟩
      · have s1 : n_fil ab m x v (2 * n + 1) (2 * e + 1) q2 = if n_R q2 ab m x v (2 * e + 1) 4 < 32 then n_fil ab m x v (2 * n) (2 * e + 2) (n_up q2 (9 + (v * 10 + (2 * e + 1))) (n_R q2 ab m x v (2 * e + 1) 4 + 1)) else none := if_pos (.inr (by rw [uv]; exact z2))
        refine one 1 q2 (by omega) (by omega) u5 TU ux um ul (fun hr2 => ?_) (fun hr2 => by rw [← hn, s1]; exact if_neg hr2)
        rw [s1, if_pos hr2] at hn
        obtain ⟨p1, p2, p3⟩ := n_R_ok TU.e hr2
        generalize n_R q2 ab m x v (2 * e + 1) 4 = R2 at *
        refine xk_Po.go 2 rfl ?_
        refine xk_Po.br rfl rfl (fun _ => ?_) (fun hZ => absurd ((xn_le (a := lg) (b := 2) (by omega) (by omega)).2 (by omega)) hZ)
        refine next _ _ (fun i hi => by rw [n_up_ne (by omega)]; exact u5 i hi) (TU.leg (by omega) hr2 p2 p1.1 (by
          rw [show (v * 10 + (2 * e + 1)) / 10 = v by omega, show (v * 10 + (2 * e + 1)) % 10 = 2 * e + 1 by omega, uv]
          exact ⟨by omega, .inr z2⟩)) (n_tg_up ux p1.2) (fun k => ?_) (fun i k1 k2 => ?_) hn
        · by_cases z : m = v * 10 + (2 * e + 1)
          · rw [z, n_up_at]
            omega
          · rw [n_up_ne (by omega)]
            exact um k
        · rw [n_up_ne (by omega)]
          exact ul i (by omega) k2
      · have s1 : n_fil ab m x v (2 * n + 1) (2 * e + 1) q2 = n_fil ab m x v (2 * n) (2 * e + 2) q2 := if_neg (fun k => k.elim (fun k => by omega) (fun k => z2 (by rw [← uv]; exact k)))
        rw [s1] at hn
        refine xk_Po.go 2 rfl ?_
        refine xk_Po.br rfl rfl (fun _ => ?_) (fun hZ => absurd ((xn_le (a := lg) (b := 1) (by omega) (by omega)).2 (by omega)) hZ)
        exact next _ q2 u5 TU ux um (fun i k1 k2 => ul i (by omega) k2) hn
  exact key (f (5 + v) / 32 - from_) from_ f _ (by omega) (fun _ _ => rfl) T hx hm hl (by rw [show 2 * (f (5 + v) / 32 - from_) = 2 * (f (5 + v) / 32) - 2 * from_ by omega])
end XkKfi
