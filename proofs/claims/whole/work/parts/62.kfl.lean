section XkKfl
variable {sc : Nat × (Nat → Int32)} {sl ex ab ta dr : Nat → Int32} {md ml mt mc on ct : Int32} {r w : xk_W}
theorem k_clr {g : Nat → Nat} {m x v from_ lg E : Nat} {s : s_S} {y5 y6 : Value} {Φ : xk_R → Prop} (T : n_Tv g) (hv : v < 4) (hE : E = g (5 + v) / 32) (hf : from_ ≤ E) (hlg : (lg = 2 ∧ g (5 + v) % 4 = 3) ∨ (lg = 1 ∧ ¬ g (5 + v) % 4 = 3)) (hl : ∀ i, 2 * from_ ≤ i → i < 2 * (E) → (i % 2 = 0 ∨ g (5 + v) % 4 = 3) → g (9 + (v * 10 + i)) ≠ 0) (h1 : (m_for (m_cle g v) (2 * (E) - 2 * from_) (2 * from_) s).1 = true → ∀ y5 y6, xk_Po (xp_P sc) 97 54 [.ref 0, .int (Int32.ofNat v), .int (Int32.ofNat from_), .int (Int32.ofNat lg), .int (Int32.ofNat E), y5, y6] [] (cs ((m_for (m_cle g v) (2 * (E) - 2 * from_) (2 * from_) s).2) (ab) (ta) (s_mk ta g) (md) (n_ml m) (n_mt x) (mc) (on) r) Φ) (h0 : ¬ (m_for (m_cle g v) (2 * (E) - 2 * from_) (2 * from_) s).1 = true → Φ (.inr 0, 1, cl ((m_for (m_cle g v) (2 * (E) - 2 * from_) (2 * from_) s).2) ab ta (s_mk ta g) (mc) r)) : xk_Po (xp_P sc) 97 34 [.ref 0, .int (Int32.ofNat v), .int (Int32.ofNat from_), .int (Int32.ofNat lg), .int (Int32.ofNat E), y5, y6] [] (cs (s) (ab) (ta) (s_mk ta g) (md) (n_ml m) (n_mt x) (mc) (on) r) Φ := by
  have e32 := s_dv_32 _ (T.v v hv)
  refine xk_Po.go 2 rfl ?_
  have key : ∀ n e (y6 : Value) (u : s_S), e + n = E → from_ ≤ e → m_for (m_cle g v) (2 * n) (2 * e) u = m_for (m_cle g v) (2 * (E) - 2 * from_) (2 * from_) s → xk_Po (xp_P sc) 97 36 [.ref 0, .int (Int32.ofNat v), .int (Int32.ofNat from_), .int (Int32.ofNat lg), .int (Int32.ofNat E), .int (Int32.ofNat e), y6] [] (cs (u) (ab) (ta) (s_mk ta g) (md) (n_ml m) (n_mt x) (mc) (on) r) Φ := by
    intro n
    induction n with
    | zero =>
      intro e y6 u he hfe hm
      refine xk_Po.go 2 rfl ?_
      refine xk_Po.br rfl rfl (fun _ => ?_) (fun hZ => absurd ((xn_le (a := E) (b := e) (by omega) (by omega)).2 (by omega)) hZ)
      rw [← hm] at h1
      exact h1 rfl _ _
    | succ n ih =>
      intro e y6 u he hfe hm
      refine xk_Po.go 2 rfl ?_
      refine xk_Po.br rfl rfl (fun hZ => absurd ((xn_le (a := E) (b := e) (by omega) (by omega)).1 hZ) (by omega)) (fun _ => ?_)
      refine xk_Po.go 2 rfl ?_
      have hm : m_seq (m_cle g v (2 * e)) (m_seq (m_cle g v (2 * e + 1)) (m_for (m_cle g v) (2 * n) (2 * e + 2))) u = m_for (m_cle g v) (2 * (E) - 2 * from_) (2 * from_) s := hm
      have next : ∀ (y6 : Value) (u2 : s_S), m_for (m_cle g v) (2 * n) (2 * e + 2) u2 = m_for (m_cle g v) (2 * (E) - 2 * from_) (2 * from_) s → xk_Po (xp_P sc) 97 52 [.ref 0, .int (Int32.ofNat v), .int (Int32.ofNat from_), .int (Int32.ofNat lg), .int (Int32.ofNat E), .int (Int32.ofNat e), y6] [] (cs (u2) (ab) (ta) (s_mk ta g) (md) (n_ml m) (n_mt x) (mc) (on) r) Φ := by
        intro y6 u2 k1
        have hh := ih (e + 1) y6 u2 (by omega) (by omega) k1
        rw [← xn_suc e] at hh
        exact xk_Po.go 2 rfl hh
      have one : ∀ (l : Nat) (u2 : s_S), l < 2 → l < lg → ((m_cle g v (2 * e + l) u2).1 = true → xk_Po (xp_P sc) 97 41 [.ref 0, .int (Int32.ofNat v), .int (Int32.ofNat from_), .int (Int32.ofNat lg), .int (Int32.ofNat E), .int (Int32.ofNat e), .int (Int32.ofNat (l + 1))] [] (cs ((m_cle g v (2 * e + l) u2).2) (ab) (ta) (s_mk ta g) (md) (n_ml m) (n_mt x) (mc) (on) r) Φ) → (¬ (m_cle g v (2 * e + l) u2).1 = true → m_cle g v (2 * e + l) u2 = m_for (m_cle g v) (2 * (E) - 2 * from_) (2 * from_) s) → xk_Po (xp_P sc) 97 41 [.ref 0, .int (Int32.ofNat v), .int (Int32.ofNat from_), .int (Int32.ofNat lg), .int (Int32.ofNat E), .int (Int32.ofNat e), .int (Int32.ofNat l)] [] (cs (u2) (ab) (ta) (s_mk ta g) (md) (n_ml m) (n_mt x) (mc) (on) r) Φ := by
        intro l u2 hl2 hll hy hn2
        have hg := hl (2 * e + l) (by omega) (by omega) (by omega)
        have hlt := T.l (v * 10 + (2 * e + l)) (by omega)
        have em : m_cle g v (2 * e + l) = m_for (fun w => m_ex ((g (9 + (v * 10 + (2 * e + l))) - 1) * 4 + w) 0) 4 0 := if_neg hg
        refine xk_Po.go 2 rfl ?_
        refine xk_Po.br rfl rfl (fun hZ => absurd ((xn_le (a := lg) (b := l) (by omega) (by omega)).1 hZ) (by omega)) (fun _ => ?_)
        refine xk_Po.go 4 rfl ?_
        refine xk_Po.ci3 rfl rfl (c_legOfN) ?_
        rw [em] at hy hn2
        refine xk_Po.cm2 rfl rfl (c_clearLeg (s := u2) (j := v * 10 + e * 2 + l) (x := g (9 + (v * 10 + (2 * e + l))) - 1) (by omega) (by omega) (by
          rw [show v * 10 + e * 2 + l = v * 10 + (2 * e + l) by omega, s_mk_w _ _ (9 + (v * 10 + (2 * e + l))) (by omega) (by omega)]
          exact xn_sub (b := 1) (by omega))) rfl (fun q => ?_) (fun q => ?_)
        · have e2 := hn2 q
          rw [← e2] at h0
          exact h0 q
        · have hh := hy q
          rw [← xn_suc l] at hh
          exact xk_Po.go 2 rfl hh
      refine one 0 u (by omega) (by omega) (fun q => ?_) (fun q => by rw [← hm]; exact (if_neg q).symm)
      rw [show m_seq (m_cle g v (2 * e)) (m_seq (m_cle g v (2 * e + 1)) (m_for (m_cle g v) (2 * n) (2 * e + 2))) u = m_seq (m_cle g v (2 * e + 1)) (m_for (m_cle g v) (2 * n) (2 * e + 2)) (m_cle g v (2 * e) u).2 from if_pos q] at hm
      rcases hlg with ⟨z1, z2⟩ | ⟨z1, z2⟩
      · refine one 1 _ (by omega) (by omega) (fun q2 => ?_) (fun q2 => by rw [← hm]; exact (if_neg q2).symm)
        rw [show m_seq (m_cle g v (2 * e + 1)) (m_for (m_cle g v) (2 * n) (2 * e + 2)) (m_cle g v (2 * e) u).2 = m_for (m_cle g v) (2 * n) (2 * e + 2) (m_cle g v (2 * e + 1) (m_cle g v (2 * e) u).2).2 from if_pos q2] at hm
        refine xk_Po.go 2 rfl ?_
        refine xk_Po.br rfl rfl (fun _ => ?_) (fun hZ => absurd ((xn_le (a := lg) (b := 2) (by omega) (by omega)).2 (by omega)) hZ)
        exact next _ _ hm
      · have em : m_cle g v (2 * e + 1) = m_no := if_pos (Decidable.byContradiction (fun k => by
          have := T.g v (2 * e + 1) hv (by omega) k
          omega))
        rw [em, m_seq_no] at hm
        refine xk_Po.go 2 rfl ?_
        refine xk_Po.br rfl rfl (fun _ => ?_) (fun hZ => absurd ((xn_le (a := lg) (b := 1) (by omega) (by omega)).2 (by omega)) hZ)
        exact next _ _ hm
  exact key (E - from_) from_ _ s (by omega) (Nat.le_refl _) (by rw [show 2 * (E - from_) = 2 * (E) - 2 * from_ by omega])
theorem k_fill_n {f : Nat → Nat} {m x v from_ : Nat} {s : s_S} (hz : ∀ i, 51 ≤ i → ta i = 0) (T : n_Tv f) (hb : ∀ i, ab i = 0 ∨ ab i = 1) (hx : n_tg f x) (hm : m < 40 → f (9 + m) ≠ 0) (hv : v < 4) (h5 : f (5 + v) ≠ 0) (hf : from_ ≤ f (5 + v) / 32) (hl : ∀ i, 2 * from_ ≤ i → i < 10 → f (9 + (v * 10 + i)) = 0) (hn : n_fil ab m x v (2 * (f (5 + v) / 32) - 2 * from_) (2 * from_) f = none) : ∃ d2, (∀ i, 51 ≤ i → d2 i = 0) ∧ xk_Ev (xp_P sc) 97 0 [.ref 0, .int (Int32.ofNat v), .int (Int32.ofNat from_), .retAddr 0, .retAddr 0, .retAddr 0, .retAddr 0] [] (cs (s) (ab) (ta) (s_mk ta f) (md) (n_ml m) (n_mt x) (mc) (on) r) (.inr 2, 1, cs (s) (ab) (ta) (d2) (md) (n_ml m) (n_mt x) (mc) (on) r) := by
  have e32 := s_dv_32 _ (T.v v hv)
  have e4 := s_dv_4 _ (T.v v hv) h5
  have hk := d_kindOfN (sc := sc) (sl := s.1) (ex := s.2.1) (ab := ab) (ta := ta) (dr := s_mk ta f) (md := md) (ml := n_ml m) (mt := n_mt x) (mc := mc) (on := on) (ct := s.2.2) (r := r) hv
  have hel := d_elementsOfN (sc := sc) (sl := s.1) (ex := s.2.1) (ab := ab) (ta := ta) (dr := s_mk ta f) (md := md) (ml := n_ml m) (mt := n_mt x) (mc := mc) (on := on) (ct := s.2.2) (r := r) hv
  rw [s_mk_w _ _ (5 + v) (by omega) (by omega)] at hk hel
  rw [e4.2.1] at hk
  rw [e32.1] at hel
  suffices hh : xk_Po (xp_P sc) 97 0 [.ref 0, .int (Int32.ofNat v), .int (Int32.ofNat from_), .retAddr 0, .retAddr 0, .retAddr 0, .retAddr 0] [] (cs (s) (ab) (ta) (s_mk ta f) (md) (n_ml m) (n_mt x) (mc) (on) r) (fun z => ∃ d2, (∀ i, 51 ≤ i → d2 i = 0) ∧ z = (.inr 2, 1, cs (s) (ab) (ta) (d2) (md) (n_ml m) (n_mt x) (mc) (on) r)) by
    obtain ⟨z, z1, d2, z2, z3⟩ := hh
    rw [z3] at z1
    exact ⟨d2, z2, z1⟩
  refine xk_Po.go 3 rfl ?_
  refine xk_Po.ci2 rfl rfl hk ?_
  refine xk_Po.go 1 rfl ?_
  refine xk_Po.br rfl rfl (fun k0 => ?_) (fun k0 => ?_)
  · have k0 := e4_2 (by omega) k0
    refine xk_Po.go 6 rfl ?_
    refine xk_Po.ci2 rfl rfl hel ?_
    refine xk_Po.go 1 rfl ?_
    refine k_find (lg := 2) hz T hb hx hm hv h5 hf (.inl ⟨rfl, k0⟩) hl (fun g2 hg y5 y6 => ?_) (fun hg d2 z2 => ?_)
    · rw [hn] at hg
      cases hg
    · exact ⟨d2, z2, rfl⟩
  · have k0 : ¬ f (5 + v) % 4 = 3 := fun q => k0 (by rw [q]; rfl)
    refine xk_Po.go 5 rfl ?_
    refine xk_Po.ci2 rfl rfl hel ?_
    refine xk_Po.go 1 rfl ?_
    refine k_find (lg := 1) hz T hb hx hm hv h5 hf (.inr ⟨rfl, k0⟩) hl (fun g2 hg y5 y6 => ?_) (fun hg d2 z2 => ?_)
    · rw [hn] at hg
      cases hg
    · exact ⟨d2, z2, rfl⟩
theorem k_fill_1 {f : Nat → Nat} {m x v from_ : Nat} {s : s_S} (hz : ∀ i, 51 ≤ i → ta i = 0) (T : n_Tv f) (hb : ∀ i, ab i = 0 ∨ ab i = 1) (hx : n_tg f x) (hm : m < 40 → f (9 + m) ≠ 0) (hv : v < 4) (h5 : f (5 + v) ≠ 0) (hf : from_ ≤ f (5 + v) / 32) (hl : ∀ i, 2 * from_ ≤ i → i < 10 → f (9 + (v * 10 + i)) = 0) {g : Nat → Nat} (hn : n_fil ab m x v (2 * (f (5 + v) / 32) - 2 * from_) (2 * from_) f = some g) (Tg : n_Tv g) (K1 : ∀ i, i < 9 → g i = f i) (K4 : ∀ i, 2 * from_ ≤ i → i < 2 * (f (5 + v) / 32) → (i % 2 = 0 ∨ f (5 + v) % 4 = 3) → g (9 + (v * 10 + i)) ≠ 0) (hq : s_any (fun j => ¬ ta (1 + j) = 0 ∧ ¬ ab j = 0) 4 0 = 0) (ho : (m_seq (m_for (m_cle g v) (2 * (f (5 + v) / 32) - 2 * from_) (2 * from_)) (m_com (s_seal (s_mk ta g) (ta 0 + 1)) ab) s).1 = true) : xk_Ev (xp_P sc) 97 0 [.ref 0, .int (Int32.ofNat v), .int (Int32.ofNat from_), .retAddr 0, .retAddr 0, .retAddr 0, .retAddr 0] [] (cs (s) (ab) (ta) (s_mk ta f) (md) (n_ml m) (n_mt x) (mc) (on) r) (.inl none, 0, cs ((m_seq (m_for (m_cle g v) (2 * (f (5 + v) / 32) - 2 * from_) (2 * from_)) (m_com (s_seal (s_mk ta g) (ta 0 + 1)) ab) s).2) (ab) (s_seal (s_mk ta g) (ta 0 + 1)) (s_seal (s_mk ta g) (ta 0 + 1)) (md) ((s_ml (s_seal (s_mk ta g) (ta 0 + 1)) (n_ml m) (n_mt x)).1) ((s_ml (s_seal (s_mk ta g) (ta 0 + 1)) (n_ml m) (n_mt x)).2) (mc) (on) r) := by
  have e32 := s_dv_32 _ (T.v v hv)
  have e4 := s_dv_4 _ (T.v v hv) h5
  have hk := d_kindOfN (sc := sc) (sl := s.1) (ex := s.2.1) (ab := ab) (ta := ta) (dr := s_mk ta f) (md := md) (ml := n_ml m) (mt := n_mt x) (mc := mc) (on := on) (ct := s.2.2) (r := r) hv
  have hel := d_elementsOfN (sc := sc) (sl := s.1) (ex := s.2.1) (ab := ab) (ta := ta) (dr := s_mk ta f) (md := md) (ml := n_ml m) (mt := n_mt x) (mc := mc) (on := on) (ct := s.2.2) (r := r) hv
  rw [s_mk_w _ _ (5 + v) (by omega) (by omega)] at hk hel
  rw [e4.2.1] at hk
  rw [e32.1] at hel
  have hml : ¬ n_ml m = Int32.ofInt (-1) → ∃ j, j < 40 ∧ n_ml m = Int32.ofNat j := fun q => by
    by_cases k : m < 40
    · exact ⟨m, k, if_pos k⟩
    · exact absurd (if_neg k) q
  apply xk_Ev.of
  refine xk_Po.go 3 rfl ?_
  refine xk_Po.ci2 rfl rfl hk ?_
  refine xk_Po.go 1 rfl ?_
  refine xk_Po.br rfl rfl (fun k0 => ?_) (fun k0 => ?_)
  · have k0 := e4_2 (by omega) k0
    refine xk_Po.go 6 rfl ?_
    refine xk_Po.ci2 rfl rfl hel ?_
    refine xk_Po.go 1 rfl ?_
    refine k_find (lg := 2) hz T hb hx hm hv h5 hf (.inl ⟨rfl, k0⟩) hl (fun g2 hg y5 y6 => ?_) (fun hg d2 z2 => ?_)
    · rw [hn] at hg
      have hg := Option.some.inj hg
      subst hg
      have g5 : g (5 + v) = f (5 + v) := K1 _ (by omega)
      refine k_clr (lg := 2) (E := f (5 + v) / 32) (s := s) Tg hv (by rw [g5]) hf (.inl ⟨rfl, by rw [g5]; exact k0⟩) (fun i a1 a2 a3 => K4 i a1 a2 (by rw [g5] at a3; exact a3)) (fun q y5 y6 => ?_) (fun q => ?_)
      · refine xk_Po.go 0 rfl ?_
        refine xk_Po.go 1 rfl ?_
        refine xk_Po.cm1 rfl rfl (c_commitDraft1 (s := (m_for (m_cle g v) (2 * (f (5 + v) / 32) - 2 * from_) (2 * from_) s).2) hb hq hz (s_mk_z hz) hml) rfl (fun q2 => ?_) (fun q2 => ?_)
        · have eO : m_seq (m_for (m_cle g v) (2 * (f (5 + v) / 32) - 2 * from_) (2 * from_)) (m_com (s_seal (s_mk ta g) (ta 0 + 1)) ab) s = m_com (s_seal (s_mk ta g) (ta 0 + 1)) ab (m_for (m_cle g v) (2 * (f (5 + v) / 32) - 2 * from_) (2 * from_) s).2 := if_pos q
          rw [eO] at ho
          exact absurd ho q2
        · have eO : m_seq (m_for (m_cle g v) (2 * (f (5 + v) / 32) - 2 * from_) (2 * from_)) (m_com (s_seal (s_mk ta g) (ta 0 + 1)) ab) s = m_com (s_seal (s_mk ta g) (ta 0 + 1)) ab (m_for (m_cle g v) (2 * (f (5 + v) / 32) - 2 * from_) (2 * from_) s).2 := if_pos q
          rw [eO]
          refine xk_Po.go 0 rfl ?_
          exact xk_Po.ret rfl rfl
      · have eN : m_seq (m_for (m_cle g v) (2 * (f (5 + v) / 32) - 2 * from_) (2 * from_)) (m_com (s_seal (s_mk ta g) (ta 0 + 1)) ab) s = m_for (m_cle g v) (2 * (f (5 + v) / 32) - 2 * from_) (2 * from_) s := if_neg q
        rw [eN] at ho
        exact absurd ho q
    · rw [hn] at hg
      cases hg
  · have k0 : ¬ f (5 + v) % 4 = 3 := fun q => k0 (by rw [q]; rfl)
    refine xk_Po.go 5 rfl ?_
    refine xk_Po.ci2 rfl rfl hel ?_
    refine xk_Po.go 1 rfl ?_
    refine k_find (lg := 1) hz T hb hx hm hv h5 hf (.inr ⟨rfl, k0⟩) hl (fun g2 hg y5 y6 => ?_) (fun hg d2 z2 => ?_)
    · rw [hn] at hg
      have hg := Option.some.inj hg
      subst hg
      have g5 : g (5 + v) = f (5 + v) := K1 _ (by omega)
      refine k_clr (lg := 1) (E := f (5 + v) / 32) (s := s) Tg hv (by rw [g5]) hf (.inr ⟨rfl, by rw [g5]; exact k0⟩) (fun i a1 a2 a3 => K4 i a1 a2 (by rw [g5] at a3; exact a3)) (fun q y5 y6 => ?_) (fun q => ?_)
      · refine xk_Po.go 0 rfl ?_
        refine xk_Po.go 1 rfl ?_
        refine xk_Po.cm1 rfl rfl (c_commitDraft1 (s := (m_for (m_cle g v) (2 * (f (5 + v) / 32) - 2 * from_) (2 * from_) s).2) hb hq hz (s_mk_z hz) hml) rfl (fun q2 => ?_) (fun q2 => ?_)
        · have eO : m_seq (m_for (m_cle g v) (2 * (f (5 + v) / 32) - 2 * from_) (2 * from_)) (m_com (s_seal (s_mk ta g) (ta 0 + 1)) ab) s = m_com (s_seal (s_mk ta g) (ta 0 + 1)) ab (m_for (m_cle g v) (2 * (f (5 + v) / 32) - 2 * from_) (2 * from_) s).2 := if_pos q
          rw [eO] at ho
          exact absurd ho q2
        · have eO : m_seq (m_for (m_cle g v) (2 * (f (5 + v) / 32) - 2 * from_) (2 * from_)) (m_com (s_seal (s_mk ta g) (ta 0 + 1)) ab) s = m_com (s_seal (s_mk ta g) (ta 0 + 1)) ab (m_for (m_cle g v) (2 * (f (5 + v) / 32) - 2 * from_) (2 * from_) s).2 := if_pos q
          rw [eO]
          refine xk_Po.go 0 rfl ?_
          exact xk_Po.ret rfl rfl
      · have eN : m_seq (m_for (m_cle g v) (2 * (f (5 + v) / 32) - 2 * from_) (2 * from_)) (m_com (s_seal (s_mk ta g) (ta 0 + 1)) ab) s = m_for (m_cle g v) (2 * (f (5 + v) / 32) - 2 * from_) (2 * from_) s := if_neg q
        rw [eN] at ho
        exact absurd ho q
    · rw [hn] at hg
      cases hg
theorem k_fill_0 {f : Nat → Nat} {m x v from_ : Nat} {s : s_S} (hz : ∀ i, 51 ≤ i → ta i = 0) (T : n_Tv f) (hb : ∀ i, ab i = 0 ∨ ab i = 1) (hx : n_tg f x) (hm : m < 40 → f (9 + m) ≠ 0) (hv : v < 4) (h5 : f (5 + v) ≠ 0) (hf : from_ ≤ f (5 + v) / 32) (hl : ∀ i, 2 * from_ ≤ i → i < 10 → f (9 + (v * 10 + i)) = 0) {g : Nat → Nat} (hn : n_fil ab m x v (2 * (f (5 + v) / 32) - 2 * from_) (2 * from_) f = some g) (Tg : n_Tv g) (K1 : ∀ i, i < 9 → g i = f i) (K4 : ∀ i, 2 * from_ ≤ i → i < 2 * (f (5 + v) / 32) → (i % 2 = 0 ∨ f (5 + v) % 4 = 3) → g (9 + (v * 10 + i)) ≠ 0) (hq : s_any (fun j => ¬ ta (1 + j) = 0 ∧ ¬ ab j = 0) 4 0 = 0) (ho : ¬ (m_seq (m_for (m_cle g v) (2 * (f (5 + v) / 32) - 2 * from_) (2 * from_)) (m_com (s_seal (s_mk ta g) (ta 0 + 1)) ab) s).1 = true) : ∃ d2, (∀ i, 51 ≤ i → d2 i = 0) ∧ xk_Ev (xp_P sc) 97 0 [.ref 0, .int (Int32.ofNat v), .int (Int32.ofNat from_), .retAddr 0, .retAddr 0, .retAddr 0, .retAddr 0] [] (cs (s) (ab) (ta) (s_mk ta f) (md) (n_ml m) (n_mt x) (mc) (on) r) (.inr 0, 1, cl ((m_seq (m_for (m_cle g v) (2 * (f (5 + v) / 32) - 2 * from_) (2 * from_)) (m_com (s_seal (s_mk ta g) (ta 0 + 1)) ab) s).2) ab ta (d2) (mc) r) := by
  have e32 := s_dv_32 _ (T.v v hv)
  have e4 := s_dv_4 _ (T.v v hv) h5
  have hk := d_kindOfN (sc := sc) (sl := s.1) (ex := s.2.1) (ab := ab) (ta := ta) (dr := s_mk ta f) (md := md) (ml := n_ml m) (mt := n_mt x) (mc := mc) (on := on) (ct := s.2.2) (r := r) hv
  have hel := d_elementsOfN (sc := sc) (sl := s.1) (ex := s.2.1) (ab := ab) (ta := ta) (dr := s_mk ta f) (md := md) (ml := n_ml m) (mt := n_mt x) (mc := mc) (on := on) (ct := s.2.2) (r := r) hv
  rw [s_mk_w _ _ (5 + v) (by omega) (by omega)] at hk hel
  rw [e4.2.1] at hk
  rw [e32.1] at hel
  have hml : ¬ n_ml m = Int32.ofInt (-1) → ∃ j, j < 40 ∧ n_ml m = Int32.ofNat j := fun q => by
    by_cases k : m < 40
    · exact ⟨m, k, if_pos k⟩
    · exact absurd (if_neg k) q
  suffices hh : xk_Po (xp_P sc) 97 0 [.ref 0, .int (Int32.ofNat v), .int (Int32.ofNat from_), .retAddr 0, .retAddr 0, .retAddr 0, .retAddr 0] [] (cs (s) (ab) (ta) (s_mk ta f) (md) (n_ml m) (n_mt x) (mc) (on) r) (fun z => ∃ d2, (∀ i, 51 ≤ i → d2 i = 0) ∧ z = (.inr 0, 1, cl ((m_seq (m_for (m_cle g v) (2 * (f (5 + v) / 32) - 2 * from_) (2 * from_)) (m_com (s_seal (s_mk ta g) (ta 0 + 1)) ab) s).2) ab ta (d2) (mc) r)) by
    obtain ⟨z, z1, d2, z2, z3⟩ := hh
    rw [z3] at z1
    exact ⟨d2, z2, z1⟩
  refine xk_Po.go 3 rfl ?_
  refine xk_Po.ci2 rfl rfl hk ?_
  refine xk_Po.go 1 rfl ?_
  refine xk_Po.br rfl rfl (fun k0 => ?_) (fun k0 => ?_)
  · have k0 := e4_2 (by omega) k0
    refine xk_Po.go 6 rfl ?_
    refine xk_Po.ci2 rfl rfl hel ?_
    refine xk_Po.go 1 rfl ?_
    refine k_find (lg := 2) hz T hb hx hm hv h5 hf (.inl ⟨rfl, k0⟩) hl (fun g2 hg y5 y6 => ?_) (fun hg d2 z2 => ?_)
    · rw [hn] at hg
      have hg := Option.some.inj hg
      subst hg
      have g5 : g (5 + v) = f (5 + v) := K1 _ (by omega)
      refine k_clr (lg := 2) (E := f (5 + v) / 32) (s := s) Tg hv (by rw [g5]) hf (.inl ⟨rfl, by rw [g5]; exact k0⟩) (fun i a1 a2 a3 => K4 i a1 a2 (by rw [g5] at a3; exact a3)) (fun q y5 y6 => ?_) (fun q => ?_)
      · refine xk_Po.go 0 rfl ?_
        refine xk_Po.go 1 rfl ?_
        refine xk_Po.cm1 rfl rfl (c_commitDraft1 (s := (m_for (m_cle g v) (2 * (f (5 + v) / 32) - 2 * from_) (2 * from_) s).2) hb hq hz (s_mk_z hz) hml) rfl (fun q2 => ?_) (fun q2 => ?_)
        · have eO : m_seq (m_for (m_cle g v) (2 * (f (5 + v) / 32) - 2 * from_) (2 * from_)) (m_com (s_seal (s_mk ta g) (ta 0 + 1)) ab) s = m_com (s_seal (s_mk ta g) (ta 0 + 1)) ab (m_for (m_cle g v) (2 * (f (5 + v) / 32) - 2 * from_) (2 * from_) s).2 := if_pos q
          rw [eO]
          exact ⟨_, s_seal_z (s_mk_z hz), rfl⟩
        · have eO : m_seq (m_for (m_cle g v) (2 * (f (5 + v) / 32) - 2 * from_) (2 * from_)) (m_com (s_seal (s_mk ta g) (ta 0 + 1)) ab) s = m_com (s_seal (s_mk ta g) (ta 0 + 1)) ab (m_for (m_cle g v) (2 * (f (5 + v) / 32) - 2 * from_) (2 * from_) s).2 := if_pos q
          rw [eO] at ho
          exact absurd q2 ho
      · have eN : m_seq (m_for (m_cle g v) (2 * (f (5 + v) / 32) - 2 * from_) (2 * from_)) (m_com (s_seal (s_mk ta g) (ta 0 + 1)) ab) s = m_for (m_cle g v) (2 * (f (5 + v) / 32) - 2 * from_) (2 * from_) s := if_neg q
        rw [eN]
        exact ⟨_, s_mk_z hz, rfl⟩
    · rw [hn] at hg
      cases hg
  · have k0 : ¬ f (5 + v) % 4 = 3 := fun q => k0 (by rw [q]; rfl)
    refine xk_Po.go 5 rfl ?_
    refine xk_Po.ci2 rfl rfl hel ?_
    refine xk_Po.go 1 rfl ?_
    refine k_find (lg := 1) hz T hb hx hm hv h5 hf (.inr ⟨rfl, k0⟩) hl (fun g2 hg y5 y6 => ?_) (fun hg d2 z2 => ?_)
    · rw [hn] at hg
      have hg := Option.some.inj hg
      subst hg
      have g5 : g (5 + v) = f (5 + v) := K1 _ (by omega)
      refine k_clr (lg := 1) (E := f (5 + v) / 32) (s := s) Tg hv (by rw [g5]) hf (.inr ⟨rfl, by rw [g5]; exact k0⟩) (fun i a1 a2 a3 => K4 i a1 a2 (by rw [g5] at a3; exact a3)) (fun q y5 y6 => ?_) (fun q => ?_)
      · refine xk_Po.go 0 rfl ?_
        refine xk_Po.go 1 rfl ?_
        refine xk_Po.cm1 rfl rfl (c_commitDraft1 (s := (m_for (m_cle g v) (2 * (f (5 + v) / 32) - 2 * from_) (2 * from_) s).2) hb hq hz (s_mk_z hz) hml) rfl (fun q2 => ?_) (fun q2 => ?_)
        · have eO : m_seq (m_for (m_cle g v) (2 * (f (5 + v) / 32) - 2 * from_) (2 * from_)) (m_com (s_seal (s_mk ta g) (ta 0 + 1)) ab) s = m_com (s_seal (s_mk ta g) (ta 0 + 1)) ab (m_for (m_cle g v) (2 * (f (5 + v) / 32) - 2 * from_) (2 * from_) s).2 := if_pos q
          rw [eO]
          exact ⟨_, s_seal_z (s_mk_z hz), rfl⟩
        · have eO : m_seq (m_for (m_cle g v) (2 * (f (5 + v) / 32) - 2 * from_) (2 * from_)) (m_com (s_seal (s_mk ta g) (ta 0 + 1)) ab) s = m_com (s_seal (s_mk ta g) (ta 0 + 1)) ab (m_for (m_cle g v) (2 * (f (5 + v) / 32) - 2 * from_) (2 * from_) s).2 := if_pos q
          rw [eO] at ho
          exact absurd q2 ho
      · have eN : m_seq (m_for (m_cle g v) (2 * (f (5 + v) / 32) - 2 * from_) (2 * from_)) (m_com (s_seal (s_mk ta g) (ta 0 + 1)) ab) s = m_for (m_cle g v) (2 * (f (5 + v) / 32) - 2 * from_) (2 * from_) s := if_neg q
        rw [eN]
        exact ⟨_, s_mk_z hz, rfl⟩
    · rw [hn] at hg
      cases hg
end XkKfl
