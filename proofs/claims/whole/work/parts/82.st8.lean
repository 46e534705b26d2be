section XkSt8
theorem t_4 {sc : Nat × (Nat → Int32)} {i B : Nat} {th : Int32} {ou : Nat → Int64} {W : xk_W} {y5 y6 : Value} {Φ : xk_R → Prop} (h : s_R B th ou W) (hB : B + 2 < 2147483648) (hi : i + 3 < sc.1) (hn0 : sc.1 < 2147483648) (K : s_K sc i B Φ) : xk_Po (xp_P sc) 180 158 [.ref 999, .ref 0, .ref 10, .ref 16, .int (Int32.ofNat i), y5, y6] [] W Φ := by
  rcases h with ⟨sl, ex, ab, ta, dr, nx, f, n, dN, mN, xN, cN, mc, ct, cv, cg, cT, cp, hd, hx, N, rfl⟩ | ⟨sl, ex, ab, ta, dr, nx, mc, cv, cg, cT, cp, hd, hx, hz, V, hb, hA, rfl⟩
  · have O := N.1
    have T := O.2.2.1
    have hb := O.2.1
    obtain ⟨hC, hQ⟩ := N.cp
    rcases n_dk (sc.2 (i + 1)) with hg | ⟨v, hv, e1⟩
    · refine l_4 hi hn0 (k := 2) (q := 1) (ou1 := ou) (b := 0) (fun z => absurd z (by decide)) ?_ ?_ (K 1 2 _ _ _ _ (by omega) (R_on (ou := ou) (sl := sl) (ex := ex) (ab := ab) (ta := ta) (dr := dr) (nx := nx) (f := f) (n := n) (dN := dN) (mN := mN) (xN := xN) (cN := cN) (mc := mc) (ct := ct) (cv := cv) (cg := cg) (cT := cT) (cp := cp) (by omega) hd hx N))
      · exact h_grow_t (k_grow_nv hg) rfl
      · simp only [fw_eq]; exact r_grow_nv hg
    · by_cases hu : ta (5 + v) = 0
      · refine l_4 hi hn0 (k := 2) (q := 1) (ou1 := ou) (b := 0) (fun z => absurd z (by decide)) ?_ ?_ (K 1 2 _ _ _ _ (by omega) (R_on (ou := ou) (sl := sl) (ex := ex) (ab := ab) (ta := ta) (dr := dr) (nx := nx) (f := f) (n := n) (dN := dN) (mN := mN) (xN := xN) (cN := cN) (mc := mc) (ct := ct) (cv := cv) (cg := cg) (cT := cT) (cp := cp) (by omega) hd hx N))
        · rw [e1]; exact h_grow_t (k_grow_uv hv hu) rfl
        · rw [e1]; simp only [fw_eq]; exact r_grow_uv hv hu
      · have h5 : f (5 + v) ≠ 0 := fun z => hu ((n_vol T hv).2 z)
        obtain ⟨M1, M2, M3, M4⟩ := O.2.2.2.2.2
        have e5 := (s_dv_32 _ (T.v v hv)).2
        obtain ⟨_, c1, c2, _, _, _⟩ := s_dv_col _ (T.v v hv) h5
        obtain ⟨cn1, cn2⟩ := n_c1 c1 c2
        by_cases h0 : (sc.2 (i + 2)) < Int32.ofInt 1
        · refine l_4 hi hn0 (k := 3) (q := 1) (ou1 := ou) (b := 0) (fun z => absurd z (by decide)) ?_ ?_ (K 1 3 _ _ _ _ (by omega) (R_on (ou := ou) (sl := sl) (ex := ex) (ab := ab) (ta := ta) (dr := dr) (nx := nx) (f := f) (n := n) (dN := dN) (mN := mN) (xN := xN) (cN := cN) (mc := mc) (ct := ct) (cv := cv) (cg := cg) (cT := cT) (cp := cp) (by omega) hd hx N))
          · rw [e1]; exact h_grow_t (k_grow_lo hv hu T h5 h0) rfl
          · rw [e1]; simp only [fw_eq]; exact r_grow_lo hv hu T h0
        · by_cases h1 : Int32.ofInt 5 < (sc.2 (i + 2))
          · refine l_4 hi hn0 (k := 3) (q := 1) (ou1 := ou) (b := 0) (fun z => absurd z (by decide)) ?_ ?_ (K 1 3 _ _ _ _ (by omega) (R_on (ou := ou) (sl := sl) (ex := ex) (ab := ab) (ta := ta) (dr := dr) (nx := nx) (f := f) (n := n) (dN := dN) (mN := mN) (xN := xN) (cN := cN) (mc := mc) (ct := ct) (cv := cv) (cg := cg) (cT := cT) (cp := cp) (by omega) hd hx N))
            · rw [e1]; exact h_grow_t (k_grow_hi hv hu T h5 h0 h1) rfl
            · rw [e1]; simp only [fw_eq]; exact r_grow_hi hv hu T h0 h1
          · obtain ⟨k, hk6, hk1, e2⟩ := n_le6 h0 h1
            rw [e2] at h0 h1
            have fit := n_fits (m := Int32.ofNat (f (5 + v) / 32) + Int32.ofNat k) cn1
            by_cases hf : (¬ (Int32.ofNat (f (5 + v) / 32) + Int32.ofNat k) < Int32.ofInt 1 ∧ ¬ Int32.ofInt 5 < (Int32.ofNat (f (5 + v) / 32) + Int32.ofNat k) ∧ ¬ Int32.ofNat (f (5 + v) / 4 % 8) < Int32.ofInt 1 ∧ (Int32.ofNat (f (5 + v) / 32) + Int32.ofNat k) % Int32.ofNat (f (5 + v) / 4 % 8) = 0)
            · by_cases hq : n_all f ab
              · have hk : f (5 + v) / 32 + k < 6 := by rcases Nat.lt_or_ge (f (5 + v) / 32 + k) 6 with z | z; exact z; exact absurd (by rw [xn_add]; exact (xn_lt (a := 5) (by omega) (by omega)).2 (by omega)) hf.2.1
                have kc : (f (5 + v) / 32 + k) % (f (5 + v) / 4 % 8) = 0 := by have : ∀ c, c < 4 → 1 ≤ c → ∀ k, k < 6 → Int32.ofNat k % Int32.ofNat c = 0 → k % c = 0 := (by decide); exact this _ c2 c1 _ hk (by rw [← xn_add]; exact hf.2.2.2)
                have d2 := s_dv_D2 _ (T.v v hv) h5 _ hk
                have T1 : n_Tv (n_up f (5 + v) (n_D (f (5 + v)) (f (5 + v) / 32 + k))) := T.n.desc hv (s_dv_D3 _ (T.v v hv) h5 _ hk (by omega) kc) (fun i hi z => by obtain ⟨q1, q2⟩ := T.g v i hv hi z; rw [d2.1, d2.2.1]; exact ⟨by omega, q2⟩)
                have hel : f (5 + v) / 32 ≤ (n_up f (5 + v) (n_D (f (5 + v)) (f (5 + v) / 32 + k))) (5 + v) / 32 := by rw [n_up_at, d2.1]; omega
                have hx1 : n_tg (n_up f (5 + v) (n_D (f (5 + v)) (f (5 + v) / 32 + k))) xN := fun z => by obtain ⟨q1, q2⟩ := M4 z; exact ⟨by rw [n_up_ne (by omega)]; exact q1, fun ⟨i, k1, k2⟩ => q2 ⟨i, k1, by rw [n_up_ne (by omega)] at k2; exact k2⟩⟩
                have e0 : ta 0 + 1 = Int32.ofNat (n + 1) := by rw [O.2.2.2.1.1]; exact xn_add n 1
                obtain ⟨a, b, ha, hb2, hcv, hcg, hab⟩ := id N.2.1
                cases hn : n_fil ab mN xN v (2 * ((n_up f (5 + v) (n_D (f (5 + v)) (f (5 + v) / 32 + k))) (5 + v) / 32) - 2 * (f (5 + v) / 32)) (2 * (f (5 + v) / 32)) (n_up f (5 + v) (n_D (f (5 + v)) (f (5 + v) / 32 + k))) with
                | none =>
                  obtain ⟨d2, z2, cl⟩ := k_grow_nr (sc := sc) (dr := dr) (md := n_md dN) (mc := mc) (r := mrr th (n_pr ab) sl ex ta nx 1 ct (n_md dN) cv cg cT cp ou) (m := mN) (x := xN) (s := (sl, ex, ct)) hv hu T h5 hk h0 h1 hf hb ((s_absent T).2 hq) hd T1 M4 (fun z => (M2 z).2.1) hn
                  obtain ⟨n2, y2, ml⟩ := r_grow_nr (sc := sc) (p := c10 sl ex ab ta d2 (n_md dN) (n_ml mN) (n_mt xN) mc 1 ct) (th := th) (pr := n_pr ab) (sl := sl) (ex := ex) (ta := ta) (nx := nx) (lf := ct) (mo := n_md dN) (cv := cv) (cg := cg) (cT := cT) (cp := cp) (r := [.inl (2, 1, .inr (ou))]) hv hu h5 cn2 hk6 h0 h1 (fun z => fit.1 z hf) ((p_abs_eq T 4 (by omega)).2 hq) O hB rfl hx ha hb2 hcv hcg hC hQ T1 hel hn
                  refine l_4 hi hn0 (k := 4) (q := 1) (ou1 := ou) (b := 0) (fun z => absurd z (by decide)) ?_ ?_ (K 1 4 _ _ _ _ (by omega) (R_on (ou := ou) (sl := sl) (ex := ex) (ab := ab) (ta := ta) (dr := d2) (nx := n2) (f := f) (n := n) (dN := dN) (mN := mN) (xN := xN) (cN := cN) (mc := mc) (ct := ct) (cv := cv) (cg := cg) (cT := cT) (cp := cp) (by omega) z2 y2 N))
                  · rw [e1, e2]; exact h_grow_t cl rfl
                  · rw [e1, e2]; simp only [fw_eq]; exact ml
                | some g =>
                  obtain ⟨Tg, Gx, ⟨P1, P2, P3⟩, P4, P5⟩ := n_fil_ok hv _ _ _ g (by omega) (fun i h1 h2 => by have q5 := (s_dv_32 _ (T1.v v hv)).2; rw [n_up_ne (by omega)]; exact Decidable.byContradiction (fun z => by have := T.g v i hv (by omega) z; omega)) T1 hx1 hn
                  have K4 : ∀ i, 2 * (f (5 + v) / 32) ≤ i → i < 2 * ((n_up f (5 + v) (n_D (f (5 + v)) (f (5 + v) / 32 + k))) (5 + v) / 32) → (i % 2 = 0 ∨ (n_up f (5 + v) (n_D (f (5 + v)) (f (5 + v) / 32 + k))) (5 + v) % 4 = 3) → g (9 + (v * 10 + i)) ≠ 0 := fun i a1 a2 a3 => P5 i a1 (by omega) a3
                  have TG := s_mk_Tv Tg T.z
                  have g5 : g (5 + v) = (n_up f (5 + v) (n_D (f (5 + v)) (f (5 + v) / 32 + k))) (5 + v) := P1 _ (by omega)
                  have hg5 : f (5 + v) / 32 ≤ g (5 + v) / 32 := by rw [g5]; exact hel
                  have hX : ∀ s : s_S, (m_for (m_cle g v) (2 * ((n_up f (5 + v) (n_D (f (5 + v)) (f (5 + v) / 32 + k))) (5 + v) / 32) - 2 * (f (5 + v) / 32)) (2 * (f (5 + v) / 32)) s).2.1 = s.1 := fun s => m_for_sl (fun i s => m_cle_sl g v i s) _ _ s
                  have g9 : ∀ i, i < 9 → i ≠ 5 + v → g i = f i := fun i h1 h2 => by rw [P1 i h1, n_up_ne h2]
                  have H1 : dN < 4 → n_all g ab := fun _ e he hne => hq e he (by rw [← g9 (1 + e) (by omega) (by omega)]; exact hne)
                  have H3 : mN < 40 → g (9 + mN) = f (9 + mN) ∨ g (9 + mN) = 0 := fun z => .inl (by rw [P2 mN z (by rw [n_up_ne (by omega)]; exact (M2 z).2.1), n_up_ne (by omega)])
                  by_cases ho : (m_seq (m_for (m_cle g v) (2 * ((n_up f (5 + v) (n_D (f (5 + v)) (f (5 + v) / 32 + k))) (5 + v) / 32) - 2 * (f (5 + v) / 32)) (2 * (f (5 + v) / 32))) (m_com (s_seal (s_mk ta g) (Int32.ofNat (n + 1))) ab) (sl, ex, ct)).1 = true
                  · have cl := k_grow_1 (sc := sc) (dr := dr) (md := n_md dN) (mc := mc) (r := mrr th (n_pr ab) sl ex ta nx 1 ct (n_md dN) cv cg cT cp ou) (m := mN) (x := xN) (s := (sl, ex, ct)) hv hu T h5 hk h0 h1 hf hb ((s_absent T).2 hq) hd T1 M4 (fun z => (M2 z).2.1) hn Tg P1 K4 (by rw [e0]; exact ho)
                    rw [e0, s_ml_eq (s_seal_Tv TG)] at cl
                    have ml := r_grow1 (sc := sc) (p := c10 (m_seq (m_for (m_cle g v) (2 * ((n_up f (5 + v) (n_D (f (5 + v)) (f (5 + v) / 32 + k))) (5 + v) / 32) - 2 * (f (5 + v) / 32)) (2 * (f (5 + v) / 32))) (m_com (s_seal (s_mk ta g) (Int32.ofNat (n + 1))) ab) (sl, ex, ct)).2.1 (m_seq (m_for (m_cle g v) (2 * ((n_up f (5 + v) (n_D (f (5 + v)) (f (5 + v) / 32 + k))) (5 + v) / 32) - 2 * (f (5 + v) / 32)) (2 * (f (5 + v) / 32))) (m_com (s_seal (s_mk ta g) (Int32.ofNat (n + 1))) ab) (sl, ex, ct)).2.2.1 ab (s_seal (s_mk ta g) (Int32.ofNat (n + 1))) (s_seal (s_mk ta g) (Int32.ofNat (n + 1))) (n_md dN) (n_ml (n_mx g mN xN).1) (n_mt (n_mx g mN xN).2) mc 1 (m_seq (m_for (m_cle g v) (2 * ((n_up f (5 + v) (n_D (f (5 + v)) (f (5 + v) / 32 + k))) (5 + v) / 32) - 2 * (f (5 + v) / 32)) (2 * (f (5 + v) / 32))) (m_com (s_seal (s_mk ta g) (Int32.ofNat (n + 1))) ab) (sl, ex, ct)).2.2.2) (th := th) (pr := n_pr ab) (sl := sl) (ex := ex) (ta := ta) (nx := nx) (lf := ct) (mo := n_md dN) (cv := cv) (cg := cg) (cT := cT) (cp := cp) (r := [.inl (2, 1, .inr (vp_updL ou 0 (Int32.ofNat (f (5 + v) / 32) + Int32.ofNat k).toInt64))]) hv hu h5 cn2 hk6 h0 h1 (fun z => fit.1 z hf) ((p_abs_eq T 4 (by omega)).2 hq) O hB rfl hx ha hb2 hcv hcg hC hQ T1 hel hn Tg hg5 hq (by rw [m_b_seq, m_b_on, g5]; exact ho)
                    rw [m_b_seq, m_b_on, g5] at ml
                    refine l_4 hi hn0 (k := 0) (q := 0) (ou1 := vp_updL ou 0 (Int32.ofNat (f (5 + v) / 32) + Int32.ofNat k).toInt64) (b := Int32.ofNat (f (5 + v) / 32) + Int32.ofNat k) (fun _ => if_pos rfl) ?_ ?_ (K 0 0 _ _ _ _ (by omega) (R_seq (ou := vp_updL ou 0 (Int32.ofNat (f (5 + v) / 32) + Int32.ofNat k).toInt64) (X := m_for (m_cle g v) (2 * ((n_up f (5 + v) (n_D (f (5 + v)) (f (5 + v) / 32 + k))) (5 + v) / 32) - 2 * (f (5 + v) / 32)) (2 * (f (5 + v) / 32))) (s := (sl, ex, ct)) (k := 1) (a := a) (b := b) N hB rfl hX TG (.inl rfl) H1 (fun _ _ => Gx) (fun z => by have := hab z; omega) H3 ho))
                    · rw [e1, e2]; exact h_grow cl
                    · rw [e1, e2]; simp only [fw_eq]; exact ml
                  · obtain ⟨d2, z2, cl⟩ := k_grow_0 (sc := sc) (dr := dr) (md := n_md dN) (mc := mc) (r := mrr th (n_pr ab) sl ex ta nx 1 ct (n_md dN) cv cg cT cp ou) (m := mN) (x := xN) (s := (sl, ex, ct)) hv hu T h5 hk h0 h1 hf hb ((s_absent T).2 hq) hd T1 M4 (fun z => (M2 z).2.1) hn Tg P1 K4 (by rw [e0]; exact ho)
                    rw [e0] at cl
                    have ml := r_grow0 (sc := sc) (p := c10 (m_seq (m_for (m_cle g v) (2 * ((n_up f (5 + v) (n_D (f (5 + v)) (f (5 + v) / 32 + k))) (5 + v) / 32) - 2 * (f (5 + v) / 32)) (2 * (f (5 + v) / 32))) (m_com (s_seal (s_mk ta g) (Int32.ofNat (n + 1))) ab) (sl, ex, ct)).2.1 (m_seq (m_for (m_cle g v) (2 * ((n_up f (5 + v) (n_D (f (5 + v)) (f (5 + v) / 32 + k))) (5 + v) / 32) - 2 * (f (5 + v) / 32)) (2 * (f (5 + v) / 32))) (m_com (s_seal (s_mk ta g) (Int32.ofNat (n + 1))) ab) (sl, ex, ct)).2.2.1 ab ta d2 (-1) (-1) (-1) mc 0 (-1)) (th := th) (pr := n_pr ab) (sl := sl) (ex := ex) (ta := ta) (nx := nx) (lf := ct) (mo := n_md dN) (cv := cv) (cg := cg) (cT := cT) (cp := cp) (r := [.inl (2, 1, .inr (ou))]) hv hu h5 cn2 hk6 h0 h1 (fun z => fit.1 z hf) ((p_abs_eq T 4 (by omega)).2 hq) O hB rfl hx ha hb2 hcv hcg hC hQ T1 hel hn Tg hg5 hq (by rw [m_b_seq, m_b_on, g5]; exact ho)
                    rw [m_b_seq, m_b_on, g5] at ml
                    refine l_4 hi hn0 (k := 1) (q := 1) (ou1 := ou) (b := 0) (fun z => absurd z (by decide)) ?_ ?_ (K 1 1 ou _ _ _ (by omega) (R_cut (o := m_seq (m_for (m_cle g v) (2 * ((n_up f (5 + v) (n_D (f (5 + v)) (f (5 + v) / 32 + k))) (5 + v) / 32) - 2 * (f (5 + v) / 32)) (2 * (f (5 + v) / 32))) (m_com (s_seal (s_mk ta g) (Int32.ofNat (n + 1))) ab) (sl, ex, ct)) (mc2 := mc) (cp2 := cp) (cT2 := cT) (dr := d2) (nx := s_seal (s_mk ta g) (Int32.ofNat (n + 1))) N (V_seq O hB rfl hX TG (.inl rfl)) z2 (s_seal_z TG.z)))
                    · rw [e1, e2]; exact h_grow_t cl rfl
                    · rw [e1, e2]; simp only [fw_eq]; exact ml
              · refine l_4 hi hn0 (k := 4) (q := 1) (ou1 := ou) (b := 0) (fun z => absurd z (by decide)) ?_ ?_ (K 1 4 _ _ _ _ (by omega) (R_on (ou := ou) (sl := sl) (ex := ex) (ab := ab) (ta := ta) (dr := dr) (nx := nx) (f := f) (n := n) (dN := dN) (mN := mN) (xN := xN) (cN := cN) (mc := mc) (ct := ct) (cv := cv) (cg := cg) (cT := cT) (cp := cp) (by omega) hd hx N))
                · rw [e1, e2]; exact h_grow_t (k_grow_ab hv hu T h5 h0 h1 hf hb (fun z => hq ((s_absent T).1 z))) rfl
                · rw [e1, e2]; simp only [fw_eq]; exact r_grow_ab hv hu T h5 cn2 h0 h1 (fun z => fit.1 z hf) (fun z => hq ((p_abs_eq T 4 (by omega)).1 z))
            · refine l_4 hi hn0 (k := 3) (q := 1) (ou1 := ou) (b := 0) (fun z => absurd z (by decide)) ?_ ?_ (K 1 3 _ _ _ _ (by omega) (R_on (ou := ou) (sl := sl) (ex := ex) (ab := ab) (ta := ta) (dr := dr) (nx := nx) (f := f) (n := n) (dN := dN) (mN := mN) (xN := xN) (cN := cN) (mc := mc) (ct := ct) (cv := cv) (cg := cg) (cT := cT) (cp := cp) (by omega) hd hx N))
              · rw [e1, e2]; exact h_grow_t (k_grow_no hv hu T h5 h0 h1 hf) rfl
              · rw [e1, e2]; simp only [fw_eq]; exact r_grow_no hv hu T h5 cn2 h0 h1 (fit.2 hf)
  · refine l_4 hi hn0 (k := 1) (q := 1) (ou1 := ou) (b := 0) (fun z => absurd z (by decide)) ?_ ?_ (K 1 1 _ _ _ _ (by omega) (R_off (ou := ou) (sl := sl) (ex := ex) (ab := ab) (ta := ta) (dr := dr) (nx := nx) (mc := mc) (cv := cv) (cg := cg) (cT := cT) (cp := cp) (by omega) hd hx hz V hb hA))
    · exact h_grow_t (k_grow_off) rfl
    · simp only [fw_eq]; exact r_grow_off
end XkSt8
