section XkSt9
theorem t_7 {sc : Nat × (Nat → Int32)} {i B : Nat} {th : Int32} {ou : Nat → Int64} {W : xk_W} {y5 y6 : Value} {Φ : xk_R → Prop} (h : s_R B th ou W) (hB : B + 2 < 2147483648) (hi : i + 3 < sc.1) (hn0 : sc.1 < 2147483648) (K : s_K sc i B Φ) : xk_Po (xp_P sc) 180 270 [.ref 999, .ref 0, .ref 10, .ref 16, .int (Int32.ofNat i), y5, y6] [] W Φ := by
  rcases h with ⟨sl, ex, ab, ta, dr, nx, f, n, dN, mN, xN, cN, mc, ct, cv, cg, cT, cp, hd, hx, N, rfl⟩ | ⟨sl, ex, ab, ta, dr, nx, mc, cv, cg, cT, cp, hd, hx, hz, V, hb, hA, rfl⟩
  · have O := N.1
    have T := O.2.2.1
    have hb := O.2.1
    obtain ⟨hC, hQ⟩ := N.cp
    rcases n_dk (sc.2 (i + 1)) with hg | ⟨v, hv, e1⟩
    · refine l_7 hi hn0 (k := 2) (q := 1) (ou1 := ou) (b := 0) (fun z => absurd z (by decide)) ?_ ?_ (K 1 2 _ _ _ _ (by omega) (R_on (ou := ou) (sl := sl) (ex := ex) (ab := ab) (ta := ta) (dr := dr) (nx := nx) (f := f) (n := n) (dN := dN) (mN := mN) (xN := xN) (cN := cN) (mc := mc) (ct := ct) (cv := cv) (cg := cg) (cT := cT) (cp := cp) (by omega) hd hx N))
      · exact h_mend_t (k_mend_nv hg) rfl
      · simp only [fw_eq]; exact r_mend_nv hg
    · by_cases hu : ta (5 + v) = 0
      · refine l_7 hi hn0 (k := 2) (q := 1) (ou1 := ou) (b := 0) (fun z => absurd z (by decide)) ?_ ?_ (K 1 2 _ _ _ _ (by omega) (R_on (ou := ou) (sl := sl) (ex := ex) (ab := ab) (ta := ta) (dr := dr) (nx := nx) (f := f) (n := n) (dN := dN) (mN := mN) (xN := xN) (cN := cN) (mc := mc) (ct := ct) (cv := cv) (cg := cg) (cT := cT) (cp := cp) (by omega) hd hx N))
        · rw [e1]; exact h_mend_t (k_mend_uv hv hu) rfl
        · rw [e1]; simp only [fw_eq]; exact r_mend_uv hv hu
      · have h5 : f (5 + v) ≠ 0 := fun z => hu ((n_vol T hv).2 z)
        obtain ⟨M1, M2, M3, M4⟩ := O.2.2.2.2.2
        have e5 := (s_dv_32 _ (T.v v hv)).2
        by_cases h3 : f (5 + v) % 4 = 3
        · by_cases hq : n_all f ab
          · have e0 : ta 0 + 1 = Int32.ofNat (n + 1) := by rw [O.2.2.2.1.1]; exact xn_add n 1
            obtain ⟨a, b, ha, hb2, hcv, hcg, hab⟩ := id N.2.1
            cases hn : n_mnd ab mN xN v f (2 * (f (5 + v) / 32)) 0 f 0 with
            | none =>
              obtain ⟨d2, z2, cl⟩ := k_mend_nr (sc := sc) (dr := dr) (md := n_md dN) (mc := mc) (r := mrr th (n_pr ab) sl ex ta nx 1 ct (n_md dN) cv cg cT cp ou) (m := mN) (x := xN) (s := (sl, ex, ct)) hv hu T h5 h3 hb ((s_absent T).2 hq) hd M4 (fun z => (M2 z).2.1) hn
              obtain ⟨n2, y2, ml⟩ := r_mend_nr (sc := sc) (p := c10 sl ex ab ta d2 (n_md dN) (n_ml mN) (n_mt xN) mc 1 ct) (th := th) (pr := n_pr ab) (sl := sl) (ex := ex) (ta := ta) (nx := nx) (lf := ct) (mo := n_md dN) (cv := cv) (cg := cg) (cT := cT) (cp := cp) (r := [.inl (2, 1, .inr (ou))]) hv hu h5 h3 ((p_abs_eq T 4 (by omega)).2 hq) O hB rfl hx ha hb2 hcv hcg hC hQ hn
              refine l_7 hi hn0 (k := 4) (q := 1) (ou1 := ou) (b := 0) (fun z => absurd z (by decide)) ?_ ?_ (K 1 4 _ _ _ _ (by omega) (R_on (ou := ou) (sl := sl) (ex := ex) (ab := ab) (ta := ta) (dr := d2) (nx := n2) (f := f) (n := n) (dN := dN) (mN := mN) (xN := xN) (cN := cN) (mc := mc) (ct := ct) (cv := cv) (cg := cg) (cT := cT) (cp := cp) (by omega) z2 y2 N))
              · rw [e1]; exact h_mend_t cl rfl
              · rw [e1]; simp only [fw_eq]; exact ml
            | some gc =>
              obtain ⟨g, c2⟩ := gc
              obtain ⟨Tg, Gx, ⟨P1, P2, P3⟩, P4, P5, P6, P7⟩ := n_mnd_ok hv h3 _ _ _ _ g c2 (by omega) (fun _ _ => rfl) (fun _ _ _ => rfl) T.n M4 hn
              have TG := s_mk_Tv Tg T.z
              by_cases h0 : c2 = 0
              · have cl := k_mend_z (sc := sc) (dr := dr) (md := n_md dN) (mc := mc) (r := mrr th (n_pr ab) sl ex ta nx 1 ct (n_md dN) cv cg cT cp ou) (m := mN) (x := xN) (s := (sl, ex, ct)) hv hu T h5 h3 hb ((s_absent T).2 hq) hd M4 (fun z => (M2 z).2.1) hn h0
                have ml := r_mend_0 (sc := sc) (p := c10 sl ex ab ta (s_mk ta g) (n_md dN) (n_ml mN) (n_mt xN) mc 1 ct) (th := th) (pr := n_pr ab) (sl := sl) (ex := ex) (ta := ta) (nx := nx) (lf := ct) (mo := n_md dN) (cv := cv) (cg := cg) (cT := cT) (cp := cp) (r := [.inl (2, 1, .inr (vp_updL ou 0 (0 : Int32).toInt64))]) hv hu h5 h3 ((p_abs_eq T 4 (by omega)).2 hq) O hB rfl hx ha hb2 hcv hcg hC hQ hn h0
                refine l_7 hi hn0 (k := 0) (q := 0) (ou1 := vp_updL ou 0 (0 : Int32).toInt64) (b := 0) (fun _ => if_pos rfl) ?_ ?_ (K 0 0 _ _ _ _ (by omega) (R_on (ou := vp_updL ou 0 (0 : Int32).toInt64) (sl := sl) (ex := ex) (ab := ab) (ta := ta) (dr := (s_mk ta g)) (nx := (s_mk ta g)) (f := f) (n := n) (dN := dN) (mN := mN) (xN := xN) (cN := cN) (mc := mc) (ct := ct) (cv := cv) (cg := cg) (cT := cT) (cp := cp) (by omega) TG.z TG.z N))
                · rw [e1]; exact h_mend cl
                · rw [e1]; simp only [fw_eq]; exact ml
              · have h10 : ∀ k, k < 10 → g (9 + (v * 10 + k)) ≠ f (9 + (v * 10 + k)) → f (9 + (v * 10 + n_tw k)) ≠ 0 ∧ g (9 + (v * 10 + k)) ≠ 0 := fun k hk z => by
                  by_cases y : k < 2 * (f (5 + v) / 32)
                  · have := (P5 k (by omega) (by omega)).1 z; exact ⟨this.2, fun w => z (by rw [w, this.1])⟩
                  · exact absurd (P4 k hk (.inr (by omega))) z
                have em : m_for (m_mnd g f v) 10 0 = m_for (m_mnd g f v) (2 * (f (5 + v) / 32)) 0 := by
                  have h := m_for_app (m_mnd g f v) (2 * (f (5 + v) / 32)) (10 - 2 * (f (5 + v) / 32)) 0
                  rw [show 2 * (f (5 + v) / 32) + (10 - 2 * (f (5 + v) / 32)) = 10 by omega, m_for_nos (F := m_mnd g f v) (10 - 2 * (f (5 + v) / 32)) (0 + 2 * (f (5 + v) / 32)) (fun i a1 a2 => if_pos (P4 i (by omega) (.inr (by omega)))), m_no_seq] at h
                  exact h
                have hX : ∀ s : s_S, (m_for (m_mnd g f v) (2 * (f (5 + v) / 32)) 0 s).2.1 = s.1 := fun s => m_for_sl (fun i s => m_mnd_sl g f v i s) _ _ s
                have H1 : dN < 4 → n_all g ab := fun _ e he hne => hq e he (by rw [← P1 (1 + e) (by omega)]; exact hne)
                have H3 : mN < 40 → g (9 + mN) = f (9 + mN) ∨ g (9 + mN) = 0 := fun z => .inl (P2 mN z (M2 z).2.1)
                by_cases ho : (m_seq (m_for (m_mnd g f v) (2 * (f (5 + v) / 32)) 0) (m_com (s_seal (s_mk ta g) (Int32.ofNat (n + 1))) ab) (sl, ex, ct)).1 = true
                · have cl := k_mend_1 (sc := sc) (dr := dr) (md := n_md dN) (mc := mc) (r := mrr th (n_pr ab) sl ex ta nx 1 ct (n_md dN) cv cg cT cp ou) (m := mN) (x := xN) (s := (sl, ex, ct)) hv hu T h5 h3 hb ((s_absent T).2 hq) hd M4 (fun z => (M2 z).2.1) hn h0 (by omega) Tg (fun k hk => P5 k (by omega) (by omega)) (by rw [e0]; exact ho)
                  rw [e0, s_ml_eq (s_seal_Tv TG)] at cl
                  have ml := r_mend1 (sc := sc) (p := c10 (m_seq (m_for (m_mnd g f v) (2 * (f (5 + v) / 32)) 0) (m_com (s_seal (s_mk ta g) (Int32.ofNat (n + 1))) ab) (sl, ex, ct)).2.1 (m_seq (m_for (m_mnd g f v) (2 * (f (5 + v) / 32)) 0) (m_com (s_seal (s_mk ta g) (Int32.ofNat (n + 1))) ab) (sl, ex, ct)).2.2.1 ab (s_seal (s_mk ta g) (Int32.ofNat (n + 1))) (s_seal (s_mk ta g) (Int32.ofNat (n + 1))) (n_md dN) (n_ml (n_mx g mN xN).1) (n_mt (n_mx g mN xN).2) mc 1 (m_seq (m_for (m_mnd g f v) (2 * (f (5 + v) / 32)) 0) (m_com (s_seal (s_mk ta g) (Int32.ofNat (n + 1))) ab) (sl, ex, ct)).2.2.2) (th := th) (pr := n_pr ab) (sl := sl) (ex := ex) (ta := ta) (nx := nx) (lf := ct) (mo := n_md dN) (cv := cv) (cg := cg) (cT := cT) (cp := cp) (r := [.inl (2, 1, .inr (vp_updL ou 0 (Int32.ofNat c2).toInt64))]) hv hu h5 h3 ((p_abs_eq T 4 (by omega)).2 hq) O hB rfl hx ha hb2 hcv hcg hC hQ hn h0 (by omega) Tg h10 hq (by rw [m_b_seq, m_b_on, em]; exact ho)
                  rw [m_b_seq, m_b_on, em] at ml
                  refine l_7 hi hn0 (k := 0) (q := 0) (ou1 := vp_updL ou 0 (Int32.ofNat c2).toInt64) (b := Int32.ofNat c2) (fun _ => if_pos rfl) ?_ ?_ (K 0 0 _ _ _ _ (by omega) (R_seq (ou := vp_updL ou 0 (Int32.ofNat c2).toInt64) (X := m_for (m_mnd g f v) (2 * (f (5 + v) / 32)) 0) (s := (sl, ex, ct)) (k := 1) (a := a) (b := b) N hB rfl hX TG (.inl rfl) H1 (fun _ _ => Gx) (fun z => by have := hab z; omega) H3 ho))
                  · rw [e1]; exact h_mend cl
                  · rw [e1]; simp only [fw_eq]; exact ml
                · obtain ⟨d2, z2, cl⟩ := k_mend_0 (sc := sc) (dr := dr) (md := n_md dN) (mc := mc) (r := mrr th (n_pr ab) sl ex ta nx 1 ct (n_md dN) cv cg cT cp ou) (m := mN) (x := xN) (s := (sl, ex, ct)) hv hu T h5 h3 hb ((s_absent T).2 hq) hd M4 (fun z => (M2 z).2.1) hn h0 (by omega) Tg (fun k hk => P5 k (by omega) (by omega)) (by rw [e0]; exact ho)
                  rw [e0] at cl
                  have ml := r_mend0 (sc := sc) (p := c10 (m_seq (m_for (m_mnd g f v) (2 * (f (5 + v) / 32)) 0) (m_com (s_seal (s_mk ta g) (Int32.ofNat (n + 1))) ab) (sl, ex, ct)).2.1 (m_seq (m_for (m_mnd g f v) (2 * (f (5 + v) / 32)) 0) (m_com (s_seal (s_mk ta g) (Int32.ofNat (n + 1))) ab) (sl, ex, ct)).2.2.1 ab ta d2 (-1) (-1) (-1) mc 0 (-1)) (th := th) (pr := n_pr ab) (sl := sl) (ex := ex) (ta := ta) (nx := nx) (lf := ct) (mo := n_md dN) (cv := cv) (cg := cg) (cT := cT) (cp := cp) (r := [.inl (2, 1, .inr (ou))]) hv hu h5 h3 ((p_abs_eq T 4 (by omega)).2 hq) O hB rfl hx ha hb2 hcv hcg hC hQ hn h0 (by omega) Tg h10 hq (by rw [m_b_seq, m_b_on, em]; exact ho)
                  rw [m_b_seq, m_b_on, em] at ml
                  refine l_7 hi hn0 (k := 1) (q := 1) (ou1 := ou) (b := 0) (fun z => absurd z (by decide)) ?_ ?_ (K 1 1 ou _ _ _ (by omega) (R_cut (o := m_seq (m_for (m_mnd g f v) (2 * (f (5 + v) / 32)) 0) (m_com (s_seal (s_mk ta g) (Int32.ofNat (n + 1))) ab) (sl, ex, ct)) (mc2 := mc) (cp2 := cp) (cT2 := cT) (dr := d2) (nx := s_seal (s_mk ta g) (Int32.ofNat (n + 1))) N (V_seq O hB rfl hX TG (.inl rfl)) z2 (s_seal_z TG.z)))
                  · rw [e1]; exact h_mend_t cl rfl
                  · rw [e1]; simp only [fw_eq]; exact ml
          · refine l_7 hi hn0 (k := 4) (q := 1) (ou1 := ou) (b := 0) (fun z => absurd z (by decide)) ?_ ?_ (K 1 4 _ _ _ _ (by omega) (R_on (ou := ou) (sl := sl) (ex := ex) (ab := ab) (ta := ta) (dr := dr) (nx := nx) (f := f) (n := n) (dN := dN) (mN := mN) (xN := xN) (cN := cN) (mc := mc) (ct := ct) (cv := cv) (cg := cg) (cT := cT) (cp := cp) (by omega) hd hx N))
            · rw [e1]; exact h_mend_t (k_mend_ab hv hu T h5 h3 hb (fun z => hq ((s_absent T).1 z))) rfl
            · rw [e1]; simp only [fw_eq]; exact r_mend_ab hv hu T h5 h3 (fun z => hq ((p_abs_eq T 4 (by omega)).1 z))
        · refine l_7 hi hn0 (k := 3) (q := 1) (ou1 := ou) (b := 0) (fun z => absurd z (by decide)) ?_ ?_ (K 1 3 _ _ _ _ (by omega) (R_on (ou := ou) (sl := sl) (ex := ex) (ab := ab) (ta := ta) (dr := dr) (nx := nx) (f := f) (n := n) (dN := dN) (mN := mN) (xN := xN) (cN := cN) (mc := mc) (ct := ct) (cv := cv) (cg := cg) (cT := cT) (cp := cp) (by omega) hd hx N))
          · rw [e1]; exact h_mend_t (k_mend_nt hv hu T h5 h3) rfl
          · rw [e1]; simp only [fw_eq]; exact r_mend_nt hv hu T h5 h3
  · refine l_7 hi hn0 (k := 1) (q := 1) (ou1 := ou) (b := 0) (fun z => absurd z (by decide)) ?_ ?_ (K 1 1 _ _ _ _ (by omega) (R_off (ou := ou) (sl := sl) (ex := ex) (ab := ab) (ta := ta) (dr := dr) (nx := nx) (mc := mc) (cv := cv) (cg := cg) (cT := cT) (cp := cp) (by omega) hd hx hz V hb hA))
    · exact h_mend_t (k_mend_off) rfl
    · simp only [fw_eq]; exact r_mend_off
end XkSt9
