section XkSt2
theorem t_13 {sc : Nat × (Nat → Int32)} {i B : Nat} {th : Int32} {ou : Nat → Int64} {W : xk_W} {y5 y6 : Value} {Φ : xk_R → Prop} (h : s_R B th ou W) (hB : B + 2 < 2147483648) (hi : i + 3 < sc.1) (hn : sc.1 < 2147483648) (K : s_K sc i B Φ) : xk_Po (xp_P sc) 180 472 [.ref 999, .ref 0, .ref 10, .ref 16, .int (Int32.ofNat i), y5, y6] [] W Φ := by
  rcases h with ⟨sl, ex, ab, ta, dr, nx, f, n, dN, mN, xN, cN, mc, ct, cv, cg, cT, cp, hd, hx, N, rfl⟩ | ⟨sl, ex, ab, ta, dr, nx, mc, cv, cg, cT, cp, hd, hx, hz, V, hb, hA, rfl⟩
  · have O := N.1
    have T := O.2.2.1
    have hb := O.2.1
    obtain ⟨hC, hQ⟩ := N.cp
    rcases n_dk (sc.2 (i + 1)) with hg | ⟨v, hv, e1⟩
    · refine l_13 hi hn (k := 2) (q := 1) (ou1 := ou) (b := 0) (fun z => absurd z (by decide)) ?_ ?_ (K 1 2 _ _ _ _ (by omega) (R_on (ou := ou) (sl := sl) (ex := ex) (ab := ab) (ta := ta) (dr := dr) (nx := nx) (f := f) (n := n) (dN := dN) (mN := mN) (xN := xN) (cN := cN) (mc := mc) (ct := ct) (cv := cv) (cg := cg) (cT := cT) (cp := cp) (by omega) hd hx N))
      · exact h_volume_t (c_volume_nv (show ¬ (1 : Int32) = 0 by decide) hg) rfl
      · simp only [fw_eq]; exact r_volume_nv hg
    · by_cases hu : ta (5 + v) = 0
      · refine l_13 hi hn (k := 2) (q := 1) (ou1 := ou) (b := 0) (fun z => absurd z (by decide)) ?_ ?_ (K 1 2 _ _ _ _ (by omega) (R_on (ou := ou) (sl := sl) (ex := ex) (ab := ab) (ta := ta) (dr := dr) (nx := nx) (f := f) (n := n) (dN := dN) (mN := mN) (xN := xN) (cN := cN) (mc := mc) (ct := ct) (cv := cv) (cg := cg) (cT := cT) (cp := cp) (by omega) hd hx N))
        · rw [e1]; exact h_volume_t (c_volume_uv (show ¬ (1 : Int32) = 0 by decide) hv hu) rfl
        · rw [e1]; simp only [fw_eq]; exact r_volume_uv hv hu
      · have h5 : f (5 + v) ≠ 0 := fun z => hu ((n_vol T hv).2 z)
        by_cases h0 : sc.2 (i + 2) < 0
        · refine l_13 hi hn (k := 3) (q := 1) (ou1 := ou) (b := 0) (fun z => absurd z (by decide)) ?_ ?_ (K 1 3 _ _ _ _ (by omega) (R_on (ou := ou) (sl := sl) (ex := ex) (ab := ab) (ta := ta) (dr := dr) (nx := nx) (f := f) (n := n) (dN := dN) (mN := mN) (xN := xN) (cN := cN) (mc := mc) (ct := ct) (cv := cv) (cg := cg) (cT := cT) (cp := cp) (by omega) hd hx N))
          · rw [e1]; exact h_volume_t (c_volume_out (show ¬ (1 : Int32) = 0 by decide) hv hu (.inl (by rw [Int32.lt_iff_toInt_lt] at h0; simpa using h0))) rfl
          · rw [e1]; simp only [fw_eq]; exact r_volume_lo hv hu h0
        · by_cases h3 : sc.2 (i + 2) ≤ Int32.ofInt 3
          · obtain ⟨k, hk, e2⟩ := xn_of (n := 4) h0 (fun z => by rw [Int32.le_iff_toInt_le] at h3 z; have q1 : (Int32.ofInt 3).toInt = 3 := (by decide); have q2 : (Int32.ofNat 4).toInt = 4 := (by decide); omega) (by omega)
            have hk4 : k = 0 ∨ k = 1 ∨ k = 2 ∨ k = 3 := by omega
            have e32 := (s_dv_32 _ (T.v v hv)).1
            rcases hk4 with rfl | rfl | rfl | rfl
            · refine l_13 hi hn (k := 0) (q := 0) (ou1 := vp_updL ou 0 (ta (5 + v) % 4 - 1).toInt64) (b := ta (5 + v) % 4 - 1) (fun _ => if_pos rfl) ?_ ?_ (K 0 0 _ _ _ _ (by omega) (R_on (ou := vp_updL ou 0 (ta (5 + v) % 4 - 1).toInt64) (sl := sl) (ex := ex) (ab := ab) (ta := ta) (dr := dr) (nx := nx) (f := f) (n := n) (dN := dN) (mN := mN) (xN := xN) (cN := cN) (mc := mc) (ct := ct) (cv := cv) (cg := cg) (cT := cT) (cp := cp) (by omega) hd hx N))
              · rw [e1, e2]; exact h_volume (c_volume0 (show ¬ (1 : Int32) = 0 by decide) hv hu)
              · rw [e1, e2]; simp only [fw_eq]; exact (by have h := r_volume0 (sc := sc) (p := c10 sl ex ab ta dr (n_md dN) (n_ml mN) (n_mt xN) mc 1 ct) (th := th) (pr := n_pr ab) (sl := sl) (ex := ex) (ta := ta) (nx := nx) (lf := ct) (mo := n_md dN) (cv := cv) (cg := cg) (cT := cT) (cp := cp) (r := [.inl (2, 1, .inr (vp_updL ou 0 (ta (5 + v) % 4 - 1).toInt64))]) hv hu; rw [if_neg hu] at h; exact h)
            · refine l_13 hi hn (k := 0) (q := 0) (ou1 := vp_updL ou 0 (Int32.ofNat (f (5 + v) / 4 % 8)).toInt64) (b := Int32.ofNat (f (5 + v) / 4 % 8)) (fun _ => if_pos rfl) ?_ ?_ (K 0 0 _ _ _ _ (by omega) (R_on (ou := vp_updL ou 0 (Int32.ofNat (f (5 + v) / 4 % 8)).toInt64) (sl := sl) (ex := ex) (ab := ab) (ta := ta) (dr := dr) (nx := nx) (f := f) (n := n) (dN := dN) (mN := mN) (xN := xN) (cN := cN) (mc := mc) (ct := ct) (cv := cv) (cg := cg) (cT := cT) (cp := cp) (by omega) hd hx N))
              · rw [e1, e2]; exact h_volume (by have h := c_volume1 (sc := sc) (sl := sl) (ex := ex) (ab := ab) (ta := ta) (dr := dr) (md := n_md dN) (ml := n_ml mN) (mt := n_mt xN) (mc := mc) (on := 1) (ct := ct) (r := mrr th (n_pr ab) sl ex ta nx 1 ct (n_md dN) cv cg cT cp ou) (show ¬ (1 : Int32) = 0 by decide) hv hu; rw [T.w (5 + v) (by omega) (by omega), (s_dv_col _ (T.v v hv) h5).1] at h; exact h)
              · rw [e1, e2]; simp only [fw_eq]; exact (by have h := r_volume1 (sc := sc) (p := c10 sl ex ab ta dr (n_md dN) (n_ml mN) (n_mt xN) mc 1 ct) (th := th) (pr := n_pr ab) (sl := sl) (ex := ex) (ta := ta) (nx := nx) (lf := ct) (mo := n_md dN) (cv := cv) (cg := cg) (cT := cT) (cp := cp) (r := [.inl (2, 1, .inr (vp_updL ou 0 (Int32.ofNat (f (5 + v) / 4 % 8)).toInt64))]) hv hu; rw [T.w (5 + v) (by omega) (by omega), (s_dv_4 _ (T.v v hv) h5).2.2] at h; exact h)
            · refine l_13 hi hn (k := 0) (q := 0) (ou1 := vp_updL ou 0 (ta (5 + v) / 32).toInt64) (b := ta (5 + v) / 32) (fun _ => if_pos rfl) ?_ ?_ (K 0 0 _ _ _ _ (by omega) (R_on (ou := vp_updL ou 0 (ta (5 + v) / 32).toInt64) (sl := sl) (ex := ex) (ab := ab) (ta := ta) (dr := dr) (nx := nx) (f := f) (n := n) (dN := dN) (mN := mN) (xN := xN) (cN := cN) (mc := mc) (ct := ct) (cv := cv) (cg := cg) (cT := cT) (cp := cp) (by omega) hd hx N))
              · rw [e1, e2]; exact h_volume (c_volume2 (show ¬ (1 : Int32) = 0 by decide) hv hu)
              · rw [e1, e2]; simp only [fw_eq]; exact r_volume2 hv hu
            · refine l_13 hi hn (k := 0) (q := 0) (ou1 := vp_updL ou 0 (4 * (ta (5 + v) / 32)).toInt64) (b := 4 * (ta (5 + v) / 32)) (fun _ => if_pos rfl) ?_ ?_ (K 0 0 _ _ _ _ (by omega) (R_on (ou := vp_updL ou 0 (4 * (ta (5 + v) / 32)).toInt64) (sl := sl) (ex := ex) (ab := ab) (ta := ta) (dr := dr) (nx := nx) (f := f) (n := n) (dN := dN) (mN := mN) (xN := xN) (cN := cN) (mc := mc) (ct := ct) (cv := cv) (cg := cg) (cT := cT) (cp := cp) (by omega) hd hx N))
              · rw [e1, e2]; exact h_volume (by have h := c_volume3 (sc := sc) (sl := sl) (ex := ex) (ab := ab) (ta := ta) (dr := dr) (md := n_md dN) (ml := n_ml mN) (mt := n_mt xN) (mc := mc) (on := 1) (ct := ct) (r := mrr th (n_pr ab) sl ex ta nx 1 ct (n_md dN) cv cg cT cp ou) (show ¬ (1 : Int32) = 0 by decide) hv hu; rw [show ta (5 + v) / 32 * 4 = 4 * (ta (5 + v) / 32) from Int32.mul_comm _ _] at h; exact h)
              · rw [e1, e2]; simp only [fw_eq]; exact r_volume3 hv hu
          · refine l_13 hi hn (k := 3) (q := 1) (ou1 := ou) (b := 0) (fun z => absurd z (by decide)) ?_ ?_ (K 1 3 _ _ _ _ (by omega) (R_on (ou := ou) (sl := sl) (ex := ex) (ab := ab) (ta := ta) (dr := dr) (nx := nx) (f := f) (n := n) (dN := dN) (mN := mN) (xN := xN) (cN := cN) (mc := mc) (ct := ct) (cv := cv) (cg := cg) (cT := cT) (cp := cp) (by omega) hd hx N))
            · rw [e1]; exact h_volume_t (c_volume_out (show ¬ (1 : Int32) = 0 by decide) hv hu (.inr (by rw [Int32.le_iff_toInt_le] at h3; have q1 : (Int32.ofInt 3).toInt = 3 := (by decide); omega))) rfl
            · rw [e1]; simp only [fw_eq]; exact r_volume_hi hv hu h0 h3
  · refine l_13 hi hn (k := 1) (q := 1) (ou1 := ou) (b := 0) (fun z => absurd z (by decide)) ?_ ?_ (K 1 1 _ _ _ _ (by omega) (R_off (ou := ou) (sl := sl) (ex := ex) (ab := ab) (ta := ta) (dr := dr) (nx := nx) (mc := mc) (cv := cv) (cg := cg) (cT := cT) (cp := cp) (by omega) hd hx hz V hb hA))
    · exact h_volume_t (c_volume_off rfl) rfl
    · simp only [fw_eq]; exact r_volume_off
theorem t_14 {sc : Nat × (Nat → Int32)} {i B : Nat} {th : Int32} {ou : Nat → Int64} {W : xk_W} {y5 y6 : Value} {Φ : xk_R → Prop} (h : s_R B th ou W) (hB : B + 2 < 2147483648) (hi : i + 3 < sc.1) (hn : sc.1 < 2147483648) (K : s_K sc i B Φ) : xk_Po (xp_P sc) 180 517 [.ref 999, .ref 0, .ref 10, .ref 16, .int (Int32.ofNat i), y5, y6] [] W Φ := by
  rcases h with ⟨sl, ex, ab, ta, dr, nx, f, n, dN, mN, xN, cN, mc, ct, cv, cg, cT, cp, hd, hx, N, rfl⟩ | ⟨sl, ex, ab, ta, dr, nx, mc, cv, cg, cT, cp, hd, hx, hz, V, hb, hA, rfl⟩
  · have O := N.1
    have T := O.2.2.1
    have hb := O.2.1
    obtain ⟨hC, hQ⟩ := N.cp
    rcases n_dk (sc.2 (i + 1)) with hg | ⟨v, hv, e1⟩
    · refine l_14 hi hn (k := 2) (q := 1) (ou1 := ou) (b := 0) (fun z => absurd z (by decide)) ?_ ?_ (K 1 2 _ _ _ _ (by omega) (R_on (ou := ou) (sl := sl) (ex := ex) (ab := ab) (ta := ta) (dr := dr) (nx := nx) (f := f) (n := n) (dN := dN) (mN := mN) (xN := xN) (cN := cN) (mc := mc) (ct := ct) (cv := cv) (cg := cg) (cT := cT) (cp := cp) (by omega) hd hx N))
      · exact h_where_t (c_where_nv (show ¬ (1 : Int32) = 0 by decide) hg) rfl
      · simp only [fw_eq]; exact r_where_nv hg
    · by_cases hu : ta (5 + v) = 0
      · refine l_14 hi hn (k := 2) (q := 1) (ou1 := ou) (b := 0) (fun z => absurd z (by decide)) ?_ ?_ (K 1 2 _ _ _ _ (by omega) (R_on (ou := ou) (sl := sl) (ex := ex) (ab := ab) (ta := ta) (dr := dr) (nx := nx) (f := f) (n := n) (dN := dN) (mN := mN) (xN := xN) (cN := cN) (mc := mc) (ct := ct) (cv := cv) (cg := cg) (cT := cT) (cp := cp) (by omega) hd hx N))
        · rw [e1]; exact h_where_t (c_where_uv (show ¬ (1 : Int32) = 0 by decide) hv hu) rfl
        · rw [e1]; simp only [fw_eq]; exact r_where_uv hv hu
      · have h5 : f (5 + v) ≠ 0 := fun z => hu ((n_vol T hv).2 z)
        have e32 : ta (5 + v) / 32 = Int32.ofNat (f (5 + v) / 32) := by rw [T.w (5 + v) (by omega) (by omega)]; exact (s_dv_32 _ (T.v v hv)).1
        have e5 := (s_dv_32 _ (T.v v hv)).2
        by_cases h0 : sc.2 (i + 2) < 0
        · refine l_14 hi hn (k := 0) (q := 0) (ou1 := vp_updL ou 0 (-1).toInt64) (b := -1) (fun _ => if_pos rfl) ?_ ?_ (K 0 0 _ _ _ _ (by omega) (R_on (ou := vp_updL ou 0 (-1).toInt64) (sl := sl) (ex := ex) (ab := ab) (ta := ta) (dr := dr) (nx := nx) (f := f) (n := n) (dN := dN) (mN := mN) (xN := xN) (cN := cN) (mc := mc) (ct := ct) (cv := cv) (cg := cg) (cT := cT) (cp := cp) (by omega) hd hx N))
          · rw [e1]; exact h_where (c_where_out (show ¬ (1 : Int32) = 0 by decide) hv hu (.inl h0))
          · rw [e1]; simp only [fw_eq]; exact r_where_1 hv hu h0
        · by_cases hle : ta (5 + v) / 32 ≤ sc.2 (i + 2)
          · by_cases h5a : Int32.ofInt 5 ≤ sc.2 (i + 2)
            · refine l_14 hi hn (k := 0) (q := 0) (ou1 := vp_updL ou 0 (-1).toInt64) (b := -1) (fun _ => if_pos rfl) ?_ ?_ (K 0 0 _ _ _ _ (by omega) (R_on (ou := vp_updL ou 0 (-1).toInt64) (sl := sl) (ex := ex) (ab := ab) (ta := ta) (dr := dr) (nx := nx) (f := f) (n := n) (dN := dN) (mN := mN) (xN := xN) (cN := cN) (mc := mc) (ct := ct) (cv := cv) (cg := cg) (cT := cT) (cp := cp) (by omega) hd hx N))
              · rw [e1]; exact h_where (c_where_out (show ¬ (1 : Int32) = 0 by decide) hv hu (.inr (.inl h5a)))
              · rw [e1]; simp only [fw_eq]; exact r_where_2 hv hu h0 hle
            · by_cases hb0 : sc.2 (i + 3) < 0
              · refine l_14 hi hn (k := 0) (q := 0) (ou1 := vp_updL ou 0 (-1).toInt64) (b := -1) (fun _ => if_pos rfl) ?_ ?_ (K 0 0 _ _ _ _ (by omega) (R_on (ou := vp_updL ou 0 (-1).toInt64) (sl := sl) (ex := ex) (ab := ab) (ta := ta) (dr := dr) (nx := nx) (f := f) (n := n) (dN := dN) (mN := mN) (xN := xN) (cN := cN) (mc := mc) (ct := ct) (cv := cv) (cg := cg) (cT := cT) (cp := cp) (by omega) hd hx N))
                · rw [e1]; exact h_where (c_where_out (show ¬ (1 : Int32) = 0 by decide) hv hu (.inr (.inr (.inl hb0))))
                · rw [e1]; simp only [fw_eq]; exact r_where_2 hv hu h0 hle
              · by_cases hb2 : sc.2 (i + 3) < Int32.ofInt 2
                · obtain ⟨e, he, e2⟩ := xn_of (n := 5) h0 h5a (by omega)
                  obtain ⟨l, hl, e3⟩ := xn_of (n := 2) hb0 (fun z => (xn_lt_le.1 hb2) z) (by omega)
                  have hel : f (5 + v) / 32 ≤ e := by rw [e32, e2] at hle; exact (xn_le (by omega) (by omega)).1 hle
                  have hf0 : ta (9 + (v * 10 + e * 2 + l)) - 1 = -1 := by
                    have z0 : f (9 + (v * 10 + e * 2 + l)) = 0 := Decidable.byContradiction (fun z => by have := T.g v (e * 2 + l) hv (by omega) (by rw [show v * 10 + (e * 2 + l) = v * 10 + e * 2 + l by omega]; exact z); omega)
                    rw [T.w (9 + (v * 10 + e * 2 + l)) (by omega) (by omega), z0]
                    rfl
                  refine l_14 hi hn (k := 0) (q := 0) (ou1 := vp_updL ou 0 (-1).toInt64) (b := -1) (fun _ => if_pos rfl) ?_ ?_ (K 0 0 _ _ _ _ (by omega) (R_on (ou := vp_updL ou 0 (-1).toInt64) (sl := sl) (ex := ex) (ab := ab) (ta := ta) (dr := dr) (nx := nx) (f := f) (n := n) (dN := dN) (mN := mN) (xN := xN) (cN := cN) (mc := mc) (ct := ct) (cv := cv) (cg := cg) (cT := cT) (cp := cp) (by omega) hd hx N))
                  · rw [e1, e2, e3]; exact h_where (by have h := c_where (sc := sc) (sl := sl) (ex := ex) (ab := ab) (ta := ta) (dr := dr) (md := n_md dN) (ml := n_ml mN) (mt := n_mt xN) (mc := mc) (on := 1) (ct := ct) (r := mrr th (n_pr ab) sl ex ta nx 1 ct (n_md dN) cv cg cT cp ou) (show ¬ (1 : Int32) = 0 by decide) hv hu he hl; rw [hf0] at h; exact h)
                  · rw [e1]; simp only [fw_eq]; exact r_where_2 hv hu h0 hle
                · refine l_14 hi hn (k := 0) (q := 0) (ou1 := vp_updL ou 0 (-1).toInt64) (b := -1) (fun _ => if_pos rfl) ?_ ?_ (K 0 0 _ _ _ _ (by omega) (R_on (ou := vp_updL ou 0 (-1).toInt64) (sl := sl) (ex := ex) (ab := ab) (ta := ta) (dr := dr) (nx := nx) (f := f) (n := n) (dN := dN) (mN := mN) (xN := xN) (cN := cN) (mc := mc) (ct := ct) (cv := cv) (cg := cg) (cT := cT) (cp := cp) (by omega) hd hx N))
                  · rw [e1]; exact h_where (c_where_out (show ¬ (1 : Int32) = 0 by decide) hv hu (.inr (.inr (.inr hb2))))
                  · rw [e1]; simp only [fw_eq]; exact r_where_2 hv hu h0 hle
          · by_cases hb0 : sc.2 (i + 3) < 0
            · refine l_14 hi hn (k := 0) (q := 0) (ou1 := vp_updL ou 0 (-1).toInt64) (b := -1) (fun _ => if_pos rfl) ?_ ?_ (K 0 0 _ _ _ _ (by omega) (R_on (ou := vp_updL ou 0 (-1).toInt64) (sl := sl) (ex := ex) (ab := ab) (ta := ta) (dr := dr) (nx := nx) (f := f) (n := n) (dN := dN) (mN := mN) (xN := xN) (cN := cN) (mc := mc) (ct := ct) (cv := cv) (cg := cg) (cT := cT) (cp := cp) (by omega) hd hx N))
              · rw [e1]; exact h_where (c_where_out (show ¬ (1 : Int32) = 0 by decide) hv hu (.inr (.inr (.inl hb0))))
              · rw [e1]; simp only [fw_eq]; exact r_where_3 hv hu h0 hle hb0
            · by_cases hb2 : sc.2 (i + 3) < Int32.ofInt 2
              · obtain ⟨l, hl, e3⟩ := xn_of (n := 2) hb0 (fun z => (xn_lt_le.1 hb2) z) (by omega)
                obtain ⟨e, he, e2⟩ := xn_of (n := 5) h0 (fun z => hle (by rw [e32]; exact Int32.le_trans ((xn_le (b := 5) (by omega) (by omega)).2 e5) z)) (by omega)
                refine l_14 hi hn (k := 0) (q := 0) (ou1 := vp_updL ou 0 (ta (9 + (v * 10 + e * 2 + l)) - 1).toInt64) (b := ta (9 + (v * 10 + e * 2 + l)) - 1) (fun _ => if_pos rfl) ?_ ?_ (K 0 0 _ _ _ _ (by omega) (R_on (ou := vp_updL ou 0 (ta (9 + (v * 10 + e * 2 + l)) - 1).toInt64) (sl := sl) (ex := ex) (ab := ab) (ta := ta) (dr := dr) (nx := nx) (f := f) (n := n) (dN := dN) (mN := mN) (xN := xN) (cN := cN) (mc := mc) (ct := ct) (cv := cv) (cg := cg) (cT := cT) (cp := cp) (by omega) hd hx N))
                · rw [e1, e2, e3]; exact h_where (c_where (show ¬ (1 : Int32) = 0 by decide) hv hu he hl)
                · rw [e1, e2, e3]; simp only [fw_eq]; exact r_where hv hu he hl (by rw [← e2]; exact hle)
              · refine l_14 hi hn (k := 0) (q := 0) (ou1 := vp_updL ou 0 (-1).toInt64) (b := -1) (fun _ => if_pos rfl) ?_ ?_ (K 0 0 _ _ _ _ (by omega) (R_on (ou := vp_updL ou 0 (-1).toInt64) (sl := sl) (ex := ex) (ab := ab) (ta := ta) (dr := dr) (nx := nx) (f := f) (n := n) (dN := dN) (mN := mN) (xN := xN) (cN := cN) (mc := mc) (ct := ct) (cv := cv) (cg := cg) (cT := cT) (cp := cp) (by omega) hd hx N))
                · rw [e1]; exact h_where (c_where_out (show ¬ (1 : Int32) = 0 by decide) hv hu (.inr (.inr (.inr hb2))))
                · rw [e1]; simp only [fw_eq]; exact r_where_4 hv hu h0 hle hb0 (fun z => hb2 (by rw [Int32.lt_iff_toInt_lt]; rw [Int32.le_iff_toInt_le] at z; have q1 : (Int32.ofInt 1).toInt = 1 := (by decide); have q2 : (Int32.ofInt 2).toInt = 2 := (by decide); omega))
  · refine l_14 hi hn (k := 1) (q := 1) (ou1 := ou) (b := 0) (fun z => absurd z (by decide)) ?_ ?_ (K 1 1 _ _ _ _ (by omega) (R_off (ou := ou) (sl := sl) (ex := ex) (ab := ab) (ta := ta) (dr := dr) (nx := nx) (mc := mc) (cv := cv) (cg := cg) (cT := cT) (cp := cp) (by omega) hd hx hz V hb hA))
    · exact h_where_t (c_where_off rfl) rfl
    · simp only [fw_eq]; exact r_where_off
theorem t_9 {sc : Nat × (Nat → Int32)} {i B : Nat} {th : Int32} {ou : Nat → Int64} {W : xk_W} {y5 y6 : Value} {Φ : xk_R → Prop} (h : s_R B th ou W) (hB : B + 2 < 2147483648) (hi : i + 3 < sc.1) (hn : sc.1 < 2147483648) (K : s_K sc i B Φ) : xk_Po (xp_P sc) 180 360 [.ref 999, .ref 0, .ref 10, .ref 16, .int (Int32.ofNat i), y5, y6] [] W Φ := by
  rcases h with ⟨sl, ex, ab, ta, dr, nx, f, n, dN, mN, xN, cN, mc, ct, cv, cg, cT, cp, hd, hx, N, rfl⟩ | ⟨sl, ex, ab, ta, dr, nx, mc, cv, cg, cT, cp, hd, hx, hz, V, hb, hA, rfl⟩
  · have O := N.1
    have T := O.2.2.1
    have hb := O.2.1
    obtain ⟨hC, hQ⟩ := N.cp
    rcases n_dk (sc.2 (i + 1)) with hg | ⟨v, hv, e1⟩
    · refine l_9 hi hn (k := 2) (q := 1) (ou1 := ou) (b := 0) (fun z => absurd z (by decide)) ?_ ?_ (K 1 2 _ _ _ _ (by omega) (R_on (ou := ou) (sl := sl) (ex := ex) (ab := ab) (ta := ta) (dr := dr) (nx := nx) (f := f) (n := n) (dN := dN) (mN := mN) (xN := xN) (cN := cN) (mc := mc) (ct := ct) (cv := cv) (cg := cg) (cT := cT) (cp := cp) (by omega) hd hx N))
      · exact h_read_t (k_read_nv hg) rfl
      · simp only [fw_eq]; exact r_read_nv hg
    · by_cases hu : ta (5 + v) = 0
      · refine l_9 hi hn (k := 2) (q := 1) (ou1 := ou) (b := 0) (fun z => absurd z (by decide)) ?_ ?_ (K 1 2 _ _ _ _ (by omega) (R_on (ou := ou) (sl := sl) (ex := ex) (ab := ab) (ta := ta) (dr := dr) (nx := nx) (f := f) (n := n) (dN := dN) (mN := mN) (xN := xN) (cN := cN) (mc := mc) (ct := ct) (cv := cv) (cg := cg) (cT := cT) (cp := cp) (by omega) hd hx N))
        · rw [e1]; exact h_read_t (k_read_uv hv hu) rfl
        · rw [e1]; simp only [fw_eq]; exact r_read_uv hv hu
      · have h5 : f (5 + v) ≠ 0 := fun z => hu ((n_vol T hv).2 z)
        have e5 := (s_dv_32 _ (T.v v hv)).2
        have hbp := n_pr_b ab
        by_cases h0 : sc.2 (i + 2) < 0
        · refine l_9 hi hn (k := 3) (q := 1) (ou1 := ou) (b := 0) (fun z => absurd z (by decide)) ?_ ?_ (K 1 3 _ _ _ _ (by omega) (R_on (ou := ou) (sl := sl) (ex := ex) (ab := ab) (ta := ta) (dr := dr) (nx := nx) (f := f) (n := n) (dN := dN) (mN := mN) (xN := xN) (cN := cN) (mc := mc) (ct := ct) (cv := cv) (cg := cg) (cT := cT) (cp := cp) (by omega) hd hx N))
          · rw [e1]; exact h_read_t (k_read_nw hv hu T h5 (fun z => z.1 h0)) rfl
          · rw [e1]; simp only [fw_eq]; exact r_read_lo hv hu T h0
        · by_cases h3 : sc.2 (i + 2) < Int32.ofInt 4 * Int32.ofNat (f (5 + v) / 32)
          · have eL : Int32.ofInt 4 * Int32.ofNat (f (5 + v) / 32) = Int32.ofNat (4 * (f (5 + v) / 32)) := xn_mul 4 _
            rw [eL] at h3
            obtain ⟨k, hk4, e2⟩ := xn_of (n := 4 * (f (5 + v) / 32)) h0 (fun z => (xn_lt_le.1 h3) z) (by omega)
            have hk : k < 20 := by omega
            by_cases r0 : n_rda (f (9 + (v * 10 + n_el (f (5 + v)) k * 2))) ab
            · refine l_9 hi hn (k := 0) (q := 0) (ou1 := vp_updL ou 0 (ex ((f (9 + (v * 10 + n_el (f (5 + v)) k * 2)) - 1) * 4 + n_wo (f (5 + v)) k)).toInt64) (b := ex ((f (9 + (v * 10 + n_el (f (5 + v)) k * 2)) - 1) * 4 + n_wo (f (5 + v)) k)) (fun _ => if_pos rfl) ?_ ?_ (K 0 0 _ _ _ _ (by omega) (R_on (ou := vp_updL ou 0 (ex ((f (9 + (v * 10 + n_el (f (5 + v)) k * 2)) - 1) * 4 + n_wo (f (5 + v)) k)).toInt64) (sl := sl) (ex := ex) (ab := ab) (ta := ta) (dr := dr) (nx := nx) (f := f) (n := n) (dN := dN) (mN := mN) (xN := xN) (cN := cN) (mc := mc) (ct := ct) (cv := cv) (cg := cg) (cT := cT) (cp := cp) (by omega) hd hx N))
              · rw [e1, e2]; exact h_read (k_read_a hv hu T h5 hk hk4 hb r0)
              · rw [e1, e2]; simp only [fw_eq]; exact r_read_a hv hu T h5 hk hk4 hbp (n_rda_pr.2 r0)
            · by_cases r1 : n_rda (f (9 + (v * 10 + n_el (f (5 + v)) k * 2 + 1))) ab
              · refine l_9 hi hn (k := 0) (q := 0) (ou1 := vp_updL ou 0 (ex ((f (9 + (v * 10 + n_el (f (5 + v)) k * 2 + 1)) - 1) * 4 + n_wo (f (5 + v)) k)).toInt64) (b := ex ((f (9 + (v * 10 + n_el (f (5 + v)) k * 2 + 1)) - 1) * 4 + n_wo (f (5 + v)) k)) (fun _ => if_pos rfl) ?_ ?_ (K 0 0 _ _ _ _ (by omega) (R_on (ou := vp_updL ou 0 (ex ((f (9 + (v * 10 + n_el (f (5 + v)) k * 2 + 1)) - 1) * 4 + n_wo (f (5 + v)) k)).toInt64) (sl := sl) (ex := ex) (ab := ab) (ta := ta) (dr := dr) (nx := nx) (f := f) (n := n) (dN := dN) (mN := mN) (xN := xN) (cN := cN) (mc := mc) (ct := ct) (cv := cv) (cg := cg) (cT := cT) (cp := cp) (by omega) hd hx N))
                · rw [e1, e2]; exact h_read (k_read_b hv hu T h5 hk hk4 hb r0 r1)
                · rw [e1, e2]; simp only [fw_eq]; exact r_read_b hv hu T h5 hk hk4 hbp (fun z => r0 (n_rda_pr.1 z)) (n_rda_pr.2 r1)
              · refine l_9 hi hn (k := 4) (q := 1) (ou1 := ou) (b := 0) (fun z => absurd z (by decide)) ?_ ?_ (K 1 4 _ _ _ _ (by omega) (R_on (ou := ou) (sl := sl) (ex := ex) (ab := ab) (ta := ta) (dr := dr) (nx := nx) (f := f) (n := n) (dN := dN) (mN := mN) (xN := xN) (cN := cN) (mc := mc) (ct := ct) (cv := cv) (cg := cg) (cT := cT) (cp := cp) (by omega) hd hx N))
                · rw [e1, e2]; exact h_read_t (k_read_n hv hu T h5 hk hk4 hb r0 r1) rfl
                · rw [e1, e2]; simp only [fw_eq]; exact r_read_n hv hu T h5 hk hk4 hbp (fun z => r0 (n_rda_pr.1 z)) (fun z => r1 (n_rda_pr.1 z))
          · refine l_9 hi hn (k := 3) (q := 1) (ou1 := ou) (b := 0) (fun z => absurd z (by decide)) ?_ ?_ (K 1 3 _ _ _ _ (by omega) (R_on (ou := ou) (sl := sl) (ex := ex) (ab := ab) (ta := ta) (dr := dr) (nx := nx) (f := f) (n := n) (dN := dN) (mN := mN) (xN := xN) (cN := cN) (mc := mc) (ct := ct) (cv := cv) (cg := cg) (cT := cT) (cp := cp) (by omega) hd hx N))
            · rw [e1]; exact h_read_t (k_read_nw hv hu T h5 (fun z => h3 z.2)) rfl
            · rw [e1]; simp only [fw_eq]; exact r_read_hi hv hu T h0 h3
  · refine l_9 hi hn (k := 1) (q := 1) (ou1 := ou) (b := 0) (fun z => absurd z (by decide)) ?_ ?_ (K 1 1 _ _ _ _ (by omega) (R_off (ou := ou) (sl := sl) (ex := ex) (ab := ab) (ta := ta) (dr := dr) (nx := nx) (mc := mc) (cv := cv) (cg := cg) (cT := cT) (cp := cp) (by omega) hd hx hz V hb hA))
    · exact h_read_t (k_read_off) rfl
    · simp only [fw_eq]; exact r_read_off
end XkSt2
