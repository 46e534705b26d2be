section XkSt1
theorem n_dk (g : Int32) : (g < 0 ∨ Int32.ofInt 4 ≤ g) ∨ ∃ j, j < 4 ∧ g = Int32.ofNat j := by
  by_cases h : g < 0
  · exact .inl (.inl h)
  · by_cases h2 : Int32.ofInt 4 ≤ g
    · exact .inl (.inr h2)
    · exact .inr (xn_of h h2 (by omega))
theorem n_vol {t : Nat → Int32} {f : Nat → Nat} {v : Nat} (T : s_Tv t f) (hv : v < 4) : t (5 + v) = 0 ↔ f (5 + v) = 0 := by
  rw [T.w (5 + v) (by omega) (by omega)]
  have : ∀ D, D ∈ s_dv → D < 2147483648 := by decide
  exact xn_inj (b := 0) (this _ (T.v v hv)) (by omega)
theorem t_20 {sc : Nat × (Nat → Int32)} {i B : Nat} {th : Int32} {ou : Nat → Int64} {W : xk_W} {y5 y6 : Value} {Φ : xk_R → Prop} (h : s_R B th ou W) (hB : B + 2 < 2147483648) (hi : i + 3 < sc.1) (hn : sc.1 < 2147483648) (K : s_K sc i B Φ) : xk_Po (xp_P sc) 180 722 [.ref 999, .ref 0, .ref 10, .ref 16, .int (Int32.ofNat i), y5, y6] [] W Φ := by
  rcases h with ⟨sl, ex, ab, ta, dr, nx, f, n, dN, mN, xN, cN, mc, ct, cv, cg, cT, cp, hd, hx, N, rfl⟩ | ⟨sl, ex, ab, ta, dr, nx, mc, cv, cg, cT, cp, hd, hx, hz, V, hb, hA, rfl⟩
  · exact l_20 hi hn (by have h := c_number (sc := sc) (sl := sl) (ex := ex) (ab := ab) (ta := ta) (dr := dr) (md := n_md dN) (ml := n_ml mN) (mt := n_mt xN) (mc := mc) (on := 1) (ct := ct) (r := mrr th (n_pr ab) sl ex ta nx 1 ct (n_md dN) cv cg cT cp ou); rw [if_neg (show ¬ (1 : Int32) = 0 by decide)] at h; exact h) (by simp only [fw_eq]; exact r_number_on) (by have h := K 0 0 ou _ y5 y6 (by omega) (R_on (ou := ou) (sl := sl) (ex := ex) (ab := ab) (ta := ta) (dr := dr) (nx := nx) (f := f) (n := n) (dN := dN) (mN := mN) (xN := xN) (cN := cN) (mc := mc) (ct := ct) (cv := cv) (cg := cg) (cT := cT) (cp := cp) (by omega) hd hx N); simpa using h)
  · exact l_20 hi hn (by have h := c_number (sc := sc) (sl := sl) (ex := ex) (ab := ab) (ta := ta) (dr := dr) (md := -1) (ml := -1) (mt := -1) (mc := mc) (on := 0) (ct := -1) (r := mrr th (n_pr ab) sl ex ta nx 0 (-1) (-1) cv cg cT cp ou); rw [if_pos rfl] at h; exact h) (by simp only [fw_eq]; exact r_number_off) (by have h := K 0 0 ou _ y5 y6 (by omega) (R_off (ou := ou) (sl := sl) (ex := ex) (ab := ab) (ta := ta) (dr := dr) (nx := nx) (mc := mc) (cv := cv) (cg := cg) (cT := cT) (cp := cp) (by omega) hd hx hz V hb hA); simpa using h)
theorem t_15 {sc : Nat × (Nat → Int32)} {i B : Nat} {th : Int32} {ou : Nat → Int64} {W : xk_W} {y5 y6 : Value} {Φ : xk_R → Prop} (h : s_R B th ou W) (hB : B + 2 < 2147483648) (hi : i + 3 < sc.1) (hn : sc.1 < 2147483648) (K : s_K sc i B Φ) : xk_Po (xp_P sc) 180 572 [.ref 999, .ref 0, .ref 10, .ref 16, .int (Int32.ofNat i), y5, y6] [] W Φ := by
  rcases h with ⟨sl, ex, ab, ta, dr, nx, f, n, dN, mN, xN, cN, mc, ct, cv, cg, cT, cp, hd, hx, N, rfl⟩ | ⟨sl, ex, ab, ta, dr, nx, mc, cv, cg, cT, cp, hd, hx, hz, V, hb, hA, rfl⟩
  · have O := N.1
    have T := O.2.2.1
    have hb := O.2.1
    obtain ⟨hC, hQ⟩ := N.cp
    rcases n_dk (sc.2 (i + 1)) with hg | ⟨j, hj, e1⟩
    · refine l_15 hi hn (k := 2) (q := 1) (ou1 := ou) (b := 0) (fun z => absurd z (by decide)) ?_ ?_ (K 1 2 _ _ _ _ (by omega) (R_on (ou := ou) (sl := sl) (ex := ex) (ab := ab) (ta := ta) (dr := dr) (nx := nx) (f := f) (n := n) (dN := dN) (mN := mN) (xN := xN) (cN := cN) (mc := mc) (ct := ct) (cv := cv) (cg := cg) (cT := cT) (cp := cp) (by omega) hd hx N))
      · exact h_free_t (c_free_nd (show ¬ (1 : Int32) = 0 by decide) (fun z => hg.elim z.1 z.2)) rfl
      · simp only [fw_eq]; exact r_free_nd hg
    · have hx0 := (s_On_ext O hj).1
      by_cases hl : ta (1 + j) = 0
      · refine l_15 hi hn (k := 0) (q := 0) (ou1 := vp_updL ou 0 (-1).toInt64) (b := -1) (fun _ => if_pos rfl) ?_ ?_ (K 0 0 _ _ _ _ (by omega) (R_on (ou := vp_updL ou 0 (-1).toInt64) (sl := sl) (ex := ex) (ab := ab) (ta := ta) (dr := dr) (nx := nx) (f := f) (n := n) (dN := dN) (mN := mN) (xN := xN) (cN := cN) (mc := mc) (ct := ct) (cv := cv) (cg := cg) (cT := cT) (cp := cp) (by omega) hd hx N))
        · rw [e1]; exact h_free (by have h := c_free (sc := sc) (sl := sl) (ex := ex) (ab := ab) (ta := ta) (dr := dr) (md := n_md dN) (ml := n_ml mN) (mt := n_mt xN) (mc := mc) (on := 1) (ct := ct) (r := mrr th (n_pr ab) sl ex ta nx 1 ct (n_md dN) cv cg cT cp ou) (show ¬ (1 : Int32) = 0 by decide) hj; rw [if_pos hl] at h; exact h)
        · rw [e1]; simp only [fw_eq]; exact r_free_nl hj hl
      · refine l_15 hi hn (k := 0) (q := 0) (ou1 := vp_updL ou 0 (Int32.ofNat (n_cf f xN j)).toInt64) (b := Int32.ofNat (n_cf f xN j)) (fun _ => if_pos rfl) ?_ ?_ (K 0 0 _ _ _ _ (by omega) (R_on (ou := vp_updL ou 0 (Int32.ofNat (n_cf f xN j)).toInt64) (sl := sl) (ex := ex) (ab := ab) (ta := ta) (dr := dr) (nx := nx) (f := f) (n := n) (dN := dN) (mN := mN) (xN := xN) (cN := cN) (mc := mc) (ct := ct) (cv := cv) (cg := cg) (cT := cT) (cp := cp) (by omega) hd hx N))
        · rw [e1]; exact h_free (by have h := c_free (sc := sc) (sl := sl) (ex := ex) (ab := ab) (ta := ta) (dr := dr) (md := n_md dN) (ml := n_ml mN) (mt := n_mt xN) (mc := mc) (on := 1) (ct := ct) (r := mrr th (n_pr ab) sl ex ta nx 1 ct (n_md dN) cv cg cT cp ou) (show ¬ (1 : Int32) = 0 by decide) hj; rw [if_neg hl, n_free_eq T hj O.2.2.2.2.2.2.2.2] at h; exact h)
        · rw [e1]; simp only [fw_eq]; exact r_free hj hl T hC
  · refine l_15 hi hn (k := 1) (q := 1) (ou1 := ou) (b := 0) (fun z => absurd z (by decide)) ?_ ?_ (K 1 1 _ _ _ _ (by omega) (R_off (ou := ou) (sl := sl) (ex := ex) (ab := ab) (ta := ta) (dr := dr) (nx := nx) (mc := mc) (cv := cv) (cg := cg) (cT := cT) (cp := cp) (by omega) hd hx hz V hb hA))
    · exact h_free_t (c_free_off rfl) rfl
    · simp only [fw_eq]; exact r_free_off
theorem t_10 {sc : Nat × (Nat → Int32)} {i B : Nat} {th : Int32} {ou : Nat → Int64} {W : xk_W} {y5 y6 : Value} {Φ : xk_R → Prop} (h : s_R B th ou W) (hB : B + 2 < 2147483648) (hi : i + 3 < sc.1) (hn : sc.1 < 2147483648) (K : s_K sc i B Φ) : xk_Po (xp_P sc) 180 405 [.ref 999, .ref 0, .ref 10, .ref 16, .int (Int32.ofNat i), y5, y6] [] W Φ := by
  rcases h with ⟨sl, ex, ab, ta, dr, nx, f, n, dN, mN, xN, cN, mc, ct, cv, cg, cT, cp, hd, hx, N, rfl⟩ | ⟨sl, ex, ab, ta, dr, nx, mc, cv, cg, cT, cp, hd, hx, hz, V, hb, hA, rfl⟩
  · have O := N.1
    have T := O.2.2.1
    have hb := O.2.1
    obtain ⟨hC, hQ⟩ := N.cp
    rcases n_dk (sc.2 (i + 1)) with hg | ⟨j, hj, e1⟩
    · refine l_10 hi hn (k := 2) (q := 1) (ou1 := ou) (b := 0) (fun z => absurd z (by decide)) ?_ ?_ (K 1 2 _ _ _ _ (by omega) (R_on (ou := ou) (sl := sl) (ex := ex) (ab := ab) (ta := ta) (dr := dr) (nx := nx) (f := f) (n := n) (dN := dN) (mN := mN) (xN := xN) (cN := cN) (mc := mc) (ct := ct) (cv := cv) (cg := cg) (cT := cT) (cp := cp) (by omega) hd hx N))
      · exact h_empty_t (c_empty_nd (show ¬ (1 : Int32) = 0 by decide) (fun z => hg.elim z.1 z.2)) rfl
      · simp only [fw_eq]; exact r_empty_nd hg
    · have hx0 := (s_On_ext O hj).1
      obtain ⟨M1, M2, M3, M4⟩ := O.2.2.2.2.2
      by_cases hl : ta (1 + j) = 0
      · refine l_10 hi hn (k := 3) (q := 1) (ou1 := ou) (b := 0) (fun z => absurd z (by decide)) ?_ ?_ (K 1 3 _ _ _ _ (by omega) (R_on (ou := ou) (sl := sl) (ex := ex) (ab := ab) (ta := ta) (dr := dr) (nx := nx) (f := f) (n := n) (dN := dN) (mN := mN) (xN := xN) (cN := cN) (mc := mc) (ct := ct) (cv := cv) (cg := cg) (cT := cT) (cp := cp) (by omega) hd hx N))
        · rw [e1]; exact h_empty_t (c_empty_nl (show ¬ (1 : Int32) = 0 by decide) hj hl) rfl
        · rw [e1]; simp only [fw_eq]; exact r_empty_nl hj hl
      · by_cases h4 : dN < 4
        · refine l_10 hi hn (k := 3) (q := 1) (ou1 := ou) (b := 0) (fun z => absurd z (by decide)) ?_ ?_ (K 1 3 _ _ _ _ (by omega) (R_on (ou := ou) (sl := sl) (ex := ex) (ab := ab) (ta := ta) (dr := dr) (nx := nx) (f := f) (n := n) (dN := dN) (mN := mN) (xN := xN) (cN := cN) (mc := mc) (ct := ct) (cv := cv) (cg := cg) (cT := cT) (cp := cp) (by omega) hd hx N))
          · rw [e1]; exact h_empty_t (c_empty_mv (show ¬ (1 : Int32) = 0 by decide) hj hl (by rw [show n_md dN = Int32.ofNat dN from if_pos h4]; exact n_ne1 (by omega))) rfl
          · rw [e1]; simp only [fw_eq]; exact r_empty_mv hj hl (show (0 : Int32) ≤ n_md dN from Decidable.byContradiction (fun z => n_md_neg.1 (by rw [Int32.lt_iff_toInt_lt]; rw [Int32.le_iff_toInt_le] at z; omega) h4))
        · by_cases hq : n_all f ab
          · refine l_10 hi hn (k := 0) (q := 0) (ou1 := vp_updL ou 0 (Int32.ofNat (n_cnt (n_on f j) 40)).toInt64) (b := Int32.ofNat (n_cnt (n_on f j) 40)) (fun _ => if_pos rfl) ?_ ?_ (K 0 0 _ _ _ _ (by omega) (R_on (ou := vp_updL ou 0 (Int32.ofNat (n_cnt (n_on f j) 40)).toInt64) (sl := sl) (ex := ex) (ab := ab) (ta := ta) (dr := dr) (nx := nx) (f := f) (n := n) (dN := j) (mN := mN) (xN := xN) (cN := cN) (mc := mc) (ct := ct) (cv := cv) (cg := cg) (cT := 0) (cp := cp) (by omega) hd hx ⟨⟨O.1, O.2.1, T, O.2.2.2.1, O.2.2.2.2.1, fun _ => hq, fun z => absurd (M2 z).1 h4, fun z => absurd (M2 (M3 z)).1 h4, M4⟩, N.2.1, fun z => absurd (M2 z).1 h4, fun _ => (if_neg (fun z => h4 (M2 (M3 z)).1)).symm⟩))
            · rw [e1]; exact h_empty (by have h := c_empty (sc := sc) (sl := sl) (ex := ex) (ab := ab) (ta := ta) (dr := dr) (md := n_md dN) (ml := n_ml mN) (mt := n_mt xN) (mc := mc) (on := 1) (ct := ct) (r := mrr th (n_pr ab) sl ex ta nx 1 ct (n_md dN) cv cg cT cp ou) (show ¬ (1 : Int32) = 0 by decide) hj hl (if_neg h4) hb ((s_absent T).2 hq); rw [s_cnt_on T hj] at h; rw [show n_md j = Int32.ofNat j from if_pos hj]; exact h)
            · rw [e1]; simp only [fw_eq]; exact (by have h := r_empty (sc := sc) (p := c10 sl ex ab ta dr (Int32.ofNat j) (n_ml mN) (n_mt xN) mc 1 ct) (th := th) (pr := n_pr ab) (sl := sl) (ex := ex) (ta := ta) (nx := nx) (lf := ct) (mo := n_md dN) (cv := cv) (cg := cg) (cT := cT) (cp := cp) (r := [.inl (2, 1, .inr (vp_updL ou 0 (Int32.ofNat (n_cnt (n_on f j) 40)).toInt64))]) hj hl (fun z => by have := n_md_neg.2 h4; rw [Int32.lt_iff_toInt_lt] at this; rw [Int32.le_iff_toInt_le] at z; omega) ((p_abs_eq T 4 (by omega)).2 hq); rw [p_leg_eq T hj 40 (by omega)] at h; rw [show n_md j = Int32.ofNat j from if_pos hj]; exact h)
          · refine l_10 hi hn (k := 3) (q := 1) (ou1 := ou) (b := 0) (fun z => absurd z (by decide)) ?_ ?_ (K 1 3 _ _ _ _ (by omega) (R_on (ou := ou) (sl := sl) (ex := ex) (ab := ab) (ta := ta) (dr := dr) (nx := nx) (f := f) (n := n) (dN := dN) (mN := mN) (xN := xN) (cN := cN) (mc := mc) (ct := ct) (cv := cv) (cg := cg) (cT := cT) (cp := cp) (by omega) hd hx N))
            · rw [e1]; exact h_empty_t (c_empty_ab (show ¬ (1 : Int32) = 0 by decide) hj hl (if_neg h4) hb (fun z => hq ((s_absent T).1 z))) rfl
            · rw [e1]; simp only [fw_eq]; exact r_empty_ab hj hl (fun z => by have := n_md_neg.2 h4; rw [Int32.lt_iff_toInt_lt] at this; rw [Int32.le_iff_toInt_le] at z; omega) (fun z => hq ((p_abs_eq T 4 (by omega)).1 z))
  · refine l_10 hi hn (k := 1) (q := 1) (ou1 := ou) (b := 0) (fun z => absurd z (by decide)) ?_ ?_ (K 1 1 _ _ _ _ (by omega) (R_off (ou := ou) (sl := sl) (ex := ex) (ab := ab) (ta := ta) (dr := dr) (nx := nx) (mc := mc) (cv := cv) (cg := cg) (cT := cT) (cp := cp) (by omega) hd hx hz V hb hA))
    · exact h_empty_t (c_empty_off rfl) rfl
    · simp only [fw_eq]; exact r_empty_off
end XkSt1
