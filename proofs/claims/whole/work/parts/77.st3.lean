section XkSt3
theorem n_23 {a : Int32} (h : Int32.ofInt 3 ≤ a) : Int32.ofInt 2 ≤ a := by
  rw [Int32.le_iff_toInt_le] at h ⊢
  have q1 : (Int32.ofInt 3).toInt = 3 := (by decide)
  have q2 : (Int32.ofInt 2).toInt = 2 := (by decide)
  omega
theorem n_lt2 {a : Int32} (h3 : ¬ Int32.ofInt 3 ≤ a) (h2 : ¬ a = Int32.ofInt 2) : ¬ Int32.ofInt 2 ≤ a := by
  intro z
  apply h2
  apply Int32.toInt_inj.1
  rw [Int32.le_iff_toInt_le] at h3 z
  have q1 : (Int32.ofInt 3).toInt = 3 := (by decide)
  have q2 : (Int32.ofInt 2).toInt = 2 := (by decide)
  omega
theorem n_pr_up0 {ab : Nat → Int32} {j : Nat} : upd (n_pr ab) j 0 = n_pr (upd ab j 1) := by
  funext i
  by_cases q : i = j
  · rw [show upd (n_pr ab) j 0 i = 0 from if_pos q]
    unfold n_pr
    rw [show upd ab j 1 i = 1 from if_pos q, if_neg (by decide)]
  · rw [show upd (n_pr ab) j 0 i = n_pr ab i from if_neg q]
    unfold n_pr
    rw [show upd ab j 1 i = ab i from if_neg q]
theorem n_pr_up1 {ab : Nat → Int32} {j : Nat} : upd (n_pr ab) j 1 = n_pr (upd ab j 0) := by
  funext i
  by_cases q : i = j
  · rw [show upd (n_pr ab) j 1 i = 1 from if_pos q]
    unfold n_pr
    rw [show upd ab j 0 i = 0 from if_pos q, if_pos rfl]
  · rw [show upd (n_pr ab) j 1 i = n_pr ab i from if_neg q]
    unfold n_pr
    rw [show upd ab j 0 i = ab i from if_neg q]
theorem n_ab_up {ab : Nat → Int32} {j : Nat} {b : Int32} (hb : ∀ i, ab i = 0 ∨ ab i = 1) (h : b = 0 ∨ b = 1) : ∀ i, upd ab j b i = 0 ∨ upd ab j b i = 1 := fun i => by
  unfold upd
  by_cases q : i = j
  · rw [if_pos q]
    exact h
  · rw [if_neg q]
    exact hb i
theorem t_21 {sc : Nat × (Nat → Int32)} {i B : Nat} {th : Int32} {ou : Nat → Int64} {W : xk_W} {y5 y6 : Value} {Φ : xk_R → Prop} (h : s_R B th ou W) (hB : B + 2 < 2147483648) (hi : i + 3 < sc.1) (hn : sc.1 < 2147483648) (K : s_K sc i B Φ) : xk_Po (xp_P sc) 180 729 [.ref 999, .ref 0, .ref 10, .ref 16, .int (Int32.ofNat i), y5, y6] [] W Φ := by
  rcases h with ⟨sl, ex, ab, ta, dr, nx, f, n, dN, mN, xN, cN, mc, ct, cv, cg, cT, cp, hd, hx, N, rfl⟩ | ⟨sl, ex, ab, ta, dr, nx, mc, cv, cg, cT, cp, hd, hx, hz, V, hb, hA, rfl⟩
  · rcases n_dk (sc.2 (i + 1)) with hg | ⟨j, hj, e1⟩
    · refine l_21 hi hn (k := 1) (q := 1) (ou1 := ou) (b := 0) (fun z => absurd z (by decide)) ?_ ?_ (K 1 1 _ _ _ _ (by omega) (R_on (ou := ou) (sl := sl) (ex := ex) (ab := ab) (ta := ta) (dr := dr) (nx := nx) (f := f) (n := n) (dN := dN) (mN := mN) (xN := xN) (cN := cN) (mc := mc) (ct := ct) (cv := cv) (cg := cg) (cT := cT) (cp := cp) (by omega) hd hx N))
      · exact h_look_t (c_look_out (fun z => hg.elim z.1.1 z.1.2)) rfl
      · simp only [fw_eq]; exact r_look_1 hg
    · by_cases h0 : sc.2 (i + 2) < 0
      · refine l_21 hi hn (k := 1) (q := 1) (ou1 := ou) (b := 0) (fun z => absurd z (by decide)) ?_ ?_ (K 1 1 _ _ _ _ (by omega) (R_on (ou := ou) (sl := sl) (ex := ex) (ab := ab) (ta := ta) (dr := dr) (nx := nx) (f := f) (n := n) (dN := dN) (mN := mN) (xN := xN) (cN := cN) (mc := mc) (ct := ct) (cv := cv) (cg := cg) (cT := cT) (cp := cp) (by omega) hd hx N))
        · rw [e1]; exact h_look_t (c_look_out (fun z => z.2.elim (fun q => q.1 h0) (fun q => by rw [q.1] at h0; exact absurd h0 (by decide)))) rfl
        · rw [e1]; simp only [fw_eq]; exact r_look_2 hj h0
      · by_cases h3 : Int32.ofInt 3 ≤ sc.2 (i + 2)
        · refine l_21 hi hn (k := 1) (q := 1) (ou1 := ou) (b := 0) (fun z => absurd z (by decide)) ?_ ?_ (K 1 1 _ _ _ _ (by omega) (R_on (ou := ou) (sl := sl) (ex := ex) (ab := ab) (ta := ta) (dr := dr) (nx := nx) (f := f) (n := n) (dN := dN) (mN := mN) (xN := xN) (cN := cN) (mc := mc) (ct := ct) (cv := cv) (cg := cg) (cT := cT) (cp := cp) (by omega) hd hx N))
          · rw [e1]; exact h_look_t (c_look_out (fun z => z.2.elim (fun q => q.2.1 (n_23 h3)) (fun q => by rw [q.1] at h3; exact absurd h3 (by decide)))) rfl
          · rw [e1]; simp only [fw_eq]; exact r_look_3 hj h0 h3
        · by_cases hb0 : sc.2 (i + 3) < 0
          · refine l_21 hi hn (k := 1) (q := 1) (ou1 := ou) (b := 0) (fun z => absurd z (by decide)) ?_ ?_ (K 1 1 _ _ _ _ (by omega) (R_on (ou := ou) (sl := sl) (ex := ex) (ab := ab) (ta := ta) (dr := dr) (nx := nx) (f := f) (n := n) (dN := dN) (mN := mN) (xN := xN) (cN := cN) (mc := mc) (ct := ct) (cv := cv) (cg := cg) (cT := cT) (cp := cp) (by omega) hd hx N))
            · rw [e1]; exact h_look_t (c_look_out (fun z => z.2.elim (fun q => q.2.2.1 hb0) (fun q => q.2.1 hb0))) rfl
            · rw [e1]; simp only [fw_eq]; exact r_look_4 hj h0 h3 hb0
          · by_cases h2 : sc.2 (i + 2) = Int32.ofInt 2
            · by_cases hb1 : Int32.ofInt 32 ≤ sc.2 (i + 3)
              · refine l_21 hi hn (k := 1) (q := 1) (ou1 := ou) (b := 0) (fun z => absurd z (by decide)) ?_ ?_ (K 1 1 _ _ _ _ (by omega) (R_on (ou := ou) (sl := sl) (ex := ex) (ab := ab) (ta := ta) (dr := dr) (nx := nx) (f := f) (n := n) (dN := dN) (mN := mN) (xN := xN) (cN := cN) (mc := mc) (ct := ct) (cv := cv) (cg := cg) (cT := cT) (cp := cp) (by omega) hd hx N))
                · rw [e1]; exact h_look_t (c_look_out (fun z => z.2.elim (fun q => q.2.1 (by rw [h2]; exact Int32.le_refl _)) (fun q => q.2.2 hb1))) rfl
                · rw [e1]; simp only [fw_eq]; exact r_look_5 hj h0 h3 hb0 h2 hb1
              · obtain ⟨k, hk, e3⟩ := xn_of (n := 32) hb0 hb1 (by omega)
                refine l_21 hi hn (k := 0) (q := 0) (ou1 := vp_updL ou 0 (ex (j * 8 * 4 + k)).toInt64) (b := ex (j * 8 * 4 + k)) (fun _ => if_pos rfl) ?_ ?_ (K 0 0 _ _ _ _ (by omega) (R_on (ou := vp_updL ou 0 (ex (j * 8 * 4 + k)).toInt64) (sl := sl) (ex := ex) (ab := ab) (ta := ta) (dr := dr) (nx := nx) (f := f) (n := n) (dN := dN) (mN := mN) (xN := xN) (cN := cN) (mc := mc) (ct := ct) (cv := cv) (cg := cg) (cT := cT) (cp := cp) (by omega) hd hx N))
                · rw [e1, h2, e3]; exact h_look (c_look_ext hj hk)
                · rw [e1, h2, e3]; simp only [fw_eq]; exact r_look_ext hj hk
            · by_cases hb1 : Int32.ofInt 51 ≤ sc.2 (i + 3)
              · refine l_21 hi hn (k := 1) (q := 1) (ou1 := ou) (b := 0) (fun z => absurd z (by decide)) ?_ ?_ (K 1 1 _ _ _ _ (by omega) (R_on (ou := ou) (sl := sl) (ex := ex) (ab := ab) (ta := ta) (dr := dr) (nx := nx) (f := f) (n := n) (dN := dN) (mN := mN) (xN := xN) (cN := cN) (mc := mc) (ct := ct) (cv := cv) (cg := cg) (cT := cT) (cp := cp) (by omega) hd hx N))
                · rw [e1]; exact h_look_t (c_look_out (fun z => z.2.elim (fun q => q.2.2.2 hb1) (fun q => h2 q.1))) rfl
                · rw [e1]; simp only [fw_eq]; exact r_look_6 hj h0 h3 hb0 h2 hb1
              · obtain ⟨k, hk, e3⟩ := xn_of (n := 51) hb0 hb1 (by omega)
                obtain ⟨s, hs, e2⟩ := xn_of (n := 2) h0 (n_lt2 h3 h2) (by omega)
                refine l_21 hi hn (k := 0) (q := 0) (ou1 := vp_updL ou 0 (sl (s_start j s + k)).toInt64) (b := sl (s_start j s + k)) (fun _ => if_pos rfl) ?_ ?_ (K 0 0 _ _ _ _ (by omega) (R_on (ou := vp_updL ou 0 (sl (s_start j s + k)).toInt64) (sl := sl) (ex := ex) (ab := ab) (ta := ta) (dr := dr) (nx := nx) (f := f) (n := n) (dN := dN) (mN := mN) (xN := xN) (cN := cN) (mc := mc) (ct := ct) (cv := cv) (cg := cg) (cT := cT) (cp := cp) (by omega) hd hx N))
                · rw [e1, e2, e3]; exact h_look (c_look_slot hj hs hk)
                · rw [e1, e2, e3]; simp only [fw_eq]; exact r_look_slot hj hs hk
  · rcases n_dk (sc.2 (i + 1)) with hg | ⟨j, hj, e1⟩
    · refine l_21 hi hn (k := 1) (q := 1) (ou1 := ou) (b := 0) (fun z => absurd z (by decide)) ?_ ?_ (K 1 1 _ _ _ _ (by omega) (R_off (ou := ou) (sl := sl) (ex := ex) (ab := ab) (ta := ta) (dr := dr) (nx := nx) (mc := mc) (cv := cv) (cg := cg) (cT := cT) (cp := cp) (by omega) hd hx hz V hb hA))
      · exact h_look_t (c_look_out (fun z => hg.elim z.1.1 z.1.2)) rfl
      · simp only [fw_eq]; exact r_look_1 hg
    · by_cases h0 : sc.2 (i + 2) < 0
      · refine l_21 hi hn (k := 1) (q := 1) (ou1 := ou) (b := 0) (fun z => absurd z (by decide)) ?_ ?_ (K 1 1 _ _ _ _ (by omega) (R_off (ou := ou) (sl := sl) (ex := ex) (ab := ab) (ta := ta) (dr := dr) (nx := nx) (mc := mc) (cv := cv) (cg := cg) (cT := cT) (cp := cp) (by omega) hd hx hz V hb hA))
        · rw [e1]; exact h_look_t (c_look_out (fun z => z.2.elim (fun q => q.1 h0) (fun q => by rw [q.1] at h0; exact absurd h0 (by decide)))) rfl
        · rw [e1]; simp only [fw_eq]; exact r_look_2 hj h0
      · by_cases h3 : Int32.ofInt 3 ≤ sc.2 (i + 2)
        · refine l_21 hi hn (k := 1) (q := 1) (ou1 := ou) (b := 0) (fun z => absurd z (by decide)) ?_ ?_ (K 1 1 _ _ _ _ (by omega) (R_off (ou := ou) (sl := sl) (ex := ex) (ab := ab) (ta := ta) (dr := dr) (nx := nx) (mc := mc) (cv := cv) (cg := cg) (cT := cT) (cp := cp) (by omega) hd hx hz V hb hA))
          · rw [e1]; exact h_look_t (c_look_out (fun z => z.2.elim (fun q => q.2.1 (n_23 h3)) (fun q => by rw [q.1] at h3; exact absurd h3 (by decide)))) rfl
          · rw [e1]; simp only [fw_eq]; exact r_look_3 hj h0 h3
        · by_cases hb0 : sc.2 (i + 3) < 0
          · refine l_21 hi hn (k := 1) (q := 1) (ou1 := ou) (b := 0) (fun z => absurd z (by decide)) ?_ ?_ (K 1 1 _ _ _ _ (by omega) (R_off (ou := ou) (sl := sl) (ex := ex) (ab := ab) (ta := ta) (dr := dr) (nx := nx) (mc := mc) (cv := cv) (cg := cg) (cT := cT) (cp := cp) (by omega) hd hx hz V hb hA))
            · rw [e1]; exact h_look_t (c_look_out (fun z => z.2.elim (fun q => q.2.2.1 hb0) (fun q => q.2.1 hb0))) rfl
            · rw [e1]; simp only [fw_eq]; exact r_look_4 hj h0 h3 hb0
          · by_cases h2 : sc.2 (i + 2) = Int32.ofInt 2
            · by_cases hb1 : Int32.ofInt 32 ≤ sc.2 (i + 3)
              · refine l_21 hi hn (k := 1) (q := 1) (ou1 := ou) (b := 0) (fun z => absurd z (by decide)) ?_ ?_ (K 1 1 _ _ _ _ (by omega) (R_off (ou := ou) (sl := sl) (ex := ex) (ab := ab) (ta := ta) (dr := dr) (nx := nx) (mc := mc) (cv := cv) (cg := cg) (cT := cT) (cp := cp) (by omega) hd hx hz V hb hA))
                · rw [e1]; exact h_look_t (c_look_out (fun z => z.2.elim (fun q => q.2.1 (by rw [h2]; exact Int32.le_refl _)) (fun q => q.2.2 hb1))) rfl
                · rw [e1]; simp only [fw_eq]; exact r_look_5 hj h0 h3 hb0 h2 hb1
              · obtain ⟨k, hk, e3⟩ := xn_of (n := 32) hb0 hb1 (by omega)
                refine l_21 hi hn (k := 0) (q := 0) (ou1 := vp_updL ou 0 (ex (j * 8 * 4 + k)).toInt64) (b := ex (j * 8 * 4 + k)) (fun _ => if_pos rfl) ?_ ?_ (K 0 0 _ _ _ _ (by omega) (R_off (ou := vp_updL ou 0 (ex (j * 8 * 4 + k)).toInt64) (sl := sl) (ex := ex) (ab := ab) (ta := ta) (dr := dr) (nx := nx) (mc := mc) (cv := cv) (cg := cg) (cT := cT) (cp := cp) (by omega) hd hx hz V hb hA))
                · rw [e1, h2, e3]; exact h_look (c_look_ext hj hk)
                · rw [e1, h2, e3]; simp only [fw_eq]; exact r_look_ext hj hk
            · by_cases hb1 : Int32.ofInt 51 ≤ sc.2 (i + 3)
              · refine l_21 hi hn (k := 1) (q := 1) (ou1 := ou) (b := 0) (fun z => absurd z (by decide)) ?_ ?_ (K 1 1 _ _ _ _ (by omega) (R_off (ou := ou) (sl := sl) (ex := ex) (ab := ab) (ta := ta) (dr := dr) (nx := nx) (mc := mc) (cv := cv) (cg := cg) (cT := cT) (cp := cp) (by omega) hd hx hz V hb hA))
                · rw [e1]; exact h_look_t (c_look_out (fun z => z.2.elim (fun q => q.2.2.2 hb1) (fun q => h2 q.1))) rfl
                · rw [e1]; simp only [fw_eq]; exact r_look_6 hj h0 h3 hb0 h2 hb1
              · obtain ⟨k, hk, e3⟩ := xn_of (n := 51) hb0 hb1 (by omega)
                obtain ⟨s, hs, e2⟩ := xn_of (n := 2) h0 (n_lt2 h3 h2) (by omega)
                refine l_21 hi hn (k := 0) (q := 0) (ou1 := vp_updL ou 0 (sl (s_start j s + k)).toInt64) (b := sl (s_start j s + k)) (fun _ => if_pos rfl) ?_ ?_ (K 0 0 _ _ _ _ (by omega) (R_off (ou := vp_updL ou 0 (sl (s_start j s + k)).toInt64) (sl := sl) (ex := ex) (ab := ab) (ta := ta) (dr := dr) (nx := nx) (mc := mc) (cv := cv) (cg := cg) (cT := cT) (cp := cp) (by omega) hd hx hz V hb hA))
                · rw [e1, e2, e3]; exact h_look (c_look_slot hj hs hk)
                · rw [e1, e2, e3]; simp only [fw_eq]; exact r_look_slot hj hs hk
theorem t_18a {sc : Nat × (Nat → Int32)} {i B : Nat} {th : Int32} {ou : Nat → Int64} {W : xk_W} {y5 y6 : Value} {Φ : xk_R → Prop} (h : s_R B th ou W) (hB : B + 2 < 2147483648) (hi : i + 3 < sc.1) (hn : sc.1 < 2147483648) (hp : sc.2 (i + 2) = 0) (K : s_K sc i B Φ) : xk_Po (xp_P sc) 180 641 [.ref 999, .ref 0, .ref 10, .ref 16, .int (Int32.ofNat i), y5, y6] [] W Φ := by
  rcases h with ⟨sl, ex, ab, ta, dr, nx, f, n, dN, mN, xN, cN, mc, ct, cv, cg, cT, cp, hd, hx, N, rfl⟩ | ⟨sl, ex, ab, ta, dr, nx, mc, cv, cg, cT, cp, hd, hx, hz, V, hb, hA, rfl⟩
  · refine l_18a hi hn (k := 1) (q := 1) (ou1 := ou) (b := 0) (fun z => absurd z (by decide)) hp ?_ ?_ (K 1 1 _ _ _ _ (by omega) (R_on (ou := ou) (sl := sl) (ex := ex) (ab := ab) (ta := ta) (dr := dr) (nx := nx) (f := f) (n := n) (dN := dN) (mN := mN) (xN := xN) (cN := cN) (mc := mc) (ct := ct) (cv := cv) (cg := cg) (cT := cT) (cp := cp) (by omega) hd hx N))
    · exact h_plug_t (c_plug_on (show ¬ (1 : Int32) = 0 by decide)) rfl
    · simp only [fw_eq]; exact r_plug_on
  · rcases n_dk (sc.2 (i + 1)) with hg | ⟨j, hj, e1⟩
    · refine l_18a hi hn (k := 2) (q := 1) (ou1 := ou) (b := 0) (fun z => absurd z (by decide)) hp ?_ ?_ (K 1 2 _ _ _ _ (by omega) (R_off (ou := ou) (sl := sl) (ex := ex) (ab := ab) (ta := ta) (dr := dr) (nx := nx) (mc := mc) (cv := cv) (cg := cg) (cT := cT) (cp := cp) (by omega) hd hx hz V hb hA))
      · exact h_plug_t (c_plug_nd rfl (fun z => hg.elim z.1 z.2)) rfl
      · simp only [fw_eq]; exact r_plug_nd hg
    · by_cases hv : ab j = 0
      · refine l_18a hi hn (k := 0) (q := 0) (ou1 := vp_updL ou 0 1) (b := 1) (fun _ => rfl) hp ?_ ?_ (K 0 0 _ _ _ _ (by omega) (R_off (ou := vp_updL ou 0 1) (sl := sl) (ex := ex) (ab := upd ab j 1) (ta := ta) (dr := dr) (nx := nx) (mc := mc) (cv := cv) (cg := cg) (cT := cT) (cp := cp) (by omega) hd hx hz V (n_ab_up hb (.inr rfl)) hA))
        · rw [e1]; exact h_plug1 (by have h := c_plug0 (sc := sc) (sl := sl) (ex := ex) (ab := ab) (ta := ta) (dr := dr) (md := -1) (ml := -1) (mt := -1) (mc := mc) (on := 0) (ct := -1) (r := mrr th (n_pr ab) sl ex ta nx 0 (-1) (-1) cv cg cT cp ou) rfl hj hb; rw [if_pos (by rw [hv])] at h; exact h)
        · rw [e1]; simp only [fw_eq]; exact (by have h := r_plug0n (sc := sc) (p := c10 sl ex (upd ab j 1) ta dr (-1) (-1) (-1) mc 0 (-1)) (th := th) (pr := n_pr ab) (sl := sl) (ex := ex) (ta := ta) (nx := nx) (lf := -1) (mo := -1) (cv := cv) (cg := cg) (cT := cT) (cp := cp) (r := [.inl (2, 1, .inr (vp_updL ou 0 1))]) hj (by rw [show n_pr ab j = 1 from if_pos hv]; decide); rw [n_pr_up0] at h; exact h)
      · have hv1 : ab j = 1 := (hb j).elim (fun z => absurd z hv) id
        refine l_18a hi hn (k := 0) (q := 0) (ou1 := vp_updL ou 0 0) (b := 0) (fun _ => rfl) hp ?_ ?_ (K 0 0 _ _ _ _ (by omega) (R_off (ou := vp_updL ou 0 0) (sl := sl) (ex := ex) (ab := upd ab j 1) (ta := ta) (dr := dr) (nx := nx) (mc := mc) (cv := cv) (cg := cg) (cT := cT) (cp := cp) (by omega) hd hx hz V (n_ab_up hb (.inr rfl)) hA))
        · rw [e1]; exact h_plug0 (by have h := c_plug0 (sc := sc) (sl := sl) (ex := ex) (ab := ab) (ta := ta) (dr := dr) (md := -1) (ml := -1) (mt := -1) (mc := mc) (on := 0) (ct := -1) (r := mrr th (n_pr ab) sl ex ta nx 0 (-1) (-1) cv cg cT cp ou) rfl hj hb; rw [if_neg (by rw [hv1]; decide)] at h; exact h)
        · rw [e1]; simp only [fw_eq]; exact (by have h := r_plug0y (sc := sc) (p := c10 sl ex (upd ab j 1) ta dr (-1) (-1) (-1) mc 0 (-1)) (th := th) (pr := n_pr ab) (sl := sl) (ex := ex) (ta := ta) (nx := nx) (lf := -1) (mo := -1) (cv := cv) (cg := cg) (cT := cT) (cp := cp) (r := [.inl (2, 1, .inr (vp_updL ou 0 0))]) hj (by rw [show n_pr ab j = 0 from if_neg hv]); rw [n_pr_up0] at h; exact h)
theorem t_18b {sc : Nat × (Nat → Int32)} {i B : Nat} {th : Int32} {ou : Nat → Int64} {W : xk_W} {y5 y6 : Value} {Φ : xk_R → Prop} (h : s_R B th ou W) (hB : B + 2 < 2147483648) (hi : i + 3 < sc.1) (hn : sc.1 < 2147483648) (hp : ¬ sc.2 (i + 2) = 0) (K : s_K sc i B Φ) : xk_Po (xp_P sc) 180 641 [.ref 999, .ref 0, .ref 10, .ref 16, .int (Int32.ofNat i), y5, y6] [] W Φ := by
  rcases h with ⟨sl, ex, ab, ta, dr, nx, f, n, dN, mN, xN, cN, mc, ct, cv, cg, cT, cp, hd, hx, N, rfl⟩ | ⟨sl, ex, ab, ta, dr, nx, mc, cv, cg, cT, cp, hd, hx, hz, V, hb, hA, rfl⟩
  · refine l_18b hi hn (k := 1) (q := 1) (ou1 := ou) (b := 0) (fun z => absurd z (by decide)) hp ?_ ?_ (K 1 1 _ _ _ _ (by omega) (R_on (ou := ou) (sl := sl) (ex := ex) (ab := ab) (ta := ta) (dr := dr) (nx := nx) (f := f) (n := n) (dN := dN) (mN := mN) (xN := xN) (cN := cN) (mc := mc) (ct := ct) (cv := cv) (cg := cg) (cT := cT) (cp := cp) (by omega) hd hx N))
    · exact h_plug_t (c_plug_on (show ¬ (1 : Int32) = 0 by decide)) rfl
    · simp only [fw_eq]; exact r_plug_on
  · rcases n_dk (sc.2 (i + 1)) with hg | ⟨j, hj, e1⟩
    · refine l_18b hi hn (k := 2) (q := 1) (ou1 := ou) (b := 0) (fun z => absurd z (by decide)) hp ?_ ?_ (K 1 2 _ _ _ _ (by omega) (R_off (ou := ou) (sl := sl) (ex := ex) (ab := ab) (ta := ta) (dr := dr) (nx := nx) (mc := mc) (cv := cv) (cg := cg) (cT := cT) (cp := cp) (by omega) hd hx hz V hb hA))
      · exact h_plug_t (c_plug_nd rfl (fun z => hg.elim z.1 z.2)) rfl
      · simp only [fw_eq]; exact r_plug_nd hg
    · by_cases hv : ab j = 0
      · refine l_18b hi hn (k := 0) (q := 0) (ou1 := vp_updL ou 0 0) (b := 0) (fun _ => rfl) hp ?_ ?_ (K 0 0 _ _ _ _ (by omega) (R_off (ou := vp_updL ou 0 0) (sl := sl) (ex := ex) (ab := upd ab j 0) (ta := ta) (dr := dr) (nx := nx) (mc := mc) (cv := cv) (cg := cg) (cT := cT) (cp := cp) (by omega) hd hx hz V (n_ab_up hb (.inl rfl)) hA))
        · rw [e1]; exact h_plug0 (by have h := c_plug1 (sc := sc) (sl := sl) (ex := ex) (ab := ab) (ta := ta) (dr := dr) (md := -1) (ml := -1) (mt := -1) (mc := mc) (on := 0) (ct := -1) (r := mrr th (n_pr ab) sl ex ta nx 0 (-1) (-1) cv cg cT cp ou) rfl hj hb; rw [if_neg (by rw [hv]; decide)] at h; exact h)
        · rw [e1]; simp only [fw_eq]; exact (by have h := r_plug1y (sc := sc) (p := c10 sl ex (upd ab j 0) ta dr (-1) (-1) (-1) mc 0 (-1)) (th := th) (pr := n_pr ab) (sl := sl) (ex := ex) (ta := ta) (nx := nx) (lf := -1) (mo := -1) (cv := cv) (cg := cg) (cT := cT) (cp := cp) (r := [.inl (2, 1, .inr (vp_updL ou 0 0))]) hj (by rw [show n_pr ab j = 1 from if_pos hv]); rw [n_pr_up1] at h; exact h)
      · have hv1 : ab j = 1 := (hb j).elim (fun z => absurd z hv) id
        refine l_18b hi hn (k := 0) (q := 0) (ou1 := vp_updL ou 0 1) (b := 1) (fun _ => rfl) hp ?_ ?_ (K 0 0 _ _ _ _ (by omega) (R_off (ou := vp_updL ou 0 1) (sl := sl) (ex := ex) (ab := upd ab j 0) (ta := ta) (dr := dr) (nx := nx) (mc := mc) (cv := cv) (cg := cg) (cT := cT) (cp := cp) (by omega) hd hx hz V (n_ab_up hb (.inl rfl)) hA))
        · rw [e1]; exact h_plug1 (by have h := c_plug1 (sc := sc) (sl := sl) (ex := ex) (ab := ab) (ta := ta) (dr := dr) (md := -1) (ml := -1) (mt := -1) (mc := mc) (on := 0) (ct := -1) (r := mrr th (n_pr ab) sl ex ta nx 0 (-1) (-1) cv cg cT cp ou) rfl hj hb; rw [if_pos (by rw [hv1])] at h; exact h)
        · rw [e1]; simp only [fw_eq]; exact (by have h := r_plug1n (sc := sc) (p := c10 sl ex (upd ab j 0) ta dr (-1) (-1) (-1) mc 0 (-1)) (th := th) (pr := n_pr ab) (sl := sl) (ex := ex) (ta := ta) (nx := nx) (lf := -1) (mo := -1) (cv := cv) (cg := cg) (cT := cT) (cp := cp) (r := [.inl (2, 1, .inr (vp_updL ou 0 1))]) hj (by rw [show n_pr ab j = 0 from if_neg hv]; decide); rw [n_pr_up1] at h; exact h)
end XkSt3
