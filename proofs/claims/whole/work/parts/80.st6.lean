section XkSt6
theorem s_shr_at {f : Nat → Nat} {v n D : Nat} (hv : v < 4) : (∀ e, e < 4 → n_shr f v n D (1 + e) = f (1 + e)) ∧ (∀ j, j < 40 → n_shr f v n D (9 + j) = f (9 + j) ∨ n_shr f v n D (9 + j) = 0) := by
  refine ⟨fun e he => ?_, fun j hj => ?_⟩
  · unfold n_shr
    rw [if_neg (by omega), if_neg (by omega)]
  · unfold n_shr
    by_cases q : 9 + (v * 10 + n * 2) ≤ 9 + j ∧ 9 + j < 9 + (v * 10 + 10)
    · rw [if_pos q]
      exact .inr rfl
    · rw [if_neg q, if_neg (by omega)]
      exact .inl rfl
theorem t_2 {sc : Nat × (Nat → Int32)} {i B : Nat} {th : Int32} {ou : Nat → Int64} {W : xk_W} {y5 y6 : Value} {Φ : xk_R → Prop} (h : s_R B th ou W) (hB : B + 2 < 2147483648) (hi : i + 3 < sc.1) (hn : sc.1 < 2147483648) (K : s_K sc i B Φ) : xk_Po (xp_P sc) 180 68 [.ref 999, .ref 0, .ref 10, .ref 16, .int (Int32.ofNat i), y5, y6] [] W Φ := by
  rcases h with ⟨sl, ex, ab, ta, dr, nx, f, n, dN, mN, xN, cN, mc, ct, cv, cg, cT, cp, hd, hx, N, rfl⟩ | ⟨sl, ex, ab, ta, dr, nx, mc, cv, cg, cT, cp, hd, hx, hz, V, hb, hA, rfl⟩
  · have O := N.1
    have T := O.2.2.1
    have hb := O.2.1
    obtain ⟨hC, hQ⟩ := N.cp
    rcases n_dk (sc.2 (i + 1)) with hg | ⟨j, hj, e1⟩
    · refine l_2 hi hn (k := 2) (q := 1) (ou1 := ou) (b := 0) (fun z => absurd z (by decide)) ?_ ?_ (K 1 2 _ _ _ _ (by omega) (R_on (ou := ou) (sl := sl) (ex := ex) (ab := ab) (ta := ta) (dr := dr) (nx := nx) (f := f) (n := n) (dN := dN) (mN := mN) (xN := xN) (cN := cN) (mc := mc) (ct := ct) (cv := cv) (cg := cg) (cT := cT) (cp := cp) (by omega) hd hx N))
      · exact h_drop_t (c_drop_nd (show ¬ (1 : Int32) = 0 by decide) (fun z => hg.elim z.1 z.2)) rfl
      · simp only [fw_eq]; exact r_drop_nd hg
    · have hx0 := (s_On_ext O hj).1
      by_cases hl : ta (1 + j) = 0
      · refine l_2 hi hn (k := 3) (q := 1) (ou1 := ou) (b := 0) (fun z => absurd z (by decide)) ?_ ?_ (K 1 3 _ _ _ _ (by omega) (R_on (ou := ou) (sl := sl) (ex := ex) (ab := ab) (ta := ta) (dr := dr) (nx := nx) (f := f) (n := n) (dN := dN) (mN := mN) (xN := xN) (cN := cN) (mc := mc) (ct := ct) (cv := cv) (cg := cg) (cT := cT) (cp := cp) (by omega) hd hx N))
        · rw [e1]; exact h_drop_t (c_drop_nl (show ¬ (1 : Int32) = 0 by decide) hj hl) rfl
        · rw [e1]; simp only [fw_eq]; exact r_drop_nl hj hl
      · by_cases hv : ab j = 0
        · refine l_2 hi hn (k := 3) (q := 1) (ou1 := ou) (b := 0) (fun z => absurd z (by decide)) ?_ ?_ (K 1 3 _ _ _ _ (by omega) (R_on (ou := ou) (sl := sl) (ex := ex) (ab := ab) (ta := ta) (dr := dr) (nx := nx) (f := f) (n := n) (dN := dN) (mN := mN) (xN := xN) (cN := cN) (mc := mc) (ct := ct) (cv := cv) (cg := cg) (cT := cT) (cp := cp) (by omega) hd hx N))
          · rw [e1]; exact h_drop_t (c_drop_pr (show ¬ (1 : Int32) = 0 by decide) hj hl hb (.inl hv)) rfl
          · rw [e1]; simp only [fw_eq]; exact r_drop_pr hj hl (fun z => n_pr_0.1 z hv)
        · by_cases hr : ∀ e, e < 4 → f (1 + e) ≠ 0 → ¬ ab e = 0
          · refine l_2 hi hn (k := 3) (q := 1) (ou1 := ou) (b := 0) (fun z => absurd z (by decide)) ?_ ?_ (K 1 3 _ _ _ _ (by omega) (R_on (ou := ou) (sl := sl) (ex := ex) (ab := ab) (ta := ta) (dr := dr) (nx := nx) (f := f) (n := n) (dN := dN) (mN := mN) (xN := xN) (cN := cN) (mc := mc) (ct := ct) (cv := cv) (cg := cg) (cT := cT) (cp := cp) (by omega) hd hx N))
            · rw [e1]; exact h_drop_t (c_drop_pr (show ¬ (1 : Int32) = 0 by decide) hj hl hb (.inr ((s_present T).2 hr))) rfl
            · rw [e1]; simp only [fw_eq]; exact r_drop_no hj hl (n_pr_0.2 hv) ((p_oth_eq T 4 (by omega)).2 hr)
          · have hq : ¬ n_all f ab := fun z => hv (z j hj (fun q => hl (hx0.2 q)))
            obtain ⟨M1, M2, M3, M4⟩ := O.2.2.2.2.2
            have hd4 : ¬ dN < 4 := fun z => hq (M1 z)
            have hm4 : ¬ mN < 40 := fun z => hd4 (M2 z).1
            have TG : s_Tv (s_clr (upd ta (1 + j) 0) (fun i => s_disk ((upd ta (1 + j) 0) (9 + i) - 1) = Int32.ofNat j) 9 40) (n_dro f j) := g_dro T hj
            have e0 : ta 0 + 2 = Int32.ofNat (n + 2) := by rw [O.2.2.2.1.1]; exact xn_add n 2
            obtain ⟨a, b, ha, hb2, hcv, hcg, hab⟩ := id N.2.1
            have cl := c_drop (sc := sc) (ab := ab) (ta := ta) (dr := dr) (md := n_md dN) (ml := n_ml mN) (mt := n_mt xN) (mc := mc) (on := 1) (r := mrr th (n_pr ab) sl ex ta nx 1 ct (n_md dN) cv cg cT cp ou) (s := (sl, ex, ct)) (show ¬ (1 : Int32) = 0 by decide) hj hl hb hv (fun z => hr ((s_present T).1 z)) (fun z => hq ((s_absent T).1 z)) T.z hd (fun q => by by_cases k : mN < 40; exact ⟨mN, k, if_pos k⟩; exact absurd (if_neg k) q)
            unfold s_outI at cl
            rw [e0, s_ml_eq (s_seal_Tv TG), s_cnt_on T hj] at cl
            by_cases ho : (m_com (s_seal (s_clr (upd ta (1 + j) 0) (fun i => s_disk ((upd ta (1 + j) 0) (9 + i) - 1) = Int32.ofNat j) 9 40) (Int32.ofNat (n + 2))) ab (sl, ex, ct)).1 = true
            · rw [if_pos ho] at cl
              refine l_2 hi hn (k := 0) (q := 0) (ou1 := vp_updL ou 0 (Int32.ofNat (n_cnt (n_on f j) 40)).toInt64) (b := Int32.ofNat (n_cnt (n_on f j) 40)) (fun _ => if_pos rfl) ?_ ?_ (K 0 0 _ _ _ _ (by omega) (R_com (ou := vp_updL ou 0 (Int32.ofNat (n_cnt (n_on f j) 40)).toInt64) (s := (sl, ex, ct)) (k := 2) (a := a) (b := b) N hB rfl TG (.inr rfl) (fun z => absurd z hd4) (fun z => absurd z hm4) (fun z => absurd z hm4) (fun z => absurd z hm4)))
              · rw [e1]; exact h_drop cl
              · rw [e1]; simp only [fw_eq]; exact r_drop1 hj hl (n_pr_0.2 hv) (fun z => hr ((p_oth_eq T 4 (by omega)).1 z)) TG O hB rfl hx ha hb2 hcv hcg hq ho
            · rw [if_neg ho] at cl
              refine l_2 hi hn (k := 1) (q := 1) (ou1 := ou) (b := 0) (fun z => absurd z (by decide)) ?_ ?_ (K 1 1 ou _ _ _ (by omega) (R_cut (o := m_com (s_seal (s_clr (upd ta (1 + j) 0) (fun i => s_disk ((upd ta (1 + j) 0) (9 + i) - 1) = Int32.ofNat j) 9 40) (Int32.ofNat (n + 2))) ab (sl, ex, ct)) (mc2 := mc) (cp2 := cp) (cT2 := cT) (dr := s_seal (s_clr (upd ta (1 + j) 0) (fun i => s_disk ((upd ta (1 + j) 0) (9 + i) - 1) = Int32.ofNat j) 9 40) (Int32.ofNat (n + 2))) (nx := s_seal (s_clr (upd ta (1 + j) 0) (fun i => s_disk ((upd ta (1 + j) 0) (9 + i) - 1) = Int32.ofNat j) 9 40) (Int32.ofNat (n + 2))) N (V_com O hB rfl TG (.inr rfl)) (s_seal_z TG.z) (s_seal_z TG.z)))
              · rw [e1]; exact h_drop_t cl rfl
              · rw [e1]; simp only [fw_eq]; exact r_drop0 hj hl (n_pr_0.2 hv) (fun z => hr ((p_oth_eq T 4 (by omega)).1 z)) TG O hB rfl hx ha hb2 hcv hcg hq ho
  · refine l_2 hi hn (k := 1) (q := 1) (ou1 := ou) (b := 0) (fun z => absurd z (by decide)) ?_ ?_ (K 1 1 _ _ _ _ (by omega) (R_off (ou := ou) (sl := sl) (ex := ex) (ab := ab) (ta := ta) (dr := dr) (nx := nx) (mc := mc) (cv := cv) (cg := cg) (cT := cT) (cp := cp) (by omega) hd hx hz V hb hA))
    · exact h_drop_t (c_drop_off rfl) rfl
    · simp only [fw_eq]; exact r_drop_off
theorem t_6 {sc : Nat × (Nat → Int32)} {i B : Nat} {th : Int32} {ou : Nat → Int64} {W : xk_W} {y5 y6 : Value} {Φ : xk_R → Prop} (h : s_R B th ou W) (hB : B + 2 < 2147483648) (hi : i + 3 < sc.1) (hn : sc.1 < 2147483648) (K : s_K sc i B Φ) : xk_Po (xp_P sc) 180 248 [.ref 999, .ref 0, .ref 10, .ref 16, .int (Int32.ofNat i), y5, y6] [] W Φ := by
  rcases h with ⟨sl, ex, ab, ta, dr, nx, f, n, dN, mN, xN, cN, mc, ct, cv, cg, cT, cp, hd, hx, N, rfl⟩ | ⟨sl, ex, ab, ta, dr, nx, mc, cv, cg, cT, cp, hd, hx, hz, V, hb, hA, rfl⟩
  · have O := N.1
    have T := O.2.2.1
    have hb := O.2.1
    obtain ⟨hC, hQ⟩ := N.cp
    rcases n_dk (sc.2 (i + 1)) with hg | ⟨v, hv, e1⟩
    · refine l_6 hi hn (k := 2) (q := 1) ?_ ?_ (K 1 2 _ _ _ _ (by omega) (R_on (ou := ou) (sl := sl) (ex := ex) (ab := ab) (ta := ta) (dr := dr) (nx := nx) (f := f) (n := n) (dN := dN) (mN := mN) (xN := xN) (cN := cN) (mc := mc) (ct := ct) (cv := cv) (cg := cg) (cT := cT) (cp := cp) (by omega) hd hx N))
      · exact h_delete_t (c_delete_nv (show ¬ (1 : Int32) = 0 by decide) hg) rfl
      · simp only [fw_eq]; exact r_delete_nv hg
    · by_cases hu : ta (5 + v) = 0
      · refine l_6 hi hn (k := 2) (q := 1) ?_ ?_ (K 1 2 _ _ _ _ (by omega) (R_on (ou := ou) (sl := sl) (ex := ex) (ab := ab) (ta := ta) (dr := dr) (nx := nx) (f := f) (n := n) (dN := dN) (mN := mN) (xN := xN) (cN := cN) (mc := mc) (ct := ct) (cv := cv) (cg := cg) (cT := cT) (cp := cp) (by omega) hd hx N))
        · rw [e1]; exact h_delete_t (c_delete_uv (show ¬ (1 : Int32) = 0 by decide) hv hu) rfl
        · rw [e1]; simp only [fw_eq]; exact r_delete_uv hv hu
      · have h5 : f (5 + v) ≠ 0 := fun z => hu ((n_vol T hv).2 z)
        obtain ⟨M1, M2, M3, M4⟩ := O.2.2.2.2.2
        by_cases hq : n_all f ab
        · have TG : s_Tv (s_clr (upd ta (5 + v) 0) (fun _ => True) (9 + (v * 10 + 0 * 2 + 0)) (10 - 0 * 2)) (n_shr f v 0 0) := g_shr (n := 0) (D := 0) T hv (by omega) (by decide) (by omega) (.inl rfl)
          obtain ⟨S1, S2⟩ := s_shr_at (f := f) (n := 0) (D := 0) hv
          have e0 : ta 0 + 1 = Int32.ofNat (n + 1) := by rw [O.2.2.2.1.1]; exact xn_add n 1
          obtain ⟨a, b, ha, hb2, hcv, hcg, hab⟩ := id N.2.1
          have cl := c_delete (sc := sc) (ab := ab) (ta := ta) (dr := dr) (md := n_md dN) (ml := n_ml mN) (mt := n_mt xN) (mc := mc) (on := 1) (r := mrr th (n_pr ab) sl ex ta nx 1 ct (n_md dN) cv cg cT cp ou) (s := (sl, ex, ct)) (show ¬ (1 : Int32) = 0 by decide) hv hu hb ((s_absent T).2 hq) T.z hd (fun q => by by_cases k : mN < 40; exact ⟨mN, k, if_pos k⟩; exact absurd (if_neg k) q)
          unfold s_out at cl
          rw [e0, s_ml_eq (s_seal_Tv TG)] at cl
          by_cases ho : (m_com (s_seal (s_clr (upd ta (5 + v) 0) (fun _ => True) (9 + (v * 10 + 0 * 2 + 0)) (10 - 0 * 2)) (Int32.ofNat (n + 1))) ab (sl, ex, ct)).1 = true
          · rw [if_pos ho] at cl
            refine l_6 hi hn (k := 0) (q := 0) ?_ ?_ (K 0 0 ou _ _ _ (by omega) (R_com (ou := ou) (s := (sl, ex, ct)) (k := 1) (a := a) (b := b) N hB rfl TG (.inl rfl) (fun _ e he hne => hq e he (by rw [← S1 e he]; exact hne)) (fun _ _ => n_tg_lose M4 S1 S2) (fun z => by have := hab z; omega) (fun z => S2 mN z)))
            · rw [e1]; exact h_delete cl
            · rw [e1]; simp only [fw_eq]; exact r_delete1 hv hu ((p_abs_eq T 4 (by omega)).2 hq) TG O hB rfl hx ha hb2 hcv hcg hq ho
          · rw [if_neg ho] at cl
            refine l_6 hi hn (k := 1) (q := 1) ?_ ?_ (K 1 1 ou _ _ _ (by omega) (R_cut (o := m_com (s_seal (s_clr (upd ta (5 + v) 0) (fun _ => True) (9 + (v * 10 + 0 * 2 + 0)) (10 - 0 * 2)) (Int32.ofNat (n + 1))) ab (sl, ex, ct)) (mc2 := mc) (cp2 := cp) (cT2 := cT) (dr := s_seal (s_clr (upd ta (5 + v) 0) (fun _ => True) (9 + (v * 10 + 0 * 2 + 0)) (10 - 0 * 2)) (Int32.ofNat (n + 1))) (nx := s_seal (s_clr (upd ta (5 + v) 0) (fun _ => True) (9 + (v * 10 + 0 * 2 + 0)) (10 - 0 * 2)) (Int32.ofNat (n + 1))) N (V_com O hB rfl TG (.inl rfl)) (s_seal_z TG.z) (s_seal_z TG.z)))
            · rw [e1]; exact h_delete_t cl rfl
            · rw [e1]; simp only [fw_eq]; exact r_delete0 hv hu ((p_abs_eq T 4 (by omega)).2 hq) TG O hB rfl hx ha hb2 hcv hcg hq ho
        · refine l_6 hi hn (k := 3) (q := 1) ?_ ?_ (K 1 3 _ _ _ _ (by omega) (R_on (ou := ou) (sl := sl) (ex := ex) (ab := ab) (ta := ta) (dr := dr) (nx := nx) (f := f) (n := n) (dN := dN) (mN := mN) (xN := xN) (cN := cN) (mc := mc) (ct := ct) (cv := cv) (cg := cg) (cT := cT) (cp := cp) (by omega) hd hx N))
          · rw [e1]; exact h_delete_t (c_delete_ab (show ¬ (1 : Int32) = 0 by decide) hv hu hb (fun z => hq ((s_absent T).1 z))) rfl
          · rw [e1]; simp only [fw_eq]; exact r_delete_ab hv hu (fun z => hq ((p_abs_eq T 4 (by omega)).1 z))
  · refine l_6 hi hn (k := 1) (q := 1) ?_ ?_ (K 1 1 _ _ _ _ (by omega) (R_off (ou := ou) (sl := sl) (ex := ex) (ab := ab) (ta := ta) (dr := dr) (nx := nx) (mc := mc) (cv := cv) (cg := cg) (cT := cT) (cp := cp) (by omega) hd hx hz V hb hA))
    · exact h_delete_t (c_delete_off rfl) rfl
    · simp only [fw_eq]; exact r_delete_off
theorem n_fits {c m : Int32} (hc : ¬ c < Int32.ofInt 1) : (if m < Int32.ofInt 1 then (0 : Int32) else if Int32.ofInt 5 < m then 0 else if m % c = 0 then 1 else 0) = 0 ↔ ¬ (¬ m < Int32.ofInt 1 ∧ ¬ Int32.ofInt 5 < m ∧ ¬ c < Int32.ofInt 1 ∧ m % c = 0) := by
  by_cases h1 : m < Int32.ofInt 1
  · rw [if_pos h1]
    exact ⟨fun _ z => z.1 h1, fun _ => rfl⟩
  · rw [if_neg h1]
    by_cases h2 : Int32.ofInt 5 < m
    · rw [if_pos h2]
      exact ⟨fun _ z => z.2.1 h2, fun _ => rfl⟩
    · rw [if_neg h2]
      by_cases h3 : m % c = 0
      · rw [if_pos h3]
        exact ⟨fun z => absurd z (by decide), fun z => absurd ⟨h1, h2, hc, h3⟩ z⟩
      · rw [if_neg h3]
        exact ⟨fun _ z => h3 z.2.2.2, fun _ => rfl⟩
theorem n_c1 {c : Nat} (h1 : 1 ≤ c) (h2 : c < 4) : ¬ Int32.ofNat c < Int32.ofInt 1 ∧ ¬ Int32.ofNat c = 0 :=
  ⟨fun z => absurd ((xn_lt (b := 1) (by omega) (by omega)).1 z) (by omega), s_ne0 c h2 h1⟩
theorem t_5 {sc : Nat × (Nat → Int32)} {i B : Nat} {th : Int32} {ou : Nat → Int64} {W : xk_W} {y5 y6 : Value} {Φ : xk_R → Prop} (h : s_R B th ou W) (hB : B + 2 < 2147483648) (hi : i + 3 < sc.1) (hn : sc.1 < 2147483648) (K : s_K sc i B Φ) : xk_Po (xp_P sc) 180 203 [.ref 999, .ref 0, .ref 10, .ref 16, .int (Int32.ofNat i), y5, y6] [] W Φ := by
  rcases h with ⟨sl, ex, ab, ta, dr, nx, f, n, dN, mN, xN, cN, mc, ct, cv, cg, cT, cp, hd, hx, N, rfl⟩ | ⟨sl, ex, ab, ta, dr, nx, mc, cv, cg, cT, cp, hd, hx, hz, V, hb, hA, rfl⟩
  · have O := N.1
    have T := O.2.2.1
    have hb := O.2.1
    obtain ⟨hC, hQ⟩ := N.cp
    rcases n_dk (sc.2 (i + 1)) with hg | ⟨v, hv, e1⟩
    · refine l_5 hi hn (k := 2) (q := 1) (ou1 := ou) (b := 0) (fun z => absurd z (by decide)) ?_ ?_ (K 1 2 _ _ _ _ (by omega) (R_on (ou := ou) (sl := sl) (ex := ex) (ab := ab) (ta := ta) (dr := dr) (nx := nx) (f := f) (n := n) (dN := dN) (mN := mN) (xN := xN) (cN := cN) (mc := mc) (ct := ct) (cv := cv) (cg := cg) (cT := cT) (cp := cp) (by omega) hd hx N))
      · exact h_shrink_t (k_shrink_nv hg) rfl
      · simp only [fw_eq]; exact r_shrink_nv hg
    · by_cases hu : ta (5 + v) = 0
      · refine l_5 hi hn (k := 2) (q := 1) (ou1 := ou) (b := 0) (fun z => absurd z (by decide)) ?_ ?_ (K 1 2 _ _ _ _ (by omega) (R_on (ou := ou) (sl := sl) (ex := ex) (ab := ab) (ta := ta) (dr := dr) (nx := nx) (f := f) (n := n) (dN := dN) (mN := mN) (xN := xN) (cN := cN) (mc := mc) (ct := ct) (cv := cv) (cg := cg) (cT := cT) (cp := cp) (by omega) hd hx N))
        · rw [e1]; exact h_shrink_t (k_shrink_uv hv hu) rfl
        · rw [e1]; simp only [fw_eq]; exact r_shrink_uv hv hu
      · have h5 : f (5 + v) ≠ 0 := fun z => hu ((n_vol T hv).2 z)
        obtain ⟨M1, M2, M3, M4⟩ := O.2.2.2.2.2
        have e5 := (s_dv_32 _ (T.v v hv)).2
        have e32 : ta (5 + v) / 32 = Int32.ofNat (f (5 + v) / 32) := by rw [T.w (5 + v) (by omega) (by omega)]; exact (s_dv_32 _ (T.v v hv)).1
        have eco : ta (5 + v) / 4 % 8 = Int32.ofNat (f (5 + v) / 4 % 8) := by rw [T.w (5 + v) (by omega) (by omega)]; exact (s_dv_4 _ (T.v v hv) h5).2.2
        obtain ⟨_, c1, c2, _, _, _⟩ := s_dv_col _ (T.v v hv) h5
        obtain ⟨cn1, cn2⟩ := n_c1 c1 c2
        have fit := n_fits (m := sc.2 (i + 2)) cn1
        have hc0 : ¬ ta (5 + v) / 4 % 8 = 0 := by rw [eco]; exact cn2
        by_cases h0 : Int32.ofNat (f (5 + v) / 32) ≤ sc.2 (i + 2)
        · refine l_5 hi hn (k := 3) (q := 1) (ou1 := ou) (b := 0) (fun z => absurd z (by decide)) ?_ ?_ (K 1 3 _ _ _ _ (by omega) (R_on (ou := ou) (sl := sl) (ex := ex) (ab := ab) (ta := ta) (dr := dr) (nx := nx) (f := f) (n := n) (dN := dN) (mN := mN) (xN := xN) (cN := cN) (mc := mc) (ct := ct) (cv := cv) (cg := cg) (cT := cT) (cp := cp) (by omega) hd hx N))
          · rw [e1]; exact h_shrink_t (k_shrink_ge hv hu T h5 h0) rfl
          · rw [e1]; simp only [fw_eq]; exact r_shrink_ge hv hu (by rw [e32]; exact h0)
        · by_cases hf : (¬ sc.2 (i + 2) < Int32.ofInt 1 ∧ ¬ Int32.ofInt 5 < sc.2 (i + 2) ∧ ¬ Int32.ofNat (f (5 + v) / 4 % 8) < Int32.ofInt 1 ∧ sc.2 (i + 2) % Int32.ofNat (f (5 + v) / 4 % 8) = 0)
          · by_cases hq : n_all f ab
            · obtain ⟨k, hk6, e2⟩ := xn_of (g := sc.2 (i + 2)) (n := 6) (fun z => hf.1 (by rw [Int32.lt_iff_toInt_lt] at z ⊢; have q1 : (Int32.ofInt 1).toInt = 1 := (by decide); have q0 : (0 : Int32).toInt = 0 := (by decide); omega)) (fun z => hf.2.1 (by rw [Int32.le_iff_toInt_le] at z; rw [Int32.lt_iff_toInt_lt]; have q1 : (Int32.ofInt 5).toInt = 5 := (by decide); have q2 : (Int32.ofNat 6).toInt = 6 := (by decide); omega)) (by omega)
              rw [e2] at h0 hf fit
              have k1 : 1 ≤ k := by rcases Nat.eq_zero_or_pos k with z | z; exact absurd (by rw [z]; decide) hf.1; exact z
              have klt : k < f (5 + v) / 32 := by rcases Nat.lt_or_ge k (f (5 + v) / 32) with z | z; exact z; exact absurd ((xn_le (by omega) (by omega)).2 z) h0
              have kc : k % (f (5 + v) / 4 % 8) = 0 := by have : ∀ c, c < 4 → 1 ≤ c → ∀ k, k < 6 → Int32.ofNat k % Int32.ofNat c = 0 → k % c = 0 := (by decide); exact this _ c2 c1 k hk6 hf.2.2.2
              have d2 := s_dv_D2 _ (T.v v hv) h5 k hk6
              have TG : s_Tv (s_clr (upd ta (5 + v) (Int32.ofNat (n_D (f (5 + v)) k))) (fun _ => True) (9 + (v * 10 + k * 2 + 0)) (10 - k * 2)) (n_shr f v k (n_D (f (5 + v)) k)) := g_shr T hv (by omega) (s_dv_D3 _ (T.v v hv) h5 k hk6 k1 kc) (by rw [d2.1]; omega) (.inr d2.2.1)
              obtain ⟨S1, S2⟩ := s_shr_at (f := f) (n := k) (D := n_D (f (5 + v)) k) hv
              have e0 : ta 0 + 1 = Int32.ofNat (n + 1) := by rw [O.2.2.2.1.1]; exact xn_add n 1
              obtain ⟨a, b, ha, hb2, hcv, hcg, hab⟩ := id N.2.1
              by_cases ho : (m_com (s_seal (s_clr (upd ta (5 + v) (Int32.ofNat (n_D (f (5 + v)) k))) (fun _ => True) (9 + (v * 10 + k * 2 + 0)) (10 - k * 2)) (Int32.ofNat (n + 1))) ab (sl, ex, ct)).1 = true
              · have cl := k_shrink_1 (sc := sc) (dr := dr) (md := n_md dN) (mc := mc) (r := mrr th (n_pr ab) sl ex ta nx 1 ct (n_md dN) cv cg cT cp ou) (m := mN) (x := xN) (s := (sl, ex, ct)) hv hu T h5 hk6 h0 hf hb ((s_absent T).2 hq) hd (by rw [e0]; exact ho)
                rw [e0, s_ml_eq (s_seal_Tv TG)] at cl
                have ml := r_shrink1 (sc := sc) (p := c10 (m_com (s_seal (s_clr (upd ta (5 + v) (Int32.ofNat (n_D (f (5 + v)) k))) (fun _ => True) (9 + (v * 10 + k * 2 + 0)) (10 - k * 2)) (Int32.ofNat (n + 1))) ab (sl, ex, ct)).2.1 (m_com (s_seal (s_clr (upd ta (5 + v) (Int32.ofNat (n_D (f (5 + v)) k))) (fun _ => True) (9 + (v * 10 + k * 2 + 0)) (10 - k * 2)) (Int32.ofNat (n + 1))) ab (sl, ex, ct)).2.2.1 ab (s_seal (s_clr (upd ta (5 + v) (Int32.ofNat (n_D (f (5 + v)) k))) (fun _ => True) (9 + (v * 10 + k * 2 + 0)) (10 - k * 2)) (Int32.ofNat (n + 1))) (s_seal (s_clr (upd ta (5 + v) (Int32.ofNat (n_D (f (5 + v)) k))) (fun _ => True) (9 + (v * 10 + k * 2 + 0)) (10 - k * 2)) (Int32.ofNat (n + 1))) (n_md dN) (n_ml (n_mx (n_shr f v k (n_D (f (5 + v)) k)) mN xN).1) (n_mt (n_mx (n_shr f v k (n_D (f (5 + v)) k)) mN xN).2) mc 1 (m_com (s_seal (s_clr (upd ta (5 + v) (Int32.ofNat (n_D (f (5 + v)) k))) (fun _ => True) (9 + (v * 10 + k * 2 + 0)) (10 - k * 2)) (Int32.ofNat (n + 1))) ab (sl, ex, ct)).2.2.2) (th := th) (pr := n_pr ab) (sl := sl) (ex := ex) (ta := ta) (nx := nx) (lf := ct) (mo := n_md dN) (cv := cv) (cg := cg) (cT := cT) (cp := cp) (r := [.inl (2, 1, .inr (vp_updL ou 0 (Int32.ofNat (f (5 + v) / 32) - Int32.ofNat k).toInt64))]) hv hk6 hu (by rw [e32]; exact h0) hc0 (by rw [eco]; exact fun z => fit.1 z hf) ((p_abs_eq T 4 (by omega)).2 hq) O hB rfl hx ha hb2 hcv hcg TG hq ho
                rw [e32] at ml
                refine l_5 hi hn (k := 0) (q := 0) (ou1 := vp_updL ou 0 (Int32.ofNat (f (5 + v) / 32) - Int32.ofNat k).toInt64) (b := Int32.ofNat (f (5 + v) / 32) - Int32.ofNat k) (fun _ => if_pos rfl) ?_ ?_ (K 0 0 _ _ _ _ (by omega) (R_com (ou := vp_updL ou 0 (Int32.ofNat (f (5 + v) / 32) - Int32.ofNat k).toInt64) (s := (sl, ex, ct)) (k := 1) (a := a) (b := b) N hB rfl TG (.inl rfl) (fun _ e he hne => hq e he (by rw [← S1 e he]; exact hne)) (fun _ _ => n_tg_lose M4 S1 S2) (fun z => by have := hab z; omega) (fun z => S2 mN z)))
                · rw [e1, e2]; exact h_shrink cl
                · rw [e1, e2]; simp only [fw_eq]; exact ml
              · have cl := k_shrink_0 (sc := sc) (dr := dr) (md := n_md dN) (mc := mc) (r := mrr th (n_pr ab) sl ex ta nx 1 ct (n_md dN) cv cg cT cp ou) (m := mN) (x := xN) (s := (sl, ex, ct)) hv hu T h5 hk6 h0 hf hb ((s_absent T).2 hq) hd (by rw [e0]; exact ho)
                rw [e0] at cl
                refine l_5 hi hn (k := 1) (q := 1) (ou1 := ou) (b := 0) (fun z => absurd z (by decide)) ?_ ?_ (K 1 1 ou _ _ _ (by omega) (R_cut (o := m_com (s_seal (s_clr (upd ta (5 + v) (Int32.ofNat (n_D (f (5 + v)) k))) (fun _ => True) (9 + (v * 10 + k * 2 + 0)) (10 - k * 2)) (Int32.ofNat (n + 1))) ab (sl, ex, ct)) (mc2 := mc) (cp2 := cp) (cT2 := cT) (dr := s_seal (s_clr (upd ta (5 + v) (Int32.ofNat (n_D (f (5 + v)) k))) (fun _ => True) (9 + (v * 10 + k * 2 + 0)) (10 - k * 2)) (Int32.ofNat (n + 1))) (nx := s_seal (s_clr (upd ta (5 + v) (Int32.ofNat (n_D (f (5 + v)) k))) (fun _ => True) (9 + (v * 10 + k * 2 + 0)) (10 - k * 2)) (Int32.ofNat (n + 1))) N (V_com O hB rfl TG (.inl rfl)) (s_seal_z TG.z) (s_seal_z TG.z)))
                · rw [e1, e2]; exact h_shrink_t cl rfl
                · rw [e1, e2]; simp only [fw_eq]; exact r_shrink0 hv hk6 hu (by rw [e32]; exact h0) hc0 (by rw [eco]; exact fun z => fit.1 z hf) ((p_abs_eq T 4 (by omega)).2 hq) O hB rfl hx ha hb2 hcv hcg TG hq ho
            · refine l_5 hi hn (k := 4) (q := 1) (ou1 := ou) (b := 0) (fun z => absurd z (by decide)) ?_ ?_ (K 1 4 _ _ _ _ (by omega) (R_on (ou := ou) (sl := sl) (ex := ex) (ab := ab) (ta := ta) (dr := dr) (nx := nx) (f := f) (n := n) (dN := dN) (mN := mN) (xN := xN) (cN := cN) (mc := mc) (ct := ct) (cv := cv) (cg := cg) (cT := cT) (cp := cp) (by omega) hd hx N))
              · rw [e1]; exact h_shrink_t (k_shrink_ab hv hu T h5 h0 hf hb (fun z => hq ((s_absent T).1 z))) rfl
              · rw [e1]; simp only [fw_eq]; exact r_shrink_ab hv hu (by rw [e32]; exact h0) hc0 (by rw [eco]; exact fun z => fit.1 z hf) (fun z => hq ((p_abs_eq T 4 (by omega)).1 z))
          · refine l_5 hi hn (k := 3) (q := 1) (ou1 := ou) (b := 0) (fun z => absurd z (by decide)) ?_ ?_ (K 1 3 _ _ _ _ (by omega) (R_on (ou := ou) (sl := sl) (ex := ex) (ab := ab) (ta := ta) (dr := dr) (nx := nx) (f := f) (n := n) (dN := dN) (mN := mN) (xN := xN) (cN := cN) (mc := mc) (ct := ct) (cv := cv) (cg := cg) (cT := cT) (cp := cp) (by omega) hd hx N))
            · rw [e1]; exact h_shrink_t (k_shrink_no hv hu T h5 h0 hf) rfl
            · rw [e1]; simp only [fw_eq]; exact r_shrink_no hv hu (by rw [e32]; exact h0) hc0 (by rw [eco]; exact fit.2 hf)
  · refine l_5 hi hn (k := 1) (q := 1) (ou1 := ou) (b := 0) (fun z => absurd z (by decide)) ?_ ?_ (K 1 1 _ _ _ _ (by omega) (R_off (ou := ou) (sl := sl) (ex := ex) (ab := ab) (ta := ta) (dr := dr) (nx := nx) (mc := mc) (cv := cv) (cg := cg) (cT := cT) (cp := cp) (by omega) hd hx hz V hb hA))
    · exact h_shrink_t (k_shrink_off) rfl
    · simp only [fw_eq]; exact r_shrink_off
end XkSt6
