section XkSt5
theorem n_aim {x j : Nat} (hj : j < 4) : s_disk (n_mt x) = Int32.ofNat j ↔ (x < 32 ∧ x / 8 = j) := by
  unfold n_mt
  by_cases h : x < 32
  · rw [if_pos h]
    exact ⟨fun q => ⟨h, (s_disk_mt x h j hj).1 q⟩, fun q => (s_disk_mt x h j hj).2 q.2⟩
  · rw [if_neg h]
    exact ⟨fun q => absurd q (s_disk_no j hj), fun q => absurd q.1 h⟩
theorem p_lst_eq {t : Nat → Int32} {f : Nat → Nat} (T : s_Tv t f) : ∀ n, n ≤ 4 → p_lst t n = Int32.ofNat (n_cnt (fun e => f (1 + e) ≠ 0) n)
  | 0, _ => rfl
  | n + 1, hn => by
    have ih := p_lst_eq T n (by omega)
    have he := T.e n (by omega)
    unfold p_lst n_cnt
    rw [ih, T.w (1 + n) (by omega) (by omega)]
    by_cases h : f (1 + n) = 0
    · rw [if_pos ((xn_le0 (by omega)).2 h), if_neg (fun q => q h)]
    · rw [if_neg (fun q => h ((xn_le0 (by omega)).1 q)), if_pos h]
      exact xn_suc _
theorem s_lst_eq {t : Nat → Int32} {f : Nat → Nat} (T : s_Tv t f) : s_cnt (fun j => ¬ t (1 + j) = 0) 4 = Int32.ofNat (n_cnt (fun e => f (1 + e) ≠ 0) 4) := n_cnt_eq 4 (fun e he => by
  rw [T.w (1 + e) (by omega) (by omega)]
  exact not_congr (xn_inj (b := 0) (by have := T.e e he; omega) (by omega)))
theorem s_present {t ab : Nat → Int32} {f : Nat → Nat} (T : s_Tv t f) : s_any (fun j => ¬ t (1 + j) = 0 ∧ ab j = 0) 4 0 = 0 ↔ ∀ e, e < 4 → f (1 + e) ≠ 0 → ¬ ab e = 0 := by
  rw [s_any_eq]
  have key : ∀ e, e < 4 → (t (1 + e) = 0 ↔ f (1 + e) = 0) := fun e he => by
    rw [T.w (1 + e) (by omega) (by omega)]
    exact xn_inj (b := 0) (by have := T.e e he; omega) (by omega)
  constructor
  · intro q e h1 h2 h3
    exact q e (by omega) (by omega) ⟨fun s => h2 ((key e h1).1 s), h3⟩
  · intro q e _ h1 ⟨h2, h3⟩
    exact q e (by omega) (fun s => h2 ((key e (by omega)).2 s)) h3
theorem t_1 {sc : Nat × (Nat → Int32)} {i B : Nat} {th : Int32} {ou : Nat → Int64} {W : xk_W} {y5 y6 : Value} {Φ : xk_R → Prop} (h : s_R B th ou W) (hB : B + 2 < 2147483648) (hi : i + 3 < sc.1) (hn : sc.1 < 2147483648) (K : s_K sc i B Φ) : xk_Po (xp_P sc) 180 46 [.ref 999, .ref 0, .ref 10, .ref 16, .int (Int32.ofNat i), y5, y6] [] W Φ := by
  rcases h with ⟨sl, ex, ab, ta, dr, nx, f, n, dN, mN, xN, cN, mc, ct, cv, cg, cT, cp, hd, hx, N, rfl⟩ | ⟨sl, ex, ab, ta, dr, nx, mc, cv, cg, cT, cp, hd, hx, hz, V, hb, hA, rfl⟩
  · have O := N.1
    have T := O.2.2.1
    have hb := O.2.1
    obtain ⟨hC, hQ⟩ := N.cp
    rcases n_dk (sc.2 (i + 1)) with hg | ⟨j, hj, e1⟩
    · refine l_1 hi hn (k := 2) (q := 1) ?_ ?_ (K 1 2 _ _ _ _ (by omega) (R_on (ou := ou) (sl := sl) (ex := ex) (ab := ab) (ta := ta) (dr := dr) (nx := nx) (f := f) (n := n) (dN := dN) (mN := mN) (xN := xN) (cN := cN) (mc := mc) (ct := ct) (cv := cv) (cg := cg) (cT := cT) (cp := cp) (by omega) hd hx N))
      · exact h_remove_t (c_remove_nd (show ¬ (1 : Int32) = 0 by decide) (fun z => hg.elim z.1 z.2)) rfl
      · simp only [fw_eq]; exact r_remove_nd hg
    · have hx0 := (s_On_ext O hj).1
      have M4 := O.2.2.2.2.2.2.2.2
      have cnt40 := n_cnt_le (n_on f j) 40
      have pe : 0 < p_leg ta (Int32.ofNat j) 40 ↔ 0 < n_cnt (n_on f j) 40 := by rw [p_leg_eq T hj 40 (by omega)]; exact xn_lt (a := 0) (by omega) (by omega)
      have se : 0 < s_cnt (fun i => s_disk (ta (9 + i) - 1) = Int32.ofNat j) 40 ↔ 0 < n_cnt (n_on f j) 40 := by rw [s_cnt_on T hj]; exact xn_lt (a := 0) (by omega) (by omega)
      by_cases hl : ta (1 + j) = 0
      · by_cases hA : xN < 32 ∧ xN / 8 = j
        · refine l_1 hi hn (k := 3) (q := 1) ?_ ?_ (K 1 3 _ _ _ _ (by omega) (R_on (ou := ou) (sl := sl) (ex := ex) (ab := ab) (ta := ta) (dr := dr) (nx := nx) (f := f) (n := n) (dN := dN) (mN := mN) (xN := xN) (cN := cN) (mc := mc) (ct := ct) (cv := cv) (cg := cg) (cT := cT) (cp := cp) (by omega) hd hx N))
          · rw [e1]; exact h_remove_t (c_remove_nl (show ¬ (1 : Int32) = 0 by decide) hj hl) rfl
          · rw [e1]; simp only [fw_eq]; exact r_remove_nl1 hj hC hA hl
        · refine l_1 hi hn (k := 3) (q := 1) ?_ ?_ (K 1 3 _ _ _ _ (by omega) (R_on (ou := ou) (sl := sl) (ex := ex) (ab := ab) (ta := ta) (dr := dr) (nx := nx) (f := f) (n := n) (dN := dN) (mN := mN) (xN := xN) (cN := cN) (mc := mc) (ct := ct) (cv := cv) (cg := cg) (cT := cT) (cp := cp) (by omega) hd hx N))
          · rw [e1]; exact h_remove_t (c_remove_nl (show ¬ (1 : Int32) = 0 by decide) hj hl) rfl
          · rw [e1]; simp only [fw_eq]; exact r_remove_nl0 hj hC hA hl
      · by_cases hu : 0 < n_cnt (n_on f j) 40
        · by_cases hA : xN < 32 ∧ xN / 8 = j
          · refine l_1 hi hn (k := 3) (q := 1) ?_ ?_ (K 1 3 _ _ _ _ (by omega) (R_on (ou := ou) (sl := sl) (ex := ex) (ab := ab) (ta := ta) (dr := dr) (nx := nx) (f := f) (n := n) (dN := dN) (mN := mN) (xN := xN) (cN := cN) (mc := mc) (ct := ct) (cv := cv) (cg := cg) (cT := cT) (cp := cp) (by omega) hd hx N))
            · rw [e1]; exact h_remove_t (c_remove_us (show ¬ (1 : Int32) = 0 by decide) hj hl (.inl (se.2 hu))) rfl
            · rw [e1]; simp only [fw_eq]; exact r_remove_us1 hj hC hA hl (pe.2 hu)
          · refine l_1 hi hn (k := 3) (q := 1) ?_ ?_ (K 1 3 _ _ _ _ (by omega) (R_on (ou := ou) (sl := sl) (ex := ex) (ab := ab) (ta := ta) (dr := dr) (nx := nx) (f := f) (n := n) (dN := dN) (mN := mN) (xN := xN) (cN := cN) (mc := mc) (ct := ct) (cv := cv) (cg := cg) (cT := cT) (cp := cp) (by omega) hd hx N))
            · rw [e1]; exact h_remove_t (c_remove_us (show ¬ (1 : Int32) = 0 by decide) hj hl (.inl (se.2 hu))) rfl
            · rw [e1]; simp only [fw_eq]; exact r_remove_us0 hj hC hA hl (pe.2 hu)
        · by_cases hA : xN < 32 ∧ xN / 8 = j
          · refine l_1 hi hn (k := 3) (q := 1) ?_ ?_ (K 1 3 _ _ _ _ (by omega) (R_on (ou := ou) (sl := sl) (ex := ex) (ab := ab) (ta := ta) (dr := dr) (nx := nx) (f := f) (n := n) (dN := dN) (mN := mN) (xN := xN) (cN := cN) (mc := mc) (ct := ct) (cv := cv) (cg := cg) (cT := cT) (cp := cp) (by omega) hd hx N))
            · rw [e1]; exact h_remove_t (c_remove_us (show ¬ (1 : Int32) = 0 by decide) hj hl (.inr ((n_aim hj).2 hA))) rfl
            · rw [e1]; simp only [fw_eq]; exact r_remove_am hj hC hA hl (fun z => hu (pe.1 z))
          · have c4 := n_cnt_le (fun e => f (1 + e) ≠ 0) 4
            have c1 : 0 < n_cnt (fun e => f (1 + e) ≠ 0) 4 := (n_cnt_pos 4).2 ⟨j, hj, fun z => hl (hx0.2 z)⟩
            have s1 : s_cnt (fun j => ¬ ta (1 + j) = 0) 4 = Int32.ofInt 1 ↔ n_cnt (fun e => f (1 + e) ≠ 0) 4 = 1 := by rw [s_lst_eq T]; exact xn_inj (b := 1) (by omega) (by omega)
            have s2 : p_lst ta 4 < Int32.ofInt 2 ↔ n_cnt (fun e => f (1 + e) ≠ 0) 4 < 2 := by rw [p_lst_eq T 4 (by omega)]; exact xn_lt (b := 2) (by omega) (by omega)
            by_cases ho1 : n_cnt (fun e => f (1 + e) ≠ 0) 4 = 1
            · refine l_1 hi hn (k := 3) (q := 1) ?_ ?_ (K 1 3 _ _ _ _ (by omega) (R_on (ou := ou) (sl := sl) (ex := ex) (ab := ab) (ta := ta) (dr := dr) (nx := nx) (f := f) (n := n) (dN := dN) (mN := mN) (xN := xN) (cN := cN) (mc := mc) (ct := ct) (cv := cv) (cg := cg) (cT := cT) (cp := cp) (by omega) hd hx N))
              · rw [e1]; exact h_remove_t (c_remove_on (show ¬ (1 : Int32) = 0 by decide) hj hl (fun z => hu (se.1 z)) (fun z => hA ((n_aim hj).1 z)) (s1.2 ho1)) rfl
              · rw [e1]; simp only [fw_eq]; exact r_remove_on hj hC hA hl (fun z => hu (pe.1 z)) (s2.2 (by omega))
            · by_cases hq : n_all f ab
              · have TG : s_Tv (upd ta (1 + j) 0) (n_up f (1 + j) 0) := g_rem T hj (fun i hi z => hu ((n_cnt_pos 40).2 ⟨i, hi, z⟩))
                have e0 : ta 0 + 1 = Int32.ofNat (n + 1) := by rw [O.2.2.2.1.1]; exact xn_add n 1
                obtain ⟨a, b, ha, hb2, hcv, hcg, hab⟩ := id N.2.1
                have K1 : ∀ (n2 : Nat), n2 < 4 → n_all (n_up f (1 + j) 0) ab := fun _ _ e he hne => by by_cases q : e = j; rw [q, n_up_at] at hne; exact absurd rfl hne; rw [n_up_ne (by omega)] at hne; exact hq e he hne
                have K2 : n_tg (n_up f (1 + j) 0) xN := n_tg_ext M4 (fun z q => absurd ⟨z, q⟩ hA) hj
                have r1 := R_com (th := 0) (ou := ou) (s := (sl, ex, ct)) (k := 1) (a := a) (b := b) N hB rfl TG (.inl rfl) (K1 dN) (fun _ _ => K2) (fun z => by have := hab z; omega) (fun z => .inl (n_up_ne (by omega)))
                by_cases hdj : dN = j
                · have cl := c_remove2 (sc := sc) (ab := ab) (ta := ta) (dr := dr) (md := n_md dN) (ml := n_ml mN) (mt := n_mt xN) (mc := mc) (on := 1) (r := mrr th (n_pr ab) sl ex ta nx 1 ct (n_md dN) cv cg cT cp ou) (s := (sl, ex, ct)) (show ¬ (1 : Int32) = 0 by decide) hj hl (fun z => hu (se.1 z)) (fun z => hA ((n_aim hj).1 z)) (fun z => ho1 (s1.1 z)) hb ((s_absent T).2 hq) T.z hd (fun q => by by_cases k : mN < 40; exact ⟨mN, k, if_pos k⟩; exact absurd (if_neg k) q) (by rw [← hdj]; exact if_pos (by omega))
                  unfold s_out at cl
                  rw [e0] at cl
                  by_cases ho : (m_com (s_seal (upd ta (1 + j) 0) (Int32.ofNat (n + 1))) ab (sl, ex, ct)).1 = true
                  · rw [if_pos ho] at cl
                    refine l_1 hi hn (k := 0) (q := 0) ?_ ?_ (K 0 0 ou _ _ _ (by omega) (R_on (ou := ou) (sl := (m_com (s_seal (upd ta (1 + j) 0) (Int32.ofNat (n + 1))) ab (sl, ex, ct)).2.1) (ex := (m_com (s_seal (upd ta (1 + j) 0) (Int32.ofNat (n + 1))) ab (sl, ex, ct)).2.2.1) (ab := ab) (ta := s_seal (upd ta (1 + j) 0) (Int32.ofNat (n + 1))) (dr := s_seal (upd ta (1 + j) 0) (Int32.ofNat (n + 1))) (nx := s_seal (upd ta (1 + j) 0) (Int32.ofNat (n + 1))) (f := (n_up f (1 + j) 0)) (n := n + 1) (dN := 4) (mN := 40) (xN := 32) (cN := 0) (mc := mc) (ct := (m_com (s_seal (upd ta (1 + j) 0) (Int32.ofNat (n + 1))) ab (sl, ex, ct)).2.2.2) (cv := cv) (cg := cg) (cT := p_cT (s_seal (upd ta (1 + j) 0) (Int32.ofNat (n + 1))) ta cT (9 + (a * 10 + b))) (cp := cp) (Nat.le_refl _) (s_seal_z TG.z) (s_seal_z TG.z) ⟨s_On_end (s_On_new (s := (sl, ex, ct)) O TG (.inl rfl) hB rfl (K1 dN) (fun _ _ => K2)), s_cc_any N.2.1, fun z => absurd z (by omega), fun z => absurd z (by omega)⟩))
                    · rw [e1]; exact h_remove cl
                    · rw [e1]; simp only [fw_eq]; exact r_remove2 hj hC hA hl (fun z => hu (pe.1 z)) (fun z => absurd (s2.1 z) (by omega)) ((p_abs_eq T 4 (by omega)).2 hq) TG O hB rfl hx ha hb2 hcv hcg hq (by rw [← hdj]; exact if_pos (by omega)) ho
                  · rw [if_neg ho] at cl
                    refine l_1 hi hn (k := 1) (q := 1) ?_ ?_ (K 1 1 ou _ _ _ (by omega) (R_cut (o := m_com (s_seal (upd ta (1 + j) 0) (Int32.ofNat (n + 1))) ab (sl, ex, ct)) (mc2 := mc) (cp2 := cp) (cT2 := cT) (dr := s_seal (upd ta (1 + j) 0) (Int32.ofNat (n + 1))) (nx := s_seal (upd ta (1 + j) 0) (Int32.ofNat (n + 1))) N (V_com O hB rfl TG (.inl rfl)) (s_seal_z TG.z) (s_seal_z TG.z)))
                    · rw [e1]; exact h_remove_t cl rfl
                    · rw [e1]; simp only [fw_eq]; exact r_remove0 hj hC hA hl (fun z => hu (pe.1 z)) (fun z => absurd (s2.1 z) (by omega)) ((p_abs_eq T 4 (by omega)).2 hq) TG O hB rfl hx ha hb2 hcv hcg hq ho
                · have cl := c_remove1 (sc := sc) (ab := ab) (ta := ta) (dr := dr) (md := n_md dN) (ml := n_ml mN) (mt := n_mt xN) (mc := mc) (on := 1) (r := mrr th (n_pr ab) sl ex ta nx 1 ct (n_md dN) cv cg cT cp ou) (s := (sl, ex, ct)) (show ¬ (1 : Int32) = 0 by decide) hj hl (fun z => hu (se.1 z)) (fun z => hA ((n_aim hj).1 z)) (fun z => ho1 (s1.1 z)) hb ((s_absent T).2 hq) T.z hd (fun q => by by_cases k : mN < 40; exact ⟨mN, k, if_pos k⟩; exact absurd (if_neg k) q) (fun z => hdj ((n_md_eq hj).1 z.symm))
                  unfold s_out at cl
                  rw [e0, s_ml_eq (s_seal_Tv TG)] at cl
                  by_cases ho : (m_com (s_seal (upd ta (1 + j) 0) (Int32.ofNat (n + 1))) ab (sl, ex, ct)).1 = true
                  · rw [if_pos ho] at cl
                    refine l_1 hi hn (k := 0) (q := 0) ?_ ?_ (K 0 0 ou _ _ _ (by omega) (r1))
                    · rw [e1]; exact h_remove cl
                    · rw [e1]; simp only [fw_eq]; exact r_remove1 hj hC hA hl (fun z => hu (pe.1 z)) (fun z => absurd (s2.1 z) (by omega)) ((p_abs_eq T 4 (by omega)).2 hq) TG O hB rfl hx ha hb2 hcv hcg hq (fun z => hdj ((n_md_eq hj).1 z.symm)) ho
                  · rw [if_neg ho] at cl
                    refine l_1 hi hn (k := 1) (q := 1) ?_ ?_ (K 1 1 ou _ _ _ (by omega) (R_cut (o := m_com (s_seal (upd ta (1 + j) 0) (Int32.ofNat (n + 1))) ab (sl, ex, ct)) (mc2 := mc) (cp2 := cp) (cT2 := cT) (dr := s_seal (upd ta (1 + j) 0) (Int32.ofNat (n + 1))) (nx := s_seal (upd ta (1 + j) 0) (Int32.ofNat (n + 1))) N (V_com O hB rfl TG (.inl rfl)) (s_seal_z TG.z) (s_seal_z TG.z)))
                    · rw [e1]; exact h_remove_t cl rfl
                    · rw [e1]; simp only [fw_eq]; exact r_remove0 hj hC hA hl (fun z => hu (pe.1 z)) (fun z => absurd (s2.1 z) (by omega)) ((p_abs_eq T 4 (by omega)).2 hq) TG O hB rfl hx ha hb2 hcv hcg hq ho
              · refine l_1 hi hn (k := 3) (q := 1) ?_ ?_ (K 1 3 _ _ _ _ (by omega) (R_on (ou := ou) (sl := sl) (ex := ex) (ab := ab) (ta := ta) (dr := dr) (nx := nx) (f := f) (n := n) (dN := dN) (mN := mN) (xN := xN) (cN := cN) (mc := mc) (ct := ct) (cv := cv) (cg := cg) (cT := cT) (cp := cp) (by omega) hd hx N))
                · rw [e1]; exact h_remove_t (c_remove_ab (show ¬ (1 : Int32) = 0 by decide) hj hl (fun z => hu (se.1 z)) (fun z => hA ((n_aim hj).1 z)) (fun z => ho1 (s1.1 z)) hb (fun z => hq ((s_absent T).1 z))) rfl
                · rw [e1]; simp only [fw_eq]; exact r_remove_ab hj hC hA hl (fun z => hu (pe.1 z)) (fun z => absurd (s2.1 z) (by omega)) (fun z => hq ((p_abs_eq T 4 (by omega)).1 z))
  · refine l_1 hi hn (k := 1) (q := 1) ?_ ?_ (K 1 1 _ _ _ _ (by omega) (R_off (ou := ou) (sl := sl) (ex := ex) (ab := ab) (ta := ta) (dr := dr) (nx := nx) (mc := mc) (cv := cv) (cg := cg) (cT := cT) (cp := cp) (by omega) hd hx hz V hb hA))
    · exact h_remove_t (c_remove_off rfl) rfl
    · simp only [fw_eq]; exact r_remove_off
end XkSt5
