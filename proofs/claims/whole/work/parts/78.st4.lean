section XkSt4
theorem p_cT_eq {B : Nat} {sl ab ta D : Nat → Int32} {f g : Nat → Nat} {n dN mN xN cN : Nat} {mc cv cg cT cp : Int32} {a b : Nat} (N : s_Non B sl ab ta f n dN mN xN cN mc cv cg cT cp) (TD : s_Tv D g) (hab : mN < 40 → a * 10 + b = mN) (hgm : mN < 40 → g (9 + mN) = f (9 + mN) ∨ g (9 + mN) = 0) (h4 : dN < 4) : p_cT D ta cT (9 + (a * 10 + b)) = n_leg (n_mx g mN xN).2 := by
  obtain ⟨⟨V, hb, T, N1, W, M1, M2, M3, M4⟩, _, _, hT⟩ := N
  have hT := hT h4
  unfold p_cT n_mx
  by_cases hm : mN < 40
  · obtain ⟨_, f0, x0, _⟩ := M2 hm
    have lf := T.l mN hm
    have lg := TD.l mN hm
    rw [hab hm, hT, show n_leg xN = Int32.ofNat (xN + 1) from if_pos x0, if_neg (fun z => absurd ((xn_le0 (by omega)).1 z) (by omega)), TD.w (9 + mN) (by omega) (by omega), T.w (9 + mN) (by omega) (by omega)]
    have e := xn_inj (a := g (9 + mN)) (b := f (9 + mN)) (by omega) (by omega)
    rcases hgm hm with z | z
    · rw [if_pos (e.2 z), if_neg (fun q => f0 (by rw [← z]; exact q.2))]
      exact (if_pos x0).symm
    · rw [if_neg (fun q => f0 (by rw [← e.1 q]; exact z)), if_pos ⟨hm, z⟩]
      rfl
  · have x0 : ¬ xN < 32 := fun z => hm (M3 z)
    rw [hT, show n_leg xN = 0 from if_neg x0, if_pos (Int32.le_refl _), if_neg (fun q => hm q.1)]
    exact (if_neg x0).symm
theorem R_com {B : Nat} {th : Int32} {ou : Nat → Int64} {sl ab ta D0 : Nat → Int32} {f g : Nat → Nat} {n dN mN xN cN k : Nat} {mc cv cg cT cp : Int32} {s : s_S} {a b : Nat} (N : s_Non B sl ab ta f n dN mN xN cN mc cv cg cT cp) (hB : B + 2 < 2147483648) (hs : s.1 = sl) (T : s_Tv D0 g) (hk : k = 1 ∨ k = 2) (h1 : dN < 4 → n_all g ab) (h2 : mN < 40 → g (9 + mN) ≠ 0 → n_tg g xN) (hab : mN < 40 → a * 10 + b = mN) (hgm : mN < 40 → g (9 + mN) = f (9 + mN) ∨ g (9 + mN) = 0) : s_R (B + 2) th ou (cw (m_com (s_seal D0 (Int32.ofNat (n + k))) ab s).2.1 (m_com (s_seal D0 (Int32.ofNat (n + k))) ab s).2.2.1 ab (s_seal D0 (Int32.ofNat (n + k))) (s_seal D0 (Int32.ofNat (n + k))) (n_md dN) (n_ml (n_mx g mN xN).1) (n_mt (n_mx g mN xN).2) mc 1 (m_com (s_seal D0 (Int32.ofNat (n + k))) ab s).2.2.2 (mrr th (n_pr ab) (m_com (s_seal D0 (Int32.ofNat (n + k))) ab s).2.1 (m_com (s_seal D0 (Int32.ofNat (n + k))) ab s).2.2.1 (s_seal D0 (Int32.ofNat (n + k))) (s_seal D0 (Int32.ofNat (n + k))) 1 (m_com (s_seal D0 (Int32.ofNat (n + k))) ab s).2.2.2 (n_md dN) cv cg (p_cT (s_seal D0 (Int32.ofNat (n + k))) ta cT (9 + (a * 10 + b))) (cp) (ou))) := by
  have O2 := s_On_new (s := s) N.1 T hk hB hs h1 h2
  have TD : s_Tv (s_seal D0 (Int32.ofNat (n + k))) g := s_seal_Tv T
  have mm : (n_mx g mN xN).1 < 40 → mN < 40 ∧ (n_mx g mN xN).1 = mN := by
    unfold n_mx
    by_cases z : mN < 40 ∧ g (9 + mN) = 0
    · rw [if_pos z]
      exact fun q => absurd q (by show ¬ 40 < 40; omega)
    · rw [if_neg z]
      exact fun q => ⟨q, rfl⟩
  refine R_on (by omega) TD.z TD.z ⟨O2, ?_, fun q => ?_, fun q => p_cT_eq N TD hab hgm q⟩
  · obtain ⟨a1, b1, c1, c2, c3, c4, c5⟩ := N.2.1
    refine ⟨a1, b1, c1, c2, c3, c4, fun q => ?_⟩
    rw [(mm q).2]
    exact c5 (mm q).1
  · exact N.2.2.1 (mm q).1
theorem R_cut {B : Nat} {th : Int32} {ou : Nat → Int64} {sl ab ta dr nx : Nat → Int32} {f : Nat → Nat} {n dN mN xN cN : Nat} {mc mc2 cp2 cv cg cT cp cT2 : Int32} {o : Bool × s_S} (N : s_Non B sl ab ta f n dN mN xN cN mc cv cg cT cp) (V : s_Sv (B + 2) o.2.1) (hd : s_z dr) (hx : s_z nx) : s_R (B + 2) th ou (cw (o).2.1 (o).2.2.1 ab (ta) (dr) (-1) (-1) (-1) (mc2) 0 (-1) (mrr th (n_pr ab) (o).2.1 (o).2.2.1 (ta) (nx) 0 (-1) (-1) cv cg (cT2) (cp2) (ou))) :=
  R_off (Nat.le_refl _) hd hx N.1.2.2.1.z V N.1.2.1 (s_cc_any N.2.1)
theorem V_com {B : Nat} {sl ab ta D0 : Nat → Int32} {f g : Nat → Nat} {n dN mN xN cN k : Nat} {s : s_S} (O : s_On B sl ab ta f n dN mN xN cN) (hB : B + 2 < 2147483648) (hs : s.1 = sl) (T : s_Tv D0 g) (hk : k = 1 ∨ k = 2) : s_Sv (B + 2) (m_com (s_seal D0 (Int32.ofNat (n + k))) ab s).2.1 := (s_On_com O T hk hB hs).1
theorem t_0 {sc : Nat × (Nat → Int32)} {i B : Nat} {th : Int32} {ou : Nat → Int64} {W : xk_W} {y5 y6 : Value} {Φ : xk_R → Prop} (h : s_R B th ou W) (hB : B + 2 < 2147483648) (hi : i + 3 < sc.1) (hn : sc.1 < 2147483648) (K : s_K sc i B Φ) : xk_Po (xp_P sc) 180 14 [.ref 999, .ref 0, .ref 10, .ref 16, .int (Int32.ofNat i), y5, y6] [] W Φ := by
  rcases h with ⟨sl, ex, ab, ta, dr, nx, f, n, dN, mN, xN, cN, mc, ct, cv, cg, cT, cp, hd, hx, N, rfl⟩ | ⟨sl, ex, ab, ta, dr, nx, mc, cv, cg, cT, cp, hd, hx, hz, V, hb, hA, rfl⟩
  · have O := N.1
    have T := O.2.2.1
    have hb := O.2.1
    obtain ⟨hC, hQ⟩ := N.cp
    rcases n_dk (sc.2 (i + 1)) with hg | ⟨j, hj, e1⟩
    · refine l_0 hi hn (k := 2) (q := 1) ?_ ?_ (K 1 2 _ _ _ _ (by omega) (R_on (ou := ou) (sl := sl) (ex := ex) (ab := ab) (ta := ta) (dr := dr) (nx := nx) (f := f) (n := n) (dN := dN) (mN := mN) (xN := xN) (cN := cN) (mc := mc) (ct := ct) (cv := cv) (cg := cg) (cT := cT) (cp := cp) (by omega) hd hx N))
      · exact h_add_t (c_add_nd (show ¬ (1 : Int32) = 0 by decide) (fun z => hg.elim z.1 z.2)) rfl
      · simp only [fw_eq]; exact r_add_nd hg
    · have hx0 := (s_On_ext O hj).1
      by_cases h2 : sc.2 (i + 2) < Int32.ofInt 2
      · refine l_0 hi hn (k := 2) (q := 1) ?_ ?_ (K 1 2 _ _ _ _ (by omega) (R_on (ou := ou) (sl := sl) (ex := ex) (ab := ab) (ta := ta) (dr := dr) (nx := nx) (f := f) (n := n) (dN := dN) (mN := mN) (xN := xN) (cN := cN) (mc := mc) (ct := ct) (cv := cv) (cg := cg) (cT := cT) (cp := cp) (by omega) hd hx N))
        · rw [e1]; exact h_add_t (c_add_ne (show ¬ (1 : Int32) = 0 by decide) hj (.inl h2)) rfl
        · rw [e1]; simp only [fw_eq]; exact r_add_lo hj h2
      · by_cases h8 : sc.2 (i + 2) ≤ Int32.ofInt 8
        · by_cases hl : ta (1 + j) = 0
          · have hnl : ¬ 0 < ta (1 + j) := by rw [hl]; decide
            by_cases hv : ab j = 0
            · by_cases hq : n_all f ab
              · obtain ⟨y, hy9, e2⟩ := xn_of (g := sc.2 (i + 2)) (n := 9) (fun z => h2 (by rw [Int32.lt_iff_toInt_lt] at z ⊢; have q1 : (Int32.ofInt 2).toInt = 2 := (by decide); have q0 : (0 : Int32).toInt = 0 := (by decide); omega)) (fun z => by rw [Int32.le_iff_toInt_le] at h8 z; have q1 : (Int32.ofInt 8).toInt = 8 := (by decide); have q2 : (Int32.ofNat 9).toInt = 9 := (by decide); omega) (by omega)
                have f0 := hx0.1 hl
                have TG : s_Tv (upd ta (1 + j) (sc.2 (i + 2))) (n_up f (1 + j) y) := by rw [e2]; exact g_add T hj (by omega) f0
                have e0 : ta 0 + 1 = Int32.ofNat (n + 1) := by rw [O.2.2.2.1.1]; exact xn_suc n
                obtain ⟨a, b, ha, hb2, hcv, hcg, hab⟩ := id N.2.1
                have hpr : ¬ n_pr ab j = 0 := fun z => n_pr_0.1 z hv
                have cl := c_add (sc := sc) (ab := ab) (ta := ta) (dr := dr) (md := n_md dN) (ml := n_ml mN) (mt := n_mt xN) (mc := mc) (on := 1) (r := mrr th (n_pr ab) sl ex ta nx 1 ct (n_md dN) cv cg cT cp ou) (s := (sl, ex, ct)) (show ¬ (1 : Int32) = 0 by decide) hj h2 h8 hb hl hv ((s_absent T).2 hq) T.z hd (fun q => by by_cases k : mN < 40; exact ⟨mN, k, if_pos k⟩; exact absurd (if_neg k) q)
                unfold s_out at cl
                rw [e0, s_ml_eq (s_seal_Tv TG)] at cl
                by_cases ho : (m_com (s_seal (upd ta (1 + j) (sc.2 (i + 2))) (Int32.ofNat (n + 1))) ab (sl, s_clr ex (fun _ => True) (j * 32) 32, ct)).1 = true
                · rw [if_pos ho] at cl
                  refine l_0 hi hn (k := 0) (q := 0) ?_ ?_ (K 0 0 ou _ _ _ (by omega) (R_com (s := (sl, s_clr ex (fun _ => True) (j * 32) 32, ct)) (k := 1) (a := a) (b := b) N hB rfl TG (.inl rfl) (fun z e he hne => by by_cases q : e = j; rw [q]; exact hv; rw [n_up_ne (by omega)] at hne; exact O.2.2.2.2.2.1 z e he hne) (fun _ _ => n_tg_ext O.2.2.2.2.2.2.2.2 (fun _ q => by rw [f0]; omega) hj) (fun z => by have := hab z; omega) (fun z => .inl (n_up_ne (by omega)))))
                  · rw [e1]; exact h_add cl
                  · rw [e1]; simp only [fw_eq]; exact r_add1 hj h2 h8 hnl hpr ((p_abs_eq T 4 (by omega)).2 hq) TG O hB rfl hx ha hb2 hcv hcg hq ho
                · rw [if_neg ho] at cl
                  refine l_0 hi hn (k := 1) (q := 1) ?_ ?_ (K 1 1 ou _ _ _ (by omega) (R_cut (o := m_com (s_seal (upd ta (1 + j) (sc.2 (i + 2))) (Int32.ofNat (n + 1))) ab (sl, s_clr ex (fun _ => True) (j * 32) 32, ct)) (mc2 := mc) (cp2 := cp) (cT2 := cT) (dr := s_seal (upd ta (1 + j) (sc.2 (i + 2))) (Int32.ofNat (n + 1))) (nx := s_seal (upd ta (1 + j) (sc.2 (i + 2))) (Int32.ofNat (n + 1))) N (V_com O hB rfl TG (.inl rfl)) (s_seal_z TG.z) (s_seal_z TG.z)))
                  · rw [e1]; exact h_add_t cl rfl
                  · rw [e1]; simp only [fw_eq]; exact r_add0 hj h2 h8 hnl hpr ((p_abs_eq T 4 (by omega)).2 hq) TG O hB rfl hx ha hb2 hcv hcg hq ho
              · refine l_0 hi hn (k := 3) (q := 1) ?_ ?_ (K 1 3 _ _ _ _ (by omega) (R_on (ou := ou) (sl := sl) (ex := ex) (ab := ab) (ta := ta) (dr := dr) (nx := nx) (f := f) (n := n) (dN := dN) (mN := mN) (xN := xN) (cN := cN) (mc := mc) (ct := ct) (cv := cv) (cg := cg) (cT := cT) (cp := cp) (by omega) hd hx N))
                · rw [e1]; exact h_add_t (c_add_ab (show ¬ (1 : Int32) = 0 by decide) hj h2 h8 hb hl hv (fun z => hq ((s_absent T).1 z))) rfl
                · rw [e1]; simp only [fw_eq]; exact r_add_ab hj h2 h8 hnl (fun z => n_pr_0.1 z hv) (fun z => hq ((p_abs_eq T 4 (by omega)).1 z))
            · refine l_0 hi hn (k := 3) (q := 1) ?_ ?_ (K 1 3 _ _ _ _ (by omega) (R_on (ou := ou) (sl := sl) (ex := ex) (ab := ab) (ta := ta) (dr := dr) (nx := nx) (f := f) (n := n) (dN := dN) (mN := mN) (xN := xN) (cN := cN) (mc := mc) (ct := ct) (cv := cv) (cg := cg) (cT := cT) (cp := cp) (by omega) hd hx N))
              · rw [e1]; exact h_add_t (c_add_li (show ¬ (1 : Int32) = 0 by decide) hj h2 h8 hb (.inr hv)) rfl
              · rw [e1]; simp only [fw_eq]; exact r_add_pr hj h2 h8 hnl (n_pr_0.2 hv)
          · refine l_0 hi hn (k := 3) (q := 1) ?_ ?_ (K 1 3 _ _ _ _ (by omega) (R_on (ou := ou) (sl := sl) (ex := ex) (ab := ab) (ta := ta) (dr := dr) (nx := nx) (f := f) (n := n) (dN := dN) (mN := mN) (xN := xN) (cN := cN) (mc := mc) (ct := ct) (cv := cv) (cg := cg) (cT := cT) (cp := cp) (by omega) hd hx N))
            · rw [e1]; exact h_add_t (c_add_li (show ¬ (1 : Int32) = 0 by decide) hj h2 h8 hb (.inl hl)) rfl
            · rw [e1]; simp only [fw_eq]; exact r_add_li hj h2 h8 (by rw [T.w (1 + j) (by omega) (by omega)]; exact (xn_lt (a := 0) (by omega) (by have := T.e j hj; omega)).2 (by have : f (1 + j) ≠ 0 := fun z => hl (hx0.2 z); omega))
        · refine l_0 hi hn (k := 2) (q := 1) ?_ ?_ (K 1 2 _ _ _ _ (by omega) (R_on (ou := ou) (sl := sl) (ex := ex) (ab := ab) (ta := ta) (dr := dr) (nx := nx) (f := f) (n := n) (dN := dN) (mN := mN) (xN := xN) (cN := cN) (mc := mc) (ct := ct) (cv := cv) (cg := cg) (cT := cT) (cp := cp) (by omega) hd hx N))
          · rw [e1]; exact h_add_t (c_add_ne (show ¬ (1 : Int32) = 0 by decide) hj (.inr h8)) rfl
          · rw [e1]; simp only [fw_eq]; exact r_add_hi hj h2 h8
  · refine l_0 hi hn (k := 1) (q := 1) ?_ ?_ (K 1 1 _ _ _ _ (by omega) (R_off (ou := ou) (sl := sl) (ex := ex) (ab := ab) (ta := ta) (dr := dr) (nx := nx) (mc := mc) (cv := cv) (cg := cg) (cT := cT) (cp := cp) (by omega) hd hx hz V hb hA))
    · exact h_add_t (c_add_off rfl) rfl
    · simp only [fw_eq]; exact r_add_off
end XkSt4
