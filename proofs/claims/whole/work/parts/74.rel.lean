section XkRel
abbrev s_z (t : Nat → Int32) : Prop := ∀ i, 51 ≤ i → t i = 0
abbrev s_cc (cv cg : Int32) (m : Nat) : Prop := ∃ a b, a < 4 ∧ b < 10 ∧ cv = Int32.ofNat a ∧ cg = Int32.ofNat b ∧ (m < 40 → a = m / 10 ∧ b = m % 10)
/-- the power is on, in both -/
abbrev s_Non (B : Nat) (sl ab ta : Nat → Int32) (f : Nat → Nat) (n dN mN xN cN : Nat) (mc cv cg cT cp : Int32) : Prop := s_On B sl ab ta f n dN mN xN cN ∧ s_cc cv cg mN ∧ (mN < 40 → mc = Int32.ofNat cN ∧ cp = Int32.ofNat cN) ∧ (dN < 4 → cT = n_leg xN)
def s_R (B : Nat) (th : Int32) (ou : Nat → Int64) (W : xk_W) : Prop := (∃ sl ex ab ta dr nx f n dN mN xN cN mc ct cv cg cT cp, s_z dr ∧ s_z nx ∧ s_Non B sl ab ta f n dN mN xN cN mc cv cg cT cp ∧ W = cw sl ex ab ta dr (n_md dN) (n_ml mN) (n_mt xN) mc 1 ct (mrr th (n_pr ab) sl ex ta nx 1 ct (n_md dN) cv cg cT cp ou)) ∨ (∃ sl ex ab ta dr nx mc cv cg cT cp, s_z dr ∧ s_z nx ∧ s_z ta ∧ s_Sv B sl ∧ (∀ i, ab i = 0 ∨ ab i = 1) ∧ s_cc cv cg 40 ∧ W = cw sl ex ab ta dr (-1) (-1) (-1) mc 0 (-1) (mrr th (n_pr ab) sl ex ta nx 0 (-1) (-1) cv cg cT cp ou))
abbrev s_K (sc : Nat × (Nat → Int32)) (i B : Nat) (Φ : xk_R → Prop) : Prop := ∀ (q : Nat) (k : Int32) (ou : Nat → Int64) (W : xk_W) (y5 y6 : Value), q ≤ 1 → s_R (B + 2) k ou W → xk_Po (xp_P sc) 180 784 [.ref 999, .ref 0, .ref 10, .ref 16, .int (Int32.ofNat i), y5, y6] [] W (fun z => Φ (z.1, q + z.2.1, z.2.2))
theorem s_On_up {B B2 : Nat} {sl ab ta : Nat → Int32} {f : Nat → Nat} {n dN mN xN cN : Nat} (hB : B ≤ B2) (O : s_On B sl ab ta f n dN mN xN cN) : s_On B2 sl ab ta f n dN mN xN cN := by
  obtain ⟨V, hb, T0, ⟨N1, N2⟩, O⟩ := O
  exact ⟨s_Sv_up hB V, hb, T0, ⟨N1, by omega⟩, O⟩
theorem R_on {B B2 : Nat} {th : Int32} {ou : Nat → Int64} {sl ex ab ta dr nx : Nat → Int32} {f : Nat → Nat} {n dN mN xN cN : Nat} {mc ct cv cg cT cp : Int32} (hB : B ≤ B2) (hd : s_z dr) (hx : s_z nx) (N : s_Non B sl ab ta f n dN mN xN cN mc cv cg cT cp) : s_R B2 th ou (cw sl ex ab ta dr (n_md dN) (n_ml mN) (n_mt xN) mc 1 ct (mrr th (n_pr ab) sl ex ta nx 1 ct (n_md dN) cv cg cT cp ou)) :=
  .inl ⟨sl, ex, ab, ta, dr, nx, f, n, dN, mN, xN, cN, mc, ct, cv, cg, cT, cp, hd, hx, ⟨s_On_up hB N.1, N.2⟩, rfl⟩
theorem R_off {B B2 : Nat} {th : Int32} {ou : Nat → Int64} {sl ex ab ta dr nx : Nat → Int32} {mc cv cg cT cp : Int32} (hB : B ≤ B2) (hd : s_z dr) (hx : s_z nx) (hz : s_z ta) (V : s_Sv B sl) (hb : ∀ i, ab i = 0 ∨ ab i = 1) (hA : s_cc cv cg 40) : s_R B2 th ou (cw sl ex ab ta dr (-1) (-1) (-1) mc 0 (-1) (mrr th (n_pr ab) sl ex ta nx 0 (-1) (-1) cv cg cT cp ou)) :=
  .inr ⟨sl, ex, ab, ta, dr, nx, mc, cv, cg, cT, cp, hd, hx, hz, s_Sv_up hB V, hb, hA, rfl⟩
theorem s_Non.cp {B : Nat} {sl ab ta : Nat → Int32} {f : Nat → Nat} {n dN mN xN cN : Nat} {mc cv cg cT cp : Int32} (N : s_Non B sl ab ta f n dN mN xN cN mc cv cg cT cp) : n_cp (n_md dN) cT xN ∧ n_cq cv cg mN xN := by
  obtain ⟨⟨V, hb, T0, N1, W, M1, M2, M3, M4⟩, ⟨a, b, a1, a2, a3, a4, a5⟩, C, D⟩ := N
  refine ⟨⟨fun q => ?_, fun q => ?_⟩, ⟨M3, fun q => (M2 q).2.2.1⟩, fun q => ?_⟩
  · obtain ⟨d1, _⟩ := M2 (M3 q)
    refine ⟨fun z => n_md_neg.1 z d1, ?_⟩
    rw [D d1]
    exact if_pos q
  · by_cases z : dN < 4
    · right
      rw [D z]
      exact if_neg q
    · exact .inl (n_md_neg.2 z)
  · obtain ⟨b1, b2⟩ := a5 (M3 q)
    rw [a3, a4, b1, b2]
    exact ⟨rfl, rfl⟩
theorem s_cc_any {cv cg : Int32} {m : Nat} (h : s_cc cv cg m) : s_cc cv cg 40 := by
  obtain ⟨a, b, a1, a2, a3, a4, _⟩ := h
  exact ⟨a, b, a1, a2, a3, a4, fun q => absurd q (by omega)⟩
theorem t_17 {sc : Nat × (Nat → Int32)} {i B : Nat} {th : Int32} {ou : Nat → Int64} {W : xk_W} {y5 y6 : Value} {Φ : xk_R → Prop} (h : s_R B th ou W) (hB : B + 2 < 2147483648) (hi : i + 3 < sc.1) (hn : sc.1 < 2147483648) (K : s_K sc i B Φ) : xk_Po (xp_P sc) 180 629 [.ref 999, .ref 0, .ref 10, .ref 16, .int (Int32.ofNat i), y5, y6] [] W Φ := by
  rcases h with ⟨sl, ex, ab, ta, dr, nx, f, n, dN, mN, xN, cN, mc, ct, cv, cg, cT, cp, hd, hx, N, rfl⟩ | ⟨sl, ex, ab, ta, dr, nx, mc, cv, cg, cT, cp, hd, hx, hz, V, hb, hA, rfl⟩
  · refine l_17 hi hn (k := 0) (q := 0) ?_ ?_ (K 0 0 _ _ _ _ (by omega) (R_off (ou := ou) (sl := sl) (ex := ex) (ab := ab) (ta := ta) (dr := dr) (nx := nx) (mc := mc) (cv := cv) (cg := cg) (cT := cT) (cp := cp) (by omega) hd hx N.1.2.2.1.z N.1.1 N.1.2.1 (s_cc_any N.2.1)))
    · exact h_off (c_off (show ¬ (1 : Int32) = 0 by decide))
    · simp only [fw_eq]; exact r_off_on
  · refine l_17 hi hn (k := 1) (q := 1) ?_ ?_ (K 1 1 _ _ _ _ (by omega) (R_off (ou := ou) (sl := sl) (ex := ex) (ab := ab) (ta := ta) (dr := dr) (nx := nx) (mc := mc) (cv := cv) (cg := cg) (cT := cT) (cp := cp) (by omega) hd hx hz V hb hA))
    · exact h_off_t (c_off_off rfl) rfl
    · simp only [fw_eq]; exact r_off_off
theorem t_16 {sc : Nat × (Nat → Int32)} {i B : Nat} {th : Int32} {ou : Nat → Int64} {W : xk_W} {y5 y6 : Value} {Φ : xk_R → Prop} (h : s_R B th ou W) (hB : B + 2 < 2147483648) (hi : i + 3 < sc.1) (hn : sc.1 < 2147483648) (K : s_K sc i B Φ) : xk_Po (xp_P sc) 180 607 [.ref 999, .ref 0, .ref 10, .ref 16, .int (Int32.ofNat i), y5, y6] [] W Φ := by
  rcases h with ⟨sl, ex, ab, ta, dr, nx, f, n, dN, mN, xN, cN, mc, ct, cv, cg, cT, cp, hd, hx, N, rfl⟩ | ⟨sl, ex, ab, ta, dr, nx, mc, cv, cg, cT, cp, hd, hx, hz, V, hb, hA, rfl⟩
  · by_cases q : Int32.ofInt (-1) ≤ sc.2 (i + 1)
    · refine l_16 hi hn (k := 0) (q := 0) ?_ ?_ (K 0 0 _ _ _ _ (by omega) (R_on (ou := ou) (sl := sl) (ex := ex) (ab := ab) (ta := ta) (dr := dr) (nx := nx) (f := f) (n := n) (dN := dN) (mN := mN) (xN := xN) (cN := cN) (mc := mc) (ct := sc.2 (i + 1)) (cv := cv) (cg := cg) (cT := cT) (cp := cp) (by omega) hd hx N))
      · exact h_cut (c_cut (show ¬ (1 : Int32) = 0 by decide) q)
      · simp only [fw_eq]; exact r_cut (fun z => (xn_lt_le.1 z) q)
    · refine l_16 hi hn (k := 2) (q := 1) ?_ ?_ (K 1 2 _ _ _ _ (by omega) (R_on (ou := ou) (sl := sl) (ex := ex) (ab := ab) (ta := ta) (dr := dr) (nx := nx) (f := f) (n := n) (dN := dN) (mN := mN) (xN := xN) (cN := cN) (mc := mc) (ct := ct) (cv := cv) (cg := cg) (cT := cT) (cp := cp) (by omega) hd hx N))
      · exact h_cut_t (c_cut_lo (show ¬ (1 : Int32) = 0 by decide) q) rfl
      · simp only [fw_eq]; exact r_cut_bad (xn_lt_le.2 q)
  · refine l_16 hi hn (k := 1) (q := 1) ?_ ?_ (K 1 1 _ _ _ _ (by omega) (R_off (ou := ou) (sl := sl) (ex := ex) (ab := ab) (ta := ta) (dr := dr) (nx := nx) (mc := mc) (cv := cv) (cg := cg) (cT := cT) (cp := cp) (by omega) hd hx hz V hb hA))
    · exact h_cut_t (c_cut_off rfl) rfl
    · simp only [fw_eq]; exact r_cut_off
theorem t_12 {sc : Nat × (Nat → Int32)} {i B : Nat} {th : Int32} {ou : Nat → Int64} {W : xk_W} {y5 y6 : Value} {Φ : xk_R → Prop} (h : s_R B th ou W) (hB : B + 2 < 2147483648) (hi : i + 3 < sc.1) (hn : sc.1 < 2147483648) (K : s_K sc i B Φ) : xk_Po (xp_P sc) 180 465 [.ref 999, .ref 0, .ref 10, .ref 16, .int (Int32.ofNat i), y5, y6] [] W Φ := by
  rcases h with ⟨sl, ex, ab, ta, dr, nx, f, n, dN, mN, xN, cN, mc, ct, cv, cg, cT, cp, hd, hx, N, rfl⟩ | ⟨sl, ex, ab, ta, dr, nx, mc, cv, cg, cT, cp, hd, hx, hz, V, hb, hA, rfl⟩
  · exact l_12 hi hn (c_moving) (by simp only [fw_eq]; exact r_moving_on) (by have h := K 0 0 ou _ y5 y6 (by omega) (R_on (ou := ou) (sl := sl) (ex := ex) (ab := ab) (ta := ta) (dr := dr) (nx := nx) (f := f) (n := n) (dN := dN) (mN := mN) (xN := xN) (cN := cN) (mc := mc) (ct := ct) (cv := cv) (cg := cg) (cT := cT) (cp := cp) (by omega) hd hx N); simpa using h)
  · exact l_12 hi hn (c_moving) (by simp only [fw_eq]; exact r_moving_off) (by have h := K 0 0 ou _ y5 y6 (by omega) (R_off (ou := ou) (sl := sl) (ex := ex) (ab := ab) (ta := ta) (dr := dr) (nx := nx) (mc := mc) (cv := cv) (cg := cg) (cT := cT) (cp := cp) (by omega) hd hx hz V hb hA); simpa using h)
end XkRel
