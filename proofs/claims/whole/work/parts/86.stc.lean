section XkStc
theorem t_19 {sc : Nat × (Nat → Int32)} {i B : Nat} {th : Int32} {ou : Nat → Int64} {W : xk_W} {y5 y6 : Value} {Φ : xk_R → Prop} (h : s_R B th ou W) (hB : B + 2 < 2147483648) (hi : i + 3 < sc.1) (hn : sc.1 < 2147483648) (K : s_K sc i B Φ) : xk_Po (xp_P sc) 180 697 [.ref 999, .ref 0, .ref 10, .ref 16, .int (Int32.ofNat i), y5, y6] [] W Φ := by
  rcases h with ⟨sl, ex, ab, ta, dr, nx, f, n, dN, mN, xN, cN, mc, ct, cv, cg, cT, cp, hd, hx, N, rfl⟩ | ⟨sl, ex, ab, ta, dr, nx, mc, cv, cg, cT, cp, hd, hx, hz, V, hb, hA, rfl⟩
  · refine l_19 hi hn (k := 1) (q := 1) (ou1 := ou) (b := 0) (fun z => absurd z (by decide)) ?_ ?_ (K 1 1 _ _ _ _ (by omega) (R_on (ou := ou) (sl := sl) (ex := ex) (ab := ab) (ta := ta) (dr := dr) (nx := nx) (f := f) (n := n) (dN := dN) (mN := mN) (xN := xN) (cN := cN) (mc := mc) (ct := ct) (cv := cv) (cg := cg) (cT := cT) (cp := cp) (by omega) hd hx N))
    · exact h_start_t (k_start_on) rfl
    · simp only [fw_eq]; exact r_start_on
  · obtain ⟨f, n, T, hT0, hnB, hN, hW, hS⟩ := n_tb_ok (ab := ab) V (by omega)
    have cl := k_start (sc := sc) (ex := ex) (dr := dr) (mc := mc) (r := mrr th (n_pr ab) sl ex ta nx 0 (-1) (-1) cv cg cT cp ou) V hb (by omega) hz T hT0 hN hnB hW hS
    have ml := r_start (sc := sc) (p := c10 (m_for (m_ali f (n_pr ab)) 20 0 (m_sta (n_tb sl (s_nwO sl ab 4)) ab ((s_nwO sl ab 4).2) (sl, ex, -1)).2).2.1 (m_for (m_ali f (n_pr ab)) 20 0 (m_sta (n_tb sl (s_nwO sl ab 4)) ab ((s_nwO sl ab 4).2) (sl, ex, -1)).2).2.2.1 ab (n_tb sl (s_nwO sl ab 4)) dr (-1) (-1) (-1) mc 1 (-1)) (th := th) (ex := ex) (nx := nx) (mo := -1) (cv := cv) (cg := cg) (cT := cT) (cp := cp) (r := [.inl (2, 1, .inr (vp_updL ou 0 ((s_nwO sl ab 4).2).toInt64))]) V hb (by omega) rfl hz T hN hnB hW hS
    obtain ⟨o1, o2, o3, o4, o5⟩ := m_sta_ok (s := (sl, ex, -1)) V (by omega) T hnB hW hS rfl
    have hs : (m_for (m_ali f (n_pr ab)) 20 0 (m_sta (n_tb sl (s_nwO sl ab 4)) ab ((s_nwO sl ab 4).2) (sl, ex, -1)).2).2.1 = (m_sta (n_tb sl (s_nwO sl ab 4)) ab (Int32.ofNat n) (sl, ex, -1)).2.1 := by rw [hN]; exact m_for_sl (fun i s => m_ali_sl f (n_pr ab) i s) _ _ _
    have R := R_on (th := 0) (B2 := B + 2) (ou := vp_updL ou 0 ((s_nwO sl ab 4).2).toInt64) (sl := (m_for (m_ali f (n_pr ab)) 20 0 (m_sta (n_tb sl (s_nwO sl ab 4)) ab ((s_nwO sl ab 4).2) (sl, ex, -1)).2).2.1) (ex := (m_for (m_ali f (n_pr ab)) 20 0 (m_sta (n_tb sl (s_nwO sl ab 4)) ab ((s_nwO sl ab 4).2) (sl, ex, -1)).2).2.2.1) (ab := ab) (ta := (n_tb sl (s_nwO sl ab 4))) (dr := dr) (nx := nx) (f := f) (n := n) (dN := 4) (mN := 40) (xN := 32) (cN := 0) (mc := mc) (ct := (-1)) (cv := cv) (cg := cg) (cT := 0) (cp := cp) (B := B) (by omega) hd hx ⟨⟨by rw [hs]; exact o2, hb, T, ⟨hT0, hnB⟩, by rw [hs]; exact o4, fun z => absurd z (by omega), fun z => absurd z (by omega), fun z => absurd z (by omega), fun z => absurd z (by omega)⟩, hA, fun z => absurd z (by omega), fun z => absurd z (by omega)⟩
    rw [show n_md 4 = -1 from rfl, show n_ml 40 = -1 from rfl, show n_mt 32 = -1 from rfl] at R
    refine l_19 hi hn (k := 0) (q := 0) (ou1 := vp_updL ou 0 ((s_nwO sl ab 4).2).toInt64) (ou2 := vp_updL ou 0 ((s_nwO sl ab 4).2).toInt64) (b := (s_nwO sl ab 4).2) (fun _ => if_pos rfl) ?_ ?_ (K 0 0 _ _ _ _ (by omega) R)
    · exact h_start cl
    · simp only [fw_eq]; exact ml
end XkStc
