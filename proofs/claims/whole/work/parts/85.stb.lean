section XkStb
theorem s_cT0 {B : Nat} {sl ab ta : Nat → Int32} {f : Nat → Nat} {n d m x c : Nat} {N : Int32} (O : s_On B sl ab ta f n d m x c) (hm : m < 40) (hx : x < 32) (TG : s_Tv (upd ta (9 + m) (Int32.ofNat (x + 1))) (n_up f (9 + m) (x + 1))) : p_cT (s_seal (upd ta (9 + m) (Int32.ofNat (x + 1))) N) ta (Int32.ofNat (x + 1)) (9 + (m / 10 * 10 + m % 10)) = 0 := by
  have T := O.2.2.1
  have M4 := O.2.2.2.2.2.2.2.2
  have TD : s_Tv (s_seal (upd ta (9 + m) (Int32.ofNat (x + 1))) N) (n_up f (9 + m) (x + 1)) := s_seal_Tv TG
  unfold p_cT
  have lf := T.l m hm
  rw [if_neg (fun z => absurd ((xn_le0 (by omega)).1 z) (by omega)), show m / 10 * 10 + m % 10 = m by omega, TD.w (9 + m) (by omega) (by omega), T.w (9 + m) (by omega) (by omega), n_up_at]
  exact if_neg (fun z => (M4 hx).2 ⟨m, hm, ((xn_inj (by omega) (by omega)).1 z).symm⟩)
theorem s_On_stop {B : Nat} {sl ab ta : Nat → Int32} {f : Nat → Nat} {n d m x c : Nat} (O : s_On B sl ab ta f n d m x c) {d2 : Nat} (h : d2 < 4 → d < 4) : s_On B sl ab ta f n d2 40 32 c := by
  obtain ⟨V, hb, T0, N1, W, M1, M2, M3, M4⟩ := O
  exact ⟨V, hb, T0, N1, W, fun z => M1 (h z), fun z => absurd z (by omega), fun z => absurd z (by omega), fun z => absurd z (by omega)⟩
theorem n_mx40 (g : Nat → Nat) : n_mx g 40 32 = (40, 32) := if_neg (fun z => absurd z.1 (by omega))
theorem g_step {sc : Nat × (Nat → Int32)} {i B : Nat} {th : Int32} {ou : Nat → Int64} {y5 y6 : Value} {Φ : xk_R → Prop} {sl ex ab ta dr drW nx : Nat → Int32} {f : Nat → Nat} {n d m x c : Nat} {ct md0 ml0 mt0 mc0 mo0 cv0 cg0 cT0 cp0 : Int32} (O : s_On B sl ab ta f n d m x c) (hm : m < 40) (hd : s_z dr) (hx : s_z nx) (HC : ∀ Ψ : xk_R → Prop, (∀ y1 y2, xk_Po (xp_P sc) 51 47 [.ref 0, y1, y2] [] (cs (sl, ex, ct) ab ta dr (Int32.ofNat d) (Int32.ofNat m) (Int32.ofNat x) (Int32.ofNat c) 1 (mrr th (n_pr ab) sl ex ta nx 1 ct mo0 cv0 cg0 cT0 cp0 ou)) Ψ) → xk_Po (xp_P sc) 51 0 [.ref 0, .retAddr 0, .retAddr 0] [] (cw sl ex ab ta drW md0 ml0 mt0 mc0 1 ct (mrr th (n_pr ab) sl ex ta nx 1 ct mo0 cv0 cg0 cT0 cp0 ou)) Ψ) (HM : ∀ (p : xk_Ten) (r : xk_W) (Ψ : xk_R → Prop), (∀ y1 y2, xk_Po (xp_P sc) 149 89 [.ref 10, y1, y2] [] (mw p (0) (n_pr ab) sl ex ta nx (1) ct (Int32.ofNat d) (Int32.ofNat (m / 10)) (Int32.ofNat (m % 10)) (Int32.ofNat (x + 1)) (Int32.ofNat c) r) Ψ) → xk_Po (xp_P sc) 149 0 [.ref 10, .retAddr 0, .retAddr 0] [] (mw p th (n_pr ab) sl ex ta nx (1) ct mo0 cv0 cg0 cT0 cp0 r) Ψ) (hB : B + 2 < 2147483648) (hi : i + 3 < sc.1) (hn : sc.1 < 2147483648) (K : s_K sc i B Φ) : xk_Po (xp_P sc) 180 440 [.ref 999, .ref 0, .ref 10, .ref 16, .int (Int32.ofNat i), y5, y6] [] (cw sl ex ab ta drW md0 ml0 mt0 mc0 1 ct (mrr th (n_pr ab) sl ex ta nx 1 ct mo0 cv0 cg0 cT0 cp0 ou)) Φ := by
  obtain ⟨V, hb, T, N1, W0, M1, M2, M3, M4⟩ := id O
  obtain ⟨hd4, f0, x0, c0⟩ := M2 hm
  have hq : n_all f ab := M1 hd4
  have ccm : s_cc (Int32.ofNat (m / 10)) (Int32.ofNat (m % 10)) m := ⟨m / 10, m % 10, by omega, by omega, rfl, rfl, fun _ => ⟨rfl, rfl⟩⟩
  have em : n_md d = Int32.ofNat d := if_pos hd4
  have el : n_ml m = Int32.ofNat m := if_pos hm
  have et : n_mt x = Int32.ofNat x := if_pos x0
  have hs : (m_cp (x * 4 + c) ((f (9 + m) - 1) * 4 + c) (sl, ex, ct)).2.1 = sl := m_cp_sl _ _ _
  have e0 : ta 0 + 1 = Int32.ofNat (n + 1) := by rw [N1.1]; exact xn_add n 1
  have TG : s_Tv (upd ta (9 + m) (Int32.ofNat (x + 1))) (n_up f (9 + m) (x + 1)) := g_mov T hm f0 x0 M4
  have V2 : s_Sv (B + 2) (m_cp (x * 4 + c) ((f (9 + m) - 1) * 4 + c) (sl, ex, ct)).2.1 := by rw [hs]; exact s_Sv_up (B := B) (B2 := B + 2) (by omega) V
  by_cases h4 : c + 1 < 4
  · by_cases ho : (m_cp (x * 4 + c) ((f (9 + m) - 1) * 4 + c) (sl, ex, ct)).1 = true
    · by_cases hz : n_cnt (n_on f d) 40 = 0
      · have cl := xk_Ev.of (HC _ (fun y1 y2 => k_st_B1 (s := (sl, ex, ct)) T hm x0 c0 f0 hd4 h4 hz ho))
        have ml := xk_Ev.of (HM (c10 ((m_cp (x * 4 + c) ((f (9 + m) - 1) * 4 + c) (sl, ex, ct)).2.1) ((m_cp (x * 4 + c) ((f (9 + m) - 1) * 4 + c) (sl, ex, ct)).2.2.1) ab (ta) (dr) (-1) (-1) (-1) (Int32.ofNat (c + 1)) 1 ((m_cp (x * 4 + c) ((f (9 + m) - 1) * 4 + c) (sl, ex, ct)).2.2.2)) [.inl (2, 1, .inr (vp_updL ou 0 (Int32.ofNat (n_cnt (n_on f d) 40)).toInt64))] _ (fun y1 y2 => r_st_B1 (sl := sl) (ex := ex) (lf := ct) T hm f0 x0 c0 hd4 h4 hz ho))
        have R := R_on (th := 0) (B2 := B + 2) (ou := vp_updL ou 0 (Int32.ofNat (n_cnt (n_on f d) 40)).toInt64) (sl := (m_cp (x * 4 + c) ((f (9 + m) - 1) * 4 + c) (sl, ex, ct)).2.1) (ex := (m_cp (x * 4 + c) ((f (9 + m) - 1) * 4 + c) (sl, ex, ct)).2.2.1) (ab := ab) (ta := ta) (dr := dr) (nx := nx) (f := f) (n := n) (dN := 4) (mN := 40) (xN := 32) (cN := c) (mc := Int32.ofNat (c + 1)) (ct := (m_cp (x * 4 + c) ((f (9 + m) - 1) * 4 + c) (sl, ex, ct)).2.2.2) (cv := (Int32.ofNat (m / 10))) (cg := (Int32.ofNat (m % 10))) (cT := Int32.ofNat (x + 1)) (cp := Int32.ofNat (c + 1)) (B := B) (by omega) hd hx ⟨by rw [hs]; exact s_On_stop O (fun z => absurd z (by omega)), s_cc_any ccm, fun z => absurd z (by omega), fun z => absurd z (by omega)⟩
        rw [show n_md 4 = -1 from rfl, show n_ml 40 = -1 from rfl, show n_mt 32 = -1 from rfl] at R
        refine l_11 hi hn (k := 0) (q := 0) (ou1 := vp_updL ou 0 (Int32.ofNat (n_cnt (n_on f d) 40)).toInt64) (ou2 := vp_updL ou 0 (Int32.ofNat (n_cnt (n_on f d) 40)).toInt64) (b := Int32.ofNat (n_cnt (n_on f d) 40)) (fun _ => if_pos rfl) ?_ ?_ (K 0 0 _ _ _ _ (by omega) R)
        · exact h_step cl
        · simp only [fw_eq]; exact ml
      · have cl := xk_Ev.of (HC _ (fun y1 y2 => k_st_B0 (s := (sl, ex, ct)) T hm x0 c0 f0 hd4 h4 hz ho))
        have ml := xk_Ev.of (HM (c10 ((m_cp (x * 4 + c) ((f (9 + m) - 1) * 4 + c) (sl, ex, ct)).2.1) ((m_cp (x * 4 + c) ((f (9 + m) - 1) * 4 + c) (sl, ex, ct)).2.2.1) ab (ta) (dr) (Int32.ofNat d) (Int32.ofNat m) (Int32.ofNat x) (Int32.ofNat (c + 1)) 1 ((m_cp (x * 4 + c) ((f (9 + m) - 1) * 4 + c) (sl, ex, ct)).2.2.2)) [.inl (2, 1, .inr (vp_updL ou 0 (Int32.ofNat (n_cnt (n_on f d) 40)).toInt64))] _ (fun y1 y2 => r_st_B0 (sl := sl) (ex := ex) (lf := ct) T hm f0 x0 c0 hd4 h4 hz ho))
        have R := R_on (th := 0) (B2 := B + 2) (ou := vp_updL ou 0 (Int32.ofNat (n_cnt (n_on f d) 40)).toInt64) (sl := (m_cp (x * 4 + c) ((f (9 + m) - 1) * 4 + c) (sl, ex, ct)).2.1) (ex := (m_cp (x * 4 + c) ((f (9 + m) - 1) * 4 + c) (sl, ex, ct)).2.2.1) (ab := ab) (ta := ta) (dr := dr) (nx := nx) (f := f) (n := n) (dN := d) (mN := m) (xN := x) (cN := (c + 1)) (mc := (Int32.ofNat (c + 1))) (ct := (m_cp (x * 4 + c) ((f (9 + m) - 1) * 4 + c) (sl, ex, ct)).2.2.2) (cv := (Int32.ofNat (m / 10))) (cg := (Int32.ofNat (m % 10))) (cT := (Int32.ofNat (x + 1))) (cp := (Int32.ofNat (c + 1))) (B := B) (by omega) hd hx ⟨by rw [hs]; exact ⟨V, hb, T, N1, W0, M1, fun _ => ⟨hd4, f0, x0, h4⟩, M3, M4⟩, ccm, fun _ => ⟨rfl, rfl⟩, fun _ => (if_pos x0).symm⟩
        rw [em, el, et] at R
        refine l_11 hi hn (k := 0) (q := 0) (ou1 := vp_updL ou 0 (Int32.ofNat (n_cnt (n_on f d) 40)).toInt64) (ou2 := vp_updL ou 0 (Int32.ofNat (n_cnt (n_on f d) 40)).toInt64) (b := Int32.ofNat (n_cnt (n_on f d) 40)) (fun _ => if_pos rfl) ?_ ?_ (K 0 0 _ _ _ _ (by omega) R)
        · exact h_step cl
        · simp only [fw_eq]; exact ml
    · have cl := xk_Ev.of (HC _ (fun y1 y2 => k_st_A (s := (sl, ex, ct)) T hm x0 c0 f0 hd4 h4 ho))
      have ml := xk_Ev.of (HM (c10 ((m_cp (x * 4 + c) ((f (9 + m) - 1) * 4 + c) (sl, ex, ct)).2.1) ((m_cp (x * 4 + c) ((f (9 + m) - 1) * 4 + c) (sl, ex, ct)).2.2.1) ab (ta) (dr) (-1) (-1) (-1) (Int32.ofNat c) 0 (-1)) [.inl (2, 1, .inr (ou))] _ (fun y1 y2 => r_st_A (sl := sl) (ex := ex) (lf := ct) T hm f0 x0 c0 hd4 ho))
      have R := R_off (th := 1) (B := B + 2) (B2 := B + 2) (ou := ou) (sl := (m_cp (x * 4 + c) ((f (9 + m) - 1) * 4 + c) (sl, ex, ct)).2.1) (ex := (m_cp (x * 4 + c) ((f (9 + m) - 1) * 4 + c) (sl, ex, ct)).2.2.1) (ab := ab) (ta := ta) (dr := dr) (nx := nx) (mc := Int32.ofNat c) (cv := (Int32.ofNat (m / 10))) (cg := (Int32.ofNat (m % 10))) (cT := Int32.ofNat (x + 1)) (cp := Int32.ofNat (c + 1)) (Nat.le_refl _) hd hx T.z V2 hb (s_cc_any ccm)
      refine l_11 hi hn (k := 1) (q := 1) (ou1 := ou) (ou2 := ou) (b := 0) (fun z => absurd z (by decide)) ?_ ?_ (K 1 1 _ _ _ _ (by omega) R)
      · exact h_step_t cl rfl
      · simp only [fw_eq]; exact ml
  · have h5 : c + 1 = 4 := by omega
    by_cases ho : (m_cp (x * 4 + c) ((f (9 + m) - 1) * 4 + c) (sl, ex, ct)).1 = true
    · have eS : m_seq (m_cp (x * 4 + c) ((f (9 + m) - 1) * 4 + c)) (m_com (s_seal (upd ta (9 + m) (Int32.ofNat (x + 1))) (Int32.ofNat (n + 1))) ab) (sl, ex, ct) = m_com (s_seal (upd ta (9 + m) (Int32.ofNat (x + 1))) (Int32.ofNat (n + 1))) ab (m_cp (x * 4 + c) ((f (9 + m) - 1) * 4 + c) (sl, ex, ct)).2 := if_pos ho
      have O4 : s_On B sl ab ta f n d 40 32 c := s_On_stop O (fun z => z)
      have O5 : s_On B sl ab ta f n 4 40 32 c := s_On_stop O (fun z => absurd z (by omega))
      have HA : n_all (n_up f (9 + m) (x + 1)) ab := fun e he hne => hq e he (by rw [n_up_ne (by omega)] at hne; exact hne)
      have N4 := s_On_new (s := (m_cp (x * 4 + c) ((f (9 + m) - 1) * 4 + c) (sl, ex, ct)).2) O4 TG (.inl rfl) hB hs (fun _ => HA) (fun z => absurd z (by omega))
      have N5 := s_On_new (s := (m_cp (x * 4 + c) ((f (9 + m) - 1) * 4 + c) (sl, ex, ct)).2) O5 TG (.inl rfl) hB hs (fun _ => HA) (fun z => absurd z (by omega))
      rw [n_mx40] at N4 N5
      by_cases ho2 : (m_com (s_seal (upd ta (9 + m) (Int32.ofNat (x + 1))) (Int32.ofNat (n + 1))) ab (m_cp (x * 4 + c) ((f (9 + m) - 1) * 4 + c) (sl, ex, ct)).2).1 = true
      · by_cases hz : n_cnt (n_on (n_up f (9 + m) (x + 1)) d) 40 = 0
        · have cl := xk_Ev.of (HC _ (fun y1 y2 => k_st_C2 (s := (sl, ex, ct)) T hm x0 c0 f0 hd4 hb ((s_absent T).2 hq) hd h5 (s_seal_Tv TG) hz (by rw [e0, eS]; exact ho2)))
          rw [e0, eS] at cl
          have ml := xk_Ev.of (HM (c10 ((m_com (s_seal (upd ta (9 + m) (Int32.ofNat (x + 1))) (Int32.ofNat (n + 1))) ab (m_cp (x * 4 + c) ((f (9 + m) - 1) * 4 + c) (sl, ex, ct)).2).2.1) ((m_com (s_seal (upd ta (9 + m) (Int32.ofNat (x + 1))) (Int32.ofNat (n + 1))) ab (m_cp (x * 4 + c) ((f (9 + m) - 1) * 4 + c) (sl, ex, ct)).2).2.2.1) ab (s_seal (upd ta (9 + m) (Int32.ofNat (x + 1))) (Int32.ofNat (n + 1))) (s_seal (upd ta (9 + m) (Int32.ofNat (x + 1))) (Int32.ofNat (n + 1))) (-1) (-1) (-1) (Int32.ofNat (c + 1)) 1 ((m_com (s_seal (upd ta (9 + m) (Int32.ofNat (x + 1))) (Int32.ofNat (n + 1))) ab (m_cp (x * 4 + c) ((f (9 + m) - 1) * 4 + c) (sl, ex, ct)).2).2.2.2)) [.inl (2, 1, .inr (vp_updL ou 0 (Int32.ofNat (n_cnt (n_on (n_up f (9 + m) (x + 1)) d) 40)).toInt64))] _ (fun y1 y2 => r_st_C2 (sl := sl) (ex := ex) (lf := ct) T hm f0 x0 c0 hd4 O hB rfl hx hq h5 ho TG hz ho2))
          have R := R_on (th := 0) (B2 := B + 2) (ou := vp_updL ou 0 (Int32.ofNat (n_cnt (n_on (n_up f (9 + m) (x + 1)) d) 40)).toInt64) (sl := (m_com (s_seal (upd ta (9 + m) (Int32.ofNat (x + 1))) (Int32.ofNat (n + 1))) ab (m_cp (x * 4 + c) ((f (9 + m) - 1) * 4 + c) (sl, ex, ct)).2).2.1) (ex := (m_com (s_seal (upd ta (9 + m) (Int32.ofNat (x + 1))) (Int32.ofNat (n + 1))) ab (m_cp (x * 4 + c) ((f (9 + m) - 1) * 4 + c) (sl, ex, ct)).2).2.2.1) (ab := ab) (ta := s_seal (upd ta (9 + m) (Int32.ofNat (x + 1))) (Int32.ofNat (n + 1))) (dr := s_seal (upd ta (9 + m) (Int32.ofNat (x + 1))) (Int32.ofNat (n + 1))) (nx := s_seal (upd ta (9 + m) (Int32.ofNat (x + 1))) (Int32.ofNat (n + 1))) (f := (n_up f (9 + m) (x + 1))) (n := (n + 1)) (dN := 4) (mN := 40) (xN := 32) (cN := c) (mc := (Int32.ofNat (c + 1))) (ct := (m_com (s_seal (upd ta (9 + m) (Int32.ofNat (x + 1))) (Int32.ofNat (n + 1))) ab (m_cp (x * 4 + c) ((f (9 + m) - 1) * 4 + c) (sl, ex, ct)).2).2.2.2) (cv := (Int32.ofNat (m / 10))) (cg := (Int32.ofNat (m % 10))) (cT := (p_cT (s_seal (upd ta (9 + m) (Int32.ofNat (x + 1))) (Int32.ofNat (n + 1))) ta (Int32.ofNat (x + 1)) (9 + (m / 10 * 10 + m % 10)))) (cp := (Int32.ofNat (c + 1))) (Nat.le_refl _) (s_seal_z TG.z) (s_seal_z TG.z) ⟨N5, s_cc_any ccm, fun z => absurd z (by omega), fun z => absurd z (by omega)⟩
          rw [show n_md 4 = -1 from rfl, show n_ml 40 = -1 from rfl, show n_mt 32 = -1 from rfl] at R
          refine l_11 hi hn (k := 0) (q := 0) (ou1 := vp_updL ou 0 (Int32.ofNat (n_cnt (n_on (n_up f (9 + m) (x + 1)) d) 40)).toInt64) (ou2 := vp_updL ou 0 (Int32.ofNat (n_cnt (n_on (n_up f (9 + m) (x + 1)) d) 40)).toInt64) (b := Int32.ofNat (n_cnt (n_on (n_up f (9 + m) (x + 1)) d) 40)) (fun _ => if_pos rfl) ?_ ?_ (K 0 0 _ _ _ _ (by omega) R)
          · exact h_step cl
          · simp only [fw_eq]; exact ml
        · have cl := xk_Ev.of (HC _ (fun y1 y2 => k_st_C1 (s := (sl, ex, ct)) T hm x0 c0 f0 hd4 hb ((s_absent T).2 hq) hd h5 (s_seal_Tv TG) hz (by rw [e0, eS]; exact ho2)))
          rw [e0, eS] at cl
          have ml := xk_Ev.of (HM (c10 ((m_com (s_seal (upd ta (9 + m) (Int32.ofNat (x + 1))) (Int32.ofNat (n + 1))) ab (m_cp (x * 4 + c) ((f (9 + m) - 1) * 4 + c) (sl, ex, ct)).2).2.1) ((m_com (s_seal (upd ta (9 + m) (Int32.ofNat (x + 1))) (Int32.ofNat (n + 1))) ab (m_cp (x * 4 + c) ((f (9 + m) - 1) * 4 + c) (sl, ex, ct)).2).2.2.1) ab (s_seal (upd ta (9 + m) (Int32.ofNat (x + 1))) (Int32.ofNat (n + 1))) (s_seal (upd ta (9 + m) (Int32.ofNat (x + 1))) (Int32.ofNat (n + 1))) (Int32.ofNat d) (-1) (-1) (Int32.ofNat (c + 1)) 1 ((m_com (s_seal (upd ta (9 + m) (Int32.ofNat (x + 1))) (Int32.ofNat (n + 1))) ab (m_cp (x * 4 + c) ((f (9 + m) - 1) * 4 + c) (sl, ex, ct)).2).2.2.2)) [.inl (2, 1, .inr (vp_updL ou 0 (Int32.ofNat (n_cnt (n_on (n_up f (9 + m) (x + 1)) d) 40)).toInt64))] _ (fun y1 y2 => r_st_C1 (sl := sl) (ex := ex) (lf := ct) T hm f0 x0 c0 hd4 O hB rfl hx hq h5 ho TG hz ho2))
          have R := R_on (th := 0) (B2 := B + 2) (ou := vp_updL ou 0 (Int32.ofNat (n_cnt (n_on (n_up f (9 + m) (x + 1)) d) 40)).toInt64) (sl := (m_com (s_seal (upd ta (9 + m) (Int32.ofNat (x + 1))) (Int32.ofNat (n + 1))) ab (m_cp (x * 4 + c) ((f (9 + m) - 1) * 4 + c) (sl, ex, ct)).2).2.1) (ex := (m_com (s_seal (upd ta (9 + m) (Int32.ofNat (x + 1))) (Int32.ofNat (n + 1))) ab (m_cp (x * 4 + c) ((f (9 + m) - 1) * 4 + c) (sl, ex, ct)).2).2.2.1) (ab := ab) (ta := s_seal (upd ta (9 + m) (Int32.ofNat (x + 1))) (Int32.ofNat (n + 1))) (dr := s_seal (upd ta (9 + m) (Int32.ofNat (x + 1))) (Int32.ofNat (n + 1))) (nx := s_seal (upd ta (9 + m) (Int32.ofNat (x + 1))) (Int32.ofNat (n + 1))) (f := (n_up f (9 + m) (x + 1))) (n := (n + 1)) (dN := d) (mN := 40) (xN := 32) (cN := c) (mc := (Int32.ofNat (c + 1))) (ct := (m_com (s_seal (upd ta (9 + m) (Int32.ofNat (x + 1))) (Int32.ofNat (n + 1))) ab (m_cp (x * 4 + c) ((f (9 + m) - 1) * 4 + c) (sl, ex, ct)).2).2.2.2) (cv := (Int32.ofNat (m / 10))) (cg := (Int32.ofNat (m % 10))) (cT := (p_cT (s_seal (upd ta (9 + m) (Int32.ofNat (x + 1))) (Int32.ofNat (n + 1))) ta (Int32.ofNat (x + 1)) (9 + (m / 10 * 10 + m % 10)))) (cp := (Int32.ofNat (c + 1))) (Nat.le_refl _) (s_seal_z TG.z) (s_seal_z TG.z) ⟨N4, s_cc_any ccm, fun z => absurd z (by omega), fun _ => s_cT0 O hm x0 TG⟩
          rw [em] at R
          rw [show n_ml 40 = -1 from rfl, show n_mt 32 = -1 from rfl] at R
          refine l_11 hi hn (k := 0) (q := 0) (ou1 := vp_updL ou 0 (Int32.ofNat (n_cnt (n_on (n_up f (9 + m) (x + 1)) d) 40)).toInt64) (ou2 := vp_updL ou 0 (Int32.ofNat (n_cnt (n_on (n_up f (9 + m) (x + 1)) d) 40)).toInt64) (b := Int32.ofNat (n_cnt (n_on (n_up f (9 + m) (x + 1)) d) 40)) (fun _ => if_pos rfl) ?_ ?_ (K 0 0 _ _ _ _ (by omega) R)
          · exact h_step cl
          · simp only [fw_eq]; exact ml
      · obtain ⟨_, cl, d2, c2, z2, rfl⟩ := HC (fun z => ∃ d2 c2, s_z d2 ∧ z = ((.inr 0 : Option Value ⊕ Nat), 1, cl (m_com (s_seal (upd ta (9 + m) (Int32.ofNat (x + 1))) (Int32.ofNat (n + 1))) ab (m_cp (x * 4 + c) ((f (9 + m) - 1) * 4 + c) (sl, ex, ct)).2).2 ab ta d2 c2 (mrr th (n_pr ab) sl ex ta nx 1 ct mo0 cv0 cg0 cT0 cp0 ou))) (fun y1 y2 => by
          obtain ⟨d2, c2, z2, h⟩ := k_st_C0 (s := (sl, ex, ct)) (ab := ab) (ta := ta) (dr := dr) (r := mrr th (n_pr ab) sl ex ta nx 1 ct mo0 cv0 cg0 cT0 cp0 ou) (sc := sc) (y1 := y1) (y2 := y2) T hm x0 c0 f0 hd4 hb ((s_absent T).2 hq) hd h5 (by rw [e0, eS]; exact ho2)
          rw [e0, eS] at h
          exact h.mono (fun z hz => ⟨d2, c2, z2, hz⟩))
        have ml := xk_Ev.of (HM (c10 ((m_com (s_seal (upd ta (9 + m) (Int32.ofNat (x + 1))) (Int32.ofNat (n + 1))) ab (m_cp (x * 4 + c) ((f (9 + m) - 1) * 4 + c) (sl, ex, ct)).2).2.1) ((m_com (s_seal (upd ta (9 + m) (Int32.ofNat (x + 1))) (Int32.ofNat (n + 1))) ab (m_cp (x * 4 + c) ((f (9 + m) - 1) * 4 + c) (sl, ex, ct)).2).2.2.1) ab (ta) (d2) (-1) (-1) (-1) (c2) 0 (-1)) [.inl (2, 1, .inr (ou))] _ (fun y1 y2 => r_st_C0 (sl := sl) (ex := ex) (lf := ct) T hm f0 x0 c0 hd4 O hB rfl hx hq h5 ho TG ho2))
        have R := R_off (th := 1) (B := B + 2) (B2 := B + 2) (ou := ou) (sl := (m_com (s_seal (upd ta (9 + m) (Int32.ofNat (x + 1))) (Int32.ofNat (n + 1))) ab (m_cp (x * 4 + c) ((f (9 + m) - 1) * 4 + c) (sl, ex, ct)).2).2.1) (ex := (m_com (s_seal (upd ta (9 + m) (Int32.ofNat (x + 1))) (Int32.ofNat (n + 1))) ab (m_cp (x * 4 + c) ((f (9 + m) - 1) * 4 + c) (sl, ex, ct)).2).2.2.1) (ab := ab) (ta := ta) (dr := d2) (nx := s_seal (upd ta (9 + m) (Int32.ofNat (x + 1))) (Int32.ofNat (n + 1))) (mc := c2) (cv := (Int32.ofNat (m / 10))) (cg := (Int32.ofNat (m % 10))) (cT := Int32.ofNat (x + 1)) (cp := Int32.ofNat (c + 1)) (Nat.le_refl _) z2 (s_seal_z TG.z) T.z (V_com O hB hs TG (.inl rfl)) hb (s_cc_any ccm)
        refine l_11 hi hn (k := 1) (q := 1) (ou1 := ou) (ou2 := ou) (b := 0) (fun z => absurd z (by decide)) ?_ ?_ (K 1 1 _ _ _ _ (by omega) R)
        · exact h_step_t cl rfl
        · simp only [fw_eq]; exact ml
    · have eS : m_seq (m_cp (x * 4 + c) ((f (9 + m) - 1) * 4 + c)) (m_com (s_seal (upd ta (9 + m) (Int32.ofNat (x + 1))) (Int32.ofNat (n + 1))) ab) (sl, ex, ct) = m_cp (x * 4 + c) ((f (9 + m) - 1) * 4 + c) (sl, ex, ct) := if_neg ho
      obtain ⟨_, cl, d2, c2, z2, rfl⟩ := HC (fun z => ∃ d2 c2, s_z d2 ∧ z = ((.inr 0 : Option Value ⊕ Nat), 1, cl (m_cp (x * 4 + c) ((f (9 + m) - 1) * 4 + c) (sl, ex, ct)).2 ab ta d2 c2 (mrr th (n_pr ab) sl ex ta nx 1 ct mo0 cv0 cg0 cT0 cp0 ou))) (fun y1 y2 => by
        obtain ⟨d2, c2, z2, h⟩ := k_st_C0 (s := (sl, ex, ct)) (ab := ab) (ta := ta) (dr := dr) (r := mrr th (n_pr ab) sl ex ta nx 1 ct mo0 cv0 cg0 cT0 cp0 ou) (sc := sc) (y1 := y1) (y2 := y2) T hm x0 c0 f0 hd4 hb ((s_absent T).2 hq) hd h5 (by rw [e0, eS]; exact ho)
        rw [e0, eS] at h
        exact h.mono (fun z hz => ⟨d2, c2, z2, hz⟩))
      have ml := xk_Ev.of (HM (c10 ((m_cp (x * 4 + c) ((f (9 + m) - 1) * 4 + c) (sl, ex, ct)).2.1) ((m_cp (x * 4 + c) ((f (9 + m) - 1) * 4 + c) (sl, ex, ct)).2.2.1) ab (ta) (d2) (-1) (-1) (-1) (c2) 0 (-1)) [.inl (2, 1, .inr (ou))] _ (fun y1 y2 => r_st_A (sl := sl) (ex := ex) (lf := ct) T hm f0 x0 c0 hd4 ho))
      have R := R_off (th := 1) (B := B + 2) (B2 := B + 2) (ou := ou) (sl := (m_cp (x * 4 + c) ((f (9 + m) - 1) * 4 + c) (sl, ex, ct)).2.1) (ex := (m_cp (x * 4 + c) ((f (9 + m) - 1) * 4 + c) (sl, ex, ct)).2.2.1) (ab := ab) (ta := ta) (dr := d2) (nx := nx) (mc := c2) (cv := (Int32.ofNat (m / 10))) (cg := (Int32.ofNat (m % 10))) (cT := Int32.ofNat (x + 1)) (cp := Int32.ofNat (c + 1)) (Nat.le_refl _) z2 hx T.z V2 hb (s_cc_any ccm)
      refine l_11 hi hn (k := 1) (q := 1) (ou1 := ou) (ou2 := ou) (b := 0) (fun z => absurd z (by decide)) ?_ ?_ (K 1 1 _ _ _ _ (by omega) R)
      · exact h_step_t cl rfl
      · simp only [fw_eq]; exact ml
theorem t_11 {sc : Nat × (Nat → Int32)} {i B : Nat} {th : Int32} {ou : Nat → Int64} {W : xk_W} {y5 y6 : Value} {Φ : xk_R → Prop} (h : s_R B th ou W) (hB : B + 2 < 2147483648) (hi : i + 3 < sc.1) (hn : sc.1 < 2147483648) (K : s_K sc i B Φ) : xk_Po (xp_P sc) 180 440 [.ref 999, .ref 0, .ref 10, .ref 16, .int (Int32.ofNat i), y5, y6] [] W Φ := by
  rcases h with ⟨sl, ex, ab, ta, dr, nx, f, n, dN, mN, xN, cN, mc, ct, cv, cg, cT, cp, hd, hx, N, rfl⟩ | ⟨sl, ex, ab, ta, dr, nx, mc, cv, cg, cT, cp, hd, hx, hz, V, hb, hA, rfl⟩
  · have O := N.1
    have T := O.2.2.1
    have hb := O.2.1
    obtain ⟨hC, hQ⟩ := N.cp
    obtain ⟨M1, M2, M3, M4⟩ := O.2.2.2.2.2
    have hbp := n_pr_b ab
    by_cases h4 : dN < 4
    · have em : n_md dN = Int32.ofNat dN := if_pos h4
      have hcT := N.2.2.2 h4
      by_cases hm : mN < 40
      · obtain ⟨a, b, ha, hb2, hcv, hcg, hab⟩ := id N.2.1
        obtain ⟨rfl, rfl⟩ := hab hm
        obtain ⟨_, f0, x0, c0⟩ := M2 hm
        obtain ⟨hmc, hcp⟩ := N.2.2.1 hm
        rw [show n_leg xN = Int32.ofNat (xN + 1) from if_pos x0] at hcT
        subst hcv hcg hmc hcp hcT
        refine g_step (d := dN) (m := mN) (x := xN) (c := cN) (dr := dr) O hm hd hx (fun Ψ h => ?_) (fun p r Ψ h => ?_) hB hi hn K
        · rw [em, show n_ml mN = Int32.ofNat mN from if_pos hm, show n_mt xN = Int32.ofNat xN from if_pos x0] at *; exact k_step_go (s := (sl, ex, ct)) T h4 hm h
        · rw [em] at *; exact r_step_go h4 rfl T (m := mN) (c := cN) x0 rfl h
      · have hx4 : ¬ xN < 32 := fun z => hm (M3 z)
        have N4 : s_Non B sl ab ta f n dN 40 32 cN mc cv cg cT cp := s_Non_none N hm
        rw [show n_ml mN = n_ml 40 from (if_neg hm).trans (if_neg (by omega)).symm, show n_mt xN = n_mt 32 from (if_neg hx4).trans (if_neg (by omega)).symm]
        rw [show n_leg xN = 0 from if_neg hx4] at hcT
        have lsl := n_ls_le (n_on f dN) 40 0
        by_cases hj : n_ls (n_on f dN) 40 0 < 40
        · obtain ⟨j, hls⟩ : ∃ j, n_ls (n_on f dN) 40 0 = j := ⟨_, rfl⟩
          have hj4 : j < 40 := by omega
          have hon : n_on f dN j := by rw [← hls]; exact lsl.2.2.1 (by omega)
          have h5 : f (5 + j / 10) ≠ 0 := fun z => by have := T.g (j / 10) (j % 10) (by omega) (by omega) (by rw [show j / 10 * 10 + j % 10 = j by omega]; exact hon.1); omega
          by_cases hR : n_R f ab 40 32 (j / 10) (j % 10) dN < 32
          · obtain ⟨x, hRx⟩ : ∃ x, n_R f ab 40 32 (j / 10) (j % 10) dN = x := ⟨_, rfl⟩
            have hx32 : x < 32 := by omega
            have ok := n_R_ok T.e hR
            rw [hRx] at ok
            have O2 : s_On B sl ab ta f n dN j x 0 := ⟨O.1, O.2.1, T, O.2.2.2.1, O.2.2.2.2.1, M1, fun _ => ⟨h4, hon.1, hx32, by omega⟩, fun _ => hj4, fun _ => ⟨ok.2.1, ok.1.1⟩⟩
            refine g_step (d := dN) (m := j) (x := x) (c := 0) (dr := ta) O2 hj4 T.z hx (fun Ψ h => ?_) (fun p r Ψ h => ?_) hB hi hn K
            · rw [em] at *; exact k_step_2 (s := (sl, ex, ct)) T h4 hj4 hls h5 hon.1 hb hd hRx hx32 h
            · rw [em] at *; exact r_step_2 h4 rfl T hj4 hls h5 hbp hcT (by rw [n_ab_pr hb]; exact hRx) hx32 h
          · rw [em]
            have cl := k_step_1 (sc := sc) (dr := dr) (mc := mc) (r := mrr th (n_pr ab) sl ex ta nx 1 ct (Int32.ofNat dN) cv cg cT cp ou) (s := (sl, ex, ct)) T h4 hj4 hls h5 hon.1 hb hd hR
            have ml := r_step_1 (sc := sc) (p := c10 sl ex ab ta ta (-1) (-1) (-1) mc 1 ct) (th := th) (sl := sl) (ex := ex) (nx := nx) (lf := ct) (cv := cv) (cg := cg) (cp := cp) (r := [.inl (2, 1, .inr (vp_updL ou 0 (-1 : Int32).toInt64))]) h4 rfl T hj4 hls h5 hbp hcT (by rw [n_ab_pr hb]; exact hR)
            have R := R_on (th := 0) (B2 := B + 2) (ou := vp_updL ou 0 (-1 : Int32).toInt64) (sl := sl) (ex := ex) (ab := ab) (ta := ta) (dr := ta) (nx := nx) (f := f) (n := n) (dN := 4) (mN := 40) (xN := 32) (cN := cN) (mc := mc) (ct := ct) (cv := (Int32.ofNat (j / 10))) (cg := (Int32.ofNat (j % 10))) (cT := 0) (cp := 0) (B := B) (by omega) T.z hx ⟨s_On_stop O (fun z => absurd z (by omega)), ⟨j / 10, j % 10, by omega, by omega, rfl, rfl, fun z => absurd z (by omega)⟩, fun z => absurd z (by omega), fun z => absurd z (by omega)⟩
            rw [show n_md 4 = -1 from rfl, show n_ml 40 = -1 from rfl, show n_mt 32 = -1 from rfl] at R
            refine l_11 hi hn (k := 0) (q := 0) (ou1 := vp_updL ou 0 (-1 : Int32).toInt64) (ou2 := vp_updL ou 0 (-1 : Int32).toInt64) (b := -1) (fun _ => if_pos rfl) ?_ ?_ (K 0 0 _ _ _ _ (by omega) R)
            · exact h_step cl
            · simp only [fw_eq]; exact ml
        · have hls : n_ls (n_on f dN) 40 0 = 40 := by omega
          rw [em]
          have cl := k_step_0 (sc := sc) (ab := ab) (dr := dr) (mc := mc) (r := mrr th (n_pr ab) sl ex ta nx 1 ct (Int32.ofNat dN) cv cg cT cp ou) (s := (sl, ex, ct)) T h4 hls
          have ml := r_step_0 (sc := sc) (p := c10 sl ex ab ta dr (-1) (-1) (-1) mc 1 ct) (th := th) (pr := n_pr ab) (sl := sl) (ex := ex) (nx := nx) (lf := ct) (cv := cv) (cg := cg) (cp := cp) (r := [.inl (2, 1, .inr (vp_updL ou 0 (0 : Int32).toInt64))]) h4 rfl T hcT hls
          have R := R_on (th := 0) (B2 := B + 2) (ou := vp_updL ou 0 (0 : Int32).toInt64) (sl := sl) (ex := ex) (ab := ab) (ta := ta) (dr := dr) (nx := nx) (f := f) (n := n) (dN := 4) (mN := 40) (xN := 32) (cN := cN) (mc := mc) (ct := ct) (cv := cv) (cg := cg) (cT := cT) (cp := cp) (B := B) (by omega) hd hx ⟨s_On_stop O (fun z => absurd z (by omega)), s_cc_any N.2.1, fun z => absurd z (by omega), fun z => absurd z (by omega)⟩
          rw [show n_md 4 = -1 from rfl, show n_ml 40 = -1 from rfl, show n_mt 32 = -1 from rfl] at R
          refine l_11 hi hn (k := 0) (q := 0) (ou1 := vp_updL ou 0 (0 : Int32).toInt64) (ou2 := vp_updL ou 0 (0 : Int32).toInt64) (b := 0) (fun _ => if_pos rfl) ?_ ?_ (K 0 0 _ _ _ _ (by omega) R)
          · exact h_step cl
          · simp only [fw_eq]; exact ml
    · refine l_11 hi hn (k := 2) (q := 1) (ou1 := ou) (b := 0) (fun z => absurd z (by decide)) ?_ ?_ (K 1 2 _ _ _ _ (by omega) (R_on (ou := ou) (sl := sl) (ex := ex) (ab := ab) (ta := ta) (dr := dr) (nx := nx) (f := f) (n := n) (dN := dN) (mN := mN) (xN := xN) (cN := cN) (mc := mc) (ct := ct) (cv := cv) (cg := cg) (cT := cT) (cp := cp) (by omega) hd hx N))
      · exact h_step_t (k_step_nm (if_neg h4)) rfl
      · simp only [fw_eq]; exact r_step_nm (fun z => by have := n_md_neg.2 h4; rw [Int32.lt_iff_toInt_lt] at this; rw [Int32.le_iff_toInt_le] at z; omega)
  · refine l_11 hi hn (k := 1) (q := 1) (ou1 := ou) (b := 0) (fun z => absurd z (by decide)) ?_ ?_ (K 1 1 _ _ _ _ (by omega) (R_off (ou := ou) (sl := sl) (ex := ex) (ab := ab) (ta := ta) (dr := dr) (nx := nx) (mc := mc) (cv := cv) (cg := cg) (cT := cT) (cp := cp) (by omega) hd hx hz V hb hA))
    · exact h_step_t (k_step_off) rfl
    · simp only [fw_eq]; exact r_step_off
end XkStb
