section XkKsr
variable {sc : Nat × (Nat → Int32)} {sl ex ab ta dr : Nat → Int32} {md ml mt mc on ct : Int32} {r w : xk_W}
theorem k_start_on  : xk_Ev (xp_P sc) 59 0 [.ref 0, .retAddr 0] [] (cw sl ex ab ta dr md ml mt mc (1) ct r) (.inr 0, 1, cw sl ex ab ta dr md ml mt mc (1) ct r) := by
  apply xk_Ev.of
  refine xk_Po.go 1 rfl ?_
  exact xk_Po.ct1 rfl rfl (c_requireNoPower_t (show ¬ (1 : Int32) = 0 by decide)) rfl rfl
theorem k_load (hb : ∀ i, ab i = 0 ∨ ab i = 1) (hz : ∀ i, 51 ≤ i → ta i = 0) : xk_Ev (xp_P sc) 105 0 [.ref 0, .retAddr 0] [] (cw sl ex ab ta dr md ml mt mc on ct r) (.inl none, 0, cw sl ex ab (n_tb sl (s_nwO sl ab 4)) dr md ml mt mc on ct r) := by
  rcases n_Q_O sl ab 4 with ⟨h1, h2⟩ | ⟨d, u, ⟨h1, h2, h3⟩, h4, h5, h6⟩
  · have e : n_tb sl (s_nwO sl ab 4) = s_clr ta (fun _ => True) 0 51 := by
      unfold n_tb
      rw [h1, if_pos rfl]
      funext i
      rw [s_clr_eq]
      by_cases q : i < 51
      · rw [if_pos ⟨by omega, by omega, trivial⟩]
      · rw [if_neg (by omega), hz i (by omega)]
    rw [e]
    exact c_load1 hb (by rw [h1])
  · have hs := s_start_lt h1 h2
    have e : n_tb sl (s_nwO sl ab 4) = va_cpy sl ta (s_start d u) 0 51 := by
      rw [n_cpy_bk hz]
      unfold n_tb
      rw [h4, if_neg (n_ne1 (by omega)), xn_nat (by omega)]
    rw [e]
    exact c_load2 hs hb (by rw [h4])
theorem k_sC {f : Nat → Nat} {N : Int32} {s : s_S} {y : Value} {Φ : xk_R → Prop} (T : s_Tv ta f) (hb : ∀ i, ab i = 0 ∨ ab i = 1) (hN : ta 0 = N) (hs : s.2.2 = -1) (h : xk_Po (xp_P sc) 59 33 [.ref 0, .int 4] [] (cs ((m_sta ta ab N s).2) (ab) (ta) (dr) (-1) (-1) (-1) (mc) (1) r) Φ) : xk_Po (xp_P sc) 59 7 [.ref 0, y] [] (cs (s) (ab) (ta) (dr) (-1) (-1) (-1) (mc) (1) r) Φ := by
  refine xk_Po.go 2 rfl ?_
  unfold m_sta at h
  have key : ∀ m j (u : s_S), j + m = 4 → u.2.2 = -1 → m_for (fun d s => if (¬ ta (1 + d) = 0 ∧ ab d = 0) ∧ ¬ (s_ws s.1 (s_start d 0) = N ∨ s_ws s.1 (s_start d 1) = N) then m_wt d ta s else (true, s)) m j u = m_for (fun d s => if (¬ ta (1 + d) = 0 ∧ ab d = 0) ∧ ¬ (s_ws s.1 (s_start d 0) = N ∨ s_ws s.1 (s_start d 1) = N) then m_wt d ta s else (true, s)) 4 0 s → xk_Po (xp_P sc) 59 9 [.ref 0, .int (Int32.ofNat j)] [] (cs (u) (ab) (ta) (dr) (-1) (-1) (-1) (mc) (1) r) Φ := by
    intro m
    induction m with
    | zero =>
      intro j u hj hu he
      have e : j = 4 := by omega
      subst e
      rw [← he] at h
      exact xk_Po.go 3 rfl h
    | succ m ih =>
      intro j u hj hu he
      have hd : j < 4 := by omega
      refine xk_Po.go 2 rfl ?_
      refine xk_Po.br rfl rfl (fun hZ => absurd ((xn_le (a := 4) (b := j) (by omega) (by omega)).1 hZ) (by omega)) (fun _ => ?_)
      refine xk_Po.go 4 rfl ?_
      refine xk_Po.ci3 rfl rfl (c_isListedAndPresent hd hb) ?_
      have skip : ¬ ((¬ ta (1 + j) = 0 ∧ ab j = 0) ∧ ¬ (s_ws u.1 (s_start j 0) = N ∨ s_ws u.1 (s_start j 1) = N)) → xk_Po (xp_P sc) 59 31 [.ref 0, .int (Int32.ofNat j)] [] (cs (u) (ab) (ta) (dr) (-1) (-1) (-1) (mc) (1) r) Φ := by
        intro hc
        have hh := ih (j + 1) u (by omega) hu ((m_for_ok (if_neg hc)).symm.trans he)
        rw [← xn_suc j] at hh
        exact xk_Po.go 2 rfl hh
      refine xk_Po.br rfl rfl (fun k0 => skip (fun q => xn_b0 k0 q.1)) (fun k0 => ?_)
      have k0 := xn_b1 k0
      refine xk_Po.go 5 rfl ?_
      refine xk_Po.ci1 rfl rfl (c_serial) ?_
      rw [hN]
      refine xk_Po.ci3 rfl rfl (c_hasWhole hd) ?_
      refine xk_Po.br rfl rfl (fun k1 => ?_) (fun k1 => skip (fun q => q.2 (xn_b1 k1)))
      have k1 := xn_b0 k1
      refine xk_Po.go 4 rfl ?_
      obtain ⟨w1, w2⟩ := m_wt_neg (d := j) (t := ta) hu
      have wt := c_writeTable (sc := sc) (ab := ab) (ta := ta) (dr := dr) (md := -1) (ml := -1) (mt := -1) (mc := mc) (on := 1) (r := r) (s := u) hd
      unfold s_out at wt
      rw [if_pos w1] at wt
      refine xk_Po.cv3 rfl rfl wt ?_
      have hh := ih (j + 1) (m_wt j ta u).2 (by omega) w2 ((m_for_ok ((if_pos ⟨k0, k1⟩).trans (m_true w1))).symm.trans he)
      rw [← xn_suc j] at hh
      exact xk_Po.go 2 rfl hh
  exact key 4 0 s rfl hs rfl
theorem k_sD {f : Nat → Nat} {s : s_S} {y : Value} {Φ : xk_R → Prop} (T : s_Tv ta f) (hb : ∀ i, ab i = 0 ∨ ab i = 1) (hs : s.2.2 = -1) (h : xk_Po (xp_P sc) 59 46 [.ref 0, .int 40] [] (cs ((m_for (m_ali f (n_pr ab)) 20 0 s).2) (ab) (ta) (dr) (-1) (-1) (-1) (mc) (1) r) Φ) : xk_Po (xp_P sc) 59 33 [.ref 0, y] [] (cs (s) (ab) (ta) (dr) (-1) (-1) (-1) (mc) (1) r) Φ := by
  refine xk_Po.go 2 rfl ?_
  have key : ∀ m i (u : s_S), i + m = 20 → u.2.2 = -1 → m_for (m_ali f (n_pr ab)) m i u = m_for (m_ali f (n_pr ab)) 20 0 s → xk_Po (xp_P sc) 59 35 [.ref 0, .int (Int32.ofNat (2 * i))] [] (cs (u) (ab) (ta) (dr) (-1) (-1) (-1) (mc) (1) r) Φ := by
    intro m
    induction m with
    | zero =>
      intro i u hi hu he
      have e : i = 20 := by omega
      subst e
      rw [← he] at h
      exact xk_Po.go 3 rfl h
    | succ m ih =>
      intro i u hi hu he
      have l0 := T.l (2 * i) (by omega)
      have l1 := T.l (2 * i + 1) (by omega)
      refine xk_Po.go 2 rfl ?_
      refine xk_Po.br rfl rfl (fun hZ => absurd ((xn_le (a := 40) (b := 2 * i) (by omega) (by omega)).1 hZ) (by omega)) (fun _ => ?_)
      refine xk_Po.go 5 rfl ?_
      rw [show Int32.ofNat (2 * i) + Int32.ofInt 1 = Int32.ofNat (2 * i + 1) from xn_suc _]
      have k0 : s_rd ta ab (2 * i) ↔ _ := k_rd T (by omega)
      have k1 : s_rd ta ab (2 * i + 1) ↔ _ := k_rd T (by omega)
      obtain ⟨a1, a2⟩ := m_ali_neg (f := f) (pr := n_pr ab) (i := i) hu
      have next : xk_Po (xp_P sc) 59 44 [.ref 0, .int (Int32.ofNat (2 * i))] [] (cs ((m_ali f (n_pr ab) i u).2) (ab) (ta) (dr) (-1) (-1) (-1) (mc) (1) r) Φ := by
        have hh := ih (i + 1) (m_ali f (n_pr ab) i u).2 (by omega) a2 ((m_for_ok (m_true a1)).symm.trans he)
        rw [show Int32.ofNat (2 * (i + 1)) = Int32.ofNat (2 * i) + Int32.ofInt 2 from (xn_add (2 * i) 2).symm] at hh
        exact xk_Po.go 2 rfl hh
      by_cases hc : s_rd ta ab (2 * i) ∧ s_rd ta ab (2 * i + 1)
      · have r0 := k0.1 hc.1
        have r1 := k1.1 hc.2
        have em : m_ali f (n_pr ab) i = m_for (fun w => m_cp ((f (9 + (2 * i + 1)) - 1) * 4 + w) ((f (9 + 2 * i) - 1) * 4 + w)) 4 0 := if_pos ⟨n_rda_pr.2 r0, n_rda_pr.2 r1⟩
        have h0 := r0.1
        have h1 := r1.1
        have al := c_alignTwins2 (sc := sc) (s := u) (ab := ab) (ta := ta) (dr := dr) (md := -1) (ml := -1) (mt := -1) (mc := mc) (on := 1) (r := r) (j := 2 * i) (i := 2 * i + 1) (x := f (9 + 2 * i) - 1) (y := f (9 + (2 * i + 1)) - 1) (by omega) (by omega) hb (k_ok T) hc (by omega) (by omega) (by rw [T.w (9 + 2 * i) (by omega) (by omega)]; exact xn_sub (b := 1) (by omega)) (by rw [T.w (9 + (2 * i + 1)) (by omega) (by omega)]; exact xn_sub (b := 1) (by omega))
        rw [← em] at al
        unfold s_out at al
        rw [if_pos a1] at al
        refine xk_Po.cv3 rfl rfl al ?_
        exact next
      · have em : m_ali f (n_pr ab) i = m_no := if_neg (fun q => hc ⟨k0.2 (n_rda_pr.1 q.1), k1.2 (n_rda_pr.1 q.2)⟩)
        have al := c_alignTwins1 (sc := sc) (s := u) (ab := ab) (ta := ta) (dr := dr) (md := -1) (ml := -1) (mt := -1) (mc := mc) (on := 1) (r := r) (j := 2 * i) (i := 2 * i + 1) (by omega) (by omega) hb (k_ok T) hc
        rw [← em] at al
        unfold s_out at al
        rw [if_pos a1] at al
        refine xk_Po.cv3 rfl rfl al ?_
        exact next
  exact key 20 0 s rfl hs rfl
theorem k_start {B : Nat} (V : s_Sv B sl) (hb : ∀ i, ab i = 0 ∨ ab i = 1) (hB : B < 2147483648) (hz : ∀ i, 51 ≤ i → ta i = 0) {f : Nat → Nat} {n : Nat} (T : s_Tv (n_tb sl (s_nwO sl ab 4)) f) (hT0 : n_tb sl (s_nwO sl ab 4) 0 = Int32.ofNat n) (hn : (s_nwO sl ab 4).2 = Int32.ofNat n) (hnB : n ≤ B) (hW : ∀ d u, d < 4 → u < 2 → ab d = 0 → n_ws sl (s_start d u) ≤ n) (hS : (n = 0 ∧ ∀ i, f i = 0) ∨ (0 < n ∧ s_Sd (n_tb sl (s_nwO sl ab 4)) n)) : xk_Ev (xp_P sc) 59 0 [.ref 0, .retAddr 0] [] (cw sl ex ab ta dr (-1) (-1) (-1) mc (0) (-1) r) (.inl (some (.int ((s_nwO sl ab 4).2))), 0, cw ((m_for (m_ali f (n_pr ab)) 20 0 (m_sta (n_tb sl (s_nwO sl ab 4)) ab ((s_nwO sl ab 4).2) (sl, ex, -1)).2).2.1) ((m_for (m_ali f (n_pr ab)) 20 0 (m_sta (n_tb sl (s_nwO sl ab 4)) ab ((s_nwO sl ab 4).2) (sl, ex, -1)).2).2.2.1) ab (n_tb sl (s_nwO sl ab 4)) dr (-1) (-1) (-1) mc (1) (-1) r) := by
  have ok := m_sta_ok (s := (sl, ex, -1)) (ab := ab) V hB T hnB hW hS rfl
  rw [← hn] at ok
  obtain ⟨o1, o2, o3, o4, o5⟩ := ok
  have oa : (m_for (m_ali f (n_pr ab)) 20 0 (m_sta (n_tb sl (s_nwO sl ab 4)) ab ((s_nwO sl ab 4).2) (sl, ex, -1)).2).1 = true ∧ (m_for (m_ali f (n_pr ab)) 20 0 (m_sta (n_tb sl (s_nwO sl ab 4)) ab ((s_nwO sl ab 4).2) (sl, ex, -1)).2).2.2.2 = -1 := m_for_neg (fun i s h => m_ali_neg h) 20 0 (by rw [o3])
  apply xk_Ev.of
  refine xk_Po.go 1 rfl ?_
  refine xk_Po.cv1 rfl rfl (c_requireNoPower rfl) ?_
  refine xk_Po.go 4 rfl ?_
  refine xk_Po.cv1 rfl rfl (k_load (on := 1) hb hz) ?_
  refine k_sC (s := (sl, ex, -1)) T hb (hT0.trans hn.symm) rfl ?_
  refine k_sD T hb (by rw [o3]) ?_
  refine xk_Po.go 2 rfl ?_
  refine xk_Po.ci1 rfl rfl (c_serial) ?_
  refine xk_Po.iret rfl ?_
  rw [hn] at oa
  rw [hT0, hn, oa.2]
end XkKsr
