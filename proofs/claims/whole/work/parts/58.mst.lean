section XkMst
variable {sc : Nat × (Nat → Int32)} {p : xk_Ten} {pr sl ex ta nx : Nat → Int32} {th on lf mo cv cg cT cp : Int32} {r w : xk_W}
theorem r_step_nm (h : ¬ 0 ≤ mo) : xk_Ev (xp_P sc) 149 0 [.ref 10, .retAddr 0, .retAddr 0] [] (mw p th pr sl ex ta nx (1) lf mo cv cg cT cp r) (.inl (some (.int 0)), 0, mw p (2) pr sl ex ta nx (1) lf mo cv cg cT cp r) := by
  apply xk_Ev.of
  refine xk_Po.go 6 rfl ?_
  refine xk_Po.br rfl rfl (fun hZ => absurd hZ (h)) (fun _ => ?_) -- 8 .ifCond .ge 11
  refine xk_Po.go 7 rfl ?_
  exact xk_Po.iret rfl (rfl)
theorem r_fl {f : Nat → Nat} {d : Nat} {y1 y2 : Value} {Φ : xk_R → Prop} (T : s_Tv ta f) (hd : d < 4) (hmo : mo = Int32.ofNat d) (h : xk_Po (xp_P sc) 149 44 [.ref 10, .int (Int32.ofNat (9 + n_ls (n_on f d) 40 0)), y2] [] (mw p th pr sl ex ta nx on lf mo cv cg cT cp r) Φ) : xk_Po (xp_P sc) 149 21 [.ref 10, y1, y2] [] (mw p th pr sl ex ta nx on lf mo cv cg cT cp r) Φ := by
  subst hmo
  refine xk_Po.go 2 rfl ?_
  have key : ∀ m0 j0, j0 + m0 = 40 → n_ls (n_on f d) m0 j0 = n_ls (n_on f d) 40 0 → xk_Po (xp_P sc) 149 23 [.ref 10, .int (Int32.ofNat (9 + j0)), y2] [] (mw p th pr sl ex ta nx on lf (Int32.ofNat d) cv cg cT cp r) Φ := by
    intro m0
    induction m0 with
    | zero =>
      intro j0 hj0 he
      have e4 : j0 = 40 := by omega
      subst e4
      rw [← he] at h
      exact xk_Po.go 3 rfl h
    | succ m0 ih =>
      intro j0 hj0 he
      have hl := T.l j0 (by omega)
      refine xk_Po.go 2 rfl ?_
      refine xk_Po.br rfl rfl (fun hZ => absurd ((xn_le (a := 49) (b := 9 + j0) (by omega) (by omega)).1 hZ) (by omega)) (fun _ => ?_)
      refine xk_Po.go 3 rfl ?_
      refine xk_Po.ok rfl rfl (xn_ix (j := 9 + j0) (by omega) (by omega)) ?_
      rw [xn_nat (j := 9 + j0) (by omega), T.w (9 + j0) (by omega) (by omega)]
      have next : ¬ n_on f d j0 → xk_Po (xp_P sc) 149 42 [.ref 10, .int (Int32.ofNat (9 + j0)), y2] [] (mw p th pr sl ex ta nx on lf (Int32.ofNat d) cv cg cT cp r) Φ := by
        intro hn
        have hq := ih (j0 + 1) (by omega) (by rw [← he]; exact (if_neg hn).symm)
        rw [← Nat.add_assoc 9 j0 1, ← xn_suc (9 + j0)] at hq
        exact xk_Po.go 2 rfl hq
      refine xk_Po.br rfl rfl (fun h1 => next (fun q => q.1 ((xn_inj (b := 0) (by omega) (by omega)).1 h1))) (fun h1 => ?_)
      have h1 : f (9 + j0) ≠ 0 := fun r => h1 (by rw [r]; rfl)
      refine xk_Po.go 3 rfl ?_
      refine xk_Po.ok rfl rfl (xn_ix (j := 9 + j0) (by omega) (by omega)) ?_
      rw [xn_nat (j := 9 + j0) (by omega), T.w (9 + j0) (by omega) (by omega)]
      have e8 := s_leg8 _ (show f (9 + j0) < 33 by omega) h1 d hd
      refine xk_Po.go 6 rfl ?_
      refine xk_Po.br rfl rfl (fun h2 => ?_) (fun h2 => next (fun q => h2 (e8.2 q.2)))
      rw [show n_ls (n_on f d) (m0 + 1) j0 = j0 from if_pos ⟨h1, e8.1 h2⟩] at he
      rw [← he] at h
      exact h
  exact key 40 0 rfl rfl
theorem r_st_A {f : Nat → Nat} {m x c d : Nat} (T0 : s_Tv ta f) (hm : m < 40) (hfm : f (9 + m) ≠ 0) (hx : x < 32) (hc : c < 4) (hd : d < 4) (ho : ¬ (m_cp (x * 4 + c) ((f (9 + m) - 1) * 4 + c) (sl, ex, lf)).1 = true) {y1 y2 : Value} : xk_Po (xp_P sc) 149 89 [.ref 10, y1, y2] [] (mw p (0) pr sl ex ta nx (1) lf (Int32.ofNat d) (Int32.ofNat (m / 10)) (Int32.ofNat (m % 10)) (Int32.ofNat (x + 1)) (Int32.ofNat c) r) (fun z => z = (.inl (some (.int (0))), 0, mw p (1) pr ((m_cp (x * 4 + c) ((f (9 + m) - 1) * 4 + c) (sl, ex, lf)).2.1) ((m_cp (x * 4 + c) ((f (9 + m) - 1) * 4 + c) (sl, ex, lf)).2.2.1) ta nx (0) (-1) (-1) (Int32.ofNat (m / 10)) (Int32.ofNat (m % 10)) (Int32.ofNat (x + 1)) (Int32.ofNat (c + 1)) r)) := by
  have hl := T0.l m hm
  have hp := r_put (sc := sc) (p := p) (th := 0) (pr := pr) (ta := ta) (nx := nx) (mo := Int32.ofNat d) (cv := Int32.ofNat (m / 10)) (cg := Int32.ofNat (m % 10)) (cT := Int32.ofNat (x + 1)) (cp := Int32.ofNat c) (r := r) (o := (true, (sl, ex, lf))) (x := x) (k := c) (y := ex ((f (9 + m) - 1) * 4 + c)) hx hc
  rw [show m_b (true, (sl, ex, lf)) (m_ex (x * 4 + c) (ex ((f (9 + m) - 1) * 4 + c))) = m_cp (x * 4 + c) ((f (9 + m) - 1) * 4 + c) (sl, ex, lf) from rfl] at hp
  refine xk_Po.go 9 rfl ?_
  rw [show Int32.ofInt 9 + Int32.ofInt 10 * Int32.ofNat (m / 10) + Int32.ofNat (m % 10) = Int32.ofNat (9 + m) from (s_was _ _).trans (congrArg Int32.ofNat (by omega))]
  refine xk_Po.go 10 rfl ?_
  refine xk_Po.ok rfl rfl (xn_ix (j := 9 + m) (by omega) (by omega)) ?_ -- 108 .iaload
  rw [xn_nat (j := 9 + m) (by omega), T0.w (9 + m) (by omega) (by omega)]
  refine xk_Po.go 2 rfl ?_
  rw [show f (9 + m) = f (9 + m) - 1 + 1 by omega]
  refine xk_Po.ci3 rfl rfl (r_get (x := f (9 + m) - 1) (k := c) (by omega) hc) ?_
  refine xk_Po.cv4 rfl rfl (hp) ?_
  rw [mp_off ho]
  refine xk_Po.go 5 rfl ?_
  rw [show Int32.ofNat c + Int32.ofInt 1 = Int32.ofNat (c + 1) from xn_suc c]
  refine xk_Po.go 18 rfl ?_
  refine xk_Po.ci2 rfl rfl (r_ended0) ?_
  exact xk_Po.iret rfl (rfl)
theorem r_st_B0 {f : Nat → Nat} {m x c d : Nat} (T0 : s_Tv ta f) (hm : m < 40) (hfm : f (9 + m) ≠ 0) (hx : x < 32) (hc : c < 4) (hd : d < 4) (h4 : c + 1 < 4) (hz : ¬ n_cnt (n_on f d) 40 = 0) (ho : (m_cp (x * 4 + c) ((f (9 + m) - 1) * 4 + c) (sl, ex, lf)).1 = true) {y1 y2 : Value} : xk_Po (xp_P sc) 149 89 [.ref 10, y1, y2] [] (mw p (0) pr sl ex ta nx (1) lf (Int32.ofNat d) (Int32.ofNat (m / 10)) (Int32.ofNat (m % 10)) (Int32.ofNat (x + 1)) (Int32.ofNat c) r) (fun z => z = (.inl (some (.int (Int32.ofNat (n_cnt (n_on f d) 40)))), 0, mw p (0) pr ((m_cp (x * 4 + c) ((f (9 + m) - 1) * 4 + c) (sl, ex, lf)).2.1) ((m_cp (x * 4 + c) ((f (9 + m) - 1) * 4 + c) (sl, ex, lf)).2.2.1) ta nx (1) ((m_cp (x * 4 + c) ((f (9 + m) - 1) * 4 + c) (sl, ex, lf)).2.2.2) (Int32.ofNat d) (Int32.ofNat (m / 10)) (Int32.ofNat (m % 10)) (Int32.ofNat (x + 1)) (Int32.ofNat (c + 1)) r)) := by
  have hl := T0.l m hm
  have hp := r_put (sc := sc) (p := p) (th := 0) (pr := pr) (ta := ta) (nx := nx) (mo := Int32.ofNat d) (cv := Int32.ofNat (m / 10)) (cg := Int32.ofNat (m % 10)) (cT := Int32.ofNat (x + 1)) (cp := Int32.ofNat c) (r := r) (o := (true, (sl, ex, lf))) (x := x) (k := c) (y := ex ((f (9 + m) - 1) * 4 + c)) hx hc
  rw [show m_b (true, (sl, ex, lf)) (m_ex (x * 4 + c) (ex ((f (9 + m) - 1) * 4 + c))) = m_cp (x * 4 + c) ((f (9 + m) - 1) * 4 + c) (sl, ex, lf) from rfl] at hp
  have hlg : ∀ (q1 q2 q3 q4 : Int32) (s1 s2 : Nat → Int32), xk_Ev (xp_P sc) 117 0 [.ref 10, .int (Int32.ofNat d), .retAddr 0, .retAddr 0] [] (mw p q1 pr s1 s2 ta nx q2 q3 (Int32.ofNat d) (Int32.ofNat (m / 10)) (Int32.ofNat (m % 10)) (Int32.ofNat (x + 1)) q4 r) (.inl (some (.int (Int32.ofNat (n_cnt (n_on f d) 40)))), 0, mw p q1 pr s1 s2 ta nx q2 q3 (Int32.ofNat d) (Int32.ofNat (m / 10)) (Int32.ofNat (m % 10)) (Int32.ofNat (x + 1)) q4 r) := by
    intro q1 q2 q3 q4 s1 s2
    rw [← p_leg_eq T0 hd 40 (by omega)]
    exact r_legsOn
  refine xk_Po.go 9 rfl ?_
  rw [show Int32.ofInt 9 + Int32.ofInt 10 * Int32.ofNat (m / 10) + Int32.ofNat (m % 10) = Int32.ofNat (9 + m) from (s_was _ _).trans (congrArg Int32.ofNat (by omega))]
  refine xk_Po.go 10 rfl ?_
  refine xk_Po.ok rfl rfl (xn_ix (j := 9 + m) (by omega) (by omega)) ?_ -- 108 .iaload
  rw [xn_nat (j := 9 + m) (by omega), T0.w (9 + m) (by omega) (by omega)]
  refine xk_Po.go 2 rfl ?_
  rw [show f (9 + m) = f (9 + m) - 1 + 1 by omega]
  refine xk_Po.ci3 rfl rfl (r_get (x := f (9 + m) - 1) (k := c) (by omega) hc) ?_
  refine xk_Po.cv4 rfl rfl (hp) ?_
  rw [m_true ho]
  refine xk_Po.go 5 rfl ?_
  rw [show Int32.ofNat c + Int32.ofInt 1 = Int32.ofNat (c + 1) from xn_suc c]
  refine xk_Po.go 7 rfl ?_
  refine xk_Po.br rfl rfl (fun hZ => absurd hZ (fun q => absurd ((xn_inj (a := c + 1) (b := 4) (by omega) (by omega)).1 q) (by omega))) (fun _ => ?_) -- 125 .if_icmp .ne 136
  refine xk_Po.go 2 rfl ?_
  refine xk_Po.br rfl rfl (fun _ => ?_) (fun hZ => absurd (show (0 : Int32) ≤ Int32.ofNat d from by have := xn_nneg (j := d) (by omega); rw [Int32.lt_iff_toInt_lt] at this; rw [Int32.le_iff_toInt_le]; omega) hZ) -- 138 .ifCond .ge 141
  refine xk_Po.go 3 rfl ?_
  refine xk_Po.ci2 rfl rfl (hlg _ _ _ _ _ _) ?_
  refine xk_Po.go 3 rfl ?_
  refine xk_Po.br rfl rfl (fun hZ => absurd hZ (fun q => hz ((xn_inj (b := 0) (by have := n_cnt_le (n_on f d) 40; omega) (by omega)).1 q))) (fun _ => ?_) -- 148 .ifCond .ne 151
  refine xk_Po.go 5 rfl ?_
  refine xk_Po.ci2 rfl rfl (r_ended1) ?_
  exact xk_Po.iret rfl (rfl)
theorem r_st_B1 {f : Nat → Nat} {m x c d : Nat} (T0 : s_Tv ta f) (hm : m < 40) (hfm : f (9 + m) ≠ 0) (hx : x < 32) (hc : c < 4) (hd : d < 4) (h4 : c + 1 < 4) (hz : n_cnt (n_on f d) 40 = 0) (ho : (m_cp (x * 4 + c) ((f (9 + m) - 1) * 4 + c) (sl, ex, lf)).1 = true) {y1 y2 : Value} : xk_Po (xp_P sc) 149 89 [.ref 10, y1, y2] [] (mw p (0) pr sl ex ta nx (1) lf (Int32.ofNat d) (Int32.ofNat (m / 10)) (Int32.ofNat (m % 10)) (Int32.ofNat (x + 1)) (Int32.ofNat c) r) (fun z => z = (.inl (some (.int (Int32.ofNat (n_cnt (n_on f d) 40)))), 0, mw p (0) pr ((m_cp (x * 4 + c) ((f (9 + m) - 1) * 4 + c) (sl, ex, lf)).2.1) ((m_cp (x * 4 + c) ((f (9 + m) - 1) * 4 + c) (sl, ex, lf)).2.2.1) ta nx (1) ((m_cp (x * 4 + c) ((f (9 + m) - 1) * 4 + c) (sl, ex, lf)).2.2.2) (-1) (Int32.ofNat (m / 10)) (Int32.ofNat (m % 10)) (Int32.ofNat (x + 1)) (Int32.ofNat (c + 1)) r)) := by
  have hl := T0.l m hm
  have hp := r_put (sc := sc) (p := p) (th := 0) (pr := pr) (ta := ta) (nx := nx) (mo := Int32.ofNat d) (cv := Int32.ofNat (m / 10)) (cg := Int32.ofNat (m % 10)) (cT := Int32.ofNat (x + 1)) (cp := Int32.ofNat c) (r := r) (o := (true, (sl, ex, lf))) (x := x) (k := c) (y := ex ((f (9 + m) - 1) * 4 + c)) hx hc
  rw [show m_b (true, (sl, ex, lf)) (m_ex (x * 4 + c) (ex ((f (9 + m) - 1) * 4 + c))) = m_cp (x * 4 + c) ((f (9 + m) - 1) * 4 + c) (sl, ex, lf) from rfl] at hp
  have hlg : ∀ (q1 q2 q3 q4 : Int32) (s1 s2 : Nat → Int32), xk_Ev (xp_P sc) 117 0 [.ref 10, .int (Int32.ofNat d), .retAddr 0, .retAddr 0] [] (mw p q1 pr s1 s2 ta nx q2 q3 (Int32.ofNat d) (Int32.ofNat (m / 10)) (Int32.ofNat (m % 10)) (Int32.ofNat (x + 1)) q4 r) (.inl (some (.int (Int32.ofNat (n_cnt (n_on f d) 40)))), 0, mw p q1 pr s1 s2 ta nx q2 q3 (Int32.ofNat d) (Int32.ofNat (m / 10)) (Int32.ofNat (m % 10)) (Int32.ofNat (x + 1)) q4 r) := by
    intro q1 q2 q3 q4 s1 s2
    rw [← p_leg_eq T0 hd 40 (by omega)]
    exact r_legsOn
  refine xk_Po.go 9 rfl ?_
  rw [show Int32.ofInt 9 + Int32.ofInt 10 * Int32.ofNat (m / 10) + Int32.ofNat (m % 10) = Int32.ofNat (9 + m) from (s_was _ _).trans (congrArg Int32.ofNat (by omega))]
  refine xk_Po.go 10 rfl ?_
  refine xk_Po.ok rfl rfl (xn_ix (j := 9 + m) (by omega) (by omega)) ?_ -- 108 .iaload
  rw [xn_nat (j := 9 + m) (by omega), T0.w (9 + m) (by omega) (by omega)]
  refine xk_Po.go 2 rfl ?_
  rw [show f (9 + m) = f (9 + m) - 1 + 1 by omega]
  refine xk_Po.ci3 rfl rfl (r_get (x := f (9 + m) - 1) (k := c) (by omega) hc) ?_
  refine xk_Po.cv4 rfl rfl (hp) ?_
  rw [m_true ho]
  refine xk_Po.go 5 rfl ?_
  rw [show Int32.ofNat c + Int32.ofInt 1 = Int32.ofNat (c + 1) from xn_suc c]
  refine xk_Po.go 7 rfl ?_
  refine xk_Po.br rfl rfl (fun hZ => absurd hZ (fun q => absurd ((xn_inj (a := c + 1) (b := 4) (by omega) (by omega)).1 q) (by omega))) (fun _ => ?_) -- 125 .if_icmp .ne 136
  refine xk_Po.go 2 rfl ?_
  refine xk_Po.br rfl rfl (fun _ => ?_) (fun hZ => absurd (show (0 : Int32) ≤ Int32.ofNat d from by have := xn_nneg (j := d) (by omega); rw [Int32.lt_iff_toInt_lt] at this; rw [Int32.le_iff_toInt_le]; omega) hZ) -- 138 .ifCond .ge 141
  refine xk_Po.go 3 rfl ?_
  refine xk_Po.ci2 rfl rfl (hlg _ _ _ _ _ _) ?_
  refine xk_Po.go 3 rfl ?_
  refine xk_Po.br rfl rfl (fun _ => ?_) (fun hZ => absurd (by rw [hz]; rfl) hZ) -- 148 .ifCond .ne 151
  refine xk_Po.go 5 rfl ?_
  refine xk_Po.ci2 rfl rfl (r_ended1) ?_
  exact xk_Po.iret rfl (rfl)
theorem r_st_C0 {f : Nat → Nat} {m x c d : Nat} (T0 : s_Tv ta f) (hm : m < 40) (hfm : f (9 + m) ≠ 0) (hx : x < 32) (hc : c < 4) (hd : d < 4) {B : Nat} {ab : Nat → Int32} {n dN mN xN cN : Nat} (O : s_On B sl ab ta f n dN mN xN cN) (hB : B + 2 < 2147483648) (hpr : pr = n_pr ab) (hnx : ∀ i, 51 ≤ i → nx i = 0) (hall : n_all f ab) (h4 : c + 1 = 4) (ho : (m_cp (x * 4 + c) ((f (9 + m) - 1) * 4 + c) (sl, ex, lf)).1 = true) (T : s_Tv (upd ta (9 + m) (Int32.ofNat (x + 1))) (n_up f (9 + m) (x + 1))) (ho2 : ¬ (m_com (s_seal (upd ta (9 + m) (Int32.ofNat (x + 1))) (Int32.ofNat (n + 1))) ab ((m_cp (x * 4 + c) ((f (9 + m) - 1) * 4 + c) (sl, ex, lf)).2.1, (m_cp (x * 4 + c) ((f (9 + m) - 1) * 4 + c) (sl, ex, lf)).2.2.1, (m_cp (x * 4 + c) ((f (9 + m) - 1) * 4 + c) (sl, ex, lf)).2.2.2)).1 = true) {y1 y2 : Value} : xk_Po (xp_P sc) 149 89 [.ref 10, y1, y2] [] (mw p (0) pr sl ex ta nx (1) lf (Int32.ofNat d) (Int32.ofNat (m / 10)) (Int32.ofNat (m % 10)) (Int32.ofNat (x + 1)) (Int32.ofNat c) r) (fun z => z = (.inl (some (.int (0))), 0, mw p (1) pr ((m_com (s_seal (upd ta (9 + m) (Int32.ofNat (x + 1))) (Int32.ofNat (n + 1))) ab ((m_cp (x * 4 + c) ((f (9 + m) - 1) * 4 + c) (sl, ex, lf)).2.1, (m_cp (x * 4 + c) ((f (9 + m) - 1) * 4 + c) (sl, ex, lf)).2.2.1, (m_cp (x * 4 + c) ((f (9 + m) - 1) * 4 + c) (sl, ex, lf)).2.2.2)).2.1) ((m_com (s_seal (upd ta (9 + m) (Int32.ofNat (x + 1))) (Int32.ofNat (n + 1))) ab ((m_cp (x * 4 + c) ((f (9 + m) - 1) * 4 + c) (sl, ex, lf)).2.1, (m_cp (x * 4 + c) ((f (9 + m) - 1) * 4 + c) (sl, ex, lf)).2.2.1, (m_cp (x * 4 + c) ((f (9 + m) - 1) * 4 + c) (sl, ex, lf)).2.2.2)).2.2.1) ta (s_seal (upd ta (9 + m) (Int32.ofNat (x + 1))) (Int32.ofNat (n + 1))) (0) (-1) (-1) (Int32.ofNat (m / 10)) (Int32.ofNat (m % 10)) (Int32.ofNat (x + 1)) (Int32.ofNat (c + 1)) r)) := by
  have hl := T0.l m hm
  have hp := r_put (sc := sc) (p := p) (th := 0) (pr := pr) (ta := ta) (nx := nx) (mo := Int32.ofNat d) (cv := Int32.ofNat (m / 10)) (cg := Int32.ofNat (m % 10)) (cT := Int32.ofNat (x + 1)) (cp := Int32.ofNat c) (r := r) (o := (true, (sl, ex, lf))) (x := x) (k := c) (y := ex ((f (9 + m) - 1) * 4 + c)) hx hc
  rw [show m_b (true, (sl, ex, lf)) (m_ex (x * 4 + c) (ex ((f (9 + m) - 1) * 4 + c))) = m_cp (x * 4 + c) ((f (9 + m) - 1) * 4 + c) (sl, ex, lf) from rfl] at hp
  have hsl : (m_cp (x * 4 + c) ((f (9 + m) - 1) * 4 + c) (sl, ex, lf)).2.1 = sl := m_cp_sl _ _ _
  have O2 : s_On B (m_cp (x * 4 + c) ((f (9 + m) - 1) * 4 + c) (sl, ex, lf)).2.1 ab ta f n dN mN xN cN := by rw [hsl]; exact O
  refine xk_Po.go 9 rfl ?_
  rw [show Int32.ofInt 9 + Int32.ofInt 10 * Int32.ofNat (m / 10) + Int32.ofNat (m % 10) = Int32.ofNat (9 + m) from (s_was _ _).trans (congrArg Int32.ofNat (by omega))]
  refine xk_Po.go 10 rfl ?_
  refine xk_Po.ok rfl rfl (xn_ix (j := 9 + m) (by omega) (by omega)) ?_ -- 108 .iaload
  rw [xn_nat (j := 9 + m) (by omega), T0.w (9 + m) (by omega) (by omega)]
  refine xk_Po.go 2 rfl ?_
  rw [show f (9 + m) = f (9 + m) - 1 + 1 by omega]
  refine xk_Po.ci3 rfl rfl (r_get (x := f (9 + m) - 1) (k := c) (by omega) hc) ?_
  refine xk_Po.cv4 rfl rfl (hp) ?_
  rw [m_true ho]
  refine xk_Po.go 5 rfl ?_
  rw [show Int32.ofNat c + Int32.ofInt 1 = Int32.ofNat (c + 1) from xn_suc c]
  refine xk_Po.go 7 rfl ?_
  refine xk_Po.br rfl rfl (fun _ => ?_) (fun hZ => absurd (by rw [show c + 1 = 4 from h4]; rfl) hZ) -- 125 .if_icmp .ne 136
  refine xk_Po.go 1 rfl ?_
  refine xk_Po.cv1 rfl rfl (r_begin T0.z hnx) ?_
  refine xk_Po.go 5 rfl ?_
  refine xk_Po.ok rfl rfl (xn_ix (j := 9 + m) (by omega) (by omega)) ?_ -- 133 .iastore
  rw [xn_nat (j := 9 + m) (by omega)]
  refine xk_Po.go 1 rfl ?_
  refine xk_Po.cv1 rfl rfl (r_chg0 (a := m / 10) (b := m % 10) O2 T hB hpr (.inl ⟨rfl, hall⟩) (by omega) (by omega) rfl rfl ho2) ?_
  refine xk_Po.go 14 rfl ?_
  refine xk_Po.ci2 rfl rfl (r_ended0) ?_
  exact xk_Po.iret rfl (rfl)
theorem r_st_C1 {f : Nat → Nat} {m x c d : Nat} (T0 : s_Tv ta f) (hm : m < 40) (hfm : f (9 + m) ≠ 0) (hx : x < 32) (hc : c < 4) (hd : d < 4) {B : Nat} {ab : Nat → Int32} {n dN mN xN cN : Nat} (O : s_On B sl ab ta f n dN mN xN cN) (hB : B + 2 < 2147483648) (hpr : pr = n_pr ab) (hnx : ∀ i, 51 ≤ i → nx i = 0) (hall : n_all f ab) (h4 : c + 1 = 4) (ho : (m_cp (x * 4 + c) ((f (9 + m) - 1) * 4 + c) (sl, ex, lf)).1 = true) (T : s_Tv (upd ta (9 + m) (Int32.ofNat (x + 1))) (n_up f (9 + m) (x + 1))) (hz : ¬ n_cnt (n_on (n_up f (9 + m) (x + 1)) d) 40 = 0) (ho2 : (m_com (s_seal (upd ta (9 + m) (Int32.ofNat (x + 1))) (Int32.ofNat (n + 1))) ab ((m_cp (x * 4 + c) ((f (9 + m) - 1) * 4 + c) (sl, ex, lf)).2.1, (m_cp (x * 4 + c) ((f (9 + m) - 1) * 4 + c) (sl, ex, lf)).2.2.1, (m_cp (x * 4 + c) ((f (9 + m) - 1) * 4 + c) (sl, ex, lf)).2.2.2)).1 = true) {y1 y2 : Value} : xk_Po (xp_P sc) 149 89 [.ref 10, y1, y2] [] (mw p (0) pr sl ex ta nx (1) lf (Int32.ofNat d) (Int32.ofNat (m / 10)) (Int32.ofNat (m % 10)) (Int32.ofNat (x + 1)) (Int32.ofNat c) r) (fun z => z = (.inl (some (.int (Int32.ofNat (n_cnt (n_on (n_up f (9 + m) (x + 1)) d) 40)))), 0, mw p (0) pr ((m_com (s_seal (upd ta (9 + m) (Int32.ofNat (x + 1))) (Int32.ofNat (n + 1))) ab ((m_cp (x * 4 + c) ((f (9 + m) - 1) * 4 + c) (sl, ex, lf)).2.1, (m_cp (x * 4 + c) ((f (9 + m) - 1) * 4 + c) (sl, ex, lf)).2.2.1, (m_cp (x * 4 + c) ((f (9 + m) - 1) * 4 + c) (sl, ex, lf)).2.2.2)).2.1) ((m_com (s_seal (upd ta (9 + m) (Int32.ofNat (x + 1))) (Int32.ofNat (n + 1))) ab ((m_cp (x * 4 + c) ((f (9 + m) - 1) * 4 + c) (sl, ex, lf)).2.1, (m_cp (x * 4 + c) ((f (9 + m) - 1) * 4 + c) (sl, ex, lf)).2.2.1, (m_cp (x * 4 + c) ((f (9 + m) - 1) * 4 + c) (sl, ex, lf)).2.2.2)).2.2.1) (s_seal (upd ta (9 + m) (Int32.ofNat (x + 1))) (Int32.ofNat (n + 1))) (s_seal (upd ta (9 + m) (Int32.ofNat (x + 1))) (Int32.ofNat (n + 1))) (1) ((m_com (s_seal (upd ta (9 + m) (Int32.ofNat (x + 1))) (Int32.ofNat (n + 1))) ab ((m_cp (x * 4 + c) ((f (9 + m) - 1) * 4 + c) (sl, ex, lf)).2.1, (m_cp (x * 4 + c) ((f (9 + m) - 1) * 4 + c) (sl, ex, lf)).2.2.1, (m_cp (x * 4 + c) ((f (9 + m) - 1) * 4 + c) (sl, ex, lf)).2.2.2)).2.2.2) (Int32.ofNat d) (Int32.ofNat (m / 10)) (Int32.ofNat (m % 10)) (p_cT (s_seal (upd ta (9 + m) (Int32.ofNat (x + 1))) (Int32.ofNat (n + 1))) ta (Int32.ofNat (x + 1)) (9 + (m / 10 * 10 + m % 10))) (Int32.ofNat (c + 1)) r)) := by
  have hl := T0.l m hm
  have hp := r_put (sc := sc) (p := p) (th := 0) (pr := pr) (ta := ta) (nx := nx) (mo := Int32.ofNat d) (cv := Int32.ofNat (m / 10)) (cg := Int32.ofNat (m % 10)) (cT := Int32.ofNat (x + 1)) (cp := Int32.ofNat c) (r := r) (o := (true, (sl, ex, lf))) (x := x) (k := c) (y := ex ((f (9 + m) - 1) * 4 + c)) hx hc
  rw [show m_b (true, (sl, ex, lf)) (m_ex (x * 4 + c) (ex ((f (9 + m) - 1) * 4 + c))) = m_cp (x * 4 + c) ((f (9 + m) - 1) * 4 + c) (sl, ex, lf) from rfl] at hp
  have hsl : (m_cp (x * 4 + c) ((f (9 + m) - 1) * 4 + c) (sl, ex, lf)).2.1 = sl := m_cp_sl _ _ _
  have O2 : s_On B (m_cp (x * 4 + c) ((f (9 + m) - 1) * 4 + c) (sl, ex, lf)).2.1 ab ta f n dN mN xN cN := by rw [hsl]; exact O
  have TD : s_Tv (s_seal (upd ta (9 + m) (Int32.ofNat (x + 1))) (Int32.ofNat (n + 1))) (n_up f (9 + m) (x + 1)) := s_seal_Tv T
  have hlh : ∀ (q1 q2 q3 q4 q5 : Int32) (s1 s2 : Nat → Int32), xk_Ev (xp_P sc) 117 0 [.ref 10, .int (Int32.ofNat d), .retAddr 0, .retAddr 0] [] (mw p q1 pr s1 s2 (s_seal (upd ta (9 + m) (Int32.ofNat (x + 1))) (Int32.ofNat (n + 1))) (s_seal (upd ta (9 + m) (Int32.ofNat (x + 1))) (Int32.ofNat (n + 1))) q2 q3 (Int32.ofNat d) (Int32.ofNat (m / 10)) (Int32.ofNat (m % 10)) q5 q4 r) (.inl (some (.int (Int32.ofNat (n_cnt (n_on (n_up f (9 + m) (x + 1)) d) 40)))), 0, mw p q1 pr s1 s2 (s_seal (upd ta (9 + m) (Int32.ofNat (x + 1))) (Int32.ofNat (n + 1))) (s_seal (upd ta (9 + m) (Int32.ofNat (x + 1))) (Int32.ofNat (n + 1))) q2 q3 (Int32.ofNat d) (Int32.ofNat (m / 10)) (Int32.ofNat (m % 10)) q5 q4 r) := by
    intro q1 q2 q3 q4 q5 s1 s2
    rw [← p_leg_eq TD hd 40 (by omega)]
    exact r_legsOn
  refine xk_Po.go 9 rfl ?_
  rw [show Int32.ofInt 9 + Int32.ofInt 10 * Int32.ofNat (m / 10) + Int32.ofNat (m % 10) = Int32.ofNat (9 + m) from (s_was _ _).trans (congrArg Int32.ofNat (by omega))]
  refine xk_Po.go 10 rfl ?_
  refine xk_Po.ok rfl rfl (xn_ix (j := 9 + m) (by omega) (by omega)) ?_ -- 108 .iaload
  rw [xn_nat (j := 9 + m) (by omega), T0.w (9 + m) (by omega) (by omega)]
  refine xk_Po.go 2 rfl ?_
  rw [show f (9 + m) = f (9 + m) - 1 + 1 by omega]
  refine xk_Po.ci3 rfl rfl (r_get (x := f (9 + m) - 1) (k := c) (by omega) hc) ?_
  refine xk_Po.cv4 rfl rfl (hp) ?_
  rw [m_true ho]
  refine xk_Po.go 5 rfl ?_
  rw [show Int32.ofNat c + Int32.ofInt 1 = Int32.ofNat (c + 1) from xn_suc c]
  refine xk_Po.go 7 rfl ?_
  refine xk_Po.br rfl rfl (fun _ => ?_) (fun hZ => absurd (by rw [show c + 1 = 4 from h4]; rfl) hZ) -- 125 .if_icmp .ne 136
  refine xk_Po.go 1 rfl ?_
  refine xk_Po.cv1 rfl rfl (r_begin T0.z hnx) ?_
  refine xk_Po.go 5 rfl ?_
  refine xk_Po.ok rfl rfl (xn_ix (j := 9 + m) (by omega) (by omega)) ?_ -- 133 .iastore
  rw [xn_nat (j := 9 + m) (by omega)]
  refine xk_Po.go 1 rfl ?_
  refine xk_Po.cv1 rfl rfl (r_chg1 (a := m / 10) (b := m % 10) O2 T hB hpr (.inl ⟨rfl, hall⟩) (by omega) (by omega) rfl rfl ho2) ?_
  refine xk_Po.go 2 rfl ?_
  refine xk_Po.br rfl rfl (fun _ => ?_) (fun hZ => absurd (show (0 : Int32) ≤ Int32.ofNat d from by have := xn_nneg (j := d) (by omega); rw [Int32.lt_iff_toInt_lt] at this; rw [Int32.le_iff_toInt_le]; omega) hZ) -- 138 .ifCond .ge 141
  refine xk_Po.go 3 rfl ?_
  refine xk_Po.ci2 rfl rfl (hlh _ _ _ _ _ _ _) ?_
  refine xk_Po.go 3 rfl ?_
  refine xk_Po.br rfl rfl (fun hZ => absurd hZ (fun q => hz ((xn_inj (b := 0) (by have := n_cnt_le (n_on (n_up f (9 + m) (x + 1)) d) 40; omega) (by omega)).1 q))) (fun _ => ?_) -- 148 .ifCond .ne 151
  refine xk_Po.go 5 rfl ?_
  refine xk_Po.ci2 rfl rfl (r_ended1) ?_
  exact xk_Po.iret rfl (rfl)
theorem r_st_C2 {f : Nat → Nat} {m x c d : Nat} (T0 : s_Tv ta f) (hm : m < 40) (hfm : f (9 + m) ≠ 0) (hx : x < 32) (hc : c < 4) (hd : d < 4) {B : Nat} {ab : Nat → Int32} {n dN mN xN cN : Nat} (O : s_On B sl ab ta f n dN mN xN cN) (hB : B + 2 < 2147483648) (hpr : pr = n_pr ab) (hnx : ∀ i, 51 ≤ i → nx i = 0) (hall : n_all f ab) (h4 : c + 1 = 4) (ho : (m_cp (x * 4 + c) ((f (9 + m) - 1) * 4 + c) (sl, ex, lf)).1 = true) (T : s_Tv (upd ta (9 + m) (Int32.ofNat (x + 1))) (n_up f (9 + m) (x + 1))) (hz : n_cnt (n_on (n_up f (9 + m) (x + 1)) d) 40 = 0) (ho2 : (m_com (s_seal (upd ta (9 + m) (Int32.ofNat (x + 1))) (Int32.ofNat (n + 1))) ab ((m_cp (x * 4 + c) ((f (9 + m) - 1) * 4 + c) (sl, ex, lf)).2.1, (m_cp (x * 4 + c) ((f (9 + m) - 1) * 4 + c) (sl, ex, lf)).2.2.1, (m_cp (x * 4 + c) ((f (9 + m) - 1) * 4 + c) (sl, ex, lf)).2.2.2)).1 = true) {y1 y2 : Value} : xk_Po (xp_P sc) 149 89 [.ref 10, y1, y2] [] (mw p (0) pr sl ex ta nx (1) lf (Int32.ofNat d) (Int32.ofNat (m / 10)) (Int32.ofNat (m % 10)) (Int32.ofNat (x + 1)) (Int32.ofNat c) r) (fun z => z = (.inl (some (.int (Int32.ofNat (n_cnt (n_on (n_up f (9 + m) (x + 1)) d) 40)))), 0, mw p (0) pr ((m_com (s_seal (upd ta (9 + m) (Int32.ofNat (x + 1))) (Int32.ofNat (n + 1))) ab ((m_cp (x * 4 + c) ((f (9 + m) - 1) * 4 + c) (sl, ex, lf)).2.1, (m_cp (x * 4 + c) ((f (9 + m) - 1) * 4 + c) (sl, ex, lf)).2.2.1, (m_cp (x * 4 + c) ((f (9 + m) - 1) * 4 + c) (sl, ex, lf)).2.2.2)).2.1) ((m_com (s_seal (upd ta (9 + m) (Int32.ofNat (x + 1))) (Int32.ofNat (n + 1))) ab ((m_cp (x * 4 + c) ((f (9 + m) - 1) * 4 + c) (sl, ex, lf)).2.1, (m_cp (x * 4 + c) ((f (9 + m) - 1) * 4 + c) (sl, ex, lf)).2.2.1, (m_cp (x * 4 + c) ((f (9 + m) - 1) * 4 + c) (sl, ex, lf)).2.2.2)).2.2.1) (s_seal (upd ta (9 + m) (Int32.ofNat (x + 1))) (Int32.ofNat (n + 1))) (s_seal (upd ta (9 + m) (Int32.ofNat (x + 1))) (Int32.ofNat (n + 1))) (1) ((m_com (s_seal (upd ta (9 + m) (Int32.ofNat (x + 1))) (Int32.ofNat (n + 1))) ab ((m_cp (x * 4 + c) ((f (9 + m) - 1) * 4 + c) (sl, ex, lf)).2.1, (m_cp (x * 4 + c) ((f (9 + m) - 1) * 4 + c) (sl, ex, lf)).2.2.1, (m_cp (x * 4 + c) ((f (9 + m) - 1) * 4 + c) (sl, ex, lf)).2.2.2)).2.2.2) (-1) (Int32.ofNat (m / 10)) (Int32.ofNat (m % 10)) (p_cT (s_seal (upd ta (9 + m) (Int32.ofNat (x + 1))) (Int32.ofNat (n + 1))) ta (Int32.ofNat (x + 1)) (9 + (m / 10 * 10 + m % 10))) (Int32.ofNat (c + 1)) r)) := by
  have hl := T0.l m hm
  have hp := r_put (sc := sc) (p := p) (th := 0) (pr := pr) (ta := ta) (nx := nx) (mo := Int32.ofNat d) (cv := Int32.ofNat (m / 10)) (cg := Int32.ofNat (m % 10)) (cT := Int32.ofNat (x + 1)) (cp := Int32.ofNat c) (r := r) (o := (true, (sl, ex, lf))) (x := x) (k := c) (y := ex ((f (9 + m) - 1) * 4 + c)) hx hc
  rw [show m_b (true, (sl, ex, lf)) (m_ex (x * 4 + c) (ex ((f (9 + m) - 1) * 4 + c))) = m_cp (x * 4 + c) ((f (9 + m) - 1) * 4 + c) (sl, ex, lf) from rfl] at hp
  have hsl : (m_cp (x * 4 + c) ((f (9 + m) - 1) * 4 + c) (sl, ex, lf)).2.1 = sl := m_cp_sl _ _ _
  have O2 : s_On B (m_cp (x * 4 + c) ((f (9 + m) - 1) * 4 + c) (sl, ex, lf)).2.1 ab ta f n dN mN xN cN := by rw [hsl]; exact O
  have TD : s_Tv (s_seal (upd ta (9 + m) (Int32.ofNat (x + 1))) (Int32.ofNat (n + 1))) (n_up f (9 + m) (x + 1)) := s_seal_Tv T
  have hlh : ∀ (q1 q2 q3 q4 q5 : Int32) (s1 s2 : Nat → Int32), xk_Ev (xp_P sc) 117 0 [.ref 10, .int (Int32.ofNat d), .retAddr 0, .retAddr 0] [] (mw p q1 pr s1 s2 (s_seal (upd ta (9 + m) (Int32.ofNat (x + 1))) (Int32.ofNat (n + 1))) (s_seal (upd ta (9 + m) (Int32.ofNat (x + 1))) (Int32.ofNat (n + 1))) q2 q3 (Int32.ofNat d) (Int32.ofNat (m / 10)) (Int32.ofNat (m % 10)) q5 q4 r) (.inl (some (.int (Int32.ofNat (n_cnt (n_on (n_up f (9 + m) (x + 1)) d) 40)))), 0, mw p q1 pr s1 s2 (s_seal (upd ta (9 + m) (Int32.ofNat (x + 1))) (Int32.ofNat (n + 1))) (s_seal (upd ta (9 + m) (Int32.ofNat (x + 1))) (Int32.ofNat (n + 1))) q2 q3 (Int32.ofNat d) (Int32.ofNat (m / 10)) (Int32.ofNat (m % 10)) q5 q4 r) := by
    intro q1 q2 q3 q4 q5 s1 s2
    rw [← p_leg_eq TD hd 40 (by omega)]
    exact r_legsOn
  refine xk_Po.go 9 rfl ?_
  rw [show Int32.ofInt 9 + Int32.ofInt 10 * Int32.ofNat (m / 10) + Int32.ofNat (m % 10) = Int32.ofNat (9 + m) from (s_was _ _).trans (congrArg Int32.ofNat (by omega))]
  refine xk_Po.go 10 rfl ?_
  refine xk_Po.ok rfl rfl (xn_ix (j := 9 + m) (by omega) (by omega)) ?_ -- 108 .iaload
  rw [xn_nat (j := 9 + m) (by omega), T0.w (9 + m) (by omega) (by omega)]
  refine xk_Po.go 2 rfl ?_
  rw [show f (9 + m) = f (9 + m) - 1 + 1 by omega]
  refine xk_Po.ci3 rfl rfl (r_get (x := f (9 + m) - 1) (k := c) (by omega) hc) ?_
  refine xk_Po.cv4 rfl rfl (hp) ?_
  rw [m_true ho]
  refine xk_Po.go 5 rfl ?_
  rw [show Int32.ofNat c + Int32.ofInt 1 = Int32.ofNat (c + 1) from xn_suc c]
  refine xk_Po.go 7 rfl ?_
  refine xk_Po.br rfl rfl (fun _ => ?_) (fun hZ => absurd (by rw [show c + 1 = 4 from h4]; rfl) hZ) -- 125 .if_icmp .ne 136
  refine xk_Po.go 1 rfl ?_
  refine xk_Po.cv1 rfl rfl (r_begin T0.z hnx) ?_
  refine xk_Po.go 5 rfl ?_
  refine xk_Po.ok rfl rfl (xn_ix (j := 9 + m) (by omega) (by omega)) ?_ -- 133 .iastore
  rw [xn_nat (j := 9 + m) (by omega)]
  refine xk_Po.go 1 rfl ?_
  refine xk_Po.cv1 rfl rfl (r_chg1 (a := m / 10) (b := m % 10) O2 T hB hpr (.inl ⟨rfl, hall⟩) (by omega) (by omega) rfl rfl ho2) ?_
  refine xk_Po.go 2 rfl ?_
  refine xk_Po.br rfl rfl (fun _ => ?_) (fun hZ => absurd (show (0 : Int32) ≤ Int32.ofNat d from by have := xn_nneg (j := d) (by omega); rw [Int32.lt_iff_toInt_lt] at this; rw [Int32.le_iff_toInt_le]; omega) hZ) -- 138 .ifCond .ge 141
  refine xk_Po.go 3 rfl ?_
  refine xk_Po.ci2 rfl rfl (hlh _ _ _ _ _ _ _) ?_
  refine xk_Po.go 3 rfl ?_
  refine xk_Po.br rfl rfl (fun _ => ?_) (fun hZ => absurd (by rw [hz]; rfl) hZ) -- 148 .ifCond .ne 151
  refine xk_Po.go 5 rfl ?_
  refine xk_Po.ci2 rfl rfl (r_ended1) ?_
  exact xk_Po.iret rfl (rfl)
theorem r_step_go {d : Nat} (hd : d < 4) (hmo : mo = Int32.ofNat d) {f : Nat → Nat} (T0 : s_Tv ta f) {m x c : Nat} (hx : x < 32) (hcT : cT = Int32.ofNat (x + 1)) {Φ : xk_R → Prop} (h : ∀ y1 y2, xk_Po (xp_P sc) 149 89 [.ref 10, y1, y2] [] (mw p (0) pr sl ex ta nx (1) lf mo cv cg cT cp r) Φ) : xk_Po (xp_P sc) 149 0 [.ref 10, .retAddr 0, .retAddr 0] [] (mw p th pr sl ex ta nx (1) lf mo cv cg cT cp r) Φ := by
  refine xk_Po.go 6 rfl ?_
  refine xk_Po.br rfl rfl (fun _ => ?_) (fun hZ => absurd (by rw [hmo]; exact (show (0 : Int32) ≤ Int32.ofNat d from by have := xn_nneg (j := d) (by omega); rw [Int32.lt_iff_toInt_lt] at this; rw [Int32.le_iff_toInt_le]; omega)) hZ) -- 8 .ifCond .ge 11
  refine xk_Po.go 7 rfl ?_
  refine xk_Po.br rfl rfl (fun hZ => absurd hZ (by rw [hcT]; exact fun q => absurd ((xn_inj (b := 0) (by omega) (by omega)).1 q) (by omega))) (fun _ => ?_) -- 20 .ifCond .ne 89
  exact h _ _
theorem r_step_0 {d : Nat} (hd : d < 4) (hmo : mo = Int32.ofNat d) {f : Nat → Nat} (T0 : s_Tv ta f) (hcT : cT = 0) (h : n_ls (n_on f d) 40 0 = 40) : xk_Ev (xp_P sc) 149 0 [.ref 10, .retAddr 0, .retAddr 0] [] (mw p th pr sl ex ta nx (1) lf mo cv cg cT cp r) (.inl (some (.int 0)), 0, mw p (0) pr sl ex ta nx (1) lf (-1) cv cg cT cp r) := by
  apply xk_Ev.of
  refine xk_Po.go 6 rfl ?_
  refine xk_Po.br rfl rfl (fun _ => ?_) (fun hZ => absurd (by rw [hmo]; exact (show (0 : Int32) ≤ Int32.ofNat d from by have := xn_nneg (j := d) (by omega); rw [Int32.lt_iff_toInt_lt] at this; rw [Int32.le_iff_toInt_le]; omega)) hZ) -- 8 .ifCond .ge 11
  refine xk_Po.go 7 rfl ?_
  refine xk_Po.br rfl rfl (fun _ => ?_) (fun hZ => absurd (hcT) hZ) -- 20 .ifCond .ne 89
  refine r_fl T0 hd hmo ?_
  rw [h]
  refine xk_Po.go 7 rfl ?_
  exact xk_Po.iret rfl (rfl)
theorem r_step_1 {d : Nat} (hd : d < 4) (hmo : mo = Int32.ofNat d) {f : Nat → Nat} (T0 : s_Tv ta f) {j : Nat} (hj : j < 40) (hls : n_ls (n_on f d) 40 0 = j) (h5 : f (5 + j / 10) ≠ 0) (hb : ∀ i, pr i = 0 ∨ pr i = 1) (hcT : cT = 0) (h : ¬ n_R f (n_ab pr) 40 32 (j / 10) (j % 10) d < 32) : xk_Ev (xp_P sc) 149 0 [.ref 10, .retAddr 0, .retAddr 0] [] (mw p th pr sl ex ta nx (1) lf mo cv cg cT cp r) (.inl (some (.int (-1))), 0, mw p (0) pr sl ex ta nx (1) lf (-1) (Int32.ofNat (j / 10)) (Int32.ofNat (j % 10)) (0) (0) r) := by
  have dj : ∀ j, j < 40 → Int32.ofNat j / Int32.ofInt 10 = Int32.ofNat (j / 10) ∧ Int32.ofNat j % Int32.ofInt 10 = Int32.ofNat (j % 10) := by decide
  subst hmo hcT
  have rm : ∀ (q1 : Int32), xk_Ev (xp_P sc) 129 0 [.ref 10, .ref 14, .int (Int32.ofNat (j / 10)), .int (Int32.ofNat (j % 10)), .int (n_md d), .retAddr 0, .retAddr 0, .retAddr 0, .retAddr 0] [] (mw p (0) pr sl ex ta nx (1) lf (q1) (Int32.ofNat (j / 10)) (Int32.ofNat (j % 10)) (0) (0) r) (.inl (some (.int (n_leg (n_R f (n_ab pr) 40 32 (j / 10) (j % 10) d)))), 0, mw p (0) pr sl ex ta nx (1) lf (q1) (Int32.ofNat (j / 10)) (Int32.ofNat (j % 10)) (0) (0) r) := by
    intro q1
    exact t_roomM T0 hb ⟨fun q => absurd q (by omega), fun _ => .inr rfl⟩ ⟨⟨fun q => absurd q (by omega), fun q => absurd q (by omega)⟩, fun q => absurd q (by omega)⟩ (by omega) h5 (by omega)
  apply xk_Ev.of
  refine xk_Po.go 6 rfl ?_
  refine xk_Po.br rfl rfl (fun _ => ?_) (fun hZ => absurd (show (0 : Int32) ≤ Int32.ofNat d from by have := xn_nneg (j := d) (by omega); rw [Int32.lt_iff_toInt_lt] at this; rw [Int32.le_iff_toInt_le]; omega) hZ) -- 8 .ifCond .ge 11
  refine xk_Po.go 8 rfl ?_
  refine r_fl T0 hd rfl ?_
  rw [hls]
  refine xk_Po.go 2 rfl ?_
  refine xk_Po.br rfl rfl (fun hZ => absurd hZ (fun q => absurd ((xn_inj (a := 9 + j) (b := 49) (by omega) (by omega)).1 q) (by omega))) (fun _ => ?_) -- 46 .if_icmp .ne 52
  refine xk_Po.go 4 rfl ?_
  rw [show Int32.ofNat (9 + j) - Int32.ofInt 9 = Int32.ofNat j from (xn_sub (a := 9 + j) (b := 9) (by omega)).trans (congrArg Int32.ofNat (by omega))]
  refine xk_Po.go 2 rfl ?_
  rw [(dj j hj).1]
  refine xk_Po.go 5 rfl ?_
  rw [show Int32.ofNat (9 + j) - Int32.ofInt 9 = Int32.ofNat j from (xn_sub (a := 9 + j) (b := 9) (by omega)).trans (congrArg Int32.ofNat (by omega))]
  refine xk_Po.go 2 rfl ?_
  rw [(dj j hj).2]
  refine xk_Po.go 14 rfl ?_
  rw [show Int32.ofNat d = n_md d from (if_pos hd).symm]
  refine xk_Po.ci5 rfl rfl (rm _) ?_
  rw [show n_leg (n_R f (n_ab pr) 40 32 (j / 10) (j % 10) d) = 0 from if_neg h]
  refine xk_Po.go 8 rfl ?_
  exact xk_Po.iret rfl (rfl)
theorem r_step_2 {d : Nat} (hd : d < 4) (hmo : mo = Int32.ofNat d) {f : Nat → Nat} (T0 : s_Tv ta f) {j : Nat} (hj : j < 40) (hls : n_ls (n_on f d) 40 0 = j) (h5 : f (5 + j / 10) ≠ 0) (hb : ∀ i, pr i = 0 ∨ pr i = 1) (hcT : cT = 0) {x : Nat} (hR : n_R f (n_ab pr) 40 32 (j / 10) (j % 10) d = x) (hx : x < 32) {Φ : xk_R → Prop} (h : ∀ y1 y2, xk_Po (xp_P sc) 149 89 [.ref 10, y1, y2] [] (mw p (0) pr sl ex ta nx (1) lf (Int32.ofNat d) (Int32.ofNat (j / 10)) (Int32.ofNat (j % 10)) (Int32.ofNat (x + 1)) (0) r) Φ) : xk_Po (xp_P sc) 149 0 [.ref 10, .retAddr 0, .retAddr 0] [] (mw p th pr sl ex ta nx (1) lf mo cv cg cT cp r) Φ := by
  have dj : ∀ j, j < 40 → Int32.ofNat j / Int32.ofInt 10 = Int32.ofNat (j / 10) ∧ Int32.ofNat j % Int32.ofInt 10 = Int32.ofNat (j % 10) := by decide
  subst hmo hcT
  have rm : ∀ (q1 : Int32), xk_Ev (xp_P sc) 129 0 [.ref 10, .ref 14, .int (Int32.ofNat (j / 10)), .int (Int32.ofNat (j % 10)), .int (n_md d), .retAddr 0, .retAddr 0, .retAddr 0, .retAddr 0] [] (mw p (0) pr sl ex ta nx (1) lf (q1) (Int32.ofNat (j / 10)) (Int32.ofNat (j % 10)) (0) (0) r) (.inl (some (.int (n_leg (n_R f (n_ab pr) 40 32 (j / 10) (j % 10) d)))), 0, mw p (0) pr sl ex ta nx (1) lf (q1) (Int32.ofNat (j / 10)) (Int32.ofNat (j % 10)) (0) (0) r) := by
    intro q1
    exact t_roomM T0 hb ⟨fun q => absurd q (by omega), fun _ => .inr rfl⟩ ⟨⟨fun q => absurd q (by omega), fun q => absurd q (by omega)⟩, fun q => absurd q (by omega)⟩ (by omega) h5 (by omega)
  refine xk_Po.go 6 rfl ?_
  refine xk_Po.br rfl rfl (fun _ => ?_) (fun hZ => absurd (show (0 : Int32) ≤ Int32.ofNat d from by have := xn_nneg (j := d) (by omega); rw [Int32.lt_iff_toInt_lt] at this; rw [Int32.le_iff_toInt_le]; omega) hZ) -- 8 .ifCond .ge 11
  refine xk_Po.go 8 rfl ?_
  refine r_fl T0 hd rfl ?_
  rw [hls]
  refine xk_Po.go 2 rfl ?_
  refine xk_Po.br rfl rfl (fun hZ => absurd hZ (fun q => absurd ((xn_inj (a := 9 + j) (b := 49) (by omega) (by omega)).1 q) (by omega))) (fun _ => ?_) -- 46 .if_icmp .ne 52
  refine xk_Po.go 4 rfl ?_
  rw [show Int32.ofNat (9 + j) - Int32.ofInt 9 = Int32.ofNat j from (xn_sub (a := 9 + j) (b := 9) (by omega)).trans (congrArg Int32.ofNat (by omega))]
  refine xk_Po.go 2 rfl ?_
  rw [(dj j hj).1]
  refine xk_Po.go 5 rfl ?_
  rw [show Int32.ofNat (9 + j) - Int32.ofInt 9 = Int32.ofNat j from (xn_sub (a := 9 + j) (b := 9) (by omega)).trans (congrArg Int32.ofNat (by omega))]
  refine xk_Po.go 2 rfl ?_
  rw [(dj j hj).2]
  refine xk_Po.go 14 rfl ?_
  rw [show Int32.ofNat d = n_md d from (if_pos hd).symm]
  refine xk_Po.ci5 rfl rfl (rm _) ?_
  rw [hR, show n_leg x = Int32.ofNat (x + 1) from if_pos hx]
  refine xk_Po.go 3 rfl ?_
  refine xk_Po.br rfl rfl (fun hZ => absurd hZ (fun q => absurd ((xn_inj (b := 0) (by omega) (by omega)).1 q) (by omega))) (fun _ => ?_) -- 83 .ifCond .ne 89
  rw [show n_md d = Int32.ofNat d from if_pos hd]
  exact h _ _
end XkMst
