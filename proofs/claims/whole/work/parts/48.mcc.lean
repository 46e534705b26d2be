section XkMcc
variable {sc : Nat × (Nat → Int32)} {p : xk_Ten} {pr sl ex ta nx : Nat → Int32} {th on lf mo cv cg cT cp : Int32} {r w : xk_W}
def p_oth (t pr : Nat → Int32) : Nat → Int32
  | 0 => 0
  | n + 1 => if p_oth t pr n = 0 then (if t (1 + n) ≤ 0 then 0 else if pr n = 0 then 0 else 1) else 1
theorem p_oth_eq {t ab : Nat → Int32} {f : Nat → Nat} (T : s_Tv t f) : ∀ n, n ≤ 4 → (p_oth t (n_pr ab) n = 0 ↔ ∀ e, e < n → f (1 + e) ≠ 0 → ¬ ab e = 0)
  | 0, _ => ⟨fun _ e h => absurd h (by omega), fun _ => rfl⟩
  | n + 1, hn => by
    have ih := p_oth_eq (ab := ab) T n (by omega)
    have he := T.e n (by omega)
    unfold p_oth
    rw [T.w (1 + n) (by omega) (by omega)]
    by_cases h0 : p_oth t (n_pr ab) n = 0
    · rw [if_pos h0]
      have ih := ih.1 h0
      by_cases h1 : f (1 + n) = 0
      · rw [if_pos ((xn_le0 (by omega)).2 h1)]
        refine ⟨fun _ e h2 h3 => ?_, fun _ => rfl⟩
        by_cases q : e = n
        · rw [q] at h3
          exact absurd h1 h3
        · exact ih e (by omega) h3
      · rw [if_neg (fun q => h1 ((xn_le0 (by omega)).1 q))]
        by_cases h2 : n_pr ab n = 0
        · rw [if_pos h2]
          refine ⟨fun _ e h3 h4 => ?_, fun _ => rfl⟩
          by_cases q : e = n
          · rw [q]
            exact n_pr_0.1 h2
          · exact ih e (by omega) h4
        · rw [if_neg h2]
          exact ⟨fun q => absurd q (by decide), fun q => absurd (n_pr_0.2 (q n (by omega) h1)) h2⟩
    · rw [if_neg h0]
      exact ⟨fun q => absurd q (by decide), fun q => absurd (ih.2 (fun e h => q e (by omega))) h0⟩
theorem r_other {j : Nat} {y1 y2 y3 : Value} {Φ : xk_R → Prop} (h : xk_Po (xp_P sc) 135 45 [.ref 10, .int (Int32.ofNat j), .int (p_oth ta pr 4), .int 4, y3] [] (mw p th pr sl ex ta nx on lf mo cv cg cT cp r) Φ) : xk_Po (xp_P sc) 135 18 [.ref 10, .int (Int32.ofNat j), y1, y2, y3] [] (mw p th pr sl ex ta nx on lf mo cv cg cT cp r) Φ := by
  refine xk_Po.go 4 rfl ?_
  refine xk_Po.loop 4 (fun j0 => [.ref 10, .int (Int32.ofNat j), .int (p_oth ta pr j0), .int (Int32.ofNat j0), y3]) (fun _ => mw p th pr sl ex ta nx on lf mo cv cg cT cp r) (fun _ _ => Φ) (fun m0 j0 hj0 ih0 => ?_) ?_
  · rw [← xn_suc j0] at ih0
    refine xk_Po.go 2 rfl ?_
    refine xk_Po.br rfl rfl (fun hZ => absurd ((xn_le (a := 4) (b := j0) (by omega) (by omega)).1 hZ) (by omega)) (fun _ => ?_)
    refine xk_Po.go 1 rfl ?_
    refine xk_Po.br rfl rfl (fun h0 => ?_) (fun h0 => ?_)
    · refine xk_Po.go 5 rfl ?_
      refine xk_Po.ok rfl rfl (xn_ixa (a := 1) (j := j0) (by omega) (by omega)) ?_
      rw [show (Int32.ofInt 1 + Int32.ofNat j0).toNatClampNeg = 1 + j0 from xn_nata (a := 1) (j := j0) (by omega)]
      refine xk_Po.br rfl rfl (fun h1 => ?_) (fun h1 => ?_)
      · rw [show p_oth ta pr (j0 + 1) = 0 from (if_pos h0).trans (if_pos h1)] at ih0
        exact xk_Po.go 4 rfl ih0
      · refine xk_Po.go 3 rfl ?_
        refine xk_Po.ok rfl rfl (xn_ix (j := j0) (by omega) (by omega)) ?_
        rw [xn_nat (j := j0) (by omega)]
        refine xk_Po.br rfl rfl (fun h2 => ?_) (fun h2 => ?_)
        · rw [show p_oth ta pr (j0 + 1) = 0 from (if_pos h0).trans ((if_neg h1).trans (if_pos h2))] at ih0
          exact xk_Po.go 4 rfl ih0
        · rw [show p_oth ta pr (j0 + 1) = 1 from (if_pos h0).trans ((if_neg h1).trans (if_neg h2))] at ih0
          exact xk_Po.go 5 rfl ih0
    · rw [show p_oth ta pr (j0 + 1) = 1 from if_neg h0] at ih0
      exact xk_Po.go 5 rfl ih0
  · exact xk_Po.go 3 rfl h
theorem r_drop_nl {j : Nat} (hj : j < 4) (h : ta (1 + j) = 0) : xk_Ev (xp_P sc) 135 0 [.ref 10, .int (Int32.ofNat j), .retAddr 0, .retAddr 0, .retAddr 0] [] (mw p th pr sl ex ta nx (1) lf mo cv cg cT cp r) (.inl (some (.int 0)), 0, mw p (3) pr sl ex ta nx (1) lf mo cv cg cT cp r) := by
  apply xk_Ev.of
  refine xk_Po.go 5 rfl ?_
  refine xk_Po.ci1 rfl rfl (r_isDisk1 hj) ?_
  refine xk_Po.go 6 rfl ?_
  refine r_other ?_
  refine xk_Po.go 6 rfl ?_
  refine xk_Po.ok rfl rfl (xn_ixa (a := 1) (j := j) (by omega) (by omega)) ?_ -- 51 .iaload
  rw [show (Int32.ofInt 1 + Int32.ofNat j).toNatClampNeg = 1 + j from xn_nata (a := 1) (j := j) (by omega)]
  refine xk_Po.br rfl rfl (fun _ => ?_) (fun hZ => absurd (h) hZ) -- 52 .ifCond .eq 60
  refine xk_Po.go 7 rfl ?_
  exact xk_Po.iret rfl (rfl)
theorem r_drop_pr {j : Nat} (hj : j < 4) (hl : ¬ ta (1 + j) = 0) (h : ¬ pr j = 0) : xk_Ev (xp_P sc) 135 0 [.ref 10, .int (Int32.ofNat j), .retAddr 0, .retAddr 0, .retAddr 0] [] (mw p th pr sl ex ta nx (1) lf mo cv cg cT cp r) (.inl (some (.int 0)), 0, mw p (3) pr sl ex ta nx (1) lf mo cv cg cT cp r) := by
  apply xk_Ev.of
  refine xk_Po.go 5 rfl ?_
  refine xk_Po.ci1 rfl rfl (r_isDisk1 hj) ?_
  refine xk_Po.go 6 rfl ?_
  refine r_other ?_
  refine xk_Po.go 6 rfl ?_
  refine xk_Po.ok rfl rfl (xn_ixa (a := 1) (j := j) (by omega) (by omega)) ?_ -- 51 .iaload
  rw [show (Int32.ofInt 1 + Int32.ofNat j).toNatClampNeg = 1 + j from xn_nata (a := 1) (j := j) (by omega)]
  refine xk_Po.br rfl rfl (fun hZ => absurd hZ (hl)) (fun _ => ?_) -- 52 .ifCond .eq 60
  refine xk_Po.go 3 rfl ?_
  refine xk_Po.ok rfl rfl (xn_ix (j := j) (by omega) (by omega)) ?_ -- 56 .baload
  rw [xn_nat (j := j) (by omega)]
  refine xk_Po.br rfl rfl (fun hZ => absurd hZ (h)) (fun _ => ?_) -- 57 .ifCond .ne 60
  refine xk_Po.go 7 rfl ?_
  exact xk_Po.iret rfl (rfl)
theorem r_drop_no {j : Nat} (hj : j < 4) (hl : ¬ ta (1 + j) = 0) (hp : pr j = 0) (h : p_oth ta pr 4 = 0) : xk_Ev (xp_P sc) 135 0 [.ref 10, .int (Int32.ofNat j), .retAddr 0, .retAddr 0, .retAddr 0] [] (mw p th pr sl ex ta nx (1) lf mo cv cg cT cp r) (.inl (some (.int 0)), 0, mw p (3) pr sl ex ta nx (1) lf mo cv cg cT cp r) := by
  apply xk_Ev.of
  refine xk_Po.go 5 rfl ?_
  refine xk_Po.ci1 rfl rfl (r_isDisk1 hj) ?_
  refine xk_Po.go 6 rfl ?_
  refine r_other ?_
  refine xk_Po.go 6 rfl ?_
  refine xk_Po.ok rfl rfl (xn_ixa (a := 1) (j := j) (by omega) (by omega)) ?_ -- 51 .iaload
  rw [show (Int32.ofInt 1 + Int32.ofNat j).toNatClampNeg = 1 + j from xn_nata (a := 1) (j := j) (by omega)]
  refine xk_Po.br rfl rfl (fun hZ => absurd hZ (hl)) (fun _ => ?_) -- 52 .ifCond .eq 60
  refine xk_Po.go 3 rfl ?_
  refine xk_Po.ok rfl rfl (xn_ix (j := j) (by omega) (by omega)) ?_ -- 56 .baload
  rw [xn_nat (j := j) (by omega)]
  refine xk_Po.br rfl rfl (fun _ => ?_) (fun hZ => absurd (hp) hZ) -- 57 .ifCond .ne 60
  refine xk_Po.go 1 rfl ?_
  refine xk_Po.br rfl rfl (fun _ => ?_) (fun hZ => absurd (h) hZ) -- 59 .ifCond .ne 62
  refine xk_Po.go 7 rfl ?_
  exact xk_Po.iret rfl (rfl)
theorem r_drop1 {j : Nat} (hj : j < 4) (hl : ¬ ta (1 + j) = 0) (hp : pr j = 0) (hq : ¬ p_oth ta pr 4 = 0) {g : Nat → Nat} (T : s_Tv (s_clr (upd ta (1 + j) 0) (fun i => s_disk ((upd ta (1 + j) 0) (9 + i) - 1) = Int32.ofNat j) 9 40) g) {B : Nat} {ab : Nat → Int32} {f : Nat → Nat} {n dN mN xN cN : Nat} (O : s_On B sl ab ta f n dN mN xN cN) (hB : B + 2 < 2147483648) (hpr : pr = n_pr ab) (hnx : ∀ i, 51 ≤ i → nx i = 0) {a b : Nat} (ha : a < 4) (hb2 : b < 10) (hcv : cv = Int32.ofNat a) (hcg : cg = Int32.ofNat b) (hall : ¬ n_all f ab) (ho : (m_com (s_seal (s_clr (upd ta (1 + j) 0) (fun i => s_disk ((upd ta (1 + j) 0) (9 + i) - 1) = Int32.ofNat j) 9 40) (Int32.ofNat (n + 2))) ab (sl, ex, lf)).1 = true) : xk_Ev (xp_P sc) 135 0 [.ref 10, .int (Int32.ofNat j), .retAddr 0, .retAddr 0, .retAddr 0] [] (mw p th pr sl ex ta nx (1) lf mo cv cg cT cp r) (.inl (some (.int (Int32.ofNat (n_cnt (n_on f j) 40)))), 0, mw p (0) pr ((m_com (s_seal (s_clr (upd ta (1 + j) 0) (fun i => s_disk ((upd ta (1 + j) 0) (9 + i) - 1) = Int32.ofNat j) 9 40) (Int32.ofNat (n + 2))) ab (sl, ex, lf)).2.1) ((m_com (s_seal (s_clr (upd ta (1 + j) 0) (fun i => s_disk ((upd ta (1 + j) 0) (9 + i) - 1) = Int32.ofNat j) 9 40) (Int32.ofNat (n + 2))) ab (sl, ex, lf)).2.2.1) (s_seal (s_clr (upd ta (1 + j) 0) (fun i => s_disk ((upd ta (1 + j) 0) (9 + i) - 1) = Int32.ofNat j) 9 40) (Int32.ofNat (n + 2))) (s_seal (s_clr (upd ta (1 + j) 0) (fun i => s_disk ((upd ta (1 + j) 0) (9 + i) - 1) = Int32.ofNat j) 9 40) (Int32.ofNat (n + 2))) (1) ((m_com (s_seal (s_clr (upd ta (1 + j) 0) (fun i => s_disk ((upd ta (1 + j) 0) (9 + i) - 1) = Int32.ofNat j) 9 40) (Int32.ofNat (n + 2))) ab (sl, ex, lf)).2.2.2) mo cv cg (p_cT (s_seal (s_clr (upd ta (1 + j) 0) (fun i => s_disk ((upd ta (1 + j) 0) (9 + i) - 1) = Int32.ofNat j) 9 40) (Int32.ofNat (n + 2))) ta cT (9 + (a * 10 + b))) cp r) := by
  apply xk_Ev.of
  refine xk_Po.go 5 rfl ?_
  refine xk_Po.ci1 rfl rfl (r_isDisk1 hj) ?_
  refine xk_Po.go 6 rfl ?_
  refine r_other ?_
  refine xk_Po.go 6 rfl ?_
  refine xk_Po.ok rfl rfl (xn_ixa (a := 1) (j := j) (by omega) (by omega)) ?_ -- 51 .iaload
  rw [show (Int32.ofInt 1 + Int32.ofNat j).toNatClampNeg = 1 + j from xn_nata (a := 1) (j := j) (by omega)]
  refine xk_Po.br rfl rfl (fun hZ => absurd hZ (hl)) (fun _ => ?_) -- 52 .ifCond .eq 60
  refine xk_Po.go 3 rfl ?_
  refine xk_Po.ok rfl rfl (xn_ix (j := j) (by omega) (by omega)) ?_ -- 56 .baload
  rw [xn_nat (j := j) (by omega)]
  refine xk_Po.br rfl rfl (fun _ => ?_) (fun hZ => absurd (hp) hZ) -- 57 .ifCond .ne 60
  refine xk_Po.go 1 rfl ?_
  refine xk_Po.br rfl rfl (fun hZ => absurd hZ (hq)) (fun _ => ?_) -- 59 .ifCond .ne 62
  refine xk_Po.go 6 rfl ?_
  refine xk_Po.cv1 rfl rfl (r_begin O.2.2.1.z hnx) ?_
  refine xk_Po.go 6 rfl ?_
  refine xk_Po.ok rfl rfl (xn_ixa (a := 1) (j := j) (by omega) (by omega)) ?_ -- 77 .iastore
  rw [show (Int32.ofInt 1 + Int32.ofNat j).toNatClampNeg = 1 + j from xn_nata (a := 1) (j := j) (by omega)]
  refine xk_Po.go 4 rfl ?_
  refine xk_Po.loop 40 (fun j0 => [.ref 10, .int (Int32.ofNat j), .int (p_oth ta pr 4), .int (Int32.ofNat (n_cnt (n_on f j) j0)), .int (Int32.ofNat (9 + j0))]) (fun j0 => mw p (0) pr sl ex ta (s_clr (upd ta (1 + j) 0) (fun i => s_disk ((upd ta (1 + j) 0) (9 + i) - 1) = Int32.ofNat j) 9 j0) (1) lf mo cv cg cT cp r) (fun _ _ => fun z => z = (.inl (some (.int (Int32.ofNat (n_cnt (n_on f j) 40)))), 0, mw p (0) pr ((m_com (s_seal (s_clr (upd ta (1 + j) 0) (fun i => s_disk ((upd ta (1 + j) 0) (9 + i) - 1) = Int32.ofNat j) 9 40) (Int32.ofNat (n + 2))) ab (sl, ex, lf)).2.1) ((m_com (s_seal (s_clr (upd ta (1 + j) 0) (fun i => s_disk ((upd ta (1 + j) 0) (9 + i) - 1) = Int32.ofNat j) 9 40) (Int32.ofNat (n + 2))) ab (sl, ex, lf)).2.2.1) (s_seal (s_clr (upd ta (1 + j) 0) (fun i => s_disk ((upd ta (1 + j) 0) (9 + i) - 1) = Int32.ofNat j) 9 40) (Int32.ofNat (n + 2))) (s_seal (s_clr (upd ta (1 + j) 0) (fun i => s_disk ((upd ta (1 + j) 0) (9 + i) - 1) = Int32.ofNat j) 9 40) (Int32.ofNat (n + 2))) (1) ((m_com (s_seal (s_clr (upd ta (1 + j) 0) (fun i => s_disk ((upd ta (1 + j) 0) (9 + i) - 1) = Int32.ofNat j) 9 40) (Int32.ofNat (n + 2))) ab (sl, ex, lf)).2.2.2) mo cv cg (p_cT (s_seal (s_clr (upd ta (1 + j) 0) (fun i => s_disk ((upd ta (1 + j) 0) (9 + i) - 1) = Int32.ofNat j) 9 40) (Int32.ofNat (n + 2))) ta cT (9 + (a * 10 + b))) cp r)) (fun m0 j0 hj0 ih0 => ?_) ?_
  · have T0 := O.2.2.1
    have hl9 := T0.l j0 (by omega)
    have ev : s_clr (upd ta (1 + j) 0) (fun i => s_disk ((upd ta (1 + j) 0) (9 + i) - 1) = Int32.ofNat j) 9 j0 (9 + j0) = Int32.ofNat (f (9 + j0)) := by
      rw [s_clr_at _ _ 9 j0 j0 (by omega), ← T0.w (9 + j0) (by omega) (by omega)]
      exact if_neg (by omega)
    have eu : (upd ta (1 + j) 0) (9 + j0) = Int32.ofNat (f (9 + j0)) := by
      rw [← T0.w (9 + j0) (by omega) (by omega)]
      exact if_neg (by omega)
    have eo := s_disk_on _ (show f (9 + j0) < 33 by omega) j hj
    rw [← eu] at eo
    rw [← Nat.add_assoc 9 j0 1, ← xn_suc (9 + j0)] at ih0
    refine xk_Po.go 2 rfl ?_
    refine xk_Po.br rfl rfl (fun hZ => absurd ((xn_le (a := 49) (b := 9 + j0) (by omega) (by omega)).1 hZ) (by omega)) (fun _ => ?_)
    refine xk_Po.go 3 rfl ?_
    refine xk_Po.ok rfl rfl (xn_ix (j := 9 + j0) (by omega) (by omega)) ?_
    rw [xn_nat (j := 9 + j0) (by omega), ev]
    have stay : ¬ n_on f j j0 → xk_Po (xp_P sc) 135 106 [.ref 10, .int (Int32.ofNat j), .int (p_oth ta pr 4), .int (Int32.ofNat (n_cnt (n_on f j) j0)), .int (Int32.ofNat (9 + j0))] [] (mw p (0) pr sl ex ta (s_clr (upd ta (1 + j) 0) (fun i => s_disk ((upd ta (1 + j) 0) (9 + i) - 1) = Int32.ofNat j) 9 j0) (1) lf mo cv cg cT cp r) (fun z => z = (.inl (some (.int (Int32.ofNat (n_cnt (n_on f j) 40)))), 0, mw p (0) pr ((m_com (s_seal (s_clr (upd ta (1 + j) 0) (fun i => s_disk ((upd ta (1 + j) 0) (9 + i) - 1) = Int32.ofNat j) 9 40) (Int32.ofNat (n + 2))) ab (sl, ex, lf)).2.1) ((m_com (s_seal (s_clr (upd ta (1 + j) 0) (fun i => s_disk ((upd ta (1 + j) 0) (9 + i) - 1) = Int32.ofNat j) 9 40) (Int32.ofNat (n + 2))) ab (sl, ex, lf)).2.2.1) (s_seal (s_clr (upd ta (1 + j) 0) (fun i => s_disk ((upd ta (1 + j) 0) (9 + i) - 1) = Int32.ofNat j) 9 40) (Int32.ofNat (n + 2))) (s_seal (s_clr (upd ta (1 + j) 0) (fun i => s_disk ((upd ta (1 + j) 0) (9 + i) - 1) = Int32.ofNat j) 9 40) (Int32.ofNat (n + 2))) (1) ((m_com (s_seal (s_clr (upd ta (1 + j) 0) (fun i => s_disk ((upd ta (1 + j) 0) (9 + i) - 1) = Int32.ofNat j) 9 40) (Int32.ofNat (n + 2))) ab (sl, ex, lf)).2.2.2) mo cv cg (p_cT (s_seal (s_clr (upd ta (1 + j) 0) (fun i => s_disk ((upd ta (1 + j) 0) (9 + i) - 1) = Int32.ofNat j) 9 40) (Int32.ofNat (n + 2))) ta cT (9 + (a * 10 + b))) cp r)) := by
      intro q
      rw [show n_cnt (n_on f j) (j0 + 1) = n_cnt (n_on f j) j0 from if_neg q, show s_clr (upd ta (1 + j) 0) (fun i => s_disk ((upd ta (1 + j) 0) (9 + i) - 1) = Int32.ofNat j) 9 (j0 + 1) = s_clr (upd ta (1 + j) 0) (fun i => s_disk ((upd ta (1 + j) 0) (9 + i) - 1) = Int32.ofNat j) 9 j0 from if_neg (fun r => q (eo.1 r))] at ih0
      exact xk_Po.go 2 rfl ih0
    refine xk_Po.br rfl rfl (fun h0 => stay (fun q => q.1 ((xn_le0 (by omega)).1 h0))) (fun h0 => ?_)
    have h0 : f (9 + j0) ≠ 0 := fun q => h0 ((xn_le0 (by omega)).2 q)
    refine xk_Po.go 3 rfl ?_
    refine xk_Po.ok rfl rfl (xn_ix (j := 9 + j0) (by omega) (by omega)) ?_
    rw [xn_nat (j := 9 + j0) (by omega), ev]
    have e8 := s_leg8 _ (show f (9 + j0) < 33 by omega) h0 j hj
    refine xk_Po.go 5 rfl ?_
    refine xk_Po.br rfl rfl (fun h1 => ?_) (fun h1 => stay (fun q => h1 (e8.2 q.2)))
    have q : n_on f j j0 := ⟨h0, e8.1 h1⟩
    rw [show n_cnt (n_on f j) (j0 + 1) = n_cnt (n_on f j) j0 + 1 from if_pos q, ← xn_suc (n_cnt (n_on f j) j0), show s_clr (upd ta (1 + j) 0) (fun i => s_disk ((upd ta (1 + j) 0) (9 + i) - 1) = Int32.ofNat j) 9 (j0 + 1) = upd (s_clr (upd ta (1 + j) 0) (fun i => s_disk ((upd ta (1 + j) 0) (9 + i) - 1) = Int32.ofNat j) 9 j0) (9 + j0) 0 from if_pos (eo.2 q)] at ih0
    refine xk_Po.go 4 rfl ?_
    refine xk_Po.ok rfl rfl (xn_ix (j := 9 + j0) (by omega) (by omega)) ?_
    rw [xn_nat (j := 9 + j0) (by omega)]
    exact xk_Po.go 3 rfl ih0
  · refine xk_Po.go 4 rfl ?_
    refine xk_Po.cv1 rfl rfl (r_chg1 O (T) hB hpr (.inr ⟨rfl, hall⟩) ha hb2 hcv hcg ho) ?_
    refine xk_Po.go 2 rfl ?_
    refine xk_Po.ci2 rfl rfl (r_ended1) ?_
    exact xk_Po.iret rfl (rfl)
theorem r_drop0 {j : Nat} (hj : j < 4) (hl : ¬ ta (1 + j) = 0) (hp : pr j = 0) (hq : ¬ p_oth ta pr 4 = 0) {g : Nat → Nat} (T : s_Tv (s_clr (upd ta (1 + j) 0) (fun i => s_disk ((upd ta (1 + j) 0) (9 + i) - 1) = Int32.ofNat j) 9 40) g) {B : Nat} {ab : Nat → Int32} {f : Nat → Nat} {n dN mN xN cN : Nat} (O : s_On B sl ab ta f n dN mN xN cN) (hB : B + 2 < 2147483648) (hpr : pr = n_pr ab) (hnx : ∀ i, 51 ≤ i → nx i = 0) {a b : Nat} (ha : a < 4) (hb2 : b < 10) (hcv : cv = Int32.ofNat a) (hcg : cg = Int32.ofNat b) (hall : ¬ n_all f ab) (ho : ¬ (m_com (s_seal (s_clr (upd ta (1 + j) 0) (fun i => s_disk ((upd ta (1 + j) 0) (9 + i) - 1) = Int32.ofNat j) 9 40) (Int32.ofNat (n + 2))) ab (sl, ex, lf)).1 = true) : xk_Ev (xp_P sc) 135 0 [.ref 10, .int (Int32.ofNat j), .retAddr 0, .retAddr 0, .retAddr 0] [] (mw p th pr sl ex ta nx (1) lf mo cv cg cT cp r) (.inl (some (.int (0))), 0, mw p (1) pr ((m_com (s_seal (s_clr (upd ta (1 + j) 0) (fun i => s_disk ((upd ta (1 + j) 0) (9 + i) - 1) = Int32.ofNat j) 9 40) (Int32.ofNat (n + 2))) ab (sl, ex, lf)).2.1) ((m_com (s_seal (s_clr (upd ta (1 + j) 0) (fun i => s_disk ((upd ta (1 + j) 0) (9 + i) - 1) = Int32.ofNat j) 9 40) (Int32.ofNat (n + 2))) ab (sl, ex, lf)).2.2.1) ta (s_seal (s_clr (upd ta (1 + j) 0) (fun i => s_disk ((upd ta (1 + j) 0) (9 + i) - 1) = Int32.ofNat j) 9 40) (Int32.ofNat (n + 2))) (0) (-1) (-1) cv cg cT cp r) := by
  apply xk_Ev.of
  refine xk_Po.go 5 rfl ?_
  refine xk_Po.ci1 rfl rfl (r_isDisk1 hj) ?_
  refine xk_Po.go 6 rfl ?_
  refine r_other ?_
  refine xk_Po.go 6 rfl ?_
  refine xk_Po.ok rfl rfl (xn_ixa (a := 1) (j := j) (by omega) (by omega)) ?_ -- 51 .iaload
  rw [show (Int32.ofInt 1 + Int32.ofNat j).toNatClampNeg = 1 + j from xn_nata (a := 1) (j := j) (by omega)]
  refine xk_Po.br rfl rfl (fun hZ => absurd hZ (hl)) (fun _ => ?_) -- 52 .ifCond .eq 60
  refine xk_Po.go 3 rfl ?_
  refine xk_Po.ok rfl rfl (xn_ix (j := j) (by omega) (by omega)) ?_ -- 56 .baload
  rw [xn_nat (j := j) (by omega)]
  refine xk_Po.br rfl rfl (fun _ => ?_) (fun hZ => absurd (hp) hZ) -- 57 .ifCond .ne 60
  refine xk_Po.go 1 rfl ?_
  refine xk_Po.br rfl rfl (fun hZ => absurd hZ (hq)) (fun _ => ?_) -- 59 .ifCond .ne 62
  refine xk_Po.go 6 rfl ?_
  refine xk_Po.cv1 rfl rfl (r_begin O.2.2.1.z hnx) ?_
  refine xk_Po.go 6 rfl ?_
  refine xk_Po.ok rfl rfl (xn_ixa (a := 1) (j := j) (by omega) (by omega)) ?_ -- 77 .iastore
  rw [show (Int32.ofInt 1 + Int32.ofNat j).toNatClampNeg = 1 + j from xn_nata (a := 1) (j := j) (by omega)]
  refine xk_Po.go 4 rfl ?_
  refine xk_Po.loop 40 (fun j0 => [.ref 10, .int (Int32.ofNat j), .int (p_oth ta pr 4), .int (Int32.ofNat (n_cnt (n_on f j) j0)), .int (Int32.ofNat (9 + j0))]) (fun j0 => mw p (0) pr sl ex ta (s_clr (upd ta (1 + j) 0) (fun i => s_disk ((upd ta (1 + j) 0) (9 + i) - 1) = Int32.ofNat j) 9 j0) (1) lf mo cv cg cT cp r) (fun _ _ => fun z => z = (.inl (some (.int (0))), 0, mw p (1) pr ((m_com (s_seal (s_clr (upd ta (1 + j) 0) (fun i => s_disk ((upd ta (1 + j) 0) (9 + i) - 1) = Int32.ofNat j) 9 40) (Int32.ofNat (n + 2))) ab (sl, ex, lf)).2.1) ((m_com (s_seal (s_clr (upd ta (1 + j) 0) (fun i => s_disk ((upd ta (1 + j) 0) (9 + i) - 1) = Int32.ofNat j) 9 40) (Int32.ofNat (n + 2))) ab (sl, ex, lf)).2.2.1) ta (s_seal (s_clr (upd ta (1 + j) 0) (fun i => s_disk ((upd ta (1 + j) 0) (9 + i) - 1) = Int32.ofNat j) 9 40) (Int32.ofNat (n + 2))) (0) (-1) (-1) cv cg cT cp r)) (fun m0 j0 hj0 ih0 => ?_) ?_
  · have T0 := O.2.2.1
    have hl9 := T0.l j0 (by omega)
    have ev : s_clr (upd ta (1 + j) 0) (fun i => s_disk ((upd ta (1 + j) 0) (9 + i) - 1) = Int32.ofNat j) 9 j0 (9 + j0) = Int32.ofNat (f (9 + j0)) := by
      rw [s_clr_at _ _ 9 j0 j0 (by omega), ← T0.w (9 + j0) (by omega) (by omega)]
      exact if_neg (by omega)
    have eu : (upd ta (1 + j) 0) (9 + j0) = Int32.ofNat (f (9 + j0)) := by
      rw [← T0.w (9 + j0) (by omega) (by omega)]
      exact if_neg (by omega)
    have eo := s_disk_on _ (show f (9 + j0) < 33 by omega) j hj
    rw [← eu] at eo
    rw [← Nat.add_assoc 9 j0 1, ← xn_suc (9 + j0)] at ih0
    refine xk_Po.go 2 rfl ?_
    refine xk_Po.br rfl rfl (fun hZ => absurd ((xn_le (a := 49) (b := 9 + j0) (by omega) (by omega)).1 hZ) (by omega)) (fun _ => ?_)
    refine xk_Po.go 3 rfl ?_
    refine xk_Po.ok rfl rfl (xn_ix (j := 9 + j0) (by omega) (by omega)) ?_
    rw [xn_nat (j := 9 + j0) (by omega), ev]
    have stay : ¬ n_on f j j0 → xk_Po (xp_P sc) 135 106 [.ref 10, .int (Int32.ofNat j), .int (p_oth ta pr 4), .int (Int32.ofNat (n_cnt (n_on f j) j0)), .int (Int32.ofNat (9 + j0))] [] (mw p (0) pr sl ex ta (s_clr (upd ta (1 + j) 0) (fun i => s_disk ((upd ta (1 + j) 0) (9 + i) - 1) = Int32.ofNat j) 9 j0) (1) lf mo cv cg cT cp r) (fun z => z = (.inl (some (.int (0))), 0, mw p (1) pr ((m_com (s_seal (s_clr (upd ta (1 + j) 0) (fun i => s_disk ((upd ta (1 + j) 0) (9 + i) - 1) = Int32.ofNat j) 9 40) (Int32.ofNat (n + 2))) ab (sl, ex, lf)).2.1) ((m_com (s_seal (s_clr (upd ta (1 + j) 0) (fun i => s_disk ((upd ta (1 + j) 0) (9 + i) - 1) = Int32.ofNat j) 9 40) (Int32.ofNat (n + 2))) ab (sl, ex, lf)).2.2.1) ta (s_seal (s_clr (upd ta (1 + j) 0) (fun i => s_disk ((upd ta (1 + j) 0) (9 + i) - 1) = Int32.ofNat j) 9 40) (Int32.ofNat (n + 2))) (0) (-1) (-1) cv cg cT cp r)) := by
      intro q
      rw [show n_cnt (n_on f j) (j0 + 1) = n_cnt (n_on f j) j0 from if_neg q, show s_clr (upd ta (1 + j) 0) (fun i => s_disk ((upd ta (1 + j) 0) (9 + i) - 1) = Int32.ofNat j) 9 (j0 + 1) = s_clr (upd ta (1 + j) 0) (fun i => s_disk ((upd ta (1 + j) 0) (9 + i) - 1) = Int32.ofNat j) 9 j0 from if_neg (fun r => q (eo.1 r))] at ih0
      exact xk_Po.go 2 rfl ih0
    refine xk_Po.br rfl rfl (fun h0 => stay (fun q => q.1 ((xn_le0 (by omega)).1 h0))) (fun h0 => ?_)
    have h0 : f (9 + j0) ≠ 0 := fun q => h0 ((xn_le0 (by omega)).2 q)
    refine xk_Po.go 3 rfl ?_
    refine xk_Po.ok rfl rfl (xn_ix (j := 9 + j0) (by omega) (by omega)) ?_
    rw [xn_nat (j := 9 + j0) (by omega), ev]
    have e8 := s_leg8 _ (show f (9 + j0) < 33 by omega) h0 j hj
    refine xk_Po.go 5 rfl ?_
    refine xk_Po.br rfl rfl (fun h1 => ?_) (fun h1 => stay (fun q => h1 (e8.2 q.2)))
    have q : n_on f j j0 := ⟨h0, e8.1 h1⟩
    rw [show n_cnt (n_on f j) (j0 + 1) = n_cnt (n_on f j) j0 + 1 from if_pos q, ← xn_suc (n_cnt (n_on f j) j0), show s_clr (upd ta (1 + j) 0) (fun i => s_disk ((upd ta (1 + j) 0) (9 + i) - 1) = Int32.ofNat j) 9 (j0 + 1) = upd (s_clr (upd ta (1 + j) 0) (fun i => s_disk ((upd ta (1 + j) 0) (9 + i) - 1) = Int32.ofNat j) 9 j0) (9 + j0) 0 from if_pos (eo.2 q)] at ih0
    refine xk_Po.go 4 rfl ?_
    refine xk_Po.ok rfl rfl (xn_ix (j := 9 + j0) (by omega) (by omega)) ?_
    rw [xn_nat (j := 9 + j0) (by omega)]
    exact xk_Po.go 3 rfl ih0
  · refine xk_Po.go 4 rfl ?_
    refine xk_Po.cv1 rfl rfl (r_chg0 O (T) hB hpr (.inr ⟨rfl, hall⟩) ha hb2 hcv hcg ho) ?_
    refine xk_Po.go 2 rfl ?_
    refine xk_Po.ci2 rfl rfl (r_ended0) ?_
    exact xk_Po.iret rfl (rfl)
theorem r_fits {c m : Int32} (hc : ¬ c = 0) : xk_Ev (xp_P sc) 136 0 [.int c, .int m] [] (w) (.inl (some (.int (if m < Int32.ofInt 1 then 0 else if Int32.ofInt 5 < m then 0 else if m % c = 0 then 1 else 0))), 0, w) := by
  apply xk_Ev.of
  refine xk_Po.go 2 rfl ?_
  refine xk_Po.br rfl rfl (fun h0 => ?_) (fun h0 => ?_) -- 2 .if_icmp .lt 12
  · refine xk_Po.go 1 rfl ?_
    exact xk_Po.zret rfl (by first | decide | exact hb _) (congrArg (fun z => ((.inl (some (.int z)), 0, _) : xk_R)) (if_pos h0).symm)
  · refine xk_Po.go 2 rfl ?_
    refine xk_Po.br rfl rfl (fun h1 => ?_) (fun h1 => ?_) -- 5 .if_icmp .gt 12
    · refine xk_Po.go 1 rfl ?_
      exact xk_Po.zret rfl (by first | decide | exact hb _) (congrArg (fun z => ((.inl (some (.int z)), 0, _) : xk_R)) ((if_neg h0).trans (if_pos h1)).symm)
    · refine xk_Po.go 2 rfl ?_
      refine xk_Po.no rfl rfl (hc) ?_ -- .irem
      refine xk_Po.br rfl rfl (fun h2 => ?_) (fun h2 => ?_) -- 9 .ifCond .ne 12
      · refine xk_Po.go 2 rfl ?_
        exact xk_Po.zret rfl (by first | decide | exact hb _) (congrArg (fun z => ((.inl (some (.int z)), 0, _) : xk_R)) ((if_neg h0).trans ((if_neg h1).trans (if_pos h2))).symm)
      · refine xk_Po.go 1 rfl ?_
        exact xk_Po.zret rfl (by first | decide | exact hb _) (congrArg (fun z => ((.inl (some (.int z)), 0, _) : xk_R)) ((if_neg h0).trans ((if_neg h1).trans (if_neg h2))).symm)
theorem r_shrink_ge {v : Nat} (hv : v < 4) (hu : ¬ ta (5 + v) = 0) {m : Int32} (h : ta (5 + v) / 32 ≤ m) : xk_Ev (xp_P sc) 139 0 [.ref 10, .int (Int32.ofNat v), .int m, .retAddr 0, .retAddr 0] [] (mw p th pr sl ex ta nx (1) lf mo cv cg cT cp r) (.inl (some (.int 0)), 0, mw p (3) pr sl ex ta nx (1) lf mo cv cg cT cp r) := by
  apply xk_Ev.of
  refine xk_Po.go 6 rfl ?_
  refine xk_Po.ci2 rfl rfl (r_isVolume hv hu) ?_
  refine xk_Po.go 9 rfl ?_
  refine xk_Po.ci2 rfl rfl (t_elementsOf hv) ?_
  refine xk_Po.go 4 rfl ?_
  refine xk_Po.br rfl rfl (fun _ => ?_) (fun hZ => absurd (h) hZ) -- 27 .if_icmp .ge 35
  refine xk_Po.go 7 rfl ?_
  exact xk_Po.iret rfl (rfl)
theorem r_shrink_no {v : Nat} (hv : v < 4) (hu : ¬ ta (5 + v) = 0) {m : Int32} (h0 : ¬ ta (5 + v) / 32 ≤ m) (hc : ¬ (ta (5 + v) / 4 % 8) = 0) (h : (if m < Int32.ofInt 1 then (0 : Int32) else if Int32.ofInt 5 < m then 0 else if m % (ta (5 + v) / 4 % 8) = 0 then 1 else 0) = 0) : xk_Ev (xp_P sc) 139 0 [.ref 10, .int (Int32.ofNat v), .int m, .retAddr 0, .retAddr 0] [] (mw p th pr sl ex ta nx (1) lf mo cv cg cT cp r) (.inl (some (.int 0)), 0, mw p (3) pr sl ex ta nx (1) lf mo cv cg cT cp r) := by
  apply xk_Ev.of
  refine xk_Po.go 6 rfl ?_
  refine xk_Po.ci2 rfl rfl (r_isVolume hv hu) ?_
  refine xk_Po.go 9 rfl ?_
  refine xk_Po.ci2 rfl rfl (t_elementsOf hv) ?_
  refine xk_Po.go 4 rfl ?_
  refine xk_Po.br rfl rfl (fun hZ => absurd hZ (h0)) (fun _ => ?_) -- 27 .if_icmp .ge 35
  refine xk_Po.go 3 rfl ?_
  refine xk_Po.ci2 rfl rfl (t_columnsOf hv) ?_
  refine xk_Po.go 1 rfl ?_
  refine xk_Po.ci2 rfl rfl (r_fits hc) ?_
  refine xk_Po.br rfl rfl (fun _ => ?_) (fun hZ => absurd (h) hZ) -- 34 .ifCond .ne 37
  refine xk_Po.go 7 rfl ?_
  exact xk_Po.iret rfl (rfl)
theorem r_shrink_ab {v : Nat} (hv : v < 4) (hu : ¬ ta (5 + v) = 0) {m : Int32} (h0 : ¬ ta (5 + v) / 32 ≤ m) (hc : ¬ (ta (5 + v) / 4 % 8) = 0) (hf : ¬ (if m < Int32.ofInt 1 then (0 : Int32) else if Int32.ofInt 5 < m then 0 else if m % (ta (5 + v) / 4 % 8) = 0 then 1 else 0) = 0) (h : ¬ p_abs ta pr 4 = 0) : xk_Ev (xp_P sc) 139 0 [.ref 10, .int (Int32.ofNat v), .int m, .retAddr 0, .retAddr 0] [] (mw p th pr sl ex ta nx (1) lf mo cv cg cT cp r) (.inl (some (.int 0)), 0, mw p (4) pr sl ex ta nx (1) lf mo cv cg cT cp r) := by
  apply xk_Ev.of
  refine xk_Po.go 6 rfl ?_
  refine xk_Po.ci2 rfl rfl (r_isVolume hv hu) ?_
  refine xk_Po.go 9 rfl ?_
  refine xk_Po.ci2 rfl rfl (t_elementsOf hv) ?_
  refine xk_Po.go 4 rfl ?_
  refine xk_Po.br rfl rfl (fun hZ => absurd hZ (h0)) (fun _ => ?_) -- 27 .if_icmp .ge 35
  refine xk_Po.go 3 rfl ?_
  refine xk_Po.ci2 rfl rfl (t_columnsOf hv) ?_
  refine xk_Po.go 1 rfl ?_
  refine xk_Po.ci2 rfl rfl (r_fits hc) ?_
  refine xk_Po.br rfl rfl (fun hZ => absurd hZ (hf)) (fun _ => ?_) -- 34 .ifCond .ne 37
  refine xk_Po.go 1 rfl ?_
  refine xk_Po.ci1 rfl rfl (r_isOneAbsent) ?_
  refine xk_Po.br rfl rfl (fun hZ => absurd hZ (h)) (fun _ => ?_) -- 39 .ifCond .eq 42
  refine xk_Po.go 7 rfl ?_
  exact xk_Po.iret rfl (rfl)
end XkMcc
