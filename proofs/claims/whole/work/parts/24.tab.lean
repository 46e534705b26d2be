/-! The table's methods at small numbers, and its loops. -/
section XkTab
variable {sc : Nat × (Nat → Int32)} {sl ex ab ta dr : Nat → Int32} {md ml mt mc on ct : Int32} {r w : xk_W}
theorem c_extentsOfN {j : Nat} (hj : j < 4) : xk_Ev (xp_P sc) 23 0 [.ref 5, .int (Int32.ofNat j)] [] (cw sl ex ab ta dr md ml mt mc on ct r) (.inl (some (.int (ta (1 + j)))), 0, cw sl ex ab ta dr md ml mt mc on ct r) := by
  have h := c_extentsOf (sc := sc) (sl := sl) (ex := ex) (ab := ab) (ta := ta) (dr := dr) (md := md) (ml := ml) (mt := mt) (mc := mc) (on := on) (ct := ct) (r := r) (g := Int32.ofNat j) (xn_ixa (a := 1) (j := j) (n := 51) (by omega) (by omega))
  rw [show (1 + Int32.ofNat j).toNatClampNeg = 1 + j from xn_nata (a := 1) (j := j) (by omega)] at h
  exact h
theorem c_spotOfN {j : Nat} (hj : j < 40) : xk_Ev (xp_P sc) 34 0 [.ref 5, .int (Int32.ofNat j)] [] (cw sl ex ab ta dr md ml mt mc on ct r) (.inl (some (.int (ta (9 + j) - 1))), 0, cw sl ex ab ta dr md ml mt mc on ct r) := by
  have h := c_spotOf (sc := sc) (sl := sl) (ex := ex) (ab := ab) (ta := ta) (dr := dr) (md := md) (ml := ml) (mt := mt) (mc := mc) (on := on) (ct := ct) (r := r) (g := Int32.ofNat j) (xn_ixa (a := 9) (j := j) (n := 51) (by omega) (by omega))
  rw [show (9 + Int32.ofNat j).toNatClampNeg = 9 + j from xn_nata (a := 9) (j := j) (by omega)] at h
  exact h
theorem c_elementsOfN {j : Nat} (hj : j < 4) : xk_Ev (xp_P sc) 31 0 [.ref 5, .int (Int32.ofNat j)] [] (cw sl ex ab ta dr md ml mt mc on ct r) (.inl (some (.int (ta (5 + j) / 32))), 0, cw sl ex ab ta dr md ml mt mc on ct r) := by
  have h := c_elementsOf (sc := sc) (sl := sl) (ex := ex) (ab := ab) (ta := ta) (dr := dr) (md := md) (ml := ml) (mt := mt) (mc := mc) (on := on) (ct := ct) (r := r) (g := Int32.ofNat j) (xn_ixa (a := 5) (j := j) (n := 51) (by omega) (by omega))
  rw [show (5 + Int32.ofNat j).toNatClampNeg = 5 + j from xn_nata (a := 5) (j := j) (by omega)] at h
  exact h
theorem c_kindOfN {j : Nat} (hj : j < 4) : xk_Ev (xp_P sc) 29 0 [.ref 5, .int (Int32.ofNat j)] [] (cw sl ex ab ta dr md ml mt mc on ct r) (.inl (some (.int (ta (5 + j) % 4 - 1))), 0, cw sl ex ab ta dr md ml mt mc on ct r) := by
  have h := c_kindOf (sc := sc) (sl := sl) (ex := ex) (ab := ab) (ta := ta) (dr := dr) (md := md) (ml := ml) (mt := mt) (mc := mc) (on := on) (ct := ct) (r := r) (g := Int32.ofNat j) (xn_ixa (a := 5) (j := j) (n := 51) (by omega) (by omega))
  rw [show (5 + Int32.ofNat j).toNatClampNeg = 5 + j from xn_nata (a := 5) (j := j) (by omega)] at h
  exact h
theorem c_setExtentsN {j : Nat} {x : Int32} (hj : j < 4) : xk_Ev (xp_P sc) 24 0 [.ref 5, .int (Int32.ofNat j), .int x] [] (cw sl ex ab ta dr md ml mt mc on ct r) (.inl none, 0, cw sl ex ab (upd ta (1 + j) (x)) dr md ml mt mc on ct r) := by
  have h := c_setExtents (sc := sc) (sl := sl) (ex := ex) (ab := ab) (ta := ta) (dr := dr) (md := md) (ml := ml) (mt := mt) (mc := mc) (on := on) (ct := ct) (r := r) (g := Int32.ofNat j) (x := x) (xn_ixa (a := 1) (j := j) (n := 51) (by omega) (by omega))
  rw [show (1 + Int32.ofNat j).toNatClampNeg = 1 + j from xn_nata (a := 1) (j := j) (by omega)] at h
  exact h
theorem c_setSpotN {j : Nat} {x : Int32} (hj : j < 40) : xk_Ev (xp_P sc) 35 0 [.ref 5, .int (Int32.ofNat j), .int x] [] (cw sl ex ab ta dr md ml mt mc on ct r) (.inl none, 0, cw sl ex ab (upd ta (9 + j) (x + 1)) dr md ml mt mc on ct r) := by
  have h := c_setSpot (sc := sc) (sl := sl) (ex := ex) (ab := ab) (ta := ta) (dr := dr) (md := md) (ml := ml) (mt := mt) (mc := mc) (on := on) (ct := ct) (r := r) (g := Int32.ofNat j) (x := x) (xn_ixa (a := 9) (j := j) (n := 51) (by omega) (by omega))
  rw [show (9 + Int32.ofNat j).toNatClampNeg = 9 + j from xn_nata (a := 9) (j := j) (by omega)] at h
  exact h
theorem c_lists {j : Nat} (hj : j < 4) : xk_Ev (xp_P sc) 22 0 [.ref 5, .int (Int32.ofNat j)] [] (cw sl ex ab ta dr md ml mt mc on ct r) (.inl (some (.int (s_b (¬ ta (1 + j) = 0)))), 0, cw sl ex ab ta dr md ml mt mc on ct r) := by
  apply xk_Ev.of
  refine xk_Po.go 2 rfl ?_
  refine xk_Po.ci2 rfl rfl (c_extentsOfN hj) ?_
  refine xk_Po.br rfl rfl (fun h0 => ?_) (fun h0 => ?_) -- 3 .ifCond .eq 6
  · refine xk_Po.go 1 rfl ?_
    exact xk_Po.zret rfl (by first | decide | exact hb _) (congrArg (fun z => ((.inl (some (.int z)), 0, _) : xk_R)) (xn_bf (fun h => h h0)).symm)
  · refine xk_Po.go 2 rfl ?_
    exact xk_Po.zret rfl (by first | decide | exact hb _) (congrArg (fun z => ((.inl (some (.int z)), 0, _) : xk_R)) (xn_bt (h0)).symm)
theorem c_has0 {j : Nat} (hj : j < 4) : xk_Ev (xp_P sc) 26 0 [.ref 5, .int (Int32.ofNat j)] [] (cw sl ex ab ta dr md ml mt mc on ct r) (.inl (some (.int (s_b (¬ ta (Int32.ofNat 5 + Int32.ofNat j).toNatClampNeg = 0)))), 0, cw sl ex ab ta dr md ml mt mc on ct r) := by
  apply xk_Ev.of
  refine xk_Po.go 5 rfl ?_
  refine xk_Po.ok rfl rfl (xn_ixa (a := 5) (j := j) (by omega) (by omega)) ?_ -- .iaload
  refine xk_Po.br rfl rfl (fun h0 => ?_) (fun h0 => ?_) -- 6 .ifCond .eq 9
  · refine xk_Po.go 1 rfl ?_
    exact xk_Po.zret rfl (by first | decide | exact hb _) (congrArg (fun z => ((.inl (some (.int z)), 0, _) : xk_R)) (xn_bf (fun h => h h0)).symm)
  · refine xk_Po.go 2 rfl ?_
    exact xk_Po.zret rfl (by first | decide | exact hb _) (congrArg (fun z => ((.inl (some (.int z)), 0, _) : xk_R)) (xn_bt (h0)).symm)
theorem c_has {j : Nat} (hj : j < 4) : xk_Ev (xp_P sc) 26 0 [.ref 5, .int (Int32.ofNat j)] [] (cw sl ex ab ta dr md ml mt mc on ct r) (.inl (some (.int (s_b (¬ ta (5 + j) = 0)))), 0, cw sl ex ab ta dr md ml mt mc on ct r) := by
  have h := c_has0 (sc := sc) (sl := sl) (ex := ex) (ab := ab) (ta := ta) (dr := dr) (md := md) (ml := ml) (mt := mt) (mc := mc) (on := on) (ct := ct) (r := r) (j := j) hj
  simp only [xn_nata (a := 5) (j := j) (by omega)] at h
  exact h
theorem c_legsOn {d : Int32} : xk_Ev (xp_P sc) 37 0 [.ref 5, .int d, .retAddr 0, .retAddr 0] [] (cw sl ex ab ta dr md ml mt mc on ct r) (.inl (some (.int (s_cnt (fun j => s_disk (ta (9 + j) - 1) = d) 40))), 0, cw sl ex ab ta dr md ml mt mc on ct r) := by
  apply xk_Ev.of
  refine xk_Po.go 4 rfl ?_
  refine xk_Po.loop 40 (fun j0 => [.ref 5, .int d, .int (s_cnt (fun j => s_disk (ta (9 + j) - 1) = d) j0), .int (Int32.ofNat j0)]) (fun j0 => cw sl ex ab ta dr md ml mt mc on ct r) (fun m0 j0 => _) (fun m0 j0 hj0 ih0 => ?_) ?_
  · have uj0 : j0 < 40 := by omega
    refine xk_Po.go 2 rfl ?_
    refine xk_Po.br rfl rfl (fun hx => absurd ((xn_le (a := 40) (b := j0) (by omega) (by omega)).1 hx) (by omega)) (fun _ => ?_)
    refine xk_Po.go 2 rfl ?_
    refine xk_Po.ci2 rfl rfl (c_spotOfN (by omega)) ?_
    refine xk_Po.ci1 rfl rfl (c_diskOf) ?_
    refine xk_Po.go 1 rfl ?_
    refine xk_Po.br rfl rfl (fun h0 => ?_) (fun h0 => ?_) -- 12 .if_icmp .ne 14
    · refine xk_Po.go 3 rfl ?_
      rw [show s_cnt (fun j => s_disk (ta (9 + j) - 1) = d) (j0 + 1) = s_cnt (fun j => s_disk (ta (9 + j) - 1) = d) j0 + 1 from if_pos h0, ← xn_suc j0] at ih0
      exact ih0
    · refine xk_Po.go 2 rfl ?_
      rw [show s_cnt (fun j => s_disk (ta (9 + j) - 1) = d) (j0 + 1) = s_cnt (fun j => s_disk (ta (9 + j) - 1) = d) j0 from if_neg h0, ← xn_suc j0] at ih0
      exact ih0
  · refine xk_Po.go 4 rfl ?_
    exact xk_Po.iret rfl rfl
theorem c_firstLegOn {d : Int32} : xk_Ev (xp_P sc) 38 0 [.ref 5, .int d, .retAddr 0] [] (cw sl ex ab ta dr md ml mt mc on ct r) (.inl (some (.int (s_least (fun j => s_disk (ta (9 + j) - 1) = d) 40 0))), 0, cw sl ex ab ta dr md ml mt mc on ct r) := by
  apply xk_Ev.of
  refine xk_Po.go 2 rfl ?_
  refine xk_Po.loop 40 (fun j0 => [.ref 5, .int d, .int (Int32.ofNat j0)]) (fun j0 => cw sl ex ab ta dr md ml mt mc on ct r) (fun m0 j0 => fun z => z = (.inl (some (.int (s_least (fun j => s_disk (ta (9 + j) - 1) = d) m0 j0))), 0, cw sl ex ab ta dr md ml mt mc on ct r)) (fun m0 j0 hj0 ih0 => ?_) ?_
  · have uj0 : j0 < 40 := by omega
    refine xk_Po.go 2 rfl ?_
    refine xk_Po.br rfl rfl (fun hx => absurd ((xn_le (a := 40) (b := j0) (by omega) (by omega)).1 hx) (by omega)) (fun _ => ?_)
    refine xk_Po.go 2 rfl ?_
    refine xk_Po.ci2 rfl rfl (c_spotOfN (by omega)) ?_
    refine xk_Po.ci1 rfl rfl (c_diskOf) ?_
    refine xk_Po.go 1 rfl ?_
    refine xk_Po.br rfl rfl (fun h0 => ?_) (fun h0 => ?_) -- 10 .if_icmp .ne 13
    · refine xk_Po.go 1 rfl ?_
      exact xk_Po.iret rfl (congrArg (fun z => ((.inl (some (.int z)), 0, _) : xk_R)) (if_pos h0).symm)
    · refine xk_Po.go 2 rfl ?_
      rw [← show s_least (fun j => s_disk (ta (9 + j) - 1) = d) (m0 + 1) j0 = s_least (fun j => s_disk (ta (9 + j) - 1) = d) m0 (j0 + 1) from if_neg h0, ← xn_suc j0] at ih0
      exact ih0
  · refine xk_Po.go 4 rfl ?_
    exact xk_Po.iret rfl rfl
theorem c_isUsed {x : Int32} : xk_Ev (xp_P sc) 36 0 [.ref 5, .int x, .retAddr 0] [] (cw sl ex ab ta dr md ml mt mc on ct r) (.inl (some (.int (s_any (fun j => ta (9 + j) - 1 = x) 40 0))), 0, cw sl ex ab ta dr md ml mt mc on ct r) := by
  apply xk_Ev.of
  refine xk_Po.go 2 rfl ?_
  refine xk_Po.loop 40 (fun j0 => [.ref 5, .int x, .int (Int32.ofNat j0)]) (fun j0 => cw sl ex ab ta dr md ml mt mc on ct r) (fun m0 j0 => fun z => z = (.inl (some (.int (s_any (fun j => ta (9 + j) - 1 = x) m0 j0))), 0, cw sl ex ab ta dr md ml mt mc on ct r)) (fun m0 j0 hj0 ih0 => ?_) ?_
  · have uj0 : j0 < 40 := by omega
    refine xk_Po.go 2 rfl ?_
    refine xk_Po.br rfl rfl (fun hx => absurd ((xn_le (a := 40) (b := j0) (by omega) (by omega)).1 hx) (by omega)) (fun _ => ?_)
    refine xk_Po.go 2 rfl ?_
    refine xk_Po.ci2 rfl rfl (c_spotOfN (by omega)) ?_
    refine xk_Po.go 1 rfl ?_
    refine xk_Po.br rfl rfl (fun h0 => ?_) (fun h0 => ?_) -- 9 .if_icmp .ne 12
    · refine xk_Po.go 1 rfl ?_
      exact xk_Po.zret rfl (by first | decide | exact hb _) (congrArg (fun z => ((.inl (some (.int z)), 0, _) : xk_R)) (if_pos h0).symm)
    · refine xk_Po.go 2 rfl ?_
      rw [← show s_any (fun j => ta (9 + j) - 1 = x) (m0 + 1) j0 = s_any (fun j => ta (9 + j) - 1 = x) m0 (j0 + 1) from if_neg h0, ← xn_suc j0] at ih0
      exact ih0
  · refine xk_Po.go 4 rfl ?_
    exact xk_Po.zret rfl (by first | decide | exact hb _) rfl
theorem c_countListed  : xk_Ev (xp_P sc) 25 0 [.ref 5, .retAddr 0, .retAddr 0] [] (cw sl ex ab ta dr md ml mt mc on ct r) (.inl (some (.int (s_cnt (fun j => ¬ ta (1 + j) = 0) 4))), 0, cw sl ex ab ta dr md ml mt mc on ct r) := by
  apply xk_Ev.of
  refine xk_Po.go 4 rfl ?_
  refine xk_Po.loop 4 (fun j0 => [.ref 5, .int (s_cnt (fun j => ¬ ta (1 + j) = 0) j0), .int (Int32.ofNat j0)]) (fun j0 => cw sl ex ab ta dr md ml mt mc on ct r) (fun m0 j0 => _) (fun m0 j0 hj0 ih0 => ?_) ?_
  · have uj0 : j0 < 4 := by omega
    refine xk_Po.go 2 rfl ?_
    refine xk_Po.br rfl rfl (fun hx => absurd ((xn_le (a := 4) (b := j0) (by omega) (by omega)).1 hx) (by omega)) (fun _ => ?_)
    refine xk_Po.go 2 rfl ?_
    refine xk_Po.ci2 rfl rfl (c_lists (by omega)) ?_
    refine xk_Po.br rfl rfl (fun h0 => ?_) (fun h0 => ?_) -- 10 .ifCond .eq 12
    · refine xk_Po.go 2 rfl ?_
      rw [show s_cnt (fun j => ¬ ta (1 + j) = 0) (j0 + 1) = s_cnt (fun j => ¬ ta (1 + j) = 0) j0 from if_neg (xn_b0 h0), ← xn_suc j0] at ih0
      exact ih0
    · refine xk_Po.go 3 rfl ?_
      rw [show s_cnt (fun j => ¬ ta (1 + j) = 0) (j0 + 1) = s_cnt (fun j => ¬ ta (1 + j) = 0) j0 + 1 from if_pos (xn_b1 h0), ← xn_suc j0] at ih0
      exact ih0
  · refine xk_Po.go 4 rfl ?_
    exact xk_Po.iret rfl rfl
theorem c_leastUnusedVolume  : xk_Ev (xp_P sc) 27 0 [.ref 5, .retAddr 0] [] (cw sl ex ab ta dr md ml mt mc on ct r) (.inl (some (.int (s_least (fun j => ta (5 + j) = 0) 4 0))), 0, cw sl ex ab ta dr md ml mt mc on ct r) := by
  apply xk_Ev.of
  refine xk_Po.go 2 rfl ?_
  refine xk_Po.loop 4 (fun j0 => [.ref 5, .int (Int32.ofNat j0)]) (fun j0 => cw sl ex ab ta dr md ml mt mc on ct r) (fun m0 j0 => fun z => z = (.inl (some (.int (s_least (fun j => ta (5 + j) = 0) m0 j0))), 0, cw sl ex ab ta dr md ml mt mc on ct r)) (fun m0 j0 hj0 ih0 => ?_) ?_
  · have uj0 : j0 < 4 := by omega
    refine xk_Po.go 2 rfl ?_
    refine xk_Po.br rfl rfl (fun hx => absurd ((xn_le (a := 4) (b := j0) (by omega) (by omega)).1 hx) (by omega)) (fun _ => ?_)
    refine xk_Po.go 2 rfl ?_
    refine xk_Po.ci2 rfl rfl (c_has (by omega)) ?_
    refine xk_Po.br rfl rfl (fun h0 => ?_) (fun h0 => ?_) -- 8 .ifCond .ne 11
    · refine xk_Po.go 1 rfl ?_
      exact xk_Po.iret rfl (congrArg (fun z => ((.inl (some (.int z)), 0, _) : xk_R)) (if_pos (Decidable.not_not.1 (xn_b0 h0))).symm)
    · refine xk_Po.go 2 rfl ?_
      rw [← show s_least (fun j => ta (5 + j) = 0) (m0 + 1) j0 = s_least (fun j => ta (5 + j) = 0) m0 (j0 + 1) from if_neg (xn_b1 h0), ← xn_suc j0] at ih0
      exact ih0
  · refine xk_Po.go 4 rfl ?_
    exact xk_Po.iret rfl rfl
theorem c_loseLegsOn {d : Int32} : xk_Ev (xp_P sc) 39 0 [.ref 5, .int d, .retAddr 0] [] (cw sl ex ab ta dr md ml mt mc on ct r) (.inl none, 0, cw sl ex ab (s_clr ta (fun j => s_disk (ta (9 + j) - 1) = d) 9 40) dr md ml mt mc on ct r) := by
  apply xk_Ev.of
  refine xk_Po.go 2 rfl ?_
  refine xk_Po.loop 40 (fun j0 => [.ref 5, .int d, .int (Int32.ofNat j0)]) (fun j0 => cw sl ex ab (s_clr ta (fun j => s_disk (ta (9 + j) - 1) = d) 9 j0) dr md ml mt mc on ct r) (fun m0 j0 => _) (fun m0 j0 hj0 ih0 => ?_) ?_
  · have uj0 : j0 < 40 := by omega
    refine xk_Po.go 2 rfl ?_
    refine xk_Po.br rfl rfl (fun hx => absurd ((xn_le (a := 40) (b := j0) (by omega) (by omega)).1 hx) (by omega)) (fun _ => ?_)
    refine xk_Po.go 2 rfl ?_
    refine xk_Po.ci2 rfl rfl (by have h := c_spotOfN (sc := sc) (sl := sl) (ex := ex) (ab := ab) (ta := s_clr ta (fun j => s_disk (ta (9 + j) - 1) = d) 9 j0) (dr := dr) (md := md) (ml := ml) (mt := mt) (mc := mc) (on := on) (ct := ct) (r := r) (j := j0) (by omega); rw [s_clr_at ta (fun j => s_disk (ta (9 + j) - 1) = d) 9 j0 j0 (Nat.le_refl _)] at h; exact h) ?_
    refine xk_Po.ci1 rfl rfl (c_diskOf) ?_
    refine xk_Po.go 1 rfl ?_
    refine xk_Po.br rfl rfl (fun h0 => ?_) (fun h0 => ?_) -- 10 .if_icmp .ne 15
    · refine xk_Po.go 3 rfl ?_
      refine xk_Po.cv3 rfl rfl (c_setSpotN (by omega)) ?_
      refine xk_Po.go 2 rfl ?_
      rw [show s_clr ta (fun j => s_disk (ta (9 + j) - 1) = d) 9 (j0 + 1) = upd (s_clr ta (fun j => s_disk (ta (9 + j) - 1) = d) 9 j0) (9 + j0) (Int32.ofInt (-1) + 1) from if_pos h0, ← xn_suc j0] at ih0
      exact ih0
    · refine xk_Po.go 2 rfl ?_
      rw [show s_clr ta (fun j => s_disk (ta (9 + j) - 1) = d) 9 (j0 + 1) = s_clr ta (fun j => s_disk (ta (9 + j) - 1) = d) 9 j0 from if_neg h0, ← xn_suc j0] at ih0
      exact ih0
  · refine xk_Po.go 3 rfl ?_
    exact xk_Po.ret rfl rfl
theorem d_extentsOfN {j : Nat} (hj : j < 4) : xk_Ev (xp_P sc) 23 0 [.ref 7, .int (Int32.ofNat j)] [] (cw sl ex ab ta dr md ml mt mc on ct r) (.inl (some (.int (dr (1 + j)))), 0, cw sl ex ab ta dr md ml mt mc on ct r) := by
  have h := d_extentsOf (sc := sc) (sl := sl) (ex := ex) (ab := ab) (ta := ta) (dr := dr) (md := md) (ml := ml) (mt := mt) (mc := mc) (on := on) (ct := ct) (r := r) (g := Int32.ofNat j) (xn_ixa (a := 1) (j := j) (n := 51) (by omega) (by omega))
  rw [show (1 + Int32.ofNat j).toNatClampNeg = 1 + j from xn_nata (a := 1) (j := j) (by omega)] at h
  exact h
theorem d_spotOfN {j : Nat} (hj : j < 40) : xk_Ev (xp_P sc) 34 0 [.ref 7, .int (Int32.ofNat j)] [] (cw sl ex ab ta dr md ml mt mc on ct r) (.inl (some (.int (dr (9 + j) - 1))), 0, cw sl ex ab ta dr md ml mt mc on ct r) := by
  have h := d_spotOf (sc := sc) (sl := sl) (ex := ex) (ab := ab) (ta := ta) (dr := dr) (md := md) (ml := ml) (mt := mt) (mc := mc) (on := on) (ct := ct) (r := r) (g := Int32.ofNat j) (xn_ixa (a := 9) (j := j) (n := 51) (by omega) (by omega))
  rw [show (9 + Int32.ofNat j).toNatClampNeg = 9 + j from xn_nata (a := 9) (j := j) (by omega)] at h
  exact h
theorem d_elementsOfN {j : Nat} (hj : j < 4) : xk_Ev (xp_P sc) 31 0 [.ref 7, .int (Int32.ofNat j)] [] (cw sl ex ab ta dr md ml mt mc on ct r) (.inl (some (.int (dr (5 + j) / 32))), 0, cw sl ex ab ta dr md ml mt mc on ct r) := by
  have h := d_elementsOf (sc := sc) (sl := sl) (ex := ex) (ab := ab) (ta := ta) (dr := dr) (md := md) (ml := ml) (mt := mt) (mc := mc) (on := on) (ct := ct) (r := r) (g := Int32.ofNat j) (xn_ixa (a := 5) (j := j) (n := 51) (by omega) (by omega))
  rw [show (5 + Int32.ofNat j).toNatClampNeg = 5 + j from xn_nata (a := 5) (j := j) (by omega)] at h
  exact h
theorem d_kindOfN {j : Nat} (hj : j < 4) : xk_Ev (xp_P sc) 29 0 [.ref 7, .int (Int32.ofNat j)] [] (cw sl ex ab ta dr md ml mt mc on ct r) (.inl (some (.int (dr (5 + j) % 4 - 1))), 0, cw sl ex ab ta dr md ml mt mc on ct r) := by
  have h := d_kindOf (sc := sc) (sl := sl) (ex := ex) (ab := ab) (ta := ta) (dr := dr) (md := md) (ml := ml) (mt := mt) (mc := mc) (on := on) (ct := ct) (r := r) (g := Int32.ofNat j) (xn_ixa (a := 5) (j := j) (n := 51) (by omega) (by omega))
  rw [show (5 + Int32.ofNat j).toNatClampNeg = 5 + j from xn_nata (a := 5) (j := j) (by omega)] at h
  exact h
theorem d_setExtentsN {j : Nat} {x : Int32} (hj : j < 4) : xk_Ev (xp_P sc) 24 0 [.ref 7, .int (Int32.ofNat j), .int x] [] (cw sl ex ab ta dr md ml mt mc on ct r) (.inl none, 0, cw sl ex ab ta (upd dr (1 + j) (x)) md ml mt mc on ct r) := by
  have h := d_setExtents (sc := sc) (sl := sl) (ex := ex) (ab := ab) (ta := ta) (dr := dr) (md := md) (ml := ml) (mt := mt) (mc := mc) (on := on) (ct := ct) (r := r) (g := Int32.ofNat j) (x := x) (xn_ixa (a := 1) (j := j) (n := 51) (by omega) (by omega))
  rw [show (1 + Int32.ofNat j).toNatClampNeg = 1 + j from xn_nata (a := 1) (j := j) (by omega)] at h
  exact h
theorem d_setSpotN {j : Nat} {x : Int32} (hj : j < 40) : xk_Ev (xp_P sc) 35 0 [.ref 7, .int (Int32.ofNat j), .int x] [] (cw sl ex ab ta dr md ml mt mc on ct r) (.inl none, 0, cw sl ex ab ta (upd dr (9 + j) (x + 1)) md ml mt mc on ct r) := by
  have h := d_setSpot (sc := sc) (sl := sl) (ex := ex) (ab := ab) (ta := ta) (dr := dr) (md := md) (ml := ml) (mt := mt) (mc := mc) (on := on) (ct := ct) (r := r) (g := Int32.ofNat j) (x := x) (xn_ixa (a := 9) (j := j) (n := 51) (by omega) (by omega))
  rw [show (9 + Int32.ofNat j).toNatClampNeg = 9 + j from xn_nata (a := 9) (j := j) (by omega)] at h
  exact h
theorem d_lists {j : Nat} (hj : j < 4) : xk_Ev (xp_P sc) 22 0 [.ref 7, .int (Int32.ofNat j)] [] (cw sl ex ab ta dr md ml mt mc on ct r) (.inl (some (.int (s_b (¬ dr (1 + j) = 0)))), 0, cw sl ex ab ta dr md ml mt mc on ct r) := by
  apply xk_Ev.of
  refine xk_Po.go 2 rfl ?_
  refine xk_Po.ci2 rfl rfl (d_extentsOfN hj) ?_
  refine xk_Po.br rfl rfl (fun h0 => ?_) (fun h0 => ?_) -- 3 .ifCond .eq 6
  · refine xk_Po.go 1 rfl ?_
    exact xk_Po.zret rfl (by first | decide | exact hb _) (congrArg (fun z => ((.inl (some (.int z)), 0, _) : xk_R)) (xn_bf (fun h => h h0)).symm)
  · refine xk_Po.go 2 rfl ?_
    exact xk_Po.zret rfl (by first | decide | exact hb _) (congrArg (fun z => ((.inl (some (.int z)), 0, _) : xk_R)) (xn_bt (h0)).symm)
theorem d_has0 {j : Nat} (hj : j < 4) : xk_Ev (xp_P sc) 26 0 [.ref 7, .int (Int32.ofNat j)] [] (cw sl ex ab ta dr md ml mt mc on ct r) (.inl (some (.int (s_b (¬ dr (Int32.ofNat 5 + Int32.ofNat j).toNatClampNeg = 0)))), 0, cw sl ex ab ta dr md ml mt mc on ct r) := by
  apply xk_Ev.of
  refine xk_Po.go 5 rfl ?_
  refine xk_Po.ok rfl rfl (xn_ixa (a := 5) (j := j) (by omega) (by omega)) ?_ -- .iaload
  refine xk_Po.br rfl rfl (fun h0 => ?_) (fun h0 => ?_) -- 6 .ifCond .eq 9
  · refine xk_Po.go 1 rfl ?_
    exact xk_Po.zret rfl (by first | decide | exact hb _) (congrArg (fun z => ((.inl (some (.int z)), 0, _) : xk_R)) (xn_bf (fun h => h h0)).symm)
  · refine xk_Po.go 2 rfl ?_
    exact xk_Po.zret rfl (by first | decide | exact hb _) (congrArg (fun z => ((.inl (some (.int z)), 0, _) : xk_R)) (xn_bt (h0)).symm)
theorem d_has {j : Nat} (hj : j < 4) : xk_Ev (xp_P sc) 26 0 [.ref 7, .int (Int32.ofNat j)] [] (cw sl ex ab ta dr md ml mt mc on ct r) (.inl (some (.int (s_b (¬ dr (5 + j) = 0)))), 0, cw sl ex ab ta dr md ml mt mc on ct r) := by
  have h := d_has0 (sc := sc) (sl := sl) (ex := ex) (ab := ab) (ta := ta) (dr := dr) (md := md) (ml := ml) (mt := mt) (mc := mc) (on := on) (ct := ct) (r := r) (j := j) hj
  simp only [xn_nata (a := 5) (j := j) (by omega)] at h
  exact h
theorem d_legsOn {d : Int32} : xk_Ev (xp_P sc) 37 0 [.ref 7, .int d, .retAddr 0, .retAddr 0] [] (cw sl ex ab ta dr md ml mt mc on ct r) (.inl (some (.int (s_cnt (fun j => s_disk (dr (9 + j) - 1) = d) 40))), 0, cw sl ex ab ta dr md ml mt mc on ct r) := by
  apply xk_Ev.of
  refine xk_Po.go 4 rfl ?_
  refine xk_Po.loop 40 (fun j0 => [.ref 7, .int d, .int (s_cnt (fun j => s_disk (dr (9 + j) - 1) = d) j0), .int (Int32.ofNat j0)]) (fun j0 => cw sl ex ab ta dr md ml mt mc on ct r) (fun m0 j0 => _) (fun m0 j0 hj0 ih0 => ?_) ?_
  · have uj0 : j0 < 40 := by omega
    refine xk_Po.go 2 rfl ?_
    refine xk_Po.br rfl rfl (fun hx => absurd ((xn_le (a := 40) (b := j0) (by omega) (by omega)).1 hx) (by omega)) (fun _ => ?_)
    refine xk_Po.go 2 rfl ?_
    refine xk_Po.ci2 rfl rfl (d_spotOfN (by omega)) ?_
    refine xk_Po.ci1 rfl rfl (c_diskOf) ?_
    refine xk_Po.go 1 rfl ?_
    refine xk_Po.br rfl rfl (fun h0 => ?_) (fun h0 => ?_) -- 12 .if_icmp .ne 14
    · refine xk_Po.go 3 rfl ?_
      rw [show s_cnt (fun j => s_disk (dr (9 + j) - 1) = d) (j0 + 1) = s_cnt (fun j => s_disk (dr (9 + j) - 1) = d) j0 + 1 from if_pos h0, ← xn_suc j0] at ih0
      exact ih0
    · refine xk_Po.go 2 rfl ?_
      rw [show s_cnt (fun j => s_disk (dr (9 + j) - 1) = d) (j0 + 1) = s_cnt (fun j => s_disk (dr (9 + j) - 1) = d) j0 from if_neg h0, ← xn_suc j0] at ih0
      exact ih0
  · refine xk_Po.go 4 rfl ?_
    exact xk_Po.iret rfl rfl
theorem d_firstLegOn {d : Int32} : xk_Ev (xp_P sc) 38 0 [.ref 7, .int d, .retAddr 0] [] (cw sl ex ab ta dr md ml mt mc on ct r) (.inl (some (.int (s_least (fun j => s_disk (dr (9 + j) - 1) = d) 40 0))), 0, cw sl ex ab ta dr md ml mt mc on ct r) := by
  apply xk_Ev.of
  refine xk_Po.go 2 rfl ?_
  refine xk_Po.loop 40 (fun j0 => [.ref 7, .int d, .int (Int32.ofNat j0)]) (fun j0 => cw sl ex ab ta dr md ml mt mc on ct r) (fun m0 j0 => fun z => z = (.inl (some (.int (s_least (fun j => s_disk (dr (9 + j) - 1) = d) m0 j0))), 0, cw sl ex ab ta dr md ml mt mc on ct r)) (fun m0 j0 hj0 ih0 => ?_) ?_
  · have uj0 : j0 < 40 := by omega
    refine xk_Po.go 2 rfl ?_
    refine xk_Po.br rfl rfl (fun hx => absurd ((xn_le (a := 40) (b := j0) (by omega) (by omega)).1 hx) (by omega)) (fun _ => ?_)
    refine xk_Po.go 2 rfl ?_
    refine xk_Po.ci2 rfl rfl (d_spotOfN (by omega)) ?_
    refine xk_Po.ci1 rfl rfl (c_diskOf) ?_
    refine xk_Po.go 1 rfl ?_
    refine xk_Po.br rfl rfl (fun h0 => ?_) (fun h0 => ?_) -- 10 .if_icmp .ne 13
    · refine xk_Po.go 1 rfl ?_
      exact xk_Po.iret rfl (congrArg (fun z => ((.inl (some (.int z)), 0, _) : xk_R)) (if_pos h0).symm)
    · refine xk_Po.go 2 rfl ?_
      rw [← show s_least (fun j => s_disk (dr (9 + j) - 1) = d) (m0 + 1) j0 = s_least (fun j => s_disk (dr (9 + j) - 1) = d) m0 (j0 + 1) from if_neg h0, ← xn_suc j0] at ih0
      exact ih0
  · refine xk_Po.go 4 rfl ?_
    exact xk_Po.iret rfl rfl
theorem d_isUsed {x : Int32} : xk_Ev (xp_P sc) 36 0 [.ref 7, .int x, .retAddr 0] [] (cw sl ex ab ta dr md ml mt mc on ct r) (.inl (some (.int (s_any (fun j => dr (9 + j) - 1 = x) 40 0))), 0, cw sl ex ab ta dr md ml mt mc on ct r) := by
  apply xk_Ev.of
  refine xk_Po.go 2 rfl ?_
  refine xk_Po.loop 40 (fun j0 => [.ref 7, .int x, .int (Int32.ofNat j0)]) (fun j0 => cw sl ex ab ta dr md ml mt mc on ct r) (fun m0 j0 => fun z => z = (.inl (some (.int (s_any (fun j => dr (9 + j) - 1 = x) m0 j0))), 0, cw sl ex ab ta dr md ml mt mc on ct r)) (fun m0 j0 hj0 ih0 => ?_) ?_
  · have uj0 : j0 < 40 := by omega
    refine xk_Po.go 2 rfl ?_
    refine xk_Po.br rfl rfl (fun hx => absurd ((xn_le (a := 40) (b := j0) (by omega) (by omega)).1 hx) (by omega)) (fun _ => ?_)
    refine xk_Po.go 2 rfl ?_
    refine xk_Po.ci2 rfl rfl (d_spotOfN (by omega)) ?_
    refine xk_Po.go 1 rfl ?_
    refine xk_Po.br rfl rfl (fun h0 => ?_) (fun h0 => ?_) -- 9 .if_icmp .ne 12
    · refine xk_Po.go 1 rfl ?_
      exact xk_Po.zret rfl (by first | decide | exact hb _) (congrArg (fun z => ((.inl (some (.int z)), 0, _) : xk_R)) (if_pos h0).symm)
    · refine xk_Po.go 2 rfl ?_
      rw [← show s_any (fun j => dr (9 + j) - 1 = x) (m0 + 1) j0 = s_any (fun j => dr (9 + j) - 1 = x) m0 (j0 + 1) from if_neg h0, ← xn_suc j0] at ih0
      exact ih0
  · refine xk_Po.go 4 rfl ?_
    exact xk_Po.zret rfl (by first | decide | exact hb _) rfl
theorem d_countListed  : xk_Ev (xp_P sc) 25 0 [.ref 7, .retAddr 0, .retAddr 0] [] (cw sl ex ab ta dr md ml mt mc on ct r) (.inl (some (.int (s_cnt (fun j => ¬ dr (1 + j) = 0) 4))), 0, cw sl ex ab ta dr md ml mt mc on ct r) := by
  apply xk_Ev.of
  refine xk_Po.go 4 rfl ?_
  refine xk_Po.loop 4 (fun j0 => [.ref 7, .int (s_cnt (fun j => ¬ dr (1 + j) = 0) j0), .int (Int32.ofNat j0)]) (fun j0 => cw sl ex ab ta dr md ml mt mc on ct r) (fun m0 j0 => _) (fun m0 j0 hj0 ih0 => ?_) ?_
  · have uj0 : j0 < 4 := by omega
    refine xk_Po.go 2 rfl ?_
    refine xk_Po.br rfl rfl (fun hx => absurd ((xn_le (a := 4) (b := j0) (by omega) (by omega)).1 hx) (by omega)) (fun _ => ?_)
    refine xk_Po.go 2 rfl ?_
    refine xk_Po.ci2 rfl rfl (d_lists (by omega)) ?_
    refine xk_Po.br rfl rfl (fun h0 => ?_) (fun h0 => ?_) -- 10 .ifCond .eq 12
    · refine xk_Po.go 2 rfl ?_
      rw [show s_cnt (fun j => ¬ dr (1 + j) = 0) (j0 + 1) = s_cnt (fun j => ¬ dr (1 + j) = 0) j0 from if_neg (xn_b0 h0), ← xn_suc j0] at ih0
      exact ih0
    · refine xk_Po.go 3 rfl ?_
      rw [show s_cnt (fun j => ¬ dr (1 + j) = 0) (j0 + 1) = s_cnt (fun j => ¬ dr (1 + j) = 0) j0 + 1 from if_pos (xn_b1 h0), ← xn_suc j0] at ih0
      exact ih0
  · refine xk_Po.go 4 rfl ?_
    exact xk_Po.iret rfl rfl
theorem d_leastUnusedVolume  : xk_Ev (xp_P sc) 27 0 [.ref 7, .retAddr 0] [] (cw sl ex ab ta dr md ml mt mc on ct r) (.inl (some (.int (s_least (fun j => dr (5 + j) = 0) 4 0))), 0, cw sl ex ab ta dr md ml mt mc on ct r) := by
  apply xk_Ev.of
  refine xk_Po.go 2 rfl ?_
  refine xk_Po.loop 4 (fun j0 => [.ref 7, .int (Int32.ofNat j0)]) (fun j0 => cw sl ex ab ta dr md ml mt mc on ct r) (fun m0 j0 => fun z => z = (.inl (some (.int (s_least (fun j => dr (5 + j) = 0) m0 j0))), 0, cw sl ex ab ta dr md ml mt mc on ct r)) (fun m0 j0 hj0 ih0 => ?_) ?_
  · have uj0 : j0 < 4 := by omega
    refine xk_Po.go 2 rfl ?_
    refine xk_Po.br rfl rfl (fun hx => absurd ((xn_le (a := 4) (b := j0) (by omega) (by omega)).1 hx) (by omega)) (fun _ => ?_)
    refine xk_Po.go 2 rfl ?_
    refine xk_Po.ci2 rfl rfl (d_has (by omega)) ?_
    refine xk_Po.br rfl rfl (fun h0 => ?_) (fun h0 => ?_) -- 8 .ifCond .ne 11
    · refine xk_Po.go 1 rfl ?_
      exact xk_Po.iret rfl (congrArg (fun z => ((.inl (some (.int z)), 0, _) : xk_R)) (if_pos (Decidable.not_not.1 (xn_b0 h0))).symm)
    · refine xk_Po.go 2 rfl ?_
      rw [← show s_least (fun j => dr (5 + j) = 0) (m0 + 1) j0 = s_least (fun j => dr (5 + j) = 0) m0 (j0 + 1) from if_neg (xn_b1 h0), ← xn_suc j0] at ih0
      exact ih0
  · refine xk_Po.go 4 rfl ?_
    exact xk_Po.iret rfl rfl
theorem d_loseLegsOn {d : Int32} : xk_Ev (xp_P sc) 39 0 [.ref 7, .int d, .retAddr 0] [] (cw sl ex ab ta dr md ml mt mc on ct r) (.inl none, 0, cw sl ex ab ta (s_clr dr (fun j => s_disk (dr (9 + j) - 1) = d) 9 40) md ml mt mc on ct r) := by
  apply xk_Ev.of
  refine xk_Po.go 2 rfl ?_
  refine xk_Po.loop 40 (fun j0 => [.ref 7, .int d, .int (Int32.ofNat j0)]) (fun j0 => cw sl ex ab ta (s_clr dr (fun j => s_disk (dr (9 + j) - 1) = d) 9 j0) md ml mt mc on ct r) (fun m0 j0 => _) (fun m0 j0 hj0 ih0 => ?_) ?_
  · have uj0 : j0 < 40 := by omega
    refine xk_Po.go 2 rfl ?_
    refine xk_Po.br rfl rfl (fun hx => absurd ((xn_le (a := 40) (b := j0) (by omega) (by omega)).1 hx) (by omega)) (fun _ => ?_)
    refine xk_Po.go 2 rfl ?_
    refine xk_Po.ci2 rfl rfl (by have h := d_spotOfN (sc := sc) (sl := sl) (ex := ex) (ab := ab) (ta := ta) (dr := s_clr dr (fun j => s_disk (dr (9 + j) - 1) = d) 9 j0) (md := md) (ml := ml) (mt := mt) (mc := mc) (on := on) (ct := ct) (r := r) (j := j0) (by omega); rw [s_clr_at dr (fun j => s_disk (dr (9 + j) - 1) = d) 9 j0 j0 (Nat.le_refl _)] at h; exact h) ?_
    refine xk_Po.ci1 rfl rfl (c_diskOf) ?_
    refine xk_Po.go 1 rfl ?_
    refine xk_Po.br rfl rfl (fun h0 => ?_) (fun h0 => ?_) -- 10 .if_icmp .ne 15
    · refine xk_Po.go 3 rfl ?_
      refine xk_Po.cv3 rfl rfl (d_setSpotN (by omega)) ?_
      refine xk_Po.go 2 rfl ?_
      rw [show s_clr dr (fun j => s_disk (dr (9 + j) - 1) = d) 9 (j0 + 1) = upd (s_clr dr (fun j => s_disk (dr (9 + j) - 1) = d) 9 j0) (9 + j0) (Int32.ofInt (-1) + 1) from if_pos h0, ← xn_suc j0] at ih0
      exact ih0
    · refine xk_Po.go 2 rfl ?_
      rw [show s_clr dr (fun j => s_disk (dr (9 + j) - 1) = d) 9 (j0 + 1) = s_clr dr (fun j => s_disk (dr (9 + j) - 1) = d) 9 j0 from if_neg h0, ← xn_suc j0] at ih0
      exact ih0
  · refine xk_Po.go 3 rfl ?_
    exact xk_Po.ret rfl rfl
end XkTab
