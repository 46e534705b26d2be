/-! The reference: its world and its small methods. -/
section XkMod
abbrev xk_Ten : Type := xk_E × xk_E × xk_E × xk_E × xk_E × xk_E × xk_E × xk_E × xk_E × xk_E
def mw (p : xk_Ten) (th : Int32) (pr sl ex ta nx : Nat → Int32) (on lf mo cv cg cT cp : Int32) (r : xk_W) : xk_W := p.1 :: p.2.1 :: p.2.2.1 :: p.2.2.2.1 :: p.2.2.2.2.1 :: p.2.2.2.2.2.1 :: p.2.2.2.2.2.2.1 :: p.2.2.2.2.2.2.2.1 :: p.2.2.2.2.2.2.2.2.1 :: p.2.2.2.2.2.2.2.2.2 :: .inr (4, [.int th, .ref 11, .ref 12, .ref 13, .int on, .int lf, .ref 14, .ref 15, .int mo, .int cv, .int cg, .int cT, .int cp]) :: .inl (1, 4, .inl pr) :: .inl (0, 408, .inl sl) :: .inl (0, 128, .inl ex) :: .inl (0, 51, .inl ta) :: .inl (0, 51, .inl nx) :: r
variable {sc : Nat × (Nat → Int32)} {p : xk_Ten} {pr sl ex ta nx : Nat → Int32} {th on lf mo cv cg cT cp : Int32} {r w : xk_W}
theorem r_thrown  : xk_Ev (xp_P sc) 107 0 [.ref 10] [] (mw p th pr sl ex ta nx on lf mo cv cg cT cp r) (.inl (some (.int (th))), 0, mw p th pr sl ex ta nx on lf mo cv cg cT cp r) := by
  apply xk_Ev.of
  refine xk_Po.go 2 rfl ?_
  exact xk_Po.iret rfl rfl
theorem r_isDisk {g : Int32} : xk_Ev (xp_P sc) 108 0 [.int g] [] (w) (.inl (some (.int (if g < 0 then 0 else if Int32.ofInt 4 ≤ g then 0 else 1))), 0, w) := by
  apply xk_Ev.of
  refine xk_Po.go 1 rfl ?_
  refine xk_Po.br rfl rfl (fun h0 => ?_) (fun h0 => ?_) -- 1 .ifCond .lt 7
  · refine xk_Po.go 1 rfl ?_
    exact xk_Po.zret rfl (by first | decide | exact hb _) (congrArg (fun z => ((.inl (some (.int z)), 0, _) : xk_R)) (if_pos h0).symm)
  · refine xk_Po.go 2 rfl ?_
    refine xk_Po.br rfl rfl (fun h1 => ?_) (fun h1 => ?_) -- 4 .if_icmp .ge 7
    · refine xk_Po.go 1 rfl ?_
      exact xk_Po.zret rfl (by first | decide | exact hb _) (congrArg (fun z => ((.inl (some (.int z)), 0, _) : xk_R)) ((if_neg h0).trans (if_pos h1)).symm)
    · refine xk_Po.go 2 rfl ?_
      exact xk_Po.zret rfl (by first | decide | exact hb _) (congrArg (fun z => ((.inl (some (.int z)), 0, _) : xk_R)) ((if_neg h0).trans (if_neg h1)).symm)
theorem r_get0 {a b : Int32} (h : xk_ix (4 * (a - 1) + b) 128 = true) : xk_Ev (xp_P sc) 111 0 [.ref 10, .int a, .int b] [] (mw p th pr sl ex ta nx on lf mo cv cg cT cp r) (.inl (some (.int (ex (4 * (a - 1) + b).toNatClampNeg))), 0, mw p th pr sl ex ta nx on lf mo cv cg cT cp r) := by
  apply xk_Ev.of
  refine xk_Po.go 9 rfl ?_
  refine xk_Po.ok rfl rfl (by assumption) ?_ -- .iaload
  exact xk_Po.iret rfl rfl
theorem s_at_eq {x k : Nat} : (4 : Int32) * (Int32.ofNat (x + 1) - 1) + Int32.ofNat k = Int32.ofNat (x * 4 + k) := by
  show Int32.ofNat 4 * (Int32.ofNat (x + 1) - Int32.ofNat 1) + Int32.ofNat k = _
  rw [← xn_add x 1, Int32.add_sub_cancel, xn_mul, xn_add, Nat.mul_comm]
theorem r_get {x k : Nat} (hx : x < 32) (hk : k < 4) : xk_Ev (xp_P sc) 111 0 [.ref 10, .int (Int32.ofNat (x + 1)), .int (Int32.ofNat k)] [] (mw p th pr sl ex ta nx on lf mo cv cg cT cp r) (.inl (some (.int (ex (x * 4 + k)))), 0, mw p th pr sl ex ta nx on lf mo cv cg cT cp r) := by
  have h := r_get0 (sc := sc) (p := p) (th := th) (pr := pr) (sl := sl) (ex := ex) (ta := ta) (nx := nx) (on := on) (lf := lf) (mo := mo) (cv := cv) (cg := cg) (cT := cT) (cp := cp) (r := r) (a := Int32.ofNat (x + 1)) (b := Int32.ofNat k) (by rw [s_at_eq]; exact xn_ix (by omega) (by omega))
  rw [s_at_eq, xn_nat (by omega)] at h
  exact h
theorem t_kindOf0 {v : Nat} (hv : v < 4) : xk_Ev (xp_P sc) 112 0 [.ref 14, .int (Int32.ofNat v)] [] (mw p th pr sl ex ta nx on lf mo cv cg cT cp r) (.inl (some (.int (if ta (Int32.ofNat 5 + Int32.ofNat v).toNatClampNeg = 0 then Int32.ofInt (-1) else ta (Int32.ofNat 5 + Int32.ofNat v).toNatClampNeg % 4 - 1))), 0, mw p th pr sl ex ta nx on lf mo cv cg cT cp r) := by
  apply xk_Ev.of
  refine xk_Po.go 4 rfl ?_
  refine xk_Po.ok rfl rfl (xn_ixa (a := 5) (j := v) (by omega) (by omega)) ?_ -- .iaload
  refine xk_Po.br rfl rfl (fun h0 => ?_) (fun h0 => ?_) -- 5 .ifCond .ne 8
  · refine xk_Po.go 2 rfl ?_
    exact xk_Po.iret rfl (congrArg (fun z => ((.inl (some (.int z)), 0, _) : xk_R)) (if_pos h0).symm)
  · refine xk_Po.go 4 rfl ?_
    refine xk_Po.ok rfl rfl (xn_ixa (a := 5) (j := v) (by omega) (by omega)) ?_ -- .iaload
    refine xk_Po.go 4 rfl ?_
    exact xk_Po.iret rfl (congrArg (fun z => ((.inl (some (.int z)), 0, _) : xk_R)) (if_neg h0).symm)
theorem t_kindOf {v : Nat} (hv : v < 4) : xk_Ev (xp_P sc) 112 0 [.ref 14, .int (Int32.ofNat v)] [] (mw p th pr sl ex ta nx on lf mo cv cg cT cp r) (.inl (some (.int (if ta (5 + v) = 0 then Int32.ofInt (-1) else ta (5 + v) % 4 - 1))), 0, mw p th pr sl ex ta nx on lf mo cv cg cT cp r) := by
  have h := t_kindOf0 (sc := sc) (p := p) (th := th) (pr := pr) (sl := sl) (ex := ex) (ta := ta) (nx := nx) (on := on) (lf := lf) (mo := mo) (cv := cv) (cg := cg) (cT := cT) (cp := cp) (r := r) hv
  simp only [xn_nata (a := 5) (j := v) (by omega)] at h
  exact h
theorem t_columnsOf0 {v : Nat} (hv : v < 4) : xk_Ev (xp_P sc) 113 0 [.ref 14, .int (Int32.ofNat v)] [] (mw p th pr sl ex ta nx on lf mo cv cg cT cp r) (.inl (some (.int (ta (Int32.ofNat 5 + Int32.ofNat v).toNatClampNeg / 4 % 8))), 0, mw p th pr sl ex ta nx on lf mo cv cg cT cp r) := by
  apply xk_Ev.of
  refine xk_Po.go 4 rfl ?_
  refine xk_Po.ok rfl rfl (xn_ixa (a := 5) (j := v) (by omega) (by omega)) ?_ -- .iaload
  refine xk_Po.go 4 rfl ?_
  exact xk_Po.iret rfl rfl
theorem t_columnsOf {v : Nat} (hv : v < 4) : xk_Ev (xp_P sc) 113 0 [.ref 14, .int (Int32.ofNat v)] [] (mw p th pr sl ex ta nx on lf mo cv cg cT cp r) (.inl (some (.int (ta (5 + v) / 4 % 8))), 0, mw p th pr sl ex ta nx on lf mo cv cg cT cp r) := by
  have h := t_columnsOf0 (sc := sc) (p := p) (th := th) (pr := pr) (sl := sl) (ex := ex) (ta := ta) (nx := nx) (on := on) (lf := lf) (mo := mo) (cv := cv) (cg := cg) (cT := cT) (cp := cp) (r := r) hv
  simp only [xn_nata (a := 5) (j := v) (by omega)] at h
  exact h
theorem t_elementsOf0 {v : Nat} (hv : v < 4) : xk_Ev (xp_P sc) 114 0 [.ref 14, .int (Int32.ofNat v)] [] (mw p th pr sl ex ta nx on lf mo cv cg cT cp r) (.inl (some (.int (ta (Int32.ofNat 5 + Int32.ofNat v).toNatClampNeg / 32))), 0, mw p th pr sl ex ta nx on lf mo cv cg cT cp r) := by
  apply xk_Ev.of
  refine xk_Po.go 4 rfl ?_
  refine xk_Po.ok rfl rfl (xn_ixa (a := 5) (j := v) (by omega) (by omega)) ?_ -- .iaload
  refine xk_Po.go 2 rfl ?_
  exact xk_Po.iret rfl rfl
theorem t_elementsOf {v : Nat} (hv : v < 4) : xk_Ev (xp_P sc) 114 0 [.ref 14, .int (Int32.ofNat v)] [] (mw p th pr sl ex ta nx on lf mo cv cg cT cp r) (.inl (some (.int (ta (5 + v) / 32))), 0, mw p th pr sl ex ta nx on lf mo cv cg cT cp r) := by
  have h := t_elementsOf0 (sc := sc) (p := p) (th := th) (pr := pr) (sl := sl) (ex := ex) (ta := ta) (nx := nx) (on := on) (lf := lf) (mo := mo) (cv := cv) (cg := cg) (cT := cT) (cp := cp) (r := r) hv
  simp only [xn_nata (a := 5) (j := v) (by omega)] at h
  exact h
def p_has (t : Nat → Int32) (x : Int32) : Nat → Int32
  | 0 => 0
  | n + 1 => if p_has t x n = 0 then (if t (9 + n) = x then 1 else 0) else 1
theorem p_has_b (t : Nat → Int32) (x : Int32) : ∀ n, p_has t x n = 0 ∨ p_has t x n = 1
  | 0 => .inl rfl
  | n + 1 => by
    unfold p_has
    split
    · split
      · exact .inr rfl
      · exact .inl rfl
    · exact .inr rfl
theorem t_holds {x : Int32} : xk_Ev (xp_P sc) 116 0 [.ref 14, .int x, .retAddr 0, .retAddr 0] [] (mw p th pr sl ex ta nx on lf mo cv cg cT cp r) (.inl (some (.int (p_has ta x 40))), 0, mw p th pr sl ex ta nx on lf mo cv cg cT cp r) := by
  apply xk_Ev.of
  refine xk_Po.go 4 rfl ?_
  refine xk_Po.loop 40 (fun j0 => [.ref 14, .int x, .int (p_has ta x j0), .int (Int32.ofNat (9 + j0))]) (fun j0 => mw p th pr sl ex ta nx on lf mo cv cg cT cp r) (fun m0 j0 => _) (fun m0 j0 hj0 ih0 => ?_) ?_
  · have uj0 : j0 < 40 := by omega
    refine xk_Po.go 2 rfl ?_
    refine xk_Po.br rfl rfl (fun hx => absurd ((xn_le (a := 49) (b := (9 + j0)) (by omega) (by omega)).1 hx) (by omega)) (fun _ => ?_)
    refine xk_Po.go 1 rfl ?_
    refine xk_Po.br rfl rfl (fun h0 => ?_) (fun h0 => ?_) -- 8 .ifCond .ne 14
    · refine xk_Po.go 2 rfl ?_
      refine xk_Po.ok rfl rfl (xn_ix (j := 9 + j0) (by omega) (by omega)) ?_ -- .iaload
      rw [xn_nat (j := 9 + j0) (by omega)]
      refine xk_Po.go 1 rfl ?_
      refine xk_Po.br rfl rfl (fun h1 => ?_) (fun h1 => ?_) -- 13 .if_icmp .ne 16
      · refine xk_Po.go 5 rfl ?_
        rw [show p_has ta x (j0 + 1) = _ from (if_pos h0).trans (if_pos h1), ← Nat.add_assoc 9 j0 1, ← xn_suc (9 + j0)] at ih0
        exact ih0
      · refine xk_Po.go 4 rfl ?_
        rw [show p_has ta x (j0 + 1) = _ from (if_pos h0).trans (if_neg h1), ← Nat.add_assoc 9 j0 1, ← xn_suc (9 + j0)] at ih0
        exact ih0
    · refine xk_Po.go 5 rfl ?_
      rw [show p_has ta x (j0 + 1) = _ from if_neg h0, ← Nat.add_assoc 9 j0 1, ← xn_suc (9 + j0)] at ih0
      exact ih0
  · refine xk_Po.go 4 rfl ?_
    exact xk_Po.zret rfl (p_has_b _ _ _) rfl
theorem n_kindOf0 {v : Nat} (hv : v < 4) : xk_Ev (xp_P sc) 112 0 [.ref 15, .int (Int32.ofNat v)] [] (mw p th pr sl ex ta nx on lf mo cv cg cT cp r) (.inl (some (.int (if nx (Int32.ofNat 5 + Int32.ofNat v).toNatClampNeg = 0 then Int32.ofInt (-1) else nx (Int32.ofNat 5 + Int32.ofNat v).toNatClampNeg % 4 - 1))), 0, mw p th pr sl ex ta nx on lf mo cv cg cT cp r) := by
  apply xk_Ev.of
  refine xk_Po.go 4 rfl ?_
  refine xk_Po.ok rfl rfl (xn_ixa (a := 5) (j := v) (by omega) (by omega)) ?_ -- .iaload
  refine xk_Po.br rfl rfl (fun h0 => ?_) (fun h0 => ?_) -- 5 .ifCond .ne 8
  · refine xk_Po.go 2 rfl ?_
    exact xk_Po.iret rfl (congrArg (fun z => ((.inl (some (.int z)), 0, _) : xk_R)) (if_pos h0).symm)
  · refine xk_Po.go 4 rfl ?_
    refine xk_Po.ok rfl rfl (xn_ixa (a := 5) (j := v) (by omega) (by omega)) ?_ -- .iaload
    refine xk_Po.go 4 rfl ?_
    exact xk_Po.iret rfl (congrArg (fun z => ((.inl (some (.int z)), 0, _) : xk_R)) (if_neg h0).symm)
theorem n_kindOf {v : Nat} (hv : v < 4) : xk_Ev (xp_P sc) 112 0 [.ref 15, .int (Int32.ofNat v)] [] (mw p th pr sl ex ta nx on lf mo cv cg cT cp r) (.inl (some (.int (if nx (5 + v) = 0 then Int32.ofInt (-1) else nx (5 + v) % 4 - 1))), 0, mw p th pr sl ex ta nx on lf mo cv cg cT cp r) := by
  have h := n_kindOf0 (sc := sc) (p := p) (th := th) (pr := pr) (sl := sl) (ex := ex) (ta := ta) (nx := nx) (on := on) (lf := lf) (mo := mo) (cv := cv) (cg := cg) (cT := cT) (cp := cp) (r := r) hv
  simp only [xn_nata (a := 5) (j := v) (by omega)] at h
  exact h
theorem n_columnsOf0 {v : Nat} (hv : v < 4) : xk_Ev (xp_P sc) 113 0 [.ref 15, .int (Int32.ofNat v)] [] (mw p th pr sl ex ta nx on lf mo cv cg cT cp r) (.inl (some (.int (nx (Int32.ofNat 5 + Int32.ofNat v).toNatClampNeg / 4 % 8))), 0, mw p th pr sl ex ta nx on lf mo cv cg cT cp r) := by
  apply xk_Ev.of
  refine xk_Po.go 4 rfl ?_
  refine xk_Po.ok rfl rfl (xn_ixa (a := 5) (j := v) (by omega) (by omega)) ?_ -- .iaload
  refine xk_Po.go 4 rfl ?_
  exact xk_Po.iret rfl rfl
theorem n_columnsOf {v : Nat} (hv : v < 4) : xk_Ev (xp_P sc) 113 0 [.ref 15, .int (Int32.ofNat v)] [] (mw p th pr sl ex ta nx on lf mo cv cg cT cp r) (.inl (some (.int (nx (5 + v) / 4 % 8))), 0, mw p th pr sl ex ta nx on lf mo cv cg cT cp r) := by
  have h := n_columnsOf0 (sc := sc) (p := p) (th := th) (pr := pr) (sl := sl) (ex := ex) (ta := ta) (nx := nx) (on := on) (lf := lf) (mo := mo) (cv := cv) (cg := cg) (cT := cT) (cp := cp) (r := r) hv
  simp only [xn_nata (a := 5) (j := v) (by omega)] at h
  exact h
theorem n_elementsOf0 {v : Nat} (hv : v < 4) : xk_Ev (xp_P sc) 114 0 [.ref 15, .int (Int32.ofNat v)] [] (mw p th pr sl ex ta nx on lf mo cv cg cT cp r) (.inl (some (.int (nx (Int32.ofNat 5 + Int32.ofNat v).toNatClampNeg / 32))), 0, mw p th pr sl ex ta nx on lf mo cv cg cT cp r) := by
  apply xk_Ev.of
  refine xk_Po.go 4 rfl ?_
  refine xk_Po.ok rfl rfl (xn_ixa (a := 5) (j := v) (by omega) (by omega)) ?_ -- .iaload
  refine xk_Po.go 2 rfl ?_
  exact xk_Po.iret rfl rfl
theorem n_elementsOf {v : Nat} (hv : v < 4) : xk_Ev (xp_P sc) 114 0 [.ref 15, .int (Int32.ofNat v)] [] (mw p th pr sl ex ta nx on lf mo cv cg cT cp r) (.inl (some (.int (nx (5 + v) / 32))), 0, mw p th pr sl ex ta nx on lf mo cv cg cT cp r) := by
  have h := n_elementsOf0 (sc := sc) (p := p) (th := th) (pr := pr) (sl := sl) (ex := ex) (ta := ta) (nx := nx) (on := on) (lf := lf) (mo := mo) (cv := cv) (cg := cg) (cT := cT) (cp := cp) (r := r) hv
  simp only [xn_nata (a := 5) (j := v) (by omega)] at h
  exact h
theorem n_holds {x : Int32} : xk_Ev (xp_P sc) 116 0 [.ref 15, .int x, .retAddr 0, .retAddr 0] [] (mw p th pr sl ex ta nx on lf mo cv cg cT cp r) (.inl (some (.int (p_has nx x 40))), 0, mw p th pr sl ex ta nx on lf mo cv cg cT cp r) := by
  apply xk_Ev.of
  refine xk_Po.go 4 rfl ?_
  refine xk_Po.loop 40 (fun j0 => [.ref 15, .int x, .int (p_has nx x j0), .int (Int32.ofNat (9 + j0))]) (fun j0 => mw p th pr sl ex ta nx on lf mo cv cg cT cp r) (fun m0 j0 => _) (fun m0 j0 hj0 ih0 => ?_) ?_
  · have uj0 : j0 < 40 := by omega
    refine xk_Po.go 2 rfl ?_
    refine xk_Po.br rfl rfl (fun hx => absurd ((xn_le (a := 49) (b := (9 + j0)) (by omega) (by omega)).1 hx) (by omega)) (fun _ => ?_)
    refine xk_Po.go 1 rfl ?_
    refine xk_Po.br rfl rfl (fun h0 => ?_) (fun h0 => ?_) -- 8 .ifCond .ne 14
    · refine xk_Po.go 2 rfl ?_
      refine xk_Po.ok rfl rfl (xn_ix (j := 9 + j0) (by omega) (by omega)) ?_ -- .iaload
      rw [xn_nat (j := 9 + j0) (by omega)]
      refine xk_Po.go 1 rfl ?_
      refine xk_Po.br rfl rfl (fun h1 => ?_) (fun h1 => ?_) -- 13 .if_icmp .ne 16
      · refine xk_Po.go 5 rfl ?_
        rw [show p_has nx x (j0 + 1) = _ from (if_pos h0).trans (if_pos h1), ← Nat.add_assoc 9 j0 1, ← xn_suc (9 + j0)] at ih0
        exact ih0
      · refine xk_Po.go 4 rfl ?_
        rw [show p_has nx x (j0 + 1) = _ from (if_pos h0).trans (if_neg h1), ← Nat.add_assoc 9 j0 1, ← xn_suc (9 + j0)] at ih0
        exact ih0
    · refine xk_Po.go 5 rfl ?_
      rw [show p_has nx x (j0 + 1) = _ from if_neg h0, ← Nat.add_assoc 9 j0 1, ← xn_suc (9 + j0)] at ih0
      exact ih0
  · refine xk_Po.go 4 rfl ?_
    exact xk_Po.zret rfl (p_has_b _ _ _) rfl
theorem r_mayWrite_off (h : on = 0) : xk_Ev (xp_P sc) 109 0 [.ref 10] [] (mw p th pr sl ex ta nx on lf mo cv cg cT cp r) (.inl (some (.int (0))), 0, mw p th pr sl ex ta nx on lf mo cv cg cT cp r) := by
  apply xk_Ev.of
  refine xk_Po.go 2 rfl ?_
  refine xk_Po.br rfl rfl (fun h0 => ?_) (fun h0 => ?_) -- 2 .ifCond .ne 5
  · refine xk_Po.go 1 rfl ?_
    exact xk_Po.zret rfl (by first | decide | exact hb _) rfl
  · refine xk_Po.go 2 rfl ?_
    refine xk_Po.br rfl rfl (fun h1 => ?_) (fun h1 => ?_) -- 7 .ifCond .ne 19
    · refine xk_Po.go 10 rfl ?_
      exact xk_Po.zret rfl (by first | decide | exact hb _) (absurd h h0)
    · refine xk_Po.go 3 rfl ?_
      refine xk_Po.br rfl rfl (fun h2 => ?_) (fun h2 => ?_) -- 22 .ifCond .le 28
      · refine xk_Po.go 4 rfl ?_
        exact xk_Po.zret rfl (by first | decide | exact hb _) (absurd h h0)
      · refine xk_Po.go 7 rfl ?_
        exact xk_Po.zret rfl (by first | decide | exact hb _) (absurd h h0)
theorem r_mayWrite_cut (h : ¬ on = 0) (hc : lf = 0) : xk_Ev (xp_P sc) 109 0 [.ref 10] [] (mw p th pr sl ex ta nx on lf mo cv cg cT cp r) (.inl (some (.int (0))), 0, mw p th pr sl ex ta nx (0) (-1) (-1) cv cg cT cp r) := by
  apply xk_Ev.of
  refine xk_Po.go 2 rfl ?_
  refine xk_Po.br rfl rfl (fun h0 => ?_) (fun h0 => ?_) -- 2 .ifCond .ne 5
  · refine xk_Po.go 1 rfl ?_
    exact xk_Po.zret rfl (by first | decide | exact hb _) (absurd h0 h)
  · refine xk_Po.go 2 rfl ?_
    refine xk_Po.br rfl rfl (fun h1 => ?_) (fun h1 => ?_) -- 7 .ifCond .ne 19
    · refine xk_Po.go 10 rfl ?_
      exact xk_Po.zret rfl (by first | decide | exact hb _) rfl
    · refine xk_Po.go 3 rfl ?_
      refine xk_Po.br rfl rfl (fun h2 => ?_) (fun h2 => ?_) -- 22 .ifCond .le 28
      · refine xk_Po.go 4 rfl ?_
        exact xk_Po.zret rfl (by first | decide | exact hb _) (absurd hc h1)
      · refine xk_Po.go 7 rfl ?_
        exact xk_Po.zret rfl (by first | decide | exact hb _) (absurd hc h1)
theorem r_mayWrite (h : ¬ on = 0) (hc : ¬ lf = 0) : xk_Ev (xp_P sc) 109 0 [.ref 10] [] (mw p th pr sl ex ta nx on lf mo cv cg cT cp r) (.inl (some (.int (1))), 0, mw p th pr sl ex ta nx on (s_dec lf) mo cv cg cT cp r) := by
  apply xk_Ev.of
  refine xk_Po.go 2 rfl ?_
  refine xk_Po.br rfl rfl (fun h0 => ?_) (fun h0 => ?_) -- 2 .ifCond .ne 5
  · refine xk_Po.go 1 rfl ?_
    exact xk_Po.zret rfl (by first | decide | exact hb _) (absurd h0 h)
  · refine xk_Po.go 2 rfl ?_
    refine xk_Po.br rfl rfl (fun h1 => ?_) (fun h1 => ?_) -- 7 .ifCond .ne 19
    · refine xk_Po.go 10 rfl ?_
      exact xk_Po.zret rfl (by first | decide | exact hb _) (absurd h1 hc)
    · refine xk_Po.go 3 rfl ?_
      refine xk_Po.br rfl rfl (fun h2 => ?_) (fun h2 => ?_) -- 22 .ifCond .le 28
      · refine xk_Po.go 4 rfl ?_
        exact xk_Po.zret rfl (by first | decide | exact hb _) (by rw [show s_dec lf = lf from if_pos h2]; rfl)
      · refine xk_Po.go 7 rfl ?_
        exact xk_Po.zret rfl (by first | decide | exact hb _) (by rw [show s_dec lf = lf - 1 from if_neg h2]; rfl)
theorem r_isVolume_t {g : Int32} (h : g < 0 ∨ Int32.ofInt 4 ≤ g) : xk_Ev (xp_P sc) 115 0 [.ref 10, .int g] [] (mw p th pr sl ex ta nx on lf mo cv cg cT cp r) (.inl (some (.int (0))), 0, mw p th pr sl ex ta nx on lf mo cv cg cT cp r) := by
  apply xk_Ev.of
  refine xk_Po.go 1 rfl ?_
  refine xk_Po.br rfl rfl (fun h0 => ?_) (fun h0 => ?_) -- 1 .ifCond .lt 14
  · refine xk_Po.go 1 rfl ?_
    exact xk_Po.zret rfl (by first | decide | exact hb _) rfl
  · refine xk_Po.go 2 rfl ?_
    refine xk_Po.br rfl rfl (fun h1 => ?_) (fun h1 => ?_) -- 4 .if_icmp .ge 14
    · refine xk_Po.go 1 rfl ?_
      exact xk_Po.zret rfl (by first | decide | exact hb _) rfl
    · exact absurd h (fun q => q.elim h0 h1)
theorem r_isVolume {v : Nat} (hv : v < 4) (h : ¬ ta (5 + v) = 0) : xk_Ev (xp_P sc) 115 0 [.ref 10, .int (Int32.ofNat v)] [] (mw p th pr sl ex ta nx on lf mo cv cg cT cp r) (.inl (some (.int (1))), 0, mw p th pr sl ex ta nx on lf mo cv cg cT cp r) := by
  apply xk_Ev.of
  refine xk_Po.go 1 rfl ?_
  refine xk_Po.br rfl rfl (fun h0 => ?_) (fun h0 => ?_) -- 1 .ifCond .lt 14
  · refine xk_Po.go 1 rfl ?_
    exact xk_Po.zret rfl (by first | decide | exact hb _) (absurd h0 (xn_nneg (by omega)))
  · refine xk_Po.go 2 rfl ?_
    refine xk_Po.br rfl rfl (fun h1 => ?_) (fun h1 => ?_) -- 4 .if_icmp .ge 14
    · refine xk_Po.go 1 rfl ?_
      exact xk_Po.zret rfl (by first | decide | exact hb _) (absurd ((xn_le (a := 4) (by omega) (by omega)).1 h1) (by omega))
    · refine xk_Po.go 5 rfl ?_
      refine xk_Po.ok rfl rfl (xn_ixa (a := 5) (j := v) (by omega) (by omega)) ?_ -- .iaload
      rw [show (Int32.ofInt 5 + Int32.ofNat v).toNatClampNeg = 5 + v from xn_nata (a := 5) (j := v) (by omega)]
      refine xk_Po.br rfl rfl (fun h2 => ?_) (fun h2 => ?_) -- 11 .ifCond .eq 14
      · refine xk_Po.go 1 rfl ?_
        exact xk_Po.zret rfl (by first | decide | exact hb _) (absurd h2 h)
      · refine xk_Po.go 2 rfl ?_
        exact xk_Po.zret rfl (by first | decide | exact hb _) rfl
theorem r_isVolume_u {v : Nat} (hv : v < 4) (h : ta (5 + v) = 0) : xk_Ev (xp_P sc) 115 0 [.ref 10, .int (Int32.ofNat v)] [] (mw p th pr sl ex ta nx on lf mo cv cg cT cp r) (.inl (some (.int (0))), 0, mw p th pr sl ex ta nx on lf mo cv cg cT cp r) := by
  apply xk_Ev.of
  refine xk_Po.go 1 rfl ?_
  refine xk_Po.br rfl rfl (fun h0 => ?_) (fun h0 => ?_) -- 1 .ifCond .lt 14
  · refine xk_Po.go 1 rfl ?_
    exact xk_Po.zret rfl (by first | decide | exact hb _) (absurd h0 (xn_nneg (by omega)))
  · refine xk_Po.go 2 rfl ?_
    refine xk_Po.br rfl rfl (fun h1 => ?_) (fun h1 => ?_) -- 4 .if_icmp .ge 14
    · refine xk_Po.go 1 rfl ?_
      exact xk_Po.zret rfl (by first | decide | exact hb _) (absurd ((xn_le (a := 4) (by omega) (by omega)).1 h1) (by omega))
    · refine xk_Po.go 5 rfl ?_
      refine xk_Po.ok rfl rfl (xn_ixa (a := 5) (j := v) (by omega) (by omega)) ?_ -- .iaload
      rw [show (Int32.ofInt 5 + Int32.ofNat v).toNatClampNeg = 5 + v from xn_nata (a := 5) (j := v) (by omega)]
      refine xk_Po.br rfl rfl (fun h2 => ?_) (fun h2 => ?_) -- 11 .ifCond .eq 14
      · refine xk_Po.go 1 rfl ?_
        exact xk_Po.zret rfl (by first | decide | exact hb _) rfl
      · refine xk_Po.go 2 rfl ?_
        exact xk_Po.zret rfl (by first | decide | exact hb _) (absurd h h2)
def p_leg (t : Nat → Int32) (d : Int32) : Nat → Int32
  | 0 => 0
  | n + 1 => if t (9 + n) ≤ 0 then p_leg t d n else if (t (9 + n) - 1) / 8 = d then p_leg t d n + 1 else p_leg t d n
theorem r_legsOn {d : Int32} : xk_Ev (xp_P sc) 117 0 [.ref 10, .int d, .retAddr 0, .retAddr 0] [] (mw p th pr sl ex ta nx on lf mo cv cg cT cp r) (.inl (some (.int (p_leg ta d 40))), 0, mw p th pr sl ex ta nx on lf mo cv cg cT cp r) := by
  apply xk_Ev.of
  refine xk_Po.go 4 rfl ?_
  refine xk_Po.loop 40 (fun j0 => [.ref 10, .int d, .int (p_leg ta d j0), .int (Int32.ofNat (9 + j0))]) (fun j0 => mw p th pr sl ex ta nx on lf mo cv cg cT cp r) (fun m0 j0 => _) (fun m0 j0 hj0 ih0 => ?_) ?_
  · have uj0 : j0 < 40 := by omega
    refine xk_Po.go 2 rfl ?_
    refine xk_Po.br rfl rfl (fun hx => absurd ((xn_le (a := 49) (b := (9 + j0)) (by omega) (by omega)).1 hx) (by omega)) (fun _ => ?_)
    refine xk_Po.go 3 rfl ?_
    refine xk_Po.ok rfl rfl (xn_ix (j := 9 + j0) (by omega) (by omega)) ?_ -- .iaload
    rw [xn_nat (j := 9 + j0) (by omega)]
    refine xk_Po.br rfl rfl (fun h0 => ?_) (fun h0 => ?_) -- 11 .ifCond .le 26
    · refine xk_Po.go 4 rfl ?_
      rw [show p_leg ta d (j0 + 1) = _ from if_pos h0, ← Nat.add_assoc 9 j0 1, ← xn_suc (9 + j0)] at ih0
      exact ih0
    · refine xk_Po.go 3 rfl ?_
      refine xk_Po.ok rfl rfl (xn_ix (j := 9 + j0) (by omega) (by omega)) ?_ -- .iaload
      rw [xn_nat (j := 9 + j0) (by omega)]
      refine xk_Po.go 5 rfl ?_
      refine xk_Po.br rfl rfl (fun h1 => ?_) (fun h1 => ?_) -- 21 .if_icmp .ne 26
      · refine xk_Po.go 7 rfl ?_
        rw [show p_leg ta d (j0 + 1) = _ from (if_neg h0).trans (if_pos h1), ← Nat.add_assoc 9 j0 1, ← xn_suc (9 + j0)] at ih0
        exact ih0
      · refine xk_Po.go 4 rfl ?_
        rw [show p_leg ta d (j0 + 1) = _ from (if_neg h0).trans (if_neg h1), ← Nat.add_assoc 9 j0 1, ← xn_suc (9 + j0)] at ih0
        exact ih0
  · refine xk_Po.go 4 rfl ?_
    exact xk_Po.iret rfl rfl
def p_abs (t pr : Nat → Int32) : Nat → Int32
  | 0 => 0
  | n + 1 => if p_abs t pr n = 0 then (if t (1 + n) ≤ 0 then 0 else if pr n = 0 then 1 else 0) else 1
theorem p_abs_b (t pr : Nat → Int32) : ∀ n, p_abs t pr n = 0 ∨ p_abs t pr n = 1
  | 0 => .inl rfl
  | n + 1 => by
    unfold p_abs
    repeat' split
    all_goals first
      | exact .inr rfl
      | exact .inl rfl
theorem r_isOneAbsent  : xk_Ev (xp_P sc) 118 0 [.ref 10, .retAddr 0, .retAddr 0] [] (mw p th pr sl ex ta nx on lf mo cv cg cT cp r) (.inl (some (.int (p_abs ta pr 4))), 0, mw p th pr sl ex ta nx on lf mo cv cg cT cp r) := by
  apply xk_Ev.of
  refine xk_Po.go 4 rfl ?_
  refine xk_Po.loop 4 (fun j0 => [.ref 10, .int (p_abs ta pr j0), .int (Int32.ofNat j0)]) (fun j0 => mw p th pr sl ex ta nx on lf mo cv cg cT cp r) (fun m0 j0 => _) (fun m0 j0 hj0 ih0 => ?_) ?_
  · have uj0 : j0 < 4 := by omega
    refine xk_Po.go 2 rfl ?_
    refine xk_Po.br rfl rfl (fun hx => absurd ((xn_le (a := 4) (b := j0) (by omega) (by omega)).1 hx) (by omega)) (fun _ => ?_)
    refine xk_Po.go 1 rfl ?_
    refine xk_Po.br rfl rfl (fun h0 => ?_) (fun h0 => ?_) -- 8 .ifCond .ne 21
    · refine xk_Po.go 5 rfl ?_
      refine xk_Po.ok rfl rfl (xn_ixa (a := 1) (j := j0) (by omega) (by omega)) ?_ -- .iaload
      rw [show (Int32.ofInt 1 + Int32.ofNat j0).toNatClampNeg = 1 + j0 from xn_nata (a := 1) (j := j0) (by omega)]
      refine xk_Po.br rfl rfl (fun h1 => ?_) (fun h1 => ?_) -- 15 .ifCond .le 23
      · refine xk_Po.go 4 rfl ?_
        rw [show p_abs ta pr (j0 + 1) = _ from (if_pos h0).trans (if_pos h1), ← xn_suc j0] at ih0
        exact ih0
      · refine xk_Po.go 3 rfl ?_
        refine xk_Po.ok rfl rfl (xn_ix (j := j0) (by omega) (by omega)) ?_ -- .baload
        rw [xn_nat (j := j0) (by omega)]
        refine xk_Po.br rfl rfl (fun h2 => ?_) (fun h2 => ?_) -- 20 .ifCond .ne 23
        · refine xk_Po.go 5 rfl ?_
          rw [show p_abs ta pr (j0 + 1) = _ from (if_pos h0).trans ((if_neg h1).trans (if_pos h2)), ← xn_suc j0] at ih0
          exact ih0
        · refine xk_Po.go 4 rfl ?_
          rw [show p_abs ta pr (j0 + 1) = _ from (if_pos h0).trans ((if_neg h1).trans (if_neg h2)), ← xn_suc j0] at ih0
          exact ih0
    · refine xk_Po.go 5 rfl ?_
      rw [show p_abs ta pr (j0 + 1) = _ from if_neg h0, ← xn_suc j0] at ih0
      exact ih0
  · refine xk_Po.go 4 rfl ?_
    exact xk_Po.zret rfl (p_abs_b _ _ _) rfl
def p_cpy (f g : Nat → Int32) : Nat → Nat → Int32
  | 0 => g
  | n + 1 => upd (p_cpy f g n) n (f n)
theorem p_cpy_eq (f g : Nat → Int32) : ∀ n i, p_cpy f g n i = if i < n then f i else g i
  | 0, i => (if_neg (by omega)).symm
  | n + 1, i => by
    unfold p_cpy upd
    by_cases h : i = n
    · rw [if_pos h, if_pos (by omega), h]
    · rw [if_neg h, p_cpy_eq f g n i]
      by_cases q : i < n
      · rw [if_pos q, if_pos (by omega)]
      · rw [if_neg q, if_neg (by omega)]
theorem p_cpy_51 {f g : Nat → Int32} (hf : ∀ i, 51 ≤ i → f i = 0) (hg : ∀ i, 51 ≤ i → g i = 0) : p_cpy f g 51 = f := by
  funext i
  rw [p_cpy_eq]
  by_cases q : i < 51
  · rw [if_pos q]
  · rw [if_neg q, hf i (by omega), hg i (by omega)]
theorem r_begin0  : xk_Ev (xp_P sc) 119 0 [.ref 10, .retAddr 0] [] (mw p th pr sl ex ta nx on lf mo cv cg cT cp r) (.inl none, 0, mw p th pr sl ex ta (p_cpy ta nx 51) on lf mo cv cg cT cp r) := by
  apply xk_Ev.of
  refine xk_Po.go 2 rfl ?_
  refine xk_Po.loop 51 (fun j0 => [.ref 10, .int (Int32.ofNat j0)]) (fun j0 => mw p th pr sl ex ta (p_cpy ta nx j0) on lf mo cv cg cT cp r) (fun m0 j0 => _) (fun m0 j0 hj0 ih0 => ?_) ?_
  · have uj0 : j0 < 51 := by omega
    refine xk_Po.go 2 rfl ?_
    refine xk_Po.br rfl rfl (fun hx => absurd ((xn_le (a := 51) (b := j0) (by omega) (by omega)).1 hx) (by omega)) (fun _ => ?_)
    refine xk_Po.go 6 rfl ?_
    refine xk_Po.ok rfl rfl (xn_ix (j := j0) (by omega) (by omega)) ?_ -- .iaload
    rw [xn_nat (j := j0) (by omega)]
    refine xk_Po.ok rfl rfl (xn_ix (j := j0) (by omega) (by omega)) ?_ -- .iastore
    rw [xn_nat (j := j0) (by omega)]
    refine xk_Po.go 2 rfl ?_
    rw [← xn_suc j0] at ih0
    exact ih0
  · refine xk_Po.go 3 rfl ?_
    exact xk_Po.ret rfl rfl
theorem r_begin (ht : ∀ i, 51 ≤ i → ta i = 0) (hn : ∀ i, 51 ≤ i → nx i = 0) : xk_Ev (xp_P sc) 119 0 [.ref 10, .retAddr 0] [] (mw p th pr sl ex ta nx on lf mo cv cg cT cp r) (.inl none, 0, mw p th pr sl ex ta (ta) on lf mo cv cg cT cp r) := by
  have h := r_begin0 (sc := sc) (p := p) (th := th) (pr := pr) (sl := sl) (ex := ex) (ta := ta) (nx := nx) (on := on) (lf := lf) (mo := mo) (cv := cv) (cg := cg) (cT := cT) (cp := cp) (r := r)
  rw [p_cpy_51 ht hn] at h
  exact h
def m_b (o : Bool × s_S) (X : s_M) : Bool × s_S := if o.1 = true then X o.2 else o
theorem m_b_on (s : s_S) (X : s_M) : m_b (true, s) X = X s := if_pos rfl
theorem m_b_off {o : Bool × s_S} (h : ¬ o.1 = true) (X : s_M) : m_b o X = o := if_neg h
theorem m_b_seq (o : Bool × s_S) (X Y : s_M) : m_b (m_b o X) Y = m_b o (m_seq X Y) := by
  unfold m_b m_seq
  by_cases h : o.1 = true
  · rw [if_pos h, if_pos h]
  · rw [if_neg h, if_neg h, if_neg h]
theorem m_b_no (o : Bool × s_S) : m_b o m_no = o := by
  unfold m_b m_no
  by_cases h : o.1 = true
  · rw [if_pos h]
    exact (m_true h).symm
  · rw [if_neg h]
theorem m_b_for (o : Bool × s_S) (F : Nat → s_M) (m j : Nat) : m_b (m_b o (F j)) (m_for F m (j + 1)) = m_b o (m_for F (m + 1) j) := m_b_seq o (F j) (m_for F m (j + 1))
def mp (p : xk_Ten) (th : Int32) (pr ta nx : Nat → Int32) (mo cv cg cT cp : Int32) (r : xk_W) (o : Bool × s_S) : xk_W := mw p th pr o.2.1 o.2.2.1 ta nx (if o.1 = true then 1 else 0) (if o.1 = true then o.2.2.2 else -1) (if o.1 = true then mo else -1) cv cg cT cp r
theorem mp_off {o : Bool × s_S} (h : ¬ o.1 = true) : mp p th pr ta nx mo cv cg cT cp r o = mw p th pr o.2.1 o.2.2.1 ta nx 0 (-1) (-1) cv cg cT cp r := by
  unfold mp
  rw [if_neg h, if_neg h, if_neg h]
theorem mp_on (s : s_S) : mp p th pr ta nx mo cv cg cT cp r (true, s) = mw p th pr s.1 s.2.1 ta nx 1 s.2.2 mo cv cg cT cp r := rfl
theorem r_mayM {o : Bool × s_S} : xk_Ev (xp_P sc) 109 0 [.ref 10] [] (mp p th pr ta nx mo cv cg cT cp r o) (.inl (some (.int (if (m_b o m_tick).1 = true then 1 else 0))), 0, mp p th pr ta nx mo cv cg cT cp r (m_b o m_tick)) := by
  obtain ⟨b, s⟩ := o
  cases b
  · exact r_mayWrite_off rfl
  · rw [m_b_on]
    unfold m_tick
    by_cases h : s.2.2 = 0
    · rw [if_pos h]
      exact r_mayWrite_cut (show ¬ (1 : Int32) = 0 by decide) h
    · rw [if_neg h]
      exact r_mayWrite (show ¬ (1 : Int32) = 0 by decide) h
theorem m_b_tick {o : Bool × s_S} {a : Nat} {y : Int32} (h : (m_b o m_tick).1 = true) : m_b o (m_ex a y) = (true, (m_b o m_tick).2.1, upd (m_b o m_tick).2.2.1 a y, (m_b o m_tick).2.2.2) ∧ m_b o (m_sl a y) = (true, upd (m_b o m_tick).2.1 a y, (m_b o m_tick).2.2.1, (m_b o m_tick).2.2.2) := by
  unfold m_b at h ⊢
  by_cases q : o.1 = true
  · rw [if_pos q] at h
    rw [if_pos q, if_pos q, if_pos q]
    exact ⟨if_pos h, if_pos h⟩
  · rw [if_neg q] at h
    exact absurd h q
theorem m_b_tick0 {o : Bool × s_S} {a : Nat} {y : Int32} (h : ¬ (m_b o m_tick).1 = true) : m_b o (m_ex a y) = m_b o m_tick ∧ m_b o (m_sl a y) = m_b o m_tick := by
  unfold m_b at h ⊢
  by_cases q : o.1 = true
  · rw [if_pos q] at h
    rw [if_pos q, if_pos q, if_pos q]
    exact ⟨if_neg h, if_neg h⟩
  · rw [if_neg q, if_neg q, if_neg q]
    exact ⟨rfl, rfl⟩
theorem r_put {o : Bool × s_S} {x k : Nat} {y : Int32} (hx : x < 32) (hk : k < 4) : xk_Ev (xp_P sc) 110 0 [.ref 10, .int (Int32.ofNat (x + 1)), .int (Int32.ofNat k), .int y] [] (mp p th pr ta nx mo cv cg cT cp r o) (.inl none, 0, mp p th pr ta nx mo cv cg cT cp r (m_b o (m_ex (x * 4 + k) y))) := by
  apply xk_Ev.of
  refine xk_Po.go 1 rfl ?_
  refine xk_Po.ci1 rfl rfl (r_mayM (o := o)) ?_
  by_cases h : (m_b o m_tick).1 = true
  · rw [(m_b_tick h).1, if_pos h]
    have e : mp p th pr ta nx mo cv cg cT cp r (m_b o m_tick) = mp p th pr ta nx mo cv cg cT cp r (true, (m_b o m_tick).2) := by rw [← h]
    rw [e]
    refine xk_Po.go 11 rfl ?_
    refine xk_Po.ok rfl rfl (show xk_ix ((4 : Int32) * (Int32.ofNat (x + 1) - 1) + Int32.ofNat k) 128 = true by rw [s_at_eq]; exact xn_ix (by omega) (by omega)) ?_
    rw [show (Int32.ofInt 4 * (Int32.ofNat (x + 1) - Int32.ofInt 1) + Int32.ofNat k).toNatClampNeg = x * 4 + k from (congrArg Int32.toNatClampNeg s_at_eq).trans (xn_nat (by omega))]
    exact xk_Po.ret rfl rfl
  · rw [(m_b_tick0 h).1, if_neg h]
    refine xk_Po.go 1 rfl ?_
    exact xk_Po.ret rfl rfl
theorem s_at2 (d s : Nat) : (102 : Int32) * Int32.ofNat d + 51 * Int32.ofNat s = Int32.ofNat (s_start d s) := by
  show Int32.ofNat 102 * Int32.ofNat d + Int32.ofNat 51 * Int32.ofNat s = _
  rw [xn_mul, xn_mul, xn_add]
  congr 1
  unfold s_start
  omega
def p_num (f : Nat → Int32) (a : Nat) : Int32 := if s_sum f a 49 = f (a + 49) then (if f (a + 50) = f a then (if f a ≤ 0 then 0 else f a) else 0) else 0
theorem p_num_eq (f : Nat → Int32) (a : Nat) : p_num f a = s_ws f a := by
  unfold p_num s_ws
  by_cases h2 : f (a + 50) = f a
  · rw [if_pos h2, if_pos h2]
    by_cases h1 : s_sum f a 49 = f (a + 49)
    · rw [if_pos h1, if_pos h1.symm]
    · rw [if_neg h1, if_neg (fun q => h1 q.symm)]
  · rw [if_neg h2, if_neg h2]
    split <;> rfl
theorem r_numberOf0 {d s : Nat} (hd : d < 4) (hs : s < 2) : xk_Ev (xp_P sc) 120 0 [.ref 10, .int (Int32.ofNat d), .int (Int32.ofNat s), .retAddr 0, .retAddr 0, .retAddr 0] [] (mw p th pr sl ex ta nx on lf mo cv cg cT cp r) (.inl (some (.int (p_num sl (s_start d s)))), 0, mw p th pr sl ex ta nx on lf mo cv cg cT cp r) := by
  apply xk_Ev.of
  refine xk_Po.go 8 rfl ?_
  rw [show (Int32.ofInt 102 * Int32.ofNat d + Int32.ofInt 51 * Int32.ofNat s) = Int32.ofNat (s_start d s) from s_at2 d s]
  refine xk_Po.go 4 rfl ?_
  refine xk_Po.loop 49 (fun j0 => [.ref 10, .int (Int32.ofNat d), .int (Int32.ofNat s), .int (Int32.ofNat (s_start d s)), .int (s_sum sl (s_start d s) j0), .int (Int32.ofNat j0)]) (fun j0 => mw p th pr sl ex ta nx on lf mo cv cg cT cp r) (fun m0 j0 => _) (fun m0 j0 hj0 ih0 => ?_) ?_
  · have uj0 : j0 < 49 := by omega
    refine xk_Po.go 2 rfl ?_
    refine xk_Po.br rfl rfl (fun hx => absurd ((xn_le (a := 49) (b := j0) (by omega) (by omega)).1 hx) (by omega)) (fun _ => ?_)
    refine xk_Po.go 6 rfl ?_
    refine xk_Po.ok rfl rfl (xn_ixa (a := s_start d s) (j := j0) (by have := s_start_lt hd hs; omega) (by have := s_start_lt hd hs; omega)) ?_ -- .iaload
    rw [xn_nata (a := s_start d s) (j := j0) (by have := s_start_lt hd hs; omega)]
    refine xk_Po.go 8 rfl ?_
    rw [← xn_suc j0] at ih0
    exact ih0
  · refine xk_Po.go 9 rfl ?_
    refine xk_Po.ok rfl rfl (xn_ixa (a := s_start d s) (j := 49) (by have := s_start_lt hd hs; omega) (by have := s_start_lt hd hs; omega)) ?_ -- .iaload
    rw [show (Int32.ofNat (s_start d s) + Int32.ofInt 49).toNatClampNeg = s_start d s + 49 from xn_nata (a := s_start d s) (j := 49) (by have := s_start_lt hd hs; omega)]
    refine xk_Po.br rfl rfl (fun h0 => ?_) (fun h0 => ?_) -- 37 .if_icmp .ne 56
    · refine xk_Po.go 5 rfl ?_
      refine xk_Po.ok rfl rfl (xn_ixa (a := s_start d s) (j := 50) (by have := s_start_lt hd hs; omega) (by have := s_start_lt hd hs; omega)) ?_ -- .iaload
      rw [show (Int32.ofNat (s_start d s) + Int32.ofInt 50).toNatClampNeg = s_start d s + 50 from xn_nata (a := s_start d s) (j := 50) (by have := s_start_lt hd hs; omega)]
      refine xk_Po.go 3 rfl ?_
      refine xk_Po.ok rfl rfl (xn_ix (j := s_start d s) (by have := s_start_lt hd hs; omega) (by omega)) ?_ -- .iaload
      rw [xn_nat (j := s_start d s) (by have := s_start_lt hd hs; omega)]
      refine xk_Po.br rfl rfl (fun h1 => ?_) (fun h1 => ?_) -- 48 .if_icmp .ne 56
      · refine xk_Po.go 3 rfl ?_
        refine xk_Po.ok rfl rfl (xn_ix (j := s_start d s) (by have := s_start_lt hd hs; omega) (by omega)) ?_ -- .iaload
        rw [xn_nat (j := s_start d s) (by have := s_start_lt hd hs; omega)]
        refine xk_Po.br rfl rfl (fun h2 => ?_) (fun h2 => ?_) -- 53 .ifCond .le 56
        · refine xk_Po.go 5 rfl ?_
          exact xk_Po.iret rfl (congrArg (fun z => ((.inl (some (.int z)), 0, _) : xk_R)) ((if_pos h0).trans ((if_pos h1).trans (if_pos h2))).symm)
        · refine xk_Po.go 8 rfl ?_
          refine xk_Po.ok rfl rfl (xn_ix (j := s_start d s) (by have := s_start_lt hd hs; omega) (by omega)) ?_ -- .iaload
          rw [xn_nat (j := s_start d s) (by have := s_start_lt hd hs; omega)]
          refine xk_Po.go 1 rfl ?_
          exact xk_Po.iret rfl (congrArg (fun z => ((.inl (some (.int z)), 0, _) : xk_R)) ((if_pos h0).trans ((if_pos h1).trans (if_neg h2))).symm)
      · refine xk_Po.go 5 rfl ?_
        exact xk_Po.iret rfl (congrArg (fun z => ((.inl (some (.int z)), 0, _) : xk_R)) ((if_pos h0).trans (if_neg h1)).symm)
    · refine xk_Po.go 5 rfl ?_
      exact xk_Po.iret rfl (congrArg (fun z => ((.inl (some (.int z)), 0, _) : xk_R)) (if_neg h0).symm)
theorem r_numberOf {d s : Nat} (hd : d < 4) (hs : s < 2) : xk_Ev (xp_P sc) 120 0 [.ref 10, .int (Int32.ofNat d), .int (Int32.ofNat s), .retAddr 0, .retAddr 0, .retAddr 0] [] (mw p th pr sl ex ta nx on lf mo cv cg cT cp r) (.inl (some (.int (s_ws sl (s_start d s)))), 0, mw p th pr sl ex ta nx on lf mo cv cg cT cp r) := by
  rw [← p_num_eq]
  exact r_numberOf0 hd hs
theorem r_slotToWrite0 {d : Nat} (hd : d < 4) : xk_Ev (xp_P sc) 121 0 [.ref 10, .int (Int32.ofNat d), .retAddr 0, .retAddr 0] [] (mw p th pr sl ex ta nx on lf mo cv cg cT cp r) (.inl (some (.int (if s_ws sl (s_start d 0) = 0 then 0 else if s_ws sl (s_start d 1) = 0 then 1 else if s_ws sl (s_start d 1) ≤ s_ws sl (s_start d 0) then 1 else 0))), 0, mw p th pr sl ex ta nx on lf mo cv cg cT cp r) := by
  apply xk_Ev.of
  refine xk_Po.go 3 rfl ?_
  refine xk_Po.ci3 rfl rfl (r_numberOf hd (s := 0) (by omega)) ?_
  refine xk_Po.go 4 rfl ?_
  refine xk_Po.ci3 rfl rfl (r_numberOf hd (s := 1) (by omega)) ?_
  refine xk_Po.go 2 rfl ?_
  refine xk_Po.br rfl rfl (fun h0 => ?_) (fun h0 => ?_) -- 11 .ifCond .eq 14
  · refine xk_Po.go 1 rfl ?_
    refine xk_Po.br rfl rfl (fun h1 => ?_) (fun h1 => ?_) -- 15 .ifCond .ne 18
    · refine xk_Po.go 2 rfl ?_
      exact xk_Po.iret rfl (congrArg (fun z => ((.inl (some (.int z)), 0, _) : xk_R)) (if_pos h0).symm)
    · refine xk_Po.go 1 rfl ?_
      exact xk_Po.iret rfl (absurd h0 h1)
  · refine xk_Po.go 1 rfl ?_
    refine xk_Po.br rfl rfl (fun h1 => ?_) (fun h1 => ?_) -- 13 .ifCond .ne 20
    · refine xk_Po.go 1 rfl ?_
      refine xk_Po.br rfl rfl (fun h2 => ?_) (fun h2 => ?_) -- 15 .ifCond .ne 18
      · refine xk_Po.go 2 rfl ?_
        exact xk_Po.iret rfl (absurd h2 h0)
      · refine xk_Po.go 1 rfl ?_
        exact xk_Po.iret rfl (congrArg (fun z => ((.inl (some (.int z)), 0, _) : xk_R)) ((if_neg h0).trans (if_pos h1)).symm)
    · refine xk_Po.go 2 rfl ?_
      refine xk_Po.br rfl rfl (fun h2 => ?_) (fun h2 => ?_) -- 22 .if_icmp .ge 25
      · refine xk_Po.go 1 rfl ?_
        exact xk_Po.iret rfl (congrArg (fun z => ((.inl (some (.int z)), 0, _) : xk_R)) ((if_neg h0).trans ((if_neg h1).trans (if_pos h2))).symm)
      · refine xk_Po.go 2 rfl ?_
        exact xk_Po.iret rfl (congrArg (fun z => ((.inl (some (.int z)), 0, _) : xk_R)) ((if_neg h0).trans ((if_neg h1).trans (if_neg h2))).symm)
theorem r_slotToWrite {d : Nat} (hd : d < 4) : xk_Ev (xp_P sc) 121 0 [.ref 10, .int (Int32.ofNat d), .retAddr 0, .retAddr 0] [] (mw p th pr sl ex ta nx on lf mo cv cg cT cp r) (.inl (some (.int (Int32.ofNat (p_slot sl d)))), 0, mw p th pr sl ex ta nx on lf mo cv cg cT cp r) := by
  have h := r_slotToWrite0 (sc := sc) (p := p) (th := th) (pr := pr) (sl := sl) (ex := ex) (ta := ta) (nx := nx) (on := on) (lf := lf) (mo := mo) (cv := cv) (cg := cg) (cT := cT) (cp := cp) (r := r) hd
  have e : (if s_ws sl (s_start d 0) = 0 then (0 : Int32) else if s_ws sl (s_start d 1) = 0 then 1 else if s_ws sl (s_start d 1) ≤ s_ws sl (s_start d 0) then 1 else 0) = Int32.ofNat (p_slot sl d) := by
    unfold p_slot
    by_cases h0 : s_ws sl (s_start d 0) = 0
    · rw [if_pos h0, if_pos (.inl h0), if_pos h0]
      rfl
    · rw [if_neg h0]
      by_cases h1 : s_ws sl (s_start d 1) = 0
      · rw [if_pos h1, if_pos (.inr h1), if_neg h0]
        rfl
      · rw [if_neg h1, if_neg (show ¬ (s_ws sl (s_start d 0) = 0 ∨ s_ws sl (s_start d 1) = 0) from fun q => q.elim h0 h1)]
        by_cases h2 : s_ws sl (s_start d 1) ≤ s_ws sl (s_start d 0)
        · rw [if_pos h2, if_neg (fun q => (xn_lt_le.1 q) h2)]
          rfl
        · rw [if_neg h2, if_pos (xn_lt_le.2 h2)]
          rfl
  rw [e] at h
  exact h
theorem p_slot_lt (f : Nat → Int32) (d : Nat) : p_slot f d < 2 := by
  unfold p_slot
  repeat' split
  all_goals omega
theorem t_writeTo0 {s : s_S} {d n : Nat} (hd : d < 4) (hn : n < 2) (hs : p_slot s.1 d = n) : xk_Ev (xp_P sc) 122 0 [.ref 10, .int (Int32.ofNat d), .ref 14, .retAddr 0, .retAddr 0] [] (mp p th pr ta nx mo cv cg cT cp r (true, s)) (.inl none, 0, mp p th pr ta nx mo cv cg cT cp r (m_for (fun i => m_sl (s_start d n + i) (ta i)) 51 0 s)) := by
  have hl := s_start_lt hd hn
  apply xk_Ev.of
  refine xk_Po.go 6 rfl ?_
  refine xk_Po.ci2 rfl rfl (by have h := r_slotToWrite (sc := sc) (p := p) (th := th) (pr := pr) (sl := s.1) (ex := s.2.1) (ta := ta) (nx := nx) (on := 1) (lf := s.2.2) (mo := mo) (cv := cv) (cg := cg) (cT := cT) (cp := cp) (r := r) hd; rw [hs] at h; exact h) ?_
  refine xk_Po.go 3 rfl ?_
  rw [show (Int32.ofInt 102 * Int32.ofNat d + Int32.ofInt 51 * Int32.ofNat n) = Int32.ofNat (s_start d n) from s_at2 d n]
  refine xk_Po.go 2 rfl ?_
  have hoff : ∀ (j : Nat) (o : Bool × s_S), j ≤ 51 → ¬ o.1 = true → xk_Po (xp_P sc) 122 12 [.ref 10, .int (Int32.ofNat d), .ref 14, .int (Int32.ofNat (s_start d n)), .int (Int32.ofNat j)] [] (mp p th pr ta nx mo cv cg cT cp r o) (fun z => z = (.inl none, 0, mp p th pr ta nx mo cv cg cT cp r o)) := by
    intro j o hj ho
    rw [mp_off ho]
    refine xk_Po.go 2 rfl ?_
    refine xk_Po.br rfl rfl (fun _ => ?_) (fun _ => ?_)
    · exact xk_Po.ret rfl rfl
    · refine xk_Po.go 3 rfl ?_
      exact xk_Po.ret rfl rfl
  refine xk_Po.mono (xk_Po.loopS (σ := Bool × s_S) 51 (fun j0 => [.ref 10, .int (Int32.ofNat d), .ref 14, .int (Int32.ofNat (s_start d n)), .int (Int32.ofNat j0)]) (fun o => mp p th pr ta nx mo cv cg cT cp r o) (fun m0 j0 o => fun z => z = (.inl none, 0, mp p th pr ta nx mo cv cg cT cp r (m_b o (m_for (fun i => m_sl (s_start d n + i) (ta i)) m0 j0)))) (fun m0 j0 o hj0 ih0 => ?_) (fun o => ?_) (true, s)) (fun z hz => hz)
  · by_cases ho : o.1 = true
    · obtain ⟨b, u⟩ := o
      have hb : b = true := ho
      subst hb
      refine xk_Po.go 2 rfl ?_
      refine xk_Po.br rfl rfl (fun hx => absurd ((xn_le (a := 51) (b := j0) (by omega) (by omega)).1 hx) (by omega)) (fun _ => ?_)
      refine xk_Po.go 4 rfl ?_
      refine xk_Po.ci1 rfl rfl (r_mayM (o := (true, u))) ?_
      by_cases h : (m_b (true, u) m_tick).1 = true
      · rw [← m_b_for, (m_b_tick h).2, if_pos h]
        have e : mp p th pr ta nx mo cv cg cT cp r (m_b (true, u) m_tick) = mp p th pr ta nx mo cv cg cT cp r (true, (m_b (true, u) m_tick).2) := congrArg _ (m_true h)
        rw [e]
        refine xk_Po.go 8 rfl ?_
        refine xk_Po.ok rfl rfl (xn_ix (j := j0) (by omega) (by omega)) ?_
        rw [xn_nat (j := j0) (by omega)]
        refine xk_Po.ok rfl rfl (xn_ixa (a := s_start d n) (j := j0) (by omega) (by omega)) ?_
        rw [xn_nata (a := s_start d n) (j := j0) (by omega)]
        refine xk_Po.go 2 rfl ?_
        rw [← xn_suc j0] at ih0
        exact ih0 (true, (upd (m_b (true, u) m_tick).2.1 (s_start d n + j0) (ta j0), (m_b (true, u) m_tick).2.2.1, (m_b (true, u) m_tick).2.2.2))
      · rw [← m_b_for, (m_b_tick0 h).2, if_neg h, m_b_off h]
        refine xk_Po.go 3 rfl ?_
        rw [show Int32.ofNat j0 + Int32.ofInt 1 = Int32.ofNat (j0 + 1) from xn_suc j0]
        exact hoff (j0 + 1) _ (by omega) h
    · rw [m_b_off ho]
      exact hoff j0 o (by omega) ho
  · rw [show m_for (fun i => m_sl (s_start d n + i) (ta i)) 0 51 = m_no from rfl, m_b_no]
    by_cases ho : o.1 = true
    · obtain ⟨b, u⟩ := o
      have hb : b = true := ho
      subst hb
      refine xk_Po.go 3 rfl ?_
      exact xk_Po.ret rfl rfl
    · exact hoff 51 o (by omega) ho
theorem t_writeTo {s : s_S} {d : Nat} (hd : d < 4) : xk_Ev (xp_P sc) 122 0 [.ref 10, .int (Int32.ofNat d), .ref 14, .retAddr 0, .retAddr 0] [] (mp p th pr ta nx mo cv cg cT cp r (true, s)) (.inl none, 0, mp p th pr ta nx mo cv cg cT cp r (p_wt d ta s)) := t_writeTo0 hd (p_slot_lt _ _) rfl
theorem n_writeTo0 {s : s_S} {d n : Nat} (hd : d < 4) (hn : n < 2) (hs : p_slot s.1 d = n) : xk_Ev (xp_P sc) 122 0 [.ref 10, .int (Int32.ofNat d), .ref 15, .retAddr 0, .retAddr 0] [] (mp p th pr ta nx mo cv cg cT cp r (true, s)) (.inl none, 0, mp p th pr ta nx mo cv cg cT cp r (m_for (fun i => m_sl (s_start d n + i) (nx i)) 51 0 s)) := by
  have hl := s_start_lt hd hn
  apply xk_Ev.of
  refine xk_Po.go 6 rfl ?_
  refine xk_Po.ci2 rfl rfl (by have h := r_slotToWrite (sc := sc) (p := p) (th := th) (pr := pr) (sl := s.1) (ex := s.2.1) (ta := ta) (nx := nx) (on := 1) (lf := s.2.2) (mo := mo) (cv := cv) (cg := cg) (cT := cT) (cp := cp) (r := r) hd; rw [hs] at h; exact h) ?_
  refine xk_Po.go 3 rfl ?_
  rw [show (Int32.ofInt 102 * Int32.ofNat d + Int32.ofInt 51 * Int32.ofNat n) = Int32.ofNat (s_start d n) from s_at2 d n]
  refine xk_Po.go 2 rfl ?_
  have hoff : ∀ (j : Nat) (o : Bool × s_S), j ≤ 51 → ¬ o.1 = true → xk_Po (xp_P sc) 122 12 [.ref 10, .int (Int32.ofNat d), .ref 15, .int (Int32.ofNat (s_start d n)), .int (Int32.ofNat j)] [] (mp p th pr ta nx mo cv cg cT cp r o) (fun z => z = (.inl none, 0, mp p th pr ta nx mo cv cg cT cp r o)) := by
    intro j o hj ho
    rw [mp_off ho]
    refine xk_Po.go 2 rfl ?_
    refine xk_Po.br rfl rfl (fun _ => ?_) (fun _ => ?_)
    · exact xk_Po.ret rfl rfl
    · refine xk_Po.go 3 rfl ?_
      exact xk_Po.ret rfl rfl
  refine xk_Po.mono (xk_Po.loopS (σ := Bool × s_S) 51 (fun j0 => [.ref 10, .int (Int32.ofNat d), .ref 15, .int (Int32.ofNat (s_start d n)), .int (Int32.ofNat j0)]) (fun o => mp p th pr ta nx mo cv cg cT cp r o) (fun m0 j0 o => fun z => z = (.inl none, 0, mp p th pr ta nx mo cv cg cT cp r (m_b o (m_for (fun i => m_sl (s_start d n + i) (nx i)) m0 j0)))) (fun m0 j0 o hj0 ih0 => ?_) (fun o => ?_) (true, s)) (fun z hz => hz)
  · by_cases ho : o.1 = true
    · obtain ⟨b, u⟩ := o
      have hb : b = true := ho
      subst hb
      refine xk_Po.go 2 rfl ?_
      refine xk_Po.br rfl rfl (fun hx => absurd ((xn_le (a := 51) (b := j0) (by omega) (by omega)).1 hx) (by omega)) (fun _ => ?_)
      refine xk_Po.go 4 rfl ?_
      refine xk_Po.ci1 rfl rfl (r_mayM (o := (true, u))) ?_
      by_cases h : (m_b (true, u) m_tick).1 = true
      · rw [← m_b_for, (m_b_tick h).2, if_pos h]
        have e : mp p th pr ta nx mo cv cg cT cp r (m_b (true, u) m_tick) = mp p th pr ta nx mo cv cg cT cp r (true, (m_b (true, u) m_tick).2) := congrArg _ (m_true h)
        rw [e]
        refine xk_Po.go 8 rfl ?_
        refine xk_Po.ok rfl rfl (xn_ix (j := j0) (by omega) (by omega)) ?_
        rw [xn_nat (j := j0) (by omega)]
        refine xk_Po.ok rfl rfl (xn_ixa (a := s_start d n) (j := j0) (by omega) (by omega)) ?_
        rw [xn_nata (a := s_start d n) (j := j0) (by omega)]
        refine xk_Po.go 2 rfl ?_
        rw [← xn_suc j0] at ih0
        exact ih0 (true, (upd (m_b (true, u) m_tick).2.1 (s_start d n + j0) (nx j0), (m_b (true, u) m_tick).2.2.1, (m_b (true, u) m_tick).2.2.2))
      · rw [← m_b_for, (m_b_tick0 h).2, if_neg h, m_b_off h]
        refine xk_Po.go 3 rfl ?_
        rw [show Int32.ofNat j0 + Int32.ofInt 1 = Int32.ofNat (j0 + 1) from xn_suc j0]
        exact hoff (j0 + 1) _ (by omega) h
    · rw [m_b_off ho]
      exact hoff j0 o (by omega) ho
  · rw [show m_for (fun i => m_sl (s_start d n + i) (nx i)) 0 51 = m_no from rfl, m_b_no]
    by_cases ho : o.1 = true
    · obtain ⟨b, u⟩ := o
      have hb : b = true := ho
      subst hb
      refine xk_Po.go 3 rfl ?_
      exact xk_Po.ret rfl rfl
    · exact hoff 51 o (by omega) ho
theorem n_writeTo {s : s_S} {d : Nat} (hd : d < 4) : xk_Ev (xp_P sc) 122 0 [.ref 10, .int (Int32.ofNat d), .ref 15, .retAddr 0, .retAddr 0] [] (mp p th pr ta nx mo cv cg cT cp r (true, s)) (.inl none, 0, mp p th pr ta nx mo cv cg cT cp r (p_wt d nx s)) := n_writeTo0 hd (p_slot_lt _ _) rfl
def p_sl (nx : Nat → Int32) (x : Int32) : Nat → Nat → Int32
  | 0 => upd (upd (upd nx 0 x) 50 x) 49 0
  | j + 1 => upd (p_sl nx x j) 49 (p_sl nx x j 49 + p_sl nx x j j * (Int32.ofNat j + 1))
theorem p_sl_at (nx : Nat → Int32) (x : Int32) : ∀ n, n ≤ 49 → (∀ i, i < 49 → p_sl nx x n i = upd nx 0 x i) ∧ p_sl nx x n 49 = s_sum (upd nx 0 x) 0 n ∧ (∀ i, 50 ≤ i → p_sl nx x n i = upd (upd nx 0 x) 50 x i)
  | 0, _ => by
    refine ⟨fun i hi => ?_, rfl, fun i hi => ?_⟩
    · unfold p_sl
      show upd (upd _ _ _) _ _ i = _
      rw [show upd (upd (upd nx 0 x) 50 x) 49 0 i = upd (upd nx 0 x) 50 x i from if_neg (by omega), show upd (upd nx 0 x) 50 x i = upd nx 0 x i from if_neg (by omega)]
    · exact if_neg (by omega)
  | n + 1, hn => by
    obtain ⟨h1, h2, h3⟩ := p_sl_at nx x n (by omega)
    refine ⟨fun i hi => ?_, ?_, fun i hi => ?_⟩
    · rw [show p_sl nx x (n + 1) i = p_sl nx x n i from if_neg (by omega)]
      exact h1 i hi
    · rw [show p_sl nx x (n + 1) 49 = p_sl nx x n 49 + p_sl nx x n n * (Int32.ofNat n + 1) from rfl, h2, h1 n (by omega)]
      show _ = s_sum (upd nx 0 x) 0 n + upd nx 0 x (0 + n) * (Int32.ofNat n + 1)
      rw [Nat.zero_add]
    · rw [show p_sl nx x (n + 1) i = p_sl nx x n i from if_neg (by omega)]
      exact h3 i hi
theorem p_sl_eq (nx : Nat → Int32) (x : Int32) : p_sl nx x 49 = s_seal nx x := by
  obtain ⟨h1, h2, h3⟩ := p_sl_at nx x 49 (by omega)
  funext i
  unfold s_seal
  by_cases q : i < 49
  · rw [h1 i q, show ∀ (f : Nat → Int32) y, upd f 50 y i = f i from fun f y => if_neg (by omega), show ∀ (f : Nat → Int32) y, upd f 49 y i = f i from fun f y => if_neg (by omega)]
  · by_cases q2 : i = 49
    · rw [q2, h2]
      rfl
    · rw [h3 i (by omega)]
      by_cases q3 : i = 50
      · rw [q3]
        rfl
      · rw [show ∀ (f : Nat → Int32) y, upd f 50 y i = f i from fun f y => if_neg q3, show ∀ (f : Nat → Int32) y, upd f 50 y i = f i from fun f y => if_neg q3, show ∀ (f : Nat → Int32) y, upd f 49 y i = f i from fun f y => if_neg q2]
def p_cT (nx ta : Nat → Int32) (cT : Int32) (a : Nat) : Int32 := if cT ≤ 0 then cT else if nx a = ta a then cT else 0
def n_ab (pr : Nat → Int32) : Nat → Int32 := fun i => if pr i = 0 then 1 else 0
def mch (p : xk_Ten) (th : Int32) (pr ta D : Nat → Int32) (mo cv cg cT cp : Int32) (r : xk_W) (s : s_S) (a : Nat) : xk_W := if (p_com D (n_ab pr) s).1 = true then mp p th pr (p_cpy D ta 51) D mo cv cg (p_cT D ta cT a) cp r (p_com D (n_ab pr) s) else mp p th pr ta D mo cv cg cT cp r (p_com D (n_ab pr) s)
theorem s_was (a b : Nat) : Int32.ofInt 9 + Int32.ofInt 10 * Int32.ofNat a + Int32.ofNat b = Int32.ofNat (9 + (a * 10 + b)) := by
  show Int32.ofNat 9 + Int32.ofNat 10 * Int32.ofNat a + Int32.ofNat b = _
  rw [xn_mul, xn_add, xn_add]
  congr 1
  omega
theorem r_change1 {s : s_S} {x : Int32} {f : Nat → Nat} (T : s_Tv (s_seal nx x) f) (hb : ∀ i, pr i = 0 ∨ pr i = 1) (hx : x = ta 0 + (if p_abs ta pr 4 = 0 then 1 else 2)) {a b : Nat} (ha : a < 4) (hb2 : b < 10) (hcv : cv = Int32.ofNat a) (hcg : cg = Int32.ofNat b) : xk_Ev (xp_P sc) 123 0 [.ref 10, .retAddr 0, .retAddr 0] [] (mp p th pr ta nx mo cv cg cT cp r (true, s)) (.inl none, 0, mch p th pr ta (s_seal nx x) mo cv cg cT cp r s (9 + (a * 10 + b))) := by
  apply xk_Ev.of
  refine xk_Po.go 8 rfl ?_
  refine xk_Po.ci1 rfl rfl (r_isOneAbsent (on := 1)) ?_
  have key : ∀ y : Int32, y = x → xk_Po (xp_P sc) 123 14 [.ref 10, .retAddr 0, .retAddr 0] [.int y, .int 0, .ref 15] (mp p th pr ta nx mo cv cg cT cp r (true, s)) (fun z => z = (.inl none, 0, mch p th pr ta (s_seal nx x) mo cv cg cT cp r s (9 + (a * 10 + b)))) := by
    intro y hy
    subst hy
    refine xk_Po.go 16 rfl ?_
    refine xk_Po.loop 49 (fun j0 => [.ref 10, .int (Int32.ofNat j0), .retAddr 0]) (fun j0 => mp p th pr ta (p_sl nx y j0) mo cv cg cT cp r (true, s)) (fun _ _ => fun z => z = (.inl none, 0, mch p th pr ta (s_seal nx y) mo cv cg cT cp r s (9 + (a * 10 + b)))) (fun m0 j0 hj0 ih0 => ?_) ?_
    · refine xk_Po.go 2 rfl ?_
      refine xk_Po.br rfl rfl (fun hx => absurd ((xn_le (a := 49) (b := j0) (by omega) (by omega)).1 hx) (by omega)) (fun _ => ?_)
      refine xk_Po.go 10 rfl ?_
      refine xk_Po.ok rfl rfl (xn_ix (j := j0) (by omega) (by omega)) ?_
      rw [xn_nat (j := j0) (by omega)]
      refine xk_Po.go 8 rfl ?_
      rw [← xn_suc j0] at ih0
      exact ih0
    · rw [p_sl_eq]
      generalize s_seal nx y = D at *
      refine xk_Po.go 5 rfl ?_
      have hend : ∀ (j : Nat) (o : Bool × s_S), xk_Po (xp_P sc) 123 79 [.ref 10, .int (Int32.ofNat j), .retAddr 0] [] (mp p th pr ta D mo cv cg cT cp r o) (fun z => z = (.inl none, 0, if o.1 = true then mp p th pr (p_cpy D ta 51) D mo cv cg (p_cT D ta cT (9 + (a * 10 + b))) cp r o else mp p th pr ta D mo cv cg cT cp r o)) := by
        intro j o
        by_cases ho : o.1 = true
        · obtain ⟨bo, u⟩ := o
          have hbo : bo = true := ho
          subst hbo
          rw [if_pos rfl]
          refine xk_Po.go 9 rfl ?_
          subst hcv hcg
          refine xk_Po.go 3 rfl ?_
          rw [show Int32.ofInt 9 + Int32.ofInt 10 * Int32.ofNat a + Int32.ofNat b = Int32.ofNat (9 + (a * 10 + b)) from s_was a b]
          refine xk_Po.go 4 rfl ?_
          have hcp : ∀ y : Int32, y = p_cT D ta cT (9 + (a * 10 + b)) → xk_Po (xp_P sc) 123 110 [.ref 10, .int (Int32.ofNat (9 + (a * 10 + b))), .retAddr 0] [.int y, .ref 10] (mp p th pr ta D mo (Int32.ofNat a) (Int32.ofNat b) cT cp r (true, u)) (fun z => z = (.inl none, 0, mp p th pr (p_cpy D ta 51) D mo (Int32.ofNat a) (Int32.ofNat b) (p_cT D ta cT (9 + (a * 10 + b))) cp r (true, u))) := by
            intro y hy
            subst hy
            refine xk_Po.go 3 rfl ?_
            refine xk_Po.loop 51 (fun j0 => [.ref 10, .int (Int32.ofNat (9 + (a * 10 + b))), .int (Int32.ofNat j0)]) (fun j0 => mp p th pr (p_cpy D ta j0) D mo (Int32.ofNat a) (Int32.ofNat b) (p_cT D ta cT (9 + (a * 10 + b))) cp r (true, u)) (fun _ _ => fun z => z = (.inl none, 0, mp p th pr (p_cpy D ta 51) D mo (Int32.ofNat a) (Int32.ofNat b) (p_cT D ta cT (9 + (a * 10 + b))) cp r (true, u))) (fun m0 j0 hj0 ih0 => ?_) ?_
            · refine xk_Po.go 2 rfl ?_
              refine xk_Po.br rfl rfl (fun hx => absurd ((xn_le (a := 51) (b := j0) (by omega) (by omega)).1 hx) (by omega)) (fun _ => ?_)
              refine xk_Po.go 6 rfl ?_
              refine xk_Po.ok rfl rfl (xn_ix (j := j0) (by omega) (by omega)) ?_
              rw [xn_nat (j := j0) (by omega)]
              refine xk_Po.ok rfl rfl (xn_ix (j := j0) (by omega) (by omega)) ?_
              rw [xn_nat (j := j0) (by omega)]
              refine xk_Po.go 2 rfl ?_
              rw [← xn_suc j0] at ih0
              exact ih0
            · refine xk_Po.go 3 rfl ?_
              exact xk_Po.ret rfl rfl
          refine xk_Po.br rfl rfl (fun h0 => ?_) (fun h0 => ?_)
          · refine xk_Po.go 2 rfl ?_
            exact hcp cT (if_pos h0).symm
          · refine xk_Po.go 3 rfl ?_
            refine xk_Po.ok rfl rfl (xn_ix (j := 9 + (a * 10 + b)) (by omega) (by omega)) ?_
            refine xk_Po.go 3 rfl ?_
            refine xk_Po.ok rfl rfl (xn_ix (j := 9 + (a * 10 + b)) (by omega) (by omega)) ?_
            rw [xn_nat (j := 9 + (a * 10 + b)) (by omega)]
            refine xk_Po.br rfl rfl (fun h1 => ?_) (fun h1 => ?_)
            · refine xk_Po.go 2 rfl ?_
              exact hcp cT ((if_neg h0).trans (if_pos h1)).symm
            · refine xk_Po.go 2 rfl ?_
              exact hcp 0 ((if_neg h0).trans (if_neg h1)).symm
        · rw [if_neg ho, mp_off ho]
          refine xk_Po.go 3 rfl ?_
          exact xk_Po.ret rfl rfl
      refine xk_Po.mono (xk_Po.loopS (σ := Bool × s_S) 4 (fun j0 => [.ref 10, .int (Int32.ofNat j0), .retAddr 0]) (fun o => mp p th pr ta D mo cv cg cT cp r o) (fun m0 j0 o => fun z => z = (.inl none, 0, if (m_b o (m_for (fun d => if ¬ D (1 + d) = 0 ∧ n_ab pr d = 0 then p_wt d D else m_no) m0 j0)).1 = true then mp p th pr (p_cpy D ta 51) D mo cv cg (p_cT D ta cT (9 + (a * 10 + b))) cp r (m_b o (m_for (fun d => if ¬ D (1 + d) = 0 ∧ n_ab pr d = 0 then p_wt d D else m_no) m0 j0)) else mp p th pr ta D mo cv cg cT cp r (m_b o (m_for (fun d => if ¬ D (1 + d) = 0 ∧ n_ab pr d = 0 then p_wt d D else m_no) m0 j0)))) (fun m0 j0 o hj0 ih0 => ?_) (fun o => ?_) (true, s)) (fun z hz => hz)
      · by_cases ho : o.1 = true
        · obtain ⟨bo, u⟩ := o
          have hbo : bo = true := ho
          subst hbo
          rw [← xn_suc j0] at ih0
          refine xk_Po.go 2 rfl ?_
          refine xk_Po.br rfl rfl (fun hx => absurd ((xn_le (a := 4) (b := j0) (by omega) (by omega)).1 hx) (by omega)) (fun _ => ?_)
          refine xk_Po.go 8 rfl ?_
          refine xk_Po.ok rfl rfl (xn_ixa (a := 1) (j := j0) (by omega) (by omega)) ?_
          rw [show (Int32.ofInt 1 + Int32.ofNat j0).toNatClampNeg = 1 + j0 from xn_nata (a := 1) (j := j0) (by omega)]
          have hD : D (1 + j0) ≤ 0 ↔ D (1 + j0) = 0 := by
            rw [T.w (1 + j0) (by omega) (by omega)]
            have := T.e j0 (by omega)
            constructor
            · intro q
              have := (xn_le (b := 0) (by omega) (by omega)).1 q
              rw [show f (1 + j0) = 0 by omega]
              rfl
            · intro q
              rw [q]
              exact Int32.le_refl _
          refine xk_Po.br rfl rfl (fun h0 => ?_) (fun h0 => ?_)
          · rw [← m_b_for, if_neg (show ¬ (¬ D (1 + j0) = 0 ∧ n_ab pr j0 = 0) from fun q => q.1 (hD.1 h0)), m_b_no]
            refine xk_Po.go 2 rfl ?_
            exact ih0 (true, u)
          · refine xk_Po.go 3 rfl ?_
            refine xk_Po.ok rfl rfl (xn_ix (j := j0) (by omega) (by omega)) ?_
            rw [xn_nat (j := j0) (by omega)]
            refine xk_Po.br rfl rfl (fun h1 => ?_) (fun h1 => ?_)
            · rw [← m_b_for, if_neg (show ¬ (¬ D (1 + j0) = 0 ∧ n_ab pr j0 = 0) from fun q => by
                have := q.2
                unfold n_ab at this
                rw [if_pos h1] at this
                exact absurd this (by decide)), m_b_no]
              refine xk_Po.go 2 rfl ?_
              exact ih0 (true, u)
            · rw [← m_b_for, if_pos (show (¬ D (1 + j0) = 0 ∧ n_ab pr j0 = 0) from ⟨fun q => h0 (hD.2 q), if_neg h1⟩), m_b_on]
              refine xk_Po.go 4 rfl ?_
              refine xk_Po.cv3 rfl rfl (n_writeTo (by omega)) ?_
              refine xk_Po.go 2 rfl ?_
              exact ih0 (p_wt j0 D u)
        · rw [m_b_off ho]
          refine xk_Po.go 2 rfl ?_
          refine xk_Po.br rfl rfl (fun _ => ?_) (fun _ => ?_)
          · exact hend j0 o
          · have hh := hend j0 o
            rw [mp_off ho] at hh ⊢
            refine xk_Po.go 3 rfl ?_
            exact hh
      · rw [show m_for (fun d => if ¬ D (1 + d) = 0 ∧ n_ab pr d = 0 then p_wt d D else m_no) 0 4 = m_no from rfl, m_b_no]
        refine xk_Po.go 3 rfl ?_
        exact hend 4 o
  refine xk_Po.br rfl rfl (fun h0 => ?_) (fun h0 => ?_)
  · refine xk_Po.go 2 rfl ?_
    exact key _ (by rw [hx, if_pos h0]; rfl)
  · refine xk_Po.go 3 rfl ?_
    exact key _ (by rw [hx, if_neg h0]; rfl)
end XkMod
