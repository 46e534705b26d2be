section XkMca
variable {sc : Nat × (Nat → Int32)} {p : xk_Ten} {pr sl ex ta nx : Nat → Int32} {th on lf mo cv cg cT cp : Int32} {r w : xk_W}
theorem p_upd_z {t : Nat → Int32} {i : Nat} {y : Int32} (h : ∀ i, 51 ≤ i → t i = 0) (hi : i < 51) : ∀ k, 51 ≤ k → upd t i y k = 0 := upd_z h hi
theorem r_add_lo {j : Nat} (hj : j < 4) {x : Int32} (h : x < Int32.ofInt 2) : xk_Ev (xp_P sc) 133 0 [.ref 10, .int (Int32.ofNat j), .int x, .retAddr 0] [] (mw p th pr sl ex ta nx (1) lf mo cv cg cT cp r) (.inl none, 0, mw p (2) pr sl ex ta nx (1) lf mo cv cg cT cp r) := by
  apply xk_Ev.of
  refine xk_Po.go 5 rfl ?_
  refine xk_Po.ci1 rfl rfl (r_isDisk1 hj) ?_
  refine xk_Po.go 3 rfl ?_
  refine xk_Po.br rfl rfl (fun _ => ?_) (fun hZ => absurd (h) hZ) -- 11 .if_icmp .lt 15
  refine xk_Po.go 6 rfl ?_
  exact xk_Po.ret rfl (rfl)
theorem r_add_hi {j : Nat} (hj : j < 4) {x : Int32} (h0 : ¬ x < Int32.ofInt 2) (h : ¬ x ≤ Int32.ofInt 8) : xk_Ev (xp_P sc) 133 0 [.ref 10, .int (Int32.ofNat j), .int x, .retAddr 0] [] (mw p th pr sl ex ta nx (1) lf mo cv cg cT cp r) (.inl none, 0, mw p (2) pr sl ex ta nx (1) lf mo cv cg cT cp r) := by
  apply xk_Ev.of
  refine xk_Po.go 5 rfl ?_
  refine xk_Po.ci1 rfl rfl (r_isDisk1 hj) ?_
  refine xk_Po.go 3 rfl ?_
  refine xk_Po.br rfl rfl (fun hZ => absurd hZ (h0)) (fun _ => ?_) -- 11 .if_icmp .lt 15
  refine xk_Po.go 2 rfl ?_
  refine xk_Po.br rfl rfl (fun hZ => absurd hZ (h)) (fun _ => ?_) -- 14 .if_icmp .le 17
  refine xk_Po.go 6 rfl ?_
  exact xk_Po.ret rfl (rfl)
theorem r_add_li {j : Nat} (hj : j < 4) {x : Int32} (hx : ¬ x < Int32.ofInt 2) (hy : x ≤ Int32.ofInt 8) (h : 0 < ta (1 + j)) : xk_Ev (xp_P sc) 133 0 [.ref 10, .int (Int32.ofNat j), .int x, .retAddr 0] [] (mw p th pr sl ex ta nx (1) lf mo cv cg cT cp r) (.inl none, 0, mw p (3) pr sl ex ta nx (1) lf mo cv cg cT cp r) := by
  apply xk_Ev.of
  refine xk_Po.go 5 rfl ?_
  refine xk_Po.ci1 rfl rfl (r_isDisk1 hj) ?_
  refine xk_Po.go 3 rfl ?_
  refine xk_Po.br rfl rfl (fun hZ => absurd hZ (hx)) (fun _ => ?_) -- 11 .if_icmp .lt 15
  refine xk_Po.go 2 rfl ?_
  refine xk_Po.br rfl rfl (fun _ => ?_) (fun hZ => absurd (hy) hZ) -- 14 .if_icmp .le 17
  refine xk_Po.go 5 rfl ?_
  refine xk_Po.ok rfl rfl (xn_ixa (a := 1) (j := j) (by omega) (by omega)) ?_ -- 22 .iaload
  rw [show (Int32.ofInt 1 + Int32.ofNat j).toNatClampNeg = 1 + j from xn_nata (a := 1) (j := j) (by omega)]
  refine xk_Po.br rfl rfl (fun _ => ?_) (fun hZ => absurd (h) hZ) -- 23 .ifCond .gt 32
  refine xk_Po.go 6 rfl ?_
  exact xk_Po.ret rfl (rfl)
theorem r_add_pr {j : Nat} (hj : j < 4) {x : Int32} (hx : ¬ x < Int32.ofInt 2) (hy : x ≤ Int32.ofInt 8) (hl : ¬ 0 < ta (1 + j)) (h : pr j = 0) : xk_Ev (xp_P sc) 133 0 [.ref 10, .int (Int32.ofNat j), .int x, .retAddr 0] [] (mw p th pr sl ex ta nx (1) lf mo cv cg cT cp r) (.inl none, 0, mw p (3) pr sl ex ta nx (1) lf mo cv cg cT cp r) := by
  apply xk_Ev.of
  refine xk_Po.go 5 rfl ?_
  refine xk_Po.ci1 rfl rfl (r_isDisk1 hj) ?_
  refine xk_Po.go 3 rfl ?_
  refine xk_Po.br rfl rfl (fun hZ => absurd hZ (hx)) (fun _ => ?_) -- 11 .if_icmp .lt 15
  refine xk_Po.go 2 rfl ?_
  refine xk_Po.br rfl rfl (fun _ => ?_) (fun hZ => absurd (hy) hZ) -- 14 .if_icmp .le 17
  refine xk_Po.go 5 rfl ?_
  refine xk_Po.ok rfl rfl (xn_ixa (a := 1) (j := j) (by omega) (by omega)) ?_ -- 22 .iaload
  rw [show (Int32.ofInt 1 + Int32.ofNat j).toNatClampNeg = 1 + j from xn_nata (a := 1) (j := j) (by omega)]
  refine xk_Po.br rfl rfl (fun hZ => absurd hZ (hl)) (fun _ => ?_) -- 23 .ifCond .gt 32
  refine xk_Po.go 3 rfl ?_
  refine xk_Po.ok rfl rfl (xn_ix (j := j) (by omega) (by omega)) ?_ -- 27 .baload
  rw [xn_nat (j := j) (by omega)]
  refine xk_Po.br rfl rfl (fun _ => ?_) (fun hZ => absurd (h) hZ) -- 28 .ifCond .eq 32
  refine xk_Po.go 6 rfl ?_
  exact xk_Po.ret rfl (rfl)
theorem r_add_ab {j : Nat} (hj : j < 4) {x : Int32} (hx : ¬ x < Int32.ofInt 2) (hy : x ≤ Int32.ofInt 8) (hl : ¬ 0 < ta (1 + j)) (hp : ¬ pr j = 0) (h : ¬ p_abs ta pr 4 = 0) : xk_Ev (xp_P sc) 133 0 [.ref 10, .int (Int32.ofNat j), .int x, .retAddr 0] [] (mw p th pr sl ex ta nx (1) lf mo cv cg cT cp r) (.inl none, 0, mw p (3) pr sl ex ta nx (1) lf mo cv cg cT cp r) := by
  apply xk_Ev.of
  refine xk_Po.go 5 rfl ?_
  refine xk_Po.ci1 rfl rfl (r_isDisk1 hj) ?_
  refine xk_Po.go 3 rfl ?_
  refine xk_Po.br rfl rfl (fun hZ => absurd hZ (hx)) (fun _ => ?_) -- 11 .if_icmp .lt 15
  refine xk_Po.go 2 rfl ?_
  refine xk_Po.br rfl rfl (fun _ => ?_) (fun hZ => absurd (hy) hZ) -- 14 .if_icmp .le 17
  refine xk_Po.go 5 rfl ?_
  refine xk_Po.ok rfl rfl (xn_ixa (a := 1) (j := j) (by omega) (by omega)) ?_ -- 22 .iaload
  rw [show (Int32.ofInt 1 + Int32.ofNat j).toNatClampNeg = 1 + j from xn_nata (a := 1) (j := j) (by omega)]
  refine xk_Po.br rfl rfl (fun hZ => absurd hZ (hl)) (fun _ => ?_) -- 23 .ifCond .gt 32
  refine xk_Po.go 3 rfl ?_
  refine xk_Po.ok rfl rfl (xn_ix (j := j) (by omega) (by omega)) ?_ -- 27 .baload
  rw [xn_nat (j := j) (by omega)]
  refine xk_Po.br rfl rfl (fun hZ => absurd hZ (hp)) (fun _ => ?_) -- 28 .ifCond .eq 32
  refine xk_Po.go 1 rfl ?_
  refine xk_Po.ci1 rfl rfl (r_isOneAbsent) ?_
  refine xk_Po.br rfl rfl (fun hZ => absurd hZ (h)) (fun _ => ?_) -- 31 .ifCond .eq 34
  refine xk_Po.go 6 rfl ?_
  exact xk_Po.ret rfl (rfl)
theorem r_add1 {j : Nat} (hj : j < 4) {x : Int32} (hx : ¬ x < Int32.ofInt 2) (hy : x ≤ Int32.ofInt 8) (hl : ¬ 0 < ta (1 + j)) (hp : ¬ pr j = 0) (hq : p_abs ta pr 4 = 0) {g : Nat → Nat} (T : s_Tv (upd ta (1 + j) x) g) {B : Nat} {ab : Nat → Int32} {f : Nat → Nat} {n dN mN xN cN : Nat} (O : s_On B sl ab ta f n dN mN xN cN) (hB : B + 2 < 2147483648) (hpr : pr = n_pr ab) (hnx : ∀ i, 51 ≤ i → nx i = 0) {a b : Nat} (ha : a < 4) (hb2 : b < 10) (hcv : cv = Int32.ofNat a) (hcg : cg = Int32.ofNat b) (hall : n_all f ab) (ho : (m_com (s_seal (upd ta (1 + j) x) (Int32.ofNat (n + 1))) ab (sl, s_clr ex (fun _ => True) (j * 32) 32, lf)).1 = true) : xk_Ev (xp_P sc) 133 0 [.ref 10, .int (Int32.ofNat j), .int x, .retAddr 0] [] (mw p th pr sl ex ta nx (1) lf mo cv cg cT cp r) (.inl none, 0, mw p (0) pr ((m_com (s_seal (upd ta (1 + j) x) (Int32.ofNat (n + 1))) ab (sl, s_clr ex (fun _ => True) (j * 32) 32, lf)).2.1) ((m_com (s_seal (upd ta (1 + j) x) (Int32.ofNat (n + 1))) ab (sl, s_clr ex (fun _ => True) (j * 32) 32, lf)).2.2.1) (s_seal (upd ta (1 + j) x) (Int32.ofNat (n + 1))) (s_seal (upd ta (1 + j) x) (Int32.ofNat (n + 1))) (1) ((m_com (s_seal (upd ta (1 + j) x) (Int32.ofNat (n + 1))) ab (sl, s_clr ex (fun _ => True) (j * 32) 32, lf)).2.2.2) mo cv cg (p_cT (s_seal (upd ta (1 + j) x) (Int32.ofNat (n + 1))) ta cT (9 + (a * 10 + b))) cp r) := by
  apply xk_Ev.of
  refine xk_Po.go 5 rfl ?_
  refine xk_Po.ci1 rfl rfl (r_isDisk1 hj) ?_
  refine xk_Po.go 3 rfl ?_
  refine xk_Po.br rfl rfl (fun hZ => absurd hZ (hx)) (fun _ => ?_) -- 11 .if_icmp .lt 15
  refine xk_Po.go 2 rfl ?_
  refine xk_Po.br rfl rfl (fun _ => ?_) (fun hZ => absurd (hy) hZ) -- 14 .if_icmp .le 17
  refine xk_Po.go 5 rfl ?_
  refine xk_Po.ok rfl rfl (xn_ixa (a := 1) (j := j) (by omega) (by omega)) ?_ -- 22 .iaload
  rw [show (Int32.ofInt 1 + Int32.ofNat j).toNatClampNeg = 1 + j from xn_nata (a := 1) (j := j) (by omega)]
  refine xk_Po.br rfl rfl (fun hZ => absurd hZ (hl)) (fun _ => ?_) -- 23 .ifCond .gt 32
  refine xk_Po.go 3 rfl ?_
  refine xk_Po.ok rfl rfl (xn_ix (j := j) (by omega) (by omega)) ?_ -- 27 .baload
  rw [xn_nat (j := j) (by omega)]
  refine xk_Po.br rfl rfl (fun hZ => absurd hZ (hp)) (fun _ => ?_) -- 28 .ifCond .eq 32
  refine xk_Po.go 1 rfl ?_
  refine xk_Po.ci1 rfl rfl (r_isOneAbsent) ?_
  refine xk_Po.br rfl rfl (fun _ => ?_) (fun hZ => absurd (hq) hZ) -- 31 .ifCond .eq 34
  refine xk_Po.go 7 rfl ?_
  refine xk_Po.loop 32 (fun j0 => [.ref 10, .int (Int32.ofNat j), .int x, .int (Int32.ofNat j0)]) (fun j0 => mw p (0) pr sl (s_clr ex (fun _ => True) (j * 32) j0) ta nx (1) lf mo cv cg cT cp r) (fun _ _ => fun z => z = (.inl none, 0, mw p (0) pr ((m_com (s_seal (upd ta (1 + j) x) (Int32.ofNat (n + 1))) ab (sl, s_clr ex (fun _ => True) (j * 32) 32, lf)).2.1) ((m_com (s_seal (upd ta (1 + j) x) (Int32.ofNat (n + 1))) ab (sl, s_clr ex (fun _ => True) (j * 32) 32, lf)).2.2.1) (s_seal (upd ta (1 + j) x) (Int32.ofNat (n + 1))) (s_seal (upd ta (1 + j) x) (Int32.ofNat (n + 1))) (1) ((m_com (s_seal (upd ta (1 + j) x) (Int32.ofNat (n + 1))) ab (sl, s_clr ex (fun _ => True) (j * 32) 32, lf)).2.2.2) mo cv cg (p_cT (s_seal (upd ta (1 + j) x) (Int32.ofNat (n + 1))) ta cT (9 + (a * 10 + b))) cp r)) (fun m0 j0 hj0 ih0 => ?_) ?_
  · refine xk_Po.go 2 rfl ?_
    refine xk_Po.br rfl rfl (fun hZ => absurd hZ (fun q => absurd ((xn_le (a := 32) (b := j0) (by omega) (by omega)).1 q) (by omega))) (fun _ => ?_) -- 44 .if_icmp .ge 56
    refine xk_Po.go 8 rfl ?_
    rw [show Int32.ofInt 32 * Int32.ofNat j + Int32.ofNat j0 = Int32.ofNat (j * 32 + j0) from (by show Int32.ofNat 32 * Int32.ofNat j + _ = _; rw [xn_mul, xn_add, Nat.mul_comm])]
    refine xk_Po.ok rfl rfl (xn_ix (j := j * 32 + j0) (by omega) (by omega)) ?_ -- 53 .iastore
    rw [xn_nat (j := j * 32 + j0) (by omega)]
    refine xk_Po.go 2 rfl ?_
    rw [← xn_suc j0] at ih0
    exact ih0
  · refine xk_Po.go 4 rfl ?_
    refine xk_Po.cv1 rfl rfl (r_begin O.2.2.1.z hnx) ?_
    refine xk_Po.go 6 rfl ?_
    refine xk_Po.ok rfl rfl (xn_ixa (a := 1) (j := j) (by omega) (by omega)) ?_ -- 64 .iastore
    rw [show (Int32.ofInt 1 + Int32.ofNat j).toNatClampNeg = 1 + j from xn_nata (a := 1) (j := j) (by omega)]
    refine xk_Po.go 1 rfl ?_
    refine xk_Po.cv1 rfl rfl (r_chg1 O (T) hB hpr (.inl ⟨rfl, hall⟩) ha hb2 hcv hcg ho) ?_
    refine xk_Po.go 3 rfl ?_
    refine xk_Po.ci2 rfl rfl (r_ended1) ?_
    refine xk_Po.go 7 rfl ?_
    exact xk_Po.ret rfl (rfl)
theorem r_add0 {j : Nat} (hj : j < 4) {x : Int32} (hx : ¬ x < Int32.ofInt 2) (hy : x ≤ Int32.ofInt 8) (hl : ¬ 0 < ta (1 + j)) (hp : ¬ pr j = 0) (hq : p_abs ta pr 4 = 0) {g : Nat → Nat} (T : s_Tv (upd ta (1 + j) x) g) {B : Nat} {ab : Nat → Int32} {f : Nat → Nat} {n dN mN xN cN : Nat} (O : s_On B sl ab ta f n dN mN xN cN) (hB : B + 2 < 2147483648) (hpr : pr = n_pr ab) (hnx : ∀ i, 51 ≤ i → nx i = 0) {a b : Nat} (ha : a < 4) (hb2 : b < 10) (hcv : cv = Int32.ofNat a) (hcg : cg = Int32.ofNat b) (hall : n_all f ab) (ho : ¬ (m_com (s_seal (upd ta (1 + j) x) (Int32.ofNat (n + 1))) ab (sl, s_clr ex (fun _ => True) (j * 32) 32, lf)).1 = true) : xk_Ev (xp_P sc) 133 0 [.ref 10, .int (Int32.ofNat j), .int x, .retAddr 0] [] (mw p th pr sl ex ta nx (1) lf mo cv cg cT cp r) (.inl none, 0, mw p (1) pr ((m_com (s_seal (upd ta (1 + j) x) (Int32.ofNat (n + 1))) ab (sl, s_clr ex (fun _ => True) (j * 32) 32, lf)).2.1) ((m_com (s_seal (upd ta (1 + j) x) (Int32.ofNat (n + 1))) ab (sl, s_clr ex (fun _ => True) (j * 32) 32, lf)).2.2.1) ta (s_seal (upd ta (1 + j) x) (Int32.ofNat (n + 1))) (0) (-1) (-1) cv cg cT cp r) := by
  apply xk_Ev.of
  refine xk_Po.go 5 rfl ?_
  refine xk_Po.ci1 rfl rfl (r_isDisk1 hj) ?_
  refine xk_Po.go 3 rfl ?_
  refine xk_Po.br rfl rfl (fun hZ => absurd hZ (hx)) (fun _ => ?_) -- 11 .if_icmp .lt 15
  refine xk_Po.go 2 rfl ?_
  refine xk_Po.br rfl rfl (fun _ => ?_) (fun hZ => absurd (hy) hZ) -- 14 .if_icmp .le 17
  refine xk_Po.go 5 rfl ?_
  refine xk_Po.ok rfl rfl (xn_ixa (a := 1) (j := j) (by omega) (by omega)) ?_ -- 22 .iaload
  rw [show (Int32.ofInt 1 + Int32.ofNat j).toNatClampNeg = 1 + j from xn_nata (a := 1) (j := j) (by omega)]
  refine xk_Po.br rfl rfl (fun hZ => absurd hZ (hl)) (fun _ => ?_) -- 23 .ifCond .gt 32
  refine xk_Po.go 3 rfl ?_
  refine xk_Po.ok rfl rfl (xn_ix (j := j) (by omega) (by omega)) ?_ -- 27 .baload
  rw [xn_nat (j := j) (by omega)]
  refine xk_Po.br rfl rfl (fun hZ => absurd hZ (hp)) (fun _ => ?_) -- 28 .ifCond .eq 32
  refine xk_Po.go 1 rfl ?_
  refine xk_Po.ci1 rfl rfl (r_isOneAbsent) ?_
  refine xk_Po.br rfl rfl (fun _ => ?_) (fun hZ => absurd (hq) hZ) -- 31 .ifCond .eq 34
  refine xk_Po.go 7 rfl ?_
  refine xk_Po.loop 32 (fun j0 => [.ref 10, .int (Int32.ofNat j), .int x, .int (Int32.ofNat j0)]) (fun j0 => mw p (0) pr sl (s_clr ex (fun _ => True) (j * 32) j0) ta nx (1) lf mo cv cg cT cp r) (fun _ _ => fun z => z = (.inl none, 0, mw p (1) pr ((m_com (s_seal (upd ta (1 + j) x) (Int32.ofNat (n + 1))) ab (sl, s_clr ex (fun _ => True) (j * 32) 32, lf)).2.1) ((m_com (s_seal (upd ta (1 + j) x) (Int32.ofNat (n + 1))) ab (sl, s_clr ex (fun _ => True) (j * 32) 32, lf)).2.2.1) ta (s_seal (upd ta (1 + j) x) (Int32.ofNat (n + 1))) (0) (-1) (-1) cv cg cT cp r)) (fun m0 j0 hj0 ih0 => ?_) ?_
  · refine xk_Po.go 2 rfl ?_
    refine xk_Po.br rfl rfl (fun hZ => absurd hZ (fun q => absurd ((xn_le (a := 32) (b := j0) (by omega) (by omega)).1 q) (by omega))) (fun _ => ?_) -- 44 .if_icmp .ge 56
    refine xk_Po.go 8 rfl ?_
    rw [show Int32.ofInt 32 * Int32.ofNat j + Int32.ofNat j0 = Int32.ofNat (j * 32 + j0) from (by show Int32.ofNat 32 * Int32.ofNat j + _ = _; rw [xn_mul, xn_add, Nat.mul_comm])]
    refine xk_Po.ok rfl rfl (xn_ix (j := j * 32 + j0) (by omega) (by omega)) ?_ -- 53 .iastore
    rw [xn_nat (j := j * 32 + j0) (by omega)]
    refine xk_Po.go 2 rfl ?_
    rw [← xn_suc j0] at ih0
    exact ih0
  · refine xk_Po.go 4 rfl ?_
    refine xk_Po.cv1 rfl rfl (r_begin O.2.2.1.z hnx) ?_
    refine xk_Po.go 6 rfl ?_
    refine xk_Po.ok rfl rfl (xn_ixa (a := 1) (j := j) (by omega) (by omega)) ?_ -- 64 .iastore
    rw [show (Int32.ofInt 1 + Int32.ofNat j).toNatClampNeg = 1 + j from xn_nata (a := 1) (j := j) (by omega)]
    refine xk_Po.go 1 rfl ?_
    refine xk_Po.cv1 rfl rfl (r_chg0 O (T) hB hpr (.inl ⟨rfl, hall⟩) ha hb2 hcv hcg ho) ?_
    refine xk_Po.go 3 rfl ?_
    refine xk_Po.ci2 rfl rfl (r_ended0) ?_
    refine xk_Po.go 6 rfl ?_
    exact xk_Po.ret rfl (rfl)
def p_lst (t : Nat → Int32) : Nat → Int32
  | 0 => 0
  | n + 1 => if t (1 + n) ≤ 0 then p_lst t n else p_lst t n + 1
theorem r_listed  : xk_Ev (xp_P sc) 132 0 [.ref 10, .retAddr 0, .retAddr 0] [] (mw p th pr sl ex ta nx on lf mo cv cg cT cp r) (.inl (some (.int (p_lst ta 4))), 0, mw p th pr sl ex ta nx on lf mo cv cg cT cp r) := by
  apply xk_Ev.of
  refine xk_Po.go 4 rfl ?_
  refine xk_Po.loop 4 (fun j0 => [.ref 10, .int (p_lst ta j0), .int (Int32.ofNat j0)]) (fun j0 => mw p th pr sl ex ta nx on lf mo cv cg cT cp r) (fun m0 j0 => _) (fun m0 j0 hj0 ih0 => ?_) ?_
  · have uj0 : j0 < 4 := by omega
    refine xk_Po.go 2 rfl ?_
    refine xk_Po.br rfl rfl (fun hx => absurd ((xn_le (a := 4) (b := j0) (by omega) (by omega)).1 hx) (by omega)) (fun _ => ?_)
    refine xk_Po.go 5 rfl ?_
    refine xk_Po.ok rfl rfl (xn_ixa (a := 1) (j := j0) (by omega) (by omega)) ?_ -- .iaload
    rw [show (Int32.ofInt 1 + Int32.ofNat j0).toNatClampNeg = 1 + j0 from xn_nata (a := 1) (j := j0) (by omega)]
    refine xk_Po.br rfl rfl (fun h0 => ?_) (fun h0 => ?_) -- 13 .ifCond .le 18
    · refine xk_Po.go 4 rfl ?_
      rw [show p_lst ta (j0 + 1) = _ from if_pos h0, ← xn_suc j0] at ih0
      exact ih0
    · refine xk_Po.go 7 rfl ?_
      rw [show p_lst ta (j0 + 1) = _ from if_neg h0, ← xn_suc j0] at ih0
      exact ih0
  · refine xk_Po.go 4 rfl ?_
    exact xk_Po.iret rfl rfl
end XkMca
