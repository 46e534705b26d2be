section XkMcd
variable {sc : Nat × (Nat → Int32)} {p : xk_Ten} {pr sl ex ta nx : Nat → Int32} {th on lf mo cv cg cT cp : Int32} {r w : xk_W}
def n_D (D k : Nat) : Nat := D % 32 + 32 * k
theorem s_dv_D1 : ∀ D, D ∈ s_dv → D ≠ 0 → ∀ k, k < 6 → Int32.ofNat D - Int32.ofInt 32 * (Int32.ofNat D / Int32.ofInt 32 - Int32.ofNat k) = Int32.ofNat (n_D D k) ∧ 1 + (Int32.ofNat D % 4 - 1) + 4 * s_col (Int32.ofNat D) + 32 * Int32.ofNat k = Int32.ofNat (n_D D k) := by decide
theorem s_dv_D2 : ∀ D, D ∈ s_dv → D ≠ 0 → ∀ k, k < 6 → n_D D k / 32 = k ∧ n_D D k % 4 = D % 4 ∧ n_D D k / 4 % 8 = D / 4 % 8 := by decide
theorem s_dv_D3 : ∀ D, D ∈ s_dv → D ≠ 0 → ∀ k, k < 6 → 1 ≤ k → k % (D / 4 % 8) = 0 → n_D D k ∈ s_dv := by decide
theorem r_shrink1 {v : Nat} (hv : v < 4) {k : Nat} (hk : k < 6) (hu : ¬ ta (5 + v) = 0) (h0 : ¬ ta (5 + v) / 32 ≤ Int32.ofNat k) (hc : ¬ (ta (5 + v) / 4 % 8) = 0) (hf : ¬ (if Int32.ofNat k < Int32.ofInt 1 then (0 : Int32) else if Int32.ofInt 5 < Int32.ofNat k then 0 else if Int32.ofNat k % (ta (5 + v) / 4 % 8) = 0 then 1 else 0) = 0) (hq : p_abs ta pr 4 = 0) {B : Nat} {ab : Nat → Int32} {f : Nat → Nat} {n dN mN xN cN : Nat} (O : s_On B sl ab ta f n dN mN xN cN) (hB : B + 2 < 2147483648) (hpr : pr = n_pr ab) (hnx : ∀ i, 51 ≤ i → nx i = 0) {a b : Nat} (ha : a < 4) (hb2 : b < 10) (hcv : cv = Int32.ofNat a) (hcg : cg = Int32.ofNat b) {g : Nat → Nat} (T : s_Tv (s_clr (upd ta (5 + v) (Int32.ofNat (n_D (f (5 + v)) k))) (fun _ => True) (9 + (v * 10 + k * 2 + 0)) (10 - k * 2)) g) (hall : n_all f ab) (ho : (m_com (s_seal (s_clr (upd ta (5 + v) (Int32.ofNat (n_D (f (5 + v)) k))) (fun _ => True) (9 + (v * 10 + k * 2 + 0)) (10 - k * 2)) (Int32.ofNat (n + 1))) ab (sl, ex, lf)).1 = true) : xk_Ev (xp_P sc) 139 0 [.ref 10, .int (Int32.ofNat v), .int (Int32.ofNat k), .retAddr 0, .retAddr 0] [] (mw p th pr sl ex ta nx (1) lf mo cv cg cT cp r) (.inl (some (.int (ta (5 + v) / 32 - Int32.ofNat k))), 0, mw p (0) pr ((m_com (s_seal (s_clr (upd ta (5 + v) (Int32.ofNat (n_D (f (5 + v)) k))) (fun _ => True) (9 + (v * 10 + k * 2 + 0)) (10 - k * 2)) (Int32.ofNat (n + 1))) ab (sl, ex, lf)).2.1) ((m_com (s_seal (s_clr (upd ta (5 + v) (Int32.ofNat (n_D (f (5 + v)) k))) (fun _ => True) (9 + (v * 10 + k * 2 + 0)) (10 - k * 2)) (Int32.ofNat (n + 1))) ab (sl, ex, lf)).2.2.1) (s_seal (s_clr (upd ta (5 + v) (Int32.ofNat (n_D (f (5 + v)) k))) (fun _ => True) (9 + (v * 10 + k * 2 + 0)) (10 - k * 2)) (Int32.ofNat (n + 1))) (s_seal (s_clr (upd ta (5 + v) (Int32.ofNat (n_D (f (5 + v)) k))) (fun _ => True) (9 + (v * 10 + k * 2 + 0)) (10 - k * 2)) (Int32.ofNat (n + 1))) (1) ((m_com (s_seal (s_clr (upd ta (5 + v) (Int32.ofNat (n_D (f (5 + v)) k))) (fun _ => True) (9 + (v * 10 + k * 2 + 0)) (10 - k * 2)) (Int32.ofNat (n + 1))) ab (sl, ex, lf)).2.2.2) mo cv cg (p_cT (s_seal (s_clr (upd ta (5 + v) (Int32.ofNat (n_D (f (5 + v)) k))) (fun _ => True) (9 + (v * 10 + k * 2 + 0)) (10 - k * 2)) (Int32.ofNat (n + 1))) ta cT (9 + (a * 10 + b))) cp r) := by
  apply xk_Ev.of
  have T0 := O.2.2.1
  have h5 : f (5 + v) ≠ 0 := fun q => hu (by rw [T0.w (5 + v) (by omega) (by omega), q]; rfl)
  have eD := (s_dv_D1 _ (T0.v v hv) h5 k hk).1
  rw [← T0.w (5 + v) (by omega) (by omega)] at eD
  refine xk_Po.go 6 rfl ?_
  refine xk_Po.ci2 rfl rfl (r_isVolume hv hu) ?_
  refine xk_Po.go 9 rfl ?_
  refine xk_Po.ci2 rfl rfl (t_elementsOf hv) ?_
  refine xk_Po.go 4 rfl ?_
  refine xk_Po.br rfl rfl (fun hZ => absurd hZ (h0)) (fun _ => ?_) -- 27 .if_icmp .ge 35
  refine xk_Po.go 3 rfl ?_
  refine xk_Po.ci2 rfl rfl (t_columnsOf hv) ?_
  refine xk_Po.go 1 rfl ?_
  refine xk_Po.ci2 rfl rfl (r_fits hc) ?_
  refine xk_Po.br rfl rfl (fun hZ => absurd hZ (hf)) (fun _ => ?_) -- 34 .ifCond .ne 37
  refine xk_Po.go 1 rfl ?_
  refine xk_Po.ci1 rfl rfl (r_isOneAbsent) ?_
  refine xk_Po.br rfl rfl (fun _ => ?_) (fun hZ => absurd (hq) hZ) -- 39 .ifCond .eq 42
  refine xk_Po.go 6 rfl ?_
  refine xk_Po.cv1 rfl rfl (r_begin O.2.2.1.z hnx) ?_
  refine xk_Po.go 10 rfl ?_
  refine xk_Po.ok rfl rfl (xn_ixa (a := 5) (j := v) (by omega) (by omega)) ?_ -- 61 .iaload
  rw [show (Int32.ofInt 5 + Int32.ofNat v).toNatClampNeg = 5 + v from xn_nata (a := 5) (j := v) (by omega)]
  refine xk_Po.go 6 rfl ?_
  refine xk_Po.ok rfl rfl (xn_ixa (a := 5) (j := v) (by omega) (by omega)) ?_ -- 68 .iastore
  rw [show (Int32.ofInt 5 + Int32.ofNat v).toNatClampNeg = 5 + v from xn_nata (a := 5) (j := v) (by omega), show ta (5 + v) - Int32.ofInt 32 * (ta (5 + v) / 32 - Int32.ofNat k) = Int32.ofNat (n_D (f (5 + v)) k) from eD]
  refine xk_Po.go 4 rfl ?_
  rw [show Int32.ofInt 2 * Int32.ofNat k = Int32.ofNat (k * 2 + 0) from (xn_mul 2 k).trans (congrArg Int32.ofNat (by omega))]
  refine xk_Po.loop (10 - k * 2) (fun j0 => [.ref 10, .int (Int32.ofNat v), .int (Int32.ofNat k), .int (ta (5 + v) / 32), .int (Int32.ofNat (k * 2 + j0))]) (fun j0 => mw p (0) pr sl ex ta (s_clr (upd ta (5 + v) (Int32.ofNat (n_D (f (5 + v)) k))) (fun _ => True) (9 + (v * 10 + k * 2 + 0)) j0) (1) lf mo cv cg cT cp r) (fun _ _ => fun z => z = (.inl (some (.int (ta (5 + v) / 32 - Int32.ofNat k))), 0, mw p (0) pr ((m_com (s_seal (s_clr (upd ta (5 + v) (Int32.ofNat (n_D (f (5 + v)) k))) (fun _ => True) (9 + (v * 10 + k * 2 + 0)) (10 - k * 2)) (Int32.ofNat (n + 1))) ab (sl, ex, lf)).2.1) ((m_com (s_seal (s_clr (upd ta (5 + v) (Int32.ofNat (n_D (f (5 + v)) k))) (fun _ => True) (9 + (v * 10 + k * 2 + 0)) (10 - k * 2)) (Int32.ofNat (n + 1))) ab (sl, ex, lf)).2.2.1) (s_seal (s_clr (upd ta (5 + v) (Int32.ofNat (n_D (f (5 + v)) k))) (fun _ => True) (9 + (v * 10 + k * 2 + 0)) (10 - k * 2)) (Int32.ofNat (n + 1))) (s_seal (s_clr (upd ta (5 + v) (Int32.ofNat (n_D (f (5 + v)) k))) (fun _ => True) (9 + (v * 10 + k * 2 + 0)) (10 - k * 2)) (Int32.ofNat (n + 1))) (1) ((m_com (s_seal (s_clr (upd ta (5 + v) (Int32.ofNat (n_D (f (5 + v)) k))) (fun _ => True) (9 + (v * 10 + k * 2 + 0)) (10 - k * 2)) (Int32.ofNat (n + 1))) ab (sl, ex, lf)).2.2.2) mo cv cg (p_cT (s_seal (s_clr (upd ta (5 + v) (Int32.ofNat (n_D (f (5 + v)) k))) (fun _ => True) (9 + (v * 10 + k * 2 + 0)) (10 - k * 2)) (Int32.ofNat (n + 1))) ta cT (9 + (a * 10 + b))) cp r)) (fun m0 j0 hj0 ih0 => ?_) ?_
  · refine xk_Po.go 2 rfl ?_
    refine xk_Po.br rfl rfl (fun hZ => absurd hZ (fun q => absurd ((xn_le (a := 10) (b := k * 2 + j0) (by omega) (by omega)).1 q) (by omega))) (fun _ => ?_) -- 75 .if_icmp .ge 89
    refine xk_Po.go 10 rfl ?_
    rw [show Int32.ofInt 9 + Int32.ofInt 10 * Int32.ofNat v + Int32.ofNat (k * 2 + j0) = Int32.ofNat (9 + (v * 10 + k * 2 + 0) + j0) from (s_was v (k * 2 + j0)).trans (congrArg Int32.ofNat (by omega))]
    refine xk_Po.ok rfl rfl (xn_ix (j := 9 + (v * 10 + k * 2 + 0) + j0) (by omega) (by omega)) ?_ -- 86 .iastore
    rw [xn_nat (j := 9 + (v * 10 + k * 2 + 0) + j0) (by omega)]
    refine xk_Po.go 2 rfl ?_
    rw [← Nat.add_assoc (k * 2) j0 1, ← xn_suc (k * 2 + j0)] at ih0
    exact ih0
  · refine xk_Po.go 2 rfl ?_
    refine xk_Po.br rfl rfl (fun _ => ?_) (fun hZ => absurd ((xn_le (a := 10) (by omega) (by omega)).2 (by omega)) hZ) -- 75 .if_icmp .ge 89
    refine xk_Po.go 1 rfl ?_
    refine xk_Po.cv1 rfl rfl (r_chg1 O (T) hB hpr (.inl ⟨rfl, hall⟩) ha hb2 hcv hcg ho) ?_
    refine xk_Po.go 4 rfl ?_
    refine xk_Po.ci2 rfl rfl (r_ended1) ?_
    exact xk_Po.iret rfl (rfl)
theorem r_shrink0 {v : Nat} (hv : v < 4) {k : Nat} (hk : k < 6) (hu : ¬ ta (5 + v) = 0) (h0 : ¬ ta (5 + v) / 32 ≤ Int32.ofNat k) (hc : ¬ (ta (5 + v) / 4 % 8) = 0) (hf : ¬ (if Int32.ofNat k < Int32.ofInt 1 then (0 : Int32) else if Int32.ofInt 5 < Int32.ofNat k then 0 else if Int32.ofNat k % (ta (5 + v) / 4 % 8) = 0 then 1 else 0) = 0) (hq : p_abs ta pr 4 = 0) {B : Nat} {ab : Nat → Int32} {f : Nat → Nat} {n dN mN xN cN : Nat} (O : s_On B sl ab ta f n dN mN xN cN) (hB : B + 2 < 2147483648) (hpr : pr = n_pr ab) (hnx : ∀ i, 51 ≤ i → nx i = 0) {a b : Nat} (ha : a < 4) (hb2 : b < 10) (hcv : cv = Int32.ofNat a) (hcg : cg = Int32.ofNat b) {g : Nat → Nat} (T : s_Tv (s_clr (upd ta (5 + v) (Int32.ofNat (n_D (f (5 + v)) k))) (fun _ => True) (9 + (v * 10 + k * 2 + 0)) (10 - k * 2)) g) (hall : n_all f ab) (ho : ¬ (m_com (s_seal (s_clr (upd ta (5 + v) (Int32.ofNat (n_D (f (5 + v)) k))) (fun _ => True) (9 + (v * 10 + k * 2 + 0)) (10 - k * 2)) (Int32.ofNat (n + 1))) ab (sl, ex, lf)).1 = true) : xk_Ev (xp_P sc) 139 0 [.ref 10, .int (Int32.ofNat v), .int (Int32.ofNat k), .retAddr 0, .retAddr 0] [] (mw p th pr sl ex ta nx (1) lf mo cv cg cT cp r) (.inl (some (.int (0))), 0, mw p (1) pr ((m_com (s_seal (s_clr (upd ta (5 + v) (Int32.ofNat (n_D (f (5 + v)) k))) (fun _ => True) (9 + (v * 10 + k * 2 + 0)) (10 - k * 2)) (Int32.ofNat (n + 1))) ab (sl, ex, lf)).2.1) ((m_com (s_seal (s_clr (upd ta (5 + v) (Int32.ofNat (n_D (f (5 + v)) k))) (fun _ => True) (9 + (v * 10 + k * 2 + 0)) (10 - k * 2)) (Int32.ofNat (n + 1))) ab (sl, ex, lf)).2.2.1) ta (s_seal (s_clr (upd ta (5 + v) (Int32.ofNat (n_D (f (5 + v)) k))) (fun _ => True) (9 + (v * 10 + k * 2 + 0)) (10 - k * 2)) (Int32.ofNat (n + 1))) (0) (-1) (-1) cv cg cT cp r) := by
  apply xk_Ev.of
  have T0 := O.2.2.1
  have h5 : f (5 + v) ≠ 0 := fun q => hu (by rw [T0.w (5 + v) (by omega) (by omega), q]; rfl)
  have eD := (s_dv_D1 _ (T0.v v hv) h5 k hk).1
  rw [← T0.w (5 + v) (by omega) (by omega)] at eD
  refine xk_Po.go 6 rfl ?_
  refine xk_Po.ci2 rfl rfl (r_isVolume hv hu) ?_
  refine xk_Po.go 9 rfl ?_
  refine xk_Po.ci2 rfl rfl (t_elementsOf hv) ?_
  refine xk_Po.go 4 rfl ?_
  refine xk_Po.br rfl rfl (fun hZ => absurd hZ (h0)) (fun _ => ?_) -- 27 .if_icmp .ge 35
  refine xk_Po.go 3 rfl ?_
  refine xk_Po.ci2 rfl rfl (t_columnsOf hv) ?_
  refine xk_Po.go 1 rfl ?_
  refine xk_Po.ci2 rfl rfl (r_fits hc) ?_
  refine xk_Po.br rfl rfl (fun hZ => absurd hZ (hf)) (fun _ => ?_) -- 34 .ifCond .ne 37
  refine xk_Po.go 1 rfl ?_
  refine xk_Po.ci1 rfl rfl (r_isOneAbsent) ?_
  refine xk_Po.br rfl rfl (fun _ => ?_) (fun hZ => absurd (hq) hZ) -- 39 .ifCond .eq 42
  refine xk_Po.go 6 rfl ?_
  refine xk_Po.cv1 rfl rfl (r_begin O.2.2.1.z hnx) ?_
  refine xk_Po.go 10 rfl ?_
  refine xk_Po.ok rfl rfl (xn_ixa (a := 5) (j := v) (by omega) (by omega)) ?_ -- 61 .iaload
  rw [show (Int32.ofInt 5 + Int32.ofNat v).toNatClampNeg = 5 + v from xn_nata (a := 5) (j := v) (by omega)]
  refine xk_Po.go 6 rfl ?_
  refine xk_Po.ok rfl rfl (xn_ixa (a := 5) (j := v) (by omega) (by omega)) ?_ -- 68 .iastore
  rw [show (Int32.ofInt 5 + Int32.ofNat v).toNatClampNeg = 5 + v from xn_nata (a := 5) (j := v) (by omega), show ta (5 + v) - Int32.ofInt 32 * (ta (5 + v) / 32 - Int32.ofNat k) = Int32.ofNat (n_D (f (5 + v)) k) from eD]
  refine xk_Po.go 4 rfl ?_
  rw [show Int32.ofInt 2 * Int32.ofNat k = Int32.ofNat (k * 2 + 0) from (xn_mul 2 k).trans (congrArg Int32.ofNat (by omega))]
  refine xk_Po.loop (10 - k * 2) (fun j0 => [.ref 10, .int (Int32.ofNat v), .int (Int32.ofNat k), .int (ta (5 + v) / 32), .int (Int32.ofNat (k * 2 + j0))]) (fun j0 => mw p (0) pr sl ex ta (s_clr (upd ta (5 + v) (Int32.ofNat (n_D (f (5 + v)) k))) (fun _ => True) (9 + (v * 10 + k * 2 + 0)) j0) (1) lf mo cv cg cT cp r) (fun _ _ => fun z => z = (.inl (some (.int (0))), 0, mw p (1) pr ((m_com (s_seal (s_clr (upd ta (5 + v) (Int32.ofNat (n_D (f (5 + v)) k))) (fun _ => True) (9 + (v * 10 + k * 2 + 0)) (10 - k * 2)) (Int32.ofNat (n + 1))) ab (sl, ex, lf)).2.1) ((m_com (s_seal (s_clr (upd ta (5 + v) (Int32.ofNat (n_D (f (5 + v)) k))) (fun _ => True) (9 + (v * 10 + k * 2 + 0)) (10 - k * 2)) (Int32.ofNat (n + 1))) ab (sl, ex, lf)).2.2.1) ta (s_seal (s_clr (upd ta (5 + v) (Int32.ofNat (n_D (f (5 + v)) k))) (fun _ => True) (9 + (v * 10 + k * 2 + 0)) (10 - k * 2)) (Int32.ofNat (n + 1))) (0) (-1) (-1) cv cg cT cp r)) (fun m0 j0 hj0 ih0 => ?_) ?_
  · refine xk_Po.go 2 rfl ?_
    refine xk_Po.br rfl rfl (fun hZ => absurd hZ (fun q => absurd ((xn_le (a := 10) (b := k * 2 + j0) (by omega) (by omega)).1 q) (by omega))) (fun _ => ?_) -- 75 .if_icmp .ge 89
    refine xk_Po.go 10 rfl ?_
    rw [show Int32.ofInt 9 + Int32.ofInt 10 * Int32.ofNat v + Int32.ofNat (k * 2 + j0) = Int32.ofNat (9 + (v * 10 + k * 2 + 0) + j0) from (s_was v (k * 2 + j0)).trans (congrArg Int32.ofNat (by omega))]
    refine xk_Po.ok rfl rfl (xn_ix (j := 9 + (v * 10 + k * 2 + 0) + j0) (by omega) (by omega)) ?_ -- 86 .iastore
    rw [xn_nat (j := 9 + (v * 10 + k * 2 + 0) + j0) (by omega)]
    refine xk_Po.go 2 rfl ?_
    rw [← Nat.add_assoc (k * 2) j0 1, ← xn_suc (k * 2 + j0)] at ih0
    exact ih0
  · refine xk_Po.go 2 rfl ?_
    refine xk_Po.br rfl rfl (fun _ => ?_) (fun hZ => absurd ((xn_le (a := 10) (by omega) (by omega)).2 (by omega)) hZ) -- 75 .if_icmp .ge 89
    refine xk_Po.go 1 rfl ?_
    refine xk_Po.cv1 rfl rfl (r_chg0 O (T) hB hpr (.inl ⟨rfl, hall⟩) ha hb2 hcv hcg ho) ?_
    refine xk_Po.go 4 rfl ?_
    refine xk_Po.ci2 rfl rfl (r_ended0) ?_
    exact xk_Po.iret rfl (rfl)
theorem r_find {t0 : Nat → Int32} {f : Nat → Nat} {m x v from_ : Nat} (hz : ∀ i, 51 ≤ i → t0 i = 0) (T : n_Tv f) (hb : ∀ i, pr i = 0 ∨ pr i = 1) (hC : n_cp mo cT x) (hQ : n_cq cv cg m x) (hv : v < 4) (h0 : f (5 + v) ≠ 0) (hx : n_tg f x) (hf : from_ ≤ f (5 + v) / 32) (hl : ∀ i, 2 * from_ ≤ i → i < 10 → f (9 + (v * 10 + i)) = 0) : (∀ g, n_fil (n_ab pr) m x v (2 * (f (5 + v) / 32) - 2 * from_) (2 * from_) f = some g → xk_Ev (xp_P sc) 130 0 [.ref 10, .int (Int32.ofNat v), .int (Int32.ofNat from_), .retAddr 0, .retAddr 0] [] (mw p th pr sl ex ta (s_mk t0 f) on lf mo cv cg cT cp r) (.inl (some (.int 1)), 0, mw p th pr sl ex ta (s_mk t0 g) on lf mo cv cg cT cp r)) ∧ (n_fil (n_ab pr) m x v (2 * (f (5 + v) / 32) - 2 * from_) (2 * from_) f = none → ∃ n2, (∀ i, 51 ≤ i → n2 i = 0) ∧ xk_Ev (xp_P sc) 130 0 [.ref 10, .int (Int32.ofNat v), .int (Int32.ofNat from_), .retAddr 0, .retAddr 0] [] (mw p th pr sl ex ta (s_mk t0 f) on lf mo cv cg cT cp r) (.inl (some (.int 0)), 0, mw p th pr sl ex ta (n2) on lf mo cv cg cT cp r)) := by
  have e32 := s_dv_32 _ (T.v v hv)
  have key : ∀ n k (e : Nat → Nat), k + n = 2 * (f (5 + v) / 32) → e (5 + v) = f (5 + v) → n_Tv e → n_tg e x → (∀ i, k ≤ i → i < 10 → e (9 + (v * 10 + i)) = 0) → xk_Po (xp_P sc) 130 9 [.ref 10, .int (Int32.ofNat v), .int (Int32.ofNat from_), .int (Int32.ofNat (f (5 + v) / 32)), .int (Int32.ofNat k)] [] (mw p th pr sl ex ta (s_mk t0 e) on lf mo cv cg cT cp r) (fun z => (∀ g, n_fil (n_ab pr) m x v n k e = some g → z = (.inl (some (.int 1)), 0, mw p th pr sl ex ta (s_mk t0 g) on lf mo cv cg cT cp r)) ∧ (n_fil (n_ab pr) m x v n k e = none → ∃ n2, (∀ i, 51 ≤ i → n2 i = 0) ∧ z = (.inl (some (.int 0)), 0, mw p th pr sl ex ta (n2) on lf mo cv cg cT cp r))) := by
    intro n
    induction n with
    | zero =>
      intro k e hk he Te hxe hle
      refine xk_Po.go 4 rfl ?_
      rw [show Int32.ofInt 2 * Int32.ofNat (f (5 + v) / 32) = Int32.ofNat (2 * (f (5 + v) / 32)) from xn_mul 2 _]
      refine xk_Po.br rfl rfl (fun _ => ?_) (fun hZ => absurd ((xn_le (a := 2 * (f (5 + v) / 32)) (b := k) (by omega) (by omega)).2 (by omega)) hZ)
      refine xk_Po.go 1 rfl ?_
      refine xk_Po.zret rfl (by decide) ⟨fun g hg => ?_, fun hg => ?_⟩
      · have q : e = g := Option.some.inj hg
        rw [← q]
        rfl
      · cases hg
    | succ n ih =>
      intro k e hk he Te hxe hle
      have TE := s_mk_Tv Te hz
      refine xk_Po.go 4 rfl ?_
      rw [show Int32.ofInt 2 * Int32.ofNat (f (5 + v) / 32) = Int32.ofNat (2 * (f (5 + v) / 32)) from xn_mul 2 _]
      refine xk_Po.br rfl rfl (fun hZ => absurd ((xn_le (a := 2 * (f (5 + v) / 32)) (b := k) (by omega) (by omega)).1 hZ) (by omega)) (fun _ => ?_)
      refine xk_Po.go 3 rfl ?_
      have e2 : ∀ k, k < 10 → (Int32.ofNat k % Int32.ofInt 2 = 0 ↔ k % 2 = 0) := by decide
      have fill : (k % 2 = 0 ∨ e (5 + v) % 4 = 3) → xk_Po (xp_P sc) 130 24 [.ref 10, .int (Int32.ofNat v), .int (Int32.ofNat from_), .int (Int32.ofNat (f (5 + v) / 32)), .int (Int32.ofNat k)] [] (mw p th pr sl ex ta (s_mk t0 e) on lf mo cv cg cT cp r) (fun z => (∀ g, n_fil (n_ab pr) m x v (n + 1) k e = some g → z = (.inl (some (.int 1)), 0, mw p th pr sl ex ta (s_mk t0 g) on lf mo cv cg cT cp r)) ∧ (n_fil (n_ab pr) m x v (n + 1) k e = none → ∃ n2, (∀ i, 51 ≤ i → n2 i = 0) ∧ z = (.inl (some (.int 0)), 0, mw p th pr sl ex ta (n2) on lf mo cv cg cT cp r))) := by
        intro hc
        refine xk_Po.go 15 rfl ?_
        refine xk_Po.ci5 rfl rfl (n_roomM (nt := 4) TE hb hC hQ hv (by rw [he]; exact h0) (by omega)) ?_
        rw [s_lg v k]
        refine xk_Po.ok rfl rfl (xn_ix (j := 9 + (v * 10 + k)) (by omega) (by omega)) ?_
        rw [xn_nat (j := 9 + (v * 10 + k)) (by omega)]
        refine xk_Po.go 9 rfl ?_
        rw [s_lg v k]
        refine xk_Po.ok rfl rfl (xn_ix (j := 9 + (v * 10 + k)) (by omega) (by omega)) ?_
        rw [xn_nat (j := 9 + (v * 10 + k)) (by omega), show upd (s_mk t0 e) (9 + (v * 10 + k)) (n_leg (n_R e (n_ab pr) m x v k 4)) (9 + (v * 10 + k)) = n_leg (n_R e (n_ab pr) m x v k 4) from if_pos rfl]
        by_cases hr : n_R e (n_ab pr) m x v k 4 < 32
        · have ef : n_fil (n_ab pr) m x v (n + 1) k e = n_fil (n_ab pr) m x v n (k + 1) (n_up e (9 + (v * 10 + k)) (n_R e (n_ab pr) m x v k 4 + 1)) := (if_pos hc).trans (if_pos hr)
          rw [ef]
          obtain ⟨r1, r2, r3⟩ := n_R_ok Te.e hr
          have eL : n_leg (n_R e (n_ab pr) m x v k 4) = Int32.ofNat (n_R e (n_ab pr) m x v k 4 + 1) := if_pos hr
          rw [eL]
          generalize n_R e (n_ab pr) m x v k 4 = R at *
          refine xk_Po.br rfl rfl (fun hZ => absurd ((xn_inj (b := 0) (by omega) (by omega)).1 hZ) (by omega)) (fun _ => ?_)
          refine xk_Po.go 2 rfl ?_
          have hq := ih (k + 1) (n_up e (9 + (v * 10 + k)) (R + 1)) (by omega) (by rw [n_up_ne (by omega)]; exact he) (Te.leg (by omega) hr r2 r1.1 (by
            rw [show (v * 10 + k) / 10 = v by omega, show (v * 10 + k) % 10 = k by omega]
            refine ⟨by rw [he]; omega, ?_⟩
            rcases hc with q | q
            · left
              omega
            · exact .inr q)) (n_tg_up hxe r1.2) (fun i h1 h2 => by
            rw [n_up_ne (by omega)]
            exact hle i (by omega) h2)
          rw [← xn_suc k, ← s_mk_up (by omega) (by omega)] at hq
          exact hq
        · have ef : n_fil (n_ab pr) m x v (n + 1) k e = none := (if_pos hc).trans (if_neg hr)
          rw [ef]
          rw [show n_leg (n_R e (n_ab pr) m x v k 4) = 0 from if_neg hr]
          refine xk_Po.go 2 rfl ?_
          refine xk_Po.zret rfl (by decide) ⟨fun g hg => (by cases hg), fun _ => ⟨_, upd_z (s_mk_z hz) (by omega), rfl⟩⟩
      have eK : (if s_mk t0 e (5 + v) = 0 then Int32.ofInt (-1) else s_mk t0 e (5 + v) % 4 - 1) = Int32.ofNat (e (5 + v) % 4) - 1 := by
        have e4 := s_dv_4 _ (Te.v v hv) (by rw [he]; exact h0)
        rw [s_mk_w _ _ (5 + v) (by omega) (by omega), if_neg e4.1, e4.2.1]
      refine xk_Po.br rfl rfl (fun h2 => fill (.inl ((e2 k (by omega)).1 h2))) (fun h2 => ?_)
      refine xk_Po.go 3 rfl ?_
      refine xk_Po.ci2 rfl rfl (by have h := n_kindOf (sc := sc) (p := p) (th := th) (pr := pr) (sl := sl) (ex := ex) (ta := ta) (nx := s_mk t0 e) (on := on) (lf := lf) (mo := mo) (cv := cv) (cg := cg) (cT := cT) (cp := cp) (r := r) hv; rw [eK] at h; exact h) ?_
      refine xk_Po.go 1 rfl ?_
      refine xk_Po.br rfl rfl (fun h3 => fill (.inr (e4_2 (by omega) h3))) (fun h3 => ?_)
      have hc : ¬ (k % 2 = 0 ∨ e (5 + v) % 4 = 3) := fun q => q.elim (fun q => h2 ((e2 k (by omega)).2 q)) (fun q => h3 (by rw [q]; rfl))
      have ef : n_fil (n_ab pr) m x v (n + 1) k e = n_fil (n_ab pr) m x v n (k + 1) e := if_neg hc
      rw [ef]
      refine xk_Po.go 2 rfl ?_
      have hq := ih (k + 1) e (by omega) he Te hxe (fun i h1 h2 => hle i (by omega) h2)
      rw [← xn_suc k] at hq
      exact hq
  have start : xk_Po (xp_P sc) 130 0 [.ref 10, .int (Int32.ofNat v), .int (Int32.ofNat from_), .retAddr 0, .retAddr 0] [] (mw p th pr sl ex ta (s_mk t0 f) on lf mo cv cg cT cp r) (fun z => (∀ g, n_fil (n_ab pr) m x v (2 * (f (5 + v) / 32) - 2 * from_) (2 * from_) f = some g → z = (.inl (some (.int 1)), 0, mw p th pr sl ex ta (s_mk t0 g) on lf mo cv cg cT cp r)) ∧ (n_fil (n_ab pr) m x v (2 * (f (5 + v) / 32) - 2 * from_) (2 * from_) f = none → ∃ n2, (∀ i, 51 ≤ i → n2 i = 0) ∧ z = (.inl (some (.int 0)), 0, mw p th pr sl ex ta (n2) on lf mo cv cg cT cp r))) := by
    refine xk_Po.go 3 rfl ?_
    refine xk_Po.ci2 rfl rfl (by have h := n_elementsOf (sc := sc) (p := p) (th := th) (pr := pr) (sl := sl) (ex := ex) (ta := ta) (nx := s_mk t0 f) (on := on) (lf := lf) (mo := mo) (cv := cv) (cg := cg) (cT := cT) (cp := cp) (r := r) hv; rw [s_mk_w _ _ (5 + v) (by omega) (by omega), e32.1] at h; exact h) ?_
    refine xk_Po.go 5 rfl ?_
    rw [show Int32.ofInt 2 * Int32.ofNat from_ = Int32.ofNat (2 * from_) from xn_mul 2 _]
    exact key _ (2 * from_) f (by omega) rfl T hx hl
  obtain ⟨z, z1, z2, z3⟩ := start
  refine ⟨fun g hg => ?_, fun hg => ?_⟩
  · rw [← z2 g hg]
    exact z1
  · obtain ⟨n2, n3, n4⟩ := z3 hg
    refine ⟨n2, n3, ?_⟩
    rw [← n4]
    exact z1
end XkMcd
