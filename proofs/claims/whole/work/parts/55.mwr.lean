section XkMwr
variable {sc : Nat × (Nat → Int32)} {p : xk_Ten} {pr sl ex ta nx : Nat → Int32} {th on lf mo cv cg cT cp : Int32} {r w : xk_W}
abbrev n_rdb (y : Nat) (pr : Nat → Int32) : Prop := y ≠ 0 ∧ ¬ pr ((y - 1) / 8) = 0
theorem r_rd1 {y : Nat} (hy : y ≤ 32) (h : n_rdb y pr) (hb : ∀ i, pr i = 0 ∨ pr i = 1) : xk_Ev (xp_P sc) 143 0 [.ref 10, .int (Int32.ofNat y)] [] (mw p th pr sl ex ta nx on lf mo cv cg cT cp r) (.inl (some (.int 1)), 0, mw p th pr sl ex ta nx on lf mo cv cg cT cp r) := by
  have e8 : ∀ y, y < 33 → y ≠ 0 → (Int32.ofNat y - Int32.ofInt 1) / Int32.ofInt 8 = Int32.ofNat ((y - 1) / 8) := by decide
  apply xk_Ev.of
  refine xk_Po.go 1 rfl ?_
  refine xk_Po.br rfl rfl (fun q => absurd ((xn_le0 (by omega)).1 q) h.1) (fun _ => ?_)
  refine xk_Po.go 7 rfl ?_
  rw [e8 y (by omega) h.1]
  refine xk_Po.ok rfl rfl (xn_ix (j := (y - 1) / 8) (by omega) (by omega)) ?_
  rw [xn_nat (j := (y - 1) / 8) (by omega)]
  refine xk_Po.br rfl rfl (fun q => absurd q h.2) (fun _ => ?_)
  refine xk_Po.go 2 rfl ?_
  exact xk_Po.zret rfl (by decide) rfl
theorem r_rd0 {y : Nat} (hy : y ≤ 32) (h : ¬ n_rdb y pr) (hb : ∀ i, pr i = 0 ∨ pr i = 1) : xk_Ev (xp_P sc) 143 0 [.ref 10, .int (Int32.ofNat y)] [] (mw p th pr sl ex ta nx on lf mo cv cg cT cp r) (.inl (some (.int 0)), 0, mw p th pr sl ex ta nx on lf mo cv cg cT cp r) := by
  have e8 : ∀ y, y < 33 → y ≠ 0 → (Int32.ofNat y - Int32.ofInt 1) / Int32.ofInt 8 = Int32.ofNat ((y - 1) / 8) := by decide
  apply xk_Ev.of
  refine xk_Po.go 1 rfl ?_
  refine xk_Po.br rfl rfl (fun _ => ?_) (fun q => ?_)
  · refine xk_Po.go 1 rfl ?_
    exact xk_Po.zret rfl (by decide) rfl
  · have q : y ≠ 0 := fun r => q ((xn_le0 (by omega)).2 r)
    refine xk_Po.go 7 rfl ?_
    rw [e8 y (by omega) q]
    refine xk_Po.ok rfl rfl (xn_ix (j := (y - 1) / 8) (by omega) (by omega)) ?_
    rw [xn_nat (j := (y - 1) / 8) (by omega)]
    refine xk_Po.br rfl rfl (fun _ => ?_) (fun r => absurd ⟨q, r⟩ h)
    refine xk_Po.go 1 rfl ?_
    exact xk_Po.zret rfl (by decide) rfl
def n_el (D k : Nat) : Nat := D / 4 % 8 * (k / (4 * (D / 4 % 8))) + k % (D / 4 % 8)
def n_wo (D k : Nat) : Nat := k % (4 * (D / 4 % 8)) / (D / 4 % 8)
theorem s_elw : ∀ c, c < 4 → 1 ≤ c → ∀ k, k < 20 → Int32.ofNat c * (Int32.ofNat k / (Int32.ofInt 4 * Int32.ofNat c)) + Int32.ofNat k % Int32.ofNat c = Int32.ofNat (c * (k / (4 * c)) + k % c) ∧ Int32.ofNat k % (Int32.ofInt 4 * Int32.ofNat c) / Int32.ofNat c = Int32.ofNat (k % (4 * c) / c) ∧ ¬ Int32.ofInt 4 * Int32.ofNat c = 0 := by decide
theorem s_elb : ∀ D, D ∈ s_dv → D ≠ 0 → ∀ k, k < 20 → k < 4 * (D / 32) → n_el D k < D / 32 ∧ n_wo D k < 4 := by decide
theorem r_elementOf {f : Nat → Nat} {v k : Nat} (T : s_Tv ta f) (hv : v < 4) (h5 : f (5 + v) ≠ 0) (hk : k < 20) : xk_Ev (xp_P sc) 144 0 [.ref 10, .int (Int32.ofNat v), .int (Int32.ofNat k), .retAddr 0] [] (mw p th pr sl ex ta nx on lf mo cv cg cT cp r) (.inl (some (.int (Int32.ofNat (n_el (f (5 + v)) k)))), 0, mw p th pr sl ex ta nx on lf mo cv cg cT cp r) := by
  obtain ⟨_, c1, c2, _, _, _⟩ := s_dv_col _ (T.v v hv) h5
  obtain ⟨e1, e2, e3⟩ := s_elw _ c2 c1 k hk
  unfold n_el
  rw [← e1]
  apply xk_Ev.of
  refine xk_Po.go 3 rfl ?_
  refine xk_Po.ci2 rfl rfl (t_coN T hv h5) ?_
  refine xk_Po.go 6 rfl ?_
  refine xk_Po.no rfl rfl e3 ?_
  refine xk_Po.go 3 rfl ?_
  refine xk_Po.no rfl rfl (s_ne0 _ c2 c1) ?_
  refine xk_Po.go 1 rfl ?_
  exact xk_Po.iret rfl rfl
theorem r_wordOf {f : Nat → Nat} {v k : Nat} (T : s_Tv ta f) (hv : v < 4) (h5 : f (5 + v) ≠ 0) (hk : k < 20) : xk_Ev (xp_P sc) 145 0 [.ref 10, .int (Int32.ofNat v), .int (Int32.ofNat k), .retAddr 0] [] (mw p th pr sl ex ta nx on lf mo cv cg cT cp r) (.inl (some (.int (Int32.ofNat (n_wo (f (5 + v)) k)))), 0, mw p th pr sl ex ta nx on lf mo cv cg cT cp r) := by
  obtain ⟨_, c1, c2, _, _, _⟩ := s_dv_col _ (T.v v hv) h5
  obtain ⟨e1, e2, e3⟩ := s_elw _ c2 c1 k hk
  unfold n_wo
  rw [← e2]
  apply xk_Ev.of
  refine xk_Po.go 3 rfl ?_
  refine xk_Po.ci2 rfl rfl (t_coN T hv h5) ?_
  refine xk_Po.go 5 rfl ?_
  refine xk_Po.no rfl rfl e3 ?_
  refine xk_Po.go 1 rfl ?_
  refine xk_Po.no rfl rfl (s_ne0 _ c2 c1) ?_
  exact xk_Po.iret rfl rfl
theorem s_fi (v e : Nat) : Int32.ofInt 9 + Int32.ofInt 10 * Int32.ofNat v + Int32.ofInt 2 * Int32.ofNat e = Int32.ofNat (9 + (v * 10 + e * 2)) := by
  show Int32.ofNat 9 + Int32.ofNat 10 * Int32.ofNat v + Int32.ofNat 2 * Int32.ofNat e = _
  rw [xn_mul, xn_add, xn_mul, xn_add]
  congr 1
  omega
theorem r_read_lo {v : Nat} (hv : v < 4) (hu : ¬ ta (5 + v) = 0) {f : Nat → Nat} (T0 : s_Tv ta f) {g : Int32} (h : g < 0) : xk_Ev (xp_P sc) 147 0 [.ref 10, .int (Int32.ofNat v), .int g, .retAddr 0, .retAddr 0] [] (mw p th pr sl ex ta nx (1) lf mo cv cg cT cp r) (.inl (some (.int 0)), 0, mw p (3) pr sl ex ta nx (1) lf mo cv cg cT cp r) := by
  apply xk_Ev.of
  refine xk_Po.go 6 rfl ?_
  refine xk_Po.ci2 rfl rfl (r_isVolume hv hu) ?_
  refine xk_Po.go 2 rfl ?_
  refine xk_Po.br rfl rfl (fun _ => ?_) (fun hZ => absurd (h) hZ) -- 13 .ifCond .lt 22
  refine xk_Po.go 7 rfl ?_
  exact xk_Po.iret rfl (rfl)
theorem r_read_hi {v : Nat} (hv : v < 4) (hu : ¬ ta (5 + v) = 0) {f : Nat → Nat} (T0 : s_Tv ta f) {g : Int32} (h0 : ¬ g < 0) (h : ¬ g < Int32.ofInt 4 * Int32.ofNat (f (5 + v) / 32)) : xk_Ev (xp_P sc) 147 0 [.ref 10, .int (Int32.ofNat v), .int g, .retAddr 0, .retAddr 0] [] (mw p th pr sl ex ta nx (1) lf mo cv cg cT cp r) (.inl (some (.int 0)), 0, mw p (3) pr sl ex ta nx (1) lf mo cv cg cT cp r) := by
  apply xk_Ev.of
  refine xk_Po.go 6 rfl ?_
  refine xk_Po.ci2 rfl rfl (r_isVolume hv hu) ?_
  refine xk_Po.go 2 rfl ?_
  refine xk_Po.br rfl rfl (fun hZ => absurd hZ (h0)) (fun _ => ?_) -- 13 .ifCond .lt 22
  refine xk_Po.go 5 rfl ?_
  refine xk_Po.ci2 rfl rfl (t_elN T0 hv) ?_
  refine xk_Po.go 1 rfl ?_
  refine xk_Po.br rfl rfl (fun hZ => absurd hZ (h)) (fun _ => ?_) -- 21 .if_icmp .lt 24
  refine xk_Po.go 7 rfl ?_
  exact xk_Po.iret rfl (rfl)
theorem r_write_lo {v : Nat} (hv : v < 4) (hu : ¬ ta (5 + v) = 0) {f : Nat → Nat} (T0 : s_Tv ta f) {g : Int32} {y : Int32} (h : g < 0) : xk_Ev (xp_P sc) 146 0 [.ref 10, .int (Int32.ofNat v), .int g, .int y, .retAddr 0, .retAddr 0, .retAddr 0, .retAddr 0, .retAddr 0, .retAddr 0] [] (mw p th pr sl ex ta nx (1) lf mo cv cg cT cp r) (.inl (some (.int 0)), 0, mw p (3) pr sl ex ta nx (1) lf mo cv cg cT cp r) := by
  apply xk_Ev.of
  refine xk_Po.go 6 rfl ?_
  refine xk_Po.ci2 rfl rfl (r_isVolume hv hu) ?_
  refine xk_Po.go 2 rfl ?_
  refine xk_Po.br rfl rfl (fun _ => ?_) (fun hZ => absurd (h) hZ) -- 13 .ifCond .lt 22
  refine xk_Po.go 7 rfl ?_
  exact xk_Po.iret rfl (rfl)
theorem r_write_hi {v : Nat} (hv : v < 4) (hu : ¬ ta (5 + v) = 0) {f : Nat → Nat} (T0 : s_Tv ta f) {g : Int32} {y : Int32} (h0 : ¬ g < 0) (h : ¬ g < Int32.ofInt 4 * Int32.ofNat (f (5 + v) / 32)) : xk_Ev (xp_P sc) 146 0 [.ref 10, .int (Int32.ofNat v), .int g, .int y, .retAddr 0, .retAddr 0, .retAddr 0, .retAddr 0, .retAddr 0, .retAddr 0] [] (mw p th pr sl ex ta nx (1) lf mo cv cg cT cp r) (.inl (some (.int 0)), 0, mw p (3) pr sl ex ta nx (1) lf mo cv cg cT cp r) := by
  apply xk_Ev.of
  refine xk_Po.go 6 rfl ?_
  refine xk_Po.ci2 rfl rfl (r_isVolume hv hu) ?_
  refine xk_Po.go 2 rfl ?_
  refine xk_Po.br rfl rfl (fun hZ => absurd hZ (h0)) (fun _ => ?_) -- 13 .ifCond .lt 22
  refine xk_Po.go 5 rfl ?_
  refine xk_Po.ci2 rfl rfl (t_elN T0 hv) ?_
  refine xk_Po.go 1 rfl ?_
  refine xk_Po.br rfl rfl (fun hZ => absurd hZ (h)) (fun _ => ?_) -- 21 .if_icmp .lt 24
  refine xk_Po.go 7 rfl ?_
  exact xk_Po.iret rfl (rfl)
theorem r_read_a {v : Nat} (hv : v < 4) (hu : ¬ ta (5 + v) = 0) {f : Nat → Nat} (T0 : s_Tv ta f) (h5 : f (5 + v) ≠ 0) {k : Nat} (hk : k < 20) (hk4 : k < 4 * (f (5 + v) / 32)) (hb : ∀ i, pr i = 0 ∨ pr i = 1) (h0 : n_rdb (f (9 + (v * 10 + n_el (f (5 + v)) k * 2))) pr) : xk_Ev (xp_P sc) 147 0 [.ref 10, .int (Int32.ofNat v), .int (Int32.ofNat k), .retAddr 0, .retAddr 0] [] (mw p th pr sl ex ta nx (1) lf mo cv cg cT cp r) (.inl (some (.int (ex ((f (9 + (v * 10 + n_el (f (5 + v)) k * 2)) - 1) * 4 + n_wo (f (5 + v)) k)))), 0, mw p (0) pr sl ex ta nx (1) lf mo cv cg cT cp r) := by
  obtain ⟨b1, b2⟩ := s_elb _ (T0.v v hv) h5 k hk hk4
  have e5 := (s_dv_32 _ (T0.v v hv)).2
  have l0 := T0.l (v * 10 + n_el (f (5 + v)) k * 2) (by omega)
  have l1 := T0.l (v * 10 + n_el (f (5 + v)) k * 2 + 1) (by omega)
  apply xk_Ev.of
  refine xk_Po.go 6 rfl ?_
  refine xk_Po.ci2 rfl rfl (r_isVolume hv hu) ?_
  refine xk_Po.go 2 rfl ?_
  refine xk_Po.br rfl rfl (fun hZ => absurd hZ (xn_nneg (by omega))) (fun _ => ?_) -- 13 .ifCond .lt 22
  refine xk_Po.go 5 rfl ?_
  refine xk_Po.ci2 rfl rfl (t_elN T0 hv) ?_
  refine xk_Po.go 1 rfl ?_
  refine xk_Po.br rfl rfl (fun _ => ?_) (fun hZ => absurd (by rw [show Int32.ofInt 4 * Int32.ofNat (f (5 + v) / 32) = Int32.ofNat (4 * (f (5 + v) / 32)) from xn_mul 4 _]; exact (xn_lt (by omega) (by omega)).2 hk4) hZ) -- 21 .if_icmp .lt 24
  refine xk_Po.go 14 rfl ?_
  refine xk_Po.ci3 rfl rfl (r_elementOf T0 hv h5 hk) ?_
  refine xk_Po.go 2 rfl ?_
  rw [s_fi v _]
  refine xk_Po.go 5 rfl ?_
  refine xk_Po.ok rfl rfl (xn_ix (j := 9 + (v * 10 + n_el (f (5 + v)) k * 2)) (by omega) (by omega)) ?_ -- 48 .iaload
  rw [xn_nat (j := 9 + (v * 10 + n_el (f (5 + v)) k * 2)) (by omega), T0.w (9 + (v * 10 + n_el (f (5 + v)) k * 2)) (by omega) (by omega)]
  refine xk_Po.ci2 rfl rfl (r_rd1 (y := f (9 + (v * 10 + n_el (f (5 + v)) k * 2))) (by omega) h0 hb) ?_
  refine xk_Po.go 4 rfl ?_
  refine xk_Po.ok rfl rfl (xn_ix (j := 9 + (v * 10 + n_el (f (5 + v)) k * 2)) (by omega) (by omega)) ?_ -- 54 .iaload
  rw [xn_nat (j := 9 + (v * 10 + n_el (f (5 + v)) k * 2)) (by omega), T0.w (9 + (v * 10 + n_el (f (5 + v)) k * 2)) (by omega) (by omega)]
  refine xk_Po.go 5 rfl ?_
  refine xk_Po.ci2 rfl rfl (r_rd1 (y := f (9 + (v * 10 + n_el (f (5 + v)) k * 2))) (by omega) h0 hb) ?_
  refine xk_Po.go 12 rfl ?_
  refine xk_Po.ci3 rfl rfl (r_wordOf T0 hv h5 hk) ?_
  rw [show f (9 + (v * 10 + n_el (f (5 + v)) k * 2)) = f (9 + (v * 10 + n_el (f (5 + v)) k * 2)) - 1 + 1 from by have := h0.1; omega]
  refine xk_Po.ci3 rfl rfl (r_get (by omega) b2) ?_
  exact xk_Po.iret rfl (rfl)
theorem r_read_b {v : Nat} (hv : v < 4) (hu : ¬ ta (5 + v) = 0) {f : Nat → Nat} (T0 : s_Tv ta f) (h5 : f (5 + v) ≠ 0) {k : Nat} (hk : k < 20) (hk4 : k < 4 * (f (5 + v) / 32)) (hb : ∀ i, pr i = 0 ∨ pr i = 1) (hn : ¬ n_rdb (f (9 + (v * 10 + n_el (f (5 + v)) k * 2))) pr) (h0 : n_rdb (f (9 + (v * 10 + n_el (f (5 + v)) k * 2 + 1))) pr) : xk_Ev (xp_P sc) 147 0 [.ref 10, .int (Int32.ofNat v), .int (Int32.ofNat k), .retAddr 0, .retAddr 0] [] (mw p th pr sl ex ta nx (1) lf mo cv cg cT cp r) (.inl (some (.int (ex ((f (9 + (v * 10 + n_el (f (5 + v)) k * 2 + 1)) - 1) * 4 + n_wo (f (5 + v)) k)))), 0, mw p (0) pr sl ex ta nx (1) lf mo cv cg cT cp r) := by
  obtain ⟨b1, b2⟩ := s_elb _ (T0.v v hv) h5 k hk hk4
  have e5 := (s_dv_32 _ (T0.v v hv)).2
  have l0 := T0.l (v * 10 + n_el (f (5 + v)) k * 2) (by omega)
  have l1 := T0.l (v * 10 + n_el (f (5 + v)) k * 2 + 1) (by omega)
  apply xk_Ev.of
  refine xk_Po.go 6 rfl ?_
  refine xk_Po.ci2 rfl rfl (r_isVolume hv hu) ?_
  refine xk_Po.go 2 rfl ?_
  refine xk_Po.br rfl rfl (fun hZ => absurd hZ (xn_nneg (by omega))) (fun _ => ?_) -- 13 .ifCond .lt 22
  refine xk_Po.go 5 rfl ?_
  refine xk_Po.ci2 rfl rfl (t_elN T0 hv) ?_
  refine xk_Po.go 1 rfl ?_
  refine xk_Po.br rfl rfl (fun _ => ?_) (fun hZ => absurd (by rw [show Int32.ofInt 4 * Int32.ofNat (f (5 + v) / 32) = Int32.ofNat (4 * (f (5 + v) / 32)) from xn_mul 4 _]; exact (xn_lt (by omega) (by omega)).2 hk4) hZ) -- 21 .if_icmp .lt 24
  refine xk_Po.go 14 rfl ?_
  refine xk_Po.ci3 rfl rfl (r_elementOf T0 hv h5 hk) ?_
  refine xk_Po.go 2 rfl ?_
  rw [s_fi v _]
  refine xk_Po.go 5 rfl ?_
  refine xk_Po.ok rfl rfl (xn_ix (j := 9 + (v * 10 + n_el (f (5 + v)) k * 2)) (by omega) (by omega)) ?_ -- 48 .iaload
  rw [xn_nat (j := 9 + (v * 10 + n_el (f (5 + v)) k * 2)) (by omega), T0.w (9 + (v * 10 + n_el (f (5 + v)) k * 2)) (by omega) (by omega)]
  refine xk_Po.ci2 rfl rfl (r_rd0 (by omega) hn hb) ?_
  refine xk_Po.go 6 rfl ?_
  rw [show Int32.ofNat (9 + (v * 10 + n_el (f (5 + v)) k * 2)) + Int32.ofInt 1 = Int32.ofNat (9 + (v * 10 + n_el (f (5 + v)) k * 2 + 1)) from xn_suc _]
  refine xk_Po.ok rfl rfl (xn_ix (j := 9 + (v * 10 + n_el (f (5 + v)) k * 2 + 1)) (by omega) (by omega)) ?_ -- 61 .iaload
  rw [xn_nat (j := 9 + (v * 10 + n_el (f (5 + v)) k * 2 + 1)) (by omega), T0.w (9 + (v * 10 + n_el (f (5 + v)) k * 2 + 1)) (by omega) (by omega)]
  refine xk_Po.go 4 rfl ?_
  refine xk_Po.ci2 rfl rfl (r_rd1 (y := f (9 + (v * 10 + n_el (f (5 + v)) k * 2 + 1))) (by omega) h0 hb) ?_
  refine xk_Po.go 12 rfl ?_
  refine xk_Po.ci3 rfl rfl (r_wordOf T0 hv h5 hk) ?_
  rw [show f (9 + (v * 10 + n_el (f (5 + v)) k * 2 + 1)) = f (9 + (v * 10 + n_el (f (5 + v)) k * 2 + 1)) - 1 + 1 from by have := h0.1; omega]
  refine xk_Po.ci3 rfl rfl (r_get (by omega) b2) ?_
  exact xk_Po.iret rfl (rfl)
theorem r_read_n {v : Nat} (hv : v < 4) (hu : ¬ ta (5 + v) = 0) {f : Nat → Nat} (T0 : s_Tv ta f) (h5 : f (5 + v) ≠ 0) {k : Nat} (hk : k < 20) (hk4 : k < 4 * (f (5 + v) / 32)) (hb : ∀ i, pr i = 0 ∨ pr i = 1) (hn : ¬ n_rdb (f (9 + (v * 10 + n_el (f (5 + v)) k * 2))) pr) (h1 : ¬ n_rdb (f (9 + (v * 10 + n_el (f (5 + v)) k * 2 + 1))) pr) : xk_Ev (xp_P sc) 147 0 [.ref 10, .int (Int32.ofNat v), .int (Int32.ofNat k), .retAddr 0, .retAddr 0] [] (mw p th pr sl ex ta nx (1) lf mo cv cg cT cp r) (.inl (some (.int (0))), 0, mw p (4) pr sl ex ta nx (1) lf mo cv cg cT cp r) := by
  obtain ⟨b1, b2⟩ := s_elb _ (T0.v v hv) h5 k hk hk4
  have e5 := (s_dv_32 _ (T0.v v hv)).2
  have l0 := T0.l (v * 10 + n_el (f (5 + v)) k * 2) (by omega)
  have l1 := T0.l (v * 10 + n_el (f (5 + v)) k * 2 + 1) (by omega)
  apply xk_Ev.of
  refine xk_Po.go 6 rfl ?_
  refine xk_Po.ci2 rfl rfl (r_isVolume hv hu) ?_
  refine xk_Po.go 2 rfl ?_
  refine xk_Po.br rfl rfl (fun hZ => absurd hZ (xn_nneg (by omega))) (fun _ => ?_) -- 13 .ifCond .lt 22
  refine xk_Po.go 5 rfl ?_
  refine xk_Po.ci2 rfl rfl (t_elN T0 hv) ?_
  refine xk_Po.go 1 rfl ?_
  refine xk_Po.br rfl rfl (fun _ => ?_) (fun hZ => absurd (by rw [show Int32.ofInt 4 * Int32.ofNat (f (5 + v) / 32) = Int32.ofNat (4 * (f (5 + v) / 32)) from xn_mul 4 _]; exact (xn_lt (by omega) (by omega)).2 hk4) hZ) -- 21 .if_icmp .lt 24
  refine xk_Po.go 14 rfl ?_
  refine xk_Po.ci3 rfl rfl (r_elementOf T0 hv h5 hk) ?_
  refine xk_Po.go 2 rfl ?_
  rw [s_fi v _]
  refine xk_Po.go 5 rfl ?_
  refine xk_Po.ok rfl rfl (xn_ix (j := 9 + (v * 10 + n_el (f (5 + v)) k * 2)) (by omega) (by omega)) ?_ -- 48 .iaload
  rw [xn_nat (j := 9 + (v * 10 + n_el (f (5 + v)) k * 2)) (by omega), T0.w (9 + (v * 10 + n_el (f (5 + v)) k * 2)) (by omega) (by omega)]
  refine xk_Po.ci2 rfl rfl (r_rd0 (by omega) hn hb) ?_
  refine xk_Po.go 6 rfl ?_
  rw [show Int32.ofNat (9 + (v * 10 + n_el (f (5 + v)) k * 2)) + Int32.ofInt 1 = Int32.ofNat (9 + (v * 10 + n_el (f (5 + v)) k * 2 + 1)) from xn_suc _]
  refine xk_Po.ok rfl rfl (xn_ix (j := 9 + (v * 10 + n_el (f (5 + v)) k * 2 + 1)) (by omega) (by omega)) ?_ -- 61 .iaload
  rw [xn_nat (j := 9 + (v * 10 + n_el (f (5 + v)) k * 2 + 1)) (by omega), T0.w (9 + (v * 10 + n_el (f (5 + v)) k * 2 + 1)) (by omega) (by omega)]
  refine xk_Po.go 4 rfl ?_
  refine xk_Po.ci2 rfl rfl (r_rd0 (by omega) h1 hb) ?_
  refine xk_Po.go 8 rfl ?_
  exact xk_Po.iret rfl (rfl)
end XkMwr
