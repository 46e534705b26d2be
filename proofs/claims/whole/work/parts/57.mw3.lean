section XkMw3
variable {sc : Nat × (Nat → Int32)} {p : xk_Ten} {pr sl ex ta nx : Nat → Int32} {th on lf mo cv cg cT cp : Int32} {r w : xk_W}
theorem r_write_n {v : Nat} (hv : v < 4) (hu : ¬ ta (5 + v) = 0) {f : Nat → Nat} (T0 : s_Tv ta f) (h5 : f (5 + v) ≠ 0) {k : Nat} (hk : k < 20) (hk4 : k < 4 * (f (5 + v) / 32)) (hb : ∀ i, pr i = 0 ∨ pr i = 1) {y : Int32} (hn0 : ¬ n_rdb (f (9 + (v * 10 + n_el (f (5 + v)) k * 2))) pr) (hn1 : ¬ n_rdb (f (9 + (v * 10 + n_el (f (5 + v)) k * 2 + 1))) pr) : xk_Ev (xp_P sc) 146 0 [.ref 10, .int (Int32.ofNat v), .int (Int32.ofNat k), .int y, .retAddr 0, .retAddr 0, .retAddr 0, .retAddr 0, .retAddr 0, .retAddr 0] [] (mw p th pr sl ex ta nx (1) lf mo cv cg cT cp r) (.inl (some (.int (0))), 0, mw p (4) pr sl ex ta nx (1) lf mo cv cg cT cp r) := by
  obtain ⟨b1, b2⟩ := s_elb _ (T0.v v hv) h5 k hk hk4
  have e5 := (s_dv_32 _ (T0.v v hv)).2
  have l0 := T0.l (v * 10 + n_el (f (5 + v)) k * 2) (by omega)
  have l1 := T0.l (v * 10 + n_el (f (5 + v)) k * 2 + 1) (by omega)
  apply xk_Ev.of
  refine xk_Po.go 6 rfl ?_
  refine xk_Po.ci2 rfl rfl (r_isVolume hv hu) ?_
  refine xk_Po.go 2 rfl ?_
  refine xk_Po.br rfl rfl (fun hZ => absurd hZ (xn_nneg (by omega))) (fun _ => ?_) -- 13 .ifCond .lt 22
  refine xk_Po.go 5 rfl ?_
  refine xk_Po.ci2 rfl rfl (t_elN T0 hv) ?_
  refine xk_Po.go 1 rfl ?_
  refine xk_Po.br rfl rfl (fun _ => ?_) (fun hZ => absurd (by rw [show Int32.ofInt 4 * Int32.ofNat (f (5 + v) / 32) = Int32.ofNat (4 * (f (5 + v) / 32)) from xn_mul 4 _]; exact (xn_lt (by omega) (by omega)).2 hk4) hZ) -- 21 .if_icmp .lt 24
  refine xk_Po.go 14 rfl ?_
  refine xk_Po.ci3 rfl rfl (r_elementOf T0 hv h5 hk) ?_
  refine xk_Po.go 2 rfl ?_
  rw [s_fi v _]
  refine xk_Po.go 5 rfl ?_
  refine xk_Po.ok rfl rfl (xn_ix (j := 9 + (v * 10 + n_el (f (5 + v)) k * 2)) (by omega) (by omega)) ?_ -- 48 .iaload
  rw [xn_nat (j := 9 + (v * 10 + n_el (f (5 + v)) k * 2)) (by omega), T0.w (9 + (v * 10 + n_el (f (5 + v)) k * 2)) (by omega) (by omega)]
  refine xk_Po.ci2 rfl rfl (r_rd0 (by omega) hn0 hb) ?_
  refine xk_Po.go 8 rfl ?_
  rw [show Int32.ofNat (9 + (v * 10 + n_el (f (5 + v)) k * 2)) + Int32.ofInt 1 = Int32.ofNat (9 + (v * 10 + n_el (f (5 + v)) k * 2 + 1)) from xn_suc _]
  refine xk_Po.ok rfl rfl (xn_ix (j := 9 + (v * 10 + n_el (f (5 + v)) k * 2 + 1)) (by omega) (by omega)) ?_ -- 60 .iaload
  rw [xn_nat (j := 9 + (v * 10 + n_el (f (5 + v)) k * 2 + 1)) (by omega), T0.w (9 + (v * 10 + n_el (f (5 + v)) k * 2 + 1)) (by omega) (by omega)]
  refine xk_Po.ci2 rfl rfl (r_rd0 (by omega) hn1 hb) ?_
  refine xk_Po.go 10 rfl ?_
  exact xk_Po.iret rfl (rfl)
theorem r_write2_1 {v : Nat} (hv : v < 4) (hu : ¬ ta (5 + v) = 0) {f : Nat → Nat} (T0 : s_Tv ta f) (h5 : f (5 + v) ≠ 0) {k : Nat} (hk : k < 20) (hk4 : k < 4 * (f (5 + v) / 32)) (hb : ∀ i, pr i = 0 ∨ pr i = 1) {y : Int32} (h0 : n_rdb (f (9 + (v * 10 + n_el (f (5 + v)) k * 2))) pr) (h1 : n_rdb (f (9 + (v * 10 + n_el (f (5 + v)) k * 2 + 1))) pr) {m x c : Nat} (hC : n_cp mo cT x) (hQ : n_cq cv cg m x) (hcp : x < 32 → cp = Int32.ofNat c ∧ c < 4) (ho : (m_seq (m_wr f m x c (n_wo (f (5 + v)) k) y (v * 10 + n_el (f (5 + v)) k * 2)) (m_wr f m x c (n_wo (f (5 + v)) k) y ((v * 10 + n_el (f (5 + v)) k * 2) + 1)) (sl, ex, lf)).1 = true) : xk_Ev (xp_P sc) 146 0 [.ref 10, .int (Int32.ofNat v), .int (Int32.ofNat k), .int y, .retAddr 0, .retAddr 0, .retAddr 0, .retAddr 0, .retAddr 0, .retAddr 0] [] (mw p th pr sl ex ta nx (1) lf mo cv cg cT cp r) (.inl (some (.int (2))), 0, mw p (0) pr ((m_seq (m_wr f m x c (n_wo (f (5 + v)) k) y (v * 10 + n_el (f (5 + v)) k * 2)) (m_wr f m x c (n_wo (f (5 + v)) k) y ((v * 10 + n_el (f (5 + v)) k * 2) + 1)) (sl, ex, lf)).2.1) ((m_seq (m_wr f m x c (n_wo (f (5 + v)) k) y (v * 10 + n_el (f (5 + v)) k * 2)) (m_wr f m x c (n_wo (f (5 + v)) k) y ((v * 10 + n_el (f (5 + v)) k * 2) + 1)) (sl, ex, lf)).2.2.1) ta nx (1) ((m_seq (m_wr f m x c (n_wo (f (5 + v)) k) y (v * 10 + n_el (f (5 + v)) k * 2)) (m_wr f m x c (n_wo (f (5 + v)) k) y ((v * 10 + n_el (f (5 + v)) k * 2) + 1)) (sl, ex, lf)).2.2.2) mo cv cg cT cp r) := by
  obtain ⟨b1, b2⟩ := s_elb _ (T0.v v hv) h5 k hk hk4
  have e5 := (s_dv_32 _ (T0.v v hv)).2
  have l0 := T0.l (v * 10 + n_el (f (5 + v)) k * 2) (by omega)
  have l1 := T0.l (v * 10 + n_el (f (5 + v)) k * 2 + 1) (by omega)
  apply xk_Ev.of
  refine xk_Po.go 6 rfl ?_
  refine xk_Po.ci2 rfl rfl (r_isVolume hv hu) ?_
  refine xk_Po.go 2 rfl ?_
  refine xk_Po.br rfl rfl (fun hZ => absurd hZ (xn_nneg (by omega))) (fun _ => ?_) -- 13 .ifCond .lt 22
  refine xk_Po.go 5 rfl ?_
  refine xk_Po.ci2 rfl rfl (t_elN T0 hv) ?_
  refine xk_Po.go 1 rfl ?_
  refine xk_Po.br rfl rfl (fun _ => ?_) (fun hZ => absurd (by rw [show Int32.ofInt 4 * Int32.ofNat (f (5 + v) / 32) = Int32.ofNat (4 * (f (5 + v) / 32)) from xn_mul 4 _]; exact (xn_lt (by omega) (by omega)).2 hk4) hZ) -- 21 .if_icmp .lt 24
  refine xk_Po.go 14 rfl ?_
  refine xk_Po.ci3 rfl rfl (r_elementOf T0 hv h5 hk) ?_
  refine xk_Po.go 2 rfl ?_
  rw [s_fi v _]
  refine xk_Po.go 5 rfl ?_
  refine xk_Po.ok rfl rfl (xn_ix (j := 9 + (v * 10 + n_el (f (5 + v)) k * 2)) (by omega) (by omega)) ?_ -- 48 .iaload
  rw [xn_nat (j := 9 + (v * 10 + n_el (f (5 + v)) k * 2)) (by omega), T0.w (9 + (v * 10 + n_el (f (5 + v)) k * 2)) (by omega) (by omega)]
  refine xk_Po.ci2 rfl rfl (r_rd1 (by omega) h0 hb) ?_
  refine xk_Po.go 9 rfl ?_
  rw [show Int32.ofNat (9 + (v * 10 + n_el (f (5 + v)) k * 2)) + Int32.ofInt 1 = Int32.ofNat (9 + (v * 10 + n_el (f (5 + v)) k * 2 + 1)) from xn_suc _]
  refine xk_Po.ok rfl rfl (xn_ix (j := 9 + (v * 10 + n_el (f (5 + v)) k * 2 + 1)) (by omega) (by omega)) ?_ -- 60 .iaload
  rw [xn_nat (j := 9 + (v * 10 + n_el (f (5 + v)) k * 2 + 1)) (by omega), T0.w (9 + (v * 10 + n_el (f (5 + v)) k * 2 + 1)) (by omega) (by omega)]
  refine xk_Po.ci2 rfl rfl (r_rd1 (by omega) h1 hb) ?_
  refine xk_Po.go 11 rfl ?_
  refine xk_Po.ok rfl rfl (xn_ix (j := 9 + (v * 10 + n_el (f (5 + v)) k * 2)) (by omega) (by omega)) ?_ -- 79 .iaload
  rw [xn_nat (j := 9 + (v * 10 + n_el (f (5 + v)) k * 2)) (by omega), T0.w (9 + (v * 10 + n_el (f (5 + v)) k * 2)) (by omega) (by omega)]
  refine xk_Po.ci2 rfl rfl (r_rd1 (by omega) h0 hb) ?_
  refine xk_Po.go 12 rfl ?_
  refine xk_Po.ci3 rfl rfl (r_wordOf T0 hv h5 hk) ?_
  refine xk_Po.go 1 rfl ?_
  refine r_wlp (o := (true, (sl, ex, lf))) T0 hC hQ hcp (by omega) b2 (fun l8 l9 => ?_)
  rw [m_b_on, m_true ho]
  refine xk_Po.go 2 rfl ?_
  refine xk_Po.ci2 rfl rfl (r_ended1) ?_
  exact xk_Po.iret rfl (rfl)
theorem r_write1a_1 {v : Nat} (hv : v < 4) (hu : ¬ ta (5 + v) = 0) {f : Nat → Nat} (T0 : s_Tv ta f) (h5 : f (5 + v) ≠ 0) {k : Nat} (hk : k < 20) (hk4 : k < 4 * (f (5 + v) / 32)) (hb : ∀ i, pr i = 0 ∨ pr i = 1) {y : Int32} (h0 : n_rdb (f (9 + (v * 10 + n_el (f (5 + v)) k * 2))) pr) (h1 : f (9 + (v * 10 + n_el (f (5 + v)) k * 2 + 1)) = 0) {m x c : Nat} (hC : n_cp mo cT x) (hQ : n_cq cv cg m x) (hcp : x < 32 → cp = Int32.ofNat c ∧ c < 4) (ho : (m_seq (m_wr f m x c (n_wo (f (5 + v)) k) y (v * 10 + n_el (f (5 + v)) k * 2)) (m_wr f m x c (n_wo (f (5 + v)) k) y ((v * 10 + n_el (f (5 + v)) k * 2) + 1)) (sl, ex, lf)).1 = true) : xk_Ev (xp_P sc) 146 0 [.ref 10, .int (Int32.ofNat v), .int (Int32.ofNat k), .int y, .retAddr 0, .retAddr 0, .retAddr 0, .retAddr 0, .retAddr 0, .retAddr 0] [] (mw p th pr sl ex ta nx (1) lf mo cv cg cT cp r) (.inl (some (.int (1))), 0, mw p (0) pr ((m_seq (m_wr f m x c (n_wo (f (5 + v)) k) y (v * 10 + n_el (f (5 + v)) k * 2)) (m_wr f m x c (n_wo (f (5 + v)) k) y ((v * 10 + n_el (f (5 + v)) k * 2) + 1)) (sl, ex, lf)).2.1) ((m_seq (m_wr f m x c (n_wo (f (5 + v)) k) y (v * 10 + n_el (f (5 + v)) k * 2)) (m_wr f m x c (n_wo (f (5 + v)) k) y ((v * 10 + n_el (f (5 + v)) k * 2) + 1)) (sl, ex, lf)).2.2.1) ta nx (1) ((m_seq (m_wr f m x c (n_wo (f (5 + v)) k) y (v * 10 + n_el (f (5 + v)) k * 2)) (m_wr f m x c (n_wo (f (5 + v)) k) y ((v * 10 + n_el (f (5 + v)) k * 2) + 1)) (sl, ex, lf)).2.2.2) mo cv cg cT cp r) := by
  obtain ⟨b1, b2⟩ := s_elb _ (T0.v v hv) h5 k hk hk4
  have e5 := (s_dv_32 _ (T0.v v hv)).2
  have l0 := T0.l (v * 10 + n_el (f (5 + v)) k * 2) (by omega)
  have l1 := T0.l (v * 10 + n_el (f (5 + v)) k * 2 + 1) (by omega)
  apply xk_Ev.of
  refine xk_Po.go 6 rfl ?_
  refine xk_Po.ci2 rfl rfl (r_isVolume hv hu) ?_
  refine xk_Po.go 2 rfl ?_
  refine xk_Po.br rfl rfl (fun hZ => absurd hZ (xn_nneg (by omega))) (fun _ => ?_) -- 13 .ifCond .lt 22
  refine xk_Po.go 5 rfl ?_
  refine xk_Po.ci2 rfl rfl (t_elN T0 hv) ?_
  refine xk_Po.go 1 rfl ?_
  refine xk_Po.br rfl rfl (fun _ => ?_) (fun hZ => absurd (by rw [show Int32.ofInt 4 * Int32.ofNat (f (5 + v) / 32) = Int32.ofNat (4 * (f (5 + v) / 32)) from xn_mul 4 _]; exact (xn_lt (by omega) (by omega)).2 hk4) hZ) -- 21 .if_icmp .lt 24
  refine xk_Po.go 14 rfl ?_
  refine xk_Po.ci3 rfl rfl (r_elementOf T0 hv h5 hk) ?_
  refine xk_Po.go 2 rfl ?_
  rw [s_fi v _]
  refine xk_Po.go 5 rfl ?_
  refine xk_Po.ok rfl rfl (xn_ix (j := 9 + (v * 10 + n_el (f (5 + v)) k * 2)) (by omega) (by omega)) ?_ -- 48 .iaload
  rw [xn_nat (j := 9 + (v * 10 + n_el (f (5 + v)) k * 2)) (by omega), T0.w (9 + (v * 10 + n_el (f (5 + v)) k * 2)) (by omega) (by omega)]
  refine xk_Po.ci2 rfl rfl (r_rd1 (by omega) h0 hb) ?_
  refine xk_Po.go 9 rfl ?_
  rw [show Int32.ofNat (9 + (v * 10 + n_el (f (5 + v)) k * 2)) + Int32.ofInt 1 = Int32.ofNat (9 + (v * 10 + n_el (f (5 + v)) k * 2 + 1)) from xn_suc _]
  refine xk_Po.ok rfl rfl (xn_ix (j := 9 + (v * 10 + n_el (f (5 + v)) k * 2 + 1)) (by omega) (by omega)) ?_ -- 60 .iaload
  rw [xn_nat (j := 9 + (v * 10 + n_el (f (5 + v)) k * 2 + 1)) (by omega), T0.w (9 + (v * 10 + n_el (f (5 + v)) k * 2 + 1)) (by omega) (by omega)]
  refine xk_Po.ci2 rfl rfl (r_rd0 (by omega) (fun q => q.1 h1) hb) ?_
  refine xk_Po.go 10 rfl ?_
  refine xk_Po.ok rfl rfl (xn_ix (j := 9 + (v * 10 + n_el (f (5 + v)) k * 2)) (by omega) (by omega)) ?_ -- 79 .iaload
  rw [xn_nat (j := 9 + (v * 10 + n_el (f (5 + v)) k * 2)) (by omega), T0.w (9 + (v * 10 + n_el (f (5 + v)) k * 2)) (by omega) (by omega)]
  refine xk_Po.ci2 rfl rfl (r_rd1 (by omega) h0 hb) ?_
  refine xk_Po.go 4 rfl ?_
  rw [show Int32.ofNat (9 + (v * 10 + n_el (f (5 + v)) k * 2)) + Int32.ofInt 1 = Int32.ofNat (9 + (v * 10 + n_el (f (5 + v)) k * 2 + 1)) from xn_suc _]
  refine xk_Po.go 8 rfl ?_
  refine xk_Po.ok rfl rfl (xn_ix (j := 9 + (v * 10 + n_el (f (5 + v)) k * 2 + 1)) (by omega) (by omega)) ?_ -- 94 .iaload
  rw [xn_nat (j := 9 + (v * 10 + n_el (f (5 + v)) k * 2 + 1)) (by omega), T0.w (9 + (v * 10 + n_el (f (5 + v)) k * 2 + 1)) (by omega) (by omega)]
  refine xk_Po.br rfl rfl (fun _ => ?_) (fun hZ => absurd (by rw [h1]; exact Int32.le_refl _) hZ) -- 95 .ifCond .le 105
  refine xk_Po.go 3 rfl ?_
  refine xk_Po.ci3 rfl rfl (r_wordOf T0 hv h5 hk) ?_
  refine xk_Po.go 1 rfl ?_
  refine r_wlp (o := (true, (sl, ex, lf))) T0 hC hQ hcp (by omega) b2 (fun l8 l9 => ?_)
  rw [m_b_on, m_true ho]
  refine xk_Po.go 2 rfl ?_
  refine xk_Po.ci2 rfl rfl (r_ended1) ?_
  exact xk_Po.iret rfl (rfl)
theorem r_write1c_1 {v : Nat} (hv : v < 4) (hu : ¬ ta (5 + v) = 0) {f : Nat → Nat} (T0 : s_Tv ta f) (h5 : f (5 + v) ≠ 0) {k : Nat} (hk : k < 20) (hk4 : k < 4 * (f (5 + v) / 32)) (hb : ∀ i, pr i = 0 ∨ pr i = 1) {y : Int32} (h0 : f (9 + (v * 10 + n_el (f (5 + v)) k * 2)) = 0) (h1 : n_rdb (f (9 + (v * 10 + n_el (f (5 + v)) k * 2 + 1))) pr) {m x c : Nat} (hC : n_cp mo cT x) (hQ : n_cq cv cg m x) (hcp : x < 32 → cp = Int32.ofNat c ∧ c < 4) (ho : (m_seq (m_wr f m x c (n_wo (f (5 + v)) k) y (v * 10 + n_el (f (5 + v)) k * 2)) (m_wr f m x c (n_wo (f (5 + v)) k) y ((v * 10 + n_el (f (5 + v)) k * 2) + 1)) (sl, ex, lf)).1 = true) : xk_Ev (xp_P sc) 146 0 [.ref 10, .int (Int32.ofNat v), .int (Int32.ofNat k), .int y, .retAddr 0, .retAddr 0, .retAddr 0, .retAddr 0, .retAddr 0, .retAddr 0] [] (mw p th pr sl ex ta nx (1) lf mo cv cg cT cp r) (.inl (some (.int (1))), 0, mw p (0) pr ((m_seq (m_wr f m x c (n_wo (f (5 + v)) k) y (v * 10 + n_el (f (5 + v)) k * 2)) (m_wr f m x c (n_wo (f (5 + v)) k) y ((v * 10 + n_el (f (5 + v)) k * 2) + 1)) (sl, ex, lf)).2.1) ((m_seq (m_wr f m x c (n_wo (f (5 + v)) k) y (v * 10 + n_el (f (5 + v)) k * 2)) (m_wr f m x c (n_wo (f (5 + v)) k) y ((v * 10 + n_el (f (5 + v)) k * 2) + 1)) (sl, ex, lf)).2.2.1) ta nx (1) ((m_seq (m_wr f m x c (n_wo (f (5 + v)) k) y (v * 10 + n_el (f (5 + v)) k * 2)) (m_wr f m x c (n_wo (f (5 + v)) k) y ((v * 10 + n_el (f (5 + v)) k * 2) + 1)) (sl, ex, lf)).2.2.2) mo cv cg cT cp r) := by
  obtain ⟨b1, b2⟩ := s_elb _ (T0.v v hv) h5 k hk hk4
  have e5 := (s_dv_32 _ (T0.v v hv)).2
  have l0 := T0.l (v * 10 + n_el (f (5 + v)) k * 2) (by omega)
  have l1 := T0.l (v * 10 + n_el (f (5 + v)) k * 2 + 1) (by omega)
  apply xk_Ev.of
  refine xk_Po.go 6 rfl ?_
  refine xk_Po.ci2 rfl rfl (r_isVolume hv hu) ?_
  refine xk_Po.go 2 rfl ?_
  refine xk_Po.br rfl rfl (fun hZ => absurd hZ (xn_nneg (by omega))) (fun _ => ?_) -- 13 .ifCond .lt 22
  refine xk_Po.go 5 rfl ?_
  refine xk_Po.ci2 rfl rfl (t_elN T0 hv) ?_
  refine xk_Po.go 1 rfl ?_
  refine xk_Po.br rfl rfl (fun _ => ?_) (fun hZ => absurd (by rw [show Int32.ofInt 4 * Int32.ofNat (f (5 + v) / 32) = Int32.ofNat (4 * (f (5 + v) / 32)) from xn_mul 4 _]; exact (xn_lt (by omega) (by omega)).2 hk4) hZ) -- 21 .if_icmp .lt 24
  refine xk_Po.go 14 rfl ?_
  refine xk_Po.ci3 rfl rfl (r_elementOf T0 hv h5 hk) ?_
  refine xk_Po.go 2 rfl ?_
  rw [s_fi v _]
  refine xk_Po.go 5 rfl ?_
  refine xk_Po.ok rfl rfl (xn_ix (j := 9 + (v * 10 + n_el (f (5 + v)) k * 2)) (by omega) (by omega)) ?_ -- 48 .iaload
  rw [xn_nat (j := 9 + (v * 10 + n_el (f (5 + v)) k * 2)) (by omega), T0.w (9 + (v * 10 + n_el (f (5 + v)) k * 2)) (by omega) (by omega)]
  refine xk_Po.ci2 rfl rfl (r_rd0 (by omega) (fun q => q.1 h0) hb) ?_
  refine xk_Po.go 8 rfl ?_
  rw [show Int32.ofNat (9 + (v * 10 + n_el (f (5 + v)) k * 2)) + Int32.ofInt 1 = Int32.ofNat (9 + (v * 10 + n_el (f (5 + v)) k * 2 + 1)) from xn_suc _]
  refine xk_Po.ok rfl rfl (xn_ix (j := 9 + (v * 10 + n_el (f (5 + v)) k * 2 + 1)) (by omega) (by omega)) ?_ -- 60 .iaload
  rw [xn_nat (j := 9 + (v * 10 + n_el (f (5 + v)) k * 2 + 1)) (by omega), T0.w (9 + (v * 10 + n_el (f (5 + v)) k * 2 + 1)) (by omega) (by omega)]
  refine xk_Po.ci2 rfl rfl (r_rd1 (by omega) h1 hb) ?_
  refine xk_Po.go 11 rfl ?_
  refine xk_Po.ok rfl rfl (xn_ix (j := 9 + (v * 10 + n_el (f (5 + v)) k * 2)) (by omega) (by omega)) ?_ -- 79 .iaload
  rw [xn_nat (j := 9 + (v * 10 + n_el (f (5 + v)) k * 2)) (by omega), T0.w (9 + (v * 10 + n_el (f (5 + v)) k * 2)) (by omega) (by omega)]
  refine xk_Po.ci2 rfl rfl (r_rd0 (by omega) (fun q => q.1 h0) hb) ?_
  refine xk_Po.go 9 rfl ?_
  refine xk_Po.ok rfl rfl (xn_ix (j := 9 + (v * 10 + n_el (f (5 + v)) k * 2)) (by omega) (by omega)) ?_ -- 94 .iaload
  rw [xn_nat (j := 9 + (v * 10 + n_el (f (5 + v)) k * 2)) (by omega), T0.w (9 + (v * 10 + n_el (f (5 + v)) k * 2)) (by omega) (by omega)]
  refine xk_Po.br rfl rfl (fun _ => ?_) (fun hZ => absurd (by rw [h0]; exact Int32.le_refl _) hZ) -- 95 .ifCond .le 105
  refine xk_Po.go 3 rfl ?_
  refine xk_Po.ci3 rfl rfl (r_wordOf T0 hv h5 hk) ?_
  refine xk_Po.go 1 rfl ?_
  refine r_wlp (o := (true, (sl, ex, lf))) T0 hC hQ hcp (by omega) b2 (fun l8 l9 => ?_)
  rw [m_b_on, m_true ho]
  refine xk_Po.go 2 rfl ?_
  refine xk_Po.ci2 rfl rfl (r_ended1) ?_
  exact xk_Po.iret rfl (rfl)
theorem r_write2_0 {v : Nat} (hv : v < 4) (hu : ¬ ta (5 + v) = 0) {f : Nat → Nat} (T0 : s_Tv ta f) (h5 : f (5 + v) ≠ 0) {k : Nat} (hk : k < 20) (hk4 : k < 4 * (f (5 + v) / 32)) (hb : ∀ i, pr i = 0 ∨ pr i = 1) {y : Int32} (h0 : n_rdb (f (9 + (v * 10 + n_el (f (5 + v)) k * 2))) pr) (h1 : n_rdb (f (9 + (v * 10 + n_el (f (5 + v)) k * 2 + 1))) pr) {m x c : Nat} (hC : n_cp mo cT x) (hQ : n_cq cv cg m x) (hcp : x < 32 → cp = Int32.ofNat c ∧ c < 4) (ho : ¬ (m_seq (m_wr f m x c (n_wo (f (5 + v)) k) y (v * 10 + n_el (f (5 + v)) k * 2)) (m_wr f m x c (n_wo (f (5 + v)) k) y ((v * 10 + n_el (f (5 + v)) k * 2) + 1)) (sl, ex, lf)).1 = true) : xk_Ev (xp_P sc) 146 0 [.ref 10, .int (Int32.ofNat v), .int (Int32.ofNat k), .int y, .retAddr 0, .retAddr 0, .retAddr 0, .retAddr 0, .retAddr 0, .retAddr 0] [] (mw p th pr sl ex ta nx (1) lf mo cv cg cT cp r) (.inl (some (.int (0))), 0, mw p (1) pr ((m_seq (m_wr f m x c (n_wo (f (5 + v)) k) y (v * 10 + n_el (f (5 + v)) k * 2)) (m_wr f m x c (n_wo (f (5 + v)) k) y ((v * 10 + n_el (f (5 + v)) k * 2) + 1)) (sl, ex, lf)).2.1) ((m_seq (m_wr f m x c (n_wo (f (5 + v)) k) y (v * 10 + n_el (f (5 + v)) k * 2)) (m_wr f m x c (n_wo (f (5 + v)) k) y ((v * 10 + n_el (f (5 + v)) k * 2) + 1)) (sl, ex, lf)).2.2.1) ta nx (0) (-1) (-1) cv cg cT cp r) := by
  obtain ⟨b1, b2⟩ := s_elb _ (T0.v v hv) h5 k hk hk4
  have e5 := (s_dv_32 _ (T0.v v hv)).2
  have l0 := T0.l (v * 10 + n_el (f (5 + v)) k * 2) (by omega)
  have l1 := T0.l (v * 10 + n_el (f (5 + v)) k * 2 + 1) (by omega)
  apply xk_Ev.of
  refine xk_Po.go 6 rfl ?_
  refine xk_Po.ci2 rfl rfl (r_isVolume hv hu) ?_
  refine xk_Po.go 2 rfl ?_
  refine xk_Po.br rfl rfl (fun hZ => absurd hZ (xn_nneg (by omega))) (fun _ => ?_) -- 13 .ifCond .lt 22
  refine xk_Po.go 5 rfl ?_
  refine xk_Po.ci2 rfl rfl (t_elN T0 hv) ?_
  refine xk_Po.go 1 rfl ?_
  refine xk_Po.br rfl rfl (fun _ => ?_) (fun hZ => absurd (by rw [show Int32.ofInt 4 * Int32.ofNat (f (5 + v) / 32) = Int32.ofNat (4 * (f (5 + v) / 32)) from xn_mul 4 _]; exact (xn_lt (by omega) (by omega)).2 hk4) hZ) -- 21 .if_icmp .lt 24
  refine xk_Po.go 14 rfl ?_
  refine xk_Po.ci3 rfl rfl (r_elementOf T0 hv h5 hk) ?_
  refine xk_Po.go 2 rfl ?_
  rw [s_fi v _]
  refine xk_Po.go 5 rfl ?_
  refine xk_Po.ok rfl rfl (xn_ix (j := 9 + (v * 10 + n_el (f (5 + v)) k * 2)) (by omega) (by omega)) ?_ -- 48 .iaload
  rw [xn_nat (j := 9 + (v * 10 + n_el (f (5 + v)) k * 2)) (by omega), T0.w (9 + (v * 10 + n_el (f (5 + v)) k * 2)) (by omega) (by omega)]
  refine xk_Po.ci2 rfl rfl (r_rd1 (by omega) h0 hb) ?_
  refine xk_Po.go 9 rfl ?_
  rw [show Int32.ofNat (9 + (v * 10 + n_el (f (5 + v)) k * 2)) + Int32.ofInt 1 = Int32.ofNat (9 + (v * 10 + n_el (f (5 + v)) k * 2 + 1)) from xn_suc _]
  refine xk_Po.ok rfl rfl (xn_ix (j := 9 + (v * 10 + n_el (f (5 + v)) k * 2 + 1)) (by omega) (by omega)) ?_ -- 60 .iaload
  rw [xn_nat (j := 9 + (v * 10 + n_el (f (5 + v)) k * 2 + 1)) (by omega), T0.w (9 + (v * 10 + n_el (f (5 + v)) k * 2 + 1)) (by omega) (by omega)]
  refine xk_Po.ci2 rfl rfl (r_rd1 (by omega) h1 hb) ?_
  refine xk_Po.go 11 rfl ?_
  refine xk_Po.ok rfl rfl (xn_ix (j := 9 + (v * 10 + n_el (f (5 + v)) k * 2)) (by omega) (by omega)) ?_ -- 79 .iaload
  rw [xn_nat (j := 9 + (v * 10 + n_el (f (5 + v)) k * 2)) (by omega), T0.w (9 + (v * 10 + n_el (f (5 + v)) k * 2)) (by omega) (by omega)]
  refine xk_Po.ci2 rfl rfl (r_rd1 (by omega) h0 hb) ?_
  refine xk_Po.go 12 rfl ?_
  refine xk_Po.ci3 rfl rfl (r_wordOf T0 hv h5 hk) ?_
  refine xk_Po.go 1 rfl ?_
  refine r_wlp (o := (true, (sl, ex, lf))) T0 hC hQ hcp (by omega) b2 (fun l8 l9 => ?_)
  rw [m_b_on, mp_off ho]
  refine xk_Po.go 2 rfl ?_
  refine xk_Po.ci2 rfl rfl (r_ended0) ?_
  exact xk_Po.iret rfl (rfl)
theorem r_write1a_0 {v : Nat} (hv : v < 4) (hu : ¬ ta (5 + v) = 0) {f : Nat → Nat} (T0 : s_Tv ta f) (h5 : f (5 + v) ≠ 0) {k : Nat} (hk : k < 20) (hk4 : k < 4 * (f (5 + v) / 32)) (hb : ∀ i, pr i = 0 ∨ pr i = 1) {y : Int32} (h0 : n_rdb (f (9 + (v * 10 + n_el (f (5 + v)) k * 2))) pr) (h1 : f (9 + (v * 10 + n_el (f (5 + v)) k * 2 + 1)) = 0) {m x c : Nat} (hC : n_cp mo cT x) (hQ : n_cq cv cg m x) (hcp : x < 32 → cp = Int32.ofNat c ∧ c < 4) (ho : ¬ (m_seq (m_wr f m x c (n_wo (f (5 + v)) k) y (v * 10 + n_el (f (5 + v)) k * 2)) (m_wr f m x c (n_wo (f (5 + v)) k) y ((v * 10 + n_el (f (5 + v)) k * 2) + 1)) (sl, ex, lf)).1 = true) : xk_Ev (xp_P sc) 146 0 [.ref 10, .int (Int32.ofNat v), .int (Int32.ofNat k), .int y, .retAddr 0, .retAddr 0, .retAddr 0, .retAddr 0, .retAddr 0, .retAddr 0] [] (mw p th pr sl ex ta nx (1) lf mo cv cg cT cp r) (.inl (some (.int (0))), 0, mw p (1) pr ((m_seq (m_wr f m x c (n_wo (f (5 + v)) k) y (v * 10 + n_el (f (5 + v)) k * 2)) (m_wr f m x c (n_wo (f (5 + v)) k) y ((v * 10 + n_el (f (5 + v)) k * 2) + 1)) (sl, ex, lf)).2.1) ((m_seq (m_wr f m x c (n_wo (f (5 + v)) k) y (v * 10 + n_el (f (5 + v)) k * 2)) (m_wr f m x c (n_wo (f (5 + v)) k) y ((v * 10 + n_el (f (5 + v)) k * 2) + 1)) (sl, ex, lf)).2.2.1) ta nx (0) (-1) (-1) cv cg cT cp r) := by
  obtain ⟨b1, b2⟩ := s_elb _ (T0.v v hv) h5 k hk hk4
  have e5 := (s_dv_32 _ (T0.v v hv)).2
  have l0 := T0.l (v * 10 + n_el (f (5 + v)) k * 2) (by omega)
  have l1 := T0.l (v * 10 + n_el (f (5 + v)) k * 2 + 1) (by omega)
  apply xk_Ev.of
  refine xk_Po.go 6 rfl ?_
  refine xk_Po.ci2 rfl rfl (r_isVolume hv hu) ?_
  refine xk_Po.go 2 rfl ?_
  refine xk_Po.br rfl rfl (fun hZ => absurd hZ (xn_nneg (by omega))) (fun _ => ?_) -- 13 .ifCond .lt 22
  refine xk_Po.go 5 rfl ?_
  refine xk_Po.ci2 rfl rfl (t_elN T0 hv) ?_
  refine xk_Po.go 1 rfl ?_
  refine xk_Po.br rfl rfl (fun _ => ?_) (fun hZ => absurd (by rw [show Int32.ofInt 4 * Int32.ofNat (f (5 + v) / 32) = Int32.ofNat (4 * (f (5 + v) / 32)) from xn_mul 4 _]; exact (xn_lt (by omega) (by omega)).2 hk4) hZ) -- 21 .if_icmp .lt 24
  refine xk_Po.go 14 rfl ?_
  refine xk_Po.ci3 rfl rfl (r_elementOf T0 hv h5 hk) ?_
  refine xk_Po.go 2 rfl ?_
  rw [s_fi v _]
  refine xk_Po.go 5 rfl ?_
  refine xk_Po.ok rfl rfl (xn_ix (j := 9 + (v * 10 + n_el (f (5 + v)) k * 2)) (by omega) (by omega)) ?_ -- 48 .iaload
  rw [xn_nat (j := 9 + (v * 10 + n_el (f (5 + v)) k * 2)) (by omega), T0.w (9 + (v * 10 + n_el (f (5 + v)) k * 2)) (by omega) (by omega)]
  refine xk_Po.ci2 rfl rfl (r_rd1 (by omega) h0 hb) ?_
  refine xk_Po.go 9 rfl ?_
  rw [show Int32.ofNat (9 + (v * 10 + n_el (f (5 + v)) k * 2)) + Int32.ofInt 1 = Int32.ofNat (9 + (v * 10 + n_el (f (5 + v)) k * 2 + 1)) from xn_suc _]
  refine xk_Po.ok rfl rfl (xn_ix (j := 9 + (v * 10 + n_el (f (5 + v)) k * 2 + 1)) (by omega) (by omega)) ?_ -- 60 .iaload
  rw [xn_nat (j := 9 + (v * 10 + n_el (f (5 + v)) k * 2 + 1)) (by omega), T0.w (9 + (v * 10 + n_el (f (5 + v)) k * 2 + 1)) (by omega) (by omega)]
  refine xk_Po.ci2 rfl rfl (r_rd0 (by omega) (fun q => q.1 h1) hb) ?_
  refine xk_Po.go 10 rfl ?_
  refine xk_Po.ok rfl rfl (xn_ix (j := 9 + (v * 10 + n_el (f (5 + v)) k * 2)) (by omega) (by omega)) ?_ -- 79 .iaload
  rw [xn_nat (j := 9 + (v * 10 + n_el (f (5 + v)) k * 2)) (by omega), T0.w (9 + (v * 10 + n_el (f (5 + v)) k * 2)) (by omega) (by omega)]
  refine xk_Po.ci2 rfl rfl (r_rd1 (by omega) h0 hb) ?_
  refine xk_Po.go 4 rfl ?_
  rw [show Int32.ofNat (9 + (v * 10 + n_el (f (5 + v)) k * 2)) + Int32.ofInt 1 = Int32.ofNat (9 + (v * 10 + n_el (f (5 + v)) k * 2 + 1)) from xn_suc _]
  refine xk_Po.go 8 rfl ?_
  refine xk_Po.ok rfl rfl (xn_ix (j := 9 + (v * 10 + n_el (f (5 + v)) k * 2 + 1)) (by omega) (by omega)) ?_ -- 94 .iaload
  rw [xn_nat (j := 9 + (v * 10 + n_el (f (5 + v)) k * 2 + 1)) (by omega), T0.w (9 + (v * 10 + n_el (f (5 + v)) k * 2 + 1)) (by omega) (by omega)]
  refine xk_Po.br rfl rfl (fun _ => ?_) (fun hZ => absurd (by rw [h1]; exact Int32.le_refl _) hZ) -- 95 .ifCond .le 105
  refine xk_Po.go 3 rfl ?_
  refine xk_Po.ci3 rfl rfl (r_wordOf T0 hv h5 hk) ?_
  refine xk_Po.go 1 rfl ?_
  refine r_wlp (o := (true, (sl, ex, lf))) T0 hC hQ hcp (by omega) b2 (fun l8 l9 => ?_)
  rw [m_b_on, mp_off ho]
  refine xk_Po.go 2 rfl ?_
  refine xk_Po.ci2 rfl rfl (r_ended0) ?_
  exact xk_Po.iret rfl (rfl)
theorem r_write1c_0 {v : Nat} (hv : v < 4) (hu : ¬ ta (5 + v) = 0) {f : Nat → Nat} (T0 : s_Tv ta f) (h5 : f (5 + v) ≠ 0) {k : Nat} (hk : k < 20) (hk4 : k < 4 * (f (5 + v) / 32)) (hb : ∀ i, pr i = 0 ∨ pr i = 1) {y : Int32} (h0 : f (9 + (v * 10 + n_el (f (5 + v)) k * 2)) = 0) (h1 : n_rdb (f (9 + (v * 10 + n_el (f (5 + v)) k * 2 + 1))) pr) {m x c : Nat} (hC : n_cp mo cT x) (hQ : n_cq cv cg m x) (hcp : x < 32 → cp = Int32.ofNat c ∧ c < 4) (ho : ¬ (m_seq (m_wr f m x c (n_wo (f (5 + v)) k) y (v * 10 + n_el (f (5 + v)) k * 2)) (m_wr f m x c (n_wo (f (5 + v)) k) y ((v * 10 + n_el (f (5 + v)) k * 2) + 1)) (sl, ex, lf)).1 = true) : xk_Ev (xp_P sc) 146 0 [.ref 10, .int (Int32.ofNat v), .int (Int32.ofNat k), .int y, .retAddr 0, .retAddr 0, .retAddr 0, .retAddr 0, .retAddr 0, .retAddr 0] [] (mw p th pr sl ex ta nx (1) lf mo cv cg cT cp r) (.inl (some (.int (0))), 0, mw p (1) pr ((m_seq (m_wr f m x c (n_wo (f (5 + v)) k) y (v * 10 + n_el (f (5 + v)) k * 2)) (m_wr f m x c (n_wo (f (5 + v)) k) y ((v * 10 + n_el (f (5 + v)) k * 2) + 1)) (sl, ex, lf)).2.1) ((m_seq (m_wr f m x c (n_wo (f (5 + v)) k) y (v * 10 + n_el (f (5 + v)) k * 2)) (m_wr f m x c (n_wo (f (5 + v)) k) y ((v * 10 + n_el (f (5 + v)) k * 2) + 1)) (sl, ex, lf)).2.2.1) ta nx (0) (-1) (-1) cv cg cT cp r) := by
  obtain ⟨b1, b2⟩ := s_elb _ (T0.v v hv) h5 k hk hk4
  have e5 := (s_dv_32 _ (T0.v v hv)).2
  have l0 := T0.l (v * 10 + n_el (f (5 + v)) k * 2) (by omega)
  have l1 := T0.l (v * 10 + n_el (f (5 + v)) k * 2 + 1) (by omega)
  apply xk_Ev.of
  refine xk_Po.go 6 rfl ?_
  refine xk_Po.ci2 rfl rfl (r_isVolume hv hu) ?_
  refine xk_Po.go 2 rfl ?_
  refine xk_Po.br rfl rfl (fun hZ => absurd hZ (xn_nneg (by omega))) (fun _ => ?_) -- 13 .ifCond .lt 22
  refine xk_Po.go 5 rfl ?_
  refine xk_Po.ci2 rfl rfl (t_elN T0 hv) ?_
  refine xk_Po.go 1 rfl ?_
  refine xk_Po.br rfl rfl (fun _ => ?_) (fun hZ => absurd (by rw [show Int32.ofInt 4 * Int32.ofNat (f (5 + v) / 32) = Int32.ofNat (4 * (f (5 + v) / 32)) from xn_mul 4 _]; exact (xn_lt (by omega) (by omega)).2 hk4) hZ) -- 21 .if_icmp .lt 24
  refine xk_Po.go 14 rfl ?_
  refine xk_Po.ci3 rfl rfl (r_elementOf T0 hv h5 hk) ?_
  refine xk_Po.go 2 rfl ?_
  rw [s_fi v _]
  refine xk_Po.go 5 rfl ?_
  refine xk_Po.ok rfl rfl (xn_ix (j := 9 + (v * 10 + n_el (f (5 + v)) k * 2)) (by omega) (by omega)) ?_ -- 48 .iaload
  rw [xn_nat (j := 9 + (v * 10 + n_el (f (5 + v)) k * 2)) (by omega), T0.w (9 + (v * 10 + n_el (f (5 + v)) k * 2)) (by omega) (by omega)]
  refine xk_Po.ci2 rfl rfl (r_rd0 (by omega) (fun q => q.1 h0) hb) ?_
  refine xk_Po.go 8 rfl ?_
  rw [show Int32.ofNat (9 + (v * 10 + n_el (f (5 + v)) k * 2)) + Int32.ofInt 1 = Int32.ofNat (9 + (v * 10 + n_el (f (5 + v)) k * 2 + 1)) from xn_suc _]
  refine xk_Po.ok rfl rfl (xn_ix (j := 9 + (v * 10 + n_el (f (5 + v)) k * 2 + 1)) (by omega) (by omega)) ?_ -- 60 .iaload
  rw [xn_nat (j := 9 + (v * 10 + n_el (f (5 + v)) k * 2 + 1)) (by omega), T0.w (9 + (v * 10 + n_el (f (5 + v)) k * 2 + 1)) (by omega) (by omega)]
  refine xk_Po.ci2 rfl rfl (r_rd1 (by omega) h1 hb) ?_
  refine xk_Po.go 11 rfl ?_
  refine xk_Po.ok rfl rfl (xn_ix (j := 9 + (v * 10 + n_el (f (5 + v)) k * 2)) (by omega) (by omega)) ?_ -- 79 .iaload
  rw [xn_nat (j := 9 + (v * 10 + n_el (f (5 + v)) k * 2)) (by omega), T0.w (9 + (v * 10 + n_el (f (5 + v)) k * 2)) (by omega) (by omega)]
  refine xk_Po.ci2 rfl rfl (r_rd0 (by omega) (fun q => q.1 h0) hb) ?_
  refine xk_Po.go 9 rfl ?_
  refine xk_Po.ok rfl rfl (xn_ix (j := 9 + (v * 10 + n_el (f (5 + v)) k * 2)) (by omega) (by omega)) ?_ -- 94 .iaload
  rw [xn_nat (j := 9 + (v * 10 + n_el (f (5 + v)) k * 2)) (by omega), T0.w (9 + (v * 10 + n_el (f (5 + v)) k * 2)) (by omega) (by omega)]
  refine xk_Po.br rfl rfl (fun _ => ?_) (fun hZ => absurd (by rw [h0]; exact Int32.le_refl _) hZ) -- 95 .ifCond .le 105
  refine xk_Po.go 3 rfl ?_
  refine xk_Po.ci3 rfl rfl (r_wordOf T0 hv h5 hk) ?_
  refine xk_Po.go 1 rfl ?_
  refine r_wlp (o := (true, (sl, ex, lf))) T0 hC hQ hcp (by omega) b2 (fun l8 l9 => ?_)
  rw [m_b_on, mp_off ho]
  refine xk_Po.go 2 rfl ?_
  refine xk_Po.ci2 rfl rfl (r_ended0) ?_
  exact xk_Po.iret rfl (rfl)
theorem r_write1b_0 {v : Nat} (hv : v < 4) (hu : ¬ ta (5 + v) = 0) {f : Nat → Nat} (T0 : s_Tv ta f) (h5 : f (5 + v) ≠ 0) {k : Nat} (hk : k < 20) (hk4 : k < 4 * (f (5 + v) / 32)) (hb : ∀ i, pr i = 0 ∨ pr i = 1) {y : Int32} (h0 : n_rdb (f (9 + (v * 10 + n_el (f (5 + v)) k * 2))) pr) (h1 : ¬ n_rdb (f (9 + (v * 10 + n_el (f (5 + v)) k * 2 + 1))) pr) (hL : f (9 + (v * 10 + n_el (f (5 + v)) k * 2 + 1)) ≠ 0) {B : Nat} {ab : Nat → Int32} {n dN mN xN cN : Nat} (hmo : mo < 0) (O : s_On B sl ab ta f n dN mN xN cN) (hB : B + 2 < 2147483648) (hpr : pr = n_pr ab) (hnx : ∀ i, 51 ≤ i → nx i = 0) {a b : Nat} (ha : a < 4) (hb3 : b < 10) (hcv : cv = Int32.ofNat a) (hcg : cg = Int32.ofNat b) (T : s_Tv (upd ta (9 + ((v * 10 + n_el (f (5 + v)) k * 2) + 1)) 0) (n_up f (9 + ((v * 10 + n_el (f (5 + v)) k * 2) + 1)) 0)) (hall : ¬ n_all f ab) (ho : ¬ (m_com (s_seal (upd ta (9 + ((v * 10 + n_el (f (5 + v)) k * 2) + 1)) 0) (Int32.ofNat (n + 2))) ab (sl, ex, lf)).1 = true) : xk_Ev (xp_P sc) 146 0 [.ref 10, .int (Int32.ofNat v), .int (Int32.ofNat k), .int y, .retAddr 0, .retAddr 0, .retAddr 0, .retAddr 0, .retAddr 0, .retAddr 0] [] (mw p th pr sl ex ta nx (1) lf mo cv cg cT cp r) (.inl (some (.int (0))), 0, mw p (1) pr ((m_com (s_seal (upd ta (9 + ((v * 10 + n_el (f (5 + v)) k * 2) + 1)) 0) (Int32.ofNat (n + 2))) ab (sl, ex, lf)).2.1) ((m_com (s_seal (upd ta (9 + ((v * 10 + n_el (f (5 + v)) k * 2) + 1)) 0) (Int32.ofNat (n + 2))) ab (sl, ex, lf)).2.2.1) ta (s_seal (upd ta (9 + ((v * 10 + n_el (f (5 + v)) k * 2) + 1)) 0) (Int32.ofNat (n + 2))) (0) (-1) (-1) cv cg cT cp r) := by
  obtain ⟨b1, b2⟩ := s_elb _ (T0.v v hv) h5 k hk hk4
  have e5 := (s_dv_32 _ (T0.v v hv)).2
  have l0 := T0.l (v * 10 + n_el (f (5 + v)) k * 2) (by omega)
  have l1 := T0.l (v * 10 + n_el (f (5 + v)) k * 2 + 1) (by omega)
  apply xk_Ev.of
  refine xk_Po.go 6 rfl ?_
  refine xk_Po.ci2 rfl rfl (r_isVolume hv hu) ?_
  refine xk_Po.go 2 rfl ?_
  refine xk_Po.br rfl rfl (fun hZ => absurd hZ (xn_nneg (by omega))) (fun _ => ?_) -- 13 .ifCond .lt 22
  refine xk_Po.go 5 rfl ?_
  refine xk_Po.ci2 rfl rfl (t_elN T0 hv) ?_
  refine xk_Po.go 1 rfl ?_
  refine xk_Po.br rfl rfl (fun _ => ?_) (fun hZ => absurd (by rw [show Int32.ofInt 4 * Int32.ofNat (f (5 + v) / 32) = Int32.ofNat (4 * (f (5 + v) / 32)) from xn_mul 4 _]; exact (xn_lt (by omega) (by omega)).2 hk4) hZ) -- 21 .if_icmp .lt 24
  refine xk_Po.go 14 rfl ?_
  refine xk_Po.ci3 rfl rfl (r_elementOf T0 hv h5 hk) ?_
  refine xk_Po.go 2 rfl ?_
  rw [s_fi v _]
  refine xk_Po.go 5 rfl ?_
  refine xk_Po.ok rfl rfl (xn_ix (j := 9 + (v * 10 + n_el (f (5 + v)) k * 2)) (by omega) (by omega)) ?_ -- 48 .iaload
  rw [xn_nat (j := 9 + (v * 10 + n_el (f (5 + v)) k * 2)) (by omega), T0.w (9 + (v * 10 + n_el (f (5 + v)) k * 2)) (by omega) (by omega)]
  refine xk_Po.ci2 rfl rfl (r_rd1 (by omega) h0 hb) ?_
  refine xk_Po.go 9 rfl ?_
  rw [show Int32.ofNat (9 + (v * 10 + n_el (f (5 + v)) k * 2)) + Int32.ofInt 1 = Int32.ofNat (9 + (v * 10 + n_el (f (5 + v)) k * 2 + 1)) from xn_suc _]
  refine xk_Po.ok rfl rfl (xn_ix (j := 9 + (v * 10 + n_el (f (5 + v)) k * 2 + 1)) (by omega) (by omega)) ?_ -- 60 .iaload
  rw [xn_nat (j := 9 + (v * 10 + n_el (f (5 + v)) k * 2 + 1)) (by omega), T0.w (9 + (v * 10 + n_el (f (5 + v)) k * 2 + 1)) (by omega) (by omega)]
  refine xk_Po.ci2 rfl rfl (r_rd0 (by omega) h1 hb) ?_
  refine xk_Po.go 10 rfl ?_
  refine xk_Po.ok rfl rfl (xn_ix (j := 9 + (v * 10 + n_el (f (5 + v)) k * 2)) (by omega) (by omega)) ?_ -- 79 .iaload
  rw [xn_nat (j := 9 + (v * 10 + n_el (f (5 + v)) k * 2)) (by omega), T0.w (9 + (v * 10 + n_el (f (5 + v)) k * 2)) (by omega) (by omega)]
  refine xk_Po.ci2 rfl rfl (r_rd1 (by omega) h0 hb) ?_
  refine xk_Po.go 4 rfl ?_
  rw [show Int32.ofNat (9 + (v * 10 + n_el (f (5 + v)) k * 2)) + Int32.ofInt 1 = Int32.ofNat (9 + (v * 10 + n_el (f (5 + v)) k * 2 + 1)) from xn_suc _]
  refine xk_Po.go 8 rfl ?_
  refine xk_Po.ok rfl rfl (xn_ix (j := 9 + (v * 10 + n_el (f (5 + v)) k * 2 + 1)) (by omega) (by omega)) ?_ -- 94 .iaload
  rw [xn_nat (j := 9 + (v * 10 + n_el (f (5 + v)) k * 2 + 1)) (by omega), T0.w (9 + (v * 10 + n_el (f (5 + v)) k * 2 + 1)) (by omega) (by omega)]
  refine xk_Po.br rfl rfl (fun hZ => absurd hZ (fun q => hL ((xn_le0 (by omega)).1 q))) (fun _ => ?_) -- 95 .ifCond .le 105
  refine xk_Po.go 1 rfl ?_
  refine xk_Po.cv1 rfl rfl (r_begin T0.z hnx) ?_
  refine xk_Po.go 4 rfl ?_
  refine xk_Po.ok rfl rfl (xn_ix (j := 9 + (v * 10 + n_el (f (5 + v)) k * 2 + 1)) (by omega) (by omega)) ?_ -- 102 .iastore
  rw [xn_nat (j := 9 + ((v * 10 + n_el (f (5 + v)) k * 2) + 1)) (by omega)]
  refine xk_Po.go 1 rfl ?_
  refine xk_Po.cv1 rfl rfl (r_chg0 O T hB hpr (.inr ⟨rfl, hall⟩) ha hb3 hcv hcg ho) ?_
  refine xk_Po.go 3 rfl ?_
  refine xk_Po.ci3 rfl rfl (r_wordOf T0 hv h5 hk) ?_
  refine xk_Po.go 7 rfl ?_
  refine xk_Po.br rfl rfl (fun hZ => absurd hZ (fun q => absurd (by rw [show Int32.ofNat (9 + (v * 10 + n_el (f (5 + v)) k * 2)) + Int32.ofInt 2 = Int32.ofNat (9 + (v * 10 + n_el (f (5 + v)) k * 2) + 2) from xn_add _ 2] at q; exact (xn_le (by omega) (by omega)).1 q) (show ¬ 9 + (v * 10 + n_el (f (5 + v)) k * 2) + 2 ≤ 9 + (v * 10 + n_el (f (5 + v)) k * 2) by omega))) (fun _ => ?_) -- 116 .if_icmp .ge 173
  refine xk_Po.go 5 rfl ?_
  refine xk_Po.ci2 rfl rfl (r_ended0) ?_
  exact xk_Po.iret rfl (rfl)
theorem r_write1b_2 {v : Nat} (hv : v < 4) (hu : ¬ ta (5 + v) = 0) {f : Nat → Nat} (T0 : s_Tv ta f) (h5 : f (5 + v) ≠ 0) {k : Nat} (hk : k < 20) (hk4 : k < 4 * (f (5 + v) / 32)) (hb : ∀ i, pr i = 0 ∨ pr i = 1) {y : Int32} (h0 : n_rdb (f (9 + (v * 10 + n_el (f (5 + v)) k * 2))) pr) (h1 : ¬ n_rdb (f (9 + (v * 10 + n_el (f (5 + v)) k * 2 + 1))) pr) (hL : f (9 + (v * 10 + n_el (f (5 + v)) k * 2 + 1)) ≠ 0) {B : Nat} {ab : Nat → Int32} {n dN mN xN cN : Nat} (hmo : mo < 0) (O : s_On B sl ab ta f n dN mN xN cN) (hB : B + 2 < 2147483648) (hpr : pr = n_pr ab) (hnx : ∀ i, 51 ≤ i → nx i = 0) {a b : Nat} (ha : a < 4) (hb3 : b < 10) (hcv : cv = Int32.ofNat a) (hcg : cg = Int32.ofNat b) (T : s_Tv (upd ta (9 + ((v * 10 + n_el (f (5 + v)) k * 2) + 1)) 0) (n_up f (9 + ((v * 10 + n_el (f (5 + v)) k * 2) + 1)) 0)) (hall : ¬ n_all f ab) (ho : (m_com (s_seal (upd ta (9 + ((v * 10 + n_el (f (5 + v)) k * 2) + 1)) 0) (Int32.ofNat (n + 2))) ab (sl, ex, lf)).1 = true) (ho2 : (m_seq (m_wr (n_up f (9 + ((v * 10 + n_el (f (5 + v)) k * 2) + 1)) 0) 40 32 0 (n_wo ((n_up f (9 + ((v * 10 + n_el (f (5 + v)) k * 2) + 1)) 0) (5 + v)) k) y (v * 10 + n_el (f (5 + v)) k * 2)) (m_wr (n_up f (9 + ((v * 10 + n_el (f (5 + v)) k * 2) + 1)) 0) 40 32 0 (n_wo ((n_up f (9 + ((v * 10 + n_el (f (5 + v)) k * 2) + 1)) 0) (5 + v)) k) y ((v * 10 + n_el (f (5 + v)) k * 2) + 1)) ((m_com (s_seal (upd ta (9 + ((v * 10 + n_el (f (5 + v)) k * 2) + 1)) 0) (Int32.ofNat (n + 2))) ab (sl, ex, lf)).2.1, (m_com (s_seal (upd ta (9 + ((v * 10 + n_el (f (5 + v)) k * 2) + 1)) 0) (Int32.ofNat (n + 2))) ab (sl, ex, lf)).2.2.1, (m_com (s_seal (upd ta (9 + ((v * 10 + n_el (f (5 + v)) k * 2) + 1)) 0) (Int32.ofNat (n + 2))) ab (sl, ex, lf)).2.2.2)).1 = true) : xk_Ev (xp_P sc) 146 0 [.ref 10, .int (Int32.ofNat v), .int (Int32.ofNat k), .int y, .retAddr 0, .retAddr 0, .retAddr 0, .retAddr 0, .retAddr 0, .retAddr 0] [] (mw p th pr sl ex ta nx (1) lf mo cv cg cT cp r) (.inl (some (.int (1))), 0, mw p (0) pr ((m_seq (m_wr (n_up f (9 + ((v * 10 + n_el (f (5 + v)) k * 2) + 1)) 0) 40 32 0 (n_wo ((n_up f (9 + ((v * 10 + n_el (f (5 + v)) k * 2) + 1)) 0) (5 + v)) k) y (v * 10 + n_el (f (5 + v)) k * 2)) (m_wr (n_up f (9 + ((v * 10 + n_el (f (5 + v)) k * 2) + 1)) 0) 40 32 0 (n_wo ((n_up f (9 + ((v * 10 + n_el (f (5 + v)) k * 2) + 1)) 0) (5 + v)) k) y ((v * 10 + n_el (f (5 + v)) k * 2) + 1)) ((m_com (s_seal (upd ta (9 + ((v * 10 + n_el (f (5 + v)) k * 2) + 1)) 0) (Int32.ofNat (n + 2))) ab (sl, ex, lf)).2.1, (m_com (s_seal (upd ta (9 + ((v * 10 + n_el (f (5 + v)) k * 2) + 1)) 0) (Int32.ofNat (n + 2))) ab (sl, ex, lf)).2.2.1, (m_com (s_seal (upd ta (9 + ((v * 10 + n_el (f (5 + v)) k * 2) + 1)) 0) (Int32.ofNat (n + 2))) ab (sl, ex, lf)).2.2.2)).2.1) ((m_seq (m_wr (n_up f (9 + ((v * 10 + n_el (f (5 + v)) k * 2) + 1)) 0) 40 32 0 (n_wo ((n_up f (9 + ((v * 10 + n_el (f (5 + v)) k * 2) + 1)) 0) (5 + v)) k) y (v * 10 + n_el (f (5 + v)) k * 2)) (m_wr (n_up f (9 + ((v * 10 + n_el (f (5 + v)) k * 2) + 1)) 0) 40 32 0 (n_wo ((n_up f (9 + ((v * 10 + n_el (f (5 + v)) k * 2) + 1)) 0) (5 + v)) k) y ((v * 10 + n_el (f (5 + v)) k * 2) + 1)) ((m_com (s_seal (upd ta (9 + ((v * 10 + n_el (f (5 + v)) k * 2) + 1)) 0) (Int32.ofNat (n + 2))) ab (sl, ex, lf)).2.1, (m_com (s_seal (upd ta (9 + ((v * 10 + n_el (f (5 + v)) k * 2) + 1)) 0) (Int32.ofNat (n + 2))) ab (sl, ex, lf)).2.2.1, (m_com (s_seal (upd ta (9 + ((v * 10 + n_el (f (5 + v)) k * 2) + 1)) 0) (Int32.ofNat (n + 2))) ab (sl, ex, lf)).2.2.2)).2.2.1) (s_seal (upd ta (9 + ((v * 10 + n_el (f (5 + v)) k * 2) + 1)) 0) (Int32.ofNat (n + 2))) (s_seal (upd ta (9 + ((v * 10 + n_el (f (5 + v)) k * 2) + 1)) 0) (Int32.ofNat (n + 2))) (1) ((m_seq (m_wr (n_up f (9 + ((v * 10 + n_el (f (5 + v)) k * 2) + 1)) 0) 40 32 0 (n_wo ((n_up f (9 + ((v * 10 + n_el (f (5 + v)) k * 2) + 1)) 0) (5 + v)) k) y (v * 10 + n_el (f (5 + v)) k * 2)) (m_wr (n_up f (9 + ((v * 10 + n_el (f (5 + v)) k * 2) + 1)) 0) 40 32 0 (n_wo ((n_up f (9 + ((v * 10 + n_el (f (5 + v)) k * 2) + 1)) 0) (5 + v)) k) y ((v * 10 + n_el (f (5 + v)) k * 2) + 1)) ((m_com (s_seal (upd ta (9 + ((v * 10 + n_el (f (5 + v)) k * 2) + 1)) 0) (Int32.ofNat (n + 2))) ab (sl, ex, lf)).2.1, (m_com (s_seal (upd ta (9 + ((v * 10 + n_el (f (5 + v)) k * 2) + 1)) 0) (Int32.ofNat (n + 2))) ab (sl, ex, lf)).2.2.1, (m_com (s_seal (upd ta (9 + ((v * 10 + n_el (f (5 + v)) k * 2) + 1)) 0) (Int32.ofNat (n + 2))) ab (sl, ex, lf)).2.2.2)).2.2.2) mo cv cg (p_cT (s_seal (upd ta (9 + ((v * 10 + n_el (f (5 + v)) k * 2) + 1)) 0) (Int32.ofNat (n + 2))) ta cT (9 + (a * 10 + b))) cp r) := by
  obtain ⟨b1, b2⟩ := s_elb _ (T0.v v hv) h5 k hk hk4
  have e5 := (s_dv_32 _ (T0.v v hv)).2
  have l0 := T0.l (v * 10 + n_el (f (5 + v)) k * 2) (by omega)
  have l1 := T0.l (v * 10 + n_el (f (5 + v)) k * 2 + 1) (by omega)
  have TD : s_Tv (s_seal (upd ta (9 + ((v * 10 + n_el (f (5 + v)) k * 2) + 1)) 0) (Int32.ofNat (n + 2))) (n_up f (9 + ((v * 10 + n_el (f (5 + v)) k * 2) + 1)) 0) := s_seal_Tv T
  have hg5 : (n_up f (9 + ((v * 10 + n_el (f (5 + v)) k * 2) + 1)) 0) (5 + v) = f (5 + v) := n_up_ne (by omega)
  apply xk_Ev.of
  refine xk_Po.go 6 rfl ?_
  refine xk_Po.ci2 rfl rfl (r_isVolume hv hu) ?_
  refine xk_Po.go 2 rfl ?_
  refine xk_Po.br rfl rfl (fun hZ => absurd hZ (xn_nneg (by omega))) (fun _ => ?_) -- 13 .ifCond .lt 22
  refine xk_Po.go 5 rfl ?_
  refine xk_Po.ci2 rfl rfl (t_elN T0 hv) ?_
  refine xk_Po.go 1 rfl ?_
  refine xk_Po.br rfl rfl (fun _ => ?_) (fun hZ => absurd (by rw [show Int32.ofInt 4 * Int32.ofNat (f (5 + v) / 32) = Int32.ofNat (4 * (f (5 + v) / 32)) from xn_mul 4 _]; exact (xn_lt (by omega) (by omega)).2 hk4) hZ) -- 21 .if_icmp .lt 24
  refine xk_Po.go 14 rfl ?_
  refine xk_Po.ci3 rfl rfl (r_elementOf T0 hv h5 hk) ?_
  refine xk_Po.go 2 rfl ?_
  rw [s_fi v _]
  refine xk_Po.go 5 rfl ?_
  refine xk_Po.ok rfl rfl (xn_ix (j := 9 + (v * 10 + n_el (f (5 + v)) k * 2)) (by omega) (by omega)) ?_ -- 48 .iaload
  rw [xn_nat (j := 9 + (v * 10 + n_el (f (5 + v)) k * 2)) (by omega), T0.w (9 + (v * 10 + n_el (f (5 + v)) k * 2)) (by omega) (by omega)]
  refine xk_Po.ci2 rfl rfl (r_rd1 (by omega) h0 hb) ?_
  refine xk_Po.go 9 rfl ?_
  rw [show Int32.ofNat (9 + (v * 10 + n_el (f (5 + v)) k * 2)) + Int32.ofInt 1 = Int32.ofNat (9 + (v * 10 + n_el (f (5 + v)) k * 2 + 1)) from xn_suc _]
  refine xk_Po.ok rfl rfl (xn_ix (j := 9 + (v * 10 + n_el (f (5 + v)) k * 2 + 1)) (by omega) (by omega)) ?_ -- 60 .iaload
  rw [xn_nat (j := 9 + (v * 10 + n_el (f (5 + v)) k * 2 + 1)) (by omega), T0.w (9 + (v * 10 + n_el (f (5 + v)) k * 2 + 1)) (by omega) (by omega)]
  refine xk_Po.ci2 rfl rfl (r_rd0 (by omega) h1 hb) ?_
  refine xk_Po.go 10 rfl ?_
  refine xk_Po.ok rfl rfl (xn_ix (j := 9 + (v * 10 + n_el (f (5 + v)) k * 2)) (by omega) (by omega)) ?_ -- 79 .iaload
  rw [xn_nat (j := 9 + (v * 10 + n_el (f (5 + v)) k * 2)) (by omega), T0.w (9 + (v * 10 + n_el (f (5 + v)) k * 2)) (by omega) (by omega)]
  refine xk_Po.ci2 rfl rfl (r_rd1 (by omega) h0 hb) ?_
  refine xk_Po.go 4 rfl ?_
  rw [show Int32.ofNat (9 + (v * 10 + n_el (f (5 + v)) k * 2)) + Int32.ofInt 1 = Int32.ofNat (9 + (v * 10 + n_el (f (5 + v)) k * 2 + 1)) from xn_suc _]
  refine xk_Po.go 8 rfl ?_
  refine xk_Po.ok rfl rfl (xn_ix (j := 9 + (v * 10 + n_el (f (5 + v)) k * 2 + 1)) (by omega) (by omega)) ?_ -- 94 .iaload
  rw [xn_nat (j := 9 + (v * 10 + n_el (f (5 + v)) k * 2 + 1)) (by omega), T0.w (9 + (v * 10 + n_el (f (5 + v)) k * 2 + 1)) (by omega) (by omega)]
  refine xk_Po.br rfl rfl (fun hZ => absurd hZ (fun q => hL ((xn_le0 (by omega)).1 q))) (fun _ => ?_) -- 95 .ifCond .le 105
  refine xk_Po.go 1 rfl ?_
  refine xk_Po.cv1 rfl rfl (r_begin T0.z hnx) ?_
  refine xk_Po.go 4 rfl ?_
  refine xk_Po.ok rfl rfl (xn_ix (j := 9 + (v * 10 + n_el (f (5 + v)) k * 2 + 1)) (by omega) (by omega)) ?_ -- 102 .iastore
  rw [xn_nat (j := 9 + ((v * 10 + n_el (f (5 + v)) k * 2) + 1)) (by omega)]
  refine xk_Po.go 1 rfl ?_
  refine xk_Po.cv1 rfl rfl (r_chg1 O T hB hpr (.inr ⟨rfl, hall⟩) ha hb3 hcv hcg ho) ?_
  refine xk_Po.go 3 rfl ?_
  refine xk_Po.ci3 rfl rfl (r_wordOf TD hv (by rw [hg5]; exact h5) hk) ?_
  refine xk_Po.go 1 rfl ?_
  refine r_wlp (m := 40) (x := 32) (c := 0) (o := (true, ((m_com (s_seal (upd ta (9 + ((v * 10 + n_el (f (5 + v)) k * 2) + 1)) 0) (Int32.ofNat (n + 2))) ab (sl, ex, lf)).2.1, (m_com (s_seal (upd ta (9 + ((v * 10 + n_el (f (5 + v)) k * 2) + 1)) 0) (Int32.ofNat (n + 2))) ab (sl, ex, lf)).2.2.1, (m_com (s_seal (upd ta (9 + ((v * 10 + n_el (f (5 + v)) k * 2) + 1)) 0) (Int32.ofNat (n + 2))) ab (sl, ex, lf)).2.2.2))) TD ⟨fun q => absurd q (by omega), fun _ => .inl hmo⟩ ⟨⟨fun q => absurd q (by omega), fun q => absurd q (by omega)⟩, fun q => absurd q (by omega)⟩ (fun q => absurd q (by omega)) (by omega) (by rw [hg5]; exact b2) (fun l8 l9 => ?_)
  rw [m_b_on, m_true ho2]
  refine xk_Po.go 2 rfl ?_
  refine xk_Po.ci2 rfl rfl (r_ended1) ?_
  exact xk_Po.iret rfl (rfl)
theorem r_write1b_1 {v : Nat} (hv : v < 4) (hu : ¬ ta (5 + v) = 0) {f : Nat → Nat} (T0 : s_Tv ta f) (h5 : f (5 + v) ≠ 0) {k : Nat} (hk : k < 20) (hk4 : k < 4 * (f (5 + v) / 32)) (hb : ∀ i, pr i = 0 ∨ pr i = 1) {y : Int32} (h0 : n_rdb (f (9 + (v * 10 + n_el (f (5 + v)) k * 2))) pr) (h1 : ¬ n_rdb (f (9 + (v * 10 + n_el (f (5 + v)) k * 2 + 1))) pr) (hL : f (9 + (v * 10 + n_el (f (5 + v)) k * 2 + 1)) ≠ 0) {B : Nat} {ab : Nat → Int32} {n dN mN xN cN : Nat} (hmo : mo < 0) (O : s_On B sl ab ta f n dN mN xN cN) (hB : B + 2 < 2147483648) (hpr : pr = n_pr ab) (hnx : ∀ i, 51 ≤ i → nx i = 0) {a b : Nat} (ha : a < 4) (hb3 : b < 10) (hcv : cv = Int32.ofNat a) (hcg : cg = Int32.ofNat b) (T : s_Tv (upd ta (9 + ((v * 10 + n_el (f (5 + v)) k * 2) + 1)) 0) (n_up f (9 + ((v * 10 + n_el (f (5 + v)) k * 2) + 1)) 0)) (hall : ¬ n_all f ab) (ho : (m_com (s_seal (upd ta (9 + ((v * 10 + n_el (f (5 + v)) k * 2) + 1)) 0) (Int32.ofNat (n + 2))) ab (sl, ex, lf)).1 = true) (ho2 : ¬ (m_seq (m_wr (n_up f (9 + ((v * 10 + n_el (f (5 + v)) k * 2) + 1)) 0) 40 32 0 (n_wo ((n_up f (9 + ((v * 10 + n_el (f (5 + v)) k * 2) + 1)) 0) (5 + v)) k) y (v * 10 + n_el (f (5 + v)) k * 2)) (m_wr (n_up f (9 + ((v * 10 + n_el (f (5 + v)) k * 2) + 1)) 0) 40 32 0 (n_wo ((n_up f (9 + ((v * 10 + n_el (f (5 + v)) k * 2) + 1)) 0) (5 + v)) k) y ((v * 10 + n_el (f (5 + v)) k * 2) + 1)) ((m_com (s_seal (upd ta (9 + ((v * 10 + n_el (f (5 + v)) k * 2) + 1)) 0) (Int32.ofNat (n + 2))) ab (sl, ex, lf)).2.1, (m_com (s_seal (upd ta (9 + ((v * 10 + n_el (f (5 + v)) k * 2) + 1)) 0) (Int32.ofNat (n + 2))) ab (sl, ex, lf)).2.2.1, (m_com (s_seal (upd ta (9 + ((v * 10 + n_el (f (5 + v)) k * 2) + 1)) 0) (Int32.ofNat (n + 2))) ab (sl, ex, lf)).2.2.2)).1 = true) : xk_Ev (xp_P sc) 146 0 [.ref 10, .int (Int32.ofNat v), .int (Int32.ofNat k), .int y, .retAddr 0, .retAddr 0, .retAddr 0, .retAddr 0, .retAddr 0, .retAddr 0] [] (mw p th pr sl ex ta nx (1) lf mo cv cg cT cp r) (.inl (some (.int (0))), 0, mw p (1) pr ((m_seq (m_wr (n_up f (9 + ((v * 10 + n_el (f (5 + v)) k * 2) + 1)) 0) 40 32 0 (n_wo ((n_up f (9 + ((v * 10 + n_el (f (5 + v)) k * 2) + 1)) 0) (5 + v)) k) y (v * 10 + n_el (f (5 + v)) k * 2)) (m_wr (n_up f (9 + ((v * 10 + n_el (f (5 + v)) k * 2) + 1)) 0) 40 32 0 (n_wo ((n_up f (9 + ((v * 10 + n_el (f (5 + v)) k * 2) + 1)) 0) (5 + v)) k) y ((v * 10 + n_el (f (5 + v)) k * 2) + 1)) ((m_com (s_seal (upd ta (9 + ((v * 10 + n_el (f (5 + v)) k * 2) + 1)) 0) (Int32.ofNat (n + 2))) ab (sl, ex, lf)).2.1, (m_com (s_seal (upd ta (9 + ((v * 10 + n_el (f (5 + v)) k * 2) + 1)) 0) (Int32.ofNat (n + 2))) ab (sl, ex, lf)).2.2.1, (m_com (s_seal (upd ta (9 + ((v * 10 + n_el (f (5 + v)) k * 2) + 1)) 0) (Int32.ofNat (n + 2))) ab (sl, ex, lf)).2.2.2)).2.1) ((m_seq (m_wr (n_up f (9 + ((v * 10 + n_el (f (5 + v)) k * 2) + 1)) 0) 40 32 0 (n_wo ((n_up f (9 + ((v * 10 + n_el (f (5 + v)) k * 2) + 1)) 0) (5 + v)) k) y (v * 10 + n_el (f (5 + v)) k * 2)) (m_wr (n_up f (9 + ((v * 10 + n_el (f (5 + v)) k * 2) + 1)) 0) 40 32 0 (n_wo ((n_up f (9 + ((v * 10 + n_el (f (5 + v)) k * 2) + 1)) 0) (5 + v)) k) y ((v * 10 + n_el (f (5 + v)) k * 2) + 1)) ((m_com (s_seal (upd ta (9 + ((v * 10 + n_el (f (5 + v)) k * 2) + 1)) 0) (Int32.ofNat (n + 2))) ab (sl, ex, lf)).2.1, (m_com (s_seal (upd ta (9 + ((v * 10 + n_el (f (5 + v)) k * 2) + 1)) 0) (Int32.ofNat (n + 2))) ab (sl, ex, lf)).2.2.1, (m_com (s_seal (upd ta (9 + ((v * 10 + n_el (f (5 + v)) k * 2) + 1)) 0) (Int32.ofNat (n + 2))) ab (sl, ex, lf)).2.2.2)).2.2.1) (s_seal (upd ta (9 + ((v * 10 + n_el (f (5 + v)) k * 2) + 1)) 0) (Int32.ofNat (n + 2))) (s_seal (upd ta (9 + ((v * 10 + n_el (f (5 + v)) k * 2) + 1)) 0) (Int32.ofNat (n + 2))) (0) (-1) (-1) cv cg (p_cT (s_seal (upd ta (9 + ((v * 10 + n_el (f (5 + v)) k * 2) + 1)) 0) (Int32.ofNat (n + 2))) ta cT (9 + (a * 10 + b))) cp r) := by
  obtain ⟨b1, b2⟩ := s_elb _ (T0.v v hv) h5 k hk hk4
  have e5 := (s_dv_32 _ (T0.v v hv)).2
  have l0 := T0.l (v * 10 + n_el (f (5 + v)) k * 2) (by omega)
  have l1 := T0.l (v * 10 + n_el (f (5 + v)) k * 2 + 1) (by omega)
  have TD : s_Tv (s_seal (upd ta (9 + ((v * 10 + n_el (f (5 + v)) k * 2) + 1)) 0) (Int32.ofNat (n + 2))) (n_up f (9 + ((v * 10 + n_el (f (5 + v)) k * 2) + 1)) 0) := s_seal_Tv T
  have hg5 : (n_up f (9 + ((v * 10 + n_el (f (5 + v)) k * 2) + 1)) 0) (5 + v) = f (5 + v) := n_up_ne (by omega)
  apply xk_Ev.of
  refine xk_Po.go 6 rfl ?_
  refine xk_Po.ci2 rfl rfl (r_isVolume hv hu) ?_
  refine xk_Po.go 2 rfl ?_
  refine xk_Po.br rfl rfl (fun hZ => absurd hZ (xn_nneg (by omega))) (fun _ => ?_) -- 13 .ifCond .lt 22
  refine xk_Po.go 5 rfl ?_
  refine xk_Po.ci2 rfl rfl (t_elN T0 hv) ?_
  refine xk_Po.go 1 rfl ?_
  refine xk_Po.br rfl rfl (fun _ => ?_) (fun hZ => absurd (by rw [show Int32.ofInt 4 * Int32.ofNat (f (5 + v) / 32) = Int32.ofNat (4 * (f (5 + v) / 32)) from xn_mul 4 _]; exact (xn_lt (by omega) (by omega)).2 hk4) hZ) -- 21 .if_icmp .lt 24
  refine xk_Po.go 14 rfl ?_
  refine xk_Po.ci3 rfl rfl (r_elementOf T0 hv h5 hk) ?_
  refine xk_Po.go 2 rfl ?_
  rw [s_fi v _]
  refine xk_Po.go 5 rfl ?_
  refine xk_Po.ok rfl rfl (xn_ix (j := 9 + (v * 10 + n_el (f (5 + v)) k * 2)) (by omega) (by omega)) ?_ -- 48 .iaload
  rw [xn_nat (j := 9 + (v * 10 + n_el (f (5 + v)) k * 2)) (by omega), T0.w (9 + (v * 10 + n_el (f (5 + v)) k * 2)) (by omega) (by omega)]
  refine xk_Po.ci2 rfl rfl (r_rd1 (by omega) h0 hb) ?_
  refine xk_Po.go 9 rfl ?_
  rw [show Int32.ofNat (9 + (v * 10 + n_el (f (5 + v)) k * 2)) + Int32.ofInt 1 = Int32.ofNat (9 + (v * 10 + n_el (f (5 + v)) k * 2 + 1)) from xn_suc _]
  refine xk_Po.ok rfl rfl (xn_ix (j := 9 + (v * 10 + n_el (f (5 + v)) k * 2 + 1)) (by omega) (by omega)) ?_ -- 60 .iaload
  rw [xn_nat (j := 9 + (v * 10 + n_el (f (5 + v)) k * 2 + 1)) (by omega), T0.w (9 + (v * 10 + n_el (f (5 + v)) k * 2 + 1)) (by omega) (by omega)]
  refine xk_Po.ci2 rfl rfl (r_rd0 (by omega) h1 hb) ?_
  refine xk_Po.go 10 rfl ?_
  refine xk_Po.ok rfl rfl (xn_ix (j := 9 + (v * 10 + n_el (f (5 + v)) k * 2)) (by omega) (by omega)) ?_ -- 79 .iaload
  rw [xn_nat (j := 9 + (v * 10 + n_el (f (5 + v)) k * 2)) (by omega), T0.w (9 + (v * 10 + n_el (f (5 + v)) k * 2)) (by omega) (by omega)]
  refine xk_Po.ci2 rfl rfl (r_rd1 (by omega) h0 hb) ?_
  refine xk_Po.go 4 rfl ?_
  rw [show Int32.ofNat (9 + (v * 10 + n_el (f (5 + v)) k * 2)) + Int32.ofInt 1 = Int32.ofNat (9 + (v * 10 + n_el (f (5 + v)) k * 2 + 1)) from xn_suc _]
  refine xk_Po.go 8 rfl ?_
  refine xk_Po.ok rfl rfl (xn_ix (j := 9 + (v * 10 + n_el (f (5 + v)) k * 2 + 1)) (by omega) (by omega)) ?_ -- 94 .iaload
  rw [xn_nat (j := 9 + (v * 10 + n_el (f (5 + v)) k * 2 + 1)) (by omega), T0.w (9 + (v * 10 + n_el (f (5 + v)) k * 2 + 1)) (by omega) (by omega)]
  refine xk_Po.br rfl rfl (fun hZ => absurd hZ (fun q => hL ((xn_le0 (by omega)).1 q))) (fun _ => ?_) -- 95 .ifCond .le 105
  refine xk_Po.go 1 rfl ?_
  refine xk_Po.cv1 rfl rfl (r_begin T0.z hnx) ?_
  refine xk_Po.go 4 rfl ?_
  refine xk_Po.ok rfl rfl (xn_ix (j := 9 + (v * 10 + n_el (f (5 + v)) k * 2 + 1)) (by omega) (by omega)) ?_ -- 102 .iastore
  rw [xn_nat (j := 9 + ((v * 10 + n_el (f (5 + v)) k * 2) + 1)) (by omega)]
  refine xk_Po.go 1 rfl ?_
  refine xk_Po.cv1 rfl rfl (r_chg1 O T hB hpr (.inr ⟨rfl, hall⟩) ha hb3 hcv hcg ho) ?_
  refine xk_Po.go 3 rfl ?_
  refine xk_Po.ci3 rfl rfl (r_wordOf TD hv (by rw [hg5]; exact h5) hk) ?_
  refine xk_Po.go 1 rfl ?_
  refine r_wlp (m := 40) (x := 32) (c := 0) (o := (true, ((m_com (s_seal (upd ta (9 + ((v * 10 + n_el (f (5 + v)) k * 2) + 1)) 0) (Int32.ofNat (n + 2))) ab (sl, ex, lf)).2.1, (m_com (s_seal (upd ta (9 + ((v * 10 + n_el (f (5 + v)) k * 2) + 1)) 0) (Int32.ofNat (n + 2))) ab (sl, ex, lf)).2.2.1, (m_com (s_seal (upd ta (9 + ((v * 10 + n_el (f (5 + v)) k * 2) + 1)) 0) (Int32.ofNat (n + 2))) ab (sl, ex, lf)).2.2.2))) TD ⟨fun q => absurd q (by omega), fun _ => .inl hmo⟩ ⟨⟨fun q => absurd q (by omega), fun q => absurd q (by omega)⟩, fun q => absurd q (by omega)⟩ (fun q => absurd q (by omega)) (by omega) (by rw [hg5]; exact b2) (fun l8 l9 => ?_)
  rw [m_b_on, mp_off ho2]
  refine xk_Po.go 2 rfl ?_
  refine xk_Po.ci2 rfl rfl (r_ended0) ?_
  exact xk_Po.iret rfl (rfl)
theorem r_write1d_0 {v : Nat} (hv : v < 4) (hu : ¬ ta (5 + v) = 0) {f : Nat → Nat} (T0 : s_Tv ta f) (h5 : f (5 + v) ≠ 0) {k : Nat} (hk : k < 20) (hk4 : k < 4 * (f (5 + v) / 32)) (hb : ∀ i, pr i = 0 ∨ pr i = 1) {y : Int32} (h0 : ¬ n_rdb (f (9 + (v * 10 + n_el (f (5 + v)) k * 2))) pr) (h1 : n_rdb (f (9 + (v * 10 + n_el (f (5 + v)) k * 2 + 1))) pr) (hL : f (9 + (v * 10 + n_el (f (5 + v)) k * 2)) ≠ 0) {B : Nat} {ab : Nat → Int32} {n dN mN xN cN : Nat} (hmo : mo < 0) (O : s_On B sl ab ta f n dN mN xN cN) (hB : B + 2 < 2147483648) (hpr : pr = n_pr ab) (hnx : ∀ i, 51 ≤ i → nx i = 0) {a b : Nat} (ha : a < 4) (hb3 : b < 10) (hcv : cv = Int32.ofNat a) (hcg : cg = Int32.ofNat b) (T : s_Tv (upd ta (9 + (v * 10 + n_el (f (5 + v)) k * 2)) 0) (n_up f (9 + (v * 10 + n_el (f (5 + v)) k * 2)) 0)) (hall : ¬ n_all f ab) (ho : ¬ (m_com (s_seal (upd ta (9 + (v * 10 + n_el (f (5 + v)) k * 2)) 0) (Int32.ofNat (n + 2))) ab (sl, ex, lf)).1 = true) : xk_Ev (xp_P sc) 146 0 [.ref 10, .int (Int32.ofNat v), .int (Int32.ofNat k), .int y, .retAddr 0, .retAddr 0, .retAddr 0, .retAddr 0, .retAddr 0, .retAddr 0] [] (mw p th pr sl ex ta nx (1) lf mo cv cg cT cp r) (.inl (some (.int (0))), 0, mw p (1) pr ((m_com (s_seal (upd ta (9 + (v * 10 + n_el (f (5 + v)) k * 2)) 0) (Int32.ofNat (n + 2))) ab (sl, ex, lf)).2.1) ((m_com (s_seal (upd ta (9 + (v * 10 + n_el (f (5 + v)) k * 2)) 0) (Int32.ofNat (n + 2))) ab (sl, ex, lf)).2.2.1) ta (s_seal (upd ta (9 + (v * 10 + n_el (f (5 + v)) k * 2)) 0) (Int32.ofNat (n + 2))) (0) (-1) (-1) cv cg cT cp r) := by
  obtain ⟨b1, b2⟩ := s_elb _ (T0.v v hv) h5 k hk hk4
  have e5 := (s_dv_32 _ (T0.v v hv)).2
  have l0 := T0.l (v * 10 + n_el (f (5 + v)) k * 2) (by omega)
  have l1 := T0.l (v * 10 + n_el (f (5 + v)) k * 2 + 1) (by omega)
  apply xk_Ev.of
  refine xk_Po.go 6 rfl ?_
  refine xk_Po.ci2 rfl rfl (r_isVolume hv hu) ?_
  refine xk_Po.go 2 rfl ?_
  refine xk_Po.br rfl rfl (fun hZ => absurd hZ (xn_nneg (by omega))) (fun _ => ?_) -- 13 .ifCond .lt 22
  refine xk_Po.go 5 rfl ?_
  refine xk_Po.ci2 rfl rfl (t_elN T0 hv) ?_
  refine xk_Po.go 1 rfl ?_
  refine xk_Po.br rfl rfl (fun _ => ?_) (fun hZ => absurd (by rw [show Int32.ofInt 4 * Int32.ofNat (f (5 + v) / 32) = Int32.ofNat (4 * (f (5 + v) / 32)) from xn_mul 4 _]; exact (xn_lt (by omega) (by omega)).2 hk4) hZ) -- 21 .if_icmp .lt 24
  refine xk_Po.go 14 rfl ?_
  refine xk_Po.ci3 rfl rfl (r_elementOf T0 hv h5 hk) ?_
  refine xk_Po.go 2 rfl ?_
  rw [s_fi v _]
  refine xk_Po.go 5 rfl ?_
  refine xk_Po.ok rfl rfl (xn_ix (j := 9 + (v * 10 + n_el (f (5 + v)) k * 2)) (by omega) (by omega)) ?_ -- 48 .iaload
  rw [xn_nat (j := 9 + (v * 10 + n_el (f (5 + v)) k * 2)) (by omega), T0.w (9 + (v * 10 + n_el (f (5 + v)) k * 2)) (by omega) (by omega)]
  refine xk_Po.ci2 rfl rfl (r_rd0 (by omega) h0 hb) ?_
  refine xk_Po.go 8 rfl ?_
  rw [show Int32.ofNat (9 + (v * 10 + n_el (f (5 + v)) k * 2)) + Int32.ofInt 1 = Int32.ofNat (9 + (v * 10 + n_el (f (5 + v)) k * 2 + 1)) from xn_suc _]
  refine xk_Po.ok rfl rfl (xn_ix (j := 9 + (v * 10 + n_el (f (5 + v)) k * 2 + 1)) (by omega) (by omega)) ?_ -- 60 .iaload
  rw [xn_nat (j := 9 + (v * 10 + n_el (f (5 + v)) k * 2 + 1)) (by omega), T0.w (9 + (v * 10 + n_el (f (5 + v)) k * 2 + 1)) (by omega) (by omega)]
  refine xk_Po.ci2 rfl rfl (r_rd1 (by omega) h1 hb) ?_
  refine xk_Po.go 11 rfl ?_
  refine xk_Po.ok rfl rfl (xn_ix (j := 9 + (v * 10 + n_el (f (5 + v)) k * 2)) (by omega) (by omega)) ?_ -- 79 .iaload
  rw [xn_nat (j := 9 + (v * 10 + n_el (f (5 + v)) k * 2)) (by omega), T0.w (9 + (v * 10 + n_el (f (5 + v)) k * 2)) (by omega) (by omega)]
  refine xk_Po.ci2 rfl rfl (r_rd0 (by omega) h0 hb) ?_
  refine xk_Po.go 9 rfl ?_
  refine xk_Po.ok rfl rfl (xn_ix (j := 9 + (v * 10 + n_el (f (5 + v)) k * 2)) (by omega) (by omega)) ?_ -- 94 .iaload
  rw [xn_nat (j := 9 + (v * 10 + n_el (f (5 + v)) k * 2)) (by omega), T0.w (9 + (v * 10 + n_el (f (5 + v)) k * 2)) (by omega) (by omega)]
  refine xk_Po.br rfl rfl (fun hZ => absurd hZ (fun q => hL ((xn_le0 (by omega)).1 q))) (fun _ => ?_) -- 95 .ifCond .le 105
  refine xk_Po.go 1 rfl ?_
  refine xk_Po.cv1 rfl rfl (r_begin T0.z hnx) ?_
  refine xk_Po.go 4 rfl ?_
  refine xk_Po.ok rfl rfl (xn_ix (j := 9 + (v * 10 + n_el (f (5 + v)) k * 2)) (by omega) (by omega)) ?_ -- 102 .iastore
  rw [xn_nat (j := 9 + (v * 10 + n_el (f (5 + v)) k * 2)) (by omega)]
  refine xk_Po.go 1 rfl ?_
  refine xk_Po.cv1 rfl rfl (r_chg0 O T hB hpr (.inr ⟨rfl, hall⟩) ha hb3 hcv hcg ho) ?_
  refine xk_Po.go 3 rfl ?_
  refine xk_Po.ci3 rfl rfl (r_wordOf T0 hv h5 hk) ?_
  refine xk_Po.go 7 rfl ?_
  refine xk_Po.br rfl rfl (fun hZ => absurd hZ (fun q => absurd (by rw [show Int32.ofNat (9 + (v * 10 + n_el (f (5 + v)) k * 2)) + Int32.ofInt 2 = Int32.ofNat (9 + (v * 10 + n_el (f (5 + v)) k * 2) + 2) from xn_add _ 2] at q; exact (xn_le (by omega) (by omega)).1 q) (show ¬ 9 + (v * 10 + n_el (f (5 + v)) k * 2) + 2 ≤ 9 + (v * 10 + n_el (f (5 + v)) k * 2) by omega))) (fun _ => ?_) -- 116 .if_icmp .ge 173
  refine xk_Po.go 5 rfl ?_
  refine xk_Po.ci2 rfl rfl (r_ended0) ?_
  exact xk_Po.iret rfl (rfl)
theorem r_write1d_2 {v : Nat} (hv : v < 4) (hu : ¬ ta (5 + v) = 0) {f : Nat → Nat} (T0 : s_Tv ta f) (h5 : f (5 + v) ≠ 0) {k : Nat} (hk : k < 20) (hk4 : k < 4 * (f (5 + v) / 32)) (hb : ∀ i, pr i = 0 ∨ pr i = 1) {y : Int32} (h0 : ¬ n_rdb (f (9 + (v * 10 + n_el (f (5 + v)) k * 2))) pr) (h1 : n_rdb (f (9 + (v * 10 + n_el (f (5 + v)) k * 2 + 1))) pr) (hL : f (9 + (v * 10 + n_el (f (5 + v)) k * 2)) ≠ 0) {B : Nat} {ab : Nat → Int32} {n dN mN xN cN : Nat} (hmo : mo < 0) (O : s_On B sl ab ta f n dN mN xN cN) (hB : B + 2 < 2147483648) (hpr : pr = n_pr ab) (hnx : ∀ i, 51 ≤ i → nx i = 0) {a b : Nat} (ha : a < 4) (hb3 : b < 10) (hcv : cv = Int32.ofNat a) (hcg : cg = Int32.ofNat b) (T : s_Tv (upd ta (9 + (v * 10 + n_el (f (5 + v)) k * 2)) 0) (n_up f (9 + (v * 10 + n_el (f (5 + v)) k * 2)) 0)) (hall : ¬ n_all f ab) (ho : (m_com (s_seal (upd ta (9 + (v * 10 + n_el (f (5 + v)) k * 2)) 0) (Int32.ofNat (n + 2))) ab (sl, ex, lf)).1 = true) (ho2 : (m_seq (m_wr (n_up f (9 + (v * 10 + n_el (f (5 + v)) k * 2)) 0) 40 32 0 (n_wo ((n_up f (9 + (v * 10 + n_el (f (5 + v)) k * 2)) 0) (5 + v)) k) y (v * 10 + n_el (f (5 + v)) k * 2)) (m_wr (n_up f (9 + (v * 10 + n_el (f (5 + v)) k * 2)) 0) 40 32 0 (n_wo ((n_up f (9 + (v * 10 + n_el (f (5 + v)) k * 2)) 0) (5 + v)) k) y ((v * 10 + n_el (f (5 + v)) k * 2) + 1)) ((m_com (s_seal (upd ta (9 + (v * 10 + n_el (f (5 + v)) k * 2)) 0) (Int32.ofNat (n + 2))) ab (sl, ex, lf)).2.1, (m_com (s_seal (upd ta (9 + (v * 10 + n_el (f (5 + v)) k * 2)) 0) (Int32.ofNat (n + 2))) ab (sl, ex, lf)).2.2.1, (m_com (s_seal (upd ta (9 + (v * 10 + n_el (f (5 + v)) k * 2)) 0) (Int32.ofNat (n + 2))) ab (sl, ex, lf)).2.2.2)).1 = true) : xk_Ev (xp_P sc) 146 0 [.ref 10, .int (Int32.ofNat v), .int (Int32.ofNat k), .int y, .retAddr 0, .retAddr 0, .retAddr 0, .retAddr 0, .retAddr 0, .retAddr 0] [] (mw p th pr sl ex ta nx (1) lf mo cv cg cT cp r) (.inl (some (.int (1))), 0, mw p (0) pr ((m_seq (m_wr (n_up f (9 + (v * 10 + n_el (f (5 + v)) k * 2)) 0) 40 32 0 (n_wo ((n_up f (9 + (v * 10 + n_el (f (5 + v)) k * 2)) 0) (5 + v)) k) y (v * 10 + n_el (f (5 + v)) k * 2)) (m_wr (n_up f (9 + (v * 10 + n_el (f (5 + v)) k * 2)) 0) 40 32 0 (n_wo ((n_up f (9 + (v * 10 + n_el (f (5 + v)) k * 2)) 0) (5 + v)) k) y ((v * 10 + n_el (f (5 + v)) k * 2) + 1)) ((m_com (s_seal (upd ta (9 + (v * 10 + n_el (f (5 + v)) k * 2)) 0) (Int32.ofNat (n + 2))) ab (sl, ex, lf)).2.1, (m_com (s_seal (upd ta (9 + (v * 10 + n_el (f (5 + v)) k * 2)) 0) (Int32.ofNat (n + 2))) ab (sl, ex, lf)).2.2.1, (m_com (s_seal (upd ta (9 + (v * 10 + n_el (f (5 + v)) k * 2)) 0) (Int32.ofNat (n + 2))) ab (sl, ex, lf)).2.2.2)).2.1) ((m_seq (m_wr (n_up f (9 + (v * 10 + n_el (f (5 + v)) k * 2)) 0) 40 32 0 (n_wo ((n_up f (9 + (v * 10 + n_el (f (5 + v)) k * 2)) 0) (5 + v)) k) y (v * 10 + n_el (f (5 + v)) k * 2)) (m_wr (n_up f (9 + (v * 10 + n_el (f (5 + v)) k * 2)) 0) 40 32 0 (n_wo ((n_up f (9 + (v * 10 + n_el (f (5 + v)) k * 2)) 0) (5 + v)) k) y ((v * 10 + n_el (f (5 + v)) k * 2) + 1)) ((m_com (s_seal (upd ta (9 + (v * 10 + n_el (f (5 + v)) k * 2)) 0) (Int32.ofNat (n + 2))) ab (sl, ex, lf)).2.1, (m_com (s_seal (upd ta (9 + (v * 10 + n_el (f (5 + v)) k * 2)) 0) (Int32.ofNat (n + 2))) ab (sl, ex, lf)).2.2.1, (m_com (s_seal (upd ta (9 + (v * 10 + n_el (f (5 + v)) k * 2)) 0) (Int32.ofNat (n + 2))) ab (sl, ex, lf)).2.2.2)).2.2.1) (s_seal (upd ta (9 + (v * 10 + n_el (f (5 + v)) k * 2)) 0) (Int32.ofNat (n + 2))) (s_seal (upd ta (9 + (v * 10 + n_el (f (5 + v)) k * 2)) 0) (Int32.ofNat (n + 2))) (1) ((m_seq (m_wr (n_up f (9 + (v * 10 + n_el (f (5 + v)) k * 2)) 0) 40 32 0 (n_wo ((n_up f (9 + (v * 10 + n_el (f (5 + v)) k * 2)) 0) (5 + v)) k) y (v * 10 + n_el (f (5 + v)) k * 2)) (m_wr (n_up f (9 + (v * 10 + n_el (f (5 + v)) k * 2)) 0) 40 32 0 (n_wo ((n_up f (9 + (v * 10 + n_el (f (5 + v)) k * 2)) 0) (5 + v)) k) y ((v * 10 + n_el (f (5 + v)) k * 2) + 1)) ((m_com (s_seal (upd ta (9 + (v * 10 + n_el (f (5 + v)) k * 2)) 0) (Int32.ofNat (n + 2))) ab (sl, ex, lf)).2.1, (m_com (s_seal (upd ta (9 + (v * 10 + n_el (f (5 + v)) k * 2)) 0) (Int32.ofNat (n + 2))) ab (sl, ex, lf)).2.2.1, (m_com (s_seal (upd ta (9 + (v * 10 + n_el (f (5 + v)) k * 2)) 0) (Int32.ofNat (n + 2))) ab (sl, ex, lf)).2.2.2)).2.2.2) mo cv cg (p_cT (s_seal (upd ta (9 + (v * 10 + n_el (f (5 + v)) k * 2)) 0) (Int32.ofNat (n + 2))) ta cT (9 + (a * 10 + b))) cp r) := by
  obtain ⟨b1, b2⟩ := s_elb _ (T0.v v hv) h5 k hk hk4
  have e5 := (s_dv_32 _ (T0.v v hv)).2
  have l0 := T0.l (v * 10 + n_el (f (5 + v)) k * 2) (by omega)
  have l1 := T0.l (v * 10 + n_el (f (5 + v)) k * 2 + 1) (by omega)
  have TD : s_Tv (s_seal (upd ta (9 + (v * 10 + n_el (f (5 + v)) k * 2)) 0) (Int32.ofNat (n + 2))) (n_up f (9 + (v * 10 + n_el (f (5 + v)) k * 2)) 0) := s_seal_Tv T
  have hg5 : (n_up f (9 + (v * 10 + n_el (f (5 + v)) k * 2)) 0) (5 + v) = f (5 + v) := n_up_ne (by omega)
  apply xk_Ev.of
  refine xk_Po.go 6 rfl ?_
  refine xk_Po.ci2 rfl rfl (r_isVolume hv hu) ?_
  refine xk_Po.go 2 rfl ?_
  refine xk_Po.br rfl rfl (fun hZ => absurd hZ (xn_nneg (by omega))) (fun _ => ?_) -- 13 .ifCond .lt 22
  refine xk_Po.go 5 rfl ?_
  refine xk_Po.ci2 rfl rfl (t_elN T0 hv) ?_
  refine xk_Po.go 1 rfl ?_
  refine xk_Po.br rfl rfl (fun _ => ?_) (fun hZ => absurd (by rw [show Int32.ofInt 4 * Int32.ofNat (f (5 + v) / 32) = Int32.ofNat (4 * (f (5 + v) / 32)) from xn_mul 4 _]; exact (xn_lt (by omega) (by omega)).2 hk4) hZ) -- 21 .if_icmp .lt 24
  refine xk_Po.go 14 rfl ?_
  refine xk_Po.ci3 rfl rfl (r_elementOf T0 hv h5 hk) ?_
  refine xk_Po.go 2 rfl ?_
  rw [s_fi v _]
  refine xk_Po.go 5 rfl ?_
  refine xk_Po.ok rfl rfl (xn_ix (j := 9 + (v * 10 + n_el (f (5 + v)) k * 2)) (by omega) (by omega)) ?_ -- 48 .iaload
  rw [xn_nat (j := 9 + (v * 10 + n_el (f (5 + v)) k * 2)) (by omega), T0.w (9 + (v * 10 + n_el (f (5 + v)) k * 2)) (by omega) (by omega)]
  refine xk_Po.ci2 rfl rfl (r_rd0 (by omega) h0 hb) ?_
  refine xk_Po.go 8 rfl ?_
  rw [show Int32.ofNat (9 + (v * 10 + n_el (f (5 + v)) k * 2)) + Int32.ofInt 1 = Int32.ofNat (9 + (v * 10 + n_el (f (5 + v)) k * 2 + 1)) from xn_suc _]
  refine xk_Po.ok rfl rfl (xn_ix (j := 9 + (v * 10 + n_el (f (5 + v)) k * 2 + 1)) (by omega) (by omega)) ?_ -- 60 .iaload
  rw [xn_nat (j := 9 + (v * 10 + n_el (f (5 + v)) k * 2 + 1)) (by omega), T0.w (9 + (v * 10 + n_el (f (5 + v)) k * 2 + 1)) (by omega) (by omega)]
  refine xk_Po.ci2 rfl rfl (r_rd1 (by omega) h1 hb) ?_
  refine xk_Po.go 11 rfl ?_
  refine xk_Po.ok rfl rfl (xn_ix (j := 9 + (v * 10 + n_el (f (5 + v)) k * 2)) (by omega) (by omega)) ?_ -- 79 .iaload
  rw [xn_nat (j := 9 + (v * 10 + n_el (f (5 + v)) k * 2)) (by omega), T0.w (9 + (v * 10 + n_el (f (5 + v)) k * 2)) (by omega) (by omega)]
  refine xk_Po.ci2 rfl rfl (r_rd0 (by omega) h0 hb) ?_
  refine xk_Po.go 9 rfl ?_
  refine xk_Po.ok rfl rfl (xn_ix (j := 9 + (v * 10 + n_el (f (5 + v)) k * 2)) (by omega) (by omega)) ?_ -- 94 .iaload
  rw [xn_nat (j := 9 + (v * 10 + n_el (f (5 + v)) k * 2)) (by omega), T0.w (9 + (v * 10 + n_el (f (5 + v)) k * 2)) (by omega) (by omega)]
  refine xk_Po.br rfl rfl (fun hZ => absurd hZ (fun q => hL ((xn_le0 (by omega)).1 q))) (fun _ => ?_) -- 95 .ifCond .le 105
  refine xk_Po.go 1 rfl ?_
  refine xk_Po.cv1 rfl rfl (r_begin T0.z hnx) ?_
  refine xk_Po.go 4 rfl ?_
  refine xk_Po.ok rfl rfl (xn_ix (j := 9 + (v * 10 + n_el (f (5 + v)) k * 2)) (by omega) (by omega)) ?_ -- 102 .iastore
  rw [xn_nat (j := 9 + (v * 10 + n_el (f (5 + v)) k * 2)) (by omega)]
  refine xk_Po.go 1 rfl ?_
  refine xk_Po.cv1 rfl rfl (r_chg1 O T hB hpr (.inr ⟨rfl, hall⟩) ha hb3 hcv hcg ho) ?_
  refine xk_Po.go 3 rfl ?_
  refine xk_Po.ci3 rfl rfl (r_wordOf TD hv (by rw [hg5]; exact h5) hk) ?_
  refine xk_Po.go 1 rfl ?_
  refine r_wlp (m := 40) (x := 32) (c := 0) (o := (true, ((m_com (s_seal (upd ta (9 + (v * 10 + n_el (f (5 + v)) k * 2)) 0) (Int32.ofNat (n + 2))) ab (sl, ex, lf)).2.1, (m_com (s_seal (upd ta (9 + (v * 10 + n_el (f (5 + v)) k * 2)) 0) (Int32.ofNat (n + 2))) ab (sl, ex, lf)).2.2.1, (m_com (s_seal (upd ta (9 + (v * 10 + n_el (f (5 + v)) k * 2)) 0) (Int32.ofNat (n + 2))) ab (sl, ex, lf)).2.2.2))) TD ⟨fun q => absurd q (by omega), fun _ => .inl hmo⟩ ⟨⟨fun q => absurd q (by omega), fun q => absurd q (by omega)⟩, fun q => absurd q (by omega)⟩ (fun q => absurd q (by omega)) (by omega) (by rw [hg5]; exact b2) (fun l8 l9 => ?_)
  rw [m_b_on, m_true ho2]
  refine xk_Po.go 2 rfl ?_
  refine xk_Po.ci2 rfl rfl (r_ended1) ?_
  exact xk_Po.iret rfl (rfl)
theorem r_write1d_1 {v : Nat} (hv : v < 4) (hu : ¬ ta (5 + v) = 0) {f : Nat → Nat} (T0 : s_Tv ta f) (h5 : f (5 + v) ≠ 0) {k : Nat} (hk : k < 20) (hk4 : k < 4 * (f (5 + v) / 32)) (hb : ∀ i, pr i = 0 ∨ pr i = 1) {y : Int32} (h0 : ¬ n_rdb (f (9 + (v * 10 + n_el (f (5 + v)) k * 2))) pr) (h1 : n_rdb (f (9 + (v * 10 + n_el (f (5 + v)) k * 2 + 1))) pr) (hL : f (9 + (v * 10 + n_el (f (5 + v)) k * 2)) ≠ 0) {B : Nat} {ab : Nat → Int32} {n dN mN xN cN : Nat} (hmo : mo < 0) (O : s_On B sl ab ta f n dN mN xN cN) (hB : B + 2 < 2147483648) (hpr : pr = n_pr ab) (hnx : ∀ i, 51 ≤ i → nx i = 0) {a b : Nat} (ha : a < 4) (hb3 : b < 10) (hcv : cv = Int32.ofNat a) (hcg : cg = Int32.ofNat b) (T : s_Tv (upd ta (9 + (v * 10 + n_el (f (5 + v)) k * 2)) 0) (n_up f (9 + (v * 10 + n_el (f (5 + v)) k * 2)) 0)) (hall : ¬ n_all f ab) (ho : (m_com (s_seal (upd ta (9 + (v * 10 + n_el (f (5 + v)) k * 2)) 0) (Int32.ofNat (n + 2))) ab (sl, ex, lf)).1 = true) (ho2 : ¬ (m_seq (m_wr (n_up f (9 + (v * 10 + n_el (f (5 + v)) k * 2)) 0) 40 32 0 (n_wo ((n_up f (9 + (v * 10 + n_el (f (5 + v)) k * 2)) 0) (5 + v)) k) y (v * 10 + n_el (f (5 + v)) k * 2)) (m_wr (n_up f (9 + (v * 10 + n_el (f (5 + v)) k * 2)) 0) 40 32 0 (n_wo ((n_up f (9 + (v * 10 + n_el (f (5 + v)) k * 2)) 0) (5 + v)) k) y ((v * 10 + n_el (f (5 + v)) k * 2) + 1)) ((m_com (s_seal (upd ta (9 + (v * 10 + n_el (f (5 + v)) k * 2)) 0) (Int32.ofNat (n + 2))) ab (sl, ex, lf)).2.1, (m_com (s_seal (upd ta (9 + (v * 10 + n_el (f (5 + v)) k * 2)) 0) (Int32.ofNat (n + 2))) ab (sl, ex, lf)).2.2.1, (m_com (s_seal (upd ta (9 + (v * 10 + n_el (f (5 + v)) k * 2)) 0) (Int32.ofNat (n + 2))) ab (sl, ex, lf)).2.2.2)).1 = true) : xk_Ev (xp_P sc) 146 0 [.ref 10, .int (Int32.ofNat v), .int (Int32.ofNat k), .int y, .retAddr 0, .retAddr 0, .retAddr 0, .retAddr 0, .retAddr 0, .retAddr 0] [] (mw p th pr sl ex ta nx (1) lf mo cv cg cT cp r) (.inl (some (.int (0))), 0, mw p (1) pr ((m_seq (m_wr (n_up f (9 + (v * 10 + n_el (f (5 + v)) k * 2)) 0) 40 32 0 (n_wo ((n_up f (9 + (v * 10 + n_el (f (5 + v)) k * 2)) 0) (5 + v)) k) y (v * 10 + n_el (f (5 + v)) k * 2)) (m_wr (n_up f (9 + (v * 10 + n_el (f (5 + v)) k * 2)) 0) 40 32 0 (n_wo ((n_up f (9 + (v * 10 + n_el (f (5 + v)) k * 2)) 0) (5 + v)) k) y ((v * 10 + n_el (f (5 + v)) k * 2) + 1)) ((m_com (s_seal (upd ta (9 + (v * 10 + n_el (f (5 + v)) k * 2)) 0) (Int32.ofNat (n + 2))) ab (sl, ex, lf)).2.1, (m_com (s_seal (upd ta (9 + (v * 10 + n_el (f (5 + v)) k * 2)) 0) (Int32.ofNat (n + 2))) ab (sl, ex, lf)).2.2.1, (m_com (s_seal (upd ta (9 + (v * 10 + n_el (f (5 + v)) k * 2)) 0) (Int32.ofNat (n + 2))) ab (sl, ex, lf)).2.2.2)).2.1) ((m_seq (m_wr (n_up f (9 + (v * 10 + n_el (f (5 + v)) k * 2)) 0) 40 32 0 (n_wo ((n_up f (9 + (v * 10 + n_el (f (5 + v)) k * 2)) 0) (5 + v)) k) y (v * 10 + n_el (f (5 + v)) k * 2)) (m_wr (n_up f (9 + (v * 10 + n_el (f (5 + v)) k * 2)) 0) 40 32 0 (n_wo ((n_up f (9 + (v * 10 + n_el (f (5 + v)) k * 2)) 0) (5 + v)) k) y ((v * 10 + n_el (f (5 + v)) k * 2) + 1)) ((m_com (s_seal (upd ta (9 + (v * 10 + n_el (f (5 + v)) k * 2)) 0) (Int32.ofNat (n + 2))) ab (sl, ex, lf)).2.1, (m_com (s_seal (upd ta (9 + (v * 10 + n_el (f (5 + v)) k * 2)) 0) (Int32.ofNat (n + 2))) ab (sl, ex, lf)).2.2.1, (m_com (s_seal (upd ta (9 + (v * 10 + n_el (f (5 + v)) k * 2)) 0) (Int32.ofNat (n + 2))) ab (sl, ex, lf)).2.2.2)).2.2.1) (s_seal (upd ta (9 + (v * 10 + n_el (f (5 + v)) k * 2)) 0) (Int32.ofNat (n + 2))) (s_seal (upd ta (9 + (v * 10 + n_el (f (5 + v)) k * 2)) 0) (Int32.ofNat (n + 2))) (0) (-1) (-1) cv cg (p_cT (s_seal (upd ta (9 + (v * 10 + n_el (f (5 + v)) k * 2)) 0) (Int32.ofNat (n + 2))) ta cT (9 + (a * 10 + b))) cp r) := by
  obtain ⟨b1, b2⟩ := s_elb _ (T0.v v hv) h5 k hk hk4
  have e5 := (s_dv_32 _ (T0.v v hv)).2
  have l0 := T0.l (v * 10 + n_el (f (5 + v)) k * 2) (by omega)
  have l1 := T0.l (v * 10 + n_el (f (5 + v)) k * 2 + 1) (by omega)
  have TD : s_Tv (s_seal (upd ta (9 + (v * 10 + n_el (f (5 + v)) k * 2)) 0) (Int32.ofNat (n + 2))) (n_up f (9 + (v * 10 + n_el (f (5 + v)) k * 2)) 0) := s_seal_Tv T
  have hg5 : (n_up f (9 + (v * 10 + n_el (f (5 + v)) k * 2)) 0) (5 + v) = f (5 + v) := n_up_ne (by omega)
  apply xk_Ev.of
  refine xk_Po.go 6 rfl ?_
  refine xk_Po.ci2 rfl rfl (r_isVolume hv hu) ?_
  refine xk_Po.go 2 rfl ?_
  refine xk_Po.br rfl rfl (fun hZ => absurd hZ (xn_nneg (by omega))) (fun _ => ?_) -- 13 .ifCond .lt 22
  refine xk_Po.go 5 rfl ?_
  refine xk_Po.ci2 rfl rfl (t_elN T0 hv) ?_
  refine xk_Po.go 1 rfl ?_
  refine xk_Po.br rfl rfl (fun _ => ?_) (fun hZ => absurd (by rw [show Int32.ofInt 4 * Int32.ofNat (f (5 + v) / 32) = Int32.ofNat (4 * (f (5 + v) / 32)) from xn_mul 4 _]; exact (xn_lt (by omega) (by omega)).2 hk4) hZ) -- 21 .if_icmp .lt 24
  refine xk_Po.go 14 rfl ?_
  refine xk_Po.ci3 rfl rfl (r_elementOf T0 hv h5 hk) ?_
  refine xk_Po.go 2 rfl ?_
  rw [s_fi v _]
  refine xk_Po.go 5 rfl ?_
  refine xk_Po.ok rfl rfl (xn_ix (j := 9 + (v * 10 + n_el (f (5 + v)) k * 2)) (by omega) (by omega)) ?_ -- 48 .iaload
  rw [xn_nat (j := 9 + (v * 10 + n_el (f (5 + v)) k * 2)) (by omega), T0.w (9 + (v * 10 + n_el (f (5 + v)) k * 2)) (by omega) (by omega)]
  refine xk_Po.ci2 rfl rfl (r_rd0 (by omega) h0 hb) ?_
  refine xk_Po.go 8 rfl ?_
  rw [show Int32.ofNat (9 + (v * 10 + n_el (f (5 + v)) k * 2)) + Int32.ofInt 1 = Int32.ofNat (9 + (v * 10 + n_el (f (5 + v)) k * 2 + 1)) from xn_suc _]
  refine xk_Po.ok rfl rfl (xn_ix (j := 9 + (v * 10 + n_el (f (5 + v)) k * 2 + 1)) (by omega) (by omega)) ?_ -- 60 .iaload
  rw [xn_nat (j := 9 + (v * 10 + n_el (f (5 + v)) k * 2 + 1)) (by omega), T0.w (9 + (v * 10 + n_el (f (5 + v)) k * 2 + 1)) (by omega) (by omega)]
  refine xk_Po.ci2 rfl rfl (r_rd1 (by omega) h1 hb) ?_
  refine xk_Po.go 11 rfl ?_
  refine xk_Po.ok rfl rfl (xn_ix (j := 9 + (v * 10 + n_el (f (5 + v)) k * 2)) (by omega) (by omega)) ?_ -- 79 .iaload
  rw [xn_nat (j := 9 + (v * 10 + n_el (f (5 + v)) k * 2)) (by omega), T0.w (9 + (v * 10 + n_el (f (5 + v)) k * 2)) (by omega) (by omega)]
  refine xk_Po.ci2 rfl rfl (r_rd0 (by omega) h0 hb) ?_
  refine xk_Po.go 9 rfl ?_
  refine xk_Po.ok rfl rfl (xn_ix (j := 9 + (v * 10 + n_el (f (5 + v)) k * 2)) (by omega) (by omega)) ?_ -- 94 .iaload
  rw [xn_nat (j := 9 + (v * 10 + n_el (f (5 + v)) k * 2)) (by omega), T0.w (9 + (v * 10 + n_el (f (5 + v)) k * 2)) (by omega) (by omega)]
  refine xk_Po.br rfl rfl (fun hZ => absurd hZ (fun q => hL ((xn_le0 (by omega)).1 q))) (fun _ => ?_) -- 95 .ifCond .le 105
  refine xk_Po.go 1 rfl ?_
  refine xk_Po.cv1 rfl rfl (r_begin T0.z hnx) ?_
  refine xk_Po.go 4 rfl ?_
  refine xk_Po.ok rfl rfl (xn_ix (j := 9 + (v * 10 + n_el (f (5 + v)) k * 2)) (by omega) (by omega)) ?_ -- 102 .iastore
  rw [xn_nat (j := 9 + (v * 10 + n_el (f (5 + v)) k * 2)) (by omega)]
  refine xk_Po.go 1 rfl ?_
  refine xk_Po.cv1 rfl rfl (r_chg1 O T hB hpr (.inr ⟨rfl, hall⟩) ha hb3 hcv hcg ho) ?_
  refine xk_Po.go 3 rfl ?_
  refine xk_Po.ci3 rfl rfl (r_wordOf TD hv (by rw [hg5]; exact h5) hk) ?_
  refine xk_Po.go 1 rfl ?_
  refine r_wlp (m := 40) (x := 32) (c := 0) (o := (true, ((m_com (s_seal (upd ta (9 + (v * 10 + n_el (f (5 + v)) k * 2)) 0) (Int32.ofNat (n + 2))) ab (sl, ex, lf)).2.1, (m_com (s_seal (upd ta (9 + (v * 10 + n_el (f (5 + v)) k * 2)) 0) (Int32.ofNat (n + 2))) ab (sl, ex, lf)).2.2.1, (m_com (s_seal (upd ta (9 + (v * 10 + n_el (f (5 + v)) k * 2)) 0) (Int32.ofNat (n + 2))) ab (sl, ex, lf)).2.2.2))) TD ⟨fun q => absurd q (by omega), fun _ => .inl hmo⟩ ⟨⟨fun q => absurd q (by omega), fun q => absurd q (by omega)⟩, fun q => absurd q (by omega)⟩ (fun q => absurd q (by omega)) (by omega) (by rw [hg5]; exact b2) (fun l8 l9 => ?_)
  rw [m_b_on, mp_off ho2]
  refine xk_Po.go 2 rfl ?_
  refine xk_Po.ci2 rfl rfl (r_ended0) ?_
  exact xk_Po.iret rfl (rfl)
end XkMw3
