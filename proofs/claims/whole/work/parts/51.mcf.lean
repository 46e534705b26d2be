section XkMcf
variable {sc : Nat × (Nat → Int32)} {p : xk_Ten} {pr sl ex ta nx : Nat → Int32} {th on lf mo cv cg cT cp : Int32} {r w : xk_W}
theorem r_chgo1 {o : Bool × s_S} {B : Nat} {ab : Nat → Int32} {f g : Nat → Nat} {n dN mN xN cN k : Nat} (O : s_On B sl ab ta f n dN mN xN cN) (hs : o.2.1 = sl) (T : s_Tv nx g) (hB : B + 2 < 2147483648) (hpr : pr = n_pr ab) (hk : k = 1 ∧ n_all f ab ∨ k = 2 ∧ ¬ n_all f ab) {a b : Nat} (ha : a < 4) (hb2 : b < 10) (hcv : cv = Int32.ofNat a) (hcg : cg = Int32.ofNat b) (ho : (m_b (o) (m_com (s_seal (nx) (Int32.ofNat (n + k))) ab)).1 = true) : xk_Ev (xp_P sc) 123 0 [.ref 10, .retAddr 0, .retAddr 0] [] (mp p th pr ta nx mo cv cg cT cp r o) (.inl none, 0, mw p th pr ((m_b (o) (m_com (s_seal (nx) (Int32.ofNat (n + k))) ab)).2.1) ((m_b (o) (m_com (s_seal (nx) (Int32.ofNat (n + k))) ab)).2.2.1) (s_seal (nx) (Int32.ofNat (n + k))) (s_seal (nx) (Int32.ofNat (n + k))) (1) ((m_b (o) (m_com (s_seal (nx) (Int32.ofNat (n + k))) ab)).2.2.2) mo cv cg (p_cT (s_seal (nx) (Int32.ofNat (n + k))) ta cT (9 + (a * 10 + b))) cp r) := by
  subst hs
  obtain ⟨q, s⟩ := o
  cases q
  · exact absurd (show (false : Bool) = true from ho) (by decide)
  · exact r_chg1 (sl := s.1) (ex := s.2.1) (lf := s.2.2) O T hB hpr hk ha hb2 hcv hcg ho
theorem r_chgo0 {o : Bool × s_S} {B : Nat} {ab : Nat → Int32} {f g : Nat → Nat} {n dN mN xN cN k : Nat} (O : s_On B sl ab ta f n dN mN xN cN) (hs : o.2.1 = sl) (T : s_Tv nx g) (hB : B + 2 < 2147483648) (hpr : pr = n_pr ab) (hk : k = 1 ∧ n_all f ab ∨ k = 2 ∧ ¬ n_all f ab) {a b : Nat} (ha : a < 4) (hb2 : b < 10) (hcv : cv = Int32.ofNat a) (hcg : cg = Int32.ofNat b) (ho : ¬ (m_b (o) (m_com (s_seal (nx) (Int32.ofNat (n + k))) ab)).1 = true) : xk_Ev (xp_P sc) 123 0 [.ref 10, .retAddr 0, .retAddr 0] [] (mp p th pr ta nx mo cv cg cT cp r o) (.inl none, 0, mw p th pr ((m_b (o) (m_com (s_seal (nx) (Int32.ofNat (n + k))) ab)).2.1) ((m_b (o) (m_com (s_seal (nx) (Int32.ofNat (n + k))) ab)).2.2.1) ta (s_seal (nx) (Int32.ofNat (n + k))) (0) (-1) (-1) cv cg cT cp r) := by
  subst hs
  obtain ⟨q, s⟩ := o
  cases q
  · refine r_change_off (sl := s.1) (ex := s.2.1) (lf := -1) (mo := -1) ?_
    obtain ⟨V, hb, T0, ⟨N1, N2⟩, W, M1, M2, M3, M4⟩ := id O
    rw [N1, hpr]
    have e := p_abs_eq (ab := ab) T0 4 (by omega)
    rcases hk with ⟨q1, q2⟩ | ⟨q1, q2⟩
    · rw [if_pos (e.2 q2), q1]
      exact (xn_add n 1).symm
    · rw [if_neg (fun r => q2 (e.1 r)), q1]
      exact (xn_add n 2).symm
  · exact r_chg0 (sl := s.1) (ex := s.2.1) (lf := s.2.2) O T hB hpr hk ha hb2 hcv hcg ho
theorem s_dv_G : ∀ D, D ∈ s_dv → D ≠ 0 → ∀ k, k < 6 → Int32.ofNat D + Int32.ofInt 32 * Int32.ofNat k = Int32.ofNat (n_D D (D / 32 + k)) := by decide
theorem t_elN {f : Nat → Nat} {v : Nat} (T : s_Tv ta f) (hv : v < 4) : xk_Ev (xp_P sc) 114 0 [.ref 14, .int (Int32.ofNat v)] [] (mw p th pr sl ex ta nx on lf mo cv cg cT cp r) (.inl (some (.int (Int32.ofNat (f (5 + v) / 32)))), 0, mw p th pr sl ex ta nx on lf mo cv cg cT cp r) := by
  have h := t_elementsOf (sc := sc) (p := p) (th := th) (pr := pr) (sl := sl) (ex := ex) (ta := ta) (nx := nx) (on := on) (lf := lf) (mo := mo) (cv := cv) (cg := cg) (cT := cT) (cp := cp) (r := r) hv
  rw [T.w (5 + v) (by omega) (by omega), (s_dv_32 _ (T.v v hv)).1] at h
  exact h
theorem t_coN {f : Nat → Nat} {v : Nat} (T : s_Tv ta f) (hv : v < 4) (h0 : f (5 + v) ≠ 0) : xk_Ev (xp_P sc) 113 0 [.ref 14, .int (Int32.ofNat v)] [] (mw p th pr sl ex ta nx on lf mo cv cg cT cp r) (.inl (some (.int (Int32.ofNat (f (5 + v) / 4 % 8)))), 0, mw p th pr sl ex ta nx on lf mo cv cg cT cp r) := by
  have h := t_columnsOf (sc := sc) (p := p) (th := th) (pr := pr) (sl := sl) (ex := ex) (ta := ta) (nx := nx) (on := on) (lf := lf) (mo := mo) (cv := cv) (cg := cg) (cT := cT) (cp := cp) (r := r) hv
  rw [T.w (5 + v) (by omega) (by omega), (s_dv_4 _ (T.v v hv) h0).2.2] at h
  exact h
theorem r_grow_lo {v : Nat} (hv : v < 4) (hu : ¬ ta (5 + v) = 0) {m : Int32} {f : Nat → Nat} (T0 : s_Tv ta f) (h : m < Int32.ofInt 1) : xk_Ev (xp_P sc) 138 0 [.ref 10, .int (Int32.ofNat v), .int m, .retAddr 0] [] (mw p th pr sl ex ta nx (1) lf mo cv cg cT cp r) (.inl (some (.int 0)), 0, mw p (3) pr sl ex ta nx (1) lf mo cv cg cT cp r) := by
  apply xk_Ev.of
  refine xk_Po.go 6 rfl ?_
  refine xk_Po.ci2 rfl rfl (r_isVolume hv hu) ?_
  refine xk_Po.go 9 rfl ?_
  refine xk_Po.ci2 rfl rfl (t_elN T0 hv) ?_
  refine xk_Po.go 4 rfl ?_
  refine xk_Po.br rfl rfl (fun _ => ?_) (fun hZ => absurd (h) hZ) -- 27 .if_icmp .lt 40
  refine xk_Po.go 7 rfl ?_
  exact xk_Po.iret rfl (rfl)
theorem r_grow_hi {v : Nat} (hv : v < 4) (hu : ¬ ta (5 + v) = 0) {m : Int32} {f : Nat → Nat} (T0 : s_Tv ta f) (h0 : ¬ m < Int32.ofInt 1) (h : Int32.ofInt 5 < m) : xk_Ev (xp_P sc) 138 0 [.ref 10, .int (Int32.ofNat v), .int m, .retAddr 0] [] (mw p th pr sl ex ta nx (1) lf mo cv cg cT cp r) (.inl (some (.int 0)), 0, mw p (3) pr sl ex ta nx (1) lf mo cv cg cT cp r) := by
  apply xk_Ev.of
  refine xk_Po.go 6 rfl ?_
  refine xk_Po.ci2 rfl rfl (r_isVolume hv hu) ?_
  refine xk_Po.go 9 rfl ?_
  refine xk_Po.ci2 rfl rfl (t_elN T0 hv) ?_
  refine xk_Po.go 4 rfl ?_
  refine xk_Po.br rfl rfl (fun hZ => absurd hZ (h0)) (fun _ => ?_) -- 27 .if_icmp .lt 40
  refine xk_Po.go 2 rfl ?_
  refine xk_Po.br rfl rfl (fun _ => ?_) (fun hZ => absurd (h) hZ) -- 30 .if_icmp .gt 40
  refine xk_Po.go 7 rfl ?_
  exact xk_Po.iret rfl (rfl)
theorem r_grow_no {v : Nat} (hv : v < 4) (hu : ¬ ta (5 + v) = 0) {m : Int32} {f : Nat → Nat} (T0 : s_Tv ta f) (h5 : f (5 + v) ≠ 0) (hc : ¬ Int32.ofNat (f (5 + v) / 4 % 8) = 0) (h0 : ¬ m < Int32.ofInt 1) (h1 : ¬ Int32.ofInt 5 < m) (h : (if Int32.ofNat (f (5 + v) / 32) + m < Int32.ofInt 1 then (0 : Int32) else if Int32.ofInt 5 < Int32.ofNat (f (5 + v) / 32) + m then 0 else if (Int32.ofNat (f (5 + v) / 32) + m) % Int32.ofNat (f (5 + v) / 4 % 8) = 0 then 1 else 0) = 0) : xk_Ev (xp_P sc) 138 0 [.ref 10, .int (Int32.ofNat v), .int m, .retAddr 0] [] (mw p th pr sl ex ta nx (1) lf mo cv cg cT cp r) (.inl (some (.int 0)), 0, mw p (3) pr sl ex ta nx (1) lf mo cv cg cT cp r) := by
  apply xk_Ev.of
  refine xk_Po.go 6 rfl ?_
  refine xk_Po.ci2 rfl rfl (r_isVolume hv hu) ?_
  refine xk_Po.go 9 rfl ?_
  refine xk_Po.ci2 rfl rfl (t_elN T0 hv) ?_
  refine xk_Po.go 4 rfl ?_
  refine xk_Po.br rfl rfl (fun hZ => absurd hZ (h0)) (fun _ => ?_) -- 27 .if_icmp .lt 40
  refine xk_Po.go 2 rfl ?_
  refine xk_Po.br rfl rfl (fun hZ => absurd hZ (h1)) (fun _ => ?_) -- 30 .if_icmp .gt 40
  refine xk_Po.go 3 rfl ?_
  refine xk_Po.ci2 rfl rfl (t_coN T0 hv h5) ?_
  refine xk_Po.go 3 rfl ?_
  refine xk_Po.ci2 rfl rfl (r_fits hc) ?_
  refine xk_Po.br rfl rfl (fun _ => ?_) (fun hZ => absurd (h) hZ) -- 39 .ifCond .ne 42
  refine xk_Po.go 7 rfl ?_
  exact xk_Po.iret rfl (rfl)
theorem r_grow_ab {v : Nat} (hv : v < 4) (hu : ¬ ta (5 + v) = 0) {m : Int32} {f : Nat → Nat} (T0 : s_Tv ta f) (h5 : f (5 + v) ≠ 0) (hc : ¬ Int32.ofNat (f (5 + v) / 4 % 8) = 0) (h0 : ¬ m < Int32.ofInt 1) (h1 : ¬ Int32.ofInt 5 < m) (hf : ¬ (if Int32.ofNat (f (5 + v) / 32) + m < Int32.ofInt 1 then (0 : Int32) else if Int32.ofInt 5 < Int32.ofNat (f (5 + v) / 32) + m then 0 else if (Int32.ofNat (f (5 + v) / 32) + m) % Int32.ofNat (f (5 + v) / 4 % 8) = 0 then 1 else 0) = 0) (h : ¬ p_abs ta pr 4 = 0) : xk_Ev (xp_P sc) 138 0 [.ref 10, .int (Int32.ofNat v), .int m, .retAddr 0] [] (mw p th pr sl ex ta nx (1) lf mo cv cg cT cp r) (.inl (some (.int 0)), 0, mw p (4) pr sl ex ta nx (1) lf mo cv cg cT cp r) := by
  apply xk_Ev.of
  refine xk_Po.go 6 rfl ?_
  refine xk_Po.ci2 rfl rfl (r_isVolume hv hu) ?_
  refine xk_Po.go 9 rfl ?_
  refine xk_Po.ci2 rfl rfl (t_elN T0 hv) ?_
  refine xk_Po.go 4 rfl ?_
  refine xk_Po.br rfl rfl (fun hZ => absurd hZ (h0)) (fun _ => ?_) -- 27 .if_icmp .lt 40
  refine xk_Po.go 2 rfl ?_
  refine xk_Po.br rfl rfl (fun hZ => absurd hZ (h1)) (fun _ => ?_) -- 30 .if_icmp .gt 40
  refine xk_Po.go 3 rfl ?_
  refine xk_Po.ci2 rfl rfl (t_coN T0 hv h5) ?_
  refine xk_Po.go 3 rfl ?_
  refine xk_Po.ci2 rfl rfl (r_fits hc) ?_
  refine xk_Po.br rfl rfl (fun hZ => absurd hZ (hf)) (fun _ => ?_) -- 39 .ifCond .ne 42
  refine xk_Po.go 1 rfl ?_
  refine xk_Po.ci1 rfl rfl (r_isOneAbsent) ?_
  refine xk_Po.br rfl rfl (fun hZ => absurd hZ (h)) (fun _ => ?_) -- 44 .ifCond .eq 47
  refine xk_Po.go 7 rfl ?_
  exact xk_Po.iret rfl (rfl)
theorem r_grow_nr {v : Nat} (hv : v < 4) (hu : ¬ ta (5 + v) = 0) {f : Nat → Nat} (h5 : f (5 + v) ≠ 0) (hc : ¬ Int32.ofNat (f (5 + v) / 4 % 8) = 0) {k : Nat} (hk : k < 6) (h0 : ¬ Int32.ofNat k < Int32.ofInt 1) (h1 : ¬ Int32.ofInt 5 < Int32.ofNat k) (hf : ¬ (if Int32.ofNat (f (5 + v) / 32) + Int32.ofNat k < Int32.ofInt 1 then (0 : Int32) else if Int32.ofInt 5 < Int32.ofNat (f (5 + v) / 32) + Int32.ofNat k then 0 else if (Int32.ofNat (f (5 + v) / 32) + Int32.ofNat k) % Int32.ofNat (f (5 + v) / 4 % 8) = 0 then 1 else 0) = 0) (hq : p_abs ta pr 4 = 0) {B : Nat} {ab : Nat → Int32} {n dN mN xN cN : Nat} (O : s_On B sl ab ta f n dN mN xN cN) (hB : B + 2 < 2147483648) (hpr : pr = n_pr ab) (hnx : ∀ i, 51 ≤ i → nx i = 0) {a b : Nat} (ha : a < 4) (hb2 : b < 10) (hcv : cv = Int32.ofNat a) (hcg : cg = Int32.ofNat b) (hC : n_cp mo cT xN) (hQ : n_cq cv cg mN xN) (T1 : n_Tv (n_up f (5 + v) (n_D (f (5 + v)) (f (5 + v) / 32 + k)))) (hel : f (5 + v) / 32 ≤ (n_up f (5 + v) (n_D (f (5 + v)) (f (5 + v) / 32 + k))) (5 + v) / 32)  (hn : n_fil ab mN xN v (2 * ((n_up f (5 + v) (n_D (f (5 + v)) (f (5 + v) / 32 + k))) (5 + v) / 32) - 2 * (f (5 + v) / 32)) (2 * (f (5 + v) / 32)) (n_up f (5 + v) (n_D (f (5 + v)) (f (5 + v) / 32 + k))) = none) : ∃ n2, (∀ i, 51 ≤ i → n2 i = 0) ∧ xk_Ev (xp_P sc) 138 0 [.ref 10, .int (Int32.ofNat v), .int (Int32.ofNat k), .retAddr 0] [] (mw p th pr sl ex ta nx (1) lf mo cv cg cT cp r) (.inl (some (.int 0)), 0, mw p (4) pr sl ex ta (n2) (1) lf mo cv cg cT cp r) := by
  have T0 := O.2.2.1
  have hb := O.2.1
  have eab : n_ab pr = ab := by rw [hpr]; exact n_ab_pr hb
  have hbp : ∀ i, pr i = 0 ∨ pr i = 1 := by rw [hpr]; exact n_pr_b ab
  have eG := s_dv_G _ (T0.v v hv) h5 k hk
  rw [← T0.w (5 + v) (by omega) (by omega)] at eG
  have eU : upd ta (5 + v) (ta (5 + v) + Int32.ofInt 32 * Int32.ofNat k) = s_mk ta (n_up f (5 + v) (n_D (f (5 + v)) (f (5 + v) / 32 + k))) := by
    rw [eG, ← s_mk_up (by omega) (by omega), s_mk_self T0.w]
  have hl : ∀ i, 2 * (f (5 + v) / 32) ≤ i → i < 10 → (n_up f (5 + v) (n_D (f (5 + v)) (f (5 + v) / 32 + k))) (9 + (v * 10 + i)) = 0 := by
    intro i h1 h2
    rw [n_up_ne (by omega)]
    exact Decidable.byContradiction (fun q => by have := T0.g v i hv h2 q; omega)
  have hx1 : n_tg (n_up f (5 + v) (n_D (f (5 + v)) (f (5 + v) / 32 + k))) xN := fun q => by
    obtain ⟨q1, q2⟩ := O.2.2.2.2.2.2.2.2 q
    refine ⟨by rw [n_up_ne (by omega)]; exact q1, fun ⟨i, k1, k2⟩ => q2 ⟨i, k1, by rw [n_up_ne (by omega)] at k2; exact k2⟩⟩
  have fnd := r_find (sc := sc) (p := p) (th := 0) (pr := pr) (sl := sl) (ex := ex) (ta := ta) (on := 1) (lf := lf) (mo := mo) (cv := cv) (cg := cg) (cT := cT) (cp := cp) (r := r) (t0 := ta) (from_ := f (5 + v) / 32) T0.z T1 hbp hC hQ hv (by rw [n_up_at]; intro q; rw [n_up_at, q] at hel; have := (s_dv_col _ (T0.v v hv) h5).2.2.2.1; omega) hx1 hel hl
  rw [eab] at fnd
  obtain ⟨n2, z2, fn⟩ := fnd.2 hn
  refine ⟨n2, z2, ?_⟩
  apply xk_Ev.of
  refine xk_Po.go 6 rfl ?_
  refine xk_Po.ci2 rfl rfl (r_isVolume hv hu) ?_
  refine xk_Po.go 9 rfl ?_
  refine xk_Po.ci2 rfl rfl (t_elN T0 hv) ?_
  refine xk_Po.go 4 rfl ?_
  refine xk_Po.br rfl rfl (fun hZ => absurd hZ (h0)) (fun _ => ?_) -- 27 .if_icmp .lt 40
  refine xk_Po.go 2 rfl ?_
  refine xk_Po.br rfl rfl (fun hZ => absurd hZ (h1)) (fun _ => ?_) -- 30 .if_icmp .gt 40
  refine xk_Po.go 3 rfl ?_
  refine xk_Po.ci2 rfl rfl (t_coN T0 hv h5) ?_
  refine xk_Po.go 3 rfl ?_
  refine xk_Po.ci2 rfl rfl (r_fits hc) ?_
  refine xk_Po.br rfl rfl (fun hZ => absurd hZ (hf)) (fun _ => ?_) -- 39 .ifCond .ne 42
  refine xk_Po.go 1 rfl ?_
  refine xk_Po.ci1 rfl rfl (r_isOneAbsent) ?_
  refine xk_Po.br rfl rfl (fun _ => ?_) (fun hZ => absurd (hq) hZ) -- 44 .ifCond .eq 47
  refine xk_Po.go 6 rfl ?_
  refine xk_Po.cv1 rfl rfl (r_begin T0.z hnx) ?_
  refine xk_Po.go 10 rfl ?_
  refine xk_Po.ok rfl rfl (xn_ixa (a := 5) (j := v) (by omega) (by omega)) ?_ -- 66 .iaload
  rw [show (Int32.ofInt 5 + Int32.ofNat v).toNatClampNeg = 5 + v from xn_nata (a := 5) (j := v) (by omega)]
  refine xk_Po.go 4 rfl ?_
  refine xk_Po.ok rfl rfl (xn_ixa (a := 5) (j := v) (by omega) (by omega)) ?_ -- 71 .iastore
  rw [show (Int32.ofInt 5 + Int32.ofNat v).toNatClampNeg = 5 + v from xn_nata (a := 5) (j := v) (by omega), eU]
  refine xk_Po.go 3 rfl ?_
  refine xk_Po.ci3 rfl rfl (fn) ?_
  refine xk_Po.go 5 rfl ?_
  exact xk_Po.iret rfl (rfl)
theorem r_grow1 {v : Nat} (hv : v < 4) (hu : ¬ ta (5 + v) = 0) {f : Nat → Nat} (h5 : f (5 + v) ≠ 0) (hc : ¬ Int32.ofNat (f (5 + v) / 4 % 8) = 0) {k : Nat} (hk : k < 6) (h0 : ¬ Int32.ofNat k < Int32.ofInt 1) (h1 : ¬ Int32.ofInt 5 < Int32.ofNat k) (hf : ¬ (if Int32.ofNat (f (5 + v) / 32) + Int32.ofNat k < Int32.ofInt 1 then (0 : Int32) else if Int32.ofInt 5 < Int32.ofNat (f (5 + v) / 32) + Int32.ofNat k then 0 else if (Int32.ofNat (f (5 + v) / 32) + Int32.ofNat k) % Int32.ofNat (f (5 + v) / 4 % 8) = 0 then 1 else 0) = 0) (hq : p_abs ta pr 4 = 0) {B : Nat} {ab : Nat → Int32} {n dN mN xN cN : Nat} (O : s_On B sl ab ta f n dN mN xN cN) (hB : B + 2 < 2147483648) (hpr : pr = n_pr ab) (hnx : ∀ i, 51 ≤ i → nx i = 0) {a b : Nat} (ha : a < 4) (hb2 : b < 10) (hcv : cv = Int32.ofNat a) (hcg : cg = Int32.ofNat b) (hC : n_cp mo cT xN) (hQ : n_cq cv cg mN xN) (T1 : n_Tv (n_up f (5 + v) (n_D (f (5 + v)) (f (5 + v) / 32 + k)))) (hel : f (5 + v) / 32 ≤ (n_up f (5 + v) (n_D (f (5 + v)) (f (5 + v) / 32 + k))) (5 + v) / 32)  {g : Nat → Nat} (hn : n_fil ab mN xN v (2 * ((n_up f (5 + v) (n_D (f (5 + v)) (f (5 + v) / 32 + k))) (5 + v) / 32) - 2 * (f (5 + v) / 32)) (2 * (f (5 + v) / 32)) (n_up f (5 + v) (n_D (f (5 + v)) (f (5 + v) / 32 + k))) = some g) (Tg : n_Tv g) (hg5 : f (5 + v) / 32 ≤ g (5 + v) / 32) (hall : n_all f ab) (ho : (m_b (m_b (true, (sl, ex, lf)) (m_for (m_cle g v) (2 * (g (5 + v) / 32) - 2 * (f (5 + v) / 32)) (2 * (f (5 + v) / 32)))) (m_com (s_seal (s_mk ta g) (Int32.ofNat (n + 1))) ab)).1 = true) : xk_Ev (xp_P sc) 138 0 [.ref 10, .int (Int32.ofNat v), .int (Int32.ofNat k), .retAddr 0] [] (mw p th pr sl ex ta nx (1) lf mo cv cg cT cp r) (.inl (some (.int (Int32.ofNat (f (5 + v) / 32) + Int32.ofNat k))), 0, mw p (0) pr ((m_b (m_b (true, (sl, ex, lf)) (m_for (m_cle g v) (2 * (g (5 + v) / 32) - 2 * (f (5 + v) / 32)) (2 * (f (5 + v) / 32)))) (m_com (s_seal (s_mk ta g) (Int32.ofNat (n + 1))) ab)).2.1) ((m_b (m_b (true, (sl, ex, lf)) (m_for (m_cle g v) (2 * (g (5 + v) / 32) - 2 * (f (5 + v) / 32)) (2 * (f (5 + v) / 32)))) (m_com (s_seal (s_mk ta g) (Int32.ofNat (n + 1))) ab)).2.2.1) (s_seal (s_mk ta g) (Int32.ofNat (n + 1))) (s_seal (s_mk ta g) (Int32.ofNat (n + 1))) (1) ((m_b (m_b (true, (sl, ex, lf)) (m_for (m_cle g v) (2 * (g (5 + v) / 32) - 2 * (f (5 + v) / 32)) (2 * (f (5 + v) / 32)))) (m_com (s_seal (s_mk ta g) (Int32.ofNat (n + 1))) ab)).2.2.2) mo cv cg (p_cT (s_seal (s_mk ta g) (Int32.ofNat (n + 1))) ta cT (9 + (a * 10 + b))) cp r) := by
  have T0 := O.2.2.1
  have hb := O.2.1
  have eab : n_ab pr = ab := by rw [hpr]; exact n_ab_pr hb
  have hbp : ∀ i, pr i = 0 ∨ pr i = 1 := by rw [hpr]; exact n_pr_b ab
  have eG := s_dv_G _ (T0.v v hv) h5 k hk
  rw [← T0.w (5 + v) (by omega) (by omega)] at eG
  have eU : upd ta (5 + v) (ta (5 + v) + Int32.ofInt 32 * Int32.ofNat k) = s_mk ta (n_up f (5 + v) (n_D (f (5 + v)) (f (5 + v) / 32 + k))) := by
    rw [eG, ← s_mk_up (by omega) (by omega), s_mk_self T0.w]
  have hl : ∀ i, 2 * (f (5 + v) / 32) ≤ i → i < 10 → (n_up f (5 + v) (n_D (f (5 + v)) (f (5 + v) / 32 + k))) (9 + (v * 10 + i)) = 0 := by
    intro i h1 h2
    rw [n_up_ne (by omega)]
    exact Decidable.byContradiction (fun q => by have := T0.g v i hv h2 q; omega)
  have hx1 : n_tg (n_up f (5 + v) (n_D (f (5 + v)) (f (5 + v) / 32 + k))) xN := fun q => by
    obtain ⟨q1, q2⟩ := O.2.2.2.2.2.2.2.2 q
    refine ⟨by rw [n_up_ne (by omega)]; exact q1, fun ⟨i, k1, k2⟩ => q2 ⟨i, k1, by rw [n_up_ne (by omega)] at k2; exact k2⟩⟩
  have fnd := r_find (sc := sc) (p := p) (th := 0) (pr := pr) (sl := sl) (ex := ex) (ta := ta) (on := 1) (lf := lf) (mo := mo) (cv := cv) (cg := cg) (cT := cT) (cp := cp) (r := r) (t0 := ta) (from_ := f (5 + v) / 32) T0.z T1 hbp hC hQ hv (by rw [n_up_at]; intro q; rw [n_up_at, q] at hel; have := (s_dv_col _ (T0.v v hv) h5).2.2.2.1; omega) hx1 hel hl
  rw [eab] at fnd
  have fn := fnd.1 g hn
  have hsl : (m_b (true, (sl, ex, lf)) (m_for (m_cle g v) (2 * (g (5 + v) / 32) - 2 * (f (5 + v) / 32)) (2 * (f (5 + v) / 32)))).2.1 = sl := (congrArg (·.2.1) (m_b_on _ _)).trans (m_for_sl (fun i s => m_cle_sl g v i s) _ _ _)
  apply xk_Ev.of
  refine xk_Po.go 6 rfl ?_
  refine xk_Po.ci2 rfl rfl (r_isVolume hv hu) ?_
  refine xk_Po.go 9 rfl ?_
  refine xk_Po.ci2 rfl rfl (t_elN T0 hv) ?_
  refine xk_Po.go 4 rfl ?_
  refine xk_Po.br rfl rfl (fun hZ => absurd hZ (h0)) (fun _ => ?_) -- 27 .if_icmp .lt 40
  refine xk_Po.go 2 rfl ?_
  refine xk_Po.br rfl rfl (fun hZ => absurd hZ (h1)) (fun _ => ?_) -- 30 .if_icmp .gt 40
  refine xk_Po.go 3 rfl ?_
  refine xk_Po.ci2 rfl rfl (t_coN T0 hv h5) ?_
  refine xk_Po.go 3 rfl ?_
  refine xk_Po.ci2 rfl rfl (r_fits hc) ?_
  refine xk_Po.br rfl rfl (fun hZ => absurd hZ (hf)) (fun _ => ?_) -- 39 .ifCond .ne 42
  refine xk_Po.go 1 rfl ?_
  refine xk_Po.ci1 rfl rfl (r_isOneAbsent) ?_
  refine xk_Po.br rfl rfl (fun _ => ?_) (fun hZ => absurd (hq) hZ) -- 44 .ifCond .eq 47
  refine xk_Po.go 6 rfl ?_
  refine xk_Po.cv1 rfl rfl (r_begin T0.z hnx) ?_
  refine xk_Po.go 10 rfl ?_
  refine xk_Po.ok rfl rfl (xn_ixa (a := 5) (j := v) (by omega) (by omega)) ?_ -- 66 .iaload
  rw [show (Int32.ofInt 5 + Int32.ofNat v).toNatClampNeg = 5 + v from xn_nata (a := 5) (j := v) (by omega)]
  refine xk_Po.go 4 rfl ?_
  refine xk_Po.ok rfl rfl (xn_ixa (a := 5) (j := v) (by omega) (by omega)) ?_ -- 71 .iastore
  rw [show (Int32.ofInt 5 + Int32.ofNat v).toNatClampNeg = 5 + v from xn_nata (a := 5) (j := v) (by omega), eU]
  refine xk_Po.go 3 rfl ?_
  refine xk_Po.ci3 rfl rfl (fn) ?_
  refine xk_Po.go 4 rfl ?_
  refine xk_Po.cv3 rfl rfl (r_clear (o := (true, (sl, ex, lf))) Tg T0.z hv hg5) ?_
  refine xk_Po.go 1 rfl ?_
  refine xk_Po.cv1 rfl rfl (r_chgo1 O hsl (s_mk_Tv Tg T0.z) hB hpr (.inl ⟨rfl, hall⟩) ha hb2 hcv hcg ho) ?_
  refine xk_Po.go 4 rfl ?_
  refine xk_Po.ci2 rfl rfl (r_ended1) ?_
  exact xk_Po.iret rfl (rfl)
theorem r_grow0 {v : Nat} (hv : v < 4) (hu : ¬ ta (5 + v) = 0) {f : Nat → Nat} (h5 : f (5 + v) ≠ 0) (hc : ¬ Int32.ofNat (f (5 + v) / 4 % 8) = 0) {k : Nat} (hk : k < 6) (h0 : ¬ Int32.ofNat k < Int32.ofInt 1) (h1 : ¬ Int32.ofInt 5 < Int32.ofNat k) (hf : ¬ (if Int32.ofNat (f (5 + v) / 32) + Int32.ofNat k < Int32.ofInt 1 then (0 : Int32) else if Int32.ofInt 5 < Int32.ofNat (f (5 + v) / 32) + Int32.ofNat k then 0 else if (Int32.ofNat (f (5 + v) / 32) + Int32.ofNat k) % Int32.ofNat (f (5 + v) / 4 % 8) = 0 then 1 else 0) = 0) (hq : p_abs ta pr 4 = 0) {B : Nat} {ab : Nat → Int32} {n dN mN xN cN : Nat} (O : s_On B sl ab ta f n dN mN xN cN) (hB : B + 2 < 2147483648) (hpr : pr = n_pr ab) (hnx : ∀ i, 51 ≤ i → nx i = 0) {a b : Nat} (ha : a < 4) (hb2 : b < 10) (hcv : cv = Int32.ofNat a) (hcg : cg = Int32.ofNat b) (hC : n_cp mo cT xN) (hQ : n_cq cv cg mN xN) (T1 : n_Tv (n_up f (5 + v) (n_D (f (5 + v)) (f (5 + v) / 32 + k)))) (hel : f (5 + v) / 32 ≤ (n_up f (5 + v) (n_D (f (5 + v)) (f (5 + v) / 32 + k))) (5 + v) / 32)  {g : Nat → Nat} (hn : n_fil ab mN xN v (2 * ((n_up f (5 + v) (n_D (f (5 + v)) (f (5 + v) / 32 + k))) (5 + v) / 32) - 2 * (f (5 + v) / 32)) (2 * (f (5 + v) / 32)) (n_up f (5 + v) (n_D (f (5 + v)) (f (5 + v) / 32 + k))) = some g) (Tg : n_Tv g) (hg5 : f (5 + v) / 32 ≤ g (5 + v) / 32) (hall : n_all f ab) (ho : ¬ (m_b (m_b (true, (sl, ex, lf)) (m_for (m_cle g v) (2 * (g (5 + v) / 32) - 2 * (f (5 + v) / 32)) (2 * (f (5 + v) / 32)))) (m_com (s_seal (s_mk ta g) (Int32.ofNat (n + 1))) ab)).1 = true) : xk_Ev (xp_P sc) 138 0 [.ref 10, .int (Int32.ofNat v), .int (Int32.ofNat k), .retAddr 0] [] (mw p th pr sl ex ta nx (1) lf mo cv cg cT cp r) (.inl (some (.int (0))), 0, mw p (1) pr ((m_b (m_b (true, (sl, ex, lf)) (m_for (m_cle g v) (2 * (g (5 + v) / 32) - 2 * (f (5 + v) / 32)) (2 * (f (5 + v) / 32)))) (m_com (s_seal (s_mk ta g) (Int32.ofNat (n + 1))) ab)).2.1) ((m_b (m_b (true, (sl, ex, lf)) (m_for (m_cle g v) (2 * (g (5 + v) / 32) - 2 * (f (5 + v) / 32)) (2 * (f (5 + v) / 32)))) (m_com (s_seal (s_mk ta g) (Int32.ofNat (n + 1))) ab)).2.2.1) ta (s_seal (s_mk ta g) (Int32.ofNat (n + 1))) (0) (-1) (-1) cv cg cT cp r) := by
  have T0 := O.2.2.1
  have hb := O.2.1
  have eab : n_ab pr = ab := by rw [hpr]; exact n_ab_pr hb
  have hbp : ∀ i, pr i = 0 ∨ pr i = 1 := by rw [hpr]; exact n_pr_b ab
  have eG := s_dv_G _ (T0.v v hv) h5 k hk
  rw [← T0.w (5 + v) (by omega) (by omega)] at eG
  have eU : upd ta (5 + v) (ta (5 + v) + Int32.ofInt 32 * Int32.ofNat k) = s_mk ta (n_up f (5 + v) (n_D (f (5 + v)) (f (5 + v) / 32 + k))) := by
    rw [eG, ← s_mk_up (by omega) (by omega), s_mk_self T0.w]
  have hl : ∀ i, 2 * (f (5 + v) / 32) ≤ i → i < 10 → (n_up f (5 + v) (n_D (f (5 + v)) (f (5 + v) / 32 + k))) (9 + (v * 10 + i)) = 0 := by
    intro i h1 h2
    rw [n_up_ne (by omega)]
    exact Decidable.byContradiction (fun q => by have := T0.g v i hv h2 q; omega)
  have hx1 : n_tg (n_up f (5 + v) (n_D (f (5 + v)) (f (5 + v) / 32 + k))) xN := fun q => by
    obtain ⟨q1, q2⟩ := O.2.2.2.2.2.2.2.2 q
    refine ⟨by rw [n_up_ne (by omega)]; exact q1, fun ⟨i, k1, k2⟩ => q2 ⟨i, k1, by rw [n_up_ne (by omega)] at k2; exact k2⟩⟩
  have fnd := r_find (sc := sc) (p := p) (th := 0) (pr := pr) (sl := sl) (ex := ex) (ta := ta) (on := 1) (lf := lf) (mo := mo) (cv := cv) (cg := cg) (cT := cT) (cp := cp) (r := r) (t0 := ta) (from_ := f (5 + v) / 32) T0.z T1 hbp hC hQ hv (by rw [n_up_at]; intro q; rw [n_up_at, q] at hel; have := (s_dv_col _ (T0.v v hv) h5).2.2.2.1; omega) hx1 hel hl
  rw [eab] at fnd
  have fn := fnd.1 g hn
  have hsl : (m_b (true, (sl, ex, lf)) (m_for (m_cle g v) (2 * (g (5 + v) / 32) - 2 * (f (5 + v) / 32)) (2 * (f (5 + v) / 32)))).2.1 = sl := (congrArg (·.2.1) (m_b_on _ _)).trans (m_for_sl (fun i s => m_cle_sl g v i s) _ _ _)
  apply xk_Ev.of
  refine xk_Po.go 6 rfl ?_
  refine xk_Po.ci2 rfl rfl (r_isVolume hv hu) ?_
  refine xk_Po.go 9 rfl ?_
  refine xk_Po.ci2 rfl rfl (t_elN T0 hv) ?_
  refine xk_Po.go 4 rfl ?_
  refine xk_Po.br rfl rfl (fun hZ => absurd hZ (h0)) (fun _ => ?_) -- 27 .if_icmp .lt 40
  refine xk_Po.go 2 rfl ?_
  refine xk_Po.br rfl rfl (fun hZ => absurd hZ (h1)) (fun _ => ?_) -- 30 .if_icmp .gt 40
  refine xk_Po.go 3 rfl ?_
  refine xk_Po.ci2 rfl rfl (t_coN T0 hv h5) ?_
  refine xk_Po.go 3 rfl ?_
  refine xk_Po.ci2 rfl rfl (r_fits hc) ?_
  refine xk_Po.br rfl rfl (fun hZ => absurd hZ (hf)) (fun _ => ?_) -- 39 .ifCond .ne 42
  refine xk_Po.go 1 rfl ?_
  refine xk_Po.ci1 rfl rfl (r_isOneAbsent) ?_
  refine xk_Po.br rfl rfl (fun _ => ?_) (fun hZ => absurd (hq) hZ) -- 44 .ifCond .eq 47
  refine xk_Po.go 6 rfl ?_
  refine xk_Po.cv1 rfl rfl (r_begin T0.z hnx) ?_
  refine xk_Po.go 10 rfl ?_
  refine xk_Po.ok rfl rfl (xn_ixa (a := 5) (j := v) (by omega) (by omega)) ?_ -- 66 .iaload
  rw [show (Int32.ofInt 5 + Int32.ofNat v).toNatClampNeg = 5 + v from xn_nata (a := 5) (j := v) (by omega)]
  refine xk_Po.go 4 rfl ?_
  refine xk_Po.ok rfl rfl (xn_ixa (a := 5) (j := v) (by omega) (by omega)) ?_ -- 71 .iastore
  rw [show (Int32.ofInt 5 + Int32.ofNat v).toNatClampNeg = 5 + v from xn_nata (a := 5) (j := v) (by omega), eU]
  refine xk_Po.go 3 rfl ?_
  refine xk_Po.ci3 rfl rfl (fn) ?_
  refine xk_Po.go 4 rfl ?_
  refine xk_Po.cv3 rfl rfl (r_clear (o := (true, (sl, ex, lf))) Tg T0.z hv hg5) ?_
  refine xk_Po.go 1 rfl ?_
  refine xk_Po.cv1 rfl rfl (r_chgo0 O hsl (s_mk_Tv Tg T0.z) hB hpr (.inl ⟨rfl, hall⟩) ha hb2 hcv hcg ho) ?_
  refine xk_Po.go 4 rfl ?_
  refine xk_Po.ci2 rfl rfl (r_ended0) ?_
  exact xk_Po.iret rfl (rfl)
end XkMcf
