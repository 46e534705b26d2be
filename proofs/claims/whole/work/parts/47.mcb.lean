section XkMcb
variable {sc : Nat × (Nat → Int32)} {p : xk_Ten} {pr sl ex ta nx : Nat → Int32} {th on lf mo cv cg cT cp : Int32} {r w : xk_W}
theorem r_aim0 {x j : Nat} {y : Value} {Φ : xk_R → Prop} (hC : n_cp mo cT x) (hj : j < 4) (hA : ¬ (x < 32 ∧ x / 8 = j)) (h : xk_Po (xp_P sc) 134 35 [.ref 10, .int (Int32.ofNat j), .int 0] [] (mw p th pr sl ex ta nx on lf mo cv cg cT cp r) Φ) : xk_Po (xp_P sc) 134 17 [.ref 10, .int (Int32.ofNat j), y] [] (mw p th pr sl ex ta nx on lf mo cv cg cT cp r) Φ := by
  have no : xk_Po (xp_P sc) 134 33 [.ref 10, .int (Int32.ofNat j), y] [] (mw p th pr sl ex ta nx on lf mo cv cg cT cp r) Φ := xk_Po.go 2 rfl h
  refine xk_Po.go 2 rfl ?_
  refine xk_Po.br rfl rfl (fun _ => no) (fun h1 => ?_)
  refine xk_Po.go 2 rfl ?_
  refine xk_Po.br rfl rfl (fun _ => no) (fun h2 => ?_)
  by_cases hx : x < 32
  · have e := (hC.1 hx).2
    subst e
    refine xk_Po.go 7 rfl ?_
    refine xk_Po.br rfl rfl (fun h3 => absurd ⟨hx, ((s_leg8 (x + 1) (by omega) (by omega) j hj).1 h3)⟩ hA) (fun _ => no)
  · exact absurd (hC.2 hx) (fun q => q.elim h1 (fun r => h2 (by rw [r]; exact Int32.le_refl _)))
theorem r_aim1 {x j : Nat} {y : Value} {Φ : xk_R → Prop} (hC : n_cp mo cT x) (hj : j < 4) (hA : x < 32 ∧ x / 8 = j) (h : xk_Po (xp_P sc) 134 35 [.ref 10, .int (Int32.ofNat j), .int 1] [] (mw p th pr sl ex ta nx on lf mo cv cg cT cp r) Φ) : xk_Po (xp_P sc) 134 17 [.ref 10, .int (Int32.ofNat j), y] [] (mw p th pr sl ex ta nx on lf mo cv cg cT cp r) Φ := by
  obtain ⟨h1, e⟩ := hC.1 hA.1
  subst e
  refine xk_Po.go 2 rfl ?_
  refine xk_Po.br rfl rfl (fun q => absurd q h1) (fun _ => ?_)
  refine xk_Po.go 2 rfl ?_
  refine xk_Po.br rfl rfl (fun q => absurd ((xn_le0 (by omega)).1 q) (by omega)) (fun _ => ?_)
  refine xk_Po.go 7 rfl ?_
  refine xk_Po.br rfl rfl (fun _ => ?_) (fun q => absurd ((s_leg8 (x + 1) (by omega) (by omega) j hj).2 (by rw [Nat.add_sub_cancel]; exact hA.2)) q)
  exact xk_Po.go 3 rfl h
theorem r_remove_nl0 {j : Nat} (hj : j < 4) {x : Nat} (hC : n_cp mo cT x) (hA : ¬ (x < 32 ∧ x / 8 = j)) (h : ta (1 + j) = 0) : xk_Ev (xp_P sc) 134 0 [.ref 10, .int (Int32.ofNat j), .retAddr 0] [] (mw p th pr sl ex ta nx (1) lf mo cv cg cT cp r) (.inl none, 0, mw p (3) pr sl ex ta nx (1) lf mo cv cg cT cp r) := by
  apply xk_Ev.of
  refine xk_Po.go 5 rfl ?_
  refine xk_Po.ci1 rfl rfl (r_isDisk1 hj) ?_
  refine xk_Po.go 6 rfl ?_
  refine r_aim0 hC hj hA ?_
  refine xk_Po.go 6 rfl ?_
  refine xk_Po.ok rfl rfl (xn_ixa (a := 1) (j := j) (by omega) (by omega)) ?_ -- 41 .iaload
  rw [show (Int32.ofInt 1 + Int32.ofNat j).toNatClampNeg = 1 + j from xn_nata (a := 1) (j := j) (by omega)]
  refine xk_Po.br rfl rfl (fun _ => ?_) (fun hZ => absurd (h) hZ) -- 42 .ifCond .eq 56
  refine xk_Po.go 6 rfl ?_
  exact xk_Po.ret rfl (rfl)
theorem r_remove_us0 {j : Nat} (hj : j < 4) {x : Nat} (hC : n_cp mo cT x) (hA : ¬ (x < 32 ∧ x / 8 = j)) (hl : ¬ ta (1 + j) = 0) (h : 0 < p_leg ta (Int32.ofNat j) 40) : xk_Ev (xp_P sc) 134 0 [.ref 10, .int (Int32.ofNat j), .retAddr 0] [] (mw p th pr sl ex ta nx (1) lf mo cv cg cT cp r) (.inl none, 0, mw p (3) pr sl ex ta nx (1) lf mo cv cg cT cp r) := by
  apply xk_Ev.of
  refine xk_Po.go 5 rfl ?_
  refine xk_Po.ci1 rfl rfl (r_isDisk1 hj) ?_
  refine xk_Po.go 6 rfl ?_
  refine r_aim0 hC hj hA ?_
  refine xk_Po.go 6 rfl ?_
  refine xk_Po.ok rfl rfl (xn_ixa (a := 1) (j := j) (by omega) (by omega)) ?_ -- 41 .iaload
  rw [show (Int32.ofInt 1 + Int32.ofNat j).toNatClampNeg = 1 + j from xn_nata (a := 1) (j := j) (by omega)]
  refine xk_Po.br rfl rfl (fun hZ => absurd hZ (hl)) (fun _ => ?_) -- 42 .ifCond .eq 56
  refine xk_Po.go 2 rfl ?_
  refine xk_Po.ci2 rfl rfl (r_legsOn) ?_
  refine xk_Po.br rfl rfl (fun _ => ?_) (fun hZ => absurd (h) hZ) -- 46 .ifCond .gt 56
  refine xk_Po.go 6 rfl ?_
  exact xk_Po.ret rfl (rfl)
theorem r_remove_nl1 {j : Nat} (hj : j < 4) {x : Nat} (hC : n_cp mo cT x) (hA : x < 32 ∧ x / 8 = j) (h : ta (1 + j) = 0) : xk_Ev (xp_P sc) 134 0 [.ref 10, .int (Int32.ofNat j), .retAddr 0] [] (mw p th pr sl ex ta nx (1) lf mo cv cg cT cp r) (.inl none, 0, mw p (3) pr sl ex ta nx (1) lf mo cv cg cT cp r) := by
  apply xk_Ev.of
  refine xk_Po.go 5 rfl ?_
  refine xk_Po.ci1 rfl rfl (r_isDisk1 hj) ?_
  refine xk_Po.go 6 rfl ?_
  refine r_aim1 hC hj hA ?_
  refine xk_Po.go 6 rfl ?_
  refine xk_Po.ok rfl rfl (xn_ixa (a := 1) (j := j) (by omega) (by omega)) ?_ -- 41 .iaload
  rw [show (Int32.ofInt 1 + Int32.ofNat j).toNatClampNeg = 1 + j from xn_nata (a := 1) (j := j) (by omega)]
  refine xk_Po.br rfl rfl (fun _ => ?_) (fun hZ => absurd (h) hZ) -- 42 .ifCond .eq 56
  refine xk_Po.go 6 rfl ?_
  exact xk_Po.ret rfl (rfl)
theorem r_remove_us1 {j : Nat} (hj : j < 4) {x : Nat} (hC : n_cp mo cT x) (hA : x < 32 ∧ x / 8 = j) (hl : ¬ ta (1 + j) = 0) (h : 0 < p_leg ta (Int32.ofNat j) 40) : xk_Ev (xp_P sc) 134 0 [.ref 10, .int (Int32.ofNat j), .retAddr 0] [] (mw p th pr sl ex ta nx (1) lf mo cv cg cT cp r) (.inl none, 0, mw p (3) pr sl ex ta nx (1) lf mo cv cg cT cp r) := by
  apply xk_Ev.of
  refine xk_Po.go 5 rfl ?_
  refine xk_Po.ci1 rfl rfl (r_isDisk1 hj) ?_
  refine xk_Po.go 6 rfl ?_
  refine r_aim1 hC hj hA ?_
  refine xk_Po.go 6 rfl ?_
  refine xk_Po.ok rfl rfl (xn_ixa (a := 1) (j := j) (by omega) (by omega)) ?_ -- 41 .iaload
  rw [show (Int32.ofInt 1 + Int32.ofNat j).toNatClampNeg = 1 + j from xn_nata (a := 1) (j := j) (by omega)]
  refine xk_Po.br rfl rfl (fun hZ => absurd hZ (hl)) (fun _ => ?_) -- 42 .ifCond .eq 56
  refine xk_Po.go 2 rfl ?_
  refine xk_Po.ci2 rfl rfl (r_legsOn) ?_
  refine xk_Po.br rfl rfl (fun _ => ?_) (fun hZ => absurd (h) hZ) -- 46 .ifCond .gt 56
  refine xk_Po.go 6 rfl ?_
  exact xk_Po.ret rfl (rfl)
theorem r_remove_am {j : Nat} (hj : j < 4) {x : Nat} (hC : n_cp mo cT x) (hA : x < 32 ∧ x / 8 = j) (hl : ¬ ta (1 + j) = 0) (hu : ¬ 0 < p_leg ta (Int32.ofNat j) 40)  : xk_Ev (xp_P sc) 134 0 [.ref 10, .int (Int32.ofNat j), .retAddr 0] [] (mw p th pr sl ex ta nx (1) lf mo cv cg cT cp r) (.inl none, 0, mw p (3) pr sl ex ta nx (1) lf mo cv cg cT cp r) := by
  apply xk_Ev.of
  refine xk_Po.go 5 rfl ?_
  refine xk_Po.ci1 rfl rfl (r_isDisk1 hj) ?_
  refine xk_Po.go 6 rfl ?_
  refine r_aim1 hC hj hA ?_
  refine xk_Po.go 6 rfl ?_
  refine xk_Po.ok rfl rfl (xn_ixa (a := 1) (j := j) (by omega) (by omega)) ?_ -- 41 .iaload
  rw [show (Int32.ofInt 1 + Int32.ofNat j).toNatClampNeg = 1 + j from xn_nata (a := 1) (j := j) (by omega)]
  refine xk_Po.br rfl rfl (fun hZ => absurd hZ (hl)) (fun _ => ?_) -- 42 .ifCond .eq 56
  refine xk_Po.go 2 rfl ?_
  refine xk_Po.ci2 rfl rfl (r_legsOn) ?_
  refine xk_Po.br rfl rfl (fun hZ => absurd hZ (hu)) (fun _ => ?_) -- 46 .ifCond .gt 56
  refine xk_Po.go 8 rfl ?_
  exact xk_Po.ret rfl (rfl)
theorem r_remove_on {j : Nat} (hj : j < 4) {x : Nat} (hC : n_cp mo cT x) (hA : ¬ (x < 32 ∧ x / 8 = j)) (hl : ¬ ta (1 + j) = 0) (hu : ¬ 0 < p_leg ta (Int32.ofNat j) 40) (h : p_lst ta 4 < Int32.ofInt 2) : xk_Ev (xp_P sc) 134 0 [.ref 10, .int (Int32.ofNat j), .retAddr 0] [] (mw p th pr sl ex ta nx (1) lf mo cv cg cT cp r) (.inl none, 0, mw p (3) pr sl ex ta nx (1) lf mo cv cg cT cp r) := by
  apply xk_Ev.of
  refine xk_Po.go 5 rfl ?_
  refine xk_Po.ci1 rfl rfl (r_isDisk1 hj) ?_
  refine xk_Po.go 6 rfl ?_
  refine r_aim0 hC hj hA ?_
  refine xk_Po.go 6 rfl ?_
  refine xk_Po.ok rfl rfl (xn_ixa (a := 1) (j := j) (by omega) (by omega)) ?_ -- 41 .iaload
  rw [show (Int32.ofInt 1 + Int32.ofNat j).toNatClampNeg = 1 + j from xn_nata (a := 1) (j := j) (by omega)]
  refine xk_Po.br rfl rfl (fun hZ => absurd hZ (hl)) (fun _ => ?_) -- 42 .ifCond .eq 56
  refine xk_Po.go 2 rfl ?_
  refine xk_Po.ci2 rfl rfl (r_legsOn) ?_
  refine xk_Po.br rfl rfl (fun hZ => absurd hZ (hu)) (fun _ => ?_) -- 46 .ifCond .gt 56
  refine xk_Po.go 3 rfl ?_
  refine xk_Po.ci1 rfl rfl (r_listed) ?_
  refine xk_Po.go 1 rfl ?_
  refine xk_Po.br rfl rfl (fun _ => ?_) (fun hZ => absurd (h) hZ) -- 52 .if_icmp .lt 56
  refine xk_Po.go 6 rfl ?_
  exact xk_Po.ret rfl (rfl)
theorem r_remove_ab {j : Nat} (hj : j < 4) {x : Nat} (hC : n_cp mo cT x) (hA : ¬ (x < 32 ∧ x / 8 = j)) (hl : ¬ ta (1 + j) = 0) (hu : ¬ 0 < p_leg ta (Int32.ofNat j) 40) (hs : ¬ p_lst ta 4 < Int32.ofInt 2) (h : ¬ p_abs ta pr 4 = 0) : xk_Ev (xp_P sc) 134 0 [.ref 10, .int (Int32.ofNat j), .retAddr 0] [] (mw p th pr sl ex ta nx (1) lf mo cv cg cT cp r) (.inl none, 0, mw p (3) pr sl ex ta nx (1) lf mo cv cg cT cp r) := by
  apply xk_Ev.of
  refine xk_Po.go 5 rfl ?_
  refine xk_Po.ci1 rfl rfl (r_isDisk1 hj) ?_
  refine xk_Po.go 6 rfl ?_
  refine r_aim0 hC hj hA ?_
  refine xk_Po.go 6 rfl ?_
  refine xk_Po.ok rfl rfl (xn_ixa (a := 1) (j := j) (by omega) (by omega)) ?_ -- 41 .iaload
  rw [show (Int32.ofInt 1 + Int32.ofNat j).toNatClampNeg = 1 + j from xn_nata (a := 1) (j := j) (by omega)]
  refine xk_Po.br rfl rfl (fun hZ => absurd hZ (hl)) (fun _ => ?_) -- 42 .ifCond .eq 56
  refine xk_Po.go 2 rfl ?_
  refine xk_Po.ci2 rfl rfl (r_legsOn) ?_
  refine xk_Po.br rfl rfl (fun hZ => absurd hZ (hu)) (fun _ => ?_) -- 46 .ifCond .gt 56
  refine xk_Po.go 3 rfl ?_
  refine xk_Po.ci1 rfl rfl (r_listed) ?_
  refine xk_Po.go 1 rfl ?_
  refine xk_Po.br rfl rfl (fun hZ => absurd hZ (hs)) (fun _ => ?_) -- 52 .if_icmp .lt 56
  refine xk_Po.go 1 rfl ?_
  refine xk_Po.ci1 rfl rfl (r_isOneAbsent) ?_
  refine xk_Po.br rfl rfl (fun hZ => absurd hZ (h)) (fun _ => ?_) -- 55 .ifCond .eq 58
  refine xk_Po.go 6 rfl ?_
  exact xk_Po.ret rfl (rfl)
theorem r_remove1 {j : Nat} (hj : j < 4) {x : Nat} (hC : n_cp mo cT x) (hA : ¬ (x < 32 ∧ x / 8 = j)) (hl : ¬ ta (1 + j) = 0) (hu : ¬ 0 < p_leg ta (Int32.ofNat j) 40) (hs : ¬ p_lst ta 4 < Int32.ofInt 2) (hq : p_abs ta pr 4 = 0) {g : Nat → Nat} (T : s_Tv (upd ta (1 + j) 0) g) {B : Nat} {ab : Nat → Int32} {f : Nat → Nat} {n dN mN xN cN : Nat} (O : s_On B sl ab ta f n dN mN xN cN) (hB : B + 2 < 2147483648) (hpr : pr = n_pr ab) (hnx : ∀ i, 51 ≤ i → nx i = 0) {a b : Nat} (ha : a < 4) (hb2 : b < 10) (hcv : cv = Int32.ofNat a) (hcg : cg = Int32.ofNat b) (hall : n_all f ab) (hm : ¬ mo = Int32.ofNat j) (ho : (m_com (s_seal (upd ta (1 + j) 0) (Int32.ofNat (n + 1))) ab (sl, ex, lf)).1 = true) : xk_Ev (xp_P sc) 134 0 [.ref 10, .int (Int32.ofNat j), .retAddr 0] [] (mw p th pr sl ex ta nx (1) lf mo cv cg cT cp r) (.inl none, 0, mw p (0) pr ((m_com (s_seal (upd ta (1 + j) 0) (Int32.ofNat (n + 1))) ab (sl, ex, lf)).2.1) ((m_com (s_seal (upd ta (1 + j) 0) (Int32.ofNat (n + 1))) ab (sl, ex, lf)).2.2.1) (s_seal (upd ta (1 + j) 0) (Int32.ofNat (n + 1))) (s_seal (upd ta (1 + j) 0) (Int32.ofNat (n + 1))) (1) ((m_com (s_seal (upd ta (1 + j) 0) (Int32.ofNat (n + 1))) ab (sl, ex, lf)).2.2.2) mo cv cg (p_cT (s_seal (upd ta (1 + j) 0) (Int32.ofNat (n + 1))) ta cT (9 + (a * 10 + b))) cp r) := by
  apply xk_Ev.of
  refine xk_Po.go 5 rfl ?_
  refine xk_Po.ci1 rfl rfl (r_isDisk1 hj) ?_
  refine xk_Po.go 6 rfl ?_
  refine r_aim0 hC hj hA ?_
  refine xk_Po.go 6 rfl ?_
  refine xk_Po.ok rfl rfl (xn_ixa (a := 1) (j := j) (by omega) (by omega)) ?_ -- 41 .iaload
  rw [show (Int32.ofInt 1 + Int32.ofNat j).toNatClampNeg = 1 + j from xn_nata (a := 1) (j := j) (by omega)]
  refine xk_Po.br rfl rfl (fun hZ => absurd hZ (hl)) (fun _ => ?_) -- 42 .ifCond .eq 56
  refine xk_Po.go 2 rfl ?_
  refine xk_Po.ci2 rfl rfl (r_legsOn) ?_
  refine xk_Po.br rfl rfl (fun hZ => absurd hZ (hu)) (fun _ => ?_) -- 46 .ifCond .gt 56
  refine xk_Po.go 3 rfl ?_
  refine xk_Po.ci1 rfl rfl (r_listed) ?_
  refine xk_Po.go 1 rfl ?_
  refine xk_Po.br rfl rfl (fun hZ => absurd hZ (hs)) (fun _ => ?_) -- 52 .if_icmp .lt 56
  refine xk_Po.go 1 rfl ?_
  refine xk_Po.ci1 rfl rfl (r_isOneAbsent) ?_
  refine xk_Po.br rfl rfl (fun _ => ?_) (fun hZ => absurd (hq) hZ) -- 55 .ifCond .eq 58
  refine xk_Po.go 6 rfl ?_
  refine xk_Po.cv1 rfl rfl (r_begin O.2.2.1.z hnx) ?_
  refine xk_Po.go 6 rfl ?_
  refine xk_Po.ok rfl rfl (xn_ixa (a := 1) (j := j) (by omega) (by omega)) ?_ -- 72 .iastore
  rw [show (Int32.ofInt 1 + Int32.ofNat j).toNatClampNeg = 1 + j from xn_nata (a := 1) (j := j) (by omega)]
  refine xk_Po.go 1 rfl ?_
  refine xk_Po.cv1 rfl rfl (r_chg1 O (T) hB hpr (.inl ⟨rfl, hall⟩) ha hb2 hcv hcg ho) ?_
  refine xk_Po.go 4 rfl ?_
  refine xk_Po.br rfl rfl (fun hZ => absurd hZ (hm)) (fun _ => ?_) -- 79 .if_icmp .ne 82
  refine xk_Po.go 10 rfl ?_
  exact xk_Po.ret rfl (rfl)
theorem r_remove2 {j : Nat} (hj : j < 4) {x : Nat} (hC : n_cp mo cT x) (hA : ¬ (x < 32 ∧ x / 8 = j)) (hl : ¬ ta (1 + j) = 0) (hu : ¬ 0 < p_leg ta (Int32.ofNat j) 40) (hs : ¬ p_lst ta 4 < Int32.ofInt 2) (hq : p_abs ta pr 4 = 0) {g : Nat → Nat} (T : s_Tv (upd ta (1 + j) 0) g) {B : Nat} {ab : Nat → Int32} {f : Nat → Nat} {n dN mN xN cN : Nat} (O : s_On B sl ab ta f n dN mN xN cN) (hB : B + 2 < 2147483648) (hpr : pr = n_pr ab) (hnx : ∀ i, 51 ≤ i → nx i = 0) {a b : Nat} (ha : a < 4) (hb2 : b < 10) (hcv : cv = Int32.ofNat a) (hcg : cg = Int32.ofNat b) (hall : n_all f ab) (hm : mo = Int32.ofNat j) (ho : (m_com (s_seal (upd ta (1 + j) 0) (Int32.ofNat (n + 1))) ab (sl, ex, lf)).1 = true) : xk_Ev (xp_P sc) 134 0 [.ref 10, .int (Int32.ofNat j), .retAddr 0] [] (mw p th pr sl ex ta nx (1) lf mo cv cg cT cp r) (.inl none, 0, mw p (0) pr ((m_com (s_seal (upd ta (1 + j) 0) (Int32.ofNat (n + 1))) ab (sl, ex, lf)).2.1) ((m_com (s_seal (upd ta (1 + j) 0) (Int32.ofNat (n + 1))) ab (sl, ex, lf)).2.2.1) (s_seal (upd ta (1 + j) 0) (Int32.ofNat (n + 1))) (s_seal (upd ta (1 + j) 0) (Int32.ofNat (n + 1))) (1) ((m_com (s_seal (upd ta (1 + j) 0) (Int32.ofNat (n + 1))) ab (sl, ex, lf)).2.2.2) (-1) cv cg (p_cT (s_seal (upd ta (1 + j) 0) (Int32.ofNat (n + 1))) ta cT (9 + (a * 10 + b))) cp r) := by
  apply xk_Ev.of
  refine xk_Po.go 5 rfl ?_
  refine xk_Po.ci1 rfl rfl (r_isDisk1 hj) ?_
  refine xk_Po.go 6 rfl ?_
  refine r_aim0 hC hj hA ?_
  refine xk_Po.go 6 rfl ?_
  refine xk_Po.ok rfl rfl (xn_ixa (a := 1) (j := j) (by omega) (by omega)) ?_ -- 41 .iaload
  rw [show (Int32.ofInt 1 + Int32.ofNat j).toNatClampNeg = 1 + j from xn_nata (a := 1) (j := j) (by omega)]
  refine xk_Po.br rfl rfl (fun hZ => absurd hZ (hl)) (fun _ => ?_) -- 42 .ifCond .eq 56
  refine xk_Po.go 2 rfl ?_
  refine xk_Po.ci2 rfl rfl (r_legsOn) ?_
  refine xk_Po.br rfl rfl (fun hZ => absurd hZ (hu)) (fun _ => ?_) -- 46 .ifCond .gt 56
  refine xk_Po.go 3 rfl ?_
  refine xk_Po.ci1 rfl rfl (r_listed) ?_
  refine xk_Po.go 1 rfl ?_
  refine xk_Po.br rfl rfl (fun hZ => absurd hZ (hs)) (fun _ => ?_) -- 52 .if_icmp .lt 56
  refine xk_Po.go 1 rfl ?_
  refine xk_Po.ci1 rfl rfl (r_isOneAbsent) ?_
  refine xk_Po.br rfl rfl (fun _ => ?_) (fun hZ => absurd (hq) hZ) -- 55 .ifCond .eq 58
  refine xk_Po.go 6 rfl ?_
  refine xk_Po.cv1 rfl rfl (r_begin O.2.2.1.z hnx) ?_
  refine xk_Po.go 6 rfl ?_
  refine xk_Po.ok rfl rfl (xn_ixa (a := 1) (j := j) (by omega) (by omega)) ?_ -- 72 .iastore
  rw [show (Int32.ofInt 1 + Int32.ofNat j).toNatClampNeg = 1 + j from xn_nata (a := 1) (j := j) (by omega)]
  refine xk_Po.go 1 rfl ?_
  refine xk_Po.cv1 rfl rfl (r_chg1 O (T) hB hpr (.inl ⟨rfl, hall⟩) ha hb2 hcv hcg ho) ?_
  refine xk_Po.go 4 rfl ?_
  refine xk_Po.br rfl rfl (fun _ => ?_) (fun hZ => absurd (hm) hZ) -- 79 .if_icmp .ne 82
  refine xk_Po.go 10 rfl ?_
  exact xk_Po.ret rfl (rfl)
theorem r_remove0 {j : Nat} (hj : j < 4) {x : Nat} (hC : n_cp mo cT x) (hA : ¬ (x < 32 ∧ x / 8 = j)) (hl : ¬ ta (1 + j) = 0) (hu : ¬ 0 < p_leg ta (Int32.ofNat j) 40) (hs : ¬ p_lst ta 4 < Int32.ofInt 2) (hq : p_abs ta pr 4 = 0) {g : Nat → Nat} (T : s_Tv (upd ta (1 + j) 0) g) {B : Nat} {ab : Nat → Int32} {f : Nat → Nat} {n dN mN xN cN : Nat} (O : s_On B sl ab ta f n dN mN xN cN) (hB : B + 2 < 2147483648) (hpr : pr = n_pr ab) (hnx : ∀ i, 51 ≤ i → nx i = 0) {a b : Nat} (ha : a < 4) (hb2 : b < 10) (hcv : cv = Int32.ofNat a) (hcg : cg = Int32.ofNat b) (hall : n_all f ab) (ho : ¬ (m_com (s_seal (upd ta (1 + j) 0) (Int32.ofNat (n + 1))) ab (sl, ex, lf)).1 = true) : xk_Ev (xp_P sc) 134 0 [.ref 10, .int (Int32.ofNat j), .retAddr 0] [] (mw p th pr sl ex ta nx (1) lf mo cv cg cT cp r) (.inl none, 0, mw p (1) pr ((m_com (s_seal (upd ta (1 + j) 0) (Int32.ofNat (n + 1))) ab (sl, ex, lf)).2.1) ((m_com (s_seal (upd ta (1 + j) 0) (Int32.ofNat (n + 1))) ab (sl, ex, lf)).2.2.1) ta (s_seal (upd ta (1 + j) 0) (Int32.ofNat (n + 1))) (0) (-1) (-1) cv cg cT cp r) := by
  apply xk_Ev.of
  refine xk_Po.go 5 rfl ?_
  refine xk_Po.ci1 rfl rfl (r_isDisk1 hj) ?_
  refine xk_Po.go 6 rfl ?_
  refine r_aim0 hC hj hA ?_
  refine xk_Po.go 6 rfl ?_
  refine xk_Po.ok rfl rfl (xn_ixa (a := 1) (j := j) (by omega) (by omega)) ?_ -- 41 .iaload
  rw [show (Int32.ofInt 1 + Int32.ofNat j).toNatClampNeg = 1 + j from xn_nata (a := 1) (j := j) (by omega)]
  refine xk_Po.br rfl rfl (fun hZ => absurd hZ (hl)) (fun _ => ?_) -- 42 .ifCond .eq 56
  refine xk_Po.go 2 rfl ?_
  refine xk_Po.ci2 rfl rfl (r_legsOn) ?_
  refine xk_Po.br rfl rfl (fun hZ => absurd hZ (hu)) (fun _ => ?_) -- 46 .ifCond .gt 56
  refine xk_Po.go 3 rfl ?_
  refine xk_Po.ci1 rfl rfl (r_listed) ?_
  refine xk_Po.go 1 rfl ?_
  refine xk_Po.br rfl rfl (fun hZ => absurd hZ (hs)) (fun _ => ?_) -- 52 .if_icmp .lt 56
  refine xk_Po.go 1 rfl ?_
  refine xk_Po.ci1 rfl rfl (r_isOneAbsent) ?_
  refine xk_Po.br rfl rfl (fun _ => ?_) (fun hZ => absurd (hq) hZ) -- 55 .ifCond .eq 58
  refine xk_Po.go 6 rfl ?_
  refine xk_Po.cv1 rfl rfl (r_begin O.2.2.1.z hnx) ?_
  refine xk_Po.go 6 rfl ?_
  refine xk_Po.ok rfl rfl (xn_ixa (a := 1) (j := j) (by omega) (by omega)) ?_ -- 72 .iastore
  rw [show (Int32.ofInt 1 + Int32.ofNat j).toNatClampNeg = 1 + j from xn_nata (a := 1) (j := j) (by omega)]
  refine xk_Po.go 1 rfl ?_
  refine xk_Po.cv1 rfl rfl (r_chg0 O (T) hB hpr (.inl ⟨rfl, hall⟩) ha hb2 hcv hcg ho) ?_
  refine xk_Po.go 4 rfl ?_
  refine xk_Po.br rfl rfl (fun hZ => absurd hZ (fun q => absurd q (by have := n_ne1 (a := j) (by omega); exact fun r => this r.symm))) (fun _ => ?_) -- 79 .if_icmp .ne 82
  refine xk_Po.go 9 rfl ?_
  exact xk_Po.ret rfl (rfl)
theorem r_delete_ab {v : Nat} (hv : v < 4) (hu : ¬ ta (5 + v) = 0) (h : ¬ p_abs ta pr 4 = 0) : xk_Ev (xp_P sc) 140 0 [.ref 10, .int (Int32.ofNat v), .retAddr 0] [] (mw p th pr sl ex ta nx (1) lf mo cv cg cT cp r) (.inl none, 0, mw p (3) pr sl ex ta nx (1) lf mo cv cg cT cp r) := by
  apply xk_Ev.of
  refine xk_Po.go 6 rfl ?_
  refine xk_Po.ci2 rfl rfl (r_isVolume hv hu) ?_
  refine xk_Po.go 2 rfl ?_
  refine xk_Po.ci1 rfl rfl (r_isOneAbsent) ?_
  refine xk_Po.br rfl rfl (fun hZ => absurd hZ (h)) (fun _ => ?_) -- 14 .ifCond .eq 17
  refine xk_Po.go 6 rfl ?_
  exact xk_Po.ret rfl (rfl)
theorem r_delete1 {v : Nat} (hv : v < 4) (hu : ¬ ta (5 + v) = 0) (hq : p_abs ta pr 4 = 0) {g : Nat → Nat} (T : s_Tv (s_clr (upd ta (5 + v) 0) (fun _ => True) (9 + (v * 10 + 0 * 2 + 0)) (10 - 0 * 2)) g) {B : Nat} {ab : Nat → Int32} {f : Nat → Nat} {n dN mN xN cN : Nat} (O : s_On B sl ab ta f n dN mN xN cN) (hB : B + 2 < 2147483648) (hpr : pr = n_pr ab) (hnx : ∀ i, 51 ≤ i → nx i = 0) {a b : Nat} (ha : a < 4) (hb2 : b < 10) (hcv : cv = Int32.ofNat a) (hcg : cg = Int32.ofNat b) (hall : n_all f ab) (ho : (m_com (s_seal (s_clr (upd ta (5 + v) 0) (fun _ => True) (9 + (v * 10 + 0 * 2 + 0)) (10 - 0 * 2)) (Int32.ofNat (n + 1))) ab (sl, ex, lf)).1 = true) : xk_Ev (xp_P sc) 140 0 [.ref 10, .int (Int32.ofNat v), .retAddr 0] [] (mw p th pr sl ex ta nx (1) lf mo cv cg cT cp r) (.inl none, 0, mw p (0) pr ((m_com (s_seal (s_clr (upd ta (5 + v) 0) (fun _ => True) (9 + (v * 10 + 0 * 2 + 0)) (10 - 0 * 2)) (Int32.ofNat (n + 1))) ab (sl, ex, lf)).2.1) ((m_com (s_seal (s_clr (upd ta (5 + v) 0) (fun _ => True) (9 + (v * 10 + 0 * 2 + 0)) (10 - 0 * 2)) (Int32.ofNat (n + 1))) ab (sl, ex, lf)).2.2.1) (s_seal (s_clr (upd ta (5 + v) 0) (fun _ => True) (9 + (v * 10 + 0 * 2 + 0)) (10 - 0 * 2)) (Int32.ofNat (n + 1))) (s_seal (s_clr (upd ta (5 + v) 0) (fun _ => True) (9 + (v * 10 + 0 * 2 + 0)) (10 - 0 * 2)) (Int32.ofNat (n + 1))) (1) ((m_com (s_seal (s_clr (upd ta (5 + v) 0) (fun _ => True) (9 + (v * 10 + 0 * 2 + 0)) (10 - 0 * 2)) (Int32.ofNat (n + 1))) ab (sl, ex, lf)).2.2.2) mo cv cg (p_cT (s_seal (s_clr (upd ta (5 + v) 0) (fun _ => True) (9 + (v * 10 + 0 * 2 + 0)) (10 - 0 * 2)) (Int32.ofNat (n + 1))) ta cT (9 + (a * 10 + b))) cp r) := by
  apply xk_Ev.of
  refine xk_Po.go 6 rfl ?_
  refine xk_Po.ci2 rfl rfl (r_isVolume hv hu) ?_
  refine xk_Po.go 2 rfl ?_
  refine xk_Po.ci1 rfl rfl (r_isOneAbsent) ?_
  refine xk_Po.br rfl rfl (fun _ => ?_) (fun hZ => absurd (hq) hZ) -- 14 .ifCond .eq 17
  refine xk_Po.go 6 rfl ?_
  refine xk_Po.cv1 rfl rfl (r_begin O.2.2.1.z hnx) ?_
  refine xk_Po.go 6 rfl ?_
  refine xk_Po.ok rfl rfl (xn_ixa (a := 5) (j := v) (by omega) (by omega)) ?_ -- 31 .iastore
  rw [show (Int32.ofInt 5 + Int32.ofNat v).toNatClampNeg = 5 + v from xn_nata (a := 5) (j := v) (by omega)]
  refine xk_Po.go 2 rfl ?_
  refine xk_Po.loop 10 (fun j0 => [.ref 10, .int (Int32.ofNat v), .int (Int32.ofNat j0)]) (fun j0 => mw p (0) pr sl ex ta (s_clr (upd ta (5 + v) 0) (fun _ => True) (9 + (v * 10 + 0 * 2 + 0)) j0) (1) lf mo cv cg cT cp r) (fun _ _ => fun z => z = (.inl none, 0, mw p (0) pr ((m_com (s_seal (s_clr (upd ta (5 + v) 0) (fun _ => True) (9 + (v * 10 + 0 * 2 + 0)) (10 - 0 * 2)) (Int32.ofNat (n + 1))) ab (sl, ex, lf)).2.1) ((m_com (s_seal (s_clr (upd ta (5 + v) 0) (fun _ => True) (9 + (v * 10 + 0 * 2 + 0)) (10 - 0 * 2)) (Int32.ofNat (n + 1))) ab (sl, ex, lf)).2.2.1) (s_seal (s_clr (upd ta (5 + v) 0) (fun _ => True) (9 + (v * 10 + 0 * 2 + 0)) (10 - 0 * 2)) (Int32.ofNat (n + 1))) (s_seal (s_clr (upd ta (5 + v) 0) (fun _ => True) (9 + (v * 10 + 0 * 2 + 0)) (10 - 0 * 2)) (Int32.ofNat (n + 1))) (1) ((m_com (s_seal (s_clr (upd ta (5 + v) 0) (fun _ => True) (9 + (v * 10 + 0 * 2 + 0)) (10 - 0 * 2)) (Int32.ofNat (n + 1))) ab (sl, ex, lf)).2.2.2) mo cv cg (p_cT (s_seal (s_clr (upd ta (5 + v) 0) (fun _ => True) (9 + (v * 10 + 0 * 2 + 0)) (10 - 0 * 2)) (Int32.ofNat (n + 1))) ta cT (9 + (a * 10 + b))) cp r)) (fun m0 j0 hj0 ih0 => ?_) ?_
  · refine xk_Po.go 2 rfl ?_
    refine xk_Po.br rfl rfl (fun hZ => absurd hZ (fun q => absurd ((xn_le (a := 10) (b := j0) (by omega) (by omega)).1 q) (by omega))) (fun _ => ?_) -- 36 .if_icmp .ge 50
    refine xk_Po.go 10 rfl ?_
    rw [show Int32.ofInt 9 + Int32.ofInt 10 * Int32.ofNat v + Int32.ofNat j0 = Int32.ofNat (9 + (v * 10 + 0 * 2 + 0) + j0) from (s_was v j0).trans (congrArg Int32.ofNat (by omega))]
    refine xk_Po.ok rfl rfl (xn_ix (j := 9 + (v * 10 + 0 * 2 + 0) + j0) (by omega) (by omega)) ?_ -- 47 .iastore
    rw [xn_nat (j := 9 + (v * 10 + 0 * 2 + 0) + j0) (by omega)]
    refine xk_Po.go 2 rfl ?_
    rw [← xn_suc j0] at ih0
    exact ih0
  · refine xk_Po.go 4 rfl ?_
    refine xk_Po.cv1 rfl rfl (r_chg1 O (T) hB hpr (.inl ⟨rfl, hall⟩) ha hb2 hcv hcg ho) ?_
    refine xk_Po.go 7 rfl ?_
    exact xk_Po.ret rfl (rfl)
theorem r_delete0 {v : Nat} (hv : v < 4) (hu : ¬ ta (5 + v) = 0) (hq : p_abs ta pr 4 = 0) {g : Nat → Nat} (T : s_Tv (s_clr (upd ta (5 + v) 0) (fun _ => True) (9 + (v * 10 + 0 * 2 + 0)) (10 - 0 * 2)) g) {B : Nat} {ab : Nat → Int32} {f : Nat → Nat} {n dN mN xN cN : Nat} (O : s_On B sl ab ta f n dN mN xN cN) (hB : B + 2 < 2147483648) (hpr : pr = n_pr ab) (hnx : ∀ i, 51 ≤ i → nx i = 0) {a b : Nat} (ha : a < 4) (hb2 : b < 10) (hcv : cv = Int32.ofNat a) (hcg : cg = Int32.ofNat b) (hall : n_all f ab) (ho : ¬ (m_com (s_seal (s_clr (upd ta (5 + v) 0) (fun _ => True) (9 + (v * 10 + 0 * 2 + 0)) (10 - 0 * 2)) (Int32.ofNat (n + 1))) ab (sl, ex, lf)).1 = true) : xk_Ev (xp_P sc) 140 0 [.ref 10, .int (Int32.ofNat v), .retAddr 0] [] (mw p th pr sl ex ta nx (1) lf mo cv cg cT cp r) (.inl none, 0, mw p (1) pr ((m_com (s_seal (s_clr (upd ta (5 + v) 0) (fun _ => True) (9 + (v * 10 + 0 * 2 + 0)) (10 - 0 * 2)) (Int32.ofNat (n + 1))) ab (sl, ex, lf)).2.1) ((m_com (s_seal (s_clr (upd ta (5 + v) 0) (fun _ => True) (9 + (v * 10 + 0 * 2 + 0)) (10 - 0 * 2)) (Int32.ofNat (n + 1))) ab (sl, ex, lf)).2.2.1) ta (s_seal (s_clr (upd ta (5 + v) 0) (fun _ => True) (9 + (v * 10 + 0 * 2 + 0)) (10 - 0 * 2)) (Int32.ofNat (n + 1))) (0) (-1) (-1) cv cg cT cp r) := by
  apply xk_Ev.of
  refine xk_Po.go 6 rfl ?_
  refine xk_Po.ci2 rfl rfl (r_isVolume hv hu) ?_
  refine xk_Po.go 2 rfl ?_
  refine xk_Po.ci1 rfl rfl (r_isOneAbsent) ?_
  refine xk_Po.br rfl rfl (fun _ => ?_) (fun hZ => absurd (hq) hZ) -- 14 .ifCond .eq 17
  refine xk_Po.go 6 rfl ?_
  refine xk_Po.cv1 rfl rfl (r_begin O.2.2.1.z hnx) ?_
  refine xk_Po.go 6 rfl ?_
  refine xk_Po.ok rfl rfl (xn_ixa (a := 5) (j := v) (by omega) (by omega)) ?_ -- 31 .iastore
  rw [show (Int32.ofInt 5 + Int32.ofNat v).toNatClampNeg = 5 + v from xn_nata (a := 5) (j := v) (by omega)]
  refine xk_Po.go 2 rfl ?_
  refine xk_Po.loop 10 (fun j0 => [.ref 10, .int (Int32.ofNat v), .int (Int32.ofNat j0)]) (fun j0 => mw p (0) pr sl ex ta (s_clr (upd ta (5 + v) 0) (fun _ => True) (9 + (v * 10 + 0 * 2 + 0)) j0) (1) lf mo cv cg cT cp r) (fun _ _ => fun z => z = (.inl none, 0, mw p (1) pr ((m_com (s_seal (s_clr (upd ta (5 + v) 0) (fun _ => True) (9 + (v * 10 + 0 * 2 + 0)) (10 - 0 * 2)) (Int32.ofNat (n + 1))) ab (sl, ex, lf)).2.1) ((m_com (s_seal (s_clr (upd ta (5 + v) 0) (fun _ => True) (9 + (v * 10 + 0 * 2 + 0)) (10 - 0 * 2)) (Int32.ofNat (n + 1))) ab (sl, ex, lf)).2.2.1) ta (s_seal (s_clr (upd ta (5 + v) 0) (fun _ => True) (9 + (v * 10 + 0 * 2 + 0)) (10 - 0 * 2)) (Int32.ofNat (n + 1))) (0) (-1) (-1) cv cg cT cp r)) (fun m0 j0 hj0 ih0 => ?_) ?_
  · refine xk_Po.go 2 rfl ?_
    refine xk_Po.br rfl rfl (fun hZ => absurd hZ (fun q => absurd ((xn_le (a := 10) (b := j0) (by omega) (by omega)).1 q) (by omega))) (fun _ => ?_) -- 36 .if_icmp .ge 50
    refine xk_Po.go 10 rfl ?_
    rw [show Int32.ofInt 9 + Int32.ofInt 10 * Int32.ofNat v + Int32.ofNat j0 = Int32.ofNat (9 + (v * 10 + 0 * 2 + 0) + j0) from (s_was v j0).trans (congrArg Int32.ofNat (by omega))]
    refine xk_Po.ok rfl rfl (xn_ix (j := 9 + (v * 10 + 0 * 2 + 0) + j0) (by omega) (by omega)) ?_ -- 47 .iastore
    rw [xn_nat (j := 9 + (v * 10 + 0 * 2 + 0) + j0) (by omega)]
    refine xk_Po.go 2 rfl ?_
    rw [← xn_suc j0] at ih0
    exact ih0
  · refine xk_Po.go 4 rfl ?_
    refine xk_Po.cv1 rfl rfl (r_chg0 O (T) hB hpr (.inl ⟨rfl, hall⟩) ha hb2 hcv hcg ho) ?_
    refine xk_Po.go 6 rfl ?_
    exact xk_Po.ret rfl (rfl)
end XkMcb
