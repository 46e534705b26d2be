section XkMm2
variable {sc : Nat × (Nat → Int32)} {p : xk_Ten} {pr sl ex ta nx : Nat → Int32} {th on lf mo cv cg cT cp : Int32} {r w : xk_W}
theorem t_kiN {f : Nat → Nat} {v : Nat} (T : s_Tv ta f) (hv : v < 4) (h0 : f (5 + v) ≠ 0) : xk_Ev (xp_P sc) 112 0 [.ref 14, .int (Int32.ofNat v)] [] (mw p th pr sl ex ta nx on lf mo cv cg cT cp r) (.inl (some (.int (Int32.ofNat (f (5 + v) % 4) - 1))), 0, mw p th pr sl ex ta nx on lf mo cv cg cT cp r) := by
  have h := t_kindOf (sc := sc) (p := p) (th := th) (pr := pr) (sl := sl) (ex := ex) (ta := ta) (nx := nx) (on := on) (lf := lf) (mo := mo) (cv := cv) (cg := cg) (cT := cT) (cp := cp) (r := r) hv
  have e4 := s_dv_4 _ (T.v v hv) h0
  rw [T.w (5 + v) (by omega) (by omega), if_neg e4.1, e4.2.1] at h
  exact h
theorem r_mend_nt {v : Nat} (hv : v < 4) (hu : ¬ ta (5 + v) = 0) {f : Nat → Nat} (T0 : s_Tv ta f) (h5 : f (5 + v) ≠ 0) (h : ¬ f (5 + v) % 4 = 3) : xk_Ev (xp_P sc) 142 0 [.ref 10, .int (Int32.ofNat v), .retAddr 0, .retAddr 0, .retAddr 0, .retAddr 0] [] (mw p th pr sl ex ta nx (1) lf mo cv cg cT cp r) (.inl (some (.int 0)), 0, mw p (3) pr sl ex ta nx (1) lf mo cv cg cT cp r) := by
  apply xk_Ev.of
  refine xk_Po.go 6 rfl ?_
  refine xk_Po.ci2 rfl rfl (r_isVolume hv hu) ?_
  refine xk_Po.go 4 rfl ?_
  refine xk_Po.ci2 rfl rfl (t_kiN T0 hv h5) ?_
  refine xk_Po.go 1 rfl ?_
  refine xk_Po.br rfl rfl (fun hZ => absurd hZ (fun q => h (e4_2 (by omega) q))) (fun _ => ?_) -- 17 .if_icmp .eq 20
  refine xk_Po.go 7 rfl ?_
  exact xk_Po.iret rfl (rfl)
theorem r_mend_ab {v : Nat} (hv : v < 4) (hu : ¬ ta (5 + v) = 0) {f : Nat → Nat} (T0 : s_Tv ta f) (h5 : f (5 + v) ≠ 0) (h3 : f (5 + v) % 4 = 3) (h : ¬ p_abs ta pr 4 = 0) : xk_Ev (xp_P sc) 142 0 [.ref 10, .int (Int32.ofNat v), .retAddr 0, .retAddr 0, .retAddr 0, .retAddr 0] [] (mw p th pr sl ex ta nx (1) lf mo cv cg cT cp r) (.inl (some (.int 0)), 0, mw p (4) pr sl ex ta nx (1) lf mo cv cg cT cp r) := by
  apply xk_Ev.of
  refine xk_Po.go 6 rfl ?_
  refine xk_Po.ci2 rfl rfl (r_isVolume hv hu) ?_
  refine xk_Po.go 4 rfl ?_
  refine xk_Po.ci2 rfl rfl (t_kiN T0 hv h5) ?_
  refine xk_Po.go 1 rfl ?_
  refine xk_Po.br rfl rfl (fun _ => ?_) (fun hZ => absurd (by rw [h3]; rfl) hZ) -- 17 .if_icmp .eq 20
  refine xk_Po.go 1 rfl ?_
  refine xk_Po.ci1 rfl rfl (r_isOneAbsent) ?_
  refine xk_Po.br rfl rfl (fun hZ => absurd hZ (h)) (fun _ => ?_) -- 22 .ifCond .eq 25
  refine xk_Po.go 7 rfl ?_
  exact xk_Po.iret rfl (rfl)
theorem r_mend_nr {v : Nat} (hv : v < 4) (hu : ¬ ta (5 + v) = 0) {f : Nat → Nat} (h5 : f (5 + v) ≠ 0) (h3 : f (5 + v) % 4 = 3) (hq : p_abs ta pr 4 = 0) {B : Nat} {ab : Nat → Int32} {n dN mN xN cN : Nat} (O : s_On B sl ab ta f n dN mN xN cN) (hB : B + 2 < 2147483648) (hpr : pr = n_pr ab) (hnx : ∀ i, 51 ≤ i → nx i = 0) {a b : Nat} (ha : a < 4) (hb2 : b < 10) (hcv : cv = Int32.ofNat a) (hcg : cg = Int32.ofNat b) (hC : n_cp mo cT xN) (hQ : n_cq cv cg mN xN)  (hn : n_mnd ab mN xN v f (2 * (f (5 + v) / 32)) 0 f 0 = none) : ∃ n2, (∀ i, 51 ≤ i → n2 i = 0) ∧ xk_Ev (xp_P sc) 142 0 [.ref 10, .int (Int32.ofNat v), .retAddr 0, .retAddr 0, .retAddr 0, .retAddr 0] [] (mw p th pr sl ex ta nx (1) lf mo cv cg cT cp r) (.inl (some (.int 0)), 0, mw p (4) pr sl ex ta (n2) (1) lf mo cv cg cT cp r) := by
  have T0 := O.2.2.1
  have hb := O.2.1
  have eab : n_ab pr = ab := by rw [hpr]; exact n_ab_pr hb
  have hbp : ∀ i, pr i = 0 ∨ pr i = 1 := by rw [hpr]; exact n_pr_b ab
  have hx1 := O.2.2.2.2.2.2.2.2
  suffices hh : xk_Po (xp_P sc) 142 0 [.ref 10, .int (Int32.ofNat v), .retAddr 0, .retAddr 0, .retAddr 0, .retAddr 0] [] (mw p th pr sl ex ta nx (1) lf mo cv cg cT cp r) (fun z => ∃ n2, (∀ i, 51 ≤ i → n2 i = 0) ∧ z = (.inl (some (.int 0)), 0, mw p (4) pr sl ex ta (n2) (1) lf mo cv cg cT cp r)) by
    obtain ⟨z, z1, n2, z2, z3⟩ := hh
    rw [z3] at z1
    exact ⟨n2, z2, z1⟩
  refine xk_Po.go 6 rfl ?_
  refine xk_Po.ci2 rfl rfl (r_isVolume hv hu) ?_
  refine xk_Po.go 4 rfl ?_
  refine xk_Po.ci2 rfl rfl (t_kiN T0 hv h5) ?_
  refine xk_Po.go 1 rfl ?_
  refine xk_Po.br rfl rfl (fun _ => ?_) (fun hZ => absurd (by rw [h3]; rfl) hZ) -- 17 .if_icmp .eq 20
  refine xk_Po.go 1 rfl ?_
  refine xk_Po.ci1 rfl rfl (r_isOneAbsent) ?_
  refine xk_Po.br rfl rfl (fun _ => ?_) (fun hZ => absurd (hq) hZ) -- 22 .ifCond .eq 25
  refine xk_Po.go 6 rfl ?_
  refine xk_Po.cv1 rfl rfl (r_begin T0.z hnx) ?_
  refine xk_Po.go 5 rfl ?_
  rw [s_a0 v]
  refine xk_Po.go 5 rfl ?_
  have eS : mw p (0) pr sl ex ta (ta) (1) lf mo cv cg cT cp r = mw p (0) pr sl ex ta (s_mk ta f) (1) lf mo cv cg cT cp r := by rw [s_mk_self T0.w]
  have hm := r_mlp (sc := sc) (p := p) (pr := pr) (sl := sl) (ex := ex) (ta := ta) (lf := lf) (mo := mo) (cv := cv) (cg := cg) (cT := cT) (cp := cp) (r := r) (v := v) (y := .retAddr 0) (Φ := fun z => ∃ n2, (∀ i, 51 ≤ i → n2 i = 0) ∧ z = (.inl (some (.int 0)), 0, mw p (4) pr sl ex ta (n2) (1) lf mo cv cg cT cp r)) T0 hbp hC hQ hv h3 hx1 (fun g c2 hg => by rw [eab, hn] at hg; cases hg) (fun _ n2 z2 => ⟨n2, z2, rfl⟩)
  rw [← eS] at hm
  exact hm
theorem r_mend_0 {v : Nat} (hv : v < 4) (hu : ¬ ta (5 + v) = 0) {f : Nat → Nat} (h5 : f (5 + v) ≠ 0) (h3 : f (5 + v) % 4 = 3) (hq : p_abs ta pr 4 = 0) {B : Nat} {ab : Nat → Int32} {n dN mN xN cN : Nat} (O : s_On B sl ab ta f n dN mN xN cN) (hB : B + 2 < 2147483648) (hpr : pr = n_pr ab) (hnx : ∀ i, 51 ≤ i → nx i = 0) {a b : Nat} (ha : a < 4) (hb2 : b < 10) (hcv : cv = Int32.ofNat a) (hcg : cg = Int32.ofNat b) (hC : n_cp mo cT xN) (hQ : n_cq cv cg mN xN)  {g : Nat → Nat} {c2 : Nat} (hn : n_mnd ab mN xN v f (2 * (f (5 + v) / 32)) 0 f 0 = some (g, c2)) (h0 : c2 = 0) : xk_Ev (xp_P sc) 142 0 [.ref 10, .int (Int32.ofNat v), .retAddr 0, .retAddr 0, .retAddr 0, .retAddr 0] [] (mw p th pr sl ex ta nx (1) lf mo cv cg cT cp r) (.inl (some (.int (0))), 0, mw p (0) pr sl ex ta (s_mk ta g) (1) lf mo cv cg cT cp r) := by
  have T0 := O.2.2.1
  have hb := O.2.1
  have eab : n_ab pr = ab := by rw [hpr]; exact n_ab_pr hb
  have hbp : ∀ i, pr i = 0 ∨ pr i = 1 := by rw [hpr]; exact n_pr_b ab
  have hx1 := O.2.2.2.2.2.2.2.2
  apply xk_Ev.of
  refine xk_Po.go 6 rfl ?_
  refine xk_Po.ci2 rfl rfl (r_isVolume hv hu) ?_
  refine xk_Po.go 4 rfl ?_
  refine xk_Po.ci2 rfl rfl (t_kiN T0 hv h5) ?_
  refine xk_Po.go 1 rfl ?_
  refine xk_Po.br rfl rfl (fun _ => ?_) (fun hZ => absurd (by rw [h3]; rfl) hZ) -- 17 .if_icmp .eq 20
  refine xk_Po.go 1 rfl ?_
  refine xk_Po.ci1 rfl rfl (r_isOneAbsent) ?_
  refine xk_Po.br rfl rfl (fun _ => ?_) (fun hZ => absurd (hq) hZ) -- 22 .ifCond .eq 25
  refine xk_Po.go 6 rfl ?_
  refine xk_Po.cv1 rfl rfl (r_begin T0.z hnx) ?_
  refine xk_Po.go 5 rfl ?_
  rw [s_a0 v]
  refine xk_Po.go 5 rfl ?_
  have eS : mw p (0) pr sl ex ta (ta) (1) lf mo cv cg cT cp r = mw p (0) pr sl ex ta (s_mk ta f) (1) lf mo cv cg cT cp r := by rw [s_mk_self T0.w]
  have hm := r_mlp (sc := sc) (p := p) (pr := pr) (sl := sl) (ex := ex) (ta := ta) (lf := lf) (mo := mo) (cv := cv) (cg := cg) (cT := cT) (cp := cp) (r := r) (v := v) (y := .retAddr 0) (Φ := fun z => z = (.inl (some (.int (0))), 0, mw p (0) pr sl ex ta (s_mk ta g) (1) lf mo cv cg cT cp r)) T0 hbp hC hQ hv h3 hx1 (fun g2 c3 hg => ?_) (fun hg => by rw [eab, hn] at hg; cases hg)
  · rw [← eS] at hm
    exact hm
  · rw [eab, hn] at hg
    obtain ⟨rfl, rfl⟩ := Prod.mk.inj (Option.some.inj hg)
    subst h0
    refine xk_Po.go 3 rfl ?_
    exact xk_Po.iret rfl (rfl)
theorem r_mend1 {v : Nat} (hv : v < 4) (hu : ¬ ta (5 + v) = 0) {f : Nat → Nat} (h5 : f (5 + v) ≠ 0) (h3 : f (5 + v) % 4 = 3) (hq : p_abs ta pr 4 = 0) {B : Nat} {ab : Nat → Int32} {n dN mN xN cN : Nat} (O : s_On B sl ab ta f n dN mN xN cN) (hB : B + 2 < 2147483648) (hpr : pr = n_pr ab) (hnx : ∀ i, 51 ≤ i → nx i = 0) {a b : Nat} (ha : a < 4) (hb2 : b < 10) (hcv : cv = Int32.ofNat a) (hcg : cg = Int32.ofNat b) (hC : n_cp mo cT xN) (hQ : n_cq cv cg mN xN)  {g : Nat → Nat} {c2 : Nat} (hn : n_mnd ab mN xN v f (2 * (f (5 + v) / 32)) 0 f 0 = some (g, c2)) (h0 : ¬ c2 = 0) (hc2 : c2 < 100) (Tg : n_Tv g) (hh : ∀ k, k < 10 → g (9 + (v * 10 + k)) ≠ f (9 + (v * 10 + k)) → f (9 + (v * 10 + n_tw k)) ≠ 0 ∧ g (9 + (v * 10 + k)) ≠ 0) (hall : n_all f ab) (ho : (m_b (m_b (true, (sl, ex, lf)) (m_for (m_mnd g f v) 10 0)) (m_com (s_seal (s_mk ta g) (Int32.ofNat (n + 1))) ab)).1 = true) : xk_Ev (xp_P sc) 142 0 [.ref 10, .int (Int32.ofNat v), .retAddr 0, .retAddr 0, .retAddr 0, .retAddr 0] [] (mw p th pr sl ex ta nx (1) lf mo cv cg cT cp r) (.inl (some (.int (Int32.ofNat c2))), 0, mw p (0) pr ((m_b (m_b (true, (sl, ex, lf)) (m_for (m_mnd g f v) 10 0)) (m_com (s_seal (s_mk ta g) (Int32.ofNat (n + 1))) ab)).2.1) ((m_b (m_b (true, (sl, ex, lf)) (m_for (m_mnd g f v) 10 0)) (m_com (s_seal (s_mk ta g) (Int32.ofNat (n + 1))) ab)).2.2.1) (s_seal (s_mk ta g) (Int32.ofNat (n + 1))) (s_seal (s_mk ta g) (Int32.ofNat (n + 1))) (1) ((m_b (m_b (true, (sl, ex, lf)) (m_for (m_mnd g f v) 10 0)) (m_com (s_seal (s_mk ta g) (Int32.ofNat (n + 1))) ab)).2.2.2) mo cv cg (p_cT (s_seal (s_mk ta g) (Int32.ofNat (n + 1))) ta cT (9 + (a * 10 + b))) cp r) := by
  have T0 := O.2.2.1
  have hb := O.2.1
  have eab : n_ab pr = ab := by rw [hpr]; exact n_ab_pr hb
  have hbp : ∀ i, pr i = 0 ∨ pr i = 1 := by rw [hpr]; exact n_pr_b ab
  have hx1 := O.2.2.2.2.2.2.2.2
  have hsl : (m_b (true, (sl, ex, lf)) (m_for (m_mnd g f v) 10 0)).2.1 = sl := (congrArg (·.2.1) (m_b_on _ _)).trans (m_for_sl (fun i s => m_mnd_sl g f v i s) _ _ _)
  apply xk_Ev.of
  refine xk_Po.go 6 rfl ?_
  refine xk_Po.ci2 rfl rfl (r_isVolume hv hu) ?_
  refine xk_Po.go 4 rfl ?_
  refine xk_Po.ci2 rfl rfl (t_kiN T0 hv h5) ?_
  refine xk_Po.go 1 rfl ?_
  refine xk_Po.br rfl rfl (fun _ => ?_) (fun hZ => absurd (by rw [h3]; rfl) hZ) -- 17 .if_icmp .eq 20
  refine xk_Po.go 1 rfl ?_
  refine xk_Po.ci1 rfl rfl (r_isOneAbsent) ?_
  refine xk_Po.br rfl rfl (fun _ => ?_) (fun hZ => absurd (hq) hZ) -- 22 .ifCond .eq 25
  refine xk_Po.go 6 rfl ?_
  refine xk_Po.cv1 rfl rfl (r_begin T0.z hnx) ?_
  refine xk_Po.go 5 rfl ?_
  rw [s_a0 v]
  refine xk_Po.go 5 rfl ?_
  have eS : mw p (0) pr sl ex ta (ta) (1) lf mo cv cg cT cp r = mw p (0) pr sl ex ta (s_mk ta f) (1) lf mo cv cg cT cp r := by rw [s_mk_self T0.w]
  have hm := r_mlp (sc := sc) (p := p) (pr := pr) (sl := sl) (ex := ex) (ta := ta) (lf := lf) (mo := mo) (cv := cv) (cg := cg) (cT := cT) (cp := cp) (r := r) (v := v) (y := .retAddr 0) (Φ := fun z => z = (.inl (some (.int (Int32.ofNat c2))), 0, mw p (0) pr ((m_b (m_b (true, (sl, ex, lf)) (m_for (m_mnd g f v) 10 0)) (m_com (s_seal (s_mk ta g) (Int32.ofNat (n + 1))) ab)).2.1) ((m_b (m_b (true, (sl, ex, lf)) (m_for (m_mnd g f v) 10 0)) (m_com (s_seal (s_mk ta g) (Int32.ofNat (n + 1))) ab)).2.2.1) (s_seal (s_mk ta g) (Int32.ofNat (n + 1))) (s_seal (s_mk ta g) (Int32.ofNat (n + 1))) (1) ((m_b (m_b (true, (sl, ex, lf)) (m_for (m_mnd g f v) 10 0)) (m_com (s_seal (s_mk ta g) (Int32.ofNat (n + 1))) ab)).2.2.2) mo cv cg (p_cT (s_seal (s_mk ta g) (Int32.ofNat (n + 1))) ta cT (9 + (a * 10 + b))) cp r)) T0 hbp hC hQ hv h3 hx1 (fun g2 c3 hg => ?_) (fun hg => by rw [eab, hn] at hg; cases hg)
  · rw [← eS] at hm
    exact hm
  · rw [eab, hn] at hg
    obtain ⟨rfl, rfl⟩ := Prod.mk.inj (Option.some.inj hg)
    refine xk_Po.go 1 rfl ?_
    refine xk_Po.br rfl rfl (fun hZ => absurd hZ (fun q => absurd ((xn_inj (b := 0) (by omega) (by omega)).1 q) h0)) (fun _ => ?_) -- 96 .ifCond .ne 99
    refine r_mcp (o := (true, (sl, ex, lf))) T0 Tg hv hh (fun y => ?_)
    refine xk_Po.go 1 rfl ?_
    refine xk_Po.cv1 rfl rfl (r_chgo1 O hsl (s_mk_Tv Tg T0.z) hB hpr (.inl ⟨rfl, hall⟩) ha hb2 hcv hcg ho) ?_
    refine xk_Po.go 2 rfl ?_
    refine xk_Po.ci2 rfl rfl (r_ended1) ?_
    exact xk_Po.iret rfl (rfl)
theorem r_mend0 {v : Nat} (hv : v < 4) (hu : ¬ ta (5 + v) = 0) {f : Nat → Nat} (h5 : f (5 + v) ≠ 0) (h3 : f (5 + v) % 4 = 3) (hq : p_abs ta pr 4 = 0) {B : Nat} {ab : Nat → Int32} {n dN mN xN cN : Nat} (O : s_On B sl ab ta f n dN mN xN cN) (hB : B + 2 < 2147483648) (hpr : pr = n_pr ab) (hnx : ∀ i, 51 ≤ i → nx i = 0) {a b : Nat} (ha : a < 4) (hb2 : b < 10) (hcv : cv = Int32.ofNat a) (hcg : cg = Int32.ofNat b) (hC : n_cp mo cT xN) (hQ : n_cq cv cg mN xN)  {g : Nat → Nat} {c2 : Nat} (hn : n_mnd ab mN xN v f (2 * (f (5 + v) / 32)) 0 f 0 = some (g, c2)) (h0 : ¬ c2 = 0) (hc2 : c2 < 100) (Tg : n_Tv g) (hh : ∀ k, k < 10 → g (9 + (v * 10 + k)) ≠ f (9 + (v * 10 + k)) → f (9 + (v * 10 + n_tw k)) ≠ 0 ∧ g (9 + (v * 10 + k)) ≠ 0) (hall : n_all f ab) (ho : ¬ (m_b (m_b (true, (sl, ex, lf)) (m_for (m_mnd g f v) 10 0)) (m_com (s_seal (s_mk ta g) (Int32.ofNat (n + 1))) ab)).1 = true) : xk_Ev (xp_P sc) 142 0 [.ref 10, .int (Int32.ofNat v), .retAddr 0, .retAddr 0, .retAddr 0, .retAddr 0] [] (mw p th pr sl ex ta nx (1) lf mo cv cg cT cp r) (.inl (some (.int (0))), 0, mw p (1) pr ((m_b (m_b (true, (sl, ex, lf)) (m_for (m_mnd g f v) 10 0)) (m_com (s_seal (s_mk ta g) (Int32.ofNat (n + 1))) ab)).2.1) ((m_b (m_b (true, (sl, ex, lf)) (m_for (m_mnd g f v) 10 0)) (m_com (s_seal (s_mk ta g) (Int32.ofNat (n + 1))) ab)).2.2.1) ta (s_seal (s_mk ta g) (Int32.ofNat (n + 1))) (0) (-1) (-1) cv cg cT cp r) := by
  have T0 := O.2.2.1
  have hb := O.2.1
  have eab : n_ab pr = ab := by rw [hpr]; exact n_ab_pr hb
  have hbp : ∀ i, pr i = 0 ∨ pr i = 1 := by rw [hpr]; exact n_pr_b ab
  have hx1 := O.2.2.2.2.2.2.2.2
  have hsl : (m_b (true, (sl, ex, lf)) (m_for (m_mnd g f v) 10 0)).2.1 = sl := (congrArg (·.2.1) (m_b_on _ _)).trans (m_for_sl (fun i s => m_mnd_sl g f v i s) _ _ _)
  apply xk_Ev.of
  refine xk_Po.go 6 rfl ?_
  refine xk_Po.ci2 rfl rfl (r_isVolume hv hu) ?_
  refine xk_Po.go 4 rfl ?_
  refine xk_Po.ci2 rfl rfl (t_kiN T0 hv h5) ?_
  refine xk_Po.go 1 rfl ?_
  refine xk_Po.br rfl rfl (fun _ => ?_) (fun hZ => absurd (by rw [h3]; rfl) hZ) -- 17 .if_icmp .eq 20
  refine xk_Po.go 1 rfl ?_
  refine xk_Po.ci1 rfl rfl (r_isOneAbsent) ?_
  refine xk_Po.br rfl rfl (fun _ => ?_) (fun hZ => absurd (hq) hZ) -- 22 .ifCond .eq 25
  refine xk_Po.go 6 rfl ?_
  refine xk_Po.cv1 rfl rfl (r_begin T0.z hnx) ?_
  refine xk_Po.go 5 rfl ?_
  rw [s_a0 v]
  refine xk_Po.go 5 rfl ?_
  have eS : mw p (0) pr sl ex ta (ta) (1) lf mo cv cg cT cp r = mw p (0) pr sl ex ta (s_mk ta f) (1) lf mo cv cg cT cp r := by rw [s_mk_self T0.w]
  have hm := r_mlp (sc := sc) (p := p) (pr := pr) (sl := sl) (ex := ex) (ta := ta) (lf := lf) (mo := mo) (cv := cv) (cg := cg) (cT := cT) (cp := cp) (r := r) (v := v) (y := .retAddr 0) (Φ := fun z => z = (.inl (some (.int (0))), 0, mw p (1) pr ((m_b (m_b (true, (sl, ex, lf)) (m_for (m_mnd g f v) 10 0)) (m_com (s_seal (s_mk ta g) (Int32.ofNat (n + 1))) ab)).2.1) ((m_b (m_b (true, (sl, ex, lf)) (m_for (m_mnd g f v) 10 0)) (m_com (s_seal (s_mk ta g) (Int32.ofNat (n + 1))) ab)).2.2.1) ta (s_seal (s_mk ta g) (Int32.ofNat (n + 1))) (0) (-1) (-1) cv cg cT cp r)) T0 hbp hC hQ hv h3 hx1 (fun g2 c3 hg => ?_) (fun hg => by rw [eab, hn] at hg; cases hg)
  · rw [← eS] at hm
    exact hm
  · rw [eab, hn] at hg
    obtain ⟨rfl, rfl⟩ := Prod.mk.inj (Option.some.inj hg)
    refine xk_Po.go 1 rfl ?_
    refine xk_Po.br rfl rfl (fun hZ => absurd hZ (fun q => absurd ((xn_inj (b := 0) (by omega) (by omega)).1 q) h0)) (fun _ => ?_) -- 96 .ifCond .ne 99
    refine r_mcp (o := (true, (sl, ex, lf))) T0 Tg hv hh (fun y => ?_)
    refine xk_Po.go 1 rfl ?_
    refine xk_Po.cv1 rfl rfl (r_chgo0 O hsl (s_mk_Tv Tg T0.z) hB hpr (.inl ⟨rfl, hall⟩) ha hb2 hcv hcg ho) ?_
    refine xk_Po.go 2 rfl ?_
    refine xk_Po.ci2 rfl rfl (r_ended0) ?_
    exact xk_Po.iret rfl (rfl)
end XkMm2
