section XkMcg
variable {sc : Nat × (Nat → Int32)} {p : xk_Ten} {pr sl ex ta nx : Nat → Int32} {th on lf mo cv cg cT cp : Int32} {r w : xk_W}
abbrev n_shape (q c : Int32) : Prop := (q = Int32.ofInt 1 ∧ (c = Int32.ofInt 2 ∨ c = Int32.ofInt 3)) ∨ (¬ q = Int32.ofInt 1 ∧ (q = 0 ∨ q = Int32.ofInt 2) ∧ c = Int32.ofInt 1)
theorem n_kind3 {q : Int32} (h0 : ¬ q < 0) (h3 : ¬ Int32.ofInt 3 ≤ q) : q = 0 ∨ q = Int32.ofInt 1 ∨ q = Int32.ofInt 2 := by
  obtain ⟨j, hj, rfl⟩ := xn_of (n := 3) h0 h3 (by omega)
  have : ∀ j, j < 3 → (Int32.ofNat j = 0 ∨ Int32.ofNat j = Int32.ofInt 1 ∨ Int32.ofNat j = Int32.ofInt 2) := by decide
  exact this j hj
theorem r_right {q c m : Int32} {y1 y2 : Value} {Φ : xk_R → Prop} (h1 : n_shape q c → xk_Po (xp_P sc) 137 22 [.ref 10, .int q, .int c, .int m, .int 1, y2] [] (mw p th pr sl ex ta nx on lf mo cv cg cT cp r) Φ) (h0 : ¬ n_shape q c → xk_Po (xp_P sc) 137 22 [.ref 10, .int q, .int c, .int m, .int 0, y2] [] (mw p th pr sl ex ta nx on lf mo cv cg cT cp r) Φ) : xk_Po (xp_P sc) 137 0 [.ref 10, .int q, .int c, .int m, y1, y2] [] (mw p th pr sl ex ta nx on lf mo cv cg cT cp r) Φ := by
  have no : ¬ n_shape q c → xk_Po (xp_P sc) 137 20 [.ref 10, .int q, .int c, .int m, y1, y2] [] (mw p th pr sl ex ta nx on lf mo cv cg cT cp r) Φ := fun hh => xk_Po.go 2 rfl (h0 hh)
  have yes : n_shape q c → xk_Po (xp_P sc) 137 18 [.ref 10, .int q, .int c, .int m, y1, y2] [] (mw p th pr sl ex ta nx on lf mo cv cg cT cp r) Φ := fun hh => xk_Po.go 3 rfl (h1 hh)
  refine xk_Po.go 1 rfl ?_
  refine xk_Po.br rfl rfl (fun k0 => ?_) (fun k0 => ?_)
  · refine no (fun hh => ?_)
    rcases hh with ⟨r, _⟩ | ⟨_, r | r, _⟩
    · rw [r] at k0
      exact absurd k0 (by decide)
    · rw [r] at k0
      exact absurd k0 (by decide)
    · rw [r] at k0
      exact absurd k0 (by decide)
  · refine xk_Po.go 2 rfl ?_
    refine xk_Po.br rfl rfl (fun k1 => ?_) (fun k1 => ?_)
    · refine no (fun hh => ?_)
      rcases hh with ⟨r, _⟩ | ⟨_, r | r, _⟩
      · rw [r] at k1
        exact absurd k1 (by decide)
      · rw [r] at k1
        exact absurd k1 (by decide)
      · rw [r] at k1
        exact absurd k1 (by decide)
    · refine xk_Po.go 2 rfl ?_
      refine xk_Po.br rfl rfl (fun k2 => ?_) (fun k2 => ?_)
      · refine xk_Po.go 2 rfl ?_
        refine xk_Po.br rfl rfl (fun k3 => yes (.inl ⟨k2, .inl k3⟩)) (fun k3 => ?_)
        refine xk_Po.go 2 rfl ?_
        refine xk_Po.br rfl rfl (fun k4 => ?_) (fun k4 => no (fun hh => hh.elim (fun r => r.2.elim k3 k4) (fun r => r.1 k2)))
        refine xk_Po.go 1 rfl ?_
        exact yes (.inl ⟨k2, .inr k4⟩)
      · refine xk_Po.go 2 rfl ?_
        refine xk_Po.br rfl rfl (fun k3 => ?_) (fun k3 => no (fun hh => hh.elim (fun r => k2 r.1) (fun r => k3 r.2.2)))
        refine yes (.inr ⟨k2, ?_, k3⟩)
        rcases n_kind3 k0 k1 with r | r | r
        · exact .inl r
        · exact absurd r k2
        · exact .inr r
theorem r_lu {f : Nat → Nat} {q c m : Int32} {y1 y2 : Value} {Φ : xk_R → Prop} (T : s_Tv ta f) (h : xk_Po (xp_P sc) 137 62 [.ref 10, .int q, .int c, .int m, y1, .int (Int32.ofNat (n_ls (fun v => f (5 + v) = 0) 4 0))] [] (mw p th pr sl ex ta nx on lf mo cv cg cT cp r) Φ) : xk_Po (xp_P sc) 137 48 [.ref 10, .int q, .int c, .int m, y1, y2] [] (mw p th pr sl ex ta nx on lf mo cv cg cT cp r) Φ := by
  refine xk_Po.go 2 rfl ?_
  have key : ∀ m0 j0, j0 + m0 = 4 → n_ls (fun v => f (5 + v) = 0) m0 j0 = n_ls (fun v => f (5 + v) = 0) 4 0 → xk_Po (xp_P sc) 137 50 [.ref 10, .int q, .int c, .int m, y1, .int (Int32.ofNat j0)] [] (mw p th pr sl ex ta nx on lf mo cv cg cT cp r) Φ := by
    intro m0
    induction m0 with
    | zero =>
      intro j0 hj0 he
      have e4 : j0 = 4 := by omega
      subst e4
      rw [← he] at h
      exact xk_Po.go 3 rfl h
    | succ m0 ih =>
      intro j0 hj0 he
      refine xk_Po.go 2 rfl ?_
      refine xk_Po.br rfl rfl (fun hZ => absurd ((xn_le (a := 4) (b := j0) (by omega) (by omega)).1 hZ) (by omega)) (fun _ => ?_)
      refine xk_Po.go 5 rfl ?_
      refine xk_Po.ok rfl rfl (xn_ixa (a := 5) (j := j0) (by omega) (by omega)) ?_
      rw [show (Int32.ofInt 5 + Int32.ofNat j0).toNatClampNeg = 5 + j0 from xn_nata (a := 5) (j := j0) (by omega), T.w (5 + j0) (by omega) (by omega)]
      have hD : f (5 + j0) < 2147483648 := by
        have : ∀ D, D ∈ s_dv → D < 2147483648 := by decide
        exact this _ (T.v j0 (by omega))
      refine xk_Po.br rfl rfl (fun h1 => ?_) (fun h1 => ?_)
      · have h1 := (xn_inj (b := 0) hD (by omega)).1 h1
        rw [show n_ls (fun v => f (5 + v) = 0) (m0 + 1) j0 = j0 from if_pos h1] at he
        rw [← he] at h
        exact h
      · have h1 : ¬ f (5 + j0) = 0 := fun r => h1 (by rw [r]; rfl)
        have hq := ih (j0 + 1) (by omega) (by rw [← he]; exact (if_neg h1).symm)
        rw [← xn_suc j0] at hq
        exact xk_Po.go 2 rfl hq
  exact key 4 0 rfl rfl
theorem r_make_off {q c m : Int32}  : xk_Ev (xp_P sc) 137 0 [.ref 10, .int q, .int c, .int m, .retAddr 0, .retAddr 0] [] (mw p th pr sl ex ta nx (0) lf mo cv cg cT cp r) (.inl (some (.int (0))), 0, mw p (1) pr sl ex ta nx (0) lf mo cv cg cT cp r) := by
  apply xk_Ev.of
  refine r_right (fun _ => ?_) (fun _ => ?_)
  · refine xk_Po.go 11 rfl ?_
    exact xk_Po.iret rfl (rfl)
  · refine xk_Po.go 11 rfl ?_
    exact xk_Po.iret rfl (rfl)
theorem r_make_ns {q c m : Int32} (hr : ¬ n_shape q c) : xk_Ev (xp_P sc) 137 0 [.ref 10, .int q, .int c, .int m, .retAddr 0, .retAddr 0] [] (mw p th pr sl ex ta nx (1) lf mo cv cg cT cp r) (.inl (some (.int (0))), 0, mw p (2) pr sl ex ta nx (1) lf mo cv cg cT cp r) := by
  apply xk_Ev.of
  refine r_right (fun hZ => absurd hZ hr) (fun _ => ?_)
  refine xk_Po.go 13 rfl ?_
  exact xk_Po.iret rfl (rfl)
theorem r_make_no {q c m : Int32} (hr : n_shape q c) (hc : ¬ c = 0) (h : (if m < Int32.ofInt 1 then (0 : Int32) else if Int32.ofInt 5 < m then 0 else if m % c = 0 then 1 else 0) = 0) : xk_Ev (xp_P sc) 137 0 [.ref 10, .int q, .int c, .int m, .retAddr 0, .retAddr 0] [] (mw p th pr sl ex ta nx (1) lf mo cv cg cT cp r) (.inl (some (.int (0))), 0, mw p (2) pr sl ex ta nx (1) lf mo cv cg cT cp r) := by
  apply xk_Ev.of
  refine r_right (fun _ => ?_) (fun hZ => absurd hr hZ)
  refine xk_Po.go 8 rfl ?_
  refine xk_Po.ci2 rfl rfl (r_fits hc) ?_
  refine xk_Po.br rfl rfl (fun _ => ?_) (fun hZ => absurd (h) hZ) -- 33 .ifCond .ne 36
  refine xk_Po.go 7 rfl ?_
  exact xk_Po.iret rfl (rfl)
theorem r_make_ab {q c m : Int32} (hr : n_shape q c) (hc : ¬ c = 0) (hf : ¬ (if m < Int32.ofInt 1 then (0 : Int32) else if Int32.ofInt 5 < m then 0 else if m % c = 0 then 1 else 0) = 0) (h : ¬ p_abs ta pr 4 = 0) : xk_Ev (xp_P sc) 137 0 [.ref 10, .int q, .int c, .int m, .retAddr 0, .retAddr 0] [] (mw p th pr sl ex ta nx (1) lf mo cv cg cT cp r) (.inl (some (.int (0))), 0, mw p (3) pr sl ex ta nx (1) lf mo cv cg cT cp r) := by
  apply xk_Ev.of
  refine r_right (fun _ => ?_) (fun hZ => absurd hr hZ)
  refine xk_Po.go 8 rfl ?_
  refine xk_Po.ci2 rfl rfl (r_fits hc) ?_
  refine xk_Po.br rfl rfl (fun hZ => absurd hZ (hf)) (fun _ => ?_) -- 33 .ifCond .ne 36
  refine xk_Po.go 1 rfl ?_
  refine xk_Po.ci1 rfl rfl (r_isOneAbsent) ?_
  refine xk_Po.br rfl rfl (fun hZ => absurd hZ (h)) (fun _ => ?_) -- 38 .ifCond .eq 41
  refine xk_Po.go 7 rfl ?_
  exact xk_Po.iret rfl (rfl)
theorem r_make_4 {q c m : Int32} (hr : n_shape q c) (hc : ¬ c = 0) (hf : ¬ (if m < Int32.ofInt 1 then (0 : Int32) else if Int32.ofInt 5 < m then 0 else if m % c = 0 then 1 else 0) = 0) (hq : p_abs ta pr 4 = 0) {f : Nat → Nat} (T0 : s_Tv ta f) (hnx : ∀ i, 51 ≤ i → nx i = 0) (h4 : n_ls (fun v => f (5 + v) = 0) 4 0 = 4) : xk_Ev (xp_P sc) 137 0 [.ref 10, .int q, .int c, .int m, .retAddr 0, .retAddr 0] [] (mw p th pr sl ex ta nx (1) lf mo cv cg cT cp r) (.inl (some (.int (0))), 0, mw p (3) pr sl ex ta (ta) (1) lf mo cv cg cT cp r) := by
  apply xk_Ev.of
  refine r_right (fun _ => ?_) (fun hZ => absurd hr hZ)
  refine xk_Po.go 8 rfl ?_
  refine xk_Po.ci2 rfl rfl (r_fits hc) ?_
  refine xk_Po.br rfl rfl (fun hZ => absurd hZ (hf)) (fun _ => ?_) -- 33 .ifCond .ne 36
  refine xk_Po.go 1 rfl ?_
  refine xk_Po.ci1 rfl rfl (r_isOneAbsent) ?_
  refine xk_Po.br rfl rfl (fun _ => ?_) (fun hZ => absurd (hq) hZ) -- 38 .ifCond .eq 41
  refine xk_Po.go 5 rfl ?_
  refine r_lu T0 ?_
  rw [h4]
  refine xk_Po.go 1 rfl ?_
  refine xk_Po.cv1 rfl rfl (r_begin T0.z hnx) ?_
  refine xk_Po.go 10 rfl ?_
  exact xk_Po.iret rfl (rfl)
theorem r_make_nr {q c m : Int32} {v : Nat} (hv : v < 4) {f : Nat → Nat} (hr : n_shape q c) (hc : ¬ c = 0) (hf : ¬ (if m < Int32.ofInt 1 then (0 : Int32) else if Int32.ofInt 5 < m then 0 else if m % c = 0 then 1 else 0) = 0) (hq : p_abs ta pr 4 = 0) (hl4 : n_ls (fun v => f (5 + v) = 0) 4 0 = v) {B : Nat} {ab : Nat → Int32} {n dN mN xN cN : Nat} (O : s_On B sl ab ta f n dN mN xN cN) (hB : B + 2 < 2147483648) (hpr : pr = n_pr ab) (hnx : ∀ i, 51 ≤ i → nx i = 0) {a b : Nat} (ha : a < 4) (hb2 : b < 10) (hcv : cv = Int32.ofNat a) (hcg : cg = Int32.ofNat b) (hC : n_cp mo cT xN) (hQ : n_cq cv cg mN xN) {D : Nat} (hD : 1 + q + 4 * c + 32 * m = Int32.ofNat D) (hD0 : D ≠ 0) (T1 : n_Tv (n_up f (5 + v) D)) (hl : ∀ i, i < 10 → f (9 + (v * 10 + i)) = 0) (hn : n_fil ab mN xN v (2 * ((n_up f (5 + v) D) (5 + v) / 32) - 2 * 0) (2 * 0) (n_up f (5 + v) D) = none) : ∃ n2, (∀ i, 51 ≤ i → n2 i = 0) ∧ xk_Ev (xp_P sc) 137 0 [.ref 10, .int q, .int c, .int m, .retAddr 0, .retAddr 0] [] (mw p th pr sl ex ta nx (1) lf mo cv cg cT cp r) (.inl (some (.int (0))), 0, mw p (3) pr sl ex ta (n2) (1) lf mo cv cg cT cp r) := by
  have T0 := O.2.2.1
  have hb := O.2.1
  have eab : n_ab pr = ab := by rw [hpr]; exact n_ab_pr hb
  have hbp : ∀ i, pr i = 0 ∨ pr i = 1 := by rw [hpr]; exact n_pr_b ab
  have eU : upd ta (5 + v) (Int32.ofInt 1 + q + Int32.ofInt 4 * c + Int32.ofInt 32 * m) = s_mk ta (n_up f (5 + v) D) := by
    rw [show Int32.ofInt 1 + q + Int32.ofInt 4 * c + Int32.ofInt 32 * m = Int32.ofNat D from hD, ← s_mk_up (by omega) (by omega), s_mk_self T0.w]
  have hx1 : n_tg (n_up f (5 + v) D) xN := fun q => by
    obtain ⟨q1, q2⟩ := O.2.2.2.2.2.2.2.2 q
    refine ⟨by rw [n_up_ne (by omega)]; exact q1, fun ⟨i, k1, k2⟩ => q2 ⟨i, k1, by rw [n_up_ne (by omega)] at k2; exact k2⟩⟩
  have fnd := r_find (sc := sc) (p := p) (th := 0) (pr := pr) (sl := sl) (ex := ex) (ta := ta) (on := 1) (lf := lf) (mo := mo) (cv := cv) (cg := cg) (cT := cT) (cp := cp) (r := r) (t0 := ta) (from_ := 0) T0.z T1 hbp hC hQ hv (by rw [n_up_at]; exact hD0) hx1 (by omega) (fun i _ h2 => by rw [n_up_ne (by omega)]; exact hl i h2)
  rw [eab] at fnd
  obtain ⟨n2, z2, fn⟩ := fnd.2 hn
  refine ⟨n2, z2, ?_⟩
  apply xk_Ev.of
  refine r_right (fun _ => ?_) (fun hZ => absurd hr hZ)
  refine xk_Po.go 8 rfl ?_
  refine xk_Po.ci2 rfl rfl (r_fits hc) ?_
  refine xk_Po.br rfl rfl (fun hZ => absurd hZ (hf)) (fun _ => ?_) -- 33 .ifCond .ne 36
  refine xk_Po.go 1 rfl ?_
  refine xk_Po.ci1 rfl rfl (r_isOneAbsent) ?_
  refine xk_Po.br rfl rfl (fun _ => ?_) (fun hZ => absurd (hq) hZ) -- 38 .ifCond .eq 41
  refine xk_Po.go 5 rfl ?_
  refine r_lu T0 ?_
  rw [hl4]
  refine xk_Po.go 1 rfl ?_
  refine xk_Po.cv1 rfl rfl (r_begin T0.z hnx) ?_
  refine xk_Po.go 2 rfl ?_
  refine xk_Po.br rfl rfl (fun hZ => absurd hZ (fun q => absurd ((xn_le (a := 4) (b := v) (by omega) (by omega)).1 q) (by omega))) (fun _ => ?_) -- 66 .if_icmp .ge 84
  refine xk_Po.go 16 rfl ?_
  refine xk_Po.ok rfl rfl (xn_ixa (a := 5) (j := v) (by omega) (by omega)) ?_ -- 83 .iastore
  rw [show (Int32.ofInt 5 + Int32.ofNat v).toNatClampNeg = 5 + v from xn_nata (a := 5) (j := v) (by omega), eU]
  refine xk_Po.go 2 rfl ?_
  refine xk_Po.br rfl rfl (fun hZ => absurd hZ (fun q => absurd ((xn_inj (a := v) (b := 4) (by omega) (by omega)).1 q) (by omega))) (fun _ => ?_) -- 86 .if_icmp .eq 92
  refine xk_Po.go 3 rfl ?_
  refine xk_Po.ci3 rfl rfl (fn) ?_
  refine xk_Po.go 5 rfl ?_
  exact xk_Po.iret rfl (rfl)
theorem r_make1 {q c m : Int32} {v : Nat} (hv : v < 4) {f : Nat → Nat} (hr : n_shape q c) (hc : ¬ c = 0) (hf : ¬ (if m < Int32.ofInt 1 then (0 : Int32) else if Int32.ofInt 5 < m then 0 else if m % c = 0 then 1 else 0) = 0) (hq : p_abs ta pr 4 = 0) (hl4 : n_ls (fun v => f (5 + v) = 0) 4 0 = v) {B : Nat} {ab : Nat → Int32} {n dN mN xN cN : Nat} (O : s_On B sl ab ta f n dN mN xN cN) (hB : B + 2 < 2147483648) (hpr : pr = n_pr ab) (hnx : ∀ i, 51 ≤ i → nx i = 0) {a b : Nat} (ha : a < 4) (hb2 : b < 10) (hcv : cv = Int32.ofNat a) (hcg : cg = Int32.ofNat b) (hC : n_cp mo cT xN) (hQ : n_cq cv cg mN xN) {D : Nat} (hD : 1 + q + 4 * c + 32 * m = Int32.ofNat D) (hD0 : D ≠ 0) (T1 : n_Tv (n_up f (5 + v) D)) (hl : ∀ i, i < 10 → f (9 + (v * 10 + i)) = 0) {g : Nat → Nat} (hn : n_fil ab mN xN v (2 * ((n_up f (5 + v) D) (5 + v) / 32) - 2 * 0) (2 * 0) (n_up f (5 + v) D) = some g) (Tg : n_Tv g) (hall : n_all f ab) (ho : (m_b (m_b (true, (sl, ex, lf)) (m_for (m_cle g v) (2 * (g (5 + v) / 32) - 2 * 0) (2 * 0))) (m_com (s_seal (s_mk ta g) (Int32.ofNat (n + 1))) ab)).1 = true) : xk_Ev (xp_P sc) 137 0 [.ref 10, .int q, .int c, .int m, .retAddr 0, .retAddr 0] [] (mw p th pr sl ex ta nx (1) lf mo cv cg cT cp r) (.inl (some (.int (Int32.ofNat v))), 0, mw p (0) pr ((m_b (m_b (true, (sl, ex, lf)) (m_for (m_cle g v) (2 * (g (5 + v) / 32) - 2 * 0) (2 * 0))) (m_com (s_seal (s_mk ta g) (Int32.ofNat (n + 1))) ab)).2.1) ((m_b (m_b (true, (sl, ex, lf)) (m_for (m_cle g v) (2 * (g (5 + v) / 32) - 2 * 0) (2 * 0))) (m_com (s_seal (s_mk ta g) (Int32.ofNat (n + 1))) ab)).2.2.1) (s_seal (s_mk ta g) (Int32.ofNat (n + 1))) (s_seal (s_mk ta g) (Int32.ofNat (n + 1))) (1) ((m_b (m_b (true, (sl, ex, lf)) (m_for (m_cle g v) (2 * (g (5 + v) / 32) - 2 * 0) (2 * 0))) (m_com (s_seal (s_mk ta g) (Int32.ofNat (n + 1))) ab)).2.2.2) mo cv cg (p_cT (s_seal (s_mk ta g) (Int32.ofNat (n + 1))) ta cT (9 + (a * 10 + b))) cp r) := by
  have T0 := O.2.2.1
  have hb := O.2.1
  have eab : n_ab pr = ab := by rw [hpr]; exact n_ab_pr hb
  have hbp : ∀ i, pr i = 0 ∨ pr i = 1 := by rw [hpr]; exact n_pr_b ab
  have eU : upd ta (5 + v) (Int32.ofInt 1 + q + Int32.ofInt 4 * c + Int32.ofInt 32 * m) = s_mk ta (n_up f (5 + v) D) := by
    rw [show Int32.ofInt 1 + q + Int32.ofInt 4 * c + Int32.ofInt 32 * m = Int32.ofNat D from hD, ← s_mk_up (by omega) (by omega), s_mk_self T0.w]
  have hx1 : n_tg (n_up f (5 + v) D) xN := fun q => by
    obtain ⟨q1, q2⟩ := O.2.2.2.2.2.2.2.2 q
    refine ⟨by rw [n_up_ne (by omega)]; exact q1, fun ⟨i, k1, k2⟩ => q2 ⟨i, k1, by rw [n_up_ne (by omega)] at k2; exact k2⟩⟩
  have fnd := r_find (sc := sc) (p := p) (th := 0) (pr := pr) (sl := sl) (ex := ex) (ta := ta) (on := 1) (lf := lf) (mo := mo) (cv := cv) (cg := cg) (cT := cT) (cp := cp) (r := r) (t0 := ta) (from_ := 0) T0.z T1 hbp hC hQ hv (by rw [n_up_at]; exact hD0) hx1 (by omega) (fun i _ h2 => by rw [n_up_ne (by omega)]; exact hl i h2)
  rw [eab] at fnd
  have fn := fnd.1 g hn
  have hsl : (m_b (true, (sl, ex, lf)) (m_for (m_cle g v) (2 * (g (5 + v) / 32) - 2 * 0) (2 * 0))).2.1 = sl := (congrArg (·.2.1) (m_b_on _ _)).trans (m_for_sl (fun i s => m_cle_sl g v i s) _ _ _)
  apply xk_Ev.of
  refine r_right (fun _ => ?_) (fun hZ => absurd hr hZ)
  refine xk_Po.go 8 rfl ?_
  refine xk_Po.ci2 rfl rfl (r_fits hc) ?_
  refine xk_Po.br rfl rfl (fun hZ => absurd hZ (hf)) (fun _ => ?_) -- 33 .ifCond .ne 36
  refine xk_Po.go 1 rfl ?_
  refine xk_Po.ci1 rfl rfl (r_isOneAbsent) ?_
  refine xk_Po.br rfl rfl (fun _ => ?_) (fun hZ => absurd (hq) hZ) -- 38 .ifCond .eq 41
  refine xk_Po.go 5 rfl ?_
  refine r_lu T0 ?_
  rw [hl4]
  refine xk_Po.go 1 rfl ?_
  refine xk_Po.cv1 rfl rfl (r_begin T0.z hnx) ?_
  refine xk_Po.go 2 rfl ?_
  refine xk_Po.br rfl rfl (fun hZ => absurd hZ (fun q => absurd ((xn_le (a := 4) (b := v) (by omega) (by omega)).1 q) (by omega))) (fun _ => ?_) -- 66 .if_icmp .ge 84
  refine xk_Po.go 16 rfl ?_
  refine xk_Po.ok rfl rfl (xn_ixa (a := 5) (j := v) (by omega) (by omega)) ?_ -- 83 .iastore
  rw [show (Int32.ofInt 5 + Int32.ofNat v).toNatClampNeg = 5 + v from xn_nata (a := 5) (j := v) (by omega), eU]
  refine xk_Po.go 2 rfl ?_
  refine xk_Po.br rfl rfl (fun hZ => absurd hZ (fun q => absurd ((xn_inj (a := v) (b := 4) (by omega) (by omega)).1 q) (by omega))) (fun _ => ?_) -- 86 .if_icmp .eq 92
  refine xk_Po.go 3 rfl ?_
  refine xk_Po.ci3 rfl rfl (fn) ?_
  refine xk_Po.go 4 rfl ?_
  refine xk_Po.cv3 rfl rfl (r_clear (from_ := 0) (o := (true, (sl, ex, lf))) Tg T0.z hv (by omega)) ?_
  refine xk_Po.go 1 rfl ?_
  refine xk_Po.cv1 rfl rfl (r_chgo1 O hsl (s_mk_Tv Tg T0.z) hB hpr (.inl ⟨rfl, hall⟩) ha hb2 hcv hcg ho) ?_
  refine xk_Po.go 2 rfl ?_
  refine xk_Po.ci2 rfl rfl (r_ended1) ?_
  exact xk_Po.iret rfl (rfl)
theorem r_make0 {q c m : Int32} {v : Nat} (hv : v < 4) {f : Nat → Nat} (hr : n_shape q c) (hc : ¬ c = 0) (hf : ¬ (if m < Int32.ofInt 1 then (0 : Int32) else if Int32.ofInt 5 < m then 0 else if m % c = 0 then 1 else 0) = 0) (hq : p_abs ta pr 4 = 0) (hl4 : n_ls (fun v => f (5 + v) = 0) 4 0 = v) {B : Nat} {ab : Nat → Int32} {n dN mN xN cN : Nat} (O : s_On B sl ab ta f n dN mN xN cN) (hB : B + 2 < 2147483648) (hpr : pr = n_pr ab) (hnx : ∀ i, 51 ≤ i → nx i = 0) {a b : Nat} (ha : a < 4) (hb2 : b < 10) (hcv : cv = Int32.ofNat a) (hcg : cg = Int32.ofNat b) (hC : n_cp mo cT xN) (hQ : n_cq cv cg mN xN) {D : Nat} (hD : 1 + q + 4 * c + 32 * m = Int32.ofNat D) (hD0 : D ≠ 0) (T1 : n_Tv (n_up f (5 + v) D)) (hl : ∀ i, i < 10 → f (9 + (v * 10 + i)) = 0) {g : Nat → Nat} (hn : n_fil ab mN xN v (2 * ((n_up f (5 + v) D) (5 + v) / 32) - 2 * 0) (2 * 0) (n_up f (5 + v) D) = some g) (Tg : n_Tv g) (hall : n_all f ab) (ho : ¬ (m_b (m_b (true, (sl, ex, lf)) (m_for (m_cle g v) (2 * (g (5 + v) / 32) - 2 * 0) (2 * 0))) (m_com (s_seal (s_mk ta g) (Int32.ofNat (n + 1))) ab)).1 = true) : xk_Ev (xp_P sc) 137 0 [.ref 10, .int q, .int c, .int m, .retAddr 0, .retAddr 0] [] (mw p th pr sl ex ta nx (1) lf mo cv cg cT cp r) (.inl (some (.int (0))), 0, mw p (1) pr ((m_b (m_b (true, (sl, ex, lf)) (m_for (m_cle g v) (2 * (g (5 + v) / 32) - 2 * 0) (2 * 0))) (m_com (s_seal (s_mk ta g) (Int32.ofNat (n + 1))) ab)).2.1) ((m_b (m_b (true, (sl, ex, lf)) (m_for (m_cle g v) (2 * (g (5 + v) / 32) - 2 * 0) (2 * 0))) (m_com (s_seal (s_mk ta g) (Int32.ofNat (n + 1))) ab)).2.2.1) ta (s_seal (s_mk ta g) (Int32.ofNat (n + 1))) (0) (-1) (-1) cv cg cT cp r) := by
  have T0 := O.2.2.1
  have hb := O.2.1
  have eab : n_ab pr = ab := by rw [hpr]; exact n_ab_pr hb
  have hbp : ∀ i, pr i = 0 ∨ pr i = 1 := by rw [hpr]; exact n_pr_b ab
  have eU : upd ta (5 + v) (Int32.ofInt 1 + q + Int32.ofInt 4 * c + Int32.ofInt 32 * m) = s_mk ta (n_up f (5 + v) D) := by
    rw [show Int32.ofInt 1 + q + Int32.ofInt 4 * c + Int32.ofInt 32 * m = Int32.ofNat D from hD, ← s_mk_up (by omega) (by omega), s_mk_self T0.w]
  have hx1 : n_tg (n_up f (5 + v) D) xN := fun q => by
    obtain ⟨q1, q2⟩ := O.2.2.2.2.2.2.2.2 q
    refine ⟨by rw [n_up_ne (by omega)]; exact q1, fun ⟨i, k1, k2⟩ => q2 ⟨i, k1, by rw [n_up_ne (by omega)] at k2; exact k2⟩⟩
  have fnd := r_find (sc := sc) (p := p) (th := 0) (pr := pr) (sl := sl) (ex := ex) (ta := ta) (on := 1) (lf := lf) (mo := mo) (cv := cv) (cg := cg) (cT := cT) (cp := cp) (r := r) (t0 := ta) (from_ := 0) T0.z T1 hbp hC hQ hv (by rw [n_up_at]; exact hD0) hx1 (by omega) (fun i _ h2 => by rw [n_up_ne (by omega)]; exact hl i h2)
  rw [eab] at fnd
  have fn := fnd.1 g hn
  have hsl : (m_b (true, (sl, ex, lf)) (m_for (m_cle g v) (2 * (g (5 + v) / 32) - 2 * 0) (2 * 0))).2.1 = sl := (congrArg (·.2.1) (m_b_on _ _)).trans (m_for_sl (fun i s => m_cle_sl g v i s) _ _ _)
  apply xk_Ev.of
  refine r_right (fun _ => ?_) (fun hZ => absurd hr hZ)
  refine xk_Po.go 8 rfl ?_
  refine xk_Po.ci2 rfl rfl (r_fits hc) ?_
  refine xk_Po.br rfl rfl (fun hZ => absurd hZ (hf)) (fun _ => ?_) -- 33 .ifCond .ne 36
  refine xk_Po.go 1 rfl ?_
  refine xk_Po.ci1 rfl rfl (r_isOneAbsent) ?_
  refine xk_Po.br rfl rfl (fun _ => ?_) (fun hZ => absurd (hq) hZ) -- 38 .ifCond .eq 41
  refine xk_Po.go 5 rfl ?_
  refine r_lu T0 ?_
  rw [hl4]
  refine xk_Po.go 1 rfl ?_
  refine xk_Po.cv1 rfl rfl (r_begin T0.z hnx) ?_
  refine xk_Po.go 2 rfl ?_
  refine xk_Po.br rfl rfl (fun hZ => absurd hZ (fun q => absurd ((xn_le (a := 4) (b := v) (by omega) (by omega)).1 q) (by omega))) (fun _ => ?_) -- 66 .if_icmp .ge 84
  refine xk_Po.go 16 rfl ?_
  refine xk_Po.ok rfl rfl (xn_ixa (a := 5) (j := v) (by omega) (by omega)) ?_ -- 83 .iastore
  rw [show (Int32.ofInt 5 + Int32.ofNat v).toNatClampNeg = 5 + v from xn_nata (a := 5) (j := v) (by omega), eU]
  refine xk_Po.go 2 rfl ?_
  refine xk_Po.br rfl rfl (fun hZ => absurd hZ (fun q => absurd ((xn_inj (a := v) (b := 4) (by omega) (by omega)).1 q) (by omega))) (fun _ => ?_) -- 86 .if_icmp .eq 92
  refine xk_Po.go 3 rfl ?_
  refine xk_Po.ci3 rfl rfl (fn) ?_
  refine xk_Po.go 4 rfl ?_
  refine xk_Po.cv3 rfl rfl (r_clear (from_ := 0) (o := (true, (sl, ex, lf))) Tg T0.z hv (by omega)) ?_
  refine xk_Po.go 1 rfl ?_
  refine xk_Po.cv1 rfl rfl (r_chgo0 O hsl (s_mk_Tv Tg T0.z) hB hpr (.inl ⟨rfl, hall⟩) ha hb2 hcv hcg ho) ?_
  refine xk_Po.go 2 rfl ?_
  refine xk_Po.ci2 rfl rfl (r_ended0) ?_
  exact xk_Po.iret rfl (rfl)
end XkMcg
