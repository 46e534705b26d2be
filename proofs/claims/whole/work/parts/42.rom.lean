section XkRom2
variable {sc : Nat × (Nat → Int32)} {p : xk_Ten} {pr sl ex ta nx : Nat → Int32} {th on lf mo cv cg cT cp : Int32} {r w : xk_W}
theorem s_dv_32 : ∀ D, D ∈ s_dv → Int32.ofNat D / 32 = Int32.ofNat (D / 32) ∧ D / 32 ≤ 5 := by decide
theorem s_leg8 : ∀ y, y < 33 → y ≠ 0 → ∀ d, d < 4 → ((Int32.ofNat y - Int32.ofInt 1) / Int32.ofInt 8 = Int32.ofNat d ↔ (y - 1) / 8 = d) := by decide
theorem xn_le0 {y : Nat} (h : y < 2147483648) : Int32.ofNat y ≤ 0 ↔ y = 0 :=
  ⟨fun q => by have := (xn_le (b := 0) h (by omega)).1 q; omega, fun q => by rw [q]; exact Int32.le_refl _⟩
/-- the leg that is copied, as the other program holds it -/
abbrev n_cq (cv cg : Int32) (m x : Nat) : Prop := (x < 32 ↔ m < 40) ∧ (x < 32 → cv = Int32.ofNat (m / 10) ∧ cg = Int32.ofNat (m % 10))
abbrev n_cA (f : Nat → Nat) (m x v k d : Nat) : Prop := m < 40 ∧ m / 10 = v ∧ x < 32 ∧ x / 8 = d ∧ n_bes (f (5 + v)) (m % 10) k
abbrev n_cB (f : Nat → Nat) (v k d n : Nat) : Prop := ∃ j, j < n ∧ n_bes (f (5 + v)) j k ∧ n_on f d (v * 10 + j)
theorem n_cB_suc {f : Nat → Nat} {v k d n : Nat} : n_cB f v k d (n + 1) ↔ n_cB f v k d n ∨ (n_bes (f (5 + v)) n k ∧ n_on f d (v * 10 + n)) := by
  constructor
  · rintro ⟨j, h1, h2⟩
    rcases Nat.lt_or_ge j n with q | q
    · exact .inl ⟨j, q, h2⟩
    · rw [show j = n by omega] at h2
      exact .inr h2
  · rintro (⟨j, h1, h2⟩ | h)
    · exact ⟨j, by omega, h2⟩
    · exact ⟨n, by omega, h⟩
theorem s_b_congr {p q : Prop} [Decidable p] [Decidable q] (h : p ↔ q) : s_b p = s_b q := by
  by_cases hp : p
  · rw [xn_bt hp, xn_bt (h.1 hp)]
  · rw [xn_bf hp, xn_bf (fun r => hp (h.2 r))]
theorem t_meets {f : Nat → Nat} {m x v k d : Nat} (T : s_Tv ta f) (hC : n_cp mo cT x) (hQ : n_cq cv cg m x) (hv : v < 4) (h0 : f (5 + v) ≠ 0) (hk : k < 10) (hd : d < 4) : xk_Ev (xp_P sc) 128 0 [.ref 10, .ref 14, .int (Int32.ofNat v), .int (Int32.ofNat k), .int (Int32.ofNat d), .retAddr 0, .retAddr 0, .retAddr 0] [] (mw p th pr sl ex ta nx on lf mo cv cg cT cp r) (.inl (some (.int (s_b (n_cA f m x v k d ∨ n_cB f v k d (2 * (f (5 + v) / 32)))))), 0, mw p th pr sl ex ta nx on lf mo cv cg cT cp r) := by
  have hD := T.v v hv
  have e32 := s_dv_32 _ hD
  have ee := t_elementsOf (sc := sc) (p := p) (th := th) (pr := pr) (sl := sl) (ex := ex) (ta := ta) (nx := nx) (on := on) (lf := lf) (mo := mo) (cv := cv) (cg := cg) (cT := cT) (cp := cp) (r := r) hv
  rw [T.w (5 + v) (by omega) (by omega), e32.1] at ee
  apply xk_Ev.of
  have main : ∀ (P : Prop) (_ : Decidable P), (P ↔ n_cA f m x v k d) → xk_Po (xp_P sc) 128 28 [.ref 10, .ref 14, .int (Int32.ofNat v), .int (Int32.ofNat k), .int (Int32.ofNat d), .retAddr 0, .retAddr 0, .retAddr 0] [.int (s_b P)] (mw p th pr sl ex ta nx on lf mo cv cg cT cp r) (fun z => z = (.inl (some (.int (s_b (n_cA f m x v k d ∨ n_cB f v k d (2 * (f (5 + v) / 32)))))), 0, mw p th pr sl ex ta nx on lf mo cv cg cT cp r)) := by
    intro P _ hP
    rw [s_b_congr (q := n_cA f m x v k d ∨ n_cB f v k d 0) (hP.trans ⟨.inl, fun r => r.elim id (fun ⟨_, h, _⟩ => absurd h (by omega))⟩)]
    refine xk_Po.go 3 rfl ?_
    refine xk_Po.loopJ (2 * (f (5 + v) / 32)) (fun j0 x1 y1 => [.ref 10, .ref 14, .int (Int32.ofNat v), .int (Int32.ofNat k), .int (Int32.ofNat d), .int (s_b (n_cA f m x v k d ∨ n_cB f v k d j0)), .int (Int32.ofNat j0), x1]) (fun _ => mw p th pr sl ex ta nx on lf mo cv cg cT cp r) (fun _ _ => fun z => z = (.inl (some (.int (s_b (n_cA f m x v k d ∨ n_cB f v k d (2 * (f (5 + v) / 32)))))), 0, mw p th pr sl ex ta nx on lf mo cv cg cT cp r)) (fun m0 j0 x1 y1 hj0 ih0 => ?_) (fun x1 y1 => ?_) (.retAddr 0) (.retAddr 0)
    · refine xk_Po.go 4 rfl ?_
      refine xk_Po.ci2 rfl rfl ee ?_
      refine xk_Po.go 1 rfl ?_
      rw [show Int32.ofInt 2 * Int32.ofNat (f (5 + v) / 32) = Int32.ofNat (2 * (f (5 + v) / 32)) from xn_mul 2 _]
      refine xk_Po.br rfl rfl (fun hx => absurd ((xn_le (a := 2 * (f (5 + v) / 32)) (b := j0) (by omega) (by omega)).1 hx) (by omega)) (fun _ => ?_)
      refine xk_Po.go 8 rfl ?_
      rw [s_lg v j0]
      refine xk_Po.ok rfl rfl (xn_ix (j := 9 + (v * 10 + j0)) (by omega) (by omega)) ?_
      rw [xn_nat (j := 9 + (v * 10 + j0)) (by omega), T.w (9 + (v * 10 + j0)) (by omega) (by omega)]
      have hl := T.l (v * 10 + j0) (by omega)
      refine xk_Po.go 2 rfl ?_
      rw [← xn_suc j0] at ih0
      have back : ∀ y : Int32, y = s_b (n_cA f m x v k d ∨ n_cB f v k d (j0 + 1)) → xk_Po (xp_P sc) 128 68 [.ref 10, .ref 14, .int (Int32.ofNat v), .int (Int32.ofNat k), .int (Int32.ofNat d), .int (s_b (n_cA f m x v k d ∨ n_cB f v k d j0)), .int (Int32.ofNat j0), .int (Int32.ofNat (f (9 + (v * 10 + j0))))] [.int y] (mw p th pr sl ex ta nx on lf mo cv cg cT cp r) (fun z => z = (.inl (some (.int (s_b (n_cA f m x v k d ∨ n_cB f v k d (2 * (f (5 + v) / 32)))))), 0, mw p th pr sl ex ta nx on lf mo cv cg cT cp r)) := by
        intro y hy
        rw [hy]
        refine xk_Po.go 3 rfl ?_
        exact ih0 _ (.retAddr 0)
      refine xk_Po.br rfl rfl (fun k0 => ?_) (fun k0 => ?_)
      · have k0 := xn_b0 k0
        refine xk_Po.go 4 rfl ?_
        refine xk_Po.ci4 rfl rfl (t_isBeside T hv h0 (by omega) hk) ?_
        refine xk_Po.br rfl rfl (fun k1 => ?_) (fun k1 => ?_)
        · have k1 := xn_b0 k1
          refine xk_Po.go 1 rfl ?_
          exact back _ (by rw [xn_bf (fun r => r.elim (fun r => k0 (.inl r)) (fun r => (n_cB_suc.1 r).elim (fun r => k0 (.inr r)) (fun r => k1 r.1)))]; rfl)
        · have k1 := xn_b1 k1
          refine xk_Po.go 1 rfl ?_
          refine xk_Po.br rfl rfl (fun k2 => ?_) (fun k2 => ?_)
          · have k2 := (xn_le0 (by omega)).1 k2
            refine xk_Po.go 1 rfl ?_
            exact back _ (by rw [xn_bf (fun r => r.elim (fun r => k0 (.inl r)) (fun r => (n_cB_suc.1 r).elim (fun r => k0 (.inr r)) (fun r => r.2.1 k2)))]; rfl)
          · have k2 : f (9 + (v * 10 + j0)) ≠ 0 := fun r => k2 ((xn_le0 (by omega)).2 r)
            have e8 := s_leg8 _ (show f (9 + (v * 10 + j0)) < 33 by omega) k2 d hd
            refine xk_Po.go 6 rfl ?_
            refine xk_Po.br rfl rfl (fun k3 => ?_) (fun k3 => ?_)
            · refine xk_Po.go 2 rfl ?_
              exact back _ (by rw [xn_bt (.inr (n_cB_suc.2 (.inr ⟨k1, k2, e8.1 k3⟩)))]; rfl)
            · refine xk_Po.go 1 rfl ?_
              exact back _ (by rw [xn_bf (fun r => r.elim (fun r => k0 (.inl r)) (fun r => (n_cB_suc.1 r).elim (fun r => k0 (.inr r)) (fun r => k3 (e8.2 r.2.2))))]; rfl)
      · have k0 := xn_b1 k0
        refine xk_Po.go 2 rfl ?_
        exact back _ (by rw [xn_bt (k0.elim .inl (fun r => .inr (n_cB_suc.2 (.inl r))))]; rfl)
    · refine xk_Po.go 4 rfl ?_
      refine xk_Po.ci2 rfl rfl ee ?_
      refine xk_Po.go 1 rfl ?_
      rw [show Int32.ofInt 2 * Int32.ofNat (f (5 + v) / 32) = Int32.ofNat (2 * (f (5 + v) / 32)) from xn_mul 2 _]
      refine xk_Po.br rfl rfl (fun _ => ?_) (fun hx => absurd (Int32.le_refl _) hx)
      refine xk_Po.go 1 rfl ?_
      exact xk_Po.zret rfl (by by_cases q : (n_cA f m x v k d ∨ n_cB f v k d (2 * (f (5 + v) / 32))); exact .inr (xn_bt q); exact .inl (xn_bf q)) rfl
  have no : ¬ n_cA f m x v k d → xk_Po (xp_P sc) 128 27 [.ref 10, .ref 14, .int (Int32.ofNat v), .int (Int32.ofNat k), .int (Int32.ofNat d), .retAddr 0, .retAddr 0, .retAddr 0] [] (mw p th pr sl ex ta nx on lf mo cv cg cT cp r) (fun z => z = (.inl (some (.int (s_b (n_cA f m x v k d ∨ n_cB f v k d (2 * (f (5 + v) / 32)))))), 0, mw p th pr sl ex ta nx on lf mo cv cg cT cp r)) := by
    intro q
    refine xk_Po.go 1 rfl ?_
    exact main False inferInstance ⟨False.elim, q⟩
  by_cases hx : x < 32
  · obtain ⟨c1, c2⟩ := hC.1 hx
    obtain ⟨c3, c4⟩ := hQ.2 hx
    have hm := hQ.1.1 hx
    subst c2 c3 c4
    refine xk_Po.go 2 rfl ?_
    refine xk_Po.br rfl rfl (fun k0 => absurd k0 c1) (fun _ => ?_)
    refine xk_Po.go 2 rfl ?_
    refine xk_Po.br rfl rfl (fun k0 => absurd ((xn_le0 (by omega)).1 k0) (by omega)) (fun _ => ?_)
    refine xk_Po.go 3 rfl ?_
    refine xk_Po.br rfl rfl (fun k0 => ?_) (fun k0 => no (fun r => k0 (by rw [r.2.1])))
    have k0 := (xn_inj (by omega) (by omega)).1 k0
    refine xk_Po.go 7 rfl ?_
    have e8 := s_leg8 (x + 1) (by omega) (by omega) d hd
    rw [show x + 1 - 1 = x by omega] at e8
    refine xk_Po.br rfl rfl (fun k1 => ?_) (fun k1 => no (fun r => k1 (e8.2 r.2.2.2.1)))
    have k1 := e8.1 k1
    refine xk_Po.go 5 rfl ?_
    refine xk_Po.ci4 rfl rfl (t_isBeside T hv h0 (by omega) hk) ?_
    refine xk_Po.br rfl rfl (fun k2 => ?_) (fun k2 => ?_)
    · exact no (fun r => xn_b0 k2 r.2.2.2.2)
    · have k2 := xn_b1 k2
      refine xk_Po.go 2 rfl ?_
      exact main True inferInstance ⟨fun _ => ⟨hm, k0, hx, k1, k2⟩, fun _ => trivial⟩
  · have q : ¬ n_cA f m x v k d := fun r => hx r.2.2.1
    refine xk_Po.go 2 rfl ?_
    refine xk_Po.br rfl rfl (fun k0 => no q) (fun k0 => ?_)
    refine xk_Po.go 2 rfl ?_
    rcases hC.2 hx with c | c
    · exact absurd c k0
    · subst c
      refine xk_Po.go 1 rfl ?_
      exact no q
theorem n_meets {f : Nat → Nat} {m x v k d : Nat} (T : s_Tv nx f) (hC : n_cp mo cT x) (hQ : n_cq cv cg m x) (hv : v < 4) (h0 : f (5 + v) ≠ 0) (hk : k < 10) (hd : d < 4) : xk_Ev (xp_P sc) 128 0 [.ref 10, .ref 15, .int (Int32.ofNat v), .int (Int32.ofNat k), .int (Int32.ofNat d), .retAddr 0, .retAddr 0, .retAddr 0] [] (mw p th pr sl ex ta nx on lf mo cv cg cT cp r) (.inl (some (.int (s_b (n_cA f m x v k d ∨ n_cB f v k d (2 * (f (5 + v) / 32)))))), 0, mw p th pr sl ex ta nx on lf mo cv cg cT cp r) := by
  have hD := T.v v hv
  have e32 := s_dv_32 _ hD
  have ee := n_elementsOf (sc := sc) (p := p) (th := th) (pr := pr) (sl := sl) (ex := ex) (ta := ta) (nx := nx) (on := on) (lf := lf) (mo := mo) (cv := cv) (cg := cg) (cT := cT) (cp := cp) (r := r) hv
  rw [T.w (5 + v) (by omega) (by omega), e32.1] at ee
  apply xk_Ev.of
  have main : ∀ (P : Prop) (_ : Decidable P), (P ↔ n_cA f m x v k d) → xk_Po (xp_P sc) 128 28 [.ref 10, .ref 15, .int (Int32.ofNat v), .int (Int32.ofNat k), .int (Int32.ofNat d), .retAddr 0, .retAddr 0, .retAddr 0] [.int (s_b P)] (mw p th pr sl ex ta nx on lf mo cv cg cT cp r) (fun z => z = (.inl (some (.int (s_b (n_cA f m x v k d ∨ n_cB f v k d (2 * (f (5 + v) / 32)))))), 0, mw p th pr sl ex ta nx on lf mo cv cg cT cp r)) := by
    intro P _ hP
    rw [s_b_congr (q := n_cA f m x v k d ∨ n_cB f v k d 0) (hP.trans ⟨.inl, fun r => r.elim id (fun ⟨_, h, _⟩ => absurd h (by omega))⟩)]
    refine xk_Po.go 3 rfl ?_
    refine xk_Po.loopJ (2 * (f (5 + v) / 32)) (fun j0 x1 y1 => [.ref 10, .ref 15, .int (Int32.ofNat v), .int (Int32.ofNat k), .int (Int32.ofNat d), .int (s_b (n_cA f m x v k d ∨ n_cB f v k d j0)), .int (Int32.ofNat j0), x1]) (fun _ => mw p th pr sl ex ta nx on lf mo cv cg cT cp r) (fun _ _ => fun z => z = (.inl (some (.int (s_b (n_cA f m x v k d ∨ n_cB f v k d (2 * (f (5 + v) / 32)))))), 0, mw p th pr sl ex ta nx on lf mo cv cg cT cp r)) (fun m0 j0 x1 y1 hj0 ih0 => ?_) (fun x1 y1 => ?_) (.retAddr 0) (.retAddr 0)
    · refine xk_Po.go 4 rfl ?_
      refine xk_Po.ci2 rfl rfl ee ?_
      refine xk_Po.go 1 rfl ?_
      rw [show Int32.ofInt 2 * Int32.ofNat (f (5 + v) / 32) = Int32.ofNat (2 * (f (5 + v) / 32)) from xn_mul 2 _]
      refine xk_Po.br rfl rfl (fun hx => absurd ((xn_le (a := 2 * (f (5 + v) / 32)) (b := j0) (by omega) (by omega)).1 hx) (by omega)) (fun _ => ?_)
      refine xk_Po.go 8 rfl ?_
      rw [s_lg v j0]
      refine xk_Po.ok rfl rfl (xn_ix (j := 9 + (v * 10 + j0)) (by omega) (by omega)) ?_
      rw [xn_nat (j := 9 + (v * 10 + j0)) (by omega), T.w (9 + (v * 10 + j0)) (by omega) (by omega)]
      have hl := T.l (v * 10 + j0) (by omega)
      refine xk_Po.go 2 rfl ?_
      rw [← xn_suc j0] at ih0
      have back : ∀ y : Int32, y = s_b (n_cA f m x v k d ∨ n_cB f v k d (j0 + 1)) → xk_Po (xp_P sc) 128 68 [.ref 10, .ref 15, .int (Int32.ofNat v), .int (Int32.ofNat k), .int (Int32.ofNat d), .int (s_b (n_cA f m x v k d ∨ n_cB f v k d j0)), .int (Int32.ofNat j0), .int (Int32.ofNat (f (9 + (v * 10 + j0))))] [.int y] (mw p th pr sl ex ta nx on lf mo cv cg cT cp r) (fun z => z = (.inl (some (.int (s_b (n_cA f m x v k d ∨ n_cB f v k d (2 * (f (5 + v) / 32)))))), 0, mw p th pr sl ex ta nx on lf mo cv cg cT cp r)) := by
        intro y hy
        rw [hy]
        refine xk_Po.go 3 rfl ?_
        exact ih0 _ (.retAddr 0)
      refine xk_Po.br rfl rfl (fun k0 => ?_) (fun k0 => ?_)
      · have k0 := xn_b0 k0
        refine xk_Po.go 4 rfl ?_
        refine xk_Po.ci4 rfl rfl (n_isBeside T hv h0 (by omega) hk) ?_
        refine xk_Po.br rfl rfl (fun k1 => ?_) (fun k1 => ?_)
        · have k1 := xn_b0 k1
          refine xk_Po.go 1 rfl ?_
          exact back _ (by rw [xn_bf (fun r => r.elim (fun r => k0 (.inl r)) (fun r => (n_cB_suc.1 r).elim (fun r => k0 (.inr r)) (fun r => k1 r.1)))]; rfl)
        · have k1 := xn_b1 k1
          refine xk_Po.go 1 rfl ?_
          refine xk_Po.br rfl rfl (fun k2 => ?_) (fun k2 => ?_)
          · have k2 := (xn_le0 (by omega)).1 k2
            refine xk_Po.go 1 rfl ?_
            exact back _ (by rw [xn_bf (fun r => r.elim (fun r => k0 (.inl r)) (fun r => (n_cB_suc.1 r).elim (fun r => k0 (.inr r)) (fun r => r.2.1 k2)))]; rfl)
          · have k2 : f (9 + (v * 10 + j0)) ≠ 0 := fun r => k2 ((xn_le0 (by omega)).2 r)
            have e8 := s_leg8 _ (show f (9 + (v * 10 + j0)) < 33 by omega) k2 d hd
            refine xk_Po.go 6 rfl ?_
            refine xk_Po.br rfl rfl (fun k3 => ?_) (fun k3 => ?_)
            · refine xk_Po.go 2 rfl ?_
              exact back _ (by rw [xn_bt (.inr (n_cB_suc.2 (.inr ⟨k1, k2, e8.1 k3⟩)))]; rfl)
            · refine xk_Po.go 1 rfl ?_
              exact back _ (by rw [xn_bf (fun r => r.elim (fun r => k0 (.inl r)) (fun r => (n_cB_suc.1 r).elim (fun r => k0 (.inr r)) (fun r => k3 (e8.2 r.2.2))))]; rfl)
      · have k0 := xn_b1 k0
        refine xk_Po.go 2 rfl ?_
        exact back _ (by rw [xn_bt (k0.elim .inl (fun r => .inr (n_cB_suc.2 (.inl r))))]; rfl)
    · refine xk_Po.go 4 rfl ?_
      refine xk_Po.ci2 rfl rfl ee ?_
      refine xk_Po.go 1 rfl ?_
      rw [show Int32.ofInt 2 * Int32.ofNat (f (5 + v) / 32) = Int32.ofNat (2 * (f (5 + v) / 32)) from xn_mul 2 _]
      refine xk_Po.br rfl rfl (fun _ => ?_) (fun hx => absurd (Int32.le_refl _) hx)
      refine xk_Po.go 1 rfl ?_
      exact xk_Po.zret rfl (by by_cases q : (n_cA f m x v k d ∨ n_cB f v k d (2 * (f (5 + v) / 32))); exact .inr (xn_bt q); exact .inl (xn_bf q)) rfl
  have no : ¬ n_cA f m x v k d → xk_Po (xp_P sc) 128 27 [.ref 10, .ref 15, .int (Int32.ofNat v), .int (Int32.ofNat k), .int (Int32.ofNat d), .retAddr 0, .retAddr 0, .retAddr 0] [] (mw p th pr sl ex ta nx on lf mo cv cg cT cp r) (fun z => z = (.inl (some (.int (s_b (n_cA f m x v k d ∨ n_cB f v k d (2 * (f (5 + v) / 32)))))), 0, mw p th pr sl ex ta nx on lf mo cv cg cT cp r)) := by
    intro q
    refine xk_Po.go 1 rfl ?_
    exact main False inferInstance ⟨False.elim, q⟩
  by_cases hx : x < 32
  · obtain ⟨c1, c2⟩ := hC.1 hx
    obtain ⟨c3, c4⟩ := hQ.2 hx
    have hm := hQ.1.1 hx
    subst c2 c3 c4
    refine xk_Po.go 2 rfl ?_
    refine xk_Po.br rfl rfl (fun k0 => absurd k0 c1) (fun _ => ?_)
    refine xk_Po.go 2 rfl ?_
    refine xk_Po.br rfl rfl (fun k0 => absurd ((xn_le0 (by omega)).1 k0) (by omega)) (fun _ => ?_)
    refine xk_Po.go 3 rfl ?_
    refine xk_Po.br rfl rfl (fun k0 => ?_) (fun k0 => no (fun r => k0 (by rw [r.2.1])))
    have k0 := (xn_inj (by omega) (by omega)).1 k0
    refine xk_Po.go 7 rfl ?_
    have e8 := s_leg8 (x + 1) (by omega) (by omega) d hd
    rw [show x + 1 - 1 = x by omega] at e8
    refine xk_Po.br rfl rfl (fun k1 => ?_) (fun k1 => no (fun r => k1 (e8.2 r.2.2.2.1)))
    have k1 := e8.1 k1
    refine xk_Po.go 5 rfl ?_
    refine xk_Po.ci4 rfl rfl (n_isBeside T hv h0 (by omega) hk) ?_
    refine xk_Po.br rfl rfl (fun k2 => ?_) (fun k2 => ?_)
    · exact no (fun r => xn_b0 k2 r.2.2.2.2)
    · have k2 := xn_b1 k2
      refine xk_Po.go 2 rfl ?_
      exact main True inferInstance ⟨fun _ => ⟨hm, k0, hx, k1, k2⟩, fun _ => trivial⟩
  · have q : ¬ n_cA f m x v k d := fun r => hx r.2.2.1
    refine xk_Po.go 2 rfl ?_
    refine xk_Po.br rfl rfl (fun k0 => no q) (fun k0 => ?_)
    refine xk_Po.go 2 rfl ?_
    rcases hC.2 hx with c | c
    · exact absurd c k0
    · subst c
      refine xk_Po.go 1 rfl ?_
      exact no q
end XkRom2
