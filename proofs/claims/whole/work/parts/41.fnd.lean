/-! The reference: where it finds room. -/
section XkFnd
variable {sc : Nat × (Nat → Int32)} {p : xk_Ten} {pr sl ex ta nx : Nat → Int32} {th on lf mo cv cg cT cp : Int32} {r w : xk_W}
/-- the target, as the other program holds it -/
abbrev n_cp (mo cT : Int32) (x : Nat) : Prop := (x < 32 → ¬ mo < 0 ∧ cT = Int32.ofNat (x + 1)) ∧ (¬ x < 32 → mo < 0 ∨ cT = 0)
theorem n_cp_eq {mo cT : Int32} {x y : Nat} (h : n_cp mo cT x) (hy : y < 32) : (mo < 0 ∨ ¬ cT = Int32.ofNat (y + 1)) ↔ y ≠ x := by
  by_cases q : x < 32
  · obtain ⟨h1, h2⟩ := h.1 q
    rw [h2, xn_inj (by omega) (by omega)]
    constructor
    · rintro (r | r)
      · exact absurd r h1
      · omega
    · intro r
      right
      omega
  · rcases h.2 q with r | r
    · exact ⟨fun _ => by omega, fun _ => .inl r⟩
    · refine ⟨fun _ => by omega, fun _ => .inr ?_⟩
      rw [r]
      exact fun k => absurd ((xn_inj (a := 0) (by omega) (by omega)).1 k) (by omega)
theorem p_has_use {t : Nat → Int32} {f : Nat → Nat} {y : Nat} (T : s_Tv t f) (hy : y < 32) : ∀ n, n ≤ 40 → p_has t (Int32.ofNat (y + 1)) n = s_b (n_use f n y)
  | 0, _ => (xn_bf (fun ⟨_, h, _⟩ => absurd h (by omega))).symm
  | n + 1, hn => by
    have ih := p_has_use T hy n (by omega)
    have hl := T.l n (by omega)
    unfold p_has
    rw [ih, T.w (9 + n) (by omega) (by omega)]
    have e := xn_inj (a := f (9 + n)) (b := y + 1) (by omega) (by omega)
    by_cases q : n_use f n y
    · rw [if_neg (fun r => xn_b0 r q), xn_bt]
      obtain ⟨j, h1, h2⟩ := q
      exact ⟨j, by omega, h2⟩
    · rw [if_pos (xn_bf q)]
      by_cases r : f (9 + n) = y + 1
      · rw [if_pos (e.2 r), xn_bt ⟨n, by omega, r⟩]
      · rw [if_neg (fun k => r (e.1 k)), xn_bf]
        rintro ⟨j, h1, h2⟩
        rcases Nat.lt_or_ge j n with k | k
        · exact q ⟨j, k, h2⟩
        · rw [show j = n by omega] at h2
          exact r h2
theorem s_spot (d j : Nat) : Int32.ofInt 1 + Int32.ofInt 8 * Int32.ofNat d + Int32.ofNat j = Int32.ofNat (8 * d + j + 1) := by
  show Int32.ofNat 1 + Int32.ofNat 8 * Int32.ofNat d + Int32.ofNat j = _
  rw [xn_mul, xn_add, xn_add]
  congr 1
  omega
theorem s_lg (v k : Nat) : Int32.ofInt 9 + Int32.ofInt 10 * Int32.ofNat v + Int32.ofNat k = Int32.ofNat (9 + (v * 10 + k)) := s_was v k
theorem s_dv_4 : ∀ D, D ∈ s_dv → D ≠ 0 → ¬ Int32.ofNat D = 0 ∧ Int32.ofNat D % 4 - 1 = Int32.ofNat (D % 4) - 1 ∧ Int32.ofNat D / 4 % 8 = Int32.ofNat (D / 4 % 8) := by decide
theorem e4_1 {a : Nat} (h : a < 4) (k : Int32.ofNat a - 1 = Int32.ofInt 1) : a = 2 := by
  have : ∀ a, a < 4 → Int32.ofNat a - 1 = Int32.ofInt 1 → a = 2 := by decide
  exact this a h k
theorem e4_2 {a : Nat} (h : a < 4) (k : Int32.ofNat a - 1 = Int32.ofInt 2) : a = 3 := by
  have : ∀ a, a < 4 → Int32.ofNat a - 1 = Int32.ofInt 2 → a = 3 := by decide
  exact this a h k
theorem t_isFree {f : Nat → Nat} {x y : Nat} (T : s_Tv ta f) (hC : n_cp mo cT x) (hy : y < 32) : xk_Ev (xp_P sc) 125 0 [.ref 10, .ref 14, .int (Int32.ofNat (y + 1))] [] (mw p th pr sl ex ta nx on lf mo cv cg cT cp r) (.inl (some (.int (s_b (n_fre f x y)))), 0, mw p th pr sl ex ta nx on lf mo cv cg cT cp r) := by
  have e := n_cp_eq hC hy
  apply xk_Ev.of
  refine xk_Po.go 2 rfl ?_
  refine xk_Po.ci2 rfl rfl (t_holds) ?_
  rw [p_has_use T hy 40 (by omega)]
  refine xk_Po.br rfl rfl (fun h0 => ?_) (fun h0 => ?_)
  · refine xk_Po.go 2 rfl ?_
    refine xk_Po.br rfl rfl (fun h1 => ?_) (fun h1 => ?_)
    · refine xk_Po.go 2 rfl ?_
      exact xk_Po.zret rfl (by decide) (by rw [xn_bt (show n_fre f x y from ⟨xn_b0 h0, e.1 (.inl h1)⟩)]; rfl)
    · refine xk_Po.go 3 rfl ?_
      refine xk_Po.br rfl rfl (fun h2 => ?_) (fun h2 => ?_)
      · refine xk_Po.go 1 rfl ?_
        exact xk_Po.zret rfl (by decide) (by rw [xn_bf (show ¬ n_fre f x y from fun k => (e.2 k.2).elim h1 (fun r => r h2))]; rfl)
      · refine xk_Po.go 2 rfl ?_
        exact xk_Po.zret rfl (by decide) (by rw [xn_bt (show n_fre f x y from ⟨xn_b0 h0, e.1 (.inr h2)⟩)]; rfl)
  · refine xk_Po.go 1 rfl ?_
    exact xk_Po.zret rfl (by decide) (by rw [xn_bf (show ¬ n_fre f x y from fun k => k.1 (xn_b1 h0))]; rfl)
theorem t_freeOn {f : Nat → Nat} {x d : Nat} (T : s_Tv ta f) (hC : n_cp mo cT x) (hd : d < 4) : xk_Ev (xp_P sc) 126 0 [.ref 10, .ref 14, .int (Int32.ofNat d), .retAddr 0, .retAddr 0] [] (mw p th pr sl ex ta nx on lf mo cv cg cT cp r) (.inl (some (.int (Int32.ofNat (n_cf f x d)))), 0, mw p th pr sl ex ta nx on lf mo cv cg cT cp r) := by
  have he := T.e d hd
  apply xk_Ev.of
  refine xk_Po.go 4 rfl ?_
  refine xk_Po.loop (f (1 + d)) (fun j0 => [.ref 10, .ref 14, .int (Int32.ofNat d), .int (Int32.ofNat (n_cnt (fun p => n_fre f x (8 * d + p)) j0)), .int (Int32.ofNat j0)]) (fun _ => mw p th pr sl ex ta nx on lf mo cv cg cT cp r) (fun _ _ => fun z => z = (.inl (some (.int (Int32.ofNat (n_cf f x d)))), 0, mw p th pr sl ex ta nx on lf mo cv cg cT cp r)) (fun m0 j0 hj0 ih0 => ?_) ?_
  · refine xk_Po.go 5 rfl ?_
    refine xk_Po.ok rfl rfl (xn_ixa (a := 1) (j := d) (by omega) (by omega)) ?_
    rw [show (Int32.ofInt 1 + Int32.ofNat d).toNatClampNeg = 1 + d from xn_nata (a := 1) (j := d) (by omega), T.w (1 + d) (by omega) (by omega)]
    refine xk_Po.br rfl rfl (fun hx => absurd ((xn_le (a := f (1 + d)) (b := j0) (by omega) (by omega)).1 hx) (by omega)) (fun _ => ?_)
    refine xk_Po.go 9 rfl ?_
    rw [s_spot d j0]
    refine xk_Po.ci3 rfl rfl (t_isFree T hC (y := 8 * d + j0) (by omega)) ?_
    rw [← xn_suc j0] at ih0
    by_cases k : n_fre f x (8 * d + j0)
    · rw [show n_cnt (fun p => n_fre f x (8 * d + p)) (j0 + 1) = n_cnt (fun p => n_fre f x (8 * d + p)) j0 + 1 from if_pos k, ← xn_suc (n_cnt (fun p => n_fre f x (8 * d + p)) j0)] at ih0
      rw [xn_bt k]
      refine xk_Po.go 8 rfl ?_
      exact ih0
    · rw [show n_cnt (fun p => n_fre f x (8 * d + p)) (j0 + 1) = n_cnt (fun p => n_fre f x (8 * d + p)) j0 from if_neg k] at ih0
      rw [xn_bf k]
      refine xk_Po.go 5 rfl ?_
      exact ih0
  · refine xk_Po.go 5 rfl ?_
    refine xk_Po.ok rfl rfl (xn_ixa (a := 1) (j := d) (by omega) (by omega)) ?_
    rw [show (Int32.ofInt 1 + Int32.ofNat d).toNatClampNeg = 1 + d from xn_nata (a := 1) (j := d) (by omega), T.w (1 + d) (by omega) (by omega)]
    refine xk_Po.br rfl rfl (fun _ => ?_) (fun hx => absurd (Int32.le_refl _) hx)
    refine xk_Po.go 1 rfl ?_
    exact xk_Po.iret rfl rfl
theorem t_isBeside {f : Nat → Nat} {v j k : Nat} (T : s_Tv ta f) (hv : v < 4) (h0 : f (5 + v) ≠ 0) (hj : j < 10) (hk : k < 10) : xk_Ev (xp_P sc) 127 0 [.ref 14, .int (Int32.ofNat v), .int (Int32.ofNat j), .int (Int32.ofNat k), .retAddr 0] [] (mw p th pr sl ex ta nx on lf mo cv cg cT cp r) (.inl (some (.int (s_b (n_bes (f (5 + v)) j k)))), 0, mw p th pr sl ex ta nx on lf mo cv cg cT cp r) := by
  have hD := T.v v hv
  obtain ⟨_, c1, c2, _, _, _⟩ := s_dv_col _ hD h0
  have e4 := s_dv_4 _ hD h0
  have ek := t_kindOf (sc := sc) (p := p) (th := th) (pr := pr) (sl := sl) (ex := ex) (ta := ta) (nx := nx) (on := on) (lf := lf) (mo := mo) (cv := cv) (cg := cg) (cT := cT) (cp := cp) (r := r) hv
  have ec := t_columnsOf (sc := sc) (p := p) (th := th) (pr := pr) (sl := sl) (ex := ex) (ta := ta) (nx := nx) (on := on) (lf := lf) (mo := mo) (cv := cv) (cg := cg) (cT := cT) (cp := cp) (r := r) hv
  rw [T.w (5 + v) (by omega) (by omega)] at ek ec
  rw [if_neg e4.1, e4.2.1] at ek
  rw [e4.2.2] at ec
  generalize f (5 + v) = D at *
  have ne : ¬ Int32.ofNat (D / 4 % 8) = 0 := s_ne0 _ c2 c1
  have dv : ∀ a, a < 10 → Int32.ofNat a / Int32.ofInt 2 = Int32.ofNat (a / 2) := by decide
  have dc : ∀ a, a < 5 → ∀ c, c < 4 → 1 ≤ c → Int32.ofNat a / Int32.ofNat c = Int32.ofNat (a / c) := by decide
  apply xk_Ev.of
  refine xk_Po.go 2 rfl ?_
  refine xk_Po.ci2 rfl rfl ek ?_
  refine xk_Po.go 3 rfl ?_
  refine xk_Po.br rfl rfl (fun k0 => ?_) (fun k0 => ?_)
  · have d2 : D % 4 = 2 := e4_1 (by omega) k0
    have iB : n_bes D j k ↔ (j / 2 / (D / 4 % 8) = k / 2 / (D / 4 % 8) ∧ j / 2 ≠ k / 2) := Iff.of_eq (if_pos d2)
    refine xk_Po.go 5 rfl ?_
    refine xk_Po.ci2 rfl rfl ec ?_
    refine xk_Po.no rfl rfl ne ?_
    refine xk_Po.go 5 rfl ?_
    refine xk_Po.ci2 rfl rfl ec ?_
    refine xk_Po.no rfl rfl ne ?_
    rw [dv j hj, dv k hk, dc _ (by omega) _ c2 c1, dc _ (by omega) _ c2 c1]
    refine xk_Po.br rfl rfl (fun k1 => ?_) (fun k1 => ?_)
    · have k1 := (xn_inj (by have := Nat.div_le_self (j / 2) (D / 4 % 8); omega) (by have := Nat.div_le_self (k / 2) (D / 4 % 8); omega)).1 k1
      refine xk_Po.go 6 rfl ?_
      rw [dv j hj, dv k hk]
      refine xk_Po.br rfl rfl (fun k2 => ?_) (fun k2 => ?_)
      · have k2 := (xn_inj (by omega) (by omega)).1 k2
        refine xk_Po.go 2 rfl ?_
        exact xk_Po.zret rfl (by decide) (by rw [xn_bf (fun r => (iB.1 r).2 k2)]; rfl)
      · refine xk_Po.go 2 rfl ?_
        exact xk_Po.zret rfl (by decide) (by rw [xn_bt (iB.2 ⟨k1, fun r => k2 (by rw [r])⟩)]; rfl)
    · refine xk_Po.go 2 rfl ?_
      exact xk_Po.zret rfl (by decide) (by rw [xn_bf (fun r => k1 (by rw [(iB.1 r).1]))]; rfl)
  · have d2 : ¬ D % 4 = 2 := fun r => k0 (by rw [r]; rfl)
    have iB : n_bes D j k ↔ (D % 4 = 3 ∧ j / 2 = k / 2 ∧ j ≠ k) := Iff.of_eq (if_neg d2)
    refine xk_Po.go 2 rfl ?_
    refine xk_Po.br rfl rfl (fun k1 => ?_) (fun k1 => ?_)
    · have d3 : D % 4 = 3 := e4_2 (by omega) k1
      refine xk_Po.go 6 rfl ?_
      rw [dv j hj, dv k hk]
      refine xk_Po.br rfl rfl (fun k2 => ?_) (fun k2 => ?_)
      · have k2 := (xn_inj (by omega) (by omega)).1 k2
        refine xk_Po.go 2 rfl ?_
        refine xk_Po.br rfl rfl (fun k3 => ?_) (fun k3 => ?_)
        · have k3 := (xn_inj (by omega) (by omega)).1 k3
          refine xk_Po.go 1 rfl ?_
          exact xk_Po.zret rfl (by decide) (by rw [xn_bf (fun r => (iB.1 r).2.2 k3)]; rfl)
        · refine xk_Po.go 2 rfl ?_
          exact xk_Po.zret rfl (by decide) (by rw [xn_bt (iB.2 ⟨d3, k2, fun r => k3 (by rw [r])⟩)]; rfl)
      · refine xk_Po.go 1 rfl ?_
        exact xk_Po.zret rfl (by decide) (by rw [xn_bf (fun r => k2 (by rw [(iB.1 r).2.1]))]; rfl)
    · refine xk_Po.go 1 rfl ?_
      exact xk_Po.zret rfl (by decide) (by rw [xn_bf (fun r => k1 (by rw [(iB.1 r).1]; rfl))]; rfl)
theorem n_isFree {f : Nat → Nat} {x y : Nat} (T : s_Tv nx f) (hC : n_cp mo cT x) (hy : y < 32) : xk_Ev (xp_P sc) 125 0 [.ref 10, .ref 15, .int (Int32.ofNat (y + 1))] [] (mw p th pr sl ex ta nx on lf mo cv cg cT cp r) (.inl (some (.int (s_b (n_fre f x y)))), 0, mw p th pr sl ex ta nx on lf mo cv cg cT cp r) := by
  have e := n_cp_eq hC hy
  apply xk_Ev.of
  refine xk_Po.go 2 rfl ?_
  refine xk_Po.ci2 rfl rfl (n_holds) ?_
  rw [p_has_use T hy 40 (by omega)]
  refine xk_Po.br rfl rfl (fun h0 => ?_) (fun h0 => ?_)
  · refine xk_Po.go 2 rfl ?_
    refine xk_Po.br rfl rfl (fun h1 => ?_) (fun h1 => ?_)
    · refine xk_Po.go 2 rfl ?_
      exact xk_Po.zret rfl (by decide) (by rw [xn_bt (show n_fre f x y from ⟨xn_b0 h0, e.1 (.inl h1)⟩)]; rfl)
    · refine xk_Po.go 3 rfl ?_
      refine xk_Po.br rfl rfl (fun h2 => ?_) (fun h2 => ?_)
      · refine xk_Po.go 1 rfl ?_
        exact xk_Po.zret rfl (by decide) (by rw [xn_bf (show ¬ n_fre f x y from fun k => (e.2 k.2).elim h1 (fun r => r h2))]; rfl)
      · refine xk_Po.go 2 rfl ?_
        exact xk_Po.zret rfl (by decide) (by rw [xn_bt (show n_fre f x y from ⟨xn_b0 h0, e.1 (.inr h2)⟩)]; rfl)
  · refine xk_Po.go 1 rfl ?_
    exact xk_Po.zret rfl (by decide) (by rw [xn_bf (show ¬ n_fre f x y from fun k => k.1 (xn_b1 h0))]; rfl)
theorem n_freeOn {f : Nat → Nat} {x d : Nat} (T : s_Tv nx f) (hC : n_cp mo cT x) (hd : d < 4) : xk_Ev (xp_P sc) 126 0 [.ref 10, .ref 15, .int (Int32.ofNat d), .retAddr 0, .retAddr 0] [] (mw p th pr sl ex ta nx on lf mo cv cg cT cp r) (.inl (some (.int (Int32.ofNat (n_cf f x d)))), 0, mw p th pr sl ex ta nx on lf mo cv cg cT cp r) := by
  have he := T.e d hd
  apply xk_Ev.of
  refine xk_Po.go 4 rfl ?_
  refine xk_Po.loop (f (1 + d)) (fun j0 => [.ref 10, .ref 15, .int (Int32.ofNat d), .int (Int32.ofNat (n_cnt (fun p => n_fre f x (8 * d + p)) j0)), .int (Int32.ofNat j0)]) (fun _ => mw p th pr sl ex ta nx on lf mo cv cg cT cp r) (fun _ _ => fun z => z = (.inl (some (.int (Int32.ofNat (n_cf f x d)))), 0, mw p th pr sl ex ta nx on lf mo cv cg cT cp r)) (fun m0 j0 hj0 ih0 => ?_) ?_
  · refine xk_Po.go 5 rfl ?_
    refine xk_Po.ok rfl rfl (xn_ixa (a := 1) (j := d) (by omega) (by omega)) ?_
    rw [show (Int32.ofInt 1 + Int32.ofNat d).toNatClampNeg = 1 + d from xn_nata (a := 1) (j := d) (by omega), T.w (1 + d) (by omega) (by omega)]
    refine xk_Po.br rfl rfl (fun hx => absurd ((xn_le (a := f (1 + d)) (b := j0) (by omega) (by omega)).1 hx) (by omega)) (fun _ => ?_)
    refine xk_Po.go 9 rfl ?_
    rw [s_spot d j0]
    refine xk_Po.ci3 rfl rfl (n_isFree T hC (y := 8 * d + j0) (by omega)) ?_
    rw [← xn_suc j0] at ih0
    by_cases k : n_fre f x (8 * d + j0)
    · rw [show n_cnt (fun p => n_fre f x (8 * d + p)) (j0 + 1) = n_cnt (fun p => n_fre f x (8 * d + p)) j0 + 1 from if_pos k, ← xn_suc (n_cnt (fun p => n_fre f x (8 * d + p)) j0)] at ih0
      rw [xn_bt k]
      refine xk_Po.go 8 rfl ?_
      exact ih0
    · rw [show n_cnt (fun p => n_fre f x (8 * d + p)) (j0 + 1) = n_cnt (fun p => n_fre f x (8 * d + p)) j0 from if_neg k] at ih0
      rw [xn_bf k]
      refine xk_Po.go 5 rfl ?_
      exact ih0
  · refine xk_Po.go 5 rfl ?_
    refine xk_Po.ok rfl rfl (xn_ixa (a := 1) (j := d) (by omega) (by omega)) ?_
    rw [show (Int32.ofInt 1 + Int32.ofNat d).toNatClampNeg = 1 + d from xn_nata (a := 1) (j := d) (by omega), T.w (1 + d) (by omega) (by omega)]
    refine xk_Po.br rfl rfl (fun _ => ?_) (fun hx => absurd (Int32.le_refl _) hx)
    refine xk_Po.go 1 rfl ?_
    exact xk_Po.iret rfl rfl
theorem n_isBeside {f : Nat → Nat} {v j k : Nat} (T : s_Tv nx f) (hv : v < 4) (h0 : f (5 + v) ≠ 0) (hj : j < 10) (hk : k < 10) : xk_Ev (xp_P sc) 127 0 [.ref 15, .int (Int32.ofNat v), .int (Int32.ofNat j), .int (Int32.ofNat k), .retAddr 0] [] (mw p th pr sl ex ta nx on lf mo cv cg cT cp r) (.inl (some (.int (s_b (n_bes (f (5 + v)) j k)))), 0, mw p th pr sl ex ta nx on lf mo cv cg cT cp r) := by
  have hD := T.v v hv
  obtain ⟨_, c1, c2, _, _, _⟩ := s_dv_col _ hD h0
  have e4 := s_dv_4 _ hD h0
  have ek := n_kindOf (sc := sc) (p := p) (th := th) (pr := pr) (sl := sl) (ex := ex) (ta := ta) (nx := nx) (on := on) (lf := lf) (mo := mo) (cv := cv) (cg := cg) (cT := cT) (cp := cp) (r := r) hv
  have ec := n_columnsOf (sc := sc) (p := p) (th := th) (pr := pr) (sl := sl) (ex := ex) (ta := ta) (nx := nx) (on := on) (lf := lf) (mo := mo) (cv := cv) (cg := cg) (cT := cT) (cp := cp) (r := r) hv
  rw [T.w (5 + v) (by omega) (by omega)] at ek ec
  rw [if_neg e4.1, e4.2.1] at ek
  rw [e4.2.2] at ec
  generalize f (5 + v) = D at *
  have ne : ¬ Int32.ofNat (D / 4 % 8) = 0 := s_ne0 _ c2 c1
  have dv : ∀ a, a < 10 → Int32.ofNat a / Int32.ofInt 2 = Int32.ofNat (a / 2) := by decide
  have dc : ∀ a, a < 5 → ∀ c, c < 4 → 1 ≤ c → Int32.ofNat a / Int32.ofNat c = Int32.ofNat (a / c) := by decide
  apply xk_Ev.of
  refine xk_Po.go 2 rfl ?_
  refine xk_Po.ci2 rfl rfl ek ?_
  refine xk_Po.go 3 rfl ?_
  refine xk_Po.br rfl rfl (fun k0 => ?_) (fun k0 => ?_)
  · have d2 : D % 4 = 2 := e4_1 (by omega) k0
    have iB : n_bes D j k ↔ (j / 2 / (D / 4 % 8) = k / 2 / (D / 4 % 8) ∧ j / 2 ≠ k / 2) := Iff.of_eq (if_pos d2)
    refine xk_Po.go 5 rfl ?_
    refine xk_Po.ci2 rfl rfl ec ?_
    refine xk_Po.no rfl rfl ne ?_
    refine xk_Po.go 5 rfl ?_
    refine xk_Po.ci2 rfl rfl ec ?_
    refine xk_Po.no rfl rfl ne ?_
    rw [dv j hj, dv k hk, dc _ (by omega) _ c2 c1, dc _ (by omega) _ c2 c1]
    refine xk_Po.br rfl rfl (fun k1 => ?_) (fun k1 => ?_)
    · have k1 := (xn_inj (by have := Nat.div_le_self (j / 2) (D / 4 % 8); omega) (by have := Nat.div_le_self (k / 2) (D / 4 % 8); omega)).1 k1
      refine xk_Po.go 6 rfl ?_
      rw [dv j hj, dv k hk]
      refine xk_Po.br rfl rfl (fun k2 => ?_) (fun k2 => ?_)
      · have k2 := (xn_inj (by omega) (by omega)).1 k2
        refine xk_Po.go 2 rfl ?_
        exact xk_Po.zret rfl (by decide) (by rw [xn_bf (fun r => (iB.1 r).2 k2)]; rfl)
      · refine xk_Po.go 2 rfl ?_
        exact xk_Po.zret rfl (by decide) (by rw [xn_bt (iB.2 ⟨k1, fun r => k2 (by rw [r])⟩)]; rfl)
    · refine xk_Po.go 2 rfl ?_
      exact xk_Po.zret rfl (by decide) (by rw [xn_bf (fun r => k1 (by rw [(iB.1 r).1]))]; rfl)
  · have d2 : ¬ D % 4 = 2 := fun r => k0 (by rw [r]; rfl)
    have iB : n_bes D j k ↔ (D % 4 = 3 ∧ j / 2 = k / 2 ∧ j ≠ k) := Iff.of_eq (if_neg d2)
    refine xk_Po.go 2 rfl ?_
    refine xk_Po.br rfl rfl (fun k1 => ?_) (fun k1 => ?_)
    · have d3 : D % 4 = 3 := e4_2 (by omega) k1
      refine xk_Po.go 6 rfl ?_
      rw [dv j hj, dv k hk]
      refine xk_Po.br rfl rfl (fun k2 => ?_) (fun k2 => ?_)
      · have k2 := (xn_inj (by omega) (by omega)).1 k2
        refine xk_Po.go 2 rfl ?_
        refine xk_Po.br rfl rfl (fun k3 => ?_) (fun k3 => ?_)
        · have k3 := (xn_inj (by omega) (by omega)).1 k3
          refine xk_Po.go 1 rfl ?_
          exact xk_Po.zret rfl (by decide) (by rw [xn_bf (fun r => (iB.1 r).2.2 k3)]; rfl)
        · refine xk_Po.go 2 rfl ?_
          exact xk_Po.zret rfl (by decide) (by rw [xn_bt (iB.2 ⟨d3, k2, fun r => k3 (by rw [r])⟩)]; rfl)
      · refine xk_Po.go 1 rfl ?_
        exact xk_Po.zret rfl (by decide) (by rw [xn_bf (fun r => k2 (by rw [(iB.1 r).2.1]))]; rfl)
    · refine xk_Po.go 1 rfl ?_
      exact xk_Po.zret rfl (by decide) (by rw [xn_bf (fun r => k1 (by rw [(iB.1 r).1]; rfl))]; rfl)
end XkFnd
