section XkKwr
variable {sc : Nat × (Nat → Int32)} {sl ex ab ta dr : Nat → Int32} {md ml mt mc on ct : Int32} {r w : xk_W}
theorem k_ok {f : Nat → Nat} (T : s_Tv ta f) : ∀ j, j < 40 → ¬ ta (9 + j) - 1 = Int32.ofInt (-1) → ∃ d, d < 4 ∧ s_disk (ta (9 + j) - 1) = Int32.ofNat d := by
  intro j hj
  have hl := T.l j hj
  rw [T.w (9 + j) (by omega) (by omega)]
  generalize f (9 + j) = y at *
  have : ∀ y, y < 33 → ¬ Int32.ofNat y - 1 = Int32.ofInt (-1) → (y - 1) / 8 < 4 ∧ s_disk (Int32.ofNat y - 1) = Int32.ofNat ((y - 1) / 8) := by decide
  intro h
  exact ⟨_, this y (by omega) h⟩
abbrev n_rda (y : Nat) (ab : Nat → Int32) : Prop := y ≠ 0 ∧ ab ((y - 1) / 8) = 0
theorem n_rda_pr {y : Nat} {ab : Nat → Int32} : n_rdb y (n_pr ab) ↔ n_rda y ab := by
  constructor
  · rintro ⟨a, b⟩
    exact ⟨a, Decidable.byContradiction (fun q => b (n_pr_0.2 q))⟩
  · rintro ⟨a, b⟩
    exact ⟨a, fun q => n_pr_0.1 q b⟩
theorem k_rd {f : Nat → Nat} {j : Nat} (T : s_Tv ta f) (hj : j < 40) : s_rd ta ab j ↔ n_rda (f (9 + j)) ab := by
  have hl := T.l j hj
  unfold s_rd
  rw [T.w (9 + j) (by omega) (by omega)]
  generalize f (9 + j) = y at *
  have h1 : ∀ y, y < 33 → (¬ Int32.ofNat y - 1 = Int32.ofInt (-1) ↔ y ≠ 0) := by decide
  have h2 : ∀ y, y < 33 → y ≠ 0 → (s_disk (Int32.ofNat y - 1)).toNatClampNeg = (y - 1) / 8 := by decide
  constructor
  · rintro ⟨a, b⟩
    have a := (h1 y (by omega)).1 a
    rw [h2 y (by omega) a] at b
    exact ⟨a, b⟩
  · rintro ⟨a, b⟩
    refine ⟨(h1 y (by omega)).2 a, ?_⟩
    rw [h2 y (by omega) a]
    exact b
theorem k_rd1 {f : Nat → Nat} {j : Nat} (T : s_Tv ta f) (hj : j < 40) (hb : ∀ i, ab i = 0 ∨ ab i = 1) (h : n_rda (f (9 + j)) ab) : xk_Ev (xp_P sc) 79 0 [.ref 0, .int (Int32.ofNat j), .retAddr 0] [] (cw sl ex ab ta dr md ml mt mc on ct r) (.inl (some (.int 1)), 0, cw sl ex ab ta dr md ml mt mc on ct r) := by
  have e := c_isReadable (sc := sc) (sl := sl) (ex := ex) (ab := ab) (ta := ta) (dr := dr) (md := md) (ml := ml) (mt := mt) (mc := mc) (on := on) (ct := ct) (r := r) hj hb (k_ok T)
  rw [xn_bt ((k_rd T hj).2 h)] at e
  exact e
theorem k_rd0 {f : Nat → Nat} {j : Nat} (T : s_Tv ta f) (hj : j < 40) (hb : ∀ i, ab i = 0 ∨ ab i = 1) (h : ¬ n_rda (f (9 + j)) ab) : xk_Ev (xp_P sc) 79 0 [.ref 0, .int (Int32.ofNat j), .retAddr 0] [] (cw sl ex ab ta dr md ml mt mc on ct r) (.inl (some (.int 0)), 0, cw sl ex ab ta dr md ml mt mc on ct r) := by
  have e := c_isReadable (sc := sc) (sl := sl) (ex := ex) (ab := ab) (ta := ta) (dr := dr) (md := md) (ml := ml) (mt := mt) (mc := mc) (on := on) (ct := ct) (r := r) hj hb (k_ok T)
  rw [xn_bf (fun q => h ((k_rd T hj).1 q))] at e
  exact e
theorem k_elw {f : Nat → Nat} {v k : Nat} (T : s_Tv ta f) (hv : v < 4) (h5 : f (5 + v) ≠ 0) (hk : k < 20) : xk_Ev (xp_P sc) 77 0 [.ref 0, .int (Int32.ofNat v), .int (Int32.ofNat k), .retAddr 0] [] (cw sl ex ab ta dr md ml mt mc on ct r) (.inl (some (.int (Int32.ofNat (n_el (f (5 + v)) k)))), 0, cw sl ex ab ta dr md ml mt mc on ct r) := by
  obtain ⟨c0, c1, c2, _, _, _⟩ := s_dv_col _ (T.v v hv) h5
  obtain ⟨e1, e2, e3⟩ := s_elw _ c2 c1 k hk
  have hc : s_col (ta (5 + v)) = Int32.ofNat (f (5 + v) / 4 % 8) := by rw [T.w (5 + v) (by omega) (by omega)]; exact c0
  have h := c_elementOfWord (sc := sc) (sl := sl) (ex := ex) (ab := ab) (ta := ta) (dr := dr) (md := md) (ml := ml) (mt := mt) (mc := mc) (on := on) (ct := ct) (r := r) (j := v) (x := Int32.ofNat k) hv (by rw [hc]; exact s_ne0 _ c2 c1) (by rw [hc]; exact e3)
  rw [hc] at h
  unfold n_el
  rw [← e1]
  exact h
theorem k_wow {f : Nat → Nat} {v k : Nat} (T : s_Tv ta f) (hv : v < 4) (h5 : f (5 + v) ≠ 0) (hk : k < 20) : xk_Ev (xp_P sc) 78 0 [.ref 0, .int (Int32.ofNat v), .int (Int32.ofNat k), .retAddr 0] [] (cw sl ex ab ta dr md ml mt mc on ct r) (.inl (some (.int (Int32.ofNat (n_wo (f (5 + v)) k)))), 0, cw sl ex ab ta dr md ml mt mc on ct r) := by
  obtain ⟨c0, c1, c2, _, _, _⟩ := s_dv_col _ (T.v v hv) h5
  obtain ⟨e1, e2, e3⟩ := s_elw _ c2 c1 k hk
  have hc : s_col (ta (5 + v)) = Int32.ofNat (f (5 + v) / 4 % 8) := by rw [T.w (5 + v) (by omega) (by omega)]; exact c0
  have h := c_placeOfWord (sc := sc) (sl := sl) (ex := ex) (ab := ab) (ta := ta) (dr := dr) (md := md) (ml := ml) (mt := mt) (mc := mc) (on := on) (ct := ct) (r := r) (j := v) (x := Int32.ofNat k) hv (by rw [hc]; exact s_ne0 _ c2 c1) (by rw [hc]; exact e3)
  rw [hc] at h
  unfold n_wo
  rw [← e2]
  exact h
theorem k_lr {f : Nat → Nat} {v e : Nat} (T : s_Tv ta f) (hv : v < 4) (he : e < 5) (hb : ∀ i, ab i = 0 ∨ ab i = 1) : xk_Ev (xp_P sc) 80 0 [.ref 0, .int (Int32.ofNat v), .int (Int32.ofNat e), .retAddr 0, .retAddr 0] [] (cw sl ex ab ta dr md ml mt mc on ct r) (.inl (some (.int (if n_rda (f (9 + (v * 10 + e * 2))) ab then Int32.ofNat (v * 10 + e * 2) else if n_rda (f (9 + (v * 10 + e * 2 + 1))) ab then Int32.ofNat (v * 10 + e * 2 + 1) else -1))), 0, cw sl ex ab ta dr md ml mt mc on ct r) := by
  have h := c_leastReadableLeg (sc := sc) (sl := sl) (ex := ex) (ab := ab) (ta := ta) (dr := dr) (md := md) (ml := ml) (mt := mt) (mc := mc) (on := on) (ct := ct) (r := r) hv he hb (k_ok T)
  have k0 : s_rd ta ab (v * 10 + e * 2 + 0) ↔ _ := k_rd T (by omega)
  have k1 : s_rd ta ab (v * 10 + e * 2 + 1) ↔ _ := k_rd T (by omega)
  have e2 : s_lr ta ab (v * 10 + e * 2) 2 0 = (if n_rda (f (9 + (v * 10 + e * 2))) ab then Int32.ofNat (v * 10 + e * 2) else if n_rda (f (9 + (v * 10 + e * 2 + 1))) ab then Int32.ofNat (v * 10 + e * 2 + 1) else -1) := by
    unfold s_lr
    by_cases q : n_rda (f (9 + (v * 10 + e * 2))) ab
    · rw [if_pos (k0.2 q), if_pos q]
      rfl
    · rw [if_neg (fun z => q (k0.1 z)), if_neg q]
      unfold s_lr
      by_cases q1 : n_rda (f (9 + (v * 10 + e * 2 + 1))) ab
      · rw [if_pos (k1.2 q1), if_pos q1]
      · rw [if_neg (fun z => q1 (k1.1 z)), if_neg q1]
        rfl
  rw [e2] at h
  exact h
theorem k_sp {f : Nat → Nat} {j : Nat} (T : s_Tv ta f) (hj : j < 40) (h0 : f (9 + j) ≠ 0) : xk_Ev (xp_P sc) 34 0 [.ref 5, .int (Int32.ofNat j)] [] (cw sl ex ab ta dr md ml mt mc on ct r) (.inl (some (.int (Int32.ofNat (f (9 + j) - 1)))), 0, cw sl ex ab ta dr md ml mt mc on ct r) := by
  have h := c_spotOfN (sc := sc) (sl := sl) (ex := ex) (ab := ab) (ta := ta) (dr := dr) (md := md) (ml := ml) (mt := mt) (mc := mc) (on := on) (ct := ct) (r := r) hj
  have hl := T.l j hj
  rw [T.w (9 + j) (by omega) (by omega), show Int32.ofNat (f (9 + j)) - 1 = Int32.ofNat (f (9 + j) - 1) from xn_sub (b := 1) (by omega)] at h
  exact h
theorem k_sp0 {f : Nat → Nat} {j : Nat} (T : s_Tv ta f) (hj : j < 40) (h0 : f (9 + j) = 0) : xk_Ev (xp_P sc) 34 0 [.ref 5, .int (Int32.ofNat j)] [] (cw sl ex ab ta dr md ml mt mc on ct r) (.inl (some (.int (-1))), 0, cw sl ex ab ta dr md ml mt mc on ct r) := by
  have h := c_spotOfN (sc := sc) (sl := sl) (ex := ex) (ab := ab) (ta := ta) (dr := dr) (md := md) (ml := ml) (mt := mt) (mc := mc) (on := on) (ct := ct) (r := r) hj
  rw [T.w (9 + j) (by omega) (by omega), h0] at h
  exact h
theorem k_read_off {g m2 : Int32}  : xk_Ev (xp_P sc) 49 0 [.ref 0, .int g, .int m2, .retAddr 0] [] (cw sl ex ab ta dr md ml mt mc (0) ct r) (.inr 0, 1, cw sl ex ab ta dr md ml mt mc (0) ct r) := by
  apply xk_Ev.of
  refine xk_Po.go 1 rfl ?_
  exact xk_Po.ct1 rfl rfl (c_requirePower_t rfl) rfl rfl
theorem k_read_nv {g m2 : Int32} (hg : g < 0 ∨ Int32.ofInt 4 ≤ g) : xk_Ev (xp_P sc) 49 0 [.ref 0, .int g, .int m2, .retAddr 0] [] (cw sl ex ab ta dr md ml mt mc (1) ct r) (.inr 3, 1, cw sl ex ab ta dr md ml mt mc (1) ct r) := by
  apply xk_Ev.of
  refine xk_Po.go 1 rfl ?_
  refine xk_Po.cv1 rfl rfl (c_requirePower (show ¬ (1 : Int32) = 0 by decide)) ?_
  refine xk_Po.go 2 rfl ?_
  exact xk_Po.ct2 rfl rfl (c_requireVolume_t hg) rfl rfl
theorem k_read_uv {v : Nat} {m2 : Int32} (hv : v < 4) (hu : ta (5 + v) = 0) : xk_Ev (xp_P sc) 49 0 [.ref 0, .int (Int32.ofNat v), .int m2, .retAddr 0] [] (cw sl ex ab ta dr md ml mt mc (1) ct r) (.inr 3, 1, cw sl ex ab ta dr md ml mt mc (1) ct r) := by
  apply xk_Ev.of
  refine xk_Po.go 1 rfl ?_
  refine xk_Po.cv1 rfl rfl (c_requirePower (show ¬ (1 : Int32) = 0 by decide)) ?_
  refine xk_Po.go 2 rfl ?_
  exact xk_Po.ct2 rfl rfl (c_requireVolume_u hv hu) rfl rfl
theorem k_read_nw {v : Nat} (hv : v < 4) (hu : ¬ ta (5 + v) = 0) {f : Nat → Nat} (T : s_Tv ta f) (h5 : f (5 + v) ≠ 0) {m2 : Int32} (h : ¬ (¬ m2 < 0 ∧ m2 < Int32.ofInt 4 * Int32.ofNat (f (5 + v) / 32))) : xk_Ev (xp_P sc) 49 0 [.ref 0, .int (Int32.ofNat v), .int m2, .retAddr 0] [] (cw sl ex ab ta dr md ml mt mc (1) ct r) (.inr 4, 1, cw sl ex ab ta dr md ml mt mc (1) ct r) := by
  have e4 : ta (5 + v) / 32 * 4 = Int32.ofInt 4 * Int32.ofNat (f (5 + v) / 32) := by
    rw [T.w (5 + v) (by omega) (by omega), (s_dv_32 _ (T.v v hv)).1]
    show Int32.ofNat _ * Int32.ofNat 4 = Int32.ofNat 4 * Int32.ofNat _
    rw [xn_mul, xn_mul, Nat.mul_comm]
  apply xk_Ev.of
  refine xk_Po.go 1 rfl ?_
  refine xk_Po.cv1 rfl rfl (c_requirePower (show ¬ (1 : Int32) = 0 by decide)) ?_
  refine xk_Po.go 2 rfl ?_
  refine xk_Po.cv2 rfl rfl (c_requireVolume hv hu) ?_
  refine xk_Po.go 3 rfl ?_
  exact xk_Po.ct3 rfl rfl (c_requireWord_t hv (by rw [e4]; exact h)) rfl rfl
theorem k_write_off {g m2 : Int32} {y : Int32}  : xk_Ev (xp_P sc) 48 0 [.ref 0, .int g, .int m2, .int y, .retAddr 0, .retAddr 0, .retAddr 0, .retAddr 0, .retAddr 0] [] (cw sl ex ab ta dr md ml mt mc (0) ct r) (.inr 0, 1, cw sl ex ab ta dr md ml mt mc (0) ct r) := by
  apply xk_Ev.of
  refine xk_Po.go 1 rfl ?_
  exact xk_Po.ct1 rfl rfl (c_requirePower_t rfl) rfl rfl
theorem k_write_nv {g m2 : Int32} {y : Int32} (hg : g < 0 ∨ Int32.ofInt 4 ≤ g) : xk_Ev (xp_P sc) 48 0 [.ref 0, .int g, .int m2, .int y, .retAddr 0, .retAddr 0, .retAddr 0, .retAddr 0, .retAddr 0] [] (cw sl ex ab ta dr md ml mt mc (1) ct r) (.inr 3, 1, cw sl ex ab ta dr md ml mt mc (1) ct r) := by
  apply xk_Ev.of
  refine xk_Po.go 1 rfl ?_
  refine xk_Po.cv1 rfl rfl (c_requirePower (show ¬ (1 : Int32) = 0 by decide)) ?_
  refine xk_Po.go 2 rfl ?_
  exact xk_Po.ct2 rfl rfl (c_requireVolume_t hg) rfl rfl
theorem k_write_uv {v : Nat} {m2 : Int32} {y : Int32} (hv : v < 4) (hu : ta (5 + v) = 0) : xk_Ev (xp_P sc) 48 0 [.ref 0, .int (Int32.ofNat v), .int m2, .int y, .retAddr 0, .retAddr 0, .retAddr 0, .retAddr 0, .retAddr 0] [] (cw sl ex ab ta dr md ml mt mc (1) ct r) (.inr 3, 1, cw sl ex ab ta dr md ml mt mc (1) ct r) := by
  apply xk_Ev.of
  refine xk_Po.go 1 rfl ?_
  refine xk_Po.cv1 rfl rfl (c_requirePower (show ¬ (1 : Int32) = 0 by decide)) ?_
  refine xk_Po.go 2 rfl ?_
  exact xk_Po.ct2 rfl rfl (c_requireVolume_u hv hu) rfl rfl
theorem k_write_nw {v : Nat} (hv : v < 4) (hu : ¬ ta (5 + v) = 0) {f : Nat → Nat} (T : s_Tv ta f) (h5 : f (5 + v) ≠ 0) {m2 : Int32} {y : Int32} (h : ¬ (¬ m2 < 0 ∧ m2 < Int32.ofInt 4 * Int32.ofNat (f (5 + v) / 32))) : xk_Ev (xp_P sc) 48 0 [.ref 0, .int (Int32.ofNat v), .int m2, .int y, .retAddr 0, .retAddr 0, .retAddr 0, .retAddr 0, .retAddr 0] [] (cw sl ex ab ta dr md ml mt mc (1) ct r) (.inr 4, 1, cw sl ex ab ta dr md ml mt mc (1) ct r) := by
  have e4 : ta (5 + v) / 32 * 4 = Int32.ofInt 4 * Int32.ofNat (f (5 + v) / 32) := by
    rw [T.w (5 + v) (by omega) (by omega), (s_dv_32 _ (T.v v hv)).1]
    show Int32.ofNat _ * Int32.ofNat 4 = Int32.ofNat 4 * Int32.ofNat _
    rw [xn_mul, xn_mul, Nat.mul_comm]
  apply xk_Ev.of
  refine xk_Po.go 1 rfl ?_
  refine xk_Po.cv1 rfl rfl (c_requirePower (show ¬ (1 : Int32) = 0 by decide)) ?_
  refine xk_Po.go 2 rfl ?_
  refine xk_Po.cv2 rfl rfl (c_requireVolume hv hu) ?_
  refine xk_Po.go 3 rfl ?_
  exact xk_Po.ct3 rfl rfl (c_requireWord_t hv (by rw [e4]; exact h)) rfl rfl
theorem k_read_n {v : Nat} (hv : v < 4) (hu : ¬ ta (5 + v) = 0) {f : Nat → Nat} (T : s_Tv ta f) (h5 : f (5 + v) ≠ 0) {k : Nat} (hk : k < 20) (hk4 : k < 4 * (f (5 + v) / 32)) (hb : ∀ i, ab i = 0 ∨ ab i = 1) (h0 : ¬ n_rda (f (9 + (v * 10 + n_el (f (5 + v)) k * 2))) ab) (h1 : ¬ n_rda (f (9 + (v * 10 + n_el (f (5 + v)) k * 2 + 1))) ab) : xk_Ev (xp_P sc) 49 0 [.ref 0, .int (Int32.ofNat v), .int (Int32.ofNat k), .retAddr 0] [] (cw sl ex ab ta dr md ml mt mc (1) ct r) (.inr 2, 1, cw sl ex ab ta dr md ml mt mc (1) ct r) := by
  obtain ⟨b1, b2⟩ := s_elb _ (T.v v hv) h5 k hk hk4
  have e5 := (s_dv_32 _ (T.v v hv)).2
  have l0 := T.l (v * 10 + n_el (f (5 + v)) k * 2) (by omega)
  have l1 := T.l (v * 10 + n_el (f (5 + v)) k * 2 + 1) (by omega)
  have hw : ¬ Int32.ofNat k < 0 ∧ Int32.ofNat k < ta (5 + v) / 32 * 4 := by
    refine ⟨xn_nneg (by omega), ?_⟩
    rw [T.w (5 + v) (by omega) (by omega), (s_dv_32 _ (T.v v hv)).1]
    show _ < Int32.ofNat _ * Int32.ofNat 4
    rw [xn_mul]
    exact (xn_lt (by omega) (by omega)).2 (by omega)
  apply xk_Ev.of
  refine xk_Po.go 1 rfl ?_
  refine xk_Po.cv1 rfl rfl (c_requirePower (show ¬ (1 : Int32) = 0 by decide)) ?_
  refine xk_Po.go 2 rfl ?_
  refine xk_Po.cv2 rfl rfl (c_requireVolume hv hu) ?_
  refine xk_Po.go 3 rfl ?_
  refine xk_Po.cv3 rfl rfl (c_requireWord hv hw) ?_
  refine xk_Po.go 5 rfl ?_
  refine xk_Po.ci3 rfl rfl (k_elw T hv h5 hk) ?_
  refine xk_Po.ci3 rfl rfl (by have h := k_lr (sc := sc) (sl := sl) (ex := ex) (dr := dr) (md := md) (ml := ml) (mt := mt) (mc := mc) (on := 1) (ct := ct) (r := r) T hv (e := n_el (f (5 + v)) k) (by omega) hb; rw [if_neg h0, if_neg h1] at h; exact h) ?_
  refine xk_Po.go 4 rfl ?_
  exact xk_Po.thr rfl (rfl)
theorem k_read_a {v : Nat} (hv : v < 4) (hu : ¬ ta (5 + v) = 0) {f : Nat → Nat} (T : s_Tv ta f) (h5 : f (5 + v) ≠ 0) {k : Nat} (hk : k < 20) (hk4 : k < 4 * (f (5 + v) / 32)) (hb : ∀ i, ab i = 0 ∨ ab i = 1) (h0 : n_rda (f (9 + (v * 10 + n_el (f (5 + v)) k * 2))) ab) : xk_Ev (xp_P sc) 49 0 [.ref 0, .int (Int32.ofNat v), .int (Int32.ofNat k), .retAddr 0] [] (cw sl ex ab ta dr md ml mt mc (1) ct r) (.inl (some (.int (ex ((f (9 + (v * 10 + n_el (f (5 + v)) k * 2)) - 1) * 4 + n_wo (f (5 + v)) k)))), 0, cw sl ex ab ta dr md ml mt mc (1) ct r) := by
  obtain ⟨b1, b2⟩ := s_elb _ (T.v v hv) h5 k hk hk4
  have e5 := (s_dv_32 _ (T.v v hv)).2
  have l0 := T.l (v * 10 + n_el (f (5 + v)) k * 2) (by omega)
  have l1 := T.l (v * 10 + n_el (f (5 + v)) k * 2 + 1) (by omega)
  have hw : ¬ Int32.ofNat k < 0 ∧ Int32.ofNat k < ta (5 + v) / 32 * 4 := by
    refine ⟨xn_nneg (by omega), ?_⟩
    rw [T.w (5 + v) (by omega) (by omega), (s_dv_32 _ (T.v v hv)).1]
    show _ < Int32.ofNat _ * Int32.ofNat 4
    rw [xn_mul]
    exact (xn_lt (by omega) (by omega)).2 (by omega)
  apply xk_Ev.of
  refine xk_Po.go 1 rfl ?_
  refine xk_Po.cv1 rfl rfl (c_requirePower (show ¬ (1 : Int32) = 0 by decide)) ?_
  refine xk_Po.go 2 rfl ?_
  refine xk_Po.cv2 rfl rfl (c_requireVolume hv hu) ?_
  refine xk_Po.go 3 rfl ?_
  refine xk_Po.cv3 rfl rfl (c_requireWord hv hw) ?_
  refine xk_Po.go 5 rfl ?_
  refine xk_Po.ci3 rfl rfl (k_elw T hv h5 hk) ?_
  refine xk_Po.ci3 rfl rfl (by have h := k_lr (sc := sc) (sl := sl) (ex := ex) (dr := dr) (md := md) (ml := ml) (mt := mt) (mc := mc) (on := 1) (ct := ct) (r := r) T hv (e := n_el (f (5 + v)) k) (by omega) hb; rw [if_pos h0] at h; exact h) ?_
  refine xk_Po.go 3 rfl ?_
  refine xk_Po.br rfl rfl (fun hZ => absurd hZ (n_ne1 (by omega))) (fun _ => ?_) -- 19 .if_icmp .ne 21
  refine xk_Po.go 5 rfl ?_
  refine xk_Po.ci2 rfl rfl (k_sp T (by omega) h0.1) ?_
  refine xk_Po.go 3 rfl ?_
  refine xk_Po.ci3 rfl rfl (k_wow T hv h5 hk) ?_
  refine xk_Po.ci3 rfl rfl (c_extentWord (by omega) b2) ?_
  exact xk_Po.iret rfl (rfl)
theorem k_read_b {v : Nat} (hv : v < 4) (hu : ¬ ta (5 + v) = 0) {f : Nat → Nat} (T : s_Tv ta f) (h5 : f (5 + v) ≠ 0) {k : Nat} (hk : k < 20) (hk4 : k < 4 * (f (5 + v) / 32)) (hb : ∀ i, ab i = 0 ∨ ab i = 1) (h0 : ¬ n_rda (f (9 + (v * 10 + n_el (f (5 + v)) k * 2))) ab) (h1 : n_rda (f (9 + (v * 10 + n_el (f (5 + v)) k * 2 + 1))) ab) : xk_Ev (xp_P sc) 49 0 [.ref 0, .int (Int32.ofNat v), .int (Int32.ofNat k), .retAddr 0] [] (cw sl ex ab ta dr md ml mt mc (1) ct r) (.inl (some (.int (ex ((f (9 + (v * 10 + n_el (f (5 + v)) k * 2 + 1)) - 1) * 4 + n_wo (f (5 + v)) k)))), 0, cw sl ex ab ta dr md ml mt mc (1) ct r) := by
  obtain ⟨b1, b2⟩ := s_elb _ (T.v v hv) h5 k hk hk4
  have e5 := (s_dv_32 _ (T.v v hv)).2
  have l0 := T.l (v * 10 + n_el (f (5 + v)) k * 2) (by omega)
  have l1 := T.l (v * 10 + n_el (f (5 + v)) k * 2 + 1) (by omega)
  have hw : ¬ Int32.ofNat k < 0 ∧ Int32.ofNat k < ta (5 + v) / 32 * 4 := by
    refine ⟨xn_nneg (by omega), ?_⟩
    rw [T.w (5 + v) (by omega) (by omega), (s_dv_32 _ (T.v v hv)).1]
    show _ < Int32.ofNat _ * Int32.ofNat 4
    rw [xn_mul]
    exact (xn_lt (by omega) (by omega)).2 (by omega)
  apply xk_Ev.of
  refine xk_Po.go 1 rfl ?_
  refine xk_Po.cv1 rfl rfl (c_requirePower (show ¬ (1 : Int32) = 0 by decide)) ?_
  refine xk_Po.go 2 rfl ?_
  refine xk_Po.cv2 rfl rfl (c_requireVolume hv hu) ?_
  refine xk_Po.go 3 rfl ?_
  refine xk_Po.cv3 rfl rfl (c_requireWord hv hw) ?_
  refine xk_Po.go 5 rfl ?_
  refine xk_Po.ci3 rfl rfl (k_elw T hv h5 hk) ?_
  refine xk_Po.ci3 rfl rfl (by have h := k_lr (sc := sc) (sl := sl) (ex := ex) (dr := dr) (md := md) (ml := ml) (mt := mt) (mc := mc) (on := 1) (ct := ct) (r := r) T hv (e := n_el (f (5 + v)) k) (by omega) hb; rw [if_neg h0, if_pos h1] at h; exact h) ?_
  refine xk_Po.go 3 rfl ?_
  refine xk_Po.br rfl rfl (fun hZ => absurd hZ (n_ne1 (by omega))) (fun _ => ?_) -- 19 .if_icmp .ne 21
  refine xk_Po.go 5 rfl ?_
  refine xk_Po.ci2 rfl rfl (k_sp T (by omega) h1.1) ?_
  refine xk_Po.go 3 rfl ?_
  refine xk_Po.ci3 rfl rfl (k_wow T hv h5 hk) ?_
  refine xk_Po.ci3 rfl rfl (c_extentWord (by omega) b2) ?_
  exact xk_Po.iret rfl (rfl)
theorem k_write_n {v : Nat} (hv : v < 4) (hu : ¬ ta (5 + v) = 0) {f : Nat → Nat} (T : s_Tv ta f) (h5 : f (5 + v) ≠ 0) {k : Nat} (hk : k < 20) (hk4 : k < 4 * (f (5 + v) / 32)) (hb : ∀ i, ab i = 0 ∨ ab i = 1) {y : Int32} (h0 : ¬ n_rda (f (9 + (v * 10 + n_el (f (5 + v)) k * 2))) ab) (h1 : ¬ n_rda (f (9 + (v * 10 + n_el (f (5 + v)) k * 2 + 1))) ab) : xk_Ev (xp_P sc) 48 0 [.ref 0, .int (Int32.ofNat v), .int (Int32.ofNat k), .int y, .retAddr 0, .retAddr 0, .retAddr 0, .retAddr 0, .retAddr 0] [] (cw sl ex ab ta dr md ml mt mc (1) ct r) (.inr 2, 1, cw sl ex ab ta dr md ml mt mc (1) ct r) := by
  obtain ⟨b1, b2⟩ := s_elb _ (T.v v hv) h5 k hk hk4
  have e5 := (s_dv_32 _ (T.v v hv)).2
  have l0 := T.l (v * 10 + n_el (f (5 + v)) k * 2) (by omega)
  have l1 := T.l (v * 10 + n_el (f (5 + v)) k * 2 + 1) (by omega)
  have hw : ¬ Int32.ofNat k < 0 ∧ Int32.ofNat k < ta (5 + v) / 32 * 4 := by
    refine ⟨xn_nneg (by omega), ?_⟩
    rw [T.w (5 + v) (by omega) (by omega), (s_dv_32 _ (T.v v hv)).1]
    show _ < Int32.ofNat _ * Int32.ofNat 4
    rw [xn_mul]
    exact (xn_lt (by omega) (by omega)).2 (by omega)
  apply xk_Ev.of
  refine xk_Po.go 1 rfl ?_
  refine xk_Po.cv1 rfl rfl (c_requirePower (show ¬ (1 : Int32) = 0 by decide)) ?_
  refine xk_Po.go 2 rfl ?_
  refine xk_Po.cv2 rfl rfl (c_requireVolume hv hu) ?_
  refine xk_Po.go 3 rfl ?_
  refine xk_Po.cv3 rfl rfl (c_requireWord hv hw) ?_
  refine xk_Po.go 3 rfl ?_
  refine xk_Po.ci3 rfl rfl (k_elw T hv h5 hk) ?_
  refine xk_Po.go 4 rfl ?_
  refine xk_Po.ci3 rfl rfl (by have h := k_lr (sc := sc) (sl := sl) (ex := ex) (dr := dr) (md := md) (ml := ml) (mt := mt) (mc := mc) (on := 1) (ct := ct) (r := r) T hv (e := n_el (f (5 + v)) k) (by omega) hb; rw [if_neg h0, if_neg h1] at h; exact h) ?_
  refine xk_Po.go 2 rfl ?_
  exact xk_Po.thr rfl (rfl)
end XkKwr
