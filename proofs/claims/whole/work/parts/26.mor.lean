/-! More of the class's methods that write no word. -/
section XkMor
variable {sc : Nat × (Nat → Int32)} {sl ex ab ta dr : Nat → Int32} {md ml mt mc on ct : Int32} {r w : xk_W}
def s_col (x : Int32) : Int32 := if 1 < x % 32 / 4 then x % 32 / 4 else 1
abbrev s_rd (t ab : Nat → Int32) (j : Nat) : Prop := ¬ t (9 + j) - 1 = Int32.ofInt (-1) ∧ ab (s_disk (t (9 + j) - 1)).toNatClampNeg = 0
def s_lr (t ab : Nat → Int32) (b : Nat) : Nat → Nat → Int32
  | 0, _ => -1
  | m + 1, l => if s_rd t ab (b + l) then Int32.ofNat (b + l) else s_lr t ab b m (l + 1)
def s_nwI (sl ab : Nat → Int32) (d : Nat) : Nat → Int32 × Int32 → Int32 × Int32
  | 0, a => a
  | s + 1, a => if ab d = 0 then (if s_ws sl (s_start d s) ≤ (s_nwI sl ab d s a).2 then s_nwI sl ab d s a else (Int32.ofNat (s_start d s), s_ws sl (s_start d s))) else s_nwI sl ab d s a
def s_nwO (sl ab : Nat → Int32) : Nat → Int32 × Int32
  | 0 => (-1, 0)
  | d + 1 => s_nwI sl ab d 2 (s_nwO sl ab d)
theorem s_cpy (f g : Nat → Int32) (hf : ∀ i, 51 ≤ i → f i = 0) (hg : ∀ i, 51 ≤ i → g i = 0) : va_cpy f g 0 0 51 = f := by
  funext i
  unfold va_cpy
  by_cases h : i < 51
  · rw [if_pos ⟨by omega, by omega⟩]
    exact congrArg f (by omega)
  · rw [if_neg (by omega), hf i (by omega), hg i (by omega)]
theorem c_columnsOf0 {j : Nat} (hj : j < 4) : xk_Ev (xp_P sc) 30 0 [.ref 5, .int (Int32.ofNat j)] [] (cw sl ex ab ta dr md ml mt mc on ct r) (.inl (some (.int (s_col (ta (Int32.ofNat 5 + Int32.ofNat j).toNatClampNeg)))), 0, cw sl ex ab ta dr md ml mt mc on ct r) := by
  apply xk_Ev.of
  refine xk_Po.go 6 rfl ?_
  refine xk_Po.ok rfl rfl (xn_ixa (a := 5) (j := j) (n := 51) (by omega) (by omega)) ?_ -- .iaload
  refine xk_Po.go 5 rfl ?_
  exact xk_Po.iret rfl rfl
theorem c_columnsOf {j : Nat} (hj : j < 4) : xk_Ev (xp_P sc) 30 0 [.ref 5, .int (Int32.ofNat j)] [] (cw sl ex ab ta dr md ml mt mc on ct r) (.inl (some (.int (s_col (ta (5 + j))))), 0, cw sl ex ab ta dr md ml mt mc on ct r) := by
  have h := c_columnsOf0 (sc := sc) (sl := sl) (ex := ex) (ab := ab) (ta := ta) (dr := dr) (md := md) (ml := ml) (mt := mt) (mc := mc) (on := on) (ct := ct) (r := r) hj
  simp only [xn_nata (a := 5) (j := j) (by omega)] at h
  exact h
theorem c_describe0 {j : Nat} {a b c : Int32} (hj : j < 4) : xk_Ev (xp_P sc) 28 0 [.ref 5, .int (Int32.ofNat j), .int a, .int b, .int c] [] (cw sl ex ab ta dr md ml mt mc on ct r) (.inl none, 0, cw sl ex ab (upd ta (Int32.ofNat 5 + Int32.ofNat j).toNatClampNeg (1 + a + 4 * b + 32 * c)) dr md ml mt mc on ct r) := by
  apply xk_Ev.of
  refine xk_Po.go 16 rfl ?_
  refine xk_Po.ok rfl rfl (xn_ixa (a := 5) (j := j) (n := 51) (by omega) (by omega)) ?_ -- .iastore
  exact xk_Po.ret rfl rfl
theorem c_describe {j : Nat} {a b c : Int32} (hj : j < 4) : xk_Ev (xp_P sc) 28 0 [.ref 5, .int (Int32.ofNat j), .int a, .int b, .int c] [] (cw sl ex ab ta dr md ml mt mc on ct r) (.inl none, 0, cw sl ex ab (upd ta (5 + j) (1 + a + 4 * b + 32 * c)) dr md ml mt mc on ct r) := by
  have h := c_describe0 (sc := sc) (sl := sl) (ex := ex) (ab := ab) (ta := ta) (dr := dr) (md := md) (ml := ml) (mt := mt) (mc := mc) (on := on) (ct := ct) (r := r) (a := a) (b := b) (c := c) hj
  simp only [xn_nata (a := 5) (j := j) (by omega)] at h
  exact h
theorem c_seal {x : Int32} : xk_Ev (xp_P sc) 19 0 [.ref 5, .int x] [] (cw sl ex ab ta dr md ml mt mc on ct r) (.inl none, 0, cw sl ex ab (upd (upd (upd ta 0 x) 49 (s_sum (upd ta 0 x) 0 49)) 50 x) dr md ml mt mc on ct r) := by
  apply xk_Ev.of
  refine xk_Po.go 11 rfl ?_
  refine xk_Po.ci2 rfl rfl (c_sumOf (a := 0) (by omega)) ?_
  refine xk_Po.go 6 rfl ?_
  exact xk_Po.ret rfl rfl
theorem c_countFree {d : Nat} (hd : d < 4) : xk_Ev (xp_P sc) 90 0 [.ref 0, .ref 5, .int (Int32.ofNat d)] [] (cw sl ex ab ta dr md ml mt mc on ct r) (.inl (some (.int (ta (1 + d) - s_cnt (fun j => s_disk (ta (9 + j) - 1) = Int32.ofNat d) 40 - (if s_disk mt = Int32.ofNat d then 1 else 0)))), 0, cw sl ex ab ta dr md ml mt mc on ct r) := by
  apply xk_Ev.of
  refine xk_Po.go 2 rfl ?_
  refine xk_Po.ci2 rfl rfl (c_extentsOfN hd) ?_
  refine xk_Po.go 2 rfl ?_
  refine xk_Po.ci2 rfl rfl (c_legsOn) ?_
  refine xk_Po.go 4 rfl ?_
  refine xk_Po.ci1 rfl rfl (c_diskOf) ?_
  refine xk_Po.go 1 rfl ?_
  refine xk_Po.br rfl rfl (fun h0 => ?_) (fun h0 => ?_) -- 12 .if_icmp .ne 15
  · refine xk_Po.go 3 rfl ?_
    exact xk_Po.iret rfl (by rw [if_pos h0]; rfl)
  · refine xk_Po.go 2 rfl ?_
    exact xk_Po.iret rfl (by rw [if_neg h0]; rfl)
theorem c_clear0  : xk_Ev (xp_P sc) 18 0 [.ref 5, .retAddr 0] [] (cw sl ex ab ta dr md ml mt mc on ct r) (.inl none, 0, cw sl ex ab (s_clr ta (fun _ => True) 0 51) dr md ml mt mc on ct r) := by
  apply xk_Ev.of
  refine xk_Po.go 2 rfl ?_
  refine xk_Po.loop 51 (fun j0 => [.ref 5, .int (Int32.ofNat j0)]) (fun j0 => cw sl ex ab (s_clr ta (fun _ => True) 0 j0) dr md ml mt mc on ct r) (fun m0 j0 => _) (fun m0 j0 hj0 ih0 => ?_) ?_
  · have uj0 : j0 < 51 := by omega
    refine xk_Po.go 2 rfl ?_
    refine xk_Po.br rfl rfl (fun hx => absurd ((xn_le (a := 51) (b := j0) (by omega) (by omega)).1 hx) (by omega)) (fun _ => ?_)
    refine xk_Po.go 4 rfl ?_
    refine xk_Po.ok rfl rfl (xn_ix (j := j0) (by omega) (by omega)) ?_ -- .iastore
    refine xk_Po.go 2 rfl ?_
    rw [show s_clr ta (fun _ => True) 0 (j0 + 1) = upd (s_clr ta (fun _ => True) 0 j0) (Int32.ofNat j0).toNatClampNeg (Int32.ofInt 0) from by rw [xn_nat (by omega)]; show upd (s_clr ta (fun _ => True) 0 j0) (0 + j0) 0 = _; rw [Nat.zero_add]; rfl, ← xn_suc j0] at ih0
    exact ih0
  · refine xk_Po.go 3 rfl ?_
    exact xk_Po.ret rfl rfl
theorem d_columnsOf0 {j : Nat} (hj : j < 4) : xk_Ev (xp_P sc) 30 0 [.ref 7, .int (Int32.ofNat j)] [] (cw sl ex ab ta dr md ml mt mc on ct r) (.inl (some (.int (s_col (dr (Int32.ofNat 5 + Int32.ofNat j).toNatClampNeg)))), 0, cw sl ex ab ta dr md ml mt mc on ct r) := by
  apply xk_Ev.of
  refine xk_Po.go 6 rfl ?_
  refine xk_Po.ok rfl rfl (xn_ixa (a := 5) (j := j) (n := 51) (by omega) (by omega)) ?_ -- .iaload
  refine xk_Po.go 5 rfl ?_
  exact xk_Po.iret rfl rfl
theorem d_columnsOf {j : Nat} (hj : j < 4) : xk_Ev (xp_P sc) 30 0 [.ref 7, .int (Int32.ofNat j)] [] (cw sl ex ab ta dr md ml mt mc on ct r) (.inl (some (.int (s_col (dr (5 + j))))), 0, cw sl ex ab ta dr md ml mt mc on ct r) := by
  have h := d_columnsOf0 (sc := sc) (sl := sl) (ex := ex) (ab := ab) (ta := ta) (dr := dr) (md := md) (ml := ml) (mt := mt) (mc := mc) (on := on) (ct := ct) (r := r) hj
  simp only [xn_nata (a := 5) (j := j) (by omega)] at h
  exact h
theorem d_describe0 {j : Nat} {a b c : Int32} (hj : j < 4) : xk_Ev (xp_P sc) 28 0 [.ref 7, .int (Int32.ofNat j), .int a, .int b, .int c] [] (cw sl ex ab ta dr md ml mt mc on ct r) (.inl none, 0, cw sl ex ab ta (upd dr (Int32.ofNat 5 + Int32.ofNat j).toNatClampNeg (1 + a + 4 * b + 32 * c)) md ml mt mc on ct r) := by
  apply xk_Ev.of
  refine xk_Po.go 16 rfl ?_
  refine xk_Po.ok rfl rfl (xn_ixa (a := 5) (j := j) (n := 51) (by omega) (by omega)) ?_ -- .iastore
  exact xk_Po.ret rfl rfl
theorem d_describe {j : Nat} {a b c : Int32} (hj : j < 4) : xk_Ev (xp_P sc) 28 0 [.ref 7, .int (Int32.ofNat j), .int a, .int b, .int c] [] (cw sl ex ab ta dr md ml mt mc on ct r) (.inl none, 0, cw sl ex ab ta (upd dr (5 + j) (1 + a + 4 * b + 32 * c)) md ml mt mc on ct r) := by
  have h := d_describe0 (sc := sc) (sl := sl) (ex := ex) (ab := ab) (ta := ta) (dr := dr) (md := md) (ml := ml) (mt := mt) (mc := mc) (on := on) (ct := ct) (r := r) (a := a) (b := b) (c := c) hj
  simp only [xn_nata (a := 5) (j := j) (by omega)] at h
  exact h
theorem d_seal {x : Int32} : xk_Ev (xp_P sc) 19 0 [.ref 7, .int x] [] (cw sl ex ab ta dr md ml mt mc on ct r) (.inl none, 0, cw sl ex ab ta (upd (upd (upd dr 0 x) 49 (s_sum (upd dr 0 x) 0 49)) 50 x) md ml mt mc on ct r) := by
  apply xk_Ev.of
  refine xk_Po.go 11 rfl ?_
  refine xk_Po.ci2 rfl rfl (d_sumOf (a := 0) (by omega)) ?_
  refine xk_Po.go 6 rfl ?_
  exact xk_Po.ret rfl rfl
theorem d_countFree {d : Nat} (hd : d < 4) : xk_Ev (xp_P sc) 90 0 [.ref 0, .ref 7, .int (Int32.ofNat d)] [] (cw sl ex ab ta dr md ml mt mc on ct r) (.inl (some (.int (dr (1 + d) - s_cnt (fun j => s_disk (dr (9 + j) - 1) = Int32.ofNat d) 40 - (if s_disk mt = Int32.ofNat d then 1 else 0)))), 0, cw sl ex ab ta dr md ml mt mc on ct r) := by
  apply xk_Ev.of
  refine xk_Po.go 2 rfl ?_
  refine xk_Po.ci2 rfl rfl (d_extentsOfN hd) ?_
  refine xk_Po.go 2 rfl ?_
  refine xk_Po.ci2 rfl rfl (d_legsOn) ?_
  refine xk_Po.go 4 rfl ?_
  refine xk_Po.ci1 rfl rfl (c_diskOf) ?_
  refine xk_Po.go 1 rfl ?_
  refine xk_Po.br rfl rfl (fun h0 => ?_) (fun h0 => ?_) -- 12 .if_icmp .ne 15
  · refine xk_Po.go 3 rfl ?_
    exact xk_Po.iret rfl (by rw [if_pos h0]; rfl)
  · refine xk_Po.go 2 rfl ?_
    exact xk_Po.iret rfl (by rw [if_neg h0]; rfl)
theorem d_clear0  : xk_Ev (xp_P sc) 18 0 [.ref 7, .retAddr 0] [] (cw sl ex ab ta dr md ml mt mc on ct r) (.inl none, 0, cw sl ex ab ta (s_clr dr (fun _ => True) 0 51) md ml mt mc on ct r) := by
  apply xk_Ev.of
  refine xk_Po.go 2 rfl ?_
  refine xk_Po.loop 51 (fun j0 => [.ref 7, .int (Int32.ofNat j0)]) (fun j0 => cw sl ex ab ta (s_clr dr (fun _ => True) 0 j0) md ml mt mc on ct r) (fun m0 j0 => _) (fun m0 j0 hj0 ih0 => ?_) ?_
  · have uj0 : j0 < 51 := by omega
    refine xk_Po.go 2 rfl ?_
    refine xk_Po.br rfl rfl (fun hx => absurd ((xn_le (a := 51) (b := j0) (by omega) (by omega)).1 hx) (by omega)) (fun _ => ?_)
    refine xk_Po.go 4 rfl ?_
    refine xk_Po.ok rfl rfl (xn_ix (j := j0) (by omega) (by omega)) ?_ -- .iastore
    refine xk_Po.go 2 rfl ?_
    rw [show s_clr dr (fun _ => True) 0 (j0 + 1) = upd (s_clr dr (fun _ => True) 0 j0) (Int32.ofNat j0).toNatClampNeg (Int32.ofInt 0) from by rw [xn_nat (by omega)]; show upd (s_clr dr (fun _ => True) 0 j0) (0 + j0) 0 = _; rw [Nat.zero_add]; rfl, ← xn_suc j0] at ih0
    exact ih0
  · refine xk_Po.go 3 rfl ?_
    exact xk_Po.ret rfl rfl
theorem c_newestWholeSlot (hb : ∀ i, ab i = 0 ∨ ab i = 1) : xk_Ev (xp_P sc) 8 0 [.ref 1, .retAddr 0, .retAddr 0, .retAddr 0, .retAddr 0, .retAddr 0] [] (cw sl ex ab ta dr md ml mt mc on ct r) (.inl (some (.int ((s_nwO sl ab 4).1))), 0, cw sl ex ab ta dr md ml mt mc on ct r) := by
  apply xk_Ev.of
  refine xk_Po.go 6 rfl ?_
  refine xk_Po.loopJ 4 (fun j0 x y => [.ref 1, .int (s_nwO sl ab j0).1, .int (s_nwO sl ab j0).2, .int (Int32.ofNat j0), x, y]) (fun j0 => cw sl ex ab ta dr md ml mt mc on ct r) (fun m0 j0 => _) (fun m0 j0 x y hj0 ih0 => ?_) (fun x y => ?_) (.retAddr 0) (.retAddr 0)
  · have uj0 : j0 < 4 := by omega
    refine xk_Po.go 2 rfl ?_
    refine xk_Po.br rfl rfl (fun hx => absurd ((xn_le (a := 4) (b := j0) (by omega) (by omega)).1 hx) (by omega)) (fun _ => ?_)
    refine xk_Po.go 2 rfl ?_
    refine xk_Po.loopJ 2 (fun j1 x y => [.ref 1, .int (s_nwI sl ab j0 j1 (s_nwO sl ab j0)).1, .int (s_nwI sl ab j0 j1 (s_nwO sl ab j0)).2, .int (Int32.ofNat j0), .int (Int32.ofNat j1), x]) (fun j1 => cw sl ex ab ta dr md ml mt mc on ct r) (fun m1 j1 => _) (fun m1 j1 x y hj1 ih1 => ?_) (fun x y => ?_) y (.retAddr 0)
    · have uj1 : j1 < 2 := by omega
      refine xk_Po.go 2 rfl ?_
      refine xk_Po.br rfl rfl (fun hx => absurd ((xn_le (a := 2) (b := j1) (by omega) (by omega)).1 hx) (by omega)) (fun _ => ?_)
      refine xk_Po.go 3 rfl ?_
      refine xk_Po.ci3 rfl rfl (c_wholeSerial (by omega) (by omega)) ?_
      refine xk_Po.go 3 rfl ?_
      refine xk_Po.ci2 rfl rfl (c_isAbsent (by omega) hb) ?_
      refine xk_Po.br rfl rfl (fun h0 => ?_) (fun h0 => ?_) -- 22 .ifCond .ne 32
      · refine xk_Po.go 2 rfl ?_
        refine xk_Po.br rfl rfl (fun h1 => ?_) (fun h1 => ?_) -- 25 .if_icmp .le 32
        · refine xk_Po.go 2 rfl ?_
          rw [show s_nwI sl ab j0 (j1 + 1) (s_nwO sl ab j0) = s_nwI sl ab j0 j1 (s_nwO sl ab j0) from (if_pos h0).trans (if_pos h1), ← xn_suc j1] at ih1
          exact ih1 _ y
        · refine xk_Po.go 2 rfl ?_
          refine xk_Po.ci2 rfl rfl (c_startOfSlotN) ?_
          refine xk_Po.go 5 rfl ?_
          rw [show s_nwI sl ab j0 (j1 + 1) (s_nwO sl ab j0) = (Int32.ofNat (s_start j0 j1), s_ws sl (s_start j0 j1)) from (if_pos h0).trans (if_neg h1), ← xn_suc j1] at ih1
          exact ih1 _ y
      · refine xk_Po.go 2 rfl ?_
        rw [show s_nwI sl ab j0 (j1 + 1) (s_nwO sl ab j0) = s_nwI sl ab j0 j1 (s_nwO sl ab j0) from if_neg h0, ← xn_suc j1] at ih1
        exact ih1 _ y
    · refine xk_Po.go 5 rfl ?_
      rw [show s_nwO sl ab (j0 + 1) = s_nwI sl ab j0 2 (s_nwO sl ab j0) from rfl, ← xn_suc j0] at ih0
      exact ih0 _ _
  · refine xk_Po.go 4 rfl ?_
    exact xk_Po.iret rfl rfl
theorem c_hasCopied {g x : Int32} : xk_Ev (xp_P sc) 16 0 [.ref 9, .int g, .int x] [] (cw sl ex ab ta dr md ml mt mc on ct r) (.inl (some (.int (s_b (ml = g ∧ ¬ mc ≤ x)))), 0, cw sl ex ab ta dr md ml mt mc on ct r) := by
  apply xk_Ev.of
  refine xk_Po.go 3 rfl ?_
  refine xk_Po.br rfl rfl (fun h0 => ?_) (fun h0 => ?_) -- 3 .if_icmp .ne 10
  · refine xk_Po.go 3 rfl ?_
    refine xk_Po.br rfl rfl (fun h1 => ?_) (fun h1 => ?_) -- 7 .if_icmp .ge 10
    · refine xk_Po.go 1 rfl ?_
      exact xk_Po.zret rfl (by first | decide | exact hb _) (congrArg (fun z => ((.inl (some (.int z)), 0, _) : xk_R)) (xn_bf (fun h => h.2 h1)).symm)
    · refine xk_Po.go 2 rfl ?_
      exact xk_Po.zret rfl (by first | decide | exact hb _) (congrArg (fun z => ((.inl (some (.int z)), 0, _) : xk_R)) (xn_bt (⟨h0, h1⟩)).symm)
  · refine xk_Po.go 1 rfl ?_
    exact xk_Po.zret rfl (by first | decide | exact hb _) (congrArg (fun z => ((.inl (some (.int z)), 0, _) : xk_R)) (xn_bf (fun h => h0 h.1)).symm)
theorem c_isAbsentI {g : Int32} (hg : ∃ d, d < 4 ∧ g = Int32.ofNat d) (hb : ∀ i, ab i = 0 ∨ ab i = 1) : xk_Ev (xp_P sc) 0 0 [.ref 1, .int g] [] (cw sl ex ab ta dr md ml mt mc on ct r) (.inl (some (.int (ab g.toNatClampNeg))), 0, cw sl ex ab ta dr md ml mt mc on ct r) := by
  obtain ⟨d, hd, rfl⟩ := hg
  exact c_isAbsent0 hd hb
theorem c_isReadable {j : Nat} (hj : j < 40) (hb : ∀ i, ab i = 0 ∨ ab i = 1) (ok : ∀ j, j < 40 → ¬ ta (9 + j) - 1 = Int32.ofInt (-1) → ∃ d, d < 4 ∧ s_disk (ta (9 + j) - 1) = Int32.ofNat d) : xk_Ev (xp_P sc) 79 0 [.ref 0, .int (Int32.ofNat j), .retAddr 0] [] (cw sl ex ab ta dr md ml mt mc on ct r) (.inl (some (.int (s_b (s_rd ta ab j)))), 0, cw sl ex ab ta dr md ml mt mc on ct r) := by
  apply xk_Ev.of
  refine xk_Po.go 3 rfl ?_
  refine xk_Po.ci2 rfl rfl (c_spotOfN hj) ?_
  refine xk_Po.go 3 rfl ?_
  refine xk_Po.br rfl rfl (fun h0 => ?_) (fun h0 => ?_) -- 7 .if_icmp .eq 16
  · refine xk_Po.go 1 rfl ?_
    exact xk_Po.zret rfl (by first | decide | exact hb _) (congrArg (fun z => ((.inl (some (.int z)), 0, _) : xk_R)) (xn_bf (fun h => h.1 h0)).symm)
  · refine xk_Po.go 3 rfl ?_
    refine xk_Po.ci1 rfl rfl (c_diskOf) ?_
    refine xk_Po.ci2 rfl rfl (c_isAbsentI (ok j hj h0) hb) ?_
    refine xk_Po.br rfl rfl (fun h1 => ?_) (fun h1 => ?_) -- 13 .ifCond .ne 16
    · refine xk_Po.go 2 rfl ?_
      exact xk_Po.zret rfl (by first | decide | exact hb _) (congrArg (fun z => ((.inl (some (.int z)), 0, _) : xk_R)) (xn_bt (⟨h0, h1⟩)).symm)
    · refine xk_Po.go 1 rfl ?_
      exact xk_Po.zret rfl (by first | decide | exact hb _) (congrArg (fun z => ((.inl (some (.int z)), 0, _) : xk_R)) (xn_bf (fun h => h1 h.2)).symm)
theorem c_leastReadableLeg {v e : Nat} (hv : v < 4) (he : e < 5) (hb : ∀ i, ab i = 0 ∨ ab i = 1) (ok : ∀ j, j < 40 → ¬ ta (9 + j) - 1 = Int32.ofInt (-1) → ∃ d, d < 4 ∧ s_disk (ta (9 + j) - 1) = Int32.ofNat d) : xk_Ev (xp_P sc) 80 0 [.ref 0, .int (Int32.ofNat v), .int (Int32.ofNat e), .retAddr 0, .retAddr 0] [] (cw sl ex ab ta dr md ml mt mc on ct r) (.inl (some (.int (s_lr ta ab (v * 10 + e * 2) 2 0))), 0, cw sl ex ab ta dr md ml mt mc on ct r) := by
  apply xk_Ev.of
  refine xk_Po.go 2 rfl ?_
  refine xk_Po.loopJ 2 (fun j0 x y => [.ref 0, .int (Int32.ofNat v), .int (Int32.ofNat e), .int (Int32.ofNat j0), x]) (fun j0 => cw sl ex ab ta dr md ml mt mc on ct r) (fun m0 j0 => fun z => z = (.inl (some (.int (s_lr ta ab (v * 10 + e * 2) m0 j0))), 0, cw sl ex ab ta dr md ml mt mc on ct r)) (fun m0 j0 x y hj0 ih0 => ?_) (fun x y => ?_) (.retAddr 0) (.retAddr 0)
  · have uj0 : j0 < 2 := by omega
    refine xk_Po.go 2 rfl ?_
    refine xk_Po.br rfl rfl (fun hx => absurd ((xn_le (a := 2) (b := j0) (by omega) (by omega)).1 hx) (by omega)) (fun _ => ?_)
    refine xk_Po.go 3 rfl ?_
    refine xk_Po.ci3 rfl rfl (c_legOfN) ?_
    refine xk_Po.go 3 rfl ?_
    refine xk_Po.ci2 rfl rfl (c_isReadable (by omega) hb ok) ?_
    refine xk_Po.br rfl rfl (fun h0 => ?_) (fun h0 => ?_) -- 13 .ifCond .eq 16
    · refine xk_Po.go 2 rfl ?_
      rw [← show s_lr ta ab (v * 10 + e * 2) (m0 + 1) j0 = s_lr ta ab (v * 10 + e * 2) m0 (j0 + 1) from if_neg (xn_b0 h0), ← xn_suc j0] at ih0
      exact ih0 _ y
    · refine xk_Po.go 1 rfl ?_
      exact xk_Po.iret rfl (congrArg (fun z => ((.inl (some (.int z)), 0, _) : xk_R)) (if_pos (xn_b1 h0)).symm)
  · refine xk_Po.go 4 rfl ?_
    exact xk_Po.iret rfl rfl
theorem c_lostLeg {v e : Nat} (hv : v < 4) (he : e < 5) : xk_Ev (xp_P sc) 100 0 [.ref 0, .int (Int32.ofNat v), .int (Int32.ofNat e), .retAddr 0, .retAddr 0] [] (cw sl ex ab ta dr md ml mt mc on ct r) (.inl (some (.int (if ta (9 + (v * 10 + e * 2 + 0)) - 1 = Int32.ofInt (-1) then (if ta (9 + (v * 10 + e * 2 + 1)) - 1 = Int32.ofInt (-1) then -1 else 0) else (if ta (9 + (v * 10 + e * 2 + 1)) - 1 = Int32.ofInt (-1) then 1 else -1)))), 0, cw sl ex ab ta dr md ml mt mc on ct r) := by
  apply xk_Ev.of
  refine xk_Po.go 5 rfl ?_
  refine xk_Po.ci3 rfl rfl (c_legOfN (l := 0)) ?_
  refine xk_Po.ci2 rfl rfl (c_spotOfN (by omega)) ?_
  refine xk_Po.go 1 rfl ?_
  refine xk_Po.br rfl rfl (fun h0 => ?_) (fun h0 => ?_) -- 8 .if_icmp .eq 11
  · refine xk_Po.go 7 rfl ?_
    refine xk_Po.ci3 rfl rfl (c_legOfN (l := 1)) ?_
    refine xk_Po.ci2 rfl rfl (c_spotOfN (by omega)) ?_
    refine xk_Po.go 1 rfl ?_
    refine xk_Po.br rfl rfl (fun h1 => ?_) (fun h1 => ?_) -- 21 .if_icmp .eq 24
    · refine xk_Po.go 6 rfl ?_
      exact xk_Po.iret rfl (congrArg (fun z => ((.inl (some (.int z)), 0, _) : xk_R)) ((if_pos h0).trans (if_pos h1)).symm)
    · refine xk_Po.go 9 rfl ?_
      exact xk_Po.iret rfl (congrArg (fun z => ((.inl (some (.int z)), 0, _) : xk_R)) ((if_pos h0).trans (if_neg h1)).symm)
  · refine xk_Po.go 8 rfl ?_
    refine xk_Po.ci3 rfl rfl (c_legOfN (l := 1)) ?_
    refine xk_Po.ci2 rfl rfl (c_spotOfN (by omega)) ?_
    refine xk_Po.go 1 rfl ?_
    refine xk_Po.br rfl rfl (fun h1 => ?_) (fun h1 => ?_) -- 21 .if_icmp .eq 24
    · refine xk_Po.go 9 rfl ?_
      exact xk_Po.iret rfl (congrArg (fun z => ((.inl (some (.int z)), 0, _) : xk_R)) ((if_neg h0).trans (if_pos h1)).symm)
    · refine xk_Po.go 7 rfl ?_
      exact xk_Po.iret rfl (congrArg (fun z => ((.inl (some (.int z)), 0, _) : xk_R)) ((if_neg h0).trans (if_neg h1)).symm)
theorem c_mayHave {c n : Int32} : xk_Ev (xp_P sc) 73 0 [.int c, .int n] [] (w) (.inl (some (.int (s_b (¬ n < Int32.ofInt 1 ∧ ¬ Int32.ofInt 5 < n ∧ ¬ c < Int32.ofInt 1 ∧ n % c = 0)))), 0, w) := by
  apply xk_Ev.of
  refine xk_Po.go 2 rfl ?_
  refine xk_Po.br rfl rfl (fun h0 => ?_) (fun h0 => ?_) -- 2 .if_icmp .lt 15
  · refine xk_Po.go 1 rfl ?_
    exact xk_Po.zret rfl (by first | decide | exact hb _) (congrArg (fun z => ((.inl (some (.int z)), 0, _) : xk_R)) (xn_bf (fun h => h.1 h0)).symm)
  · refine xk_Po.go 2 rfl ?_
    refine xk_Po.br rfl rfl (fun h1 => ?_) (fun h1 => ?_) -- 5 .if_icmp .gt 15
    · refine xk_Po.go 1 rfl ?_
      exact xk_Po.zret rfl (by first | decide | exact hb _) (congrArg (fun z => ((.inl (some (.int z)), 0, _) : xk_R)) (xn_bf (fun h => h.2.1 h1)).symm)
    · refine xk_Po.go 2 rfl ?_
      refine xk_Po.br rfl rfl (fun h2 => ?_) (fun h2 => ?_) -- 8 .if_icmp .lt 15
      · refine xk_Po.go 1 rfl ?_
        exact xk_Po.zret rfl (by first | decide | exact hb _) (congrArg (fun z => ((.inl (some (.int z)), 0, _) : xk_R)) (xn_bf (fun h => h.2.2.1 h2)).symm)
      · refine xk_Po.go 2 rfl ?_
        refine xk_Po.no rfl rfl (fun e => h2 (by rw [e]; decide)) ?_ -- .irem
        refine xk_Po.br rfl rfl (fun h3 => ?_) (fun h3 => ?_) -- 12 .ifCond .ne 15
        · refine xk_Po.go 2 rfl ?_
          exact xk_Po.zret rfl (by first | decide | exact hb _) (congrArg (fun z => ((.inl (some (.int z)), 0, _) : xk_R)) (xn_bt (⟨h0, h1, h2, h3⟩)).symm)
        · refine xk_Po.go 1 rfl ?_
          exact xk_Po.zret rfl (by first | decide | exact hb _) (congrArg (fun z => ((.inl (some (.int z)), 0, _) : xk_R)) (xn_bf (fun h => h3 h.2.2.2)).symm)
theorem c_isShape {k c : Int32} : xk_Ev (xp_P sc) 72 0 [.int k, .int c] [] (w) (.inl (some (.int (s_b ((k = Int32.ofInt 1 ∧ (c = Int32.ofInt 2 ∨ c = Int32.ofInt 3)) ∨ (¬ k = Int32.ofInt 1 ∧ (k = 0 ∨ k = Int32.ofInt 2) ∧ c = Int32.ofInt 1))))), 0, w) := by
  apply xk_Ev.of
  refine xk_Po.go 2 rfl ?_
  refine xk_Po.br rfl rfl (fun h0 => ?_) (fun h0 => ?_) -- 2 .if_icmp .ne 13
  · refine xk_Po.go 2 rfl ?_
    refine xk_Po.br rfl rfl (fun h1 => ?_) (fun h1 => ?_) -- 5 .if_icmp .eq 9
    · refine xk_Po.go 2 rfl ?_
      exact xk_Po.zret rfl (by first | decide | exact hb _) (congrArg (fun z => ((.inl (some (.int z)), 0, _) : xk_R)) (xn_bt (.inl ⟨h0, .inl h1⟩)).symm)
    · refine xk_Po.go 2 rfl ?_
      refine xk_Po.br rfl rfl (fun h2 => ?_) (fun h2 => ?_) -- 8 .if_icmp .ne 11
      · refine xk_Po.go 2 rfl ?_
        exact xk_Po.zret rfl (by first | decide | exact hb _) (congrArg (fun z => ((.inl (some (.int z)), 0, _) : xk_R)) (xn_bt (.inl ⟨h0, .inr h2⟩)).symm)
      · refine xk_Po.go 1 rfl ?_
        exact xk_Po.zret rfl (by first | decide | exact hb _) (congrArg (fun z => ((.inl (some (.int z)), 0, _) : xk_R)) (xn_bf (fun h => h.elim (fun q => q.2.elim h1 h2) (fun q => q.1 h0))).symm)
  · refine xk_Po.go 1 rfl ?_
    refine xk_Po.br rfl rfl (fun h1 => ?_) (fun h1 => ?_) -- 14 .ifCond .eq 18
    · refine xk_Po.go 2 rfl ?_
      refine xk_Po.br rfl rfl (fun h2 => ?_) (fun h2 => ?_) -- 20 .if_icmp .ne 23
      · refine xk_Po.go 2 rfl ?_
        exact xk_Po.zret rfl (by first | decide | exact hb _) (congrArg (fun z => ((.inl (some (.int z)), 0, _) : xk_R)) (xn_bt (.inr ⟨h0, .inl h1, h2⟩)).symm)
      · refine xk_Po.go 1 rfl ?_
        exact xk_Po.zret rfl (by first | decide | exact hb _) (congrArg (fun z => ((.inl (some (.int z)), 0, _) : xk_R)) (xn_bf (fun h => h.elim (fun q => h0 q.1) (fun q => h2 q.2.2))).symm)
    · refine xk_Po.go 2 rfl ?_
      refine xk_Po.br rfl rfl (fun h2 => ?_) (fun h2 => ?_) -- 17 .if_icmp .ne 23
      · refine xk_Po.go 2 rfl ?_
        refine xk_Po.br rfl rfl (fun h3 => ?_) (fun h3 => ?_) -- 20 .if_icmp .ne 23
        · refine xk_Po.go 2 rfl ?_
          exact xk_Po.zret rfl (by first | decide | exact hb _) (congrArg (fun z => ((.inl (some (.int z)), 0, _) : xk_R)) (xn_bt (.inr ⟨h0, .inr h2, h3⟩)).symm)
        · refine xk_Po.go 1 rfl ?_
          exact xk_Po.zret rfl (by first | decide | exact hb _) (congrArg (fun z => ((.inl (some (.int z)), 0, _) : xk_R)) (xn_bf (fun h => h.elim (fun q => h0 q.1) (fun q => h3 q.2.2))).symm)
      · refine xk_Po.go 1 rfl ?_
        exact xk_Po.zret rfl (by first | decide | exact hb _) (congrArg (fun z => ((.inl (some (.int z)), 0, _) : xk_R)) (xn_bf (fun h => h.elim (fun q => h0 q.1) (fun q => q.2.1.elim h1 h2))).symm)
theorem c_countWords {j : Nat} (hj : j < 4) : xk_Ev (xp_P sc) 76 0 [.ref 0, .int (Int32.ofNat j)] [] (cw sl ex ab ta dr md ml mt mc on ct r) (.inl (some (.int (ta (5 + j) / 32 * 4))), 0, cw sl ex ab ta dr md ml mt mc on ct r) := by
  apply xk_Ev.of
  refine xk_Po.go 3 rfl ?_
  refine xk_Po.ci2 rfl rfl (c_elementsOfN hj) ?_
  refine xk_Po.go 2 rfl ?_
  exact xk_Po.iret rfl rfl
theorem c_elementOfWord {j : Nat} {x : Int32} (hj : j < 4) (h1 : ¬ s_col (ta (5 + j)) = 0) (h4 : ¬ Int32.ofInt 4 * s_col (ta (5 + j)) = 0) : xk_Ev (xp_P sc) 77 0 [.ref 0, .int (Int32.ofNat j), .int x, .retAddr 0] [] (cw sl ex ab ta dr md ml mt mc on ct r) (.inl (some (.int (s_col (ta (5 + j)) * (x / (4 * s_col (ta (5 + j)))) + x % s_col (ta (5 + j))))), 0, cw sl ex ab ta dr md ml mt mc on ct r) := by
  apply xk_Ev.of
  refine xk_Po.go 3 rfl ?_
  refine xk_Po.ci2 rfl rfl (c_columnsOf hj) ?_
  refine xk_Po.go 6 rfl ?_
  refine xk_Po.no rfl rfl (h4) ?_ -- .idiv
  refine xk_Po.go 3 rfl ?_
  refine xk_Po.no rfl rfl (h1) ?_ -- .irem
  refine xk_Po.go 1 rfl ?_
  exact xk_Po.iret rfl rfl
theorem c_placeOfWord {j : Nat} {x : Int32} (hj : j < 4) (h1 : ¬ s_col (ta (5 + j)) = 0) (h4 : ¬ Int32.ofInt 4 * s_col (ta (5 + j)) = 0) : xk_Ev (xp_P sc) 78 0 [.ref 0, .int (Int32.ofNat j), .int x, .retAddr 0] [] (cw sl ex ab ta dr md ml mt mc on ct r) (.inl (some (.int (x % (4 * s_col (ta (5 + j))) / s_col (ta (5 + j))))), 0, cw sl ex ab ta dr md ml mt mc on ct r) := by
  apply xk_Ev.of
  refine xk_Po.go 3 rfl ?_
  refine xk_Po.ci2 rfl rfl (c_columnsOf hj) ?_
  refine xk_Po.go 5 rfl ?_
  refine xk_Po.no rfl rfl (h4) ?_ -- .irem
  refine xk_Po.go 1 rfl ?_
  refine xk_Po.no rfl rfl (h1) ?_ -- .idiv
  exact xk_Po.iret rfl rfl
theorem c_requireListedPresent (hb : ∀ i, ab i = 0 ∨ ab i = 1) (h : s_any (fun j => ¬ ta (1 + j) = 0 ∧ ¬ ab j = 0) 4 0 = 0) : xk_Ev (xp_P sc) 67 0 [.ref 0] [] (cw sl ex ab ta dr md ml mt mc on ct r) (.inl none, 0, cw sl ex ab ta dr md ml mt mc on ct r) := by
  apply xk_Ev.of
  refine xk_Po.go 1 rfl ?_
  refine xk_Po.ci1 rfl rfl (c_isAnyListedAbsent hb) ?_
  refine xk_Po.br rfl rfl (fun h0 => ?_) (fun h0 => ?_) -- 2 .ifCond .eq 4
  · exact xk_Po.ret rfl rfl
  · exact xk_Po.thr rfl (absurd h h0)
theorem c_requireListedPresent_t (hb : ∀ i, ab i = 0 ∨ ab i = 1) (h : ¬ s_any (fun j => ¬ ta (1 + j) = 0 ∧ ¬ ab j = 0) 4 0 = 0) : xk_Ev (xp_P sc) 67 0 [.ref 0] [] (cw sl ex ab ta dr md ml mt mc on ct r) (.inr 2, 1, cw sl ex ab ta dr md ml mt mc on ct r) := by
  apply xk_Ev.of
  refine xk_Po.go 1 rfl ?_
  refine xk_Po.ci1 rfl rfl (c_isAnyListedAbsent hb) ?_
  refine xk_Po.br rfl rfl (fun h0 => ?_) (fun h0 => ?_) -- 2 .ifCond .eq 4
  · exact xk_Po.ret rfl (absurd h0 h)
  · exact xk_Po.thr rfl rfl
end XkMor
