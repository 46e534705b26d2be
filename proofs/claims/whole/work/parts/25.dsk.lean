/-! The disks, the sums, the whole slots; what the calls ask first. -/
section XkDsk
variable {sc : Nat × (Nat → Int32)} {sl ex ab ta dr : Nat → Int32} {md ml mt mc on ct : Int32} {r w : xk_W}
def s_start (d s : Nat) : Nat := (d * 2 + s) * 51
theorem s_start_eq (d s : Nat) : (Int32.ofNat d * 2 + Int32.ofNat s) * 51 = Int32.ofNat (s_start d s) := by
  show (Int32.ofNat d * Int32.ofNat 2 + Int32.ofNat s) * Int32.ofNat 51 = _
  rw [xn_mul, xn_add, xn_mul]
  rfl
theorem s_leg_eq (v e l : Nat) : Int32.ofNat v * 10 + Int32.ofNat e * 2 + Int32.ofNat l = Int32.ofNat (v * 10 + e * 2 + l) := by
  show Int32.ofNat v * Int32.ofNat 10 + Int32.ofNat e * Int32.ofNat 2 + Int32.ofNat l = _
  rw [xn_mul, xn_mul, xn_add, xn_add]
theorem c_startOfSlotN {d s : Nat} : xk_Ev (xp_P sc) 2 0 [.int (Int32.ofNat d), .int (Int32.ofNat s)] [] w (.inl (some (.int (Int32.ofNat (s_start d s)))), 0, w) := by
  rw [← s_start_eq]
  exact c_startOfSlot
theorem c_legOfN {v e l : Nat} : xk_Ev (xp_P sc) 74 0 [.int (Int32.ofNat v), .int (Int32.ofNat e), .int (Int32.ofNat l)] [] w (.inl (some (.int (Int32.ofNat (v * 10 + e * 2 + l)))), 0, w) := by
  rw [← s_leg_eq]
  exact c_legOf
theorem c_sumOf {a : Nat} (ha : a + 49 ≤ 51) : xk_Ev (xp_P sc) 20 0 [.ref 6, .int (Int32.ofNat a), .retAddr 0, .retAddr 0] [] (cw sl ex ab ta dr md ml mt mc on ct r) (.inl (some (.int (s_sum ta a 49))), 0, cw sl ex ab ta dr md ml mt mc on ct r) := by
  apply xk_Ev.of
  refine xk_Po.go 4 rfl ?_
  refine xk_Po.loop 49 (fun j0 => [.ref 6, .int (Int32.ofNat a), .int (s_sum ta a j0), .int (Int32.ofNat j0)]) (fun j0 => cw sl ex ab ta dr md ml mt mc on ct r) (fun m0 j0 => _) (fun m0 j0 hj0 ih0 => ?_) ?_
  · have uj0 : j0 < 49 := by omega
    refine xk_Po.go 2 rfl ?_
    refine xk_Po.br rfl rfl (fun hx => absurd ((xn_le (a := 49) (b := j0) (by omega) (by omega)).1 hx) (by omega)) (fun _ => ?_)
    refine xk_Po.go 5 rfl ?_
    refine xk_Po.ok rfl rfl (xn_ixa (a := a) (j := j0) (by omega) (by omega)) ?_ -- .iaload
    refine xk_Po.go 8 rfl ?_
    rw [show s_sum ta a (j0 + 1) = s_sum ta a j0 + ta (Int32.ofNat a + Int32.ofNat j0).toNatClampNeg * (Int32.ofNat j0 + Int32.ofInt 1) from by rw [xn_nata (by omega)]; rfl, ← xn_suc j0] at ih0
    exact ih0
  · refine xk_Po.go 4 rfl ?_
    exact xk_Po.iret rfl rfl
theorem d_sumOf {a : Nat} (ha : a + 49 ≤ 51) : xk_Ev (xp_P sc) 20 0 [.ref 8, .int (Int32.ofNat a), .retAddr 0, .retAddr 0] [] (cw sl ex ab ta dr md ml mt mc on ct r) (.inl (some (.int (s_sum dr a 49))), 0, cw sl ex ab ta dr md ml mt mc on ct r) := by
  apply xk_Ev.of
  refine xk_Po.go 4 rfl ?_
  refine xk_Po.loop 49 (fun j0 => [.ref 8, .int (Int32.ofNat a), .int (s_sum dr a j0), .int (Int32.ofNat j0)]) (fun j0 => cw sl ex ab ta dr md ml mt mc on ct r) (fun m0 j0 => _) (fun m0 j0 hj0 ih0 => ?_) ?_
  · have uj0 : j0 < 49 := by omega
    refine xk_Po.go 2 rfl ?_
    refine xk_Po.br rfl rfl (fun hx => absurd ((xn_le (a := 49) (b := j0) (by omega) (by omega)).1 hx) (by omega)) (fun _ => ?_)
    refine xk_Po.go 5 rfl ?_
    refine xk_Po.ok rfl rfl (xn_ixa (a := a) (j := j0) (by omega) (by omega)) ?_ -- .iaload
    refine xk_Po.go 8 rfl ?_
    rw [show s_sum dr a (j0 + 1) = s_sum dr a j0 + dr (Int32.ofNat a + Int32.ofNat j0).toNatClampNeg * (Int32.ofNat j0 + Int32.ofInt 1) from by rw [xn_nata (by omega)]; rfl, ← xn_suc j0] at ih0
    exact ih0
  · refine xk_Po.go 4 rfl ?_
    exact xk_Po.iret rfl rfl
theorem l_sumOf {a : Nat} (ha : a + 49 ≤ 408) : xk_Ev (xp_P sc) 20 0 [.ref 2, .int (Int32.ofNat a), .retAddr 0, .retAddr 0] [] (cw sl ex ab ta dr md ml mt mc on ct r) (.inl (some (.int (s_sum sl a 49))), 0, cw sl ex ab ta dr md ml mt mc on ct r) := by
  apply xk_Ev.of
  refine xk_Po.go 4 rfl ?_
  refine xk_Po.loop 49 (fun j0 => [.ref 2, .int (Int32.ofNat a), .int (s_sum sl a j0), .int (Int32.ofNat j0)]) (fun j0 => cw sl ex ab ta dr md ml mt mc on ct r) (fun m0 j0 => _) (fun m0 j0 hj0 ih0 => ?_) ?_
  · have uj0 : j0 < 49 := by omega
    refine xk_Po.go 2 rfl ?_
    refine xk_Po.br rfl rfl (fun hx => absurd ((xn_le (a := 49) (b := j0) (by omega) (by omega)).1 hx) (by omega)) (fun _ => ?_)
    refine xk_Po.go 5 rfl ?_
    refine xk_Po.ok rfl rfl (xn_ixa (a := a) (j := j0) (by omega) (by omega)) ?_ -- .iaload
    refine xk_Po.go 8 rfl ?_
    rw [show s_sum sl a (j0 + 1) = s_sum sl a j0 + sl (Int32.ofNat a + Int32.ofNat j0).toNatClampNeg * (Int32.ofNat j0 + Int32.ofInt 1) from by rw [xn_nata (by omega)]; rfl, ← xn_suc j0] at ih0
    exact ih0
  · refine xk_Po.go 4 rfl ?_
    exact xk_Po.iret rfl rfl
theorem c_isAbsent0 {j : Nat} (hj : j < 4) (hb : ∀ i, ab i = 0 ∨ ab i = 1) : xk_Ev (xp_P sc) 0 0 [.ref 1, .int (Int32.ofNat j)] [] (cw sl ex ab ta dr md ml mt mc on ct r) (.inl (some (.int (ab (Int32.ofNat j).toNatClampNeg))), 0, cw sl ex ab ta dr md ml mt mc on ct r) := by
  apply xk_Ev.of
  refine xk_Po.go 3 rfl ?_
  refine xk_Po.ok rfl rfl (xn_ix (j := j) (by omega) (by omega)) ?_ -- .baload
  exact xk_Po.zret rfl (by first | decide | exact hb _) rfl
theorem c_isAbsent {j : Nat} (hj : j < 4) (hb : ∀ i, ab i = 0 ∨ ab i = 1) : xk_Ev (xp_P sc) 0 0 [.ref 1, .int (Int32.ofNat j)] [] (cw sl ex ab ta dr md ml mt mc on ct r) (.inl (some (.int (ab j))), 0, cw sl ex ab ta dr md ml mt mc on ct r) := by
  have h := c_isAbsent0 (sc := sc) (sl := sl) (ex := ex) (ab := ab) (ta := ta) (dr := dr) (md := md) (ml := ml) (mt := mt) (mc := mc) (on := on) (ct := ct) (r := r) hj hb
  simp only [xn_nat (j := j) (by omega)] at h
  exact h
theorem c_setAbsent0 {j : Nat} {x : Int32} (hj : j < 4) : xk_Ev (xp_P sc) 1 0 [.ref 1, .int (Int32.ofNat j), .int x] [] (cw sl ex ab ta dr md ml mt mc on ct r) (.inl none, 0, cw sl ex (upd ab (Int32.ofNat j).toNatClampNeg (vp_nar .boolean x)) ta dr md ml mt mc on ct r) := by
  apply xk_Ev.of
  refine xk_Po.go 4 rfl ?_
  refine xk_Po.ok rfl rfl (xn_ix (j := j) (by omega) (by omega)) ?_ -- .bastore
  exact xk_Po.ret rfl rfl
theorem c_setAbsent {j : Nat} {x : Int32} (hj : j < 4) : xk_Ev (xp_P sc) 1 0 [.ref 1, .int (Int32.ofNat j), .int x] [] (cw sl ex ab ta dr md ml mt mc on ct r) (.inl none, 0, cw sl ex (upd ab j (vp_nar .boolean x)) ta dr md ml mt mc on ct r) := by
  have h := c_setAbsent0 (sc := sc) (sl := sl) (ex := ex) (ab := ab) (ta := ta) (dr := dr) (md := md) (ml := ml) (mt := mt) (mc := mc) (on := on) (ct := ct) (r := r) (x := x) hj
  simp only [xn_nat (j := j) (by omega)] at h
  exact h
theorem c_slotWord0 {d s i : Nat} (hd : d < 4) (hs : s < 2) (hi : i < 51) : xk_Ev (xp_P sc) 3 0 [.ref 1, .int (Int32.ofNat d), .int (Int32.ofNat s), .int (Int32.ofNat i)] [] (cw sl ex ab ta dr md ml mt mc on ct r) (.inl (some (.int (sl (Int32.ofNat (s_start d s) + Int32.ofNat i).toNatClampNeg))), 0, cw sl ex ab ta dr md ml mt mc on ct r) := by
  have hz : s_start d s + 51 ≤ 408 := by
    unfold s_start
    omega
  apply xk_Ev.of
  refine xk_Po.go 4 rfl ?_
  refine xk_Po.ci2 rfl rfl (c_startOfSlotN) ?_
  refine xk_Po.go 2 rfl ?_
  refine xk_Po.ok rfl rfl (xn_ixa (by omega) (by omega)) ?_ -- .iaload
  exact xk_Po.iret rfl rfl
theorem c_slotWord {d s i : Nat} (hd : d < 4) (hs : s < 2) (hi : i < 51) : xk_Ev (xp_P sc) 3 0 [.ref 1, .int (Int32.ofNat d), .int (Int32.ofNat s), .int (Int32.ofNat i)] [] (cw sl ex ab ta dr md ml mt mc on ct r) (.inl (some (.int (sl (s_start d s + i)))), 0, cw sl ex ab ta dr md ml mt mc on ct r) := by
  have hz : s_start d s + 51 ≤ 408 := by
    unfold s_start
    omega
  have h := c_slotWord0 (sc := sc) (sl := sl) (ex := ex) (ab := ab) (ta := ta) (dr := dr) (md := md) (ml := ml) (mt := mt) (mc := mc) (on := on) (ct := ct) (r := r) hd hs hi
  simp only [xn_nata (a := s_start d s) (j := i) (by omega)] at h
  exact h
theorem c_setSlotWord0 {d s i : Nat} (hd : d < 4) (hs : s < 2) (hi : i < 51) {x : Int32} : xk_Ev (xp_P sc) 4 0 [.ref 1, .int (Int32.ofNat d), .int (Int32.ofNat s), .int (Int32.ofNat i), .int x] [] (cw sl ex ab ta dr md ml mt mc on ct r) (.inl none, 0, cw (upd sl (Int32.ofNat (s_start d s) + Int32.ofNat i).toNatClampNeg x) ex ab ta dr md ml mt mc on ct r) := by
  have hz : s_start d s + 51 ≤ 408 := by
    unfold s_start
    omega
  apply xk_Ev.of
  refine xk_Po.go 4 rfl ?_
  refine xk_Po.ci2 rfl rfl (c_startOfSlotN) ?_
  refine xk_Po.go 3 rfl ?_
  refine xk_Po.ok rfl rfl (xn_ixa (by omega) (by omega)) ?_ -- .iastore
  exact xk_Po.ret rfl rfl
theorem c_setSlotWord {d s i : Nat} (hd : d < 4) (hs : s < 2) (hi : i < 51) {x : Int32} : xk_Ev (xp_P sc) 4 0 [.ref 1, .int (Int32.ofNat d), .int (Int32.ofNat s), .int (Int32.ofNat i), .int x] [] (cw sl ex ab ta dr md ml mt mc on ct r) (.inl none, 0, cw (upd sl (s_start d s + i) x) ex ab ta dr md ml mt mc on ct r) := by
  have hz : s_start d s + 51 ≤ 408 := by
    unfold s_start
    omega
  have h := c_setSlotWord0 (sc := sc) (sl := sl) (ex := ex) (ab := ab) (ta := ta) (dr := dr) (md := md) (ml := ml) (mt := mt) (mc := mc) (on := on) (ct := ct) (r := r) hd hs hi (x := x)
  simp only [xn_nata (a := s_start d s) (j := i) (by omega)] at h
  exact h
theorem s_ext_eq (x k : Nat) : Int32.ofNat x * Int32.ofInt 4 + Int32.ofNat k = Int32.ofNat (x * 4 + k) := by
  show Int32.ofNat x * Int32.ofNat 4 + Int32.ofNat k = _
  rw [xn_mul, xn_add]
theorem s_ext_ix {x k : Nat} (hx : x < 32) (hk : k < 4) : xk_ix (Int32.ofNat x * Int32.ofInt 4 + Int32.ofNat k) 128 = true := by
  rw [s_ext_eq]
  exact xn_ix (by omega) (by omega)
theorem s_ext_nat {x k : Nat} (hx : x < 32) (hk : k < 4) : (Int32.ofNat x * Int32.ofInt 4 + Int32.ofNat k).toNatClampNeg = x * 4 + k := by
  rw [s_ext_eq]
  exact xn_nat (by omega)
theorem c_extentWord0 {x k : Nat} (hx : x < 32) (hk : k < 4) : xk_Ev (xp_P sc) 9 0 [.ref 1, .int (Int32.ofNat x), .int (Int32.ofNat k)] [] (cw sl ex ab ta dr md ml mt mc on ct r) (.inl (some (.int (ex (Int32.ofNat x * Int32.ofInt 4 + Int32.ofNat k).toNatClampNeg))), 0, cw sl ex ab ta dr md ml mt mc on ct r) := by
  apply xk_Ev.of
  refine xk_Po.go 7 rfl ?_
  refine xk_Po.ok rfl rfl (s_ext_ix hx hk) ?_ -- .iaload
  exact xk_Po.iret rfl rfl
theorem c_extentWord {x k : Nat} (hx : x < 32) (hk : k < 4) : xk_Ev (xp_P sc) 9 0 [.ref 1, .int (Int32.ofNat x), .int (Int32.ofNat k)] [] (cw sl ex ab ta dr md ml mt mc on ct r) (.inl (some (.int (ex (x * 4 + k)))), 0, cw sl ex ab ta dr md ml mt mc on ct r) := by
  have h := c_extentWord0 (sc := sc) (sl := sl) (ex := ex) (ab := ab) (ta := ta) (dr := dr) (md := md) (ml := ml) (mt := mt) (mc := mc) (on := on) (ct := ct) (r := r) hx hk
  simp only [s_ext_nat hx hk] at h
  exact h
theorem c_setExtentWord0 {x k : Nat} (hx : x < 32) (hk : k < 4) {y : Int32} : xk_Ev (xp_P sc) 10 0 [.ref 1, .int (Int32.ofNat x), .int (Int32.ofNat k), .int y] [] (cw sl ex ab ta dr md ml mt mc on ct r) (.inl none, 0, cw sl (upd ex (Int32.ofNat x * Int32.ofInt 4 + Int32.ofNat k).toNatClampNeg y) ab ta dr md ml mt mc on ct r) := by
  apply xk_Ev.of
  refine xk_Po.go 8 rfl ?_
  refine xk_Po.ok rfl rfl (s_ext_ix hx hk) ?_ -- .iastore
  exact xk_Po.ret rfl rfl
theorem c_setExtentWord {x k : Nat} (hx : x < 32) (hk : k < 4) {y : Int32} : xk_Ev (xp_P sc) 10 0 [.ref 1, .int (Int32.ofNat x), .int (Int32.ofNat k), .int y] [] (cw sl ex ab ta dr md ml mt mc on ct r) (.inl none, 0, cw sl (upd ex (x * 4 + k) y) ab ta dr md ml mt mc on ct r) := by
  have h := c_setExtentWord0 (sc := sc) (sl := sl) (ex := ex) (ab := ab) (ta := ta) (dr := dr) (md := md) (ml := ml) (mt := mt) (mc := mc) (on := on) (ct := ct) (r := r) hx hk (y := y)
  simp only [s_ext_nat hx hk] at h
  exact h
theorem c_requirePower (h : ¬ on = 0) : xk_Ev (xp_P sc) 62 0 [.ref 0] [] (cw sl ex ab ta dr md ml mt mc on ct r) (.inl none, 0, cw sl ex ab ta dr md ml mt mc on ct r) := by
  apply xk_Ev.of
  refine xk_Po.go 2 rfl ?_
  refine xk_Po.br rfl rfl (fun h0 => ?_) (fun h0 => ?_) -- 2 .ifCond .ne 4
  · exact xk_Po.thr rfl (absurd h0 h)
  · exact xk_Po.ret rfl rfl
theorem c_requirePower_t (h : on = 0) : xk_Ev (xp_P sc) 62 0 [.ref 0] [] (cw sl ex ab ta dr md ml mt mc on ct r) (.inr 0, 1, cw sl ex ab ta dr md ml mt mc on ct r) := by
  apply xk_Ev.of
  refine xk_Po.go 2 rfl ?_
  refine xk_Po.br rfl rfl (fun h0 => ?_) (fun h0 => ?_) -- 2 .ifCond .ne 4
  · exact xk_Po.thr rfl rfl
  · exact xk_Po.ret rfl (absurd h h0)
theorem c_requireNoPower (h : on = 0) : xk_Ev (xp_P sc) 63 0 [.ref 0] [] (cw sl ex ab ta dr md ml mt mc on ct r) (.inl none, 0, cw sl ex ab ta dr md ml mt mc on ct r) := by
  apply xk_Ev.of
  refine xk_Po.go 2 rfl ?_
  refine xk_Po.br rfl rfl (fun h0 => ?_) (fun h0 => ?_) -- 2 .ifCond .eq 4
  · exact xk_Po.ret rfl rfl
  · exact xk_Po.thr rfl (absurd h h0)
theorem c_requireNoPower_t (h : ¬ on = 0) : xk_Ev (xp_P sc) 63 0 [.ref 0] [] (cw sl ex ab ta dr md ml mt mc on ct r) (.inr 0, 1, cw sl ex ab ta dr md ml mt mc on ct r) := by
  apply xk_Ev.of
  refine xk_Po.go 2 rfl ?_
  refine xk_Po.br rfl rfl (fun h0 => ?_) (fun h0 => ?_) -- 2 .ifCond .eq 4
  · exact xk_Po.ret rfl (absurd h0 h)
  · exact xk_Po.thr rfl rfl
theorem c_isDisk {g : Int32} : xk_Ev (xp_P sc) 64 0 [.int g] [] (w) (.inl (some (.int (s_b (¬ g < 0 ∧ ¬ Int32.ofInt 4 ≤ g)))), 0, w) := by
  apply xk_Ev.of
  refine xk_Po.go 1 rfl ?_
  refine xk_Po.br rfl rfl (fun h0 => ?_) (fun h0 => ?_) -- 1 .ifCond .lt 7
  · refine xk_Po.go 1 rfl ?_
    exact xk_Po.zret rfl (by first | decide | exact hb _) (congrArg (fun z => ((.inl (some (.int z)), 0, _) : xk_R)) (xn_bf (fun h => h.1 h0)).symm)
  · refine xk_Po.go 2 rfl ?_
    refine xk_Po.br rfl rfl (fun h1 => ?_) (fun h1 => ?_) -- 4 .if_icmp .ge 7
    · refine xk_Po.go 1 rfl ?_
      exact xk_Po.zret rfl (by first | decide | exact hb _) (congrArg (fun z => ((.inl (some (.int z)), 0, _) : xk_R)) (xn_bf (fun h => h.2 h1)).symm)
    · refine xk_Po.go 2 rfl ?_
      exact xk_Po.zret rfl (by first | decide | exact hb _) (congrArg (fun z => ((.inl (some (.int z)), 0, _) : xk_R)) (xn_bt (⟨h0, h1⟩)).symm)
theorem c_requireDisk {g : Int32} (h : ¬ g < 0 ∧ ¬ Int32.ofInt 4 ≤ g) : xk_Ev (xp_P sc) 65 0 [.int g] [] (w) (.inl none, 0, w) := by
  apply xk_Ev.of
  refine xk_Po.go 1 rfl ?_
  refine xk_Po.ci1 rfl rfl (c_isDisk) ?_
  refine xk_Po.br rfl rfl (fun h0 => ?_) (fun h0 => ?_) -- 2 .ifCond .ne 4
  · exact xk_Po.thr rfl (absurd h (xn_b0 h0))
  · exact xk_Po.ret rfl rfl
theorem c_requireDisk_t {g : Int32} (h : ¬ (¬ g < 0 ∧ ¬ Int32.ofInt 4 ≤ g)) : xk_Ev (xp_P sc) 65 0 [.int g] [] (w) (.inr 1, 1, w) := by
  apply xk_Ev.of
  refine xk_Po.go 1 rfl ?_
  refine xk_Po.ci1 rfl rfl (c_isDisk) ?_
  refine xk_Po.br rfl rfl (fun h0 => ?_) (fun h0 => ?_) -- 2 .ifCond .ne 4
  · exact xk_Po.thr rfl rfl
  · exact xk_Po.ret rfl (absurd (xn_b1 h0) h)
theorem c_requireListed {j : Nat} (hj : j < 4) (h : ¬ ta (1 + j) = 0) : xk_Ev (xp_P sc) 66 0 [.ref 0, .int (Int32.ofNat j)] [] (cw sl ex ab ta dr md ml mt mc on ct r) (.inl none, 0, cw sl ex ab ta dr md ml mt mc on ct r) := by
  apply xk_Ev.of
  refine xk_Po.go 3 rfl ?_
  refine xk_Po.ci2 rfl rfl (c_lists hj) ?_
  refine xk_Po.br rfl rfl (fun h0 => ?_) (fun h0 => ?_) -- 4 .ifCond .ne 6
  · exact xk_Po.thr rfl (absurd h (xn_b0 h0))
  · exact xk_Po.ret rfl rfl
theorem c_requireListed_t {j : Nat} (hj : j < 4) (h : ta (1 + j) = 0) : xk_Ev (xp_P sc) 66 0 [.ref 0, .int (Int32.ofNat j)] [] (cw sl ex ab ta dr md ml mt mc on ct r) (.inr 2, 1, cw sl ex ab ta dr md ml mt mc on ct r) := by
  apply xk_Ev.of
  refine xk_Po.go 3 rfl ?_
  refine xk_Po.ci2 rfl rfl (c_lists hj) ?_
  refine xk_Po.br rfl rfl (fun h0 => ?_) (fun h0 => ?_) -- 4 .ifCond .ne 6
  · exact xk_Po.thr rfl rfl
  · exact xk_Po.ret rfl (absurd h (xn_b1 h0))
theorem c_isAnyListedAbsent (hb : ∀ i, ab i = 0 ∨ ab i = 1) : xk_Ev (xp_P sc) 70 0 [.ref 0, .retAddr 0] [] (cw sl ex ab ta dr md ml mt mc on ct r) (.inl (some (.int (s_any (fun j => ¬ ta (1 + j) = 0 ∧ ¬ ab j = 0) 4 0))), 0, cw sl ex ab ta dr md ml mt mc on ct r) := by
  apply xk_Ev.of
  refine xk_Po.go 2 rfl ?_
  refine xk_Po.loop 4 (fun j0 => [.ref 0, .int (Int32.ofNat j0)]) (fun j0 => cw sl ex ab ta dr md ml mt mc on ct r) (fun m0 j0 => fun z => z = (.inl (some (.int (s_any (fun j => ¬ ta (1 + j) = 0 ∧ ¬ ab j = 0) m0 j0))), 0, cw sl ex ab ta dr md ml mt mc on ct r)) (fun m0 j0 hj0 ih0 => ?_) ?_
  · have uj0 : j0 < 4 := by omega
    refine xk_Po.go 2 rfl ?_
    refine xk_Po.br rfl rfl (fun hx => absurd ((xn_le (a := 4) (b := j0) (by omega) (by omega)).1 hx) (by omega)) (fun _ => ?_)
    refine xk_Po.go 3 rfl ?_
    refine xk_Po.ci2 rfl rfl (c_lists (by omega)) ?_
    refine xk_Po.br rfl rfl (fun h0 => ?_) (fun h0 => ?_) -- 9 .ifCond .eq 17
    · refine xk_Po.go 2 rfl ?_
      rw [← show s_any (fun j => ¬ ta (1 + j) = 0 ∧ ¬ ab j = 0) (m0 + 1) j0 = s_any (fun j => ¬ ta (1 + j) = 0 ∧ ¬ ab j = 0) m0 (j0 + 1) from if_neg (fun h => xn_b0 h0 h.1), ← xn_suc j0] at ih0
      exact ih0
    · refine xk_Po.go 3 rfl ?_
      refine xk_Po.ci2 rfl rfl (c_isAbsent (by omega) hb) ?_
      refine xk_Po.br rfl rfl (fun h1 => ?_) (fun h1 => ?_) -- 14 .ifCond .eq 17
      · refine xk_Po.go 2 rfl ?_
        rw [← show s_any (fun j => ¬ ta (1 + j) = 0 ∧ ¬ ab j = 0) (m0 + 1) j0 = s_any (fun j => ¬ ta (1 + j) = 0 ∧ ¬ ab j = 0) m0 (j0 + 1) from if_neg (fun h => h.2 h1), ← xn_suc j0] at ih0
        exact ih0
      · refine xk_Po.go 1 rfl ?_
        exact xk_Po.zret rfl (by first | decide | exact hb _) (congrArg (fun z => ((.inl (some (.int z)), 0, _) : xk_R)) (if_pos (⟨xn_b1 h0, h1⟩ : ¬ ta (1 + j0) = 0 ∧ ¬ ab j0 = 0)).symm)
  · refine xk_Po.go 4 rfl ?_
    exact xk_Po.zret rfl (by first | decide | exact hb _) rfl
theorem c_isListedAndPresent {j : Nat} (hj : j < 4) (hb : ∀ i, ab i = 0 ∨ ab i = 1) : xk_Ev (xp_P sc) 87 0 [.ref 0, .ref 5, .int (Int32.ofNat j)] [] (cw sl ex ab ta dr md ml mt mc on ct r) (.inl (some (.int (s_b (¬ ta (1 + j) = 0 ∧ ab j = 0)))), 0, cw sl ex ab ta dr md ml mt mc on ct r) := by
  apply xk_Ev.of
  refine xk_Po.go 2 rfl ?_
  refine xk_Po.ci2 rfl rfl (c_lists hj) ?_
  refine xk_Po.br rfl rfl (fun h0 => ?_) (fun h0 => ?_) -- 3 .ifCond .eq 11
  · refine xk_Po.go 1 rfl ?_
    exact xk_Po.zret rfl (by first | decide | exact hb _) (congrArg (fun z => ((.inl (some (.int z)), 0, _) : xk_R)) (xn_bf (fun h => xn_b0 h0 h.1)).symm)
  · refine xk_Po.go 3 rfl ?_
    refine xk_Po.ci2 rfl rfl (c_isAbsent hj hb) ?_
    refine xk_Po.br rfl rfl (fun h1 => ?_) (fun h1 => ?_) -- 8 .ifCond .ne 11
    · refine xk_Po.go 2 rfl ?_
      exact xk_Po.zret rfl (by first | decide | exact hb _) (congrArg (fun z => ((.inl (some (.int z)), 0, _) : xk_R)) (xn_bt (⟨xn_b1 h0, h1⟩)).symm)
    · refine xk_Po.go 1 rfl ?_
      exact xk_Po.zret rfl (by first | decide | exact hb _) (congrArg (fun z => ((.inl (some (.int z)), 0, _) : xk_R)) (xn_bf (fun h => h1 h.2)).symm)
theorem d_isListedAndPresent {j : Nat} (hj : j < 4) (hb : ∀ i, ab i = 0 ∨ ab i = 1) : xk_Ev (xp_P sc) 87 0 [.ref 0, .ref 7, .int (Int32.ofNat j)] [] (cw sl ex ab ta dr md ml mt mc on ct r) (.inl (some (.int (s_b (¬ dr (1 + j) = 0 ∧ ab j = 0)))), 0, cw sl ex ab ta dr md ml mt mc on ct r) := by
  apply xk_Ev.of
  refine xk_Po.go 2 rfl ?_
  refine xk_Po.ci2 rfl rfl (d_lists hj) ?_
  refine xk_Po.br rfl rfl (fun h0 => ?_) (fun h0 => ?_) -- 3 .ifCond .eq 11
  · refine xk_Po.go 1 rfl ?_
    exact xk_Po.zret rfl (by first | decide | exact hb _) (congrArg (fun z => ((.inl (some (.int z)), 0, _) : xk_R)) (xn_bf (fun h => xn_b0 h0 h.1)).symm)
  · refine xk_Po.go 3 rfl ?_
    refine xk_Po.ci2 rfl rfl (c_isAbsent hj hb) ?_
    refine xk_Po.br rfl rfl (fun h1 => ?_) (fun h1 => ?_) -- 8 .ifCond .ne 11
    · refine xk_Po.go 2 rfl ?_
      exact xk_Po.zret rfl (by first | decide | exact hb _) (congrArg (fun z => ((.inl (some (.int z)), 0, _) : xk_R)) (xn_bt (⟨xn_b1 h0, h1⟩)).symm)
    · refine xk_Po.go 1 rfl ?_
      exact xk_Po.zret rfl (by first | decide | exact hb _) (congrArg (fun z => ((.inl (some (.int z)), 0, _) : xk_R)) (xn_bf (fun h => h1 h.2)).symm)
theorem c_isAnyListedPresent (hb : ∀ i, ab i = 0 ∨ ab i = 1) : xk_Ev (xp_P sc) 71 0 [.ref 0, .retAddr 0] [] (cw sl ex ab ta dr md ml mt mc on ct r) (.inl (some (.int (s_any (fun j => ¬ ta (1 + j) = 0 ∧ ab j = 0) 4 0))), 0, cw sl ex ab ta dr md ml mt mc on ct r) := by
  apply xk_Ev.of
  refine xk_Po.go 2 rfl ?_
  refine xk_Po.loop 4 (fun j0 => [.ref 0, .int (Int32.ofNat j0)]) (fun j0 => cw sl ex ab ta dr md ml mt mc on ct r) (fun m0 j0 => fun z => z = (.inl (some (.int (s_any (fun j => ¬ ta (1 + j) = 0 ∧ ab j = 0) m0 j0))), 0, cw sl ex ab ta dr md ml mt mc on ct r)) (fun m0 j0 hj0 ih0 => ?_) ?_
  · have uj0 : j0 < 4 := by omega
    refine xk_Po.go 2 rfl ?_
    refine xk_Po.br rfl rfl (fun hx => absurd ((xn_le (a := 4) (b := j0) (by omega) (by omega)).1 hx) (by omega)) (fun _ => ?_)
    refine xk_Po.go 4 rfl ?_
    refine xk_Po.ci3 rfl rfl (c_isListedAndPresent (by omega) hb) ?_
    refine xk_Po.br rfl rfl (fun h0 => ?_) (fun h0 => ?_) -- 10 .ifCond .eq 13
    · refine xk_Po.go 2 rfl ?_
      rw [← show s_any (fun j => ¬ ta (1 + j) = 0 ∧ ab j = 0) (m0 + 1) j0 = s_any (fun j => ¬ ta (1 + j) = 0 ∧ ab j = 0) m0 (j0 + 1) from if_neg (xn_b0 h0), ← xn_suc j0] at ih0
      exact ih0
    · refine xk_Po.go 1 rfl ?_
      exact xk_Po.zret rfl (by first | decide | exact hb _) (congrArg (fun z => ((.inl (some (.int z)), 0, _) : xk_R)) (if_pos (xn_b1 h0)).symm)
  · refine xk_Po.go 4 rfl ?_
    exact xk_Po.zret rfl (by first | decide | exact hb _) rfl

def s_ws (f : Nat → Int32) (a : Nat) : Int32 := if f (a + 50) = f a then (if f (a + 49) = s_sum f a 49 then (if f a ≤ 0 then 0 else f a) else 0) else 0
theorem c_wholeSerial0 {d s : Nat} (hd : d < 4) (hs : s < 2) : xk_Ev (xp_P sc) 5 0 [.ref 1, .int (Int32.ofNat d), .int (Int32.ofNat s), .retAddr 0, .retAddr 0, .retAddr 0] [] (cw sl ex ab ta dr md ml mt mc on ct r) (.inl (some (.int (if sl (Int32.ofNat (s_start d s) + Int32.ofNat 50).toNatClampNeg = sl (Int32.ofNat (s_start d s)).toNatClampNeg then (if sl (Int32.ofNat (s_start d s) + Int32.ofNat 49).toNatClampNeg = s_sum sl (s_start d s) 49 then (if sl (Int32.ofNat (s_start d s)).toNatClampNeg ≤ 0 then 0 else sl (Int32.ofNat (s_start d s)).toNatClampNeg) else 0) else 0))), 0, cw sl ex ab ta dr md ml mt mc on ct r) := by
  have hz : s_start d s + 51 ≤ 408 := by
    unfold s_start
    omega
  apply xk_Ev.of
  refine xk_Po.go 2 rfl ?_
  refine xk_Po.ci2 rfl rfl (c_startOfSlotN) ?_
  refine xk_Po.go 4 rfl ?_
  refine xk_Po.ok rfl rfl (xn_ix (by omega) (by omega)) ?_ -- .iaload
  refine xk_Po.go 6 rfl ?_
  refine xk_Po.ok rfl rfl (xn_ixa (j := 50) (by omega) (by omega)) ?_ -- .iaload
  refine xk_Po.go 1 rfl ?_
  refine xk_Po.br rfl rfl (fun h0 => ?_) (fun h0 => ?_) -- 16 .if_icmp .ne 30
  · refine xk_Po.go 5 rfl ?_
    refine xk_Po.ok rfl rfl (xn_ixa (j := 49) (by omega) (by omega)) ?_ -- .iaload
    refine xk_Po.go 3 rfl ?_
    refine xk_Po.ci2 rfl rfl (l_sumOf (by omega)) ?_
    refine xk_Po.br rfl rfl (fun h1 => ?_) (fun h1 => ?_) -- 27 .if_icmp .ne 30
    · refine xk_Po.go 6 rfl ?_
      refine xk_Po.br rfl rfl (fun h2 => ?_) (fun h2 => ?_) -- 35 .ifCond .le 38
      · refine xk_Po.go 1 rfl ?_
        exact xk_Po.iret rfl (congrArg (fun z => ((.inl (some (.int z)), 0, _) : xk_R)) ((if_pos h0).trans ((if_pos h1).trans (if_pos h2))).symm)
      · refine xk_Po.go 2 rfl ?_
        exact xk_Po.iret rfl (congrArg (fun z => ((.inl (some (.int z)), 0, _) : xk_R)) ((if_pos h0).trans ((if_pos h1).trans (if_neg h2))).symm)
    · refine xk_Po.go 5 rfl ?_
      exact xk_Po.iret rfl (congrArg (fun z => ((.inl (some (.int z)), 0, _) : xk_R)) ((if_pos h0).trans (if_neg h1)).symm)
  · refine xk_Po.go 5 rfl ?_
    exact xk_Po.iret rfl (congrArg (fun z => ((.inl (some (.int z)), 0, _) : xk_R)) (if_neg h0).symm)
theorem c_wholeSerial {d s : Nat} (hd : d < 4) (hs : s < 2) : xk_Ev (xp_P sc) 5 0 [.ref 1, .int (Int32.ofNat d), .int (Int32.ofNat s), .retAddr 0, .retAddr 0, .retAddr 0] [] (cw sl ex ab ta dr md ml mt mc on ct r) (.inl (some (.int (s_ws sl (s_start d s)))), 0, cw sl ex ab ta dr md ml mt mc on ct r) := by
  have hz : s_start d s + 51 ≤ 408 := by
    unfold s_start
    omega
  have h := c_wholeSerial0 (sc := sc) (sl := sl) (ex := ex) (ab := ab) (ta := ta) (dr := dr) (md := md) (ml := ml) (mt := mt) (mc := mc) (on := on) (ct := ct) (r := r) hd hs
  simp only [xn_nata (a := s_start d s) (j := 50) (by omega), xn_nata (a := s_start d s) (j := 49) (by omega), xn_nat (j := s_start d s) (by omega)] at h
  exact h
theorem c_slotToWrite {d : Nat} (hd : d < 4) : xk_Ev (xp_P sc) 7 0 [.ref 1, .int (Int32.ofNat d)] [] (cw sl ex ab ta dr md ml mt mc on ct r) (.inl (some (.int (if s_ws sl (s_start d 1) < s_ws sl (s_start d 0) then 1 else 0))), 0, cw sl ex ab ta dr md ml mt mc on ct r) := by
  apply xk_Ev.of
  refine xk_Po.go 3 rfl ?_
  refine xk_Po.ci3 rfl rfl (c_wholeSerial (s := 0) hd (by omega)) ?_
  refine xk_Po.go 3 rfl ?_
  refine xk_Po.ci3 rfl rfl (c_wholeSerial (s := 1) hd (by omega)) ?_
  refine xk_Po.br rfl rfl (fun h0 => ?_) (fun h0 => ?_) -- 8 .if_icmp .gt 11
  · refine xk_Po.go 1 rfl ?_
    exact xk_Po.iret rfl (congrArg (fun z => ((.inl (some (.int z)), 0, _) : xk_R)) (if_pos h0).symm)
  · refine xk_Po.go 2 rfl ?_
    exact xk_Po.iret rfl (congrArg (fun z => ((.inl (some (.int z)), 0, _) : xk_R)) (if_neg h0).symm)
theorem c_hasWhole {d : Nat} {x : Int32} (hd : d < 4) : xk_Ev (xp_P sc) 6 0 [.ref 1, .int (Int32.ofNat d), .int x] [] (cw sl ex ab ta dr md ml mt mc on ct r) (.inl (some (.int (s_b (s_ws sl (s_start d 0) = x ∨ s_ws sl (s_start d 1) = x)))), 0, cw sl ex ab ta dr md ml mt mc on ct r) := by
  apply xk_Ev.of
  refine xk_Po.go 3 rfl ?_
  refine xk_Po.ci3 rfl rfl (c_wholeSerial (s := 0) hd (by omega)) ?_
  refine xk_Po.go 1 rfl ?_
  refine xk_Po.br rfl rfl (fun h0 => ?_) (fun h0 => ?_) -- 5 .if_icmp .eq 12
  · refine xk_Po.go 2 rfl ?_
    exact xk_Po.zret rfl (by first | decide | exact hb _) (congrArg (fun z => ((.inl (some (.int z)), 0, _) : xk_R)) (xn_bt (.inl h0)).symm)
  · refine xk_Po.go 3 rfl ?_
    refine xk_Po.ci3 rfl rfl (c_wholeSerial (s := 1) hd (by omega)) ?_
    refine xk_Po.go 1 rfl ?_
    refine xk_Po.br rfl rfl (fun h1 => ?_) (fun h1 => ?_) -- 11 .if_icmp .ne 14
    · refine xk_Po.go 2 rfl ?_
      exact xk_Po.zret rfl (by first | decide | exact hb _) (congrArg (fun z => ((.inl (some (.int z)), 0, _) : xk_R)) (xn_bt (.inr h1)).symm)
    · refine xk_Po.go 1 rfl ?_
      exact xk_Po.zret rfl (by first | decide | exact hb _) (congrArg (fun z => ((.inl (some (.int z)), 0, _) : xk_R)) (xn_bf (fun h => h.elim h0 h1)).symm)
end XkDsk
