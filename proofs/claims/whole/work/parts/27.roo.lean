/-! Drafts, volumes that are asked for, room. -/
section XkRoo
variable {sc : Nat × (Nat → Int32)} {sl ex ab ta dr : Nat → Int32} {md ml mt mc on ct : Int32} {r w : xk_W}
theorem xn_nneg {j : Nat} (h : j < 2147483648) : ¬ Int32.ofNat j < 0 := fun q => by
  have := (xn_lt (b := 0) h (by omega)).1 q
  omega
def s_bit (g : Int32) : Int32 := if g = Int32.ofInt (-1) then 0 else 1 <<< (g / 8 &&& 31)
def s_dol (t : Nat → Int32) (ml mt : Int32) (j : Nat) : Int32 := if ml = Int32.ofNat j then s_bit (t (9 + j) - 1) ||| s_bit mt else s_bit (t (9 + j) - 1)
def s_gI (t : Nat → Int32) (ml mt : Int32) (v i e l : Nat) : Nat → Int32 → Int32
  | 0, a => a
  | k + 1, a => if Int32.ofNat i = Int32.ofNat e then (if Int32.ofNat k = Int32.ofNat l then s_gI t ml mt v i e l k a else s_gI t ml mt v i e l k a ||| s_dol t ml mt (v * 10 + i * 2 + k)) else s_gI t ml mt v i e l k a ||| s_dol t ml mt (v * 10 + i * 2 + k)
def s_gO (t : Nat → Int32) (ml mt : Int32) (v e l f : Nat) : Nat → Int32
  | 0 => 0
  | n + 1 => s_gI t ml mt v (f + n) e l 2 (s_gO t ml mt v e l f n)
theorem s_first : ∀ e, e < 5 → ∀ c, c < 4 → 1 ≤ c → Int32.ofNat e - Int32.ofNat e % Int32.ofNat c = Int32.ofNat (e - e % c) := by decide
theorem s_ne0 : ∀ c, c < 4 → 1 ≤ c → ¬ Int32.ofNat c = 0 := by decide
def s_lfs (t : Nat → Int32) (mt : Int32) (b : Nat) : Nat → Nat → Int32
  | 0, _ => -1
  | m + 1, j => if Int32.ofNat (b + j) = mt then s_lfs t mt b m (j + 1) else if s_any (fun i => t (9 + i) - 1 = Int32.ofNat (b + j)) 40 0 = 0 then Int32.ofNat (b + j) else s_lfs t mt b m (j + 1)
theorem d_takeC  : xk_Ev (xp_P sc) 17 0 [.ref 7, .ref 6, .int (Int32.ofInt 0)] [] (cw sl ex ab ta dr md ml mt mc on ct r) (.inl none, 0, cw sl ex ab ta (va_cpy ta dr 0 0 51) md ml mt mc on ct r) := by
  apply xk_Ev.of
  refine xk_Po.go 7 rfl ?_
  exact xk_Po.ret rfl rfl
theorem c_takeD  : xk_Ev (xp_P sc) 17 0 [.ref 5, .ref 8, .int (Int32.ofInt 0)] [] (cw sl ex ab ta dr md ml mt mc on ct r) (.inl none, 0, cw sl ex ab (va_cpy dr ta 0 0 51) dr md ml mt mc on ct r) := by
  apply xk_Ev.of
  refine xk_Po.go 7 rfl ?_
  exact xk_Po.ret rfl rfl
theorem c_takeS0 {a : Nat} (ha : a + 51 ≤ 408) : xk_Ev (xp_P sc) 17 0 [.ref 5, .ref 2, .int (Int32.ofNat a)] [] (cw sl ex ab ta dr md ml mt mc on ct r) (.inl none, 0, cw sl ex ab (va_cpy sl ta (Int32.ofNat a).toNatClampNeg 0 51) dr md ml mt mc on ct r) := by
  apply xk_Ev.of
  refine xk_Po.go 6 rfl ?_
  refine xk_Po.ok rfl rfl (⟨by decide, (xn_le (a := 0) (b := a) (by omega) (by omega)).2 (by omega), by decide, by decide, by rw [xn_nat (by omega)]; exact ha, by decide⟩) ?_ -- .invokedynamic 1
  exact xk_Po.ret rfl rfl
theorem c_takeS {a : Nat} (ha : a + 51 ≤ 408) : xk_Ev (xp_P sc) 17 0 [.ref 5, .ref 2, .int (Int32.ofNat a)] [] (cw sl ex ab ta dr md ml mt mc on ct r) (.inl none, 0, cw sl ex ab (va_cpy sl ta a 0 51) dr md ml mt mc on ct r) := by
  have h := c_takeS0 (sc := sc) (sl := sl) (ex := ex) (ab := ab) (ta := ta) (dr := dr) (md := md) (ml := ml) (mt := mt) (mc := mc) (on := on) (ct := ct) (r := r) ha
  simp only [xn_nat (j := a) (by omega)] at h
  exact h
theorem c_beginDraft0  : xk_Ev (xp_P sc) 85 0 [.ref 0] [] (cw sl ex ab ta dr md ml mt mc on ct r) (.inl none, 0, cw sl ex ab ta (va_cpy ta dr 0 0 51) md ml mt mc on ct r) := by
  apply xk_Ev.of
  refine xk_Po.go 6 rfl ?_
  refine xk_Po.cv3 rfl rfl (d_takeC) ?_
  exact xk_Po.ret rfl rfl
theorem c_beginDraft (ht : ∀ i, 51 ≤ i → ta i = 0) (hd : ∀ i, 51 ≤ i → dr i = 0) : xk_Ev (xp_P sc) 85 0 [.ref 0] [] (cw sl ex ab ta dr md ml mt mc on ct r) (.inl none, 0, cw sl ex ab ta (ta) md ml mt mc on ct r) := by
  have h := c_beginDraft0 (sc := sc) (sl := sl) (ex := ex) (ab := ab) (ta := ta) (dr := dr) (md := md) (ml := ml) (mt := mt) (mc := mc) (on := on) (ct := ct) (r := r)
  rw [s_cpy ta dr ht hd] at h
  exact h
theorem c_requireVolume {j : Nat} (hj : j < 4) (h : ¬ ta (5 + j) = 0) : xk_Ev (xp_P sc) 68 0 [.ref 0, .int (Int32.ofNat j)] [] (cw sl ex ab ta dr md ml mt mc on ct r) (.inl none, 0, cw sl ex ab ta dr md ml mt mc on ct r) := by
  apply xk_Ev.of
  refine xk_Po.go 1 rfl ?_
  refine xk_Po.br rfl rfl (fun h0 => ?_) (fun h0 => ?_) -- 1 .ifCond .lt 10
  · exact xk_Po.thr rfl (absurd h0 (xn_nneg (by omega)))
  · refine xk_Po.go 2 rfl ?_
    refine xk_Po.br rfl rfl (fun h1 => ?_) (fun h1 => ?_) -- 4 .if_icmp .ge 10
    · exact xk_Po.thr rfl (absurd ((xn_le (a := 4) (by omega) (by omega)).1 h1) (by omega))
    · refine xk_Po.go 3 rfl ?_
      refine xk_Po.ci2 rfl rfl (c_has hj) ?_
      refine xk_Po.br rfl rfl (fun h2 => ?_) (fun h2 => ?_) -- 9 .ifCond .ne 11
      · exact xk_Po.thr rfl (absurd h (xn_b0 h2))
      · exact xk_Po.ret rfl rfl
theorem c_requireVolume_u {j : Nat} (hj : j < 4) (h : ta (5 + j) = 0) : xk_Ev (xp_P sc) 68 0 [.ref 0, .int (Int32.ofNat j)] [] (cw sl ex ab ta dr md ml mt mc on ct r) (.inr 3, 1, cw sl ex ab ta dr md ml mt mc on ct r) := by
  apply xk_Ev.of
  refine xk_Po.go 1 rfl ?_
  refine xk_Po.br rfl rfl (fun h0 => ?_) (fun h0 => ?_) -- 1 .ifCond .lt 10
  · exact xk_Po.thr rfl rfl
  · refine xk_Po.go 2 rfl ?_
    refine xk_Po.br rfl rfl (fun h1 => ?_) (fun h1 => ?_) -- 4 .if_icmp .ge 10
    · exact xk_Po.thr rfl rfl
    · refine xk_Po.go 3 rfl ?_
      refine xk_Po.ci2 rfl rfl (c_has hj) ?_
      refine xk_Po.br rfl rfl (fun h2 => ?_) (fun h2 => ?_) -- 9 .ifCond .ne 11
      · exact xk_Po.thr rfl rfl
      · exact xk_Po.ret rfl (absurd h (xn_b1 h2))
theorem c_requireVolume_t {g : Int32} (h : g < 0 ∨ Int32.ofInt 4 ≤ g) : xk_Ev (xp_P sc) 68 0 [.ref 0, .int g] [] (cw sl ex ab ta dr md ml mt mc on ct r) (.inr 3, 1, cw sl ex ab ta dr md ml mt mc on ct r) := by
  apply xk_Ev.of
  refine xk_Po.go 1 rfl ?_
  refine xk_Po.br rfl rfl (fun h0 => ?_) (fun h0 => ?_) -- 1 .ifCond .lt 10
  · exact xk_Po.thr rfl rfl
  · refine xk_Po.go 2 rfl ?_
    refine xk_Po.br rfl rfl (fun h1 => ?_) (fun h1 => ?_) -- 4 .if_icmp .ge 10
    · exact xk_Po.thr rfl rfl
    · exact h.elim (fun q => absurd q h0) (fun q => absurd q h1)
theorem c_requireWord {j : Nat} {x : Int32} (hj : j < 4) (h : ¬ x < 0 ∧ x < ta (5 + j) / 32 * 4) : xk_Ev (xp_P sc) 69 0 [.ref 0, .int (Int32.ofNat j), .int x] [] (cw sl ex ab ta dr md ml mt mc on ct r) (.inl none, 0, cw sl ex ab ta dr md ml mt mc on ct r) := by
  apply xk_Ev.of
  refine xk_Po.go 1 rfl ?_
  refine xk_Po.br rfl rfl (fun h0 => ?_) (fun h0 => ?_) -- 1 .ifCond .lt 7
  · exact xk_Po.thr rfl (absurd h0 h.1)
  · refine xk_Po.go 3 rfl ?_
    refine xk_Po.ci2 rfl rfl (c_countWords hj) ?_
    refine xk_Po.br rfl rfl (fun h1 => ?_) (fun h1 => ?_) -- 6 .if_icmp .lt 8
    · exact xk_Po.ret rfl rfl
    · exact xk_Po.thr rfl (absurd h.2 h1)
theorem c_requireWord_t {j : Nat} {x : Int32} (hj : j < 4) (h : ¬ (¬ x < 0 ∧ x < ta (5 + j) / 32 * 4)) : xk_Ev (xp_P sc) 69 0 [.ref 0, .int (Int32.ofNat j), .int x] [] (cw sl ex ab ta dr md ml mt mc on ct r) (.inr 4, 1, cw sl ex ab ta dr md ml mt mc on ct r) := by
  apply xk_Ev.of
  refine xk_Po.go 1 rfl ?_
  refine xk_Po.br rfl rfl (fun h0 => ?_) (fun h0 => ?_) -- 1 .ifCond .lt 7
  · exact xk_Po.thr rfl rfl
  · refine xk_Po.go 3 rfl ?_
    refine xk_Po.ci2 rfl rfl (c_countWords hj) ?_
    refine xk_Po.br rfl rfl (fun h1 => ?_) (fun h1 => ?_) -- 6 .if_icmp .lt 8
    · exact xk_Po.ret rfl (absurd ⟨h0, h1⟩ h)
    · exact xk_Po.thr rfl rfl
theorem c_bitOfDisk {g : Int32} : xk_Ev (xp_P sc) 95 0 [.int g] [] (w) (.inl (some (.int (s_bit g))), 0, w) := by
  apply xk_Ev.of
  refine xk_Po.go 2 rfl ?_
  refine xk_Po.br rfl rfl (fun h0 => ?_) (fun h0 => ?_) -- 2 .if_icmp .ne 5
  · refine xk_Po.go 2 rfl ?_
    exact xk_Po.iret rfl (congrArg (fun z => ((.inl (some (.int z)), 0, _) : xk_R)) (if_pos h0).symm)
  · refine xk_Po.go 5 rfl ?_
    exact xk_Po.iret rfl (congrArg (fun z => ((.inl (some (.int z)), 0, _) : xk_R)) (if_neg h0).symm)
theorem c_disksOfLeg {j : Nat} (hj : j < 40) : xk_Ev (xp_P sc) 94 0 [.ref 0, .int (Int32.ofNat j), .retAddr 0] [] (cw sl ex ab ta dr md ml mt mc on ct r) (.inl (some (.int (s_dol dr ml mt j))), 0, cw sl ex ab ta dr md ml mt mc on ct r) := by
  apply xk_Ev.of
  refine xk_Po.go 3 rfl ?_
  refine xk_Po.ci2 rfl rfl (d_spotOfN hj) ?_
  refine xk_Po.ci1 rfl rfl (c_bitOfDisk) ?_
  refine xk_Po.go 5 rfl ?_
  refine xk_Po.br rfl rfl (fun h0 => ?_) (fun h0 => ?_) -- 10 .if_icmp .ne 18
  · refine xk_Po.go 4 rfl ?_
    refine xk_Po.ci1 rfl rfl (c_bitOfDisk) ?_
    refine xk_Po.go 2 rfl ?_
    exact xk_Po.iret rfl (congrArg (fun z => ((.inl (some (.int z)), 0, _) : xk_R)) (if_pos h0).symm)
  · refine xk_Po.go 1 rfl ?_
    exact xk_Po.iret rfl (congrArg (fun z => ((.inl (some (.int z)), 0, _) : xk_R)) (if_neg h0).symm)
theorem c_groupDisks {v e l c : Nat} (hv : v < 4) (he : e < 5) (hl : l < 2) (h1 : 1 ≤ c) (hc : c < 4) (hu : e - e % c + c ≤ 5) (hw : s_col (dr (5 + v)) = Int32.ofNat c) : xk_Ev (xp_P sc) 93 0 [.ref 0, .int (Int32.ofNat v), .int (Int32.ofNat e), .int (Int32.ofNat l), .retAddr 0, .retAddr 0, .retAddr 0, .retAddr 0, .retAddr 0] [] (cw sl ex ab ta dr md ml mt mc on ct r) (.inl (some (.int (s_gO dr ml mt v e l (e - e % c) c))), 0, cw sl ex ab ta dr md ml mt mc on ct r) := by
  have hf := s_first e he c hc h1
  apply xk_Ev.of
  refine xk_Po.go 3 rfl ?_
  refine xk_Po.ci2 rfl rfl (by have h := d_columnsOf (sc := sc) (sl := sl) (ex := ex) (ab := ab) (ta := ta) (dr := dr) (md := md) (ml := ml) (mt := mt) (mc := mc) (on := on) (ct := ct) (r := r) hv; rw [hw] at h; exact h) ?_
  refine xk_Po.go 4 rfl ?_
  refine xk_Po.no rfl rfl (s_ne0 c hc h1) ?_ -- .irem
  refine xk_Po.go 6 rfl ?_
  rw [hf]
  refine xk_Po.loopJ c (fun j0 x y => [.ref 0, .int (Int32.ofNat v), .int (Int32.ofNat e), .int (Int32.ofNat l), .int (Int32.ofNat c), .int (Int32.ofNat (e - e % c)), .int (s_gO dr ml mt v e l (e - e % c) j0), .int (Int32.ofNat ((e - e % c) + j0)), x]) (fun j0 => cw sl ex ab ta dr md ml mt mc on ct r) (fun m0 j0 => _) (fun m0 j0 x y hj0 ih0 => ?_) (fun x y => ?_) (.retAddr 0) (.retAddr 0)
  · have uj0 : j0 < c := by omega
    refine xk_Po.go 4 rfl ?_
    refine xk_Po.br rfl rfl (fun hx => absurd ((xn_le (a := (e - e % c) + c) (b := (e - e % c) + j0) (by omega) (by omega)).1 (by rw [xn_add] at hx; exact hx)) (by omega)) (fun _ => ?_)
    refine xk_Po.go 2 rfl ?_
    refine xk_Po.loop 2 (fun j1 => [.ref 0, .int (Int32.ofNat v), .int (Int32.ofNat e), .int (Int32.ofNat l), .int (Int32.ofNat c), .int (Int32.ofNat (e - e % c)), .int (s_gI dr ml mt v ((e - e % c) + j0) e l j1 (s_gO dr ml mt v e l (e - e % c) j0)), .int (Int32.ofNat ((e - e % c) + j0)), .int (Int32.ofNat j1)]) (fun j1 => cw sl ex ab ta dr md ml mt mc on ct r) (fun m1 j1 => _) (fun m1 j1 hj1 ih1 => ?_) ?_
    · have uj1 : j1 < 2 := by omega
      refine xk_Po.go 2 rfl ?_
      refine xk_Po.br rfl rfl (fun hx => absurd ((xn_le (a := 2) (b := j1) (by omega) (by omega)).1 hx) (by omega)) (fun _ => ?_)
      refine xk_Po.go 2 rfl ?_
      refine xk_Po.br rfl rfl (fun h0 => ?_) (fun h0 => ?_) -- 27 .if_icmp .ne 31
      · refine xk_Po.go 2 rfl ?_
        refine xk_Po.br rfl rfl (fun h1 => ?_) (fun h1 => ?_) -- 30 .if_icmp .eq 40
        · refine xk_Po.go 2 rfl ?_
          rw [show s_gI dr ml mt v ((e - e % c) + j0) e l (j1 + 1) (s_gO dr ml mt v e l (e - e % c) j0) = s_gI dr ml mt v ((e - e % c) + j0) e l j1 (s_gO dr ml mt v e l (e - e % c) j0) from (if_pos h0).trans (if_pos h1), ← xn_suc j1] at ih1
          exact ih1
        · refine xk_Po.go 5 rfl ?_
          refine xk_Po.ci3 rfl rfl (c_legOfN) ?_
          refine xk_Po.ci2 rfl rfl (c_disksOfLeg (by omega)) ?_
          refine xk_Po.go 4 rfl ?_
          rw [show s_gI dr ml mt v ((e - e % c) + j0) e l (j1 + 1) (s_gO dr ml mt v e l (e - e % c) j0) = s_gI dr ml mt v ((e - e % c) + j0) e l j1 (s_gO dr ml mt v e l (e - e % c) j0) ||| s_dol dr ml mt (v * 10 + ((e - e % c) + j0) * 2 + j1) from (if_pos h0).trans (if_neg h1), ← xn_suc j1] at ih1
          exact ih1
      · refine xk_Po.go 5 rfl ?_
        refine xk_Po.ci3 rfl rfl (c_legOfN) ?_
        refine xk_Po.ci2 rfl rfl (c_disksOfLeg (by omega)) ?_
        refine xk_Po.go 4 rfl ?_
        rw [show s_gI dr ml mt v ((e - e % c) + j0) e l (j1 + 1) (s_gO dr ml mt v e l (e - e % c) j0) = s_gI dr ml mt v ((e - e % c) + j0) e l j1 (s_gO dr ml mt v e l (e - e % c) j0) ||| s_dol dr ml mt (v * 10 + ((e - e % c) + j0) * 2 + j1) from if_neg h0, ← xn_suc j1] at ih1
        exact ih1
    · refine xk_Po.go 5 rfl ?_
      rw [show s_gO dr ml mt v e l (e - e % c) (j0 + 1) = s_gI dr ml mt v ((e - e % c) + j0) e l 2 (s_gO dr ml mt v e l (e - e % c) j0) from rfl, ← show Int32.ofNat ((e - e % c) + j0) + Int32.ofInt 1 = Int32.ofNat ((e - e % c) + (j0 + 1)) from xn_suc ((e - e % c) + j0)] at ih0
      exact ih0 _ y
  · refine xk_Po.go 4 rfl ?_
    refine xk_Po.br rfl rfl (fun _ => ?_) (fun hx => absurd (by rw [xn_add]; exact Int32.le_refl _) hx)
    refine xk_Po.go 1 rfl ?_
    exact xk_Po.iret rfl rfl
theorem c_leastFreeSpot {d n : Nat} (hd : d < 4) (hn : n ≤ 8) (hw : dr (1 + d) = Int32.ofNat n) : xk_Ev (xp_P sc) 92 0 [.ref 0, .int (Int32.ofNat d), .retAddr 0, .retAddr 0] [] (cw sl ex ab ta dr md ml mt mc on ct r) (.inl (some (.int (s_lfs dr mt (d * 8) n 0))), 0, cw sl ex ab ta dr md ml mt mc on ct r) := by
  apply xk_Ev.of
  refine xk_Po.go 6 rfl ?_
  rw [show Int32.ofNat d * Int32.ofInt 8 = Int32.ofNat (d * 8) from xn_mul d 8]
  refine xk_Po.loop n (fun j0 => [.ref 0, .int (Int32.ofNat d), .int (Int32.ofNat (d * 8)), .int (Int32.ofNat (d * 8 + j0))]) (fun j0 => cw sl ex ab ta dr md ml mt mc on ct r) (fun m0 j0 => fun z => z = (.inl (some (.int (s_lfs dr mt (d * 8) m0 j0))), 0, cw sl ex ab ta dr md ml mt mc on ct r)) (fun m0 j0 hj0 ih0 => ?_) ?_
  · have uj0 : j0 < n := by omega
    refine xk_Po.go 5 rfl ?_
    refine xk_Po.ci2 rfl rfl (by have h := d_extentsOfN (sc := sc) (sl := sl) (ex := ex) (ab := ab) (ta := ta) (dr := dr) (md := md) (ml := ml) (mt := mt) (mc := mc) (on := on) (ct := ct) (r := r) hd; rw [hw] at h; exact h) ?_
    refine xk_Po.go 1 rfl ?_
    refine xk_Po.br rfl rfl (fun hx => absurd ((xn_le (a := d * 8 + n) (b := d * 8 + j0) (by omega) (by omega)).1 (by rw [xn_add] at hx; exact hx)) (by omega)) (fun _ => ?_)
    refine xk_Po.go 4 rfl ?_
    refine xk_Po.br rfl rfl (fun h0 => ?_) (fun h0 => ?_) -- 18 .if_icmp .eq 26
    · refine xk_Po.go 2 rfl ?_
      rw [← show s_lfs dr mt (d * 8) (m0 + 1) j0 = s_lfs dr mt (d * 8) m0 (j0 + 1) from if_pos h0, ← show Int32.ofNat (d * 8 + j0) + Int32.ofInt 1 = Int32.ofNat (d * 8 + (j0 + 1)) from xn_suc (d * 8 + j0)] at ih0
      exact ih0
    · refine xk_Po.go 3 rfl ?_
      refine xk_Po.ci2 rfl rfl (d_isUsed) ?_
      refine xk_Po.br rfl rfl (fun h1 => ?_) (fun h1 => ?_) -- 23 .ifCond .ne 26
      · refine xk_Po.go 1 rfl ?_
        exact xk_Po.iret rfl (congrArg (fun z => ((.inl (some (.int z)), 0, _) : xk_R)) (((if_neg h0).trans (if_pos h1)).symm))
      · refine xk_Po.go 2 rfl ?_
        rw [← show s_lfs dr mt (d * 8) (m0 + 1) j0 = s_lfs dr mt (d * 8) m0 (j0 + 1) from (if_neg h0).trans (if_neg h1), ← show Int32.ofNat (d * 8 + j0) + Int32.ofInt 1 = Int32.ofNat (d * 8 + (j0 + 1)) from xn_suc (d * 8 + j0)] at ih0
        exact ih0
  · refine xk_Po.go 5 rfl ?_
    refine xk_Po.ci2 rfl rfl (by have h := d_extentsOfN (sc := sc) (sl := sl) (ex := ex) (ab := ab) (ta := ta) (dr := dr) (md := md) (ml := ml) (mt := mt) (mc := mc) (on := on) (ct := ct) (r := r) hd; rw [hw] at h; exact h) ?_
    refine xk_Po.go 1 rfl ?_
    refine xk_Po.br rfl rfl (fun _ => ?_) (fun hx => absurd (by rw [xn_add]; exact Int32.le_refl _) hx)
    refine xk_Po.go 1 rfl ?_
    exact xk_Po.iret rfl rfl
end XkRoo
