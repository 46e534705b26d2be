/-! Calls that write no word, a lemma for each outcome. -/
section XkPub
variable {sc : Nat × (Nat → Int32)} {sl ex ab ta dr : Nat → Int32} {md ml mt mc on ct : Int32} {r w : xk_W}
theorem xk_Po.st {P : Nat → xk_M} {k i i1 : Nat} {L L1 st st1 : List Value} {w w1 : xk_W} {mi : Instr} {Φ : xk_R → Prop} (h : (P k).1[i]? = some mi) (hs : xk_step (P k).2.2.2.2 mi i L st w = some (i1, L1, st1, w1)) (hk : xk_Po P k i1 L1 st1 w1 Φ) : xk_Po P k i L st w Φ := by
  obtain ⟨q, h1, h2⟩ := hk
  exact ⟨q, xk_Ev.step h hs h1, h2⟩
theorem dk {j : Nat} (hj : j < 4) : ¬ Int32.ofNat j < 0 ∧ ¬ Int32.ofInt 4 ≤ Int32.ofNat j := ⟨xn_nneg (by omega), fun q => absurd ((xn_le (a := 4) (by omega) (by omega)).1 q) (by omega)⟩
theorem c_moving  : xk_Ev (xp_P sc) 52 0 [.ref 0] [] (cw sl ex ab ta dr md ml mt mc on ct r) (.inl (some (.int (md))), 0, cw sl ex ab ta dr md ml mt mc on ct r) := by
  apply xk_Ev.of
  refine xk_Po.go 3 rfl ?_
  exact xk_Po.iret rfl rfl
theorem c_number  : xk_Ev (xp_P sc) 60 0 [.ref 0] [] (cw sl ex ab ta dr md ml mt mc on ct r) (.inl (some (.int (if on = 0 then -1 else ta 0))), 0, cw sl ex ab ta dr md ml mt mc on ct r) := by
  apply xk_Ev.of
  refine xk_Po.go 2 rfl ?_
  refine xk_Po.br rfl rfl (fun h0 => ?_) (fun h0 => ?_) -- 2 .ifCond .eq 7
  · refine xk_Po.go 1 rfl ?_
    exact xk_Po.iret rfl (congrArg (fun z => ((.inl (some (.int z)), 0, _) : xk_R)) (if_pos h0).symm)
  · refine xk_Po.go 2 rfl ?_
    refine xk_Po.ci1 rfl rfl (c_serial) ?_
    refine xk_Po.go 1 rfl ?_
    exact xk_Po.iret rfl (congrArg (fun z => ((.inl (some (.int z)), 0, _) : xk_R)) (if_neg h0).symm)
theorem c_cut_off {g : Int32} (hp : on = 0) : xk_Ev (xp_P sc) 56 0 [.ref 0, .int g] [] (cw sl ex ab ta dr md ml mt mc on ct r) (.inr 0, 1, cw sl ex ab ta dr md ml mt mc on ct r) := by
  apply xk_Ev.of
  refine xk_Po.go 1 rfl ?_
  exact xk_Po.ct1 rfl rfl (c_requirePower_t hp) rfl rfl
theorem c_cut_lo (hp : ¬ on = 0) {g : Int32} (h : ¬ Int32.ofInt (-1) ≤ g) : xk_Ev (xp_P sc) 56 0 [.ref 0, .int g] [] (cw sl ex ab ta dr md ml mt mc on ct r) (.inr 1, 1, cw sl ex ab ta dr md ml mt mc on ct r) := by
  apply xk_Ev.of
  refine xk_Po.go 1 rfl ?_
  refine xk_Po.cv1 rfl rfl (c_requirePower hp) ?_
  refine xk_Po.go 2 rfl ?_
  refine xk_Po.br rfl rfl (fun h0 => ?_) (fun h0 => ?_) -- 4 .if_icmp .ge 6
  · refine xk_Po.go 3 rfl ?_
    exact xk_Po.ret rfl (absurd h0 h)
  · exact xk_Po.thr rfl rfl
theorem c_cut (hp : ¬ on = 0) {g : Int32} (h : Int32.ofInt (-1) ≤ g) : xk_Ev (xp_P sc) 56 0 [.ref 0, .int g] [] (cw sl ex ab ta dr md ml mt mc on ct r) (.inl none, 0, cw sl ex ab ta dr md ml mt mc on (g) r) := by
  apply xk_Ev.of
  refine xk_Po.go 1 rfl ?_
  refine xk_Po.cv1 rfl rfl (c_requirePower hp) ?_
  refine xk_Po.go 2 rfl ?_
  refine xk_Po.br rfl rfl (fun h0 => ?_) (fun h0 => ?_) -- 4 .if_icmp .ge 6
  · refine xk_Po.go 3 rfl ?_
    exact xk_Po.ret rfl rfl
  · exact xk_Po.thr rfl (absurd h h0)
theorem c_off_off  (hp : on = 0) : xk_Ev (xp_P sc) 57 0 [.ref 0] [] (cw sl ex ab ta dr md ml mt mc on ct r) (.inr 0, 1, cw sl ex ab ta dr md ml mt mc on ct r) := by
  apply xk_Ev.of
  refine xk_Po.go 1 rfl ?_
  exact xk_Po.ct1 rfl rfl (c_requirePower_t hp) rfl rfl
theorem c_off (hp : ¬ on = 0)  : xk_Ev (xp_P sc) 57 0 [.ref 0] [] (cw sl ex ab ta dr md ml mt mc on ct r) (.inl none, 0, cw sl ex ab ta dr (-1) (-1) (-1) mc (0) (-1) r) := by
  apply xk_Ev.of
  refine xk_Po.go 1 rfl ?_
  refine xk_Po.cv1 rfl rfl (c_requirePower hp) ?_
  refine xk_Po.go 1 rfl ?_
  refine xk_Po.cv1 rfl rfl (c_losePower) ?_
  exact xk_Po.ret rfl rfl
theorem c_free_off {g : Int32} (hp : on = 0) : xk_Ev (xp_P sc) 55 0 [.ref 0, .int g] [] (cw sl ex ab ta dr md ml mt mc on ct r) (.inr 0, 1, cw sl ex ab ta dr md ml mt mc on ct r) := by
  apply xk_Ev.of
  refine xk_Po.go 1 rfl ?_
  exact xk_Po.ct1 rfl rfl (c_requirePower_t hp) rfl rfl
theorem c_free_nd (hp : ¬ on = 0) {g : Int32} (hg : ¬ (¬ g < 0 ∧ ¬ Int32.ofInt 4 ≤ g))  : xk_Ev (xp_P sc) 55 0 [.ref 0, .int g] [] (cw sl ex ab ta dr md ml mt mc on ct r) (.inr 1, 1, cw sl ex ab ta dr md ml mt mc on ct r) := by
  apply xk_Ev.of
  refine xk_Po.go 1 rfl ?_
  refine xk_Po.cv1 rfl rfl (c_requirePower hp) ?_
  refine xk_Po.go 1 rfl ?_
  exact xk_Po.ct1 rfl rfl (c_requireDisk_t hg) rfl rfl
theorem c_free (hp : ¬ on = 0) {j : Nat} (hj : j < 4)  : xk_Ev (xp_P sc) 55 0 [.ref 0, .int (Int32.ofNat j)] [] (cw sl ex ab ta dr md ml mt mc on ct r) (.inl (some (.int (if ta (1 + j) = 0 then -1 else s_free ta mt j))), 0, cw sl ex ab ta dr md ml mt mc on ct r) := by
  apply xk_Ev.of
  refine xk_Po.go 1 rfl ?_
  refine xk_Po.cv1 rfl rfl (c_requirePower hp) ?_
  refine xk_Po.go 1 rfl ?_
  refine xk_Po.cv1 rfl rfl (c_requireDisk (dk hj)) ?_
  refine xk_Po.go 3 rfl ?_
  refine xk_Po.ci2 rfl rfl (c_lists hj) ?_
  refine xk_Po.br rfl rfl (fun h0 => ?_) (fun h0 => ?_) -- 8 .ifCond .eq 15
  · refine xk_Po.go 1 rfl ?_
    exact xk_Po.iret rfl (congrArg (fun z => ((.inl (some (.int z)), 0, _) : xk_R)) ((if_pos (Decidable.not_not.1 (xn_b0 h0))).symm))
  · refine xk_Po.go 4 rfl ?_
    refine xk_Po.ci3 rfl rfl (c_countFree hj) ?_
    refine xk_Po.go 1 rfl ?_
    exact xk_Po.iret rfl (congrArg (fun z => ((.inl (some (.int z)), 0, _) : xk_R)) ((if_neg (xn_b1 h0)).symm))
theorem c_empty_off {g : Int32} (hp : on = 0) : xk_Ev (xp_P sc) 50 0 [.ref 0, .int g] [] (cw sl ex ab ta dr md ml mt mc on ct r) (.inr 0, 1, cw sl ex ab ta dr md ml mt mc on ct r) := by
  apply xk_Ev.of
  refine xk_Po.go 1 rfl ?_
  exact xk_Po.ct1 rfl rfl (c_requirePower_t hp) rfl rfl
theorem c_empty_nd (hp : ¬ on = 0) {g : Int32} (hg : ¬ (¬ g < 0 ∧ ¬ Int32.ofInt 4 ≤ g))  : xk_Ev (xp_P sc) 50 0 [.ref 0, .int g] [] (cw sl ex ab ta dr md ml mt mc on ct r) (.inr 1, 1, cw sl ex ab ta dr md ml mt mc on ct r) := by
  apply xk_Ev.of
  refine xk_Po.go 1 rfl ?_
  refine xk_Po.cv1 rfl rfl (c_requirePower hp) ?_
  refine xk_Po.go 1 rfl ?_
  exact xk_Po.ct1 rfl rfl (c_requireDisk_t hg) rfl rfl
theorem c_empty_nl (hp : ¬ on = 0) {j : Nat} (hj : j < 4) (h : ta (1 + j) = 0) : xk_Ev (xp_P sc) 50 0 [.ref 0, .int (Int32.ofNat j)] [] (cw sl ex ab ta dr md ml mt mc on ct r) (.inr 2, 1, cw sl ex ab ta dr md ml mt mc on ct r) := by
  apply xk_Ev.of
  refine xk_Po.go 1 rfl ?_
  refine xk_Po.cv1 rfl rfl (c_requirePower hp) ?_
  refine xk_Po.go 1 rfl ?_
  refine xk_Po.cv1 rfl rfl (c_requireDisk (dk hj)) ?_
  refine xk_Po.go 2 rfl ?_
  exact xk_Po.ct2 rfl rfl (c_requireListed_t hj h) rfl rfl
theorem c_empty_mv (hp : ¬ on = 0) {j : Nat} (hj : j < 4) (hl : ¬ ta (1 + j) = 0) (h : ¬ md = Int32.ofInt (-1)) : xk_Ev (xp_P sc) 50 0 [.ref 0, .int (Int32.ofNat j)] [] (cw sl ex ab ta dr md ml mt mc on ct r) (.inr 2, 1, cw sl ex ab ta dr md ml mt mc on ct r) := by
  apply xk_Ev.of
  refine xk_Po.go 1 rfl ?_
  refine xk_Po.cv1 rfl rfl (c_requirePower hp) ?_
  refine xk_Po.go 1 rfl ?_
  refine xk_Po.cv1 rfl rfl (c_requireDisk (dk hj)) ?_
  refine xk_Po.go 2 rfl ?_
  refine xk_Po.cv2 rfl rfl (c_requireListed hj hl) ?_
  refine xk_Po.go 4 rfl ?_
  refine xk_Po.br rfl rfl (fun h0 => ?_) (fun h0 => ?_) -- 11 .if_icmp .eq 13
  · exact absurd h0 h
  · exact xk_Po.thr rfl rfl
theorem c_empty_ab (hp : ¬ on = 0) {j : Nat} (hj : j < 4) (hl : ¬ ta (1 + j) = 0) (h : md = Int32.ofInt (-1)) (hb : ∀ i, ab i = 0 ∨ ab i = 1) (hq : ¬ s_any (fun j => ¬ ta (1 + j) = 0 ∧ ¬ ab j = 0) 4 0 = 0) : xk_Ev (xp_P sc) 50 0 [.ref 0, .int (Int32.ofNat j)] [] (cw sl ex ab ta dr md ml mt mc on ct r) (.inr 2, 1, cw sl ex ab ta dr md ml mt mc on ct r) := by
  apply xk_Ev.of
  refine xk_Po.go 1 rfl ?_
  refine xk_Po.cv1 rfl rfl (c_requirePower hp) ?_
  refine xk_Po.go 1 rfl ?_
  refine xk_Po.cv1 rfl rfl (c_requireDisk (dk hj)) ?_
  refine xk_Po.go 2 rfl ?_
  refine xk_Po.cv2 rfl rfl (c_requireListed hj hl) ?_
  refine xk_Po.go 4 rfl ?_
  refine xk_Po.br rfl rfl (fun h0 => ?_) (fun h0 => ?_) -- 11 .if_icmp .eq 13
  · refine xk_Po.go 1 rfl ?_
    exact xk_Po.ct1 rfl rfl (c_requireListedPresent_t hb hq) rfl rfl
  · exact xk_Po.thr rfl (absurd h h0)
theorem c_empty (hp : ¬ on = 0) {j : Nat} (hj : j < 4) (hl : ¬ ta (1 + j) = 0) (h : md = Int32.ofInt (-1)) (hb : ∀ i, ab i = 0 ∨ ab i = 1) (hq : s_any (fun j => ¬ ta (1 + j) = 0 ∧ ¬ ab j = 0) 4 0 = 0) : xk_Ev (xp_P sc) 50 0 [.ref 0, .int (Int32.ofNat j)] [] (cw sl ex ab ta dr md ml mt mc on ct r) (.inl (some (.int (s_cnt (fun i => s_disk (ta (9 + i) - 1) = Int32.ofNat j) 40))), 0, cw sl ex ab ta dr (Int32.ofNat j) ml mt mc on ct r) := by
  apply xk_Ev.of
  refine xk_Po.go 1 rfl ?_
  refine xk_Po.cv1 rfl rfl (c_requirePower hp) ?_
  refine xk_Po.go 1 rfl ?_
  refine xk_Po.cv1 rfl rfl (c_requireDisk (dk hj)) ?_
  refine xk_Po.go 2 rfl ?_
  refine xk_Po.cv2 rfl rfl (c_requireListed hj hl) ?_
  refine xk_Po.go 4 rfl ?_
  refine xk_Po.br rfl rfl (fun h0 => ?_) (fun h0 => ?_) -- 11 .if_icmp .eq 13
  · refine xk_Po.go 1 rfl ?_
    refine xk_Po.cv1 rfl rfl (c_requireListedPresent hb hq) ?_
    refine xk_Po.go 3 rfl ?_
    refine xk_Po.cv2 rfl rfl (c_begin) ?_
    refine xk_Po.go 3 rfl ?_
    refine xk_Po.ci2 rfl rfl (c_legsOn) ?_
    exact xk_Po.iret rfl rfl
  · exact xk_Po.thr rfl (absurd h h0)
theorem c_plug_on {g p : Int32} (hp : ¬ on = 0) : xk_Ev (xp_P sc) 58 0 [.ref 0, .int g, .int p, .retAddr 0] [] (cw sl ex ab ta dr md ml mt mc on ct r) (.inr 0, 1, cw sl ex ab ta dr md ml mt mc on ct r) := by
  apply xk_Ev.of
  refine xk_Po.go 1 rfl ?_
  exact xk_Po.ct1 rfl rfl (c_requireNoPower_t hp) rfl rfl
theorem c_plug_nd {p : Int32} (hp : on = 0) {g : Int32} (hg : ¬ (¬ g < 0 ∧ ¬ Int32.ofInt 4 ≤ g))  : xk_Ev (xp_P sc) 58 0 [.ref 0, .int g, .int p, .retAddr 0] [] (cw sl ex ab ta dr md ml mt mc on ct r) (.inr 1, 1, cw sl ex ab ta dr md ml mt mc on ct r) := by
  apply xk_Ev.of
  refine xk_Po.go 1 rfl ?_
  refine xk_Po.cv1 rfl rfl (c_requireNoPower hp) ?_
  refine xk_Po.go 1 rfl ?_
  exact xk_Po.ct1 rfl rfl (c_requireDisk_t hg) rfl rfl
theorem c_plug1 (hp : on = 0) {j : Nat} (hj : j < 4) (hb : ∀ i, ab i = 0 ∨ ab i = 1) : xk_Ev (xp_P sc) 58 0 [.ref 0, .int (Int32.ofNat j), .int 1, .retAddr 0] [] (cw sl ex ab ta dr md ml mt mc on ct r) (.inl (some (.int (if 1 = ab j then 1 else 0))), 0, cw sl ex (upd ab j 0) ta dr md ml mt mc on ct r) := by
  apply xk_Ev.of
  refine xk_Po.go 1 rfl ?_
  refine xk_Po.cv1 rfl rfl (c_requireNoPower hp) ?_
  refine xk_Po.go 1 rfl ?_
  refine xk_Po.cv1 rfl rfl (c_requireDisk (dk hj)) ?_
  refine xk_Po.go 4 rfl ?_
  refine xk_Po.ci2 rfl rfl (c_isAbsent hj hb) ?_
  refine xk_Po.br rfl rfl (fun h0 => ?_) (fun h0 => ?_) -- 9 .if_icmp .ne 12
  · refine xk_Po.go 9 rfl ?_
    refine xk_Po.cv3 rfl rfl (c_setAbsent hj) ?_
    refine xk_Po.go 1 rfl ?_
    exact xk_Po.zret rfl (by first | decide | exact hb _) (congrArg (fun z => ((.inl (some (.int z)), 0, _) : xk_R)) (if_pos h0).symm)
  · refine xk_Po.go 8 rfl ?_
    refine xk_Po.cv3 rfl rfl (c_setAbsent hj) ?_
    refine xk_Po.go 1 rfl ?_
    exact xk_Po.zret rfl (by first | decide | exact hb _) (congrArg (fun z => ((.inl (some (.int z)), 0, _) : xk_R)) (if_neg h0).symm)
theorem c_plug0 (hp : on = 0) {j : Nat} (hj : j < 4) (hb : ∀ i, ab i = 0 ∨ ab i = 1) : xk_Ev (xp_P sc) 58 0 [.ref 0, .int (Int32.ofNat j), .int 0, .retAddr 0] [] (cw sl ex ab ta dr md ml mt mc on ct r) (.inl (some (.int (if 0 = ab j then 1 else 0))), 0, cw sl ex (upd ab j 1) ta dr md ml mt mc on ct r) := by
  apply xk_Ev.of
  refine xk_Po.go 1 rfl ?_
  refine xk_Po.cv1 rfl rfl (c_requireNoPower hp) ?_
  refine xk_Po.go 1 rfl ?_
  refine xk_Po.cv1 rfl rfl (c_requireDisk (dk hj)) ?_
  refine xk_Po.go 4 rfl ?_
  refine xk_Po.ci2 rfl rfl (c_isAbsent hj hb) ?_
  refine xk_Po.br rfl rfl (fun h0 => ?_) (fun h0 => ?_) -- 9 .if_icmp .ne 12
  · refine xk_Po.go 10 rfl ?_
    refine xk_Po.cv3 rfl rfl (c_setAbsent hj) ?_
    refine xk_Po.go 1 rfl ?_
    exact xk_Po.zret rfl (by first | decide | exact hb _) (congrArg (fun z => ((.inl (some (.int z)), 0, _) : xk_R)) (if_pos h0).symm)
  · refine xk_Po.go 9 rfl ?_
    refine xk_Po.cv3 rfl rfl (c_setAbsent hj) ?_
    refine xk_Po.go 1 rfl ?_
    exact xk_Po.zret rfl (by first | decide | exact hb _) (congrArg (fun z => ((.inl (some (.int z)), 0, _) : xk_R)) (if_neg h0).symm)
theorem c_where_off {g : Int32} {a b : Int32}  (hp : on = 0) : xk_Ev (xp_P sc) 54 0 [.ref 0, .int g, .int a, .int b] [] (cw sl ex ab ta dr md ml mt mc on ct r) (.inr 0, 1, cw sl ex ab ta dr md ml mt mc on ct r) := by
  apply xk_Ev.of
  refine xk_Po.go 1 rfl ?_
  exact xk_Po.ct1 rfl rfl (c_requirePower_t hp) rfl rfl
theorem c_where_nv {a b : Int32} (hp : ¬ on = 0) {g : Int32} (h : g < 0 ∨ Int32.ofInt 4 ≤ g)  : xk_Ev (xp_P sc) 54 0 [.ref 0, .int g, .int a, .int b] [] (cw sl ex ab ta dr md ml mt mc on ct r) (.inr 3, 1, cw sl ex ab ta dr md ml mt mc on ct r) := by
  apply xk_Ev.of
  refine xk_Po.go 1 rfl ?_
  refine xk_Po.cv1 rfl rfl (c_requirePower hp) ?_
  refine xk_Po.go 2 rfl ?_
  exact xk_Po.ct2 rfl rfl (c_requireVolume_t h) rfl rfl
theorem c_where_uv {a b : Int32} (hp : ¬ on = 0) {j : Nat} (hj : j < 4) (h : ta (5 + j) = 0) : xk_Ev (xp_P sc) 54 0 [.ref 0, .int (Int32.ofNat j), .int a, .int b] [] (cw sl ex ab ta dr md ml mt mc on ct r) (.inr 3, 1, cw sl ex ab ta dr md ml mt mc on ct r) := by
  apply xk_Ev.of
  refine xk_Po.go 1 rfl ?_
  refine xk_Po.cv1 rfl rfl (c_requirePower hp) ?_
  refine xk_Po.go 2 rfl ?_
  exact xk_Po.ct2 rfl rfl (c_requireVolume_u hj h) rfl rfl
theorem c_volume_off {g : Int32} {a : Int32}  (hp : on = 0) : xk_Ev (xp_P sc) 53 0 [.ref 0, .int g, .int a] [] (cw sl ex ab ta dr md ml mt mc on ct r) (.inr 0, 1, cw sl ex ab ta dr md ml mt mc on ct r) := by
  apply xk_Ev.of
  refine xk_Po.go 1 rfl ?_
  exact xk_Po.ct1 rfl rfl (c_requirePower_t hp) rfl rfl
theorem c_volume_nv {a : Int32} (hp : ¬ on = 0) {g : Int32} (h : g < 0 ∨ Int32.ofInt 4 ≤ g)  : xk_Ev (xp_P sc) 53 0 [.ref 0, .int g, .int a] [] (cw sl ex ab ta dr md ml mt mc on ct r) (.inr 3, 1, cw sl ex ab ta dr md ml mt mc on ct r) := by
  apply xk_Ev.of
  refine xk_Po.go 1 rfl ?_
  refine xk_Po.cv1 rfl rfl (c_requirePower hp) ?_
  refine xk_Po.go 2 rfl ?_
  exact xk_Po.ct2 rfl rfl (c_requireVolume_t h) rfl rfl
theorem c_volume_uv {a : Int32} (hp : ¬ on = 0) {j : Nat} (hj : j < 4) (h : ta (5 + j) = 0) : xk_Ev (xp_P sc) 53 0 [.ref 0, .int (Int32.ofNat j), .int a] [] (cw sl ex ab ta dr md ml mt mc on ct r) (.inr 3, 1, cw sl ex ab ta dr md ml mt mc on ct r) := by
  apply xk_Ev.of
  refine xk_Po.go 1 rfl ?_
  refine xk_Po.cv1 rfl rfl (c_requirePower hp) ?_
  refine xk_Po.go 2 rfl ?_
  exact xk_Po.ct2 rfl rfl (c_requireVolume_u hj h) rfl rfl
theorem c_read_off {g : Int32} {a : Int32}  (hp : on = 0) : xk_Ev (xp_P sc) 49 0 [.ref 0, .int g, .int a, .retAddr 0] [] (cw sl ex ab ta dr md ml mt mc on ct r) (.inr 0, 1, cw sl ex ab ta dr md ml mt mc on ct r) := by
  apply xk_Ev.of
  refine xk_Po.go 1 rfl ?_
  exact xk_Po.ct1 rfl rfl (c_requirePower_t hp) rfl rfl
theorem c_read_nv {a : Int32} (hp : ¬ on = 0) {g : Int32} (h : g < 0 ∨ Int32.ofInt 4 ≤ g)  : xk_Ev (xp_P sc) 49 0 [.ref 0, .int g, .int a, .retAddr 0] [] (cw sl ex ab ta dr md ml mt mc on ct r) (.inr 3, 1, cw sl ex ab ta dr md ml mt mc on ct r) := by
  apply xk_Ev.of
  refine xk_Po.go 1 rfl ?_
  refine xk_Po.cv1 rfl rfl (c_requirePower hp) ?_
  refine xk_Po.go 2 rfl ?_
  exact xk_Po.ct2 rfl rfl (c_requireVolume_t h) rfl rfl
theorem c_read_uv {a : Int32} (hp : ¬ on = 0) {j : Nat} (hj : j < 4) (h : ta (5 + j) = 0) : xk_Ev (xp_P sc) 49 0 [.ref 0, .int (Int32.ofNat j), .int a, .retAddr 0] [] (cw sl ex ab ta dr md ml mt mc on ct r) (.inr 3, 1, cw sl ex ab ta dr md ml mt mc on ct r) := by
  apply xk_Ev.of
  refine xk_Po.go 1 rfl ?_
  refine xk_Po.cv1 rfl rfl (c_requirePower hp) ?_
  refine xk_Po.go 2 rfl ?_
  exact xk_Po.ct2 rfl rfl (c_requireVolume_u hj h) rfl rfl
theorem c_where (hp : ¬ on = 0) {j : Nat} (hj : j < 4) (hv : ¬ ta (5 + j) = 0) {e l : Nat} (he : e < 5) (hl : l < 2) : xk_Ev (xp_P sc) 54 0 [.ref 0, .int (Int32.ofNat j), .int (Int32.ofNat e), .int (Int32.ofNat l)] [] (cw sl ex ab ta dr md ml mt mc on ct r) (.inl (some (.int (ta (9 + (j * 10 + e * 2 + l)) - 1))), 0, cw sl ex ab ta dr md ml mt mc on ct r) := by
  apply xk_Ev.of
  refine xk_Po.go 1 rfl ?_
  refine xk_Po.cv1 rfl rfl (c_requirePower hp) ?_
  refine xk_Po.go 2 rfl ?_
  refine xk_Po.cv2 rfl rfl (c_requireVolume hj hv) ?_
  refine xk_Po.go 1 rfl ?_
  refine xk_Po.br rfl rfl (fun h0 => ?_) (fun h0 => ?_) -- 6 .ifCond .lt 15
  · refine xk_Po.go 1 rfl ?_
    exact xk_Po.iret rfl (absurd h0 (xn_nneg (by omega)))
  · refine xk_Po.go 2 rfl ?_
    refine xk_Po.br rfl rfl (fun h1 => ?_) (fun h1 => ?_) -- 9 .if_icmp .ge 15
    · refine xk_Po.go 1 rfl ?_
      exact xk_Po.iret rfl (absurd ((xn_le (a := 5) (by omega) (by omega)).1 h1) (by omega))
    · refine xk_Po.go 1 rfl ?_
      refine xk_Po.br rfl rfl (fun h2 => ?_) (fun h2 => ?_) -- 11 .ifCond .lt 15
      · refine xk_Po.go 1 rfl ?_
        exact xk_Po.iret rfl (absurd h2 (xn_nneg (by omega)))
      · refine xk_Po.go 2 rfl ?_
        refine xk_Po.br rfl rfl (fun h3 => ?_) (fun h3 => ?_) -- 14 .if_icmp .lt 17
        · refine xk_Po.go 5 rfl ?_
          refine xk_Po.ci3 rfl rfl (c_legOfN) ?_
          refine xk_Po.ci2 rfl rfl (c_spotOfN (by omega)) ?_
          exact xk_Po.iret rfl rfl
        · refine xk_Po.go 1 rfl ?_
          exact xk_Po.iret rfl (absurd ((xn_lt (b := 2) (by omega) (by omega)).2 hl) h3)
theorem c_where_out (hp : ¬ on = 0) {j : Nat} (hj : j < 4) (hv : ¬ ta (5 + j) = 0) {a b : Int32} (h : a < 0 ∨ Int32.ofInt 5 ≤ a ∨ b < 0 ∨ ¬ b < Int32.ofInt 2) : xk_Ev (xp_P sc) 54 0 [.ref 0, .int (Int32.ofNat j), .int a, .int b] [] (cw sl ex ab ta dr md ml mt mc on ct r) (.inl (some (.int (-1))), 0, cw sl ex ab ta dr md ml mt mc on ct r) := by
  apply xk_Ev.of
  refine xk_Po.go 1 rfl ?_
  refine xk_Po.cv1 rfl rfl (c_requirePower hp) ?_
  refine xk_Po.go 2 rfl ?_
  refine xk_Po.cv2 rfl rfl (c_requireVolume hj hv) ?_
  refine xk_Po.go 1 rfl ?_
  refine xk_Po.br rfl rfl (fun h0 => ?_) (fun h0 => ?_) -- 6 .ifCond .lt 15
  · refine xk_Po.go 1 rfl ?_
    exact xk_Po.iret rfl rfl
  · refine xk_Po.go 2 rfl ?_
    refine xk_Po.br rfl rfl (fun h1 => ?_) (fun h1 => ?_) -- 9 .if_icmp .ge 15
    · refine xk_Po.go 1 rfl ?_
      exact xk_Po.iret rfl rfl
    · refine xk_Po.go 1 rfl ?_
      refine xk_Po.br rfl rfl (fun h2 => ?_) (fun h2 => ?_) -- 11 .ifCond .lt 15
      · refine xk_Po.go 1 rfl ?_
        exact xk_Po.iret rfl rfl
      · refine xk_Po.go 2 rfl ?_
        refine xk_Po.br rfl rfl (fun h3 => ?_) (fun h3 => ?_) -- 14 .if_icmp .lt 17
        · exact absurd h (fun q => q.elim h0 (fun q => q.elim h1 (fun q => q.elim h2 (fun q => q h3))))
        · refine xk_Po.go 1 rfl ?_
          exact xk_Po.iret rfl rfl
theorem c_volume0 (hp : ¬ on = 0) {j : Nat} (hj : j < 4) (hv : ¬ ta (5 + j) = 0)  : xk_Ev (xp_P sc) 53 0 [.ref 0, .int (Int32.ofNat j), .int 0] [] (cw sl ex ab ta dr md ml mt mc on ct r) (.inl (some (.int (ta (5 + j) % 4 - 1))), 0, cw sl ex ab ta dr md ml mt mc on ct r) := by
  apply xk_Ev.of
  refine xk_Po.go 1 rfl ?_
  refine xk_Po.cv1 rfl rfl (c_requirePower hp) ?_
  refine xk_Po.go 2 rfl ?_
  refine xk_Po.cv2 rfl rfl (c_requireVolume hj hv) ?_
  refine xk_Po.go 5 rfl ?_
  refine xk_Po.ci2 rfl rfl (c_kindOfN hj) ?_
  exact xk_Po.iret rfl rfl
theorem c_volume1 (hp : ¬ on = 0) {j : Nat} (hj : j < 4) (hv : ¬ ta (5 + j) = 0)  : xk_Ev (xp_P sc) 53 0 [.ref 0, .int (Int32.ofNat j), .int 1] [] (cw sl ex ab ta dr md ml mt mc on ct r) (.inl (some (.int (s_col (ta (5 + j))))), 0, cw sl ex ab ta dr md ml mt mc on ct r) := by
  apply xk_Ev.of
  refine xk_Po.go 1 rfl ?_
  refine xk_Po.cv1 rfl rfl (c_requirePower hp) ?_
  refine xk_Po.go 2 rfl ?_
  refine xk_Po.cv2 rfl rfl (c_requireVolume hj hv) ?_
  refine xk_Po.go 5 rfl ?_
  refine xk_Po.ci2 rfl rfl (c_columnsOf hj) ?_
  exact xk_Po.iret rfl rfl
theorem c_volume2 (hp : ¬ on = 0) {j : Nat} (hj : j < 4) (hv : ¬ ta (5 + j) = 0)  : xk_Ev (xp_P sc) 53 0 [.ref 0, .int (Int32.ofNat j), .int 2] [] (cw sl ex ab ta dr md ml mt mc on ct r) (.inl (some (.int (ta (5 + j) / 32))), 0, cw sl ex ab ta dr md ml mt mc on ct r) := by
  apply xk_Ev.of
  refine xk_Po.go 1 rfl ?_
  refine xk_Po.cv1 rfl rfl (c_requirePower hp) ?_
  refine xk_Po.go 2 rfl ?_
  refine xk_Po.cv2 rfl rfl (c_requireVolume hj hv) ?_
  refine xk_Po.go 5 rfl ?_
  refine xk_Po.ci2 rfl rfl (c_elementsOfN hj) ?_
  exact xk_Po.iret rfl rfl
theorem c_volume3 (hp : ¬ on = 0) {j : Nat} (hj : j < 4) (hv : ¬ ta (5 + j) = 0)  : xk_Ev (xp_P sc) 53 0 [.ref 0, .int (Int32.ofNat j), .int 3] [] (cw sl ex ab ta dr md ml mt mc on ct r) (.inl (some (.int (ta (5 + j) / 32 * 4))), 0, cw sl ex ab ta dr md ml mt mc on ct r) := by
  apply xk_Ev.of
  refine xk_Po.go 1 rfl ?_
  refine xk_Po.cv1 rfl rfl (c_requirePower hp) ?_
  refine xk_Po.go 2 rfl ?_
  refine xk_Po.cv2 rfl rfl (c_requireVolume hj hv) ?_
  refine xk_Po.go 4 rfl ?_
  refine xk_Po.ci2 rfl rfl (c_countWords hj) ?_
  exact xk_Po.iret rfl rfl
theorem c_volume_out (hp : ¬ on = 0) {j : Nat} (hj : j < 4) (hv : ¬ ta (5 + j) = 0) {a : Int32} (h : a.toInt < 0 ∨ 3 < a.toInt) : xk_Ev (xp_P sc) 53 0 [.ref 0, .int (Int32.ofNat j), .int a] [] (cw sl ex ab ta dr md ml mt mc on ct r) (.inr 1, 1, cw sl ex ab ta dr md ml mt mc on ct r) := by
  apply xk_Ev.of
  refine xk_Po.go 1 rfl ?_
  refine xk_Po.cv1 rfl rfl (c_requirePower hp) ?_
  refine xk_Po.go 2 rfl ?_
  refine xk_Po.cv2 rfl rfl (c_requireVolume hj hv) ?_
  refine xk_Po.go 1 rfl ?_
  exact xk_Po.st rfl (if_pos h) (xk_Po.thr rfl rfl)
theorem c_read_nw {a : Int32} (hp : ¬ on = 0) {j : Nat} (hj : j < 4) (hv : ¬ ta (5 + j) = 0) (h : ¬ (¬ a < 0 ∧ a < ta (5 + j) / 32 * 4)) : xk_Ev (xp_P sc) 49 0 [.ref 0, .int (Int32.ofNat j), .int a, .retAddr 0] [] (cw sl ex ab ta dr md ml mt mc on ct r) (.inr 4, 1, cw sl ex ab ta dr md ml mt mc on ct r) := by
  apply xk_Ev.of
  refine xk_Po.go 1 rfl ?_
  refine xk_Po.cv1 rfl rfl (c_requirePower hp) ?_
  refine xk_Po.go 2 rfl ?_
  refine xk_Po.cv2 rfl rfl (c_requireVolume hj hv) ?_
  refine xk_Po.go 3 rfl ?_
  exact xk_Po.ct3 rfl rfl (c_requireWord_t hj h) rfl rfl
end XkPub
