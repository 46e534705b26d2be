/-! The class's small methods. World places: 0 shelf, 1 disks, 2 slots, 3 extents, 4 absent, 5 table, 6 its words, 7 draft, 8 its words, 9 move. -/
section XkCls
def cw (sl ex ab ta dr : Nat → Int32) (md ml mt mc on ct : Int32) (r : xk_W) : xk_W :=
  .inr (3, [.ref 1, .ref 5, .ref 7, .ref 9, .int on, .int ct]) :: .inr (0, [.ref 2, .ref 3, .ref 4]) :: .inl (0, 408, .inl sl) :: .inl (0, 128, .inl ex) :: .inl (1, 4, .inl ab) :: .inr (2, [.ref 6]) :: .inl (0, 51, .inl ta) :: .inr (2, [.ref 8]) :: .inl (0, 51, .inl dr) :: .inr (1, [.int md, .int ml, .int mt, .int mc]) :: r
variable {sc : Nat × (Nat → Int32)} {sl ex ab ta dr : Nat → Int32} {md ml mt mc on ct : Int32} {r w : xk_W}
theorem c_serial  : xk_Ev (xp_P sc) 21 0 [.ref 5] [] (cw sl ex ab ta dr md ml mt mc on ct r) (.inl (some (.int (ta 0))), 0, cw sl ex ab ta dr md ml mt mc on ct r) := by
  apply xk_Ev.of
  refine xk_Po.go 4 rfl ?_
  exact xk_Po.iret rfl rfl
theorem c_extentsOf {g : Int32} (h : xk_ix (1 + g) 51 = true) : xk_Ev (xp_P sc) 23 0 [.ref 5, .int g] [] (cw sl ex ab ta dr md ml mt mc on ct r) (.inl (some (.int (ta (1 + g).toNatClampNeg))), 0, cw sl ex ab ta dr md ml mt mc on ct r) := by
  apply xk_Ev.of
  refine xk_Po.go 5 rfl ?_
  refine xk_Po.ok rfl rfl (by assumption) ?_ -- .iaload
  exact xk_Po.iret rfl rfl
theorem c_setExtents {g x : Int32} (h : xk_ix (1 + g) 51 = true) : xk_Ev (xp_P sc) 24 0 [.ref 5, .int g, .int x] [] (cw sl ex ab ta dr md ml mt mc on ct r) (.inl none, 0, cw sl ex ab (upd ta (1 + g).toNatClampNeg x) dr md ml mt mc on ct r) := by
  apply xk_Ev.of
  refine xk_Po.go 6 rfl ?_
  refine xk_Po.ok rfl rfl (by assumption) ?_ -- .iastore
  exact xk_Po.ret rfl rfl
theorem c_spotOf {g : Int32} (h : xk_ix (9 + g) 51 = true) : xk_Ev (xp_P sc) 34 0 [.ref 5, .int g] [] (cw sl ex ab ta dr md ml mt mc on ct r) (.inl (some (.int (ta (9 + g).toNatClampNeg - 1))), 0, cw sl ex ab ta dr md ml mt mc on ct r) := by
  apply xk_Ev.of
  refine xk_Po.go 5 rfl ?_
  refine xk_Po.ok rfl rfl (by assumption) ?_ -- .iaload
  refine xk_Po.go 2 rfl ?_
  exact xk_Po.iret rfl rfl
theorem c_setSpot {g x : Int32} (h : xk_ix (9 + g) 51 = true) : xk_Ev (xp_P sc) 35 0 [.ref 5, .int g, .int x] [] (cw sl ex ab ta dr md ml mt mc on ct r) (.inl none, 0, cw sl ex ab (upd ta (9 + g).toNatClampNeg (x + 1)) dr md ml mt mc on ct r) := by
  apply xk_Ev.of
  refine xk_Po.go 8 rfl ?_
  refine xk_Po.ok rfl rfl (by assumption) ?_ -- .iastore
  exact xk_Po.ret rfl rfl
theorem c_elementsOf {g : Int32} (h : xk_ix (5 + g) 51 = true) : xk_Ev (xp_P sc) 31 0 [.ref 5, .int g] [] (cw sl ex ab ta dr md ml mt mc on ct r) (.inl (some (.int (ta (5 + g).toNatClampNeg / 32))), 0, cw sl ex ab ta dr md ml mt mc on ct r) := by
  apply xk_Ev.of
  refine xk_Po.go 5 rfl ?_
  refine xk_Po.ok rfl rfl (by assumption) ?_ -- .iaload
  refine xk_Po.go 2 rfl ?_
  exact xk_Po.iret rfl rfl
theorem c_kindOf {g : Int32} (h : xk_ix (5 + g) 51 = true) : xk_Ev (xp_P sc) 29 0 [.ref 5, .int g] [] (cw sl ex ab ta dr md ml mt mc on ct r) (.inl (some (.int (ta (5 + g).toNatClampNeg % 4 - 1))), 0, cw sl ex ab ta dr md ml mt mc on ct r) := by
  apply xk_Ev.of
  refine xk_Po.go 5 rfl ?_
  refine xk_Po.ok rfl rfl (by assumption) ?_ -- .iaload
  refine xk_Po.go 4 rfl ?_
  exact xk_Po.iret rfl rfl
theorem d_serial  : xk_Ev (xp_P sc) 21 0 [.ref 7] [] (cw sl ex ab ta dr md ml mt mc on ct r) (.inl (some (.int (dr 0))), 0, cw sl ex ab ta dr md ml mt mc on ct r) := by
  apply xk_Ev.of
  refine xk_Po.go 4 rfl ?_
  exact xk_Po.iret rfl rfl
theorem d_extentsOf {g : Int32} (h : xk_ix (1 + g) 51 = true) : xk_Ev (xp_P sc) 23 0 [.ref 7, .int g] [] (cw sl ex ab ta dr md ml mt mc on ct r) (.inl (some (.int (dr (1 + g).toNatClampNeg))), 0, cw sl ex ab ta dr md ml mt mc on ct r) := by
  apply xk_Ev.of
  refine xk_Po.go 5 rfl ?_
  refine xk_Po.ok rfl rfl (by assumption) ?_ -- .iaload
  exact xk_Po.iret rfl rfl
theorem d_setExtents {g x : Int32} (h : xk_ix (1 + g) 51 = true) : xk_Ev (xp_P sc) 24 0 [.ref 7, .int g, .int x] [] (cw sl ex ab ta dr md ml mt mc on ct r) (.inl none, 0, cw sl ex ab ta (upd dr (1 + g).toNatClampNeg x) md ml mt mc on ct r) := by
  apply xk_Ev.of
  refine xk_Po.go 6 rfl ?_
  refine xk_Po.ok rfl rfl (by assumption) ?_ -- .iastore
  exact xk_Po.ret rfl rfl
theorem d_spotOf {g : Int32} (h : xk_ix (9 + g) 51 = true) : xk_Ev (xp_P sc) 34 0 [.ref 7, .int g] [] (cw sl ex ab ta dr md ml mt mc on ct r) (.inl (some (.int (dr (9 + g).toNatClampNeg - 1))), 0, cw sl ex ab ta dr md ml mt mc on ct r) := by
  apply xk_Ev.of
  refine xk_Po.go 5 rfl ?_
  refine xk_Po.ok rfl rfl (by assumption) ?_ -- .iaload
  refine xk_Po.go 2 rfl ?_
  exact xk_Po.iret rfl rfl
theorem d_setSpot {g x : Int32} (h : xk_ix (9 + g) 51 = true) : xk_Ev (xp_P sc) 35 0 [.ref 7, .int g, .int x] [] (cw sl ex ab ta dr md ml mt mc on ct r) (.inl none, 0, cw sl ex ab ta (upd dr (9 + g).toNatClampNeg (x + 1)) md ml mt mc on ct r) := by
  apply xk_Ev.of
  refine xk_Po.go 8 rfl ?_
  refine xk_Po.ok rfl rfl (by assumption) ?_ -- .iastore
  exact xk_Po.ret rfl rfl
theorem d_elementsOf {g : Int32} (h : xk_ix (5 + g) 51 = true) : xk_Ev (xp_P sc) 31 0 [.ref 7, .int g] [] (cw sl ex ab ta dr md ml mt mc on ct r) (.inl (some (.int (dr (5 + g).toNatClampNeg / 32))), 0, cw sl ex ab ta dr md ml mt mc on ct r) := by
  apply xk_Ev.of
  refine xk_Po.go 5 rfl ?_
  refine xk_Po.ok rfl rfl (by assumption) ?_ -- .iaload
  refine xk_Po.go 2 rfl ?_
  exact xk_Po.iret rfl rfl
theorem d_kindOf {g : Int32} (h : xk_ix (5 + g) 51 = true) : xk_Ev (xp_P sc) 29 0 [.ref 7, .int g] [] (cw sl ex ab ta dr md ml mt mc on ct r) (.inl (some (.int (dr (5 + g).toNatClampNeg % 4 - 1))), 0, cw sl ex ab ta dr md ml mt mc on ct r) := by
  apply xk_Ev.of
  refine xk_Po.go 5 rfl ?_
  refine xk_Po.ok rfl rfl (by assumption) ?_ -- .iaload
  refine xk_Po.go 4 rfl ?_
  exact xk_Po.iret rfl rfl
theorem c_diskOf {g : Int32} : xk_Ev (xp_P sc) 75 0 [.int g] [] (w) (.inl (some (.int (s_disk g))), 0, w) := by
  apply xk_Ev.of
  refine xk_Po.go 2 rfl ?_
  refine xk_Po.br rfl rfl (fun h0 => ?_) (fun h0 => ?_) -- .if_icmp .ne 5
  · refine xk_Po.go 2 rfl ?_
    exact xk_Po.iret rfl (by first | exact congrArg (fun z => ((Sum.inl (some (Value.int z)), 0, w) : xk_R)) (if_pos h0).symm | exact congrArg (fun z => ((Sum.inl (some (Value.int z)), 0, w) : xk_R)) (if_neg h0).symm)
  · refine xk_Po.go 3 rfl ?_
    exact xk_Po.iret rfl (by first | exact congrArg (fun z => ((Sum.inl (some (Value.int z)), 0, w) : xk_R)) (if_pos h0).symm | exact congrArg (fun z => ((Sum.inl (some (Value.int z)), 0, w) : xk_R)) (if_neg h0).symm)
theorem c_legOf {a b c : Int32} : xk_Ev (xp_P sc) 74 0 [.int a, .int b, .int c] [] (w) (.inl (some (.int (a * 10 + b * 2 + c))), 0, w) := by
  apply xk_Ev.of
  refine xk_Po.go 9 rfl ?_
  exact xk_Po.iret rfl rfl
theorem c_startOfSlot {a b : Int32} : xk_Ev (xp_P sc) 2 0 [.int a, .int b] [] (w) (.inl (some (.int ((a * 2 + b) * 51))), 0, w) := by
  apply xk_Ev.of
  refine xk_Po.go 7 rfl ?_
  exact xk_Po.iret rfl rfl
theorem c_begin {g : Int32} : xk_Ev (xp_P sc) 12 0 [.ref 9, .int g] [] (cw sl ex ab ta dr md ml mt mc on ct r) (.inl none, 0, cw sl ex ab ta dr g ml mt mc on ct r) := by
  apply xk_Ev.of
  refine xk_Po.go 3 rfl ?_
  exact xk_Po.ret rfl rfl
theorem c_end  : xk_Ev (xp_P sc) 13 0 [.ref 9] [] (cw sl ex ab ta dr md ml mt mc on ct r) (.inl none, 0, cw sl ex ab ta dr (-1) (-1) (-1) mc on ct r) := by
  apply xk_Ev.of
  refine xk_Po.go 9 rfl ?_
  exact xk_Po.ret rfl rfl
theorem c_endCopy  : xk_Ev (xp_P sc) 15 0 [.ref 9] [] (cw sl ex ab ta dr md ml mt mc on ct r) (.inl none, 0, cw sl ex ab ta dr md (-1) (-1) mc on ct r) := by
  apply xk_Ev.of
  refine xk_Po.go 6 rfl ?_
  exact xk_Po.ret rfl rfl
theorem c_beginCopy {g x : Int32} : xk_Ev (xp_P sc) 14 0 [.ref 9, .int g, .int x] [] (cw sl ex ab ta dr md ml mt mc on ct r) (.inl none, 0, cw sl ex ab ta dr md g x 0 on ct r) := by
  apply xk_Ev.of
  refine xk_Po.go 9 rfl ?_
  exact xk_Po.ret rfl rfl
theorem c_losePower  : xk_Ev (xp_P sc) 81 0 [.ref 0] [] (cw sl ex ab ta dr md ml mt mc on ct r) (.inl none, 0, cw sl ex ab ta dr (-1) (-1) (-1) mc 0 (-1) r) := by
  apply xk_Ev.of
  refine xk_Po.go 8 rfl ?_
  refine xk_Po.cv1 rfl rfl (c_end) ?_
  exact xk_Po.ret rfl rfl
end XkCls
