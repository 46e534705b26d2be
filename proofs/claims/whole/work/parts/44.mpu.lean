section XkMpu
variable {sc : Nat × (Nat → Int32)} {p : xk_Ten} {pr sl ex ta nx : Nat → Int32} {th on lf mo cv cg cT cp : Int32} {r w : xk_W}
theorem r_isDisk0 {g : Int32} (h : g < 0 ∨ Int32.ofInt 4 ≤ g) : xk_Ev (xp_P sc) 108 0 [.int g] [] w (.inl (some (.int 0)), 0, w) := by
  have e := r_isDisk (sc := sc) (w := w) (g := g)
  by_cases q : g < 0
  · rw [if_pos q] at e
    exact e
  · rw [if_neg q, if_pos (h.elim (fun r => absurd r q) id)] at e
    exact e
theorem r_isDisk1 {j : Nat} (hj : j < 4) : xk_Ev (xp_P sc) 108 0 [.int (Int32.ofNat j)] [] w (.inl (some (.int 1)), 0, w) := by
  have e := r_isDisk (sc := sc) (w := w) (g := Int32.ofNat j)
  rw [if_neg (xn_nneg (by omega)), if_neg (show ¬ Int32.ofInt 4 ≤ Int32.ofNat j from fun q => absurd ((xn_le (a := 4) (by omega) (by omega)).1 q) (by omega))] at e
  exact e
theorem r_add_off {g0 g1 : Int32} : xk_Ev (xp_P sc) 133 0 [.ref 10, .int g0, .int g1, .retAddr 0] [] (mw p th pr sl ex ta nx (0) lf mo cv cg cT cp r) (.inl none, 0, mw p (1) pr sl ex ta nx (0) lf mo cv cg cT cp r) := by
  apply xk_Ev.of
  refine xk_Po.go 10 rfl ?_
  exact xk_Po.ret rfl (rfl)
theorem r_remove_off {g0 : Int32} : xk_Ev (xp_P sc) 134 0 [.ref 10, .int g0, .retAddr 0] [] (mw p th pr sl ex ta nx (0) lf mo cv cg cT cp r) (.inl none, 0, mw p (1) pr sl ex ta nx (0) lf mo cv cg cT cp r) := by
  apply xk_Ev.of
  refine xk_Po.go 10 rfl ?_
  exact xk_Po.ret rfl (rfl)
theorem r_drop_off {g0 : Int32} : xk_Ev (xp_P sc) 135 0 [.ref 10, .int g0, .retAddr 0, .retAddr 0, .retAddr 0] [] (mw p th pr sl ex ta nx (0) lf mo cv cg cT cp r) (.inl (some (.int 0)), 0, mw p (1) pr sl ex ta nx (0) lf mo cv cg cT cp r) := by
  apply xk_Ev.of
  refine xk_Po.go 11 rfl ?_
  exact xk_Po.iret rfl (rfl)
theorem r_grow_off {g0 g1 : Int32} : xk_Ev (xp_P sc) 138 0 [.ref 10, .int g0, .int g1, .retAddr 0] [] (mw p th pr sl ex ta nx (0) lf mo cv cg cT cp r) (.inl (some (.int 0)), 0, mw p (1) pr sl ex ta nx (0) lf mo cv cg cT cp r) := by
  apply xk_Ev.of
  refine xk_Po.go 11 rfl ?_
  exact xk_Po.iret rfl (rfl)
theorem r_shrink_off {g0 g1 : Int32} : xk_Ev (xp_P sc) 139 0 [.ref 10, .int g0, .int g1, .retAddr 0, .retAddr 0] [] (mw p th pr sl ex ta nx (0) lf mo cv cg cT cp r) (.inl (some (.int 0)), 0, mw p (1) pr sl ex ta nx (0) lf mo cv cg cT cp r) := by
  apply xk_Ev.of
  refine xk_Po.go 11 rfl ?_
  exact xk_Po.iret rfl (rfl)
theorem r_delete_off {g0 : Int32} : xk_Ev (xp_P sc) 140 0 [.ref 10, .int g0, .retAddr 0] [] (mw p th pr sl ex ta nx (0) lf mo cv cg cT cp r) (.inl none, 0, mw p (1) pr sl ex ta nx (0) lf mo cv cg cT cp r) := by
  apply xk_Ev.of
  refine xk_Po.go 10 rfl ?_
  exact xk_Po.ret rfl (rfl)
theorem r_mend_off {g0 : Int32} : xk_Ev (xp_P sc) 142 0 [.ref 10, .int g0, .retAddr 0, .retAddr 0, .retAddr 0, .retAddr 0] [] (mw p th pr sl ex ta nx (0) lf mo cv cg cT cp r) (.inl (some (.int 0)), 0, mw p (1) pr sl ex ta nx (0) lf mo cv cg cT cp r) := by
  apply xk_Ev.of
  refine xk_Po.go 11 rfl ?_
  exact xk_Po.iret rfl (rfl)
theorem r_write_off {g0 g1 g2 : Int32} : xk_Ev (xp_P sc) 146 0 [.ref 10, .int g0, .int g1, .int g2, .retAddr 0, .retAddr 0, .retAddr 0, .retAddr 0, .retAddr 0, .retAddr 0] [] (mw p th pr sl ex ta nx (0) lf mo cv cg cT cp r) (.inl (some (.int 0)), 0, mw p (1) pr sl ex ta nx (0) lf mo cv cg cT cp r) := by
  apply xk_Ev.of
  refine xk_Po.go 11 rfl ?_
  exact xk_Po.iret rfl (rfl)
theorem r_read_off {g0 g1 : Int32} : xk_Ev (xp_P sc) 147 0 [.ref 10, .int g0, .int g1, .retAddr 0, .retAddr 0] [] (mw p th pr sl ex ta nx (0) lf mo cv cg cT cp r) (.inl (some (.int 0)), 0, mw p (1) pr sl ex ta nx (0) lf mo cv cg cT cp r) := by
  apply xk_Ev.of
  refine xk_Po.go 11 rfl ?_
  exact xk_Po.iret rfl (rfl)
theorem r_empty_off {g0 : Int32} : xk_Ev (xp_P sc) 148 0 [.ref 10, .int g0] [] (mw p th pr sl ex ta nx (0) lf mo cv cg cT cp r) (.inl (some (.int 0)), 0, mw p (1) pr sl ex ta nx (0) lf mo cv cg cT cp r) := by
  apply xk_Ev.of
  refine xk_Po.go 11 rfl ?_
  exact xk_Po.iret rfl (rfl)
theorem r_step_off  : xk_Ev (xp_P sc) 149 0 [.ref 10, .retAddr 0, .retAddr 0] [] (mw p th pr sl ex ta nx (0) lf mo cv cg cT cp r) (.inl (some (.int 0)), 0, mw p (1) pr sl ex ta nx (0) lf mo cv cg cT cp r) := by
  apply xk_Ev.of
  refine xk_Po.go 11 rfl ?_
  exact xk_Po.iret rfl (rfl)
theorem r_volume_off {g0 g1 : Int32} : xk_Ev (xp_P sc) 151 0 [.ref 10, .int g0, .int g1, .retAddr 0] [] (mw p th pr sl ex ta nx (0) lf mo cv cg cT cp r) (.inl (some (.int 0)), 0, mw p (1) pr sl ex ta nx (0) lf mo cv cg cT cp r) := by
  apply xk_Ev.of
  refine xk_Po.go 11 rfl ?_
  exact xk_Po.iret rfl (rfl)
theorem r_where_off {g0 g1 g2 : Int32} : xk_Ev (xp_P sc) 152 0 [.ref 10, .int g0, .int g1, .int g2] [] (mw p th pr sl ex ta nx (0) lf mo cv cg cT cp r) (.inl (some (.int 0)), 0, mw p (1) pr sl ex ta nx (0) lf mo cv cg cT cp r) := by
  apply xk_Ev.of
  refine xk_Po.go 15 rfl ?_
  exact xk_Po.iret rfl (rfl)
theorem r_free_off {g0 : Int32} : xk_Ev (xp_P sc) 153 0 [.ref 10, .int g0] [] (mw p th pr sl ex ta nx (0) lf mo cv cg cT cp r) (.inl (some (.int 0)), 0, mw p (1) pr sl ex ta nx (0) lf mo cv cg cT cp r) := by
  apply xk_Ev.of
  refine xk_Po.go 12 rfl ?_
  exact xk_Po.iret rfl (rfl)
theorem r_cut_off {g0 : Int32} : xk_Ev (xp_P sc) 156 0 [.ref 10, .int g0] [] (mw p th pr sl ex ta nx (0) lf mo cv cg cT cp r) (.inl none, 0, mw p (1) pr sl ex ta nx (0) lf mo cv cg cT cp r) := by
  apply xk_Ev.of
  refine xk_Po.go 15 rfl ?_
  exact xk_Po.ret rfl (rfl)
theorem r_add_nd {g : Int32} (hg : g < 0 ∨ Int32.ofInt 4 ≤ g) {g1 : Int32} : xk_Ev (xp_P sc) 133 0 [.ref 10, .int g, .int g1, .retAddr 0] [] (mw p th pr sl ex ta nx (1) lf mo cv cg cT cp r) (.inl none, 0, mw p (2) pr sl ex ta nx (1) lf mo cv cg cT cp r) := by
  apply xk_Ev.of
  refine xk_Po.go 5 rfl ?_
  refine xk_Po.ci1 rfl rfl (r_isDisk0 hg) ?_
  refine xk_Po.go 7 rfl ?_
  exact xk_Po.ret rfl (rfl)
theorem r_remove_nd {g : Int32} (hg : g < 0 ∨ Int32.ofInt 4 ≤ g)  : xk_Ev (xp_P sc) 134 0 [.ref 10, .int g, .retAddr 0] [] (mw p th pr sl ex ta nx (1) lf mo cv cg cT cp r) (.inl none, 0, mw p (2) pr sl ex ta nx (1) lf mo cv cg cT cp r) := by
  apply xk_Ev.of
  refine xk_Po.go 5 rfl ?_
  refine xk_Po.ci1 rfl rfl (r_isDisk0 hg) ?_
  refine xk_Po.go 7 rfl ?_
  exact xk_Po.ret rfl (rfl)
theorem r_drop_nd {g : Int32} (hg : g < 0 ∨ Int32.ofInt 4 ≤ g)  : xk_Ev (xp_P sc) 135 0 [.ref 10, .int g, .retAddr 0, .retAddr 0, .retAddr 0] [] (mw p th pr sl ex ta nx (1) lf mo cv cg cT cp r) (.inl (some (.int 0)), 0, mw p (2) pr sl ex ta nx (1) lf mo cv cg cT cp r) := by
  apply xk_Ev.of
  refine xk_Po.go 5 rfl ?_
  refine xk_Po.ci1 rfl rfl (r_isDisk0 hg) ?_
  refine xk_Po.go 8 rfl ?_
  exact xk_Po.iret rfl (rfl)
theorem r_empty_nd {g : Int32} (hg : g < 0 ∨ Int32.ofInt 4 ≤ g)  : xk_Ev (xp_P sc) 148 0 [.ref 10, .int g] [] (mw p th pr sl ex ta nx (1) lf mo cv cg cT cp r) (.inl (some (.int 0)), 0, mw p (2) pr sl ex ta nx (1) lf mo cv cg cT cp r) := by
  apply xk_Ev.of
  refine xk_Po.go 5 rfl ?_
  refine xk_Po.ci1 rfl rfl (r_isDisk0 hg) ?_
  refine xk_Po.go 8 rfl ?_
  exact xk_Po.iret rfl (rfl)
theorem r_free_nd {g : Int32} (hg : g < 0 ∨ Int32.ofInt 4 ≤ g)  : xk_Ev (xp_P sc) 153 0 [.ref 10, .int g] [] (mw p th pr sl ex ta nx (1) lf mo cv cg cT cp r) (.inl (some (.int 0)), 0, mw p (2) pr sl ex ta nx (1) lf mo cv cg cT cp r) := by
  apply xk_Ev.of
  refine xk_Po.go 5 rfl ?_
  refine xk_Po.ci1 rfl rfl (r_isDisk0 hg) ?_
  refine xk_Po.go 9 rfl ?_
  exact xk_Po.iret rfl (rfl)
theorem r_grow_nv {g : Int32} (hg : g < 0 ∨ Int32.ofInt 4 ≤ g) {g1 : Int32}  : xk_Ev (xp_P sc) 138 0 [.ref 10, .int g, .int g1, .retAddr 0] [] (mw p th pr sl ex ta nx (1) lf mo cv cg cT cp r) (.inl (some (.int 0)), 0, mw p (2) pr sl ex ta nx (1) lf mo cv cg cT cp r) := by
  apply xk_Ev.of
  refine xk_Po.go 6 rfl ?_
  refine xk_Po.ci2 rfl rfl (r_isVolume_t hg) ?_
  refine xk_Po.go 8 rfl ?_
  exact xk_Po.iret rfl (rfl)
theorem r_grow_uv {v : Nat} (hv : v < 4) (hu : ta (5 + v) = 0) {g1 : Int32}  : xk_Ev (xp_P sc) 138 0 [.ref 10, .int (Int32.ofNat v), .int g1, .retAddr 0] [] (mw p th pr sl ex ta nx (1) lf mo cv cg cT cp r) (.inl (some (.int 0)), 0, mw p (2) pr sl ex ta nx (1) lf mo cv cg cT cp r) := by
  apply xk_Ev.of
  refine xk_Po.go 6 rfl ?_
  refine xk_Po.ci2 rfl rfl (r_isVolume_u hv hu) ?_
  refine xk_Po.go 8 rfl ?_
  exact xk_Po.iret rfl (rfl)
theorem r_shrink_nv {g : Int32} (hg : g < 0 ∨ Int32.ofInt 4 ≤ g) {g1 : Int32}  : xk_Ev (xp_P sc) 139 0 [.ref 10, .int g, .int g1, .retAddr 0, .retAddr 0] [] (mw p th pr sl ex ta nx (1) lf mo cv cg cT cp r) (.inl (some (.int 0)), 0, mw p (2) pr sl ex ta nx (1) lf mo cv cg cT cp r) := by
  apply xk_Ev.of
  refine xk_Po.go 6 rfl ?_
  refine xk_Po.ci2 rfl rfl (r_isVolume_t hg) ?_
  refine xk_Po.go 8 rfl ?_
  exact xk_Po.iret rfl (rfl)
theorem r_shrink_uv {v : Nat} (hv : v < 4) (hu : ta (5 + v) = 0) {g1 : Int32}  : xk_Ev (xp_P sc) 139 0 [.ref 10, .int (Int32.ofNat v), .int g1, .retAddr 0, .retAddr 0] [] (mw p th pr sl ex ta nx (1) lf mo cv cg cT cp r) (.inl (some (.int 0)), 0, mw p (2) pr sl ex ta nx (1) lf mo cv cg cT cp r) := by
  apply xk_Ev.of
  refine xk_Po.go 6 rfl ?_
  refine xk_Po.ci2 rfl rfl (r_isVolume_u hv hu) ?_
  refine xk_Po.go 8 rfl ?_
  exact xk_Po.iret rfl (rfl)
theorem r_delete_nv {g : Int32} (hg : g < 0 ∨ Int32.ofInt 4 ≤ g)  : xk_Ev (xp_P sc) 140 0 [.ref 10, .int g, .retAddr 0] [] (mw p th pr sl ex ta nx (1) lf mo cv cg cT cp r) (.inl none, 0, mw p (2) pr sl ex ta nx (1) lf mo cv cg cT cp r) := by
  apply xk_Ev.of
  refine xk_Po.go 6 rfl ?_
  refine xk_Po.ci2 rfl rfl (r_isVolume_t hg) ?_
  refine xk_Po.go 7 rfl ?_
  exact xk_Po.ret rfl (rfl)
theorem r_delete_uv {v : Nat} (hv : v < 4) (hu : ta (5 + v) = 0)  : xk_Ev (xp_P sc) 140 0 [.ref 10, .int (Int32.ofNat v), .retAddr 0] [] (mw p th pr sl ex ta nx (1) lf mo cv cg cT cp r) (.inl none, 0, mw p (2) pr sl ex ta nx (1) lf mo cv cg cT cp r) := by
  apply xk_Ev.of
  refine xk_Po.go 6 rfl ?_
  refine xk_Po.ci2 rfl rfl (r_isVolume_u hv hu) ?_
  refine xk_Po.go 7 rfl ?_
  exact xk_Po.ret rfl (rfl)
theorem r_mend_nv {g : Int32} (hg : g < 0 ∨ Int32.ofInt 4 ≤ g)  : xk_Ev (xp_P sc) 142 0 [.ref 10, .int g, .retAddr 0, .retAddr 0, .retAddr 0, .retAddr 0] [] (mw p th pr sl ex ta nx (1) lf mo cv cg cT cp r) (.inl (some (.int 0)), 0, mw p (2) pr sl ex ta nx (1) lf mo cv cg cT cp r) := by
  apply xk_Ev.of
  refine xk_Po.go 6 rfl ?_
  refine xk_Po.ci2 rfl rfl (r_isVolume_t hg) ?_
  refine xk_Po.go 8 rfl ?_
  exact xk_Po.iret rfl (rfl)
theorem r_mend_uv {v : Nat} (hv : v < 4) (hu : ta (5 + v) = 0)  : xk_Ev (xp_P sc) 142 0 [.ref 10, .int (Int32.ofNat v), .retAddr 0, .retAddr 0, .retAddr 0, .retAddr 0] [] (mw p th pr sl ex ta nx (1) lf mo cv cg cT cp r) (.inl (some (.int 0)), 0, mw p (2) pr sl ex ta nx (1) lf mo cv cg cT cp r) := by
  apply xk_Ev.of
  refine xk_Po.go 6 rfl ?_
  refine xk_Po.ci2 rfl rfl (r_isVolume_u hv hu) ?_
  refine xk_Po.go 8 rfl ?_
  exact xk_Po.iret rfl (rfl)
theorem r_write_nv {g : Int32} (hg : g < 0 ∨ Int32.ofInt 4 ≤ g) {g1 g2 : Int32}  : xk_Ev (xp_P sc) 146 0 [.ref 10, .int g, .int g1, .int g2, .retAddr 0, .retAddr 0, .retAddr 0, .retAddr 0, .retAddr 0, .retAddr 0] [] (mw p th pr sl ex ta nx (1) lf mo cv cg cT cp r) (.inl (some (.int 0)), 0, mw p (2) pr sl ex ta nx (1) lf mo cv cg cT cp r) := by
  apply xk_Ev.of
  refine xk_Po.go 6 rfl ?_
  refine xk_Po.ci2 rfl rfl (r_isVolume_t hg) ?_
  refine xk_Po.go 8 rfl ?_
  exact xk_Po.iret rfl (rfl)
theorem r_write_uv {v : Nat} (hv : v < 4) (hu : ta (5 + v) = 0) {g1 g2 : Int32}  : xk_Ev (xp_P sc) 146 0 [.ref 10, .int (Int32.ofNat v), .int g1, .int g2, .retAddr 0, .retAddr 0, .retAddr 0, .retAddr 0, .retAddr 0, .retAddr 0] [] (mw p th pr sl ex ta nx (1) lf mo cv cg cT cp r) (.inl (some (.int 0)), 0, mw p (2) pr sl ex ta nx (1) lf mo cv cg cT cp r) := by
  apply xk_Ev.of
  refine xk_Po.go 6 rfl ?_
  refine xk_Po.ci2 rfl rfl (r_isVolume_u hv hu) ?_
  refine xk_Po.go 8 rfl ?_
  exact xk_Po.iret rfl (rfl)
theorem r_read_nv {g : Int32} (hg : g < 0 ∨ Int32.ofInt 4 ≤ g) {g1 : Int32}  : xk_Ev (xp_P sc) 147 0 [.ref 10, .int g, .int g1, .retAddr 0, .retAddr 0] [] (mw p th pr sl ex ta nx (1) lf mo cv cg cT cp r) (.inl (some (.int 0)), 0, mw p (2) pr sl ex ta nx (1) lf mo cv cg cT cp r) := by
  apply xk_Ev.of
  refine xk_Po.go 6 rfl ?_
  refine xk_Po.ci2 rfl rfl (r_isVolume_t hg) ?_
  refine xk_Po.go 8 rfl ?_
  exact xk_Po.iret rfl (rfl)
theorem r_read_uv {v : Nat} (hv : v < 4) (hu : ta (5 + v) = 0) {g1 : Int32}  : xk_Ev (xp_P sc) 147 0 [.ref 10, .int (Int32.ofNat v), .int g1, .retAddr 0, .retAddr 0] [] (mw p th pr sl ex ta nx (1) lf mo cv cg cT cp r) (.inl (some (.int 0)), 0, mw p (2) pr sl ex ta nx (1) lf mo cv cg cT cp r) := by
  apply xk_Ev.of
  refine xk_Po.go 6 rfl ?_
  refine xk_Po.ci2 rfl rfl (r_isVolume_u hv hu) ?_
  refine xk_Po.go 8 rfl ?_
  exact xk_Po.iret rfl (rfl)
theorem r_volume_nv {g : Int32} (hg : g < 0 ∨ Int32.ofInt 4 ≤ g) {g1 : Int32}  : xk_Ev (xp_P sc) 151 0 [.ref 10, .int g, .int g1, .retAddr 0] [] (mw p th pr sl ex ta nx (1) lf mo cv cg cT cp r) (.inl (some (.int 0)), 0, mw p (2) pr sl ex ta nx (1) lf mo cv cg cT cp r) := by
  apply xk_Ev.of
  refine xk_Po.go 6 rfl ?_
  refine xk_Po.ci2 rfl rfl (r_isVolume_t hg) ?_
  refine xk_Po.go 8 rfl ?_
  exact xk_Po.iret rfl (rfl)
theorem r_volume_uv {v : Nat} (hv : v < 4) (hu : ta (5 + v) = 0) {g1 : Int32}  : xk_Ev (xp_P sc) 151 0 [.ref 10, .int (Int32.ofNat v), .int g1, .retAddr 0] [] (mw p th pr sl ex ta nx (1) lf mo cv cg cT cp r) (.inl (some (.int 0)), 0, mw p (2) pr sl ex ta nx (1) lf mo cv cg cT cp r) := by
  apply xk_Ev.of
  refine xk_Po.go 6 rfl ?_
  refine xk_Po.ci2 rfl rfl (r_isVolume_u hv hu) ?_
  refine xk_Po.go 8 rfl ?_
  exact xk_Po.iret rfl (rfl)
theorem r_where_nv {g : Int32} (hg : g < 0 ∨ Int32.ofInt 4 ≤ g) {g1 g2 : Int32}  : xk_Ev (xp_P sc) 152 0 [.ref 10, .int g, .int g1, .int g2] [] (mw p th pr sl ex ta nx (1) lf mo cv cg cT cp r) (.inl (some (.int 0)), 0, mw p (2) pr sl ex ta nx (1) lf mo cv cg cT cp r) := by
  apply xk_Ev.of
  refine xk_Po.go 6 rfl ?_
  refine xk_Po.ci2 rfl rfl (r_isVolume_t hg) ?_
  refine xk_Po.go 12 rfl ?_
  exact xk_Po.iret rfl (rfl)
theorem r_where_uv {v : Nat} (hv : v < 4) (hu : ta (5 + v) = 0) {g1 g2 : Int32}  : xk_Ev (xp_P sc) 152 0 [.ref 10, .int (Int32.ofNat v), .int g1, .int g2] [] (mw p th pr sl ex ta nx (1) lf mo cv cg cT cp r) (.inl (some (.int 0)), 0, mw p (2) pr sl ex ta nx (1) lf mo cv cg cT cp r) := by
  apply xk_Ev.of
  refine xk_Po.go 6 rfl ?_
  refine xk_Po.ci2 rfl rfl (r_isVolume_u hv hu) ?_
  refine xk_Po.go 12 rfl ?_
  exact xk_Po.iret rfl (rfl)
theorem r_cut_bad {g : Int32} (h : g < Int32.ofInt (-1)) : xk_Ev (xp_P sc) 156 0 [.ref 10, .int g] [] (mw p th pr sl ex ta nx (1) lf mo cv cg cT cp r) (.inl none, 0, mw p (2) pr sl ex ta nx (1) lf mo cv cg cT cp r) := by
  apply xk_Ev.of
  refine xk_Po.go 6 rfl ?_
  refine xk_Po.br rfl rfl (fun hx => absurd hx (fun q => absurd h (fun r => by rw [Int32.lt_iff_toInt_lt] at r; rw [Int32.le_iff_toInt_le] at q; omega))) (fun _ => ?_) -- 8 .if_icmp .ge 11
  refine xk_Po.go 11 rfl ?_
  exact xk_Po.ret rfl (rfl)
theorem r_cut {g : Int32} (h : ¬ g < Int32.ofInt (-1)) : xk_Ev (xp_P sc) 156 0 [.ref 10, .int g] [] (mw p th pr sl ex ta nx (1) lf mo cv cg cT cp r) (.inl none, 0, mw p (0) pr sl ex ta nx (1) (g) mo cv cg cT cp r) := by
  apply xk_Ev.of
  refine xk_Po.go 6 rfl ?_
  refine xk_Po.br rfl rfl (fun _ => ?_) (fun hx => absurd (Decidable.byContradiction (fun q => h (by rw [Int32.lt_iff_toInt_lt]; rw [Int32.le_iff_toInt_le] at q; omega))) hx) -- 8 .if_icmp .ge 11
  refine xk_Po.go 8 rfl ?_
  exact xk_Po.ret rfl (rfl)
theorem r_off_on  : xk_Ev (xp_P sc) 157 0 [.ref 10] [] (mw p th pr sl ex ta nx (1) lf mo cv cg cT cp r) (.inl none, 0, mw p (0) pr sl ex ta nx (0) (-1) (-1) cv cg cT cp r) := by
  apply xk_Ev.of
  refine xk_Po.go 16 rfl ?_
  exact xk_Po.ret rfl (rfl)
theorem r_off_off  : xk_Ev (xp_P sc) 157 0 [.ref 10] [] (mw p th pr sl ex ta nx (0) lf mo cv cg cT cp r) (.inl none, 0, mw p (1) pr sl ex ta nx (0) (-1) (-1) cv cg cT cp r) := by
  apply xk_Ev.of
  refine xk_Po.go 15 rfl ?_
  exact xk_Po.ret rfl (rfl)
theorem r_plug_on {g b : Int32} : xk_Ev (xp_P sc) 158 0 [.ref 10, .int g, .int b, .retAddr 0] [] (mw p th pr sl ex ta nx (1) lf mo cv cg cT cp r) (.inl (some (.int 0)), 0, mw p (1) pr sl ex ta nx (1) lf mo cv cg cT cp r) := by
  apply xk_Ev.of
  refine xk_Po.go 11 rfl ?_
  exact xk_Po.zret rfl (by first | decide | assumption | exact hb _) (rfl)
theorem r_plug_nd {g : Int32} (hg : g < 0 ∨ Int32.ofInt 4 ≤ g) {b : Int32} : xk_Ev (xp_P sc) 158 0 [.ref 10, .int g, .int b, .retAddr 0] [] (mw p th pr sl ex ta nx (0) lf mo cv cg cT cp r) (.inl (some (.int 0)), 0, mw p (2) pr sl ex ta nx (0) lf mo cv cg cT cp r) := by
  apply xk_Ev.of
  refine xk_Po.go 5 rfl ?_
  refine xk_Po.ci1 rfl rfl (r_isDisk0 hg) ?_
  refine xk_Po.go 8 rfl ?_
  exact xk_Po.zret rfl (by first | decide | assumption | exact hb _) (rfl)
theorem r_plug0y {j : Nat} (hj : j < 4) (h : pr j = 0) : xk_Ev (xp_P sc) 158 0 [.ref 10, .int (Int32.ofNat j), .int 0, .retAddr 0] [] (mw p th pr sl ex ta nx (0) lf mo cv cg cT cp r) (.inl (some (.int (0))), 0, mw p (0) (upd pr j 0) sl ex ta nx (0) lf mo cv cg cT cp r) := by
  apply xk_Ev.of
  refine xk_Po.go 5 rfl ?_
  refine xk_Po.ci1 rfl rfl (r_isDisk1 hj) ?_
  refine xk_Po.go 9 rfl ?_
  refine xk_Po.ok rfl rfl (xn_ix (j := j) (by omega) (by omega)) ?_ -- 21 .baload
  rw [xn_nat (j := j) (by omega)]
  refine xk_Po.go 1 rfl ?_
  refine xk_Po.br rfl rfl (fun _ => ?_) (fun hx => absurd (h) hx) -- 23 .if_icmp .eq 26
  refine xk_Po.go 6 rfl ?_
  refine xk_Po.ok rfl rfl (xn_ix (j := j) (by omega) (by omega)) ?_ -- 32 .bastore
  rw [xn_nat (j := j) (by omega)]
  refine xk_Po.go 1 rfl ?_
  exact xk_Po.zret rfl (by first | decide | assumption | exact hb _) (rfl)
theorem r_plug0n {j : Nat} (hj : j < 4) (h : ¬ pr j = 0) : xk_Ev (xp_P sc) 158 0 [.ref 10, .int (Int32.ofNat j), .int 0, .retAddr 0] [] (mw p th pr sl ex ta nx (0) lf mo cv cg cT cp r) (.inl (some (.int (1))), 0, mw p (0) (upd pr j 0) sl ex ta nx (0) lf mo cv cg cT cp r) := by
  apply xk_Ev.of
  refine xk_Po.go 5 rfl ?_
  refine xk_Po.ci1 rfl rfl (r_isDisk1 hj) ?_
  refine xk_Po.go 9 rfl ?_
  refine xk_Po.ok rfl rfl (xn_ix (j := j) (by omega) (by omega)) ?_ -- 21 .baload
  rw [xn_nat (j := j) (by omega)]
  refine xk_Po.go 1 rfl ?_
  refine xk_Po.br rfl rfl (fun hx => absurd hx (h)) (fun _ => ?_) -- 23 .if_icmp .eq 26
  refine xk_Po.go 7 rfl ?_
  refine xk_Po.ok rfl rfl (xn_ix (j := j) (by omega) (by omega)) ?_ -- 32 .bastore
  rw [xn_nat (j := j) (by omega)]
  refine xk_Po.go 1 rfl ?_
  exact xk_Po.zret rfl (by first | decide | assumption | exact hb _) (rfl)
theorem r_plug1y {j : Nat} (hj : j < 4) (h : pr j = 1) : xk_Ev (xp_P sc) 158 0 [.ref 10, .int (Int32.ofNat j), .int 1, .retAddr 0] [] (mw p th pr sl ex ta nx (0) lf mo cv cg cT cp r) (.inl (some (.int (0))), 0, mw p (0) (upd pr j 1) sl ex ta nx (0) lf mo cv cg cT cp r) := by
  apply xk_Ev.of
  refine xk_Po.go 5 rfl ?_
  refine xk_Po.ci1 rfl rfl (r_isDisk1 hj) ?_
  refine xk_Po.go 9 rfl ?_
  refine xk_Po.ok rfl rfl (xn_ix (j := j) (by omega) (by omega)) ?_ -- 21 .baload
  rw [xn_nat (j := j) (by omega)]
  refine xk_Po.go 1 rfl ?_
  refine xk_Po.br rfl rfl (fun _ => ?_) (fun hx => absurd (h) hx) -- 23 .if_icmp .eq 26
  refine xk_Po.go 6 rfl ?_
  refine xk_Po.ok rfl rfl (xn_ix (j := j) (by omega) (by omega)) ?_ -- 32 .bastore
  rw [xn_nat (j := j) (by omega)]
  refine xk_Po.go 1 rfl ?_
  exact xk_Po.zret rfl (by first | decide | assumption | exact hb _) (rfl)
theorem r_plug1n {j : Nat} (hj : j < 4) (h : ¬ pr j = 1) : xk_Ev (xp_P sc) 158 0 [.ref 10, .int (Int32.ofNat j), .int 1, .retAddr 0] [] (mw p th pr sl ex ta nx (0) lf mo cv cg cT cp r) (.inl (some (.int (1))), 0, mw p (0) (upd pr j 1) sl ex ta nx (0) lf mo cv cg cT cp r) := by
  apply xk_Ev.of
  refine xk_Po.go 5 rfl ?_
  refine xk_Po.ci1 rfl rfl (r_isDisk1 hj) ?_
  refine xk_Po.go 9 rfl ?_
  refine xk_Po.ok rfl rfl (xn_ix (j := j) (by omega) (by omega)) ?_ -- 21 .baload
  rw [xn_nat (j := j) (by omega)]
  refine xk_Po.go 1 rfl ?_
  refine xk_Po.br rfl rfl (fun hx => absurd hx (h)) (fun _ => ?_) -- 23 .if_icmp .eq 26
  refine xk_Po.go 7 rfl ?_
  refine xk_Po.ok rfl rfl (xn_ix (j := j) (by omega) (by omega)) ?_ -- 32 .bastore
  rw [xn_nat (j := j) (by omega)]
  refine xk_Po.go 1 rfl ?_
  exact xk_Po.zret rfl (by first | decide | assumption | exact hb _) (rfl)
theorem r_moving_on  : xk_Ev (xp_P sc) 150 0 [.ref 10] [] (mw p th pr sl ex ta nx (1) lf mo cv cg cT cp r) (.inl (some (.int (mo))), 0, mw p (0) pr sl ex ta nx (1) lf mo cv cg cT cp r) := by
  apply xk_Ev.of
  refine xk_Po.go 9 rfl ?_
  exact xk_Po.iret rfl (rfl)
theorem r_moving_off  : xk_Ev (xp_P sc) 150 0 [.ref 10] [] (mw p th pr sl ex ta nx (0) lf mo cv cg cT cp r) (.inl (some (.int (-1))), 0, mw p (0) pr sl ex ta nx (0) lf mo cv cg cT cp r) := by
  apply xk_Ev.of
  refine xk_Po.go 7 rfl ?_
  exact xk_Po.iret rfl (rfl)
theorem r_number_on  : xk_Ev (xp_P sc) 154 0 [.ref 10] [] (mw p th pr sl ex ta nx (1) lf mo cv cg cT cp r) (.inl (some (.int (ta 0))), 0, mw p (0) pr sl ex ta nx (1) lf mo cv cg cT cp r) := by
  apply xk_Ev.of
  refine xk_Po.go 11 rfl ?_
  exact xk_Po.iret rfl (rfl)
theorem r_number_off  : xk_Ev (xp_P sc) 154 0 [.ref 10] [] (mw p th pr sl ex ta nx (0) lf mo cv cg cT cp r) (.inl (some (.int (-1))), 0, mw p (0) pr sl ex ta nx (0) lf mo cv cg cT cp r) := by
  apply xk_Ev.of
  refine xk_Po.go 7 rfl ?_
  exact xk_Po.iret rfl (rfl)
theorem r_free_nl {j : Nat} (hj : j < 4) (h : ta (1 + j) = 0) : xk_Ev (xp_P sc) 153 0 [.ref 10, .int (Int32.ofNat j)] [] (mw p th pr sl ex ta nx (1) lf mo cv cg cT cp r) (.inl (some (.int (-1))), 0, mw p (0) pr sl ex ta nx (1) lf mo cv cg cT cp r) := by
  apply xk_Ev.of
  refine xk_Po.go 5 rfl ?_
  refine xk_Po.ci1 rfl rfl (r_isDisk1 hj) ?_
  refine xk_Po.go 11 rfl ?_
  refine xk_Po.ok rfl rfl (xn_ixa (a := 1) (j := j) (by omega) (by omega)) ?_ -- 23 .iaload
  rw [show (Int32.ofInt 1 + Int32.ofNat j).toNatClampNeg = 1 + j from xn_nata (a := 1) (j := j) (by omega)]
  refine xk_Po.br rfl rfl (fun _ => ?_) (fun hx => absurd (h) hx) -- 24 .ifCond .ne 27
  refine xk_Po.go 2 rfl ?_
  exact xk_Po.iret rfl (rfl)
theorem r_free {j : Nat} (hj : j < 4) (h : ¬ ta (1 + j) = 0) {f : Nat → Nat} {x : Nat} (T : s_Tv ta f) (hC : n_cp mo cT x) : xk_Ev (xp_P sc) 153 0 [.ref 10, .int (Int32.ofNat j)] [] (mw p th pr sl ex ta nx (1) lf mo cv cg cT cp r) (.inl (some (.int (Int32.ofNat (n_cf f x j)))), 0, mw p (0) pr sl ex ta nx (1) lf mo cv cg cT cp r) := by
  apply xk_Ev.of
  refine xk_Po.go 5 rfl ?_
  refine xk_Po.ci1 rfl rfl (r_isDisk1 hj) ?_
  refine xk_Po.go 11 rfl ?_
  refine xk_Po.ok rfl rfl (xn_ixa (a := 1) (j := j) (by omega) (by omega)) ?_ -- 23 .iaload
  rw [show (Int32.ofInt 1 + Int32.ofNat j).toNatClampNeg = 1 + j from xn_nata (a := 1) (j := j) (by omega)]
  refine xk_Po.br rfl rfl (fun hx => absurd hx (h)) (fun _ => ?_) -- 24 .ifCond .ne 27
  refine xk_Po.go 4 rfl ?_
  refine xk_Po.ci3 rfl rfl (t_freeOn T hC hj) ?_
  exact xk_Po.iret rfl (rfl)
theorem r_empty_nl {j : Nat} (hj : j < 4) (h : ta (1 + j) = 0) : xk_Ev (xp_P sc) 148 0 [.ref 10, .int (Int32.ofNat j)] [] (mw p th pr sl ex ta nx (1) lf mo cv cg cT cp r) (.inl (some (.int 0)), 0, mw p (3) pr sl ex ta nx (1) lf mo cv cg cT cp r) := by
  apply xk_Ev.of
  refine xk_Po.go 5 rfl ?_
  refine xk_Po.ci1 rfl rfl (r_isDisk1 hj) ?_
  refine xk_Po.go 6 rfl ?_
  refine xk_Po.ok rfl rfl (xn_ixa (a := 1) (j := j) (by omega) (by omega)) ?_ -- 16 .iaload
  rw [show (Int32.ofInt 1 + Int32.ofNat j).toNatClampNeg = 1 + j from xn_nata (a := 1) (j := j) (by omega)]
  refine xk_Po.br rfl rfl (fun _ => ?_) (fun hx => absurd (h) hx) -- 17 .ifCond .eq 24
  refine xk_Po.go 7 rfl ?_
  exact xk_Po.iret rfl (rfl)
theorem r_empty_mv {j : Nat} (hj : j < 4) (h : ¬ ta (1 + j) = 0) (hm : 0 ≤ mo) : xk_Ev (xp_P sc) 148 0 [.ref 10, .int (Int32.ofNat j)] [] (mw p th pr sl ex ta nx (1) lf mo cv cg cT cp r) (.inl (some (.int 0)), 0, mw p (3) pr sl ex ta nx (1) lf mo cv cg cT cp r) := by
  apply xk_Ev.of
  refine xk_Po.go 5 rfl ?_
  refine xk_Po.ci1 rfl rfl (r_isDisk1 hj) ?_
  refine xk_Po.go 6 rfl ?_
  refine xk_Po.ok rfl rfl (xn_ixa (a := 1) (j := j) (by omega) (by omega)) ?_ -- 16 .iaload
  rw [show (Int32.ofInt 1 + Int32.ofNat j).toNatClampNeg = 1 + j from xn_nata (a := 1) (j := j) (by omega)]
  refine xk_Po.br rfl rfl (fun hx => absurd hx (h)) (fun _ => ?_) -- 17 .ifCond .eq 24
  refine xk_Po.go 2 rfl ?_
  refine xk_Po.br rfl rfl (fun _ => ?_) (fun hx => absurd (hm) hx) -- 20 .ifCond .ge 24
  refine xk_Po.go 7 rfl ?_
  exact xk_Po.iret rfl (rfl)
theorem r_empty_ab {j : Nat} (hj : j < 4) (h : ¬ ta (1 + j) = 0) (hm : ¬ 0 ≤ mo) (ha : ¬ p_abs ta pr 4 = 0) : xk_Ev (xp_P sc) 148 0 [.ref 10, .int (Int32.ofNat j)] [] (mw p th pr sl ex ta nx (1) lf mo cv cg cT cp r) (.inl (some (.int 0)), 0, mw p (3) pr sl ex ta nx (1) lf mo cv cg cT cp r) := by
  apply xk_Ev.of
  refine xk_Po.go 5 rfl ?_
  refine xk_Po.ci1 rfl rfl (r_isDisk1 hj) ?_
  refine xk_Po.go 6 rfl ?_
  refine xk_Po.ok rfl rfl (xn_ixa (a := 1) (j := j) (by omega) (by omega)) ?_ -- 16 .iaload
  rw [show (Int32.ofInt 1 + Int32.ofNat j).toNatClampNeg = 1 + j from xn_nata (a := 1) (j := j) (by omega)]
  refine xk_Po.br rfl rfl (fun hx => absurd hx (h)) (fun _ => ?_) -- 17 .ifCond .eq 24
  refine xk_Po.go 2 rfl ?_
  refine xk_Po.br rfl rfl (fun hx => absurd hx (hm)) (fun _ => ?_) -- 20 .ifCond .ge 24
  refine xk_Po.go 1 rfl ?_
  refine xk_Po.ci1 rfl rfl (r_isOneAbsent) ?_
  refine xk_Po.br rfl rfl (fun hx => absurd hx (ha)) (fun _ => ?_) -- 23 .ifCond .eq 26
  refine xk_Po.go 7 rfl ?_
  exact xk_Po.iret rfl (rfl)
theorem r_empty {j : Nat} (hj : j < 4) (h : ¬ ta (1 + j) = 0) (hm : ¬ 0 ≤ mo) (ha : p_abs ta pr 4 = 0) : xk_Ev (xp_P sc) 148 0 [.ref 10, .int (Int32.ofNat j)] [] (mw p th pr sl ex ta nx (1) lf mo cv cg cT cp r) (.inl (some (.int (p_leg ta (Int32.ofNat j) 40))), 0, mw p (0) pr sl ex ta nx (1) lf (Int32.ofNat j) cv cg (0) cp r) := by
  apply xk_Ev.of
  refine xk_Po.go 5 rfl ?_
  refine xk_Po.ci1 rfl rfl (r_isDisk1 hj) ?_
  refine xk_Po.go 6 rfl ?_
  refine xk_Po.ok rfl rfl (xn_ixa (a := 1) (j := j) (by omega) (by omega)) ?_ -- 16 .iaload
  rw [show (Int32.ofInt 1 + Int32.ofNat j).toNatClampNeg = 1 + j from xn_nata (a := 1) (j := j) (by omega)]
  refine xk_Po.br rfl rfl (fun hx => absurd hx (h)) (fun _ => ?_) -- 17 .ifCond .eq 24
  refine xk_Po.go 2 rfl ?_
  refine xk_Po.br rfl rfl (fun hx => absurd hx (hm)) (fun _ => ?_) -- 20 .ifCond .ge 24
  refine xk_Po.go 1 rfl ?_
  refine xk_Po.ci1 rfl rfl (r_isOneAbsent) ?_
  refine xk_Po.br rfl rfl (fun _ => ?_) (fun hx => absurd (ha) hx) -- 23 .ifCond .eq 26
  refine xk_Po.go 13 rfl ?_
  refine xk_Po.ci2 rfl rfl (r_legsOn) ?_
  exact xk_Po.iret rfl (rfl)
theorem r_volume_lo {v : Nat} (hv : v < 4) (hu : ¬ ta (5 + v) = 0) {g : Int32} (h : g < 0) : xk_Ev (xp_P sc) 151 0 [.ref 10, .int (Int32.ofNat v), .int g, .retAddr 0] [] (mw p th pr sl ex ta nx (1) lf mo cv cg cT cp r) (.inl (some (.int 0)), 0, mw p (3) pr sl ex ta nx (1) lf mo cv cg cT cp r) := by
  apply xk_Ev.of
  refine xk_Po.go 6 rfl ?_
  refine xk_Po.ci2 rfl rfl (r_isVolume hv hu) ?_
  refine xk_Po.go 2 rfl ?_
  refine xk_Po.br rfl rfl (fun _ => ?_) (fun hx => absurd (h) hx) -- 13 .ifCond .lt 17
  refine xk_Po.go 7 rfl ?_
  exact xk_Po.iret rfl (rfl)
theorem r_volume_hi {v : Nat} (hv : v < 4) (hu : ¬ ta (5 + v) = 0) {g : Int32} (h : ¬ g < 0) (h2 : ¬ g ≤ Int32.ofInt 3) : xk_Ev (xp_P sc) 151 0 [.ref 10, .int (Int32.ofNat v), .int g, .retAddr 0] [] (mw p th pr sl ex ta nx (1) lf mo cv cg cT cp r) (.inl (some (.int 0)), 0, mw p (3) pr sl ex ta nx (1) lf mo cv cg cT cp r) := by
  apply xk_Ev.of
  refine xk_Po.go 6 rfl ?_
  refine xk_Po.ci2 rfl rfl (r_isVolume hv hu) ?_
  refine xk_Po.go 2 rfl ?_
  refine xk_Po.br rfl rfl (fun hx => absurd hx (h)) (fun _ => ?_) -- 13 .ifCond .lt 17
  refine xk_Po.go 2 rfl ?_
  refine xk_Po.br rfl rfl (fun hx => absurd hx (h2)) (fun _ => ?_) -- 16 .if_icmp .le 19
  refine xk_Po.go 7 rfl ?_
  exact xk_Po.iret rfl (rfl)
theorem r_volume0 {v : Nat} (hv : v < 4) (hu : ¬ ta (5 + v) = 0)  : xk_Ev (xp_P sc) 151 0 [.ref 10, .int (Int32.ofNat v), .int 0, .retAddr 0] [] (mw p th pr sl ex ta nx (1) lf mo cv cg cT cp r) (.inl (some (.int (if ta (5 + v) = 0 then Int32.ofInt (-1) else ta (5 + v) % 4 - 1))), 0, mw p (0) pr sl ex ta nx (1) lf mo cv cg cT cp r) := by
  apply xk_Ev.of
  refine xk_Po.go 6 rfl ?_
  refine xk_Po.ci2 rfl rfl (r_isVolume hv hu) ?_
  refine xk_Po.go 14 rfl ?_
  refine xk_Po.ci2 rfl rfl (t_elementsOf hv) ?_
  refine xk_Po.go 6 rfl ?_
  refine xk_Po.ci2 rfl rfl (t_kindOf hv) ?_
  refine xk_Po.go 1 rfl ?_
  exact xk_Po.iret rfl (rfl)
theorem r_volume1 {v : Nat} (hv : v < 4) (hu : ¬ ta (5 + v) = 0)  : xk_Ev (xp_P sc) 151 0 [.ref 10, .int (Int32.ofNat v), .int 1, .retAddr 0] [] (mw p th pr sl ex ta nx (1) lf mo cv cg cT cp r) (.inl (some (.int (ta (5 + v) / 4 % 8))), 0, mw p (0) pr sl ex ta nx (1) lf mo cv cg cT cp r) := by
  apply xk_Ev.of
  refine xk_Po.go 6 rfl ?_
  refine xk_Po.ci2 rfl rfl (r_isVolume hv hu) ?_
  refine xk_Po.go 14 rfl ?_
  refine xk_Po.ci2 rfl rfl (t_elementsOf hv) ?_
  refine xk_Po.go 9 rfl ?_
  refine xk_Po.ci2 rfl rfl (t_columnsOf hv) ?_
  refine xk_Po.go 1 rfl ?_
  exact xk_Po.iret rfl (rfl)
theorem r_volume2 {v : Nat} (hv : v < 4) (hu : ¬ ta (5 + v) = 0)  : xk_Ev (xp_P sc) 151 0 [.ref 10, .int (Int32.ofNat v), .int 2, .retAddr 0] [] (mw p th pr sl ex ta nx (1) lf mo cv cg cT cp r) (.inl (some (.int (ta (5 + v) / 32))), 0, mw p (0) pr sl ex ta nx (1) lf mo cv cg cT cp r) := by
  apply xk_Ev.of
  refine xk_Po.go 6 rfl ?_
  refine xk_Po.ci2 rfl rfl (r_isVolume hv hu) ?_
  refine xk_Po.go 14 rfl ?_
  refine xk_Po.ci2 rfl rfl (t_elementsOf hv) ?_
  refine xk_Po.go 11 rfl ?_
  exact xk_Po.iret rfl (rfl)
theorem r_volume3 {v : Nat} (hv : v < 4) (hu : ¬ ta (5 + v) = 0)  : xk_Ev (xp_P sc) 151 0 [.ref 10, .int (Int32.ofNat v), .int 3, .retAddr 0] [] (mw p th pr sl ex ta nx (1) lf mo cv cg cT cp r) (.inl (some (.int (4 * (ta (5 + v) / 32)))), 0, mw p (0) pr sl ex ta nx (1) lf mo cv cg cT cp r) := by
  apply xk_Ev.of
  refine xk_Po.go 6 rfl ?_
  refine xk_Po.ci2 rfl rfl (r_isVolume hv hu) ?_
  refine xk_Po.go 14 rfl ?_
  refine xk_Po.ci2 rfl rfl (t_elementsOf hv) ?_
  refine xk_Po.go 12 rfl ?_
  exact xk_Po.iret rfl (rfl)
theorem r_where_1 {v : Nat} (hv : v < 4) (hu : ¬ ta (5 + v) = 0) {a b : Int32} (h : a < 0) : xk_Ev (xp_P sc) 152 0 [.ref 10, .int (Int32.ofNat v), .int a, .int b] [] (mw p th pr sl ex ta nx (1) lf mo cv cg cT cp r) (.inl (some (.int (-1))), 0, mw p (0) pr sl ex ta nx (1) lf mo cv cg cT cp r) := by
  apply xk_Ev.of
  refine xk_Po.go 6 rfl ?_
  refine xk_Po.ci2 rfl rfl (r_isVolume hv hu) ?_
  refine xk_Po.go 7 rfl ?_
  refine xk_Po.br rfl rfl (fun _ => ?_) (fun hx => absurd (h) hx) -- 18 .ifCond .lt 30
  refine xk_Po.go 4 rfl ?_
  exact xk_Po.iret rfl (rfl)
theorem r_where_2 {v : Nat} (hv : v < 4) (hu : ¬ ta (5 + v) = 0) {a b : Int32} (h1 : ¬ a < 0) (h : ta (5 + v) / 32 ≤ a) : xk_Ev (xp_P sc) 152 0 [.ref 10, .int (Int32.ofNat v), .int a, .int b] [] (mw p th pr sl ex ta nx (1) lf mo cv cg cT cp r) (.inl (some (.int (-1))), 0, mw p (0) pr sl ex ta nx (1) lf mo cv cg cT cp r) := by
  apply xk_Ev.of
  refine xk_Po.go 6 rfl ?_
  refine xk_Po.ci2 rfl rfl (r_isVolume hv hu) ?_
  refine xk_Po.go 7 rfl ?_
  refine xk_Po.br rfl rfl (fun hx => absurd hx (h1)) (fun _ => ?_) -- 18 .ifCond .lt 30
  refine xk_Po.go 4 rfl ?_
  refine xk_Po.ci2 rfl rfl (t_elementsOf hv) ?_
  refine xk_Po.br rfl rfl (fun _ => ?_) (fun hx => absurd (h) hx) -- 24 .if_icmp .ge 30
  refine xk_Po.go 4 rfl ?_
  exact xk_Po.iret rfl (rfl)
theorem r_where_3 {v : Nat} (hv : v < 4) (hu : ¬ ta (5 + v) = 0) {a b : Int32} (h1 : ¬ a < 0) (h2 : ¬ ta (5 + v) / 32 ≤ a) (h : b < 0) : xk_Ev (xp_P sc) 152 0 [.ref 10, .int (Int32.ofNat v), .int a, .int b] [] (mw p th pr sl ex ta nx (1) lf mo cv cg cT cp r) (.inl (some (.int (-1))), 0, mw p (0) pr sl ex ta nx (1) lf mo cv cg cT cp r) := by
  apply xk_Ev.of
  refine xk_Po.go 6 rfl ?_
  refine xk_Po.ci2 rfl rfl (r_isVolume hv hu) ?_
  refine xk_Po.go 7 rfl ?_
  refine xk_Po.br rfl rfl (fun hx => absurd hx (h1)) (fun _ => ?_) -- 18 .ifCond .lt 30
  refine xk_Po.go 4 rfl ?_
  refine xk_Po.ci2 rfl rfl (t_elementsOf hv) ?_
  refine xk_Po.br rfl rfl (fun hx => absurd hx (h2)) (fun _ => ?_) -- 24 .if_icmp .ge 30
  refine xk_Po.go 1 rfl ?_
  refine xk_Po.br rfl rfl (fun _ => ?_) (fun hx => absurd (h) hx) -- 26 .ifCond .lt 30
  refine xk_Po.go 4 rfl ?_
  exact xk_Po.iret rfl (rfl)
theorem r_where_4 {v : Nat} (hv : v < 4) (hu : ¬ ta (5 + v) = 0) {a b : Int32} (h1 : ¬ a < 0) (h2 : ¬ ta (5 + v) / 32 ≤ a) (h3 : ¬ b < 0) (h : ¬ b ≤ Int32.ofInt 1) : xk_Ev (xp_P sc) 152 0 [.ref 10, .int (Int32.ofNat v), .int a, .int b] [] (mw p th pr sl ex ta nx (1) lf mo cv cg cT cp r) (.inl (some (.int (-1))), 0, mw p (0) pr sl ex ta nx (1) lf mo cv cg cT cp r) := by
  apply xk_Ev.of
  refine xk_Po.go 6 rfl ?_
  refine xk_Po.ci2 rfl rfl (r_isVolume hv hu) ?_
  refine xk_Po.go 7 rfl ?_
  refine xk_Po.br rfl rfl (fun hx => absurd hx (h1)) (fun _ => ?_) -- 18 .ifCond .lt 30
  refine xk_Po.go 4 rfl ?_
  refine xk_Po.ci2 rfl rfl (t_elementsOf hv) ?_
  refine xk_Po.br rfl rfl (fun hx => absurd hx (h2)) (fun _ => ?_) -- 24 .if_icmp .ge 30
  refine xk_Po.go 1 rfl ?_
  refine xk_Po.br rfl rfl (fun hx => absurd hx (h3)) (fun _ => ?_) -- 26 .ifCond .lt 30
  refine xk_Po.go 2 rfl ?_
  refine xk_Po.br rfl rfl (fun hx => absurd hx (h)) (fun _ => ?_) -- 29 .if_icmp .le 37
  refine xk_Po.go 4 rfl ?_
  exact xk_Po.iret rfl (rfl)
theorem s_wh (v e l : Nat) : Int32.ofInt 9 + Int32.ofInt 10 * Int32.ofNat v + Int32.ofInt 2 * Int32.ofNat e + Int32.ofNat l = Int32.ofNat (9 + (v * 10 + e * 2 + l)) := by
  show Int32.ofNat 9 + Int32.ofNat 10 * Int32.ofNat v + Int32.ofNat 2 * Int32.ofNat e + Int32.ofNat l = _
  rw [xn_mul, xn_add, xn_mul, xn_add, xn_add]
  congr 1
  omega
theorem r_where {v : Nat} (hv : v < 4) (hu : ¬ ta (5 + v) = 0) {e l : Nat} (he : e < 5) (hl : l < 2) (h : ¬ ta (5 + v) / 32 ≤ Int32.ofNat e) : xk_Ev (xp_P sc) 152 0 [.ref 10, .int (Int32.ofNat v), .int (Int32.ofNat e), .int (Int32.ofNat l)] [] (mw p th pr sl ex ta nx (1) lf mo cv cg cT cp r) (.inl (some (.int (ta (9 + (v * 10 + e * 2 + l)) - 1))), 0, mw p (0) pr sl ex ta nx (1) lf mo cv cg cT cp r) := by
  apply xk_Ev.of
  refine xk_Po.go 6 rfl ?_
  refine xk_Po.ci2 rfl rfl (r_isVolume hv hu) ?_
  refine xk_Po.go 7 rfl ?_
  refine xk_Po.br rfl rfl (fun hx => absurd hx (xn_nneg (by omega))) (fun _ => ?_) -- 18 .ifCond .lt 30
  refine xk_Po.go 4 rfl ?_
  refine xk_Po.ci2 rfl rfl (t_elementsOf hv) ?_
  refine xk_Po.br rfl rfl (fun hx => absurd hx (h)) (fun _ => ?_) -- 24 .if_icmp .ge 30
  refine xk_Po.go 1 rfl ?_
  refine xk_Po.br rfl rfl (fun hx => absurd hx (xn_nneg (by omega))) (fun _ => ?_) -- 26 .ifCond .lt 30
  refine xk_Po.go 2 rfl ?_
  refine xk_Po.br rfl rfl (fun _ => ?_) (fun hx => absurd ((xn_le (a := l) (b := 1) (by omega) (by omega)).2 (by omega)) hx) -- 29 .if_icmp .le 37
  refine xk_Po.go 13 rfl ?_
  rw [s_wh v e l]
  refine xk_Po.ok rfl rfl (xn_ix (j := 9 + (v * 10 + e * 2 + l)) (by omega) (by omega)) ?_ -- 50 .iaload
  rw [xn_nat (j := 9 + (v * 10 + e * 2 + l)) (by omega)]
  refine xk_Po.go 2 rfl ?_
  exact xk_Po.iret rfl (rfl)
theorem s_lo (d s i : Nat) : Int32.ofInt 102 * Int32.ofNat d + Int32.ofInt 51 * Int32.ofNat s + Int32.ofNat i = Int32.ofNat (s_start d s + i) := by
  rw [← xn_add]
  exact congrArg (· + Int32.ofNat i) (s_at2 d s)
theorem s_lx (d i : Nat) : Int32.ofInt 32 * Int32.ofNat d + Int32.ofNat i = Int32.ofNat (d * 8 * 4 + i) := by
  show Int32.ofNat 32 * Int32.ofNat d + Int32.ofNat i = _
  rw [xn_mul, xn_add]
  congr 1
  omega
theorem r_look_slot {j : Nat} (hj : j < 4) {s i : Nat} (hs : s < 2) (hi : i < 51)  : xk_Ev (xp_P sc) 155 0 [.ref 10, .int (Int32.ofNat j), .int (Int32.ofNat s), .int (Int32.ofNat i), .retAddr 0] [] (mw p th pr sl ex ta nx on lf mo cv cg cT cp r) (.inl (some (.int (sl (s_start j s + i)))), 0, mw p (0) pr sl ex ta nx on lf mo cv cg cT cp r) := by
  apply xk_Ev.of
  refine xk_Po.go 1 rfl ?_
  refine xk_Po.ci1 rfl rfl (r_isDisk1 hj) ?_
  refine xk_Po.go 2 rfl ?_
  refine xk_Po.br rfl rfl (fun hx => absurd hx (xn_nneg (by omega))) (fun _ => ?_) -- 4 .ifCond .lt 20
  refine xk_Po.go 2 rfl ?_
  refine xk_Po.br rfl rfl (fun hx => absurd hx (fun q => absurd ((xn_le (a := 3) (b := s) (by omega) (by omega)).1 q) (by omega))) (fun _ => ?_) -- 7 .if_icmp .ge 20
  refine xk_Po.go 1 rfl ?_
  refine xk_Po.br rfl rfl (fun hx => absurd hx (xn_nneg (by omega))) (fun _ => ?_) -- 9 .ifCond .lt 20
  refine xk_Po.go 3 rfl ?_
  refine xk_Po.br rfl rfl (fun hx => absurd hx (fun q => absurd ((xn_inj (a := s) (b := 2) (by omega) (by omega)).1 q) (by omega))) (fun _ => ?_) -- 13 .if_icmp .ne 16
  refine xk_Po.go 1 rfl ?_
  refine xk_Po.br rfl rfl (fun hx => absurd hx (fun q => absurd ((xn_le (a := 51) (b := i) (by omega) (by omega)).1 q) (by omega))) (fun _ => ?_) -- 17 .if_icmp .ge 20
  refine xk_Po.go 13 rfl ?_
  refine xk_Po.br rfl rfl (fun hx => absurd hx (fun q => absurd ((xn_inj (a := s) (b := 2) (by omega) (by omega)).1 q) (by omega))) (fun _ => ?_) -- 35 .if_icmp .ne 45
  refine xk_Po.go 11 rfl ?_
  rw [s_lo j s i]
  refine xk_Po.ok rfl rfl (xn_ix (j := s_start j s + i) (by have := s_start_lt hj hs; omega) (by omega)) ?_ -- 56 .iaload
  rw [xn_nat (j := s_start j s + i) (by have := s_start_lt hj hs; omega)]
  exact xk_Po.iret rfl (rfl)
theorem r_look_ext {j : Nat} (hj : j < 4) {i : Nat} (hi : i < 32) : xk_Ev (xp_P sc) 155 0 [.ref 10, .int (Int32.ofNat j), .int 2, .int (Int32.ofNat i), .retAddr 0] [] (mw p th pr sl ex ta nx on lf mo cv cg cT cp r) (.inl (some (.int (ex (j * 8 * 4 + i)))), 0, mw p (0) pr sl ex ta nx on lf mo cv cg cT cp r) := by
  apply xk_Ev.of
  refine xk_Po.go 1 rfl ?_
  refine xk_Po.ci1 rfl rfl (r_isDisk1 hj) ?_
  refine xk_Po.go 7 rfl ?_
  refine xk_Po.br rfl rfl (fun hx => absurd hx (xn_nneg (by omega))) (fun _ => ?_) -- 9 .ifCond .lt 20
  refine xk_Po.go 6 rfl ?_
  refine xk_Po.br rfl rfl (fun hx => absurd hx (fun q => absurd ((xn_le (a := 32) (b := i) (by omega) (by omega)).1 q) (by omega))) (fun _ => ?_) -- 17 .if_icmp .ge 20
  refine xk_Po.go 21 rfl ?_
  rw [s_lx j i]
  refine xk_Po.ok rfl rfl (xn_ix (j := j * 8 * 4 + i) (by omega) (by omega)) ?_ -- 43 .iaload
  rw [xn_nat (j := j * 8 * 4 + i) (by omega)]
  refine xk_Po.go 1 rfl ?_
  exact xk_Po.iret rfl (rfl)
theorem r_look_1 {g a b : Int32} (hg : g < 0 ∨ Int32.ofInt 4 ≤ g) : xk_Ev (xp_P sc) 155 0 [.ref 10, .int g, .int a, .int b, .retAddr 0] [] (mw p th pr sl ex ta nx on lf mo cv cg cT cp r) (.inl (some (.int 0)), 0, mw p (1) pr sl ex ta nx on lf mo cv cg cT cp r) := by
  apply xk_Ev.of
  refine xk_Po.go 1 rfl ?_
  refine xk_Po.ci1 rfl rfl (r_isDisk0 hg) ?_
  refine xk_Po.go 12 rfl ?_
  exact xk_Po.iret rfl (rfl)
theorem r_look_2 {j : Nat} (hj : j < 4) {a b : Int32} (h : a < 0) : xk_Ev (xp_P sc) 155 0 [.ref 10, .int (Int32.ofNat j), .int a, .int b, .retAddr 0] [] (mw p th pr sl ex ta nx on lf mo cv cg cT cp r) (.inl (some (.int 0)), 0, mw p (1) pr sl ex ta nx on lf mo cv cg cT cp r) := by
  apply xk_Ev.of
  refine xk_Po.go 1 rfl ?_
  refine xk_Po.ci1 rfl rfl (r_isDisk1 hj) ?_
  refine xk_Po.go 2 rfl ?_
  refine xk_Po.br rfl rfl (fun _ => ?_) (fun hx => absurd (h) hx) -- 4 .ifCond .lt 20
  refine xk_Po.go 11 rfl ?_
  exact xk_Po.iret rfl (rfl)
theorem r_look_3 {j : Nat} (hj : j < 4) {a b : Int32} (h1 : ¬ a < 0) (h : Int32.ofInt 3 ≤ a) : xk_Ev (xp_P sc) 155 0 [.ref 10, .int (Int32.ofNat j), .int a, .int b, .retAddr 0] [] (mw p th pr sl ex ta nx on lf mo cv cg cT cp r) (.inl (some (.int 0)), 0, mw p (1) pr sl ex ta nx on lf mo cv cg cT cp r) := by
  apply xk_Ev.of
  refine xk_Po.go 1 rfl ?_
  refine xk_Po.ci1 rfl rfl (r_isDisk1 hj) ?_
  refine xk_Po.go 2 rfl ?_
  refine xk_Po.br rfl rfl (fun hx => absurd hx (h1)) (fun _ => ?_) -- 4 .ifCond .lt 20
  refine xk_Po.go 2 rfl ?_
  refine xk_Po.br rfl rfl (fun _ => ?_) (fun hx => absurd (h) hx) -- 7 .if_icmp .ge 20
  refine xk_Po.go 11 rfl ?_
  exact xk_Po.iret rfl (rfl)
theorem r_look_4 {j : Nat} (hj : j < 4) {a b : Int32} (h1 : ¬ a < 0) (h2 : ¬ Int32.ofInt 3 ≤ a) (h : b < 0) : xk_Ev (xp_P sc) 155 0 [.ref 10, .int (Int32.ofNat j), .int a, .int b, .retAddr 0] [] (mw p th pr sl ex ta nx on lf mo cv cg cT cp r) (.inl (some (.int 0)), 0, mw p (1) pr sl ex ta nx on lf mo cv cg cT cp r) := by
  apply xk_Ev.of
  refine xk_Po.go 1 rfl ?_
  refine xk_Po.ci1 rfl rfl (r_isDisk1 hj) ?_
  refine xk_Po.go 2 rfl ?_
  refine xk_Po.br rfl rfl (fun hx => absurd hx (h1)) (fun _ => ?_) -- 4 .ifCond .lt 20
  refine xk_Po.go 2 rfl ?_
  refine xk_Po.br rfl rfl (fun hx => absurd hx (h2)) (fun _ => ?_) -- 7 .if_icmp .ge 20
  refine xk_Po.go 1 rfl ?_
  refine xk_Po.br rfl rfl (fun _ => ?_) (fun hx => absurd (h) hx) -- 9 .ifCond .lt 20
  refine xk_Po.go 11 rfl ?_
  exact xk_Po.iret rfl (rfl)
theorem r_look_5 {j : Nat} (hj : j < 4) {a b : Int32} (h1 : ¬ a < 0) (h2 : ¬ Int32.ofInt 3 ≤ a) (h3 : ¬ b < 0) (h4 : a = Int32.ofInt 2) (h : Int32.ofInt 32 ≤ b) : xk_Ev (xp_P sc) 155 0 [.ref 10, .int (Int32.ofNat j), .int a, .int b, .retAddr 0] [] (mw p th pr sl ex ta nx on lf mo cv cg cT cp r) (.inl (some (.int 0)), 0, mw p (1) pr sl ex ta nx on lf mo cv cg cT cp r) := by
  apply xk_Ev.of
  refine xk_Po.go 1 rfl ?_
  refine xk_Po.ci1 rfl rfl (r_isDisk1 hj) ?_
  refine xk_Po.go 2 rfl ?_
  refine xk_Po.br rfl rfl (fun hx => absurd hx (h1)) (fun _ => ?_) -- 4 .ifCond .lt 20
  refine xk_Po.go 2 rfl ?_
  refine xk_Po.br rfl rfl (fun hx => absurd hx (h2)) (fun _ => ?_) -- 7 .if_icmp .ge 20
  refine xk_Po.go 1 rfl ?_
  refine xk_Po.br rfl rfl (fun hx => absurd hx (h3)) (fun _ => ?_) -- 9 .ifCond .lt 20
  refine xk_Po.go 3 rfl ?_
  refine xk_Po.br rfl rfl (fun _ => ?_) (fun hx => absurd (h4) hx) -- 13 .if_icmp .ne 16
  refine xk_Po.go 2 rfl ?_
  refine xk_Po.br rfl rfl (fun _ => ?_) (fun hx => absurd (h) hx) -- 17 .if_icmp .ge 20
  refine xk_Po.go 11 rfl ?_
  exact xk_Po.iret rfl (rfl)
theorem r_look_6 {j : Nat} (hj : j < 4) {a b : Int32} (h1 : ¬ a < 0) (h2 : ¬ Int32.ofInt 3 ≤ a) (h3 : ¬ b < 0) (h4 : ¬ a = Int32.ofInt 2) (h : Int32.ofInt 51 ≤ b) : xk_Ev (xp_P sc) 155 0 [.ref 10, .int (Int32.ofNat j), .int a, .int b, .retAddr 0] [] (mw p th pr sl ex ta nx on lf mo cv cg cT cp r) (.inl (some (.int 0)), 0, mw p (1) pr sl ex ta nx on lf mo cv cg cT cp r) := by
  apply xk_Ev.of
  refine xk_Po.go 1 rfl ?_
  refine xk_Po.ci1 rfl rfl (r_isDisk1 hj) ?_
  refine xk_Po.go 2 rfl ?_
  refine xk_Po.br rfl rfl (fun hx => absurd hx (h1)) (fun _ => ?_) -- 4 .ifCond .lt 20
  refine xk_Po.go 2 rfl ?_
  refine xk_Po.br rfl rfl (fun hx => absurd hx (h2)) (fun _ => ?_) -- 7 .if_icmp .ge 20
  refine xk_Po.go 1 rfl ?_
  refine xk_Po.br rfl rfl (fun hx => absurd hx (h3)) (fun _ => ?_) -- 9 .ifCond .lt 20
  refine xk_Po.go 3 rfl ?_
  refine xk_Po.br rfl rfl (fun hx => absurd hx (h4)) (fun _ => ?_) -- 13 .if_icmp .ne 16
  refine xk_Po.go 1 rfl ?_
  refine xk_Po.br rfl rfl (fun _ => ?_) (fun hx => absurd (h) hx) -- 17 .if_icmp .ge 20
  refine xk_Po.go 11 rfl ?_
  exact xk_Po.iret rfl (rfl)
end XkMpu
