section XkHlp
variable {sc : Nat × (Nat → Int32)} {sl ex ab ta dr : Nat → Int32} {md ml mt mc on ct : Int32} {pr sl2 ex2 ta2 nx : Nat → Int32} {th on2 lf mo cv cg cT cp : Int32} {ou : Nat → Int64} {w w1 : xk_W}
/-- the reference's cells and the law's own -/
def mrr (th : Int32) (pr sl ex ta nx : Nat → Int32) (on lf mo cv cg cT cp : Int32) (ou : Nat → Int64) : xk_W := .inr (4, [.int th, .ref 11, .ref 12, .ref 13, .int on, .int lf, .ref 14, .ref 15, .int mo, .int cv, .int cg, .int cT, .int cp]) :: .inl (1, 4, .inl pr) :: .inl (0, 408, .inl sl) :: .inl (0, 128, .inl ex) :: .inl (0, 51, .inl ta) :: .inl (0, 51, .inl nx) :: [.inl (2, 1, .inr ou)]
def c10 (sl ex ab ta dr : Nat → Int32) (md ml mt mc on ct : Int32) : xk_Ten := (.inr (3, [.ref 1, .ref 5, .ref 7, .ref 9, .int on, .int ct]), .inr (0, [.ref 2, .ref 3, .ref 4]), .inl (0, 408, .inl sl), .inl (0, 128, .inl ex), .inl (1, 4, .inl ab), .inr (2, [.ref 6]), .inl (0, 51, .inl ta), .inr (2, [.ref 8]), .inl (0, 51, .inl dr), .inr (1, [.int md, .int ml, .int mt, .int mc]))
theorem fw_eq : cw sl ex ab ta dr md ml mt mc on ct (mrr th pr sl2 ex2 ta2 nx on2 lf mo cv cg cT cp ou) = mw (c10 sl ex ab ta dr md ml mt mc on ct) th pr sl2 ex2 ta2 nx on2 lf mo cv cg cT cp [.inl (2, 1, .inr ou)] := rfl
theorem h_add_t {g0 g1 : Int32} {e q : Nat} {z : Nat × Int} (hc : xk_Ev (xp_P sc) 40 0 [.ref 0, .int g0, .int g1] [] (cw sl ex ab ta dr md ml mt mc on ct (mrr th pr sl2 ex2 ta2 nx on2 lf mo cv cg cT cp ou)) (.inr e, q, w1)) (hz : (xp_P sc 160).2.2.2.1.find? (fun a => a.1 == e) = some z) : xk_Ev (xp_P sc) 160 0 [.ref 0, .int g0, .int g1, .retAddr 0] [] (cw sl ex ab ta dr md ml mt mc on ct (mrr th pr sl2 ex2 ta2 nx on2 lf mo cv cg cT cp ou)) (.inl (some (.int (Int32.ofInt z.2))), q, w1) := by
  refine xk_Ev.go 3 rfl ?_
  exact xk_Ev.callC rfl rfl hc hz
theorem h_add {g0 g1 : Int32} (hc : xk_Ev (xp_P sc) 40 0 [.ref 0, .int g0, .int g1] [] (cw sl ex ab ta dr md ml mt mc on ct (mrr th pr sl2 ex2 ta2 nx on2 lf mo cv cg cT cp ou)) (.inl none, 0, w1)) : xk_Ev (xp_P sc) 160 0 [.ref 0, .int g0, .int g1, .retAddr 0] [] (cw sl ex ab ta dr md ml mt mc on ct (mrr th pr sl2 ex2 ta2 nx on2 lf mo cv cg cT cp ou)) (.inl (some (.int 0)), 0, w1) := by
  refine xk_Ev.go 3 rfl ?_
  refine xk_Ev.cv3 rfl rfl hc ?_
  refine xk_Ev.go 2 rfl ?_
  exact xk_Ev.iret rfl
theorem h_remove_t {g0 : Int32} {e q : Nat} {z : Nat × Int} (hc : xk_Ev (xp_P sc) 41 0 [.ref 0, .int g0] [] (cw sl ex ab ta dr md ml mt mc on ct (mrr th pr sl2 ex2 ta2 nx on2 lf mo cv cg cT cp ou)) (.inr e, q, w1)) (hz : (xp_P sc 161).2.2.2.1.find? (fun a => a.1 == e) = some z) : xk_Ev (xp_P sc) 161 0 [.ref 0, .int g0, .retAddr 0] [] (cw sl ex ab ta dr md ml mt mc on ct (mrr th pr sl2 ex2 ta2 nx on2 lf mo cv cg cT cp ou)) (.inl (some (.int (Int32.ofInt z.2))), q, w1) := by
  refine xk_Ev.go 2 rfl ?_
  exact xk_Ev.callC rfl rfl hc hz
theorem h_remove {g0 : Int32} (hc : xk_Ev (xp_P sc) 41 0 [.ref 0, .int g0] [] (cw sl ex ab ta dr md ml mt mc on ct (mrr th pr sl2 ex2 ta2 nx on2 lf mo cv cg cT cp ou)) (.inl none, 0, w1)) : xk_Ev (xp_P sc) 161 0 [.ref 0, .int g0, .retAddr 0] [] (cw sl ex ab ta dr md ml mt mc on ct (mrr th pr sl2 ex2 ta2 nx on2 lf mo cv cg cT cp ou)) (.inl (some (.int 0)), 0, w1) := by
  refine xk_Ev.go 2 rfl ?_
  refine xk_Ev.cv2 rfl rfl hc ?_
  refine xk_Ev.go 2 rfl ?_
  exact xk_Ev.iret rfl
theorem h_drop_t {g0 : Int32} {e q : Nat} {z : Nat × Int} (hc : xk_Ev (xp_P sc) 42 0 [.ref 0, .int g0, .retAddr 0] [] (cw sl ex ab ta dr md ml mt mc on ct (mrr th pr sl2 ex2 ta2 nx on2 lf mo cv cg cT cp ou)) (.inr e, q, w1)) (hz : (xp_P sc 162).2.2.2.1.find? (fun a => a.1 == e) = some z) : xk_Ev (xp_P sc) 162 0 [.ref 0, .int g0, .ref 16, .retAddr 0] [] (cw sl ex ab ta dr md ml mt mc on ct (mrr th pr sl2 ex2 ta2 nx on2 lf mo cv cg cT cp ou)) (.inl (some (.int (Int32.ofInt z.2))), q, w1) := by
  refine xk_Ev.go 4 rfl ?_
  exact xk_Ev.callC rfl rfl hc hz
theorem h_drop {g0 : Int32} {x : Int32} {sA eA aA tA dA : Nat → Int32} {md1 ml1 mt1 mc1 on1 ct1 : Int32} (hc : xk_Ev (xp_P sc) 42 0 [.ref 0, .int g0, .retAddr 0] [] (cw sl ex ab ta dr md ml mt mc on ct (mrr th pr sl2 ex2 ta2 nx on2 lf mo cv cg cT cp ou)) (.inl (some (.int x)), 0, cw sA eA aA tA dA md1 ml1 mt1 mc1 on1 ct1 (mrr th pr sl2 ex2 ta2 nx on2 lf mo cv cg cT cp ou))) : xk_Ev (xp_P sc) 162 0 [.ref 0, .int g0, .ref 16, .retAddr 0] [] (cw sl ex ab ta dr md ml mt mc on ct (mrr th pr sl2 ex2 ta2 nx on2 lf mo cv cg cT cp ou)) (.inl (some (.int 0)), 0, cw sA eA aA tA dA md1 ml1 mt1 mc1 on1 ct1 (mrr th pr sl2 ex2 ta2 nx on2 lf mo cv cg cT cp (vp_updL ou 0 x.toInt64))) := by
  refine xk_Ev.go 4 rfl ?_
  refine xk_Ev.ci2 rfl rfl hc ?_
  refine xk_Ev.go 4 rfl ?_
  exact xk_Ev.iret rfl
theorem h_make_t {g0 g1 g2 : Int32} {e q : Nat} {z : Nat × Int} (hc : xk_Ev (xp_P sc) 43 0 [.ref 0, .int g0, .int g1, .int g2, .retAddr 0] [] (cw sl ex ab ta dr md ml mt mc on ct (mrr th pr sl2 ex2 ta2 nx on2 lf mo cv cg cT cp ou)) (.inr e, q, w1)) (hz : (xp_P sc 163).2.2.2.1.find? (fun a => a.1 == e) = some z) : xk_Ev (xp_P sc) 163 0 [.ref 0, .int g0, .int g1, .int g2, .ref 16, .retAddr 0] [] (cw sl ex ab ta dr md ml mt mc on ct (mrr th pr sl2 ex2 ta2 nx on2 lf mo cv cg cT cp ou)) (.inl (some (.int (Int32.ofInt z.2))), q, w1) := by
  refine xk_Ev.go 6 rfl ?_
  exact xk_Ev.callC rfl rfl hc hz
theorem h_make {g0 g1 g2 : Int32} {x : Int32} {sA eA aA tA dA : Nat → Int32} {md1 ml1 mt1 mc1 on1 ct1 : Int32} (hc : xk_Ev (xp_P sc) 43 0 [.ref 0, .int g0, .int g1, .int g2, .retAddr 0] [] (cw sl ex ab ta dr md ml mt mc on ct (mrr th pr sl2 ex2 ta2 nx on2 lf mo cv cg cT cp ou)) (.inl (some (.int x)), 0, cw sA eA aA tA dA md1 ml1 mt1 mc1 on1 ct1 (mrr th pr sl2 ex2 ta2 nx on2 lf mo cv cg cT cp ou))) : xk_Ev (xp_P sc) 163 0 [.ref 0, .int g0, .int g1, .int g2, .ref 16, .retAddr 0] [] (cw sl ex ab ta dr md ml mt mc on ct (mrr th pr sl2 ex2 ta2 nx on2 lf mo cv cg cT cp ou)) (.inl (some (.int 0)), 0, cw sA eA aA tA dA md1 ml1 mt1 mc1 on1 ct1 (mrr th pr sl2 ex2 ta2 nx on2 lf mo cv cg cT cp (vp_updL ou 0 x.toInt64))) := by
  refine xk_Ev.go 6 rfl ?_
  refine xk_Ev.ci4 rfl rfl hc ?_
  refine xk_Ev.go 4 rfl ?_
  exact xk_Ev.iret rfl
theorem h_grow_t {g0 g1 : Int32} {e q : Nat} {z : Nat × Int} (hc : xk_Ev (xp_P sc) 44 0 [.ref 0, .int g0, .int g1, .retAddr 0] [] (cw sl ex ab ta dr md ml mt mc on ct (mrr th pr sl2 ex2 ta2 nx on2 lf mo cv cg cT cp ou)) (.inr e, q, w1)) (hz : (xp_P sc 164).2.2.2.1.find? (fun a => a.1 == e) = some z) : xk_Ev (xp_P sc) 164 0 [.ref 0, .int g0, .int g1, .ref 16, .retAddr 0] [] (cw sl ex ab ta dr md ml mt mc on ct (mrr th pr sl2 ex2 ta2 nx on2 lf mo cv cg cT cp ou)) (.inl (some (.int (Int32.ofInt z.2))), q, w1) := by
  refine xk_Ev.go 5 rfl ?_
  exact xk_Ev.callC rfl rfl hc hz
theorem h_grow {g0 g1 : Int32} {x : Int32} {sA eA aA tA dA : Nat → Int32} {md1 ml1 mt1 mc1 on1 ct1 : Int32} (hc : xk_Ev (xp_P sc) 44 0 [.ref 0, .int g0, .int g1, .retAddr 0] [] (cw sl ex ab ta dr md ml mt mc on ct (mrr th pr sl2 ex2 ta2 nx on2 lf mo cv cg cT cp ou)) (.inl (some (.int x)), 0, cw sA eA aA tA dA md1 ml1 mt1 mc1 on1 ct1 (mrr th pr sl2 ex2 ta2 nx on2 lf mo cv cg cT cp ou))) : xk_Ev (xp_P sc) 164 0 [.ref 0, .int g0, .int g1, .ref 16, .retAddr 0] [] (cw sl ex ab ta dr md ml mt mc on ct (mrr th pr sl2 ex2 ta2 nx on2 lf mo cv cg cT cp ou)) (.inl (some (.int 0)), 0, cw sA eA aA tA dA md1 ml1 mt1 mc1 on1 ct1 (mrr th pr sl2 ex2 ta2 nx on2 lf mo cv cg cT cp (vp_updL ou 0 x.toInt64))) := by
  refine xk_Ev.go 5 rfl ?_
  refine xk_Ev.ci3 rfl rfl hc ?_
  refine xk_Ev.go 4 rfl ?_
  exact xk_Ev.iret rfl
theorem h_shrink_t {g0 g1 : Int32} {e q : Nat} {z : Nat × Int} (hc : xk_Ev (xp_P sc) 45 0 [.ref 0, .int g0, .int g1, .retAddr 0] [] (cw sl ex ab ta dr md ml mt mc on ct (mrr th pr sl2 ex2 ta2 nx on2 lf mo cv cg cT cp ou)) (.inr e, q, w1)) (hz : (xp_P sc 165).2.2.2.1.find? (fun a => a.1 == e) = some z) : xk_Ev (xp_P sc) 165 0 [.ref 0, .int g0, .int g1, .ref 16, .retAddr 0] [] (cw sl ex ab ta dr md ml mt mc on ct (mrr th pr sl2 ex2 ta2 nx on2 lf mo cv cg cT cp ou)) (.inl (some (.int (Int32.ofInt z.2))), q, w1) := by
  refine xk_Ev.go 5 rfl ?_
  exact xk_Ev.callC rfl rfl hc hz
theorem h_shrink {g0 g1 : Int32} {x : Int32} {sA eA aA tA dA : Nat → Int32} {md1 ml1 mt1 mc1 on1 ct1 : Int32} (hc : xk_Ev (xp_P sc) 45 0 [.ref 0, .int g0, .int g1, .retAddr 0] [] (cw sl ex ab ta dr md ml mt mc on ct (mrr th pr sl2 ex2 ta2 nx on2 lf mo cv cg cT cp ou)) (.inl (some (.int x)), 0, cw sA eA aA tA dA md1 ml1 mt1 mc1 on1 ct1 (mrr th pr sl2 ex2 ta2 nx on2 lf mo cv cg cT cp ou))) : xk_Ev (xp_P sc) 165 0 [.ref 0, .int g0, .int g1, .ref 16, .retAddr 0] [] (cw sl ex ab ta dr md ml mt mc on ct (mrr th pr sl2 ex2 ta2 nx on2 lf mo cv cg cT cp ou)) (.inl (some (.int 0)), 0, cw sA eA aA tA dA md1 ml1 mt1 mc1 on1 ct1 (mrr th pr sl2 ex2 ta2 nx on2 lf mo cv cg cT cp (vp_updL ou 0 x.toInt64))) := by
  refine xk_Ev.go 5 rfl ?_
  refine xk_Ev.ci3 rfl rfl hc ?_
  refine xk_Ev.go 4 rfl ?_
  exact xk_Ev.iret rfl
theorem h_delete_t {g0 : Int32} {e q : Nat} {z : Nat × Int} (hc : xk_Ev (xp_P sc) 46 0 [.ref 0, .int g0] [] (cw sl ex ab ta dr md ml mt mc on ct (mrr th pr sl2 ex2 ta2 nx on2 lf mo cv cg cT cp ou)) (.inr e, q, w1)) (hz : (xp_P sc 166).2.2.2.1.find? (fun a => a.1 == e) = some z) : xk_Ev (xp_P sc) 166 0 [.ref 0, .int g0, .retAddr 0] [] (cw sl ex ab ta dr md ml mt mc on ct (mrr th pr sl2 ex2 ta2 nx on2 lf mo cv cg cT cp ou)) (.inl (some (.int (Int32.ofInt z.2))), q, w1) := by
  refine xk_Ev.go 2 rfl ?_
  exact xk_Ev.callC rfl rfl hc hz
theorem h_delete {g0 : Int32} (hc : xk_Ev (xp_P sc) 46 0 [.ref 0, .int g0] [] (cw sl ex ab ta dr md ml mt mc on ct (mrr th pr sl2 ex2 ta2 nx on2 lf mo cv cg cT cp ou)) (.inl none, 0, w1)) : xk_Ev (xp_P sc) 166 0 [.ref 0, .int g0, .retAddr 0] [] (cw sl ex ab ta dr md ml mt mc on ct (mrr th pr sl2 ex2 ta2 nx on2 lf mo cv cg cT cp ou)) (.inl (some (.int 0)), 0, w1) := by
  refine xk_Ev.go 2 rfl ?_
  refine xk_Ev.cv2 rfl rfl hc ?_
  refine xk_Ev.go 2 rfl ?_
  exact xk_Ev.iret rfl
theorem h_mend_t {g0 : Int32} {e q : Nat} {z : Nat × Int} (hc : xk_Ev (xp_P sc) 47 0 [.ref 0, .int g0, .retAddr 0] [] (cw sl ex ab ta dr md ml mt mc on ct (mrr th pr sl2 ex2 ta2 nx on2 lf mo cv cg cT cp ou)) (.inr e, q, w1)) (hz : (xp_P sc 167).2.2.2.1.find? (fun a => a.1 == e) = some z) : xk_Ev (xp_P sc) 167 0 [.ref 0, .int g0, .ref 16, .retAddr 0] [] (cw sl ex ab ta dr md ml mt mc on ct (mrr th pr sl2 ex2 ta2 nx on2 lf mo cv cg cT cp ou)) (.inl (some (.int (Int32.ofInt z.2))), q, w1) := by
  refine xk_Ev.go 4 rfl ?_
  exact xk_Ev.callC rfl rfl hc hz
theorem h_mend {g0 : Int32} {x : Int32} {sA eA aA tA dA : Nat → Int32} {md1 ml1 mt1 mc1 on1 ct1 : Int32} (hc : xk_Ev (xp_P sc) 47 0 [.ref 0, .int g0, .retAddr 0] [] (cw sl ex ab ta dr md ml mt mc on ct (mrr th pr sl2 ex2 ta2 nx on2 lf mo cv cg cT cp ou)) (.inl (some (.int x)), 0, cw sA eA aA tA dA md1 ml1 mt1 mc1 on1 ct1 (mrr th pr sl2 ex2 ta2 nx on2 lf mo cv cg cT cp ou))) : xk_Ev (xp_P sc) 167 0 [.ref 0, .int g0, .ref 16, .retAddr 0] [] (cw sl ex ab ta dr md ml mt mc on ct (mrr th pr sl2 ex2 ta2 nx on2 lf mo cv cg cT cp ou)) (.inl (some (.int 0)), 0, cw sA eA aA tA dA md1 ml1 mt1 mc1 on1 ct1 (mrr th pr sl2 ex2 ta2 nx on2 lf mo cv cg cT cp (vp_updL ou 0 x.toInt64))) := by
  refine xk_Ev.go 4 rfl ?_
  refine xk_Ev.ci2 rfl rfl hc ?_
  refine xk_Ev.go 4 rfl ?_
  exact xk_Ev.iret rfl
theorem h_write_t {g0 g1 g2 : Int32} {e q : Nat} {z : Nat × Int} (hc : xk_Ev (xp_P sc) 48 0 [.ref 0, .int g0, .int g1, .int g2, .retAddr 0, .retAddr 0, .retAddr 0, .retAddr 0, .retAddr 0] [] (cw sl ex ab ta dr md ml mt mc on ct (mrr th pr sl2 ex2 ta2 nx on2 lf mo cv cg cT cp ou)) (.inr e, q, w1)) (hz : (xp_P sc 168).2.2.2.1.find? (fun a => a.1 == e) = some z) : xk_Ev (xp_P sc) 168 0 [.ref 0, .int g0, .int g1, .int g2, .ref 16, .retAddr 0] [] (cw sl ex ab ta dr md ml mt mc on ct (mrr th pr sl2 ex2 ta2 nx on2 lf mo cv cg cT cp ou)) (.inl (some (.int (Int32.ofInt z.2))), q, w1) := by
  refine xk_Ev.go 6 rfl ?_
  exact xk_Ev.callC rfl rfl hc hz
theorem h_write {g0 g1 g2 : Int32} {x : Int32} {sA eA aA tA dA : Nat → Int32} {md1 ml1 mt1 mc1 on1 ct1 : Int32} (hc : xk_Ev (xp_P sc) 48 0 [.ref 0, .int g0, .int g1, .int g2, .retAddr 0, .retAddr 0, .retAddr 0, .retAddr 0, .retAddr 0] [] (cw sl ex ab ta dr md ml mt mc on ct (mrr th pr sl2 ex2 ta2 nx on2 lf mo cv cg cT cp ou)) (.inl (some (.int x)), 0, cw sA eA aA tA dA md1 ml1 mt1 mc1 on1 ct1 (mrr th pr sl2 ex2 ta2 nx on2 lf mo cv cg cT cp ou))) : xk_Ev (xp_P sc) 168 0 [.ref 0, .int g0, .int g1, .int g2, .ref 16, .retAddr 0] [] (cw sl ex ab ta dr md ml mt mc on ct (mrr th pr sl2 ex2 ta2 nx on2 lf mo cv cg cT cp ou)) (.inl (some (.int 0)), 0, cw sA eA aA tA dA md1 ml1 mt1 mc1 on1 ct1 (mrr th pr sl2 ex2 ta2 nx on2 lf mo cv cg cT cp (vp_updL ou 0 x.toInt64))) := by
  refine xk_Ev.go 6 rfl ?_
  refine xk_Ev.ci4 rfl rfl hc ?_
  refine xk_Ev.go 4 rfl ?_
  exact xk_Ev.iret rfl
theorem h_read_t {g0 g1 : Int32} {e q : Nat} {z : Nat × Int} (hc : xk_Ev (xp_P sc) 49 0 [.ref 0, .int g0, .int g1, .retAddr 0] [] (cw sl ex ab ta dr md ml mt mc on ct (mrr th pr sl2 ex2 ta2 nx on2 lf mo cv cg cT cp ou)) (.inr e, q, w1)) (hz : (xp_P sc 169).2.2.2.1.find? (fun a => a.1 == e) = some z) : xk_Ev (xp_P sc) 169 0 [.ref 0, .int g0, .int g1, .ref 16, .retAddr 0] [] (cw sl ex ab ta dr md ml mt mc on ct (mrr th pr sl2 ex2 ta2 nx on2 lf mo cv cg cT cp ou)) (.inl (some (.int (Int32.ofInt z.2))), q, w1) := by
  refine xk_Ev.go 5 rfl ?_
  exact xk_Ev.callC rfl rfl hc hz
theorem h_read {g0 g1 : Int32} {x : Int32} {sA eA aA tA dA : Nat → Int32} {md1 ml1 mt1 mc1 on1 ct1 : Int32} (hc : xk_Ev (xp_P sc) 49 0 [.ref 0, .int g0, .int g1, .retAddr 0] [] (cw sl ex ab ta dr md ml mt mc on ct (mrr th pr sl2 ex2 ta2 nx on2 lf mo cv cg cT cp ou)) (.inl (some (.int x)), 0, cw sA eA aA tA dA md1 ml1 mt1 mc1 on1 ct1 (mrr th pr sl2 ex2 ta2 nx on2 lf mo cv cg cT cp ou))) : xk_Ev (xp_P sc) 169 0 [.ref 0, .int g0, .int g1, .ref 16, .retAddr 0] [] (cw sl ex ab ta dr md ml mt mc on ct (mrr th pr sl2 ex2 ta2 nx on2 lf mo cv cg cT cp ou)) (.inl (some (.int 0)), 0, cw sA eA aA tA dA md1 ml1 mt1 mc1 on1 ct1 (mrr th pr sl2 ex2 ta2 nx on2 lf mo cv cg cT cp (vp_updL ou 0 x.toInt64))) := by
  refine xk_Ev.go 5 rfl ?_
  refine xk_Ev.ci3 rfl rfl hc ?_
  refine xk_Ev.go 4 rfl ?_
  exact xk_Ev.iret rfl
theorem h_empty_t {g0 : Int32} {e q : Nat} {z : Nat × Int} (hc : xk_Ev (xp_P sc) 50 0 [.ref 0, .int g0] [] (cw sl ex ab ta dr md ml mt mc on ct (mrr th pr sl2 ex2 ta2 nx on2 lf mo cv cg cT cp ou)) (.inr e, q, w1)) (hz : (xp_P sc 170).2.2.2.1.find? (fun a => a.1 == e) = some z) : xk_Ev (xp_P sc) 170 0 [.ref 0, .int g0, .ref 16, .retAddr 0] [] (cw sl ex ab ta dr md ml mt mc on ct (mrr th pr sl2 ex2 ta2 nx on2 lf mo cv cg cT cp ou)) (.inl (some (.int (Int32.ofInt z.2))), q, w1) := by
  refine xk_Ev.go 4 rfl ?_
  exact xk_Ev.callC rfl rfl hc hz
theorem h_empty {g0 : Int32} {x : Int32} {sA eA aA tA dA : Nat → Int32} {md1 ml1 mt1 mc1 on1 ct1 : Int32} (hc : xk_Ev (xp_P sc) 50 0 [.ref 0, .int g0] [] (cw sl ex ab ta dr md ml mt mc on ct (mrr th pr sl2 ex2 ta2 nx on2 lf mo cv cg cT cp ou)) (.inl (some (.int x)), 0, cw sA eA aA tA dA md1 ml1 mt1 mc1 on1 ct1 (mrr th pr sl2 ex2 ta2 nx on2 lf mo cv cg cT cp ou))) : xk_Ev (xp_P sc) 170 0 [.ref 0, .int g0, .ref 16, .retAddr 0] [] (cw sl ex ab ta dr md ml mt mc on ct (mrr th pr sl2 ex2 ta2 nx on2 lf mo cv cg cT cp ou)) (.inl (some (.int 0)), 0, cw sA eA aA tA dA md1 ml1 mt1 mc1 on1 ct1 (mrr th pr sl2 ex2 ta2 nx on2 lf mo cv cg cT cp (vp_updL ou 0 x.toInt64))) := by
  refine xk_Ev.go 4 rfl ?_
  refine xk_Ev.ci2 rfl rfl hc ?_
  refine xk_Ev.go 4 rfl ?_
  exact xk_Ev.iret rfl
theorem h_step_t {e q : Nat} {z : Nat × Int} (hc : xk_Ev (xp_P sc) 51 0 [.ref 0, .retAddr 0, .retAddr 0] [] (cw sl ex ab ta dr md ml mt mc on ct (mrr th pr sl2 ex2 ta2 nx on2 lf mo cv cg cT cp ou)) (.inr e, q, w1)) (hz : (xp_P sc 171).2.2.2.1.find? (fun a => a.1 == e) = some z) : xk_Ev (xp_P sc) 171 0 [.ref 0, .ref 16, .retAddr 0] [] (cw sl ex ab ta dr md ml mt mc on ct (mrr th pr sl2 ex2 ta2 nx on2 lf mo cv cg cT cp ou)) (.inl (some (.int (Int32.ofInt z.2))), q, w1) := by
  refine xk_Ev.go 3 rfl ?_
  exact xk_Ev.callC rfl rfl hc hz
theorem h_step {x : Int32} {sA eA aA tA dA : Nat → Int32} {md1 ml1 mt1 mc1 on1 ct1 : Int32} (hc : xk_Ev (xp_P sc) 51 0 [.ref 0, .retAddr 0, .retAddr 0] [] (cw sl ex ab ta dr md ml mt mc on ct (mrr th pr sl2 ex2 ta2 nx on2 lf mo cv cg cT cp ou)) (.inl (some (.int x)), 0, cw sA eA aA tA dA md1 ml1 mt1 mc1 on1 ct1 (mrr th pr sl2 ex2 ta2 nx on2 lf mo cv cg cT cp ou))) : xk_Ev (xp_P sc) 171 0 [.ref 0, .ref 16, .retAddr 0] [] (cw sl ex ab ta dr md ml mt mc on ct (mrr th pr sl2 ex2 ta2 nx on2 lf mo cv cg cT cp ou)) (.inl (some (.int 0)), 0, cw sA eA aA tA dA md1 ml1 mt1 mc1 on1 ct1 (mrr th pr sl2 ex2 ta2 nx on2 lf mo cv cg cT cp (vp_updL ou 0 x.toInt64))) := by
  refine xk_Ev.go 3 rfl ?_
  refine xk_Ev.ci1 rfl rfl hc ?_
  refine xk_Ev.go 4 rfl ?_
  exact xk_Ev.iret rfl
theorem h_volume_t {g0 g1 : Int32} {e q : Nat} {z : Nat × Int} (hc : xk_Ev (xp_P sc) 53 0 [.ref 0, .int g0, .int g1] [] (cw sl ex ab ta dr md ml mt mc on ct (mrr th pr sl2 ex2 ta2 nx on2 lf mo cv cg cT cp ou)) (.inr e, q, w1)) (hz : (xp_P sc 172).2.2.2.1.find? (fun a => a.1 == e) = some z) : xk_Ev (xp_P sc) 172 0 [.ref 0, .int g0, .int g1, .ref 16, .retAddr 0] [] (cw sl ex ab ta dr md ml mt mc on ct (mrr th pr sl2 ex2 ta2 nx on2 lf mo cv cg cT cp ou)) (.inl (some (.int (Int32.ofInt z.2))), q, w1) := by
  refine xk_Ev.go 5 rfl ?_
  exact xk_Ev.callC rfl rfl hc hz
theorem h_volume {g0 g1 : Int32} {x : Int32} {sA eA aA tA dA : Nat → Int32} {md1 ml1 mt1 mc1 on1 ct1 : Int32} (hc : xk_Ev (xp_P sc) 53 0 [.ref 0, .int g0, .int g1] [] (cw sl ex ab ta dr md ml mt mc on ct (mrr th pr sl2 ex2 ta2 nx on2 lf mo cv cg cT cp ou)) (.inl (some (.int x)), 0, cw sA eA aA tA dA md1 ml1 mt1 mc1 on1 ct1 (mrr th pr sl2 ex2 ta2 nx on2 lf mo cv cg cT cp ou))) : xk_Ev (xp_P sc) 172 0 [.ref 0, .int g0, .int g1, .ref 16, .retAddr 0] [] (cw sl ex ab ta dr md ml mt mc on ct (mrr th pr sl2 ex2 ta2 nx on2 lf mo cv cg cT cp ou)) (.inl (some (.int 0)), 0, cw sA eA aA tA dA md1 ml1 mt1 mc1 on1 ct1 (mrr th pr sl2 ex2 ta2 nx on2 lf mo cv cg cT cp (vp_updL ou 0 x.toInt64))) := by
  refine xk_Ev.go 5 rfl ?_
  refine xk_Ev.ci3 rfl rfl hc ?_
  refine xk_Ev.go 4 rfl ?_
  exact xk_Ev.iret rfl
theorem h_where_t {g0 g1 g2 : Int32} {e q : Nat} {z : Nat × Int} (hc : xk_Ev (xp_P sc) 54 0 [.ref 0, .int g0, .int g1, .int g2] [] (cw sl ex ab ta dr md ml mt mc on ct (mrr th pr sl2 ex2 ta2 nx on2 lf mo cv cg cT cp ou)) (.inr e, q, w1)) (hz : (xp_P sc 173).2.2.2.1.find? (fun a => a.1 == e) = some z) : xk_Ev (xp_P sc) 173 0 [.ref 0, .int g0, .int g1, .int g2, .ref 16, .retAddr 0] [] (cw sl ex ab ta dr md ml mt mc on ct (mrr th pr sl2 ex2 ta2 nx on2 lf mo cv cg cT cp ou)) (.inl (some (.int (Int32.ofInt z.2))), q, w1) := by
  refine xk_Ev.go 6 rfl ?_
  exact xk_Ev.callC rfl rfl hc hz
theorem h_where {g0 g1 g2 : Int32} {x : Int32} {sA eA aA tA dA : Nat → Int32} {md1 ml1 mt1 mc1 on1 ct1 : Int32} (hc : xk_Ev (xp_P sc) 54 0 [.ref 0, .int g0, .int g1, .int g2] [] (cw sl ex ab ta dr md ml mt mc on ct (mrr th pr sl2 ex2 ta2 nx on2 lf mo cv cg cT cp ou)) (.inl (some (.int x)), 0, cw sA eA aA tA dA md1 ml1 mt1 mc1 on1 ct1 (mrr th pr sl2 ex2 ta2 nx on2 lf mo cv cg cT cp ou))) : xk_Ev (xp_P sc) 173 0 [.ref 0, .int g0, .int g1, .int g2, .ref 16, .retAddr 0] [] (cw sl ex ab ta dr md ml mt mc on ct (mrr th pr sl2 ex2 ta2 nx on2 lf mo cv cg cT cp ou)) (.inl (some (.int 0)), 0, cw sA eA aA tA dA md1 ml1 mt1 mc1 on1 ct1 (mrr th pr sl2 ex2 ta2 nx on2 lf mo cv cg cT cp (vp_updL ou 0 x.toInt64))) := by
  refine xk_Ev.go 6 rfl ?_
  refine xk_Ev.ci4 rfl rfl hc ?_
  refine xk_Ev.go 4 rfl ?_
  exact xk_Ev.iret rfl
theorem h_free_t {g0 : Int32} {e q : Nat} {z : Nat × Int} (hc : xk_Ev (xp_P sc) 55 0 [.ref 0, .int g0] [] (cw sl ex ab ta dr md ml mt mc on ct (mrr th pr sl2 ex2 ta2 nx on2 lf mo cv cg cT cp ou)) (.inr e, q, w1)) (hz : (xp_P sc 174).2.2.2.1.find? (fun a => a.1 == e) = some z) : xk_Ev (xp_P sc) 174 0 [.ref 0, .int g0, .ref 16, .retAddr 0] [] (cw sl ex ab ta dr md ml mt mc on ct (mrr th pr sl2 ex2 ta2 nx on2 lf mo cv cg cT cp ou)) (.inl (some (.int (Int32.ofInt z.2))), q, w1) := by
  refine xk_Ev.go 4 rfl ?_
  exact xk_Ev.callC rfl rfl hc hz
theorem h_free {g0 : Int32} {x : Int32} {sA eA aA tA dA : Nat → Int32} {md1 ml1 mt1 mc1 on1 ct1 : Int32} (hc : xk_Ev (xp_P sc) 55 0 [.ref 0, .int g0] [] (cw sl ex ab ta dr md ml mt mc on ct (mrr th pr sl2 ex2 ta2 nx on2 lf mo cv cg cT cp ou)) (.inl (some (.int x)), 0, cw sA eA aA tA dA md1 ml1 mt1 mc1 on1 ct1 (mrr th pr sl2 ex2 ta2 nx on2 lf mo cv cg cT cp ou))) : xk_Ev (xp_P sc) 174 0 [.ref 0, .int g0, .ref 16, .retAddr 0] [] (cw sl ex ab ta dr md ml mt mc on ct (mrr th pr sl2 ex2 ta2 nx on2 lf mo cv cg cT cp ou)) (.inl (some (.int 0)), 0, cw sA eA aA tA dA md1 ml1 mt1 mc1 on1 ct1 (mrr th pr sl2 ex2 ta2 nx on2 lf mo cv cg cT cp (vp_updL ou 0 x.toInt64))) := by
  refine xk_Ev.go 4 rfl ?_
  refine xk_Ev.ci2 rfl rfl hc ?_
  refine xk_Ev.go 4 rfl ?_
  exact xk_Ev.iret rfl
theorem h_cut_t {g0 : Int32} {e q : Nat} {z : Nat × Int} (hc : xk_Ev (xp_P sc) 56 0 [.ref 0, .int g0] [] (cw sl ex ab ta dr md ml mt mc on ct (mrr th pr sl2 ex2 ta2 nx on2 lf mo cv cg cT cp ou)) (.inr e, q, w1)) (hz : (xp_P sc 175).2.2.2.1.find? (fun a => a.1 == e) = some z) : xk_Ev (xp_P sc) 175 0 [.ref 0, .int g0, .retAddr 0] [] (cw sl ex ab ta dr md ml mt mc on ct (mrr th pr sl2 ex2 ta2 nx on2 lf mo cv cg cT cp ou)) (.inl (some (.int (Int32.ofInt z.2))), q, w1) := by
  refine xk_Ev.go 2 rfl ?_
  exact xk_Ev.callC rfl rfl hc hz
theorem h_cut {g0 : Int32} (hc : xk_Ev (xp_P sc) 56 0 [.ref 0, .int g0] [] (cw sl ex ab ta dr md ml mt mc on ct (mrr th pr sl2 ex2 ta2 nx on2 lf mo cv cg cT cp ou)) (.inl none, 0, w1)) : xk_Ev (xp_P sc) 175 0 [.ref 0, .int g0, .retAddr 0] [] (cw sl ex ab ta dr md ml mt mc on ct (mrr th pr sl2 ex2 ta2 nx on2 lf mo cv cg cT cp ou)) (.inl (some (.int 0)), 0, w1) := by
  refine xk_Ev.go 2 rfl ?_
  refine xk_Ev.cv2 rfl rfl hc ?_
  refine xk_Ev.go 2 rfl ?_
  exact xk_Ev.iret rfl
theorem h_off_t {e q : Nat} {z : Nat × Int} (hc : xk_Ev (xp_P sc) 57 0 [.ref 0] [] (cw sl ex ab ta dr md ml mt mc on ct (mrr th pr sl2 ex2 ta2 nx on2 lf mo cv cg cT cp ou)) (.inr e, q, w1)) (hz : (xp_P sc 176).2.2.2.1.find? (fun a => a.1 == e) = some z) : xk_Ev (xp_P sc) 176 0 [.ref 0, .retAddr 0] [] (cw sl ex ab ta dr md ml mt mc on ct (mrr th pr sl2 ex2 ta2 nx on2 lf mo cv cg cT cp ou)) (.inl (some (.int (Int32.ofInt z.2))), q, w1) := by
  refine xk_Ev.go 1 rfl ?_
  exact xk_Ev.callC rfl rfl hc hz
theorem h_off (hc : xk_Ev (xp_P sc) 57 0 [.ref 0] [] (cw sl ex ab ta dr md ml mt mc on ct (mrr th pr sl2 ex2 ta2 nx on2 lf mo cv cg cT cp ou)) (.inl none, 0, w1)) : xk_Ev (xp_P sc) 176 0 [.ref 0, .retAddr 0] [] (cw sl ex ab ta dr md ml mt mc on ct (mrr th pr sl2 ex2 ta2 nx on2 lf mo cv cg cT cp ou)) (.inl (some (.int 0)), 0, w1) := by
  refine xk_Ev.go 1 rfl ?_
  refine xk_Ev.cv1 rfl rfl hc ?_
  refine xk_Ev.go 2 rfl ?_
  exact xk_Ev.iret rfl
theorem h_plug_t {g0 g1 : Int32} {e q : Nat} {z : Nat × Int} (hc : xk_Ev (xp_P sc) 58 0 [.ref 0, .int g0, .int g1, .retAddr 0] [] (cw sl ex ab ta dr md ml mt mc on ct (mrr th pr sl2 ex2 ta2 nx on2 lf mo cv cg cT cp ou)) (.inr e, q, w1)) (hz : (xp_P sc 177).2.2.2.1.find? (fun a => a.1 == e) = some z) : xk_Ev (xp_P sc) 177 0 [.ref 0, .int g0, .int g1, .ref 16, .retAddr 0] [] (cw sl ex ab ta dr md ml mt mc on ct (mrr th pr sl2 ex2 ta2 nx on2 lf mo cv cg cT cp ou)) (.inl (some (.int (Int32.ofInt z.2))), q, w1) := by
  refine xk_Ev.go 5 rfl ?_
  exact xk_Ev.callC rfl rfl hc hz
theorem h_plug0 {g0 g1 : Int32} {sA eA aA tA dA : Nat → Int32} {md1 ml1 mt1 mc1 on1 ct1 : Int32} (hc : xk_Ev (xp_P sc) 58 0 [.ref 0, .int g0, .int g1, .retAddr 0] [] (cw sl ex ab ta dr md ml mt mc on ct (mrr th pr sl2 ex2 ta2 nx on2 lf mo cv cg cT cp ou)) (.inl (some (.int 0)), 0, cw sA eA aA tA dA md1 ml1 mt1 mc1 on1 ct1 (mrr th pr sl2 ex2 ta2 nx on2 lf mo cv cg cT cp ou))) : xk_Ev (xp_P sc) 177 0 [.ref 0, .int g0, .int g1, .ref 16, .retAddr 0] [] (cw sl ex ab ta dr md ml mt mc on ct (mrr th pr sl2 ex2 ta2 nx on2 lf mo cv cg cT cp ou)) (.inl (some (.int 0)), 0, cw sA eA aA tA dA md1 ml1 mt1 mc1 on1 ct1 (mrr th pr sl2 ex2 ta2 nx on2 lf mo cv cg cT cp (vp_updL ou 0 0))) := by
  refine xk_Ev.go 5 rfl ?_
  refine xk_Ev.ci3 rfl rfl hc ?_
  refine xk_Ev.go 5 rfl ?_
  exact xk_Ev.iret rfl
theorem h_plug1 {g0 g1 : Int32} {sA eA aA tA dA : Nat → Int32} {md1 ml1 mt1 mc1 on1 ct1 : Int32} (hc : xk_Ev (xp_P sc) 58 0 [.ref 0, .int g0, .int g1, .retAddr 0] [] (cw sl ex ab ta dr md ml mt mc on ct (mrr th pr sl2 ex2 ta2 nx on2 lf mo cv cg cT cp ou)) (.inl (some (.int 1)), 0, cw sA eA aA tA dA md1 ml1 mt1 mc1 on1 ct1 (mrr th pr sl2 ex2 ta2 nx on2 lf mo cv cg cT cp ou))) : xk_Ev (xp_P sc) 177 0 [.ref 0, .int g0, .int g1, .ref 16, .retAddr 0] [] (cw sl ex ab ta dr md ml mt mc on ct (mrr th pr sl2 ex2 ta2 nx on2 lf mo cv cg cT cp ou)) (.inl (some (.int 0)), 0, cw sA eA aA tA dA md1 ml1 mt1 mc1 on1 ct1 (mrr th pr sl2 ex2 ta2 nx on2 lf mo cv cg cT cp (vp_updL ou 0 1))) := by
  refine xk_Ev.go 5 rfl ?_
  refine xk_Ev.ci3 rfl rfl hc ?_
  refine xk_Ev.go 6 rfl ?_
  exact xk_Ev.iret rfl
theorem h_start_t {e q : Nat} {z : Nat × Int} (hc : xk_Ev (xp_P sc) 59 0 [.ref 0, .retAddr 0] [] (cw sl ex ab ta dr md ml mt mc on ct (mrr th pr sl2 ex2 ta2 nx on2 lf mo cv cg cT cp ou)) (.inr e, q, w1)) (hz : (xp_P sc 178).2.2.2.1.find? (fun a => a.1 == e) = some z) : xk_Ev (xp_P sc) 178 0 [.ref 0, .ref 16, .retAddr 0] [] (cw sl ex ab ta dr md ml mt mc on ct (mrr th pr sl2 ex2 ta2 nx on2 lf mo cv cg cT cp ou)) (.inl (some (.int (Int32.ofInt z.2))), q, w1) := by
  refine xk_Ev.go 3 rfl ?_
  exact xk_Ev.callC rfl rfl hc hz
theorem h_start {x : Int32} {sA eA aA tA dA : Nat → Int32} {md1 ml1 mt1 mc1 on1 ct1 : Int32} (hc : xk_Ev (xp_P sc) 59 0 [.ref 0, .retAddr 0] [] (cw sl ex ab ta dr md ml mt mc on ct (mrr th pr sl2 ex2 ta2 nx on2 lf mo cv cg cT cp ou)) (.inl (some (.int x)), 0, cw sA eA aA tA dA md1 ml1 mt1 mc1 on1 ct1 (mrr th pr sl2 ex2 ta2 nx on2 lf mo cv cg cT cp ou))) : xk_Ev (xp_P sc) 178 0 [.ref 0, .ref 16, .retAddr 0] [] (cw sl ex ab ta dr md ml mt mc on ct (mrr th pr sl2 ex2 ta2 nx on2 lf mo cv cg cT cp ou)) (.inl (some (.int 0)), 0, cw sA eA aA tA dA md1 ml1 mt1 mc1 on1 ct1 (mrr th pr sl2 ex2 ta2 nx on2 lf mo cv cg cT cp (vp_updL ou 0 x.toInt64))) := by
  refine xk_Ev.go 3 rfl ?_
  refine xk_Ev.ci1 rfl rfl hc ?_
  refine xk_Ev.go 4 rfl ?_
  exact xk_Ev.iret rfl
theorem h_look_t {g0 g1 g2 : Int32} {e q : Nat} {z : Nat × Int} (hc : xk_Ev (xp_P sc) 61 0 [.ref 0, .int g0, .int g1, .int g2, .retAddr 0, .retAddr 0] [] (cw sl ex ab ta dr md ml mt mc on ct (mrr th pr sl2 ex2 ta2 nx on2 lf mo cv cg cT cp ou)) (.inr e, q, w1)) (hz : (xp_P sc 179).2.2.2.1.find? (fun a => a.1 == e) = some z) : xk_Ev (xp_P sc) 179 0 [.ref 0, .int g0, .int g1, .int g2, .ref 16, .retAddr 0] [] (cw sl ex ab ta dr md ml mt mc on ct (mrr th pr sl2 ex2 ta2 nx on2 lf mo cv cg cT cp ou)) (.inl (some (.int (Int32.ofInt z.2))), q, w1) := by
  refine xk_Ev.go 6 rfl ?_
  exact xk_Ev.callC rfl rfl hc hz
theorem h_look {g0 g1 g2 : Int32} {x : Int32} {sA eA aA tA dA : Nat → Int32} {md1 ml1 mt1 mc1 on1 ct1 : Int32} (hc : xk_Ev (xp_P sc) 61 0 [.ref 0, .int g0, .int g1, .int g2, .retAddr 0, .retAddr 0] [] (cw sl ex ab ta dr md ml mt mc on ct (mrr th pr sl2 ex2 ta2 nx on2 lf mo cv cg cT cp ou)) (.inl (some (.int x)), 0, cw sA eA aA tA dA md1 ml1 mt1 mc1 on1 ct1 (mrr th pr sl2 ex2 ta2 nx on2 lf mo cv cg cT cp ou))) : xk_Ev (xp_P sc) 179 0 [.ref 0, .int g0, .int g1, .int g2, .ref 16, .retAddr 0] [] (cw sl ex ab ta dr md ml mt mc on ct (mrr th pr sl2 ex2 ta2 nx on2 lf mo cv cg cT cp ou)) (.inl (some (.int 0)), 0, cw sA eA aA tA dA md1 ml1 mt1 mc1 on1 ct1 (mrr th pr sl2 ex2 ta2 nx on2 lf mo cv cg cT cp (vp_updL ou 0 x.toInt64))) := by
  refine xk_Ev.go 6 rfl ?_
  refine xk_Ev.ci4 rfl rfl hc ?_
  refine xk_Ev.go 4 rfl ?_
  exact xk_Ev.iret rfl
end XkHlp
