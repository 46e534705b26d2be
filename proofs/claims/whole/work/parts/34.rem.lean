/-! remove, drop. -/
section XkRem
variable {sc : Nat × (Nat → Int32)} {sl ex ab ta dr : Nat → Int32} {md ml mt mc on ct : Int32} {r w : xk_W}
def s_outI (x : Int32) (o : Bool × s_S) (W V : s_S → xk_W) : xk_R := if o.1 = true then (.inl (some (.int x)), 0, W o.2) else (.inr 0, 1, V o.2)
theorem s_goodI {x : Int32} {o : Bool × s_S} {W V : s_S → xk_W} {s : s_S} (e : o = (true, s)) : ((.inl (some (.int x)), 0, W s) : xk_R) = s_outI x o W V := by
  rw [e]
  rfl
theorem s_badI {x : Int32} {o u : Bool × s_S} {W V : s_S → xk_W} (e : o = u) (q : ¬ u.1 = true) : ((.inr 0, 1, V u.2) : xk_R) = s_outI x o W V := by
  rw [e]
  exact (if_neg q).symm
theorem c_remove_off {g : Int32} (hp : on = 0) : xk_Ev (xp_P sc) 41 0 [.ref 0, .int g] [] (cw sl ex ab ta dr md ml mt mc on ct r) (.inr 0, 1, cw sl ex ab ta dr md ml mt mc on ct r) := by
  apply xk_Ev.of
  refine xk_Po.go 1 rfl ?_
  exact xk_Po.ct1 rfl rfl (c_requirePower_t hp) rfl rfl
theorem c_remove_nd (hp : ¬ on = 0) {g : Int32} (hg : ¬ (¬ g < 0 ∧ ¬ Int32.ofInt 4 ≤ g))  : xk_Ev (xp_P sc) 41 0 [.ref 0, .int g] [] (cw sl ex ab ta dr md ml mt mc on ct r) (.inr 1, 1, cw sl ex ab ta dr md ml mt mc on ct r) := by
  apply xk_Ev.of
  refine xk_Po.go 1 rfl ?_
  refine xk_Po.cv1 rfl rfl (c_requirePower hp) ?_
  refine xk_Po.go 1 rfl ?_
  exact xk_Po.ct1 rfl rfl (c_requireDisk_t hg) rfl rfl
theorem c_remove_nl (hp : ¬ on = 0) {j : Nat} (hj : j < 4) (h : ta (1 + j) = 0) : xk_Ev (xp_P sc) 41 0 [.ref 0, .int (Int32.ofNat j)] [] (cw sl ex ab ta dr md ml mt mc on ct r) (.inr 2, 1, cw sl ex ab ta dr md ml mt mc on ct r) := by
  apply xk_Ev.of
  refine xk_Po.go 1 rfl ?_
  refine xk_Po.cv1 rfl rfl (c_requirePower hp) ?_
  refine xk_Po.go 1 rfl ?_
  refine xk_Po.cv1 rfl rfl (c_requireDisk (dk hj)) ?_
  refine xk_Po.go 2 rfl ?_
  exact xk_Po.ct2 rfl rfl (c_requireListed_t hj h) rfl rfl
theorem c_drop_off {g : Int32} (hp : on = 0) : xk_Ev (xp_P sc) 42 0 [.ref 0, .int g, .retAddr 0] [] (cw sl ex ab ta dr md ml mt mc on ct r) (.inr 0, 1, cw sl ex ab ta dr md ml mt mc on ct r) := by
  apply xk_Ev.of
  refine xk_Po.go 1 rfl ?_
  exact xk_Po.ct1 rfl rfl (c_requirePower_t hp) rfl rfl
theorem c_drop_nd (hp : ¬ on = 0) {g : Int32} (hg : ¬ (¬ g < 0 ∧ ¬ Int32.ofInt 4 ≤ g))  : xk_Ev (xp_P sc) 42 0 [.ref 0, .int g, .retAddr 0] [] (cw sl ex ab ta dr md ml mt mc on ct r) (.inr 1, 1, cw sl ex ab ta dr md ml mt mc on ct r) := by
  apply xk_Ev.of
  refine xk_Po.go 1 rfl ?_
  refine xk_Po.cv1 rfl rfl (c_requirePower hp) ?_
  refine xk_Po.go 1 rfl ?_
  exact xk_Po.ct1 rfl rfl (c_requireDisk_t hg) rfl rfl
theorem c_drop_nl (hp : ¬ on = 0) {j : Nat} (hj : j < 4) (h : ta (1 + j) = 0) : xk_Ev (xp_P sc) 42 0 [.ref 0, .int (Int32.ofNat j), .retAddr 0] [] (cw sl ex ab ta dr md ml mt mc on ct r) (.inr 2, 1, cw sl ex ab ta dr md ml mt mc on ct r) := by
  apply xk_Ev.of
  refine xk_Po.go 1 rfl ?_
  refine xk_Po.cv1 rfl rfl (c_requirePower hp) ?_
  refine xk_Po.go 1 rfl ?_
  refine xk_Po.cv1 rfl rfl (c_requireDisk (dk hj)) ?_
  refine xk_Po.go 2 rfl ?_
  exact xk_Po.ct2 rfl rfl (c_requireListed_t hj h) rfl rfl
theorem c_remove_us (hp : ¬ on = 0) {j : Nat} (hj : j < 4) (hl : ¬ ta (1 + j) = 0) (h : 0 < s_cnt (fun i => s_disk (ta (9 + i) - 1) = Int32.ofNat j) 40 ∨ s_disk mt = Int32.ofNat j) : xk_Ev (xp_P sc) 41 0 [.ref 0, .int (Int32.ofNat j)] [] (cw sl ex ab ta dr md ml mt mc on ct r) (.inr 2, 1, cw sl ex ab ta dr md ml mt mc on ct r) := by
  apply xk_Ev.of
  refine xk_Po.go 1 rfl ?_
  refine xk_Po.cv1 rfl rfl (c_requirePower hp) ?_
  refine xk_Po.go 1 rfl ?_
  refine xk_Po.cv1 rfl rfl (c_requireDisk (dk hj)) ?_
  refine xk_Po.go 2 rfl ?_
  refine xk_Po.cv2 rfl rfl (c_requireListed hj hl) ?_
  refine xk_Po.go 3 rfl ?_
  refine xk_Po.ci2 rfl rfl (c_legsOn) ?_
  refine xk_Po.br rfl rfl (fun h0 => ?_) (fun h0 => ?_) -- 11 .ifCond .gt 18
  · exact xk_Po.thr rfl rfl
  · refine xk_Po.go 3 rfl ?_
    refine xk_Po.ci1 rfl rfl (c_diskOf) ?_
    refine xk_Po.go 1 rfl ?_
    refine xk_Po.br rfl rfl (fun h1 => ?_) (fun h1 => ?_) -- 17 .if_icmp .ne 19
    · exact xk_Po.thr rfl rfl
    · exact h.elim (fun q => absurd q h0) (fun q => absurd q h1)
theorem c_remove_on (hp : ¬ on = 0) {j : Nat} (hj : j < 4) (hl : ¬ ta (1 + j) = 0) (hu : ¬ 0 < s_cnt (fun i => s_disk (ta (9 + i) - 1) = Int32.ofNat j) 40) (hm : ¬ s_disk mt = Int32.ofNat j) (h : s_cnt (fun j => ¬ ta (1 + j) = 0) 4 = Int32.ofInt 1) : xk_Ev (xp_P sc) 41 0 [.ref 0, .int (Int32.ofNat j)] [] (cw sl ex ab ta dr md ml mt mc on ct r) (.inr 2, 1, cw sl ex ab ta dr md ml mt mc on ct r) := by
  apply xk_Ev.of
  refine xk_Po.go 1 rfl ?_
  refine xk_Po.cv1 rfl rfl (c_requirePower hp) ?_
  refine xk_Po.go 1 rfl ?_
  refine xk_Po.cv1 rfl rfl (c_requireDisk (dk hj)) ?_
  refine xk_Po.go 2 rfl ?_
  refine xk_Po.cv2 rfl rfl (c_requireListed hj hl) ?_
  refine xk_Po.go 3 rfl ?_
  refine xk_Po.ci2 rfl rfl (c_legsOn) ?_
  refine xk_Po.br rfl rfl (fun h0 => ?_) (fun h0 => ?_) -- 11 .ifCond .gt 18
  · exact xk_Po.thr rfl (absurd h0 hu)
  · refine xk_Po.go 3 rfl ?_
    refine xk_Po.ci1 rfl rfl (c_diskOf) ?_
    refine xk_Po.go 1 rfl ?_
    refine xk_Po.br rfl rfl (fun h1 => ?_) (fun h1 => ?_) -- 17 .if_icmp .ne 19
    · exact xk_Po.thr rfl (absurd h1 hm)
    · refine xk_Po.go 2 rfl ?_
      refine xk_Po.ci1 rfl rfl (c_countListed) ?_
      refine xk_Po.go 1 rfl ?_
      refine xk_Po.br rfl rfl (fun h2 => ?_) (fun h2 => ?_) -- 23 .if_icmp .ne 25
      · exact xk_Po.thr rfl rfl
      · exact absurd h h2
theorem c_remove_ab (hp : ¬ on = 0) {j : Nat} (hj : j < 4) (hl : ¬ ta (1 + j) = 0) (hu : ¬ 0 < s_cnt (fun i => s_disk (ta (9 + i) - 1) = Int32.ofNat j) 40) (hm : ¬ s_disk mt = Int32.ofNat j) (ho : ¬ s_cnt (fun j => ¬ ta (1 + j) = 0) 4 = Int32.ofInt 1) (hb : ∀ i, ab i = 0 ∨ ab i = 1) (hq : ¬ s_any (fun j => ¬ ta (1 + j) = 0 ∧ ¬ ab j = 0) 4 0 = 0)  : xk_Ev (xp_P sc) 41 0 [.ref 0, .int (Int32.ofNat j)] [] (cw sl ex ab ta dr md ml mt mc on ct r) (.inr 2, 1, cw sl ex ab ta dr md ml mt mc on ct r) := by
  apply xk_Ev.of
  refine xk_Po.go 1 rfl ?_
  refine xk_Po.cv1 rfl rfl (c_requirePower hp) ?_
  refine xk_Po.go 1 rfl ?_
  refine xk_Po.cv1 rfl rfl (c_requireDisk (dk hj)) ?_
  refine xk_Po.go 2 rfl ?_
  refine xk_Po.cv2 rfl rfl (c_requireListed hj hl) ?_
  refine xk_Po.go 3 rfl ?_
  refine xk_Po.ci2 rfl rfl (c_legsOn) ?_
  refine xk_Po.br rfl rfl (fun h0 => ?_) (fun h0 => ?_) -- 11 .ifCond .gt 18
  · exact xk_Po.thr rfl (absurd h0 hu)
  · refine xk_Po.go 3 rfl ?_
    refine xk_Po.ci1 rfl rfl (c_diskOf) ?_
    refine xk_Po.go 1 rfl ?_
    refine xk_Po.br rfl rfl (fun h1 => ?_) (fun h1 => ?_) -- 17 .if_icmp .ne 19
    · exact xk_Po.thr rfl (absurd h1 hm)
    · refine xk_Po.go 2 rfl ?_
      refine xk_Po.ci1 rfl rfl (c_countListed) ?_
      refine xk_Po.go 1 rfl ?_
      refine xk_Po.br rfl rfl (fun h2 => ?_) (fun h2 => ?_) -- 23 .if_icmp .ne 25
      · exact xk_Po.thr rfl (absurd h2 ho)
      · refine xk_Po.go 1 rfl ?_
        exact xk_Po.ct1 rfl rfl (c_requireListedPresent_t hb hq) rfl rfl
theorem c_remove1 {s : s_S} (hp : ¬ on = 0) {j : Nat} (hj : j < 4) (hl : ¬ ta (1 + j) = 0) (hu : ¬ 0 < s_cnt (fun i => s_disk (ta (9 + i) - 1) = Int32.ofNat j) 40) (hm : ¬ s_disk mt = Int32.ofNat j) (ho : ¬ s_cnt (fun j => ¬ ta (1 + j) = 0) 4 = Int32.ofInt 1) (hb : ∀ i, ab i = 0 ∨ ab i = 1) (hq : s_any (fun j => ¬ ta (1 + j) = 0 ∧ ¬ ab j = 0) 4 0 = 0) (ht : ∀ i, 51 ≤ i → ta i = 0) (hd : ∀ i, 51 ≤ i → dr i = 0) (hml : ¬ ml = Int32.ofInt (-1) → ∃ j, j < 40 ∧ ml = Int32.ofNat j) (h : ¬ md = Int32.ofNat j) : xk_Ev (xp_P sc) 41 0 [.ref 0, .int (Int32.ofNat j)] [] (cs (s) ab ta dr md ml mt mc on r) (s_out (m_com (s_seal (upd ta (1 + j) 0) (ta 0 + 1)) ab (s)) (fun s => cs (s) ab ((s_seal (upd ta (1 + j) 0) (ta 0 + 1))) ((s_seal (upd ta (1 + j) 0) (ta 0 + 1))) md ((s_ml (s_seal (upd ta (1 + j) 0) (ta 0 + 1)) ml mt).1) ((s_ml (s_seal (upd ta (1 + j) 0) (ta 0 + 1)) ml mt).2) mc on r) (fun s => cl (s) ab ta ((s_seal (upd ta (1 + j) 0) (ta 0 + 1))) mc r)) := by
  apply xk_Ev.of
  refine xk_Po.go 1 rfl ?_
  refine xk_Po.cv1 rfl rfl (c_requirePower hp) ?_
  refine xk_Po.go 1 rfl ?_
  refine xk_Po.cv1 rfl rfl (c_requireDisk (dk hj)) ?_
  refine xk_Po.go 2 rfl ?_
  refine xk_Po.cv2 rfl rfl (c_requireListed hj hl) ?_
  refine xk_Po.go 3 rfl ?_
  refine xk_Po.ci2 rfl rfl (c_legsOn) ?_
  refine xk_Po.br rfl rfl (fun h0 => ?_) (fun h0 => ?_) -- 11 .ifCond .gt 18
  · exact xk_Po.thr rfl (absurd h0 hu)
  · refine xk_Po.go 3 rfl ?_
    refine xk_Po.ci1 rfl rfl (c_diskOf) ?_
    refine xk_Po.go 1 rfl ?_
    refine xk_Po.br rfl rfl (fun h1 => ?_) (fun h1 => ?_) -- 17 .if_icmp .ne 19
    · exact xk_Po.thr rfl (absurd h1 hm)
    · refine xk_Po.go 2 rfl ?_
      refine xk_Po.ci1 rfl rfl (c_countListed) ?_
      refine xk_Po.go 1 rfl ?_
      refine xk_Po.br rfl rfl (fun h2 => ?_) (fun h2 => ?_) -- 23 .if_icmp .ne 25
      · exact xk_Po.thr rfl (absurd h2 ho)
      · refine xk_Po.go 1 rfl ?_
        refine xk_Po.cv1 rfl rfl (c_requireListedPresent hb hq) ?_
        refine xk_Po.go 1 rfl ?_
        refine xk_Po.cv1 rfl rfl (c_beginDraft ht hd) ?_
        refine xk_Po.go 4 rfl ?_
        refine xk_Po.cv3 rfl rfl (d_setExtentsN hj) ?_
        refine xk_Po.go 1 rfl ?_
        refine xk_Po.cm1 rfl rfl (c_commitDraft1 hb hq ht (upd_z ht (by omega)) hml) rfl (fun q0 => s_bad (W := fun s => cs (s) ab ((s_seal (upd ta (1 + j) 0) (ta 0 + 1))) ((s_seal (upd ta (1 + j) 0) (ta 0 + 1))) md ((s_ml (s_seal (upd ta (1 + j) 0) (ta 0 + 1)) ml mt).1) ((s_ml (s_seal (upd ta (1 + j) 0) (ta 0 + 1)) ml mt).2) mc on r) (V := fun s => cl (s) ab ta ((s_seal (upd ta (1 + j) 0) (ta 0 + 1))) mc r) (u := m_com (s_seal (upd ta (1 + j) 0) (ta 0 + 1)) ab (s)) (rfl) q0) (fun q0 => ?_)
        refine xk_Po.go 4 rfl ?_
        refine xk_Po.br rfl rfl (fun h3 => ?_) (fun h3 => ?_) -- 40 .if_icmp .ne 44
        · exact absurd h3 h
        · exact xk_Po.ret rfl (s_good (W := fun s => cs (s) ab ((s_seal (upd ta (1 + j) 0) (ta 0 + 1))) ((s_seal (upd ta (1 + j) 0) (ta 0 + 1))) md ((s_ml (s_seal (upd ta (1 + j) 0) (ta 0 + 1)) ml mt).1) ((s_ml (s_seal (upd ta (1 + j) 0) (ta 0 + 1)) ml mt).2) mc on r) (V := fun s => cl (s) ab ta ((s_seal (upd ta (1 + j) 0) (ta 0 + 1))) mc r) (s := (m_com (s_seal (upd ta (1 + j) 0) (ta 0 + 1)) ab (s)).2) (m_true q0))
theorem c_remove2 {s : s_S} (hp : ¬ on = 0) {j : Nat} (hj : j < 4) (hl : ¬ ta (1 + j) = 0) (hu : ¬ 0 < s_cnt (fun i => s_disk (ta (9 + i) - 1) = Int32.ofNat j) 40) (hm : ¬ s_disk mt = Int32.ofNat j) (ho : ¬ s_cnt (fun j => ¬ ta (1 + j) = 0) 4 = Int32.ofInt 1) (hb : ∀ i, ab i = 0 ∨ ab i = 1) (hq : s_any (fun j => ¬ ta (1 + j) = 0 ∧ ¬ ab j = 0) 4 0 = 0) (ht : ∀ i, 51 ≤ i → ta i = 0) (hd : ∀ i, 51 ≤ i → dr i = 0) (hml : ¬ ml = Int32.ofInt (-1) → ∃ j, j < 40 ∧ ml = Int32.ofNat j) (h : md = Int32.ofNat j) : xk_Ev (xp_P sc) 41 0 [.ref 0, .int (Int32.ofNat j)] [] (cs (s) ab ta dr md ml mt mc on r) (s_out (m_com (s_seal (upd ta (1 + j) 0) (ta 0 + 1)) ab (s)) (fun s => cs (s) ab ((s_seal (upd ta (1 + j) 0) (ta 0 + 1))) ((s_seal (upd ta (1 + j) 0) (ta 0 + 1))) (-1) (-1) (-1) mc on r) (fun s => cl (s) ab ta ((s_seal (upd ta (1 + j) 0) (ta 0 + 1))) mc r)) := by
  apply xk_Ev.of
  refine xk_Po.go 1 rfl ?_
  refine xk_Po.cv1 rfl rfl (c_requirePower hp) ?_
  refine xk_Po.go 1 rfl ?_
  refine xk_Po.cv1 rfl rfl (c_requireDisk (dk hj)) ?_
  refine xk_Po.go 2 rfl ?_
  refine xk_Po.cv2 rfl rfl (c_requireListed hj hl) ?_
  refine xk_Po.go 3 rfl ?_
  refine xk_Po.ci2 rfl rfl (c_legsOn) ?_
  refine xk_Po.br rfl rfl (fun h0 => ?_) (fun h0 => ?_) -- 11 .ifCond .gt 18
  · exact xk_Po.thr rfl (absurd h0 hu)
  · refine xk_Po.go 3 rfl ?_
    refine xk_Po.ci1 rfl rfl (c_diskOf) ?_
    refine xk_Po.go 1 rfl ?_
    refine xk_Po.br rfl rfl (fun h1 => ?_) (fun h1 => ?_) -- 17 .if_icmp .ne 19
    · exact xk_Po.thr rfl (absurd h1 hm)
    · refine xk_Po.go 2 rfl ?_
      refine xk_Po.ci1 rfl rfl (c_countListed) ?_
      refine xk_Po.go 1 rfl ?_
      refine xk_Po.br rfl rfl (fun h2 => ?_) (fun h2 => ?_) -- 23 .if_icmp .ne 25
      · exact xk_Po.thr rfl (absurd h2 ho)
      · refine xk_Po.go 1 rfl ?_
        refine xk_Po.cv1 rfl rfl (c_requireListedPresent hb hq) ?_
        refine xk_Po.go 1 rfl ?_
        refine xk_Po.cv1 rfl rfl (c_beginDraft ht hd) ?_
        refine xk_Po.go 4 rfl ?_
        refine xk_Po.cv3 rfl rfl (d_setExtentsN hj) ?_
        refine xk_Po.go 1 rfl ?_
        refine xk_Po.cm1 rfl rfl (c_commitDraft1 hb hq ht (upd_z ht (by omega)) hml) rfl (fun q0 => s_bad (W := fun s => cs (s) ab ((s_seal (upd ta (1 + j) 0) (ta 0 + 1))) ((s_seal (upd ta (1 + j) 0) (ta 0 + 1))) (-1) (-1) (-1) mc on r) (V := fun s => cl (s) ab ta ((s_seal (upd ta (1 + j) 0) (ta 0 + 1))) mc r) (u := m_com (s_seal (upd ta (1 + j) 0) (ta 0 + 1)) ab (s)) (rfl) q0) (fun q0 => ?_)
        refine xk_Po.go 4 rfl ?_
        refine xk_Po.br rfl rfl (fun h3 => ?_) (fun h3 => ?_) -- 40 .if_icmp .ne 44
        · refine xk_Po.go 2 rfl ?_
          refine xk_Po.cv1 rfl rfl (c_end) ?_
          exact xk_Po.ret rfl (s_good (W := fun s => cs (s) ab ((s_seal (upd ta (1 + j) 0) (ta 0 + 1))) ((s_seal (upd ta (1 + j) 0) (ta 0 + 1))) (-1) (-1) (-1) mc on r) (V := fun s => cl (s) ab ta ((s_seal (upd ta (1 + j) 0) (ta 0 + 1))) mc r) (s := (m_com (s_seal (upd ta (1 + j) 0) (ta 0 + 1)) ab (s)).2) (m_true q0))
        · exact xk_Po.ret rfl (absurd h h3)
theorem c_drop_pr (hp : ¬ on = 0) {j : Nat} (hj : j < 4) (hl : ¬ ta (1 + j) = 0) (hb : ∀ i, ab i = 0 ∨ ab i = 1) (h : ab j = 0 ∨ s_any (fun j => ¬ ta (1 + j) = 0 ∧ ab j = 0) 4 0 = 0) : xk_Ev (xp_P sc) 42 0 [.ref 0, .int (Int32.ofNat j), .retAddr 0] [] (cw sl ex ab ta dr md ml mt mc on ct r) (.inr 2, 1, cw sl ex ab ta dr md ml mt mc on ct r) := by
  apply xk_Ev.of
  refine xk_Po.go 1 rfl ?_
  refine xk_Po.cv1 rfl rfl (c_requirePower hp) ?_
  refine xk_Po.go 1 rfl ?_
  refine xk_Po.cv1 rfl rfl (c_requireDisk (dk hj)) ?_
  refine xk_Po.go 2 rfl ?_
  refine xk_Po.cv2 rfl rfl (c_requireListed hj hl) ?_
  refine xk_Po.go 3 rfl ?_
  refine xk_Po.ci2 rfl rfl (c_isAbsent hj hb) ?_
  refine xk_Po.br rfl rfl (fun h0 => ?_) (fun h0 => ?_) -- 11 .ifCond .eq 15
  · exact xk_Po.thr rfl rfl
  · refine xk_Po.go 1 rfl ?_
    refine xk_Po.ci1 rfl rfl (c_isAnyListedPresent hb) ?_
    refine xk_Po.br rfl rfl (fun h1 => ?_) (fun h1 => ?_) -- 14 .ifCond .ne 16
    · exact xk_Po.thr rfl rfl
    · exact h.elim (fun q => absurd q h0) (fun q => absurd q h1)
theorem c_drop {s : s_S} (hp : ¬ on = 0) {j : Nat} (hj : j < 4) (hl : ¬ ta (1 + j) = 0) (hb : ∀ i, ab i = 0 ∨ ab i = 1) (ha : ¬ ab j = 0) (hr : ¬ s_any (fun j => ¬ ta (1 + j) = 0 ∧ ab j = 0) 4 0 = 0) (hq : ¬ s_any (fun j => ¬ ta (1 + j) = 0 ∧ ¬ ab j = 0) 4 0 = 0) (ht : ∀ i, 51 ≤ i → ta i = 0) (hd : ∀ i, 51 ≤ i → dr i = 0) (hml : ¬ ml = Int32.ofInt (-1) → ∃ j, j < 40 ∧ ml = Int32.ofNat j)  : xk_Ev (xp_P sc) 42 0 [.ref 0, .int (Int32.ofNat j), .retAddr 0] [] (cs (s) ab ta dr md ml mt mc on r) (s_outI (s_cnt (fun i => s_disk (ta (9 + i) - 1) = Int32.ofNat j) 40) (m_com (s_seal (s_clr (upd ta (1 + j) 0) (fun i => s_disk ((upd ta (1 + j) 0) (9 + i) - 1) = Int32.ofNat j) 9 40) (ta 0 + 2)) ab (s)) (fun s => cs (s) ab ((s_seal (s_clr (upd ta (1 + j) 0) (fun i => s_disk ((upd ta (1 + j) 0) (9 + i) - 1) = Int32.ofNat j) 9 40) (ta 0 + 2))) ((s_seal (s_clr (upd ta (1 + j) 0) (fun i => s_disk ((upd ta (1 + j) 0) (9 + i) - 1) = Int32.ofNat j) 9 40) (ta 0 + 2))) md ((s_ml (s_seal (s_clr (upd ta (1 + j) 0) (fun i => s_disk ((upd ta (1 + j) 0) (9 + i) - 1) = Int32.ofNat j) 9 40) (ta 0 + 2)) ml mt).1) ((s_ml (s_seal (s_clr (upd ta (1 + j) 0) (fun i => s_disk ((upd ta (1 + j) 0) (9 + i) - 1) = Int32.ofNat j) 9 40) (ta 0 + 2)) ml mt).2) mc on r) (fun s => cl (s) ab ta ((s_seal (s_clr (upd ta (1 + j) 0) (fun i => s_disk ((upd ta (1 + j) 0) (9 + i) - 1) = Int32.ofNat j) 9 40) (ta 0 + 2))) mc r)) := by
  apply xk_Ev.of
  refine xk_Po.go 1 rfl ?_
  refine xk_Po.cv1 rfl rfl (c_requirePower hp) ?_
  refine xk_Po.go 1 rfl ?_
  refine xk_Po.cv1 rfl rfl (c_requireDisk (dk hj)) ?_
  refine xk_Po.go 2 rfl ?_
  refine xk_Po.cv2 rfl rfl (c_requireListed hj hl) ?_
  refine xk_Po.go 3 rfl ?_
  refine xk_Po.ci2 rfl rfl (c_isAbsent hj hb) ?_
  refine xk_Po.br rfl rfl (fun h0 => ?_) (fun h0 => ?_) -- 11 .ifCond .eq 15
  · exact xk_Po.thr rfl (absurd h0 ha)
  · refine xk_Po.go 1 rfl ?_
    refine xk_Po.ci1 rfl rfl (c_isAnyListedPresent hb) ?_
    refine xk_Po.br rfl rfl (fun h1 => ?_) (fun h1 => ?_) -- 14 .ifCond .ne 16
    · exact xk_Po.thr rfl (absurd h1 hr)
    · refine xk_Po.go 3 rfl ?_
      refine xk_Po.ci2 rfl rfl (c_legsOn) ?_
      refine xk_Po.go 2 rfl ?_
      refine xk_Po.cv1 rfl rfl (c_beginDraft ht hd) ?_
      refine xk_Po.go 4 rfl ?_
      refine xk_Po.cv3 rfl rfl (d_setExtentsN hj) ?_
      refine xk_Po.go 3 rfl ?_
      refine xk_Po.cv2 rfl rfl (d_loseLegsOn) ?_
      refine xk_Po.go 1 rfl ?_
      refine xk_Po.cm1 rfl rfl (c_commitDraft2 hb hq ht (s_clr_z (upd_z ht (by omega)) _ (by omega)) hml) rfl (fun q0 => s_badI (x := s_cnt (fun i => s_disk (ta (9 + i) - 1) = Int32.ofNat j) 40) (W := fun s => cs (s) ab ((s_seal (s_clr (upd ta (1 + j) 0) (fun i => s_disk ((upd ta (1 + j) 0) (9 + i) - 1) = Int32.ofNat j) 9 40) (ta 0 + 2))) ((s_seal (s_clr (upd ta (1 + j) 0) (fun i => s_disk ((upd ta (1 + j) 0) (9 + i) - 1) = Int32.ofNat j) 9 40) (ta 0 + 2))) md ((s_ml (s_seal (s_clr (upd ta (1 + j) 0) (fun i => s_disk ((upd ta (1 + j) 0) (9 + i) - 1) = Int32.ofNat j) 9 40) (ta 0 + 2)) ml mt).1) ((s_ml (s_seal (s_clr (upd ta (1 + j) 0) (fun i => s_disk ((upd ta (1 + j) 0) (9 + i) - 1) = Int32.ofNat j) 9 40) (ta 0 + 2)) ml mt).2) mc on r) (V := fun s => cl (s) ab ta ((s_seal (s_clr (upd ta (1 + j) 0) (fun i => s_disk ((upd ta (1 + j) 0) (9 + i) - 1) = Int32.ofNat j) 9 40) (ta 0 + 2))) mc r) (u := m_com (s_seal (s_clr (upd ta (1 + j) 0) (fun i => s_disk ((upd ta (1 + j) 0) (9 + i) - 1) = Int32.ofNat j) 9 40) (ta 0 + 2)) ab (s)) (rfl) q0) (fun q0 => ?_)
      refine xk_Po.go 1 rfl ?_
      exact xk_Po.iret rfl (s_goodI (x := s_cnt (fun i => s_disk (ta (9 + i) - 1) = Int32.ofNat j) 40) (W := fun s => cs (s) ab ((s_seal (s_clr (upd ta (1 + j) 0) (fun i => s_disk ((upd ta (1 + j) 0) (9 + i) - 1) = Int32.ofNat j) 9 40) (ta 0 + 2))) ((s_seal (s_clr (upd ta (1 + j) 0) (fun i => s_disk ((upd ta (1 + j) 0) (9 + i) - 1) = Int32.ofNat j) 9 40) (ta 0 + 2))) md ((s_ml (s_seal (s_clr (upd ta (1 + j) 0) (fun i => s_disk ((upd ta (1 + j) 0) (9 + i) - 1) = Int32.ofNat j) 9 40) (ta 0 + 2)) ml mt).1) ((s_ml (s_seal (s_clr (upd ta (1 + j) 0) (fun i => s_disk ((upd ta (1 + j) 0) (9 + i) - 1) = Int32.ofNat j) 9 40) (ta 0 + 2)) ml mt).2) mc on r) (V := fun s => cl (s) ab ta ((s_seal (s_clr (upd ta (1 + j) 0) (fun i => s_disk ((upd ta (1 + j) 0) (9 + i) - 1) = Int32.ofNat j) 9 40) (ta 0 + 2))) mc r) (s := (m_com (s_seal (s_clr (upd ta (1 + j) 0) (fun i => s_disk ((upd ta (1 + j) 0) (9 + i) - 1) = Int32.ofNat j) 9 40) (ta 0 + 2)) ab (s)).2) (m_true q0))
end XkRem
