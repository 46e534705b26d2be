/-! delete, add, remove. -/
section XkAdd
variable {sc : Nat × (Nat → Int32)} {sl ex ab ta dr : Nat → Int32} {md ml mt mc on ct : Int32} {r w : xk_W}
theorem upd_z {f : Nat → Int32} {a : Nat} {x : Int32} (h : ∀ i, 51 ≤ i → f i = 0) (ha : a < 51) : ∀ i, 51 ≤ i → upd f a x i = 0 := by
  intro i hi
  unfold upd
  rw [if_neg (by omega)]
  exact h i hi
theorem s_clr_z {f : Nat → Int32} {p : Nat → Prop} [DecidablePred p] {a : Nat} (h : ∀ i, 51 ≤ i → f i = 0) : ∀ n, a + n ≤ 51 → ∀ i, 51 ≤ i → s_clr f p a n i = 0
  | 0, _ => h
  | n + 1, hn => by
    have ih := s_clr_z (p := p) (a := a) h n (by omega)
    unfold s_clr
    split
    · exact upd_z ih (by omega)
    · exact ih
theorem c_delete_off {g : Int32} (hp : on = 0) : xk_Ev (xp_P sc) 46 0 [.ref 0, .int g] [] (cw sl ex ab ta dr md ml mt mc on ct r) (.inr 0, 1, cw sl ex ab ta dr md ml mt mc on ct r) := by
  apply xk_Ev.of
  refine xk_Po.go 1 rfl ?_
  exact xk_Po.ct1 rfl rfl (c_requirePower_t hp) rfl rfl
theorem c_delete_nv (hp : ¬ on = 0) {g : Int32} (h : g < 0 ∨ Int32.ofInt 4 ≤ g) : xk_Ev (xp_P sc) 46 0 [.ref 0, .int g] [] (cw sl ex ab ta dr md ml mt mc on ct r) (.inr 3, 1, cw sl ex ab ta dr md ml mt mc on ct r) := by
  apply xk_Ev.of
  refine xk_Po.go 1 rfl ?_
  refine xk_Po.cv1 rfl rfl (c_requirePower hp) ?_
  refine xk_Po.go 2 rfl ?_
  exact xk_Po.ct2 rfl rfl (c_requireVolume_t h) rfl rfl
theorem c_delete_uv (hp : ¬ on = 0) {j : Nat} (hj : j < 4) (h : ta (5 + j) = 0) : xk_Ev (xp_P sc) 46 0 [.ref 0, .int (Int32.ofNat j)] [] (cw sl ex ab ta dr md ml mt mc on ct r) (.inr 3, 1, cw sl ex ab ta dr md ml mt mc on ct r) := by
  apply xk_Ev.of
  refine xk_Po.go 1 rfl ?_
  refine xk_Po.cv1 rfl rfl (c_requirePower hp) ?_
  refine xk_Po.go 2 rfl ?_
  exact xk_Po.ct2 rfl rfl (c_requireVolume_u hj h) rfl rfl
theorem c_delete_ab (hp : ¬ on = 0) {j : Nat} (hj : j < 4) (hv : ¬ ta (5 + j) = 0) (hb : ∀ i, ab i = 0 ∨ ab i = 1) (hq : ¬ s_any (fun j => ¬ ta (1 + j) = 0 ∧ ¬ ab j = 0) 4 0 = 0)  : xk_Ev (xp_P sc) 46 0 [.ref 0, .int (Int32.ofNat j)] [] (cw sl ex ab ta dr md ml mt mc on ct r) (.inr 2, 1, cw sl ex ab ta dr md ml mt mc on ct r) := by
  apply xk_Ev.of
  refine xk_Po.go 1 rfl ?_
  refine xk_Po.cv1 rfl rfl (c_requirePower hp) ?_
  refine xk_Po.go 2 rfl ?_
  refine xk_Po.cv2 rfl rfl (c_requireVolume hj hv) ?_
  refine xk_Po.go 1 rfl ?_
  exact xk_Po.ct1 rfl rfl (c_requireListedPresent_t hb hq) rfl rfl
theorem c_delete {s : s_S} (hp : ¬ on = 0) {j : Nat} (hj : j < 4) (hv : ¬ ta (5 + j) = 0) (hb : ∀ i, ab i = 0 ∨ ab i = 1) (hq : s_any (fun j => ¬ ta (1 + j) = 0 ∧ ¬ ab j = 0) 4 0 = 0) (ht : ∀ i, 51 ≤ i → ta i = 0) (hd : ∀ i, 51 ≤ i → dr i = 0) (hml : ¬ ml = Int32.ofInt (-1) → ∃ j, j < 40 ∧ ml = Int32.ofNat j)  : xk_Ev (xp_P sc) 46 0 [.ref 0, .int (Int32.ofNat j)] [] (cs (s) ab ta dr md ml mt mc on r) (s_out (m_com (s_seal (s_clr (upd ta (5 + j) 0) (fun _ => True) (9 + (j * 10 + 0 * 2 + 0)) (10 - 0 * 2)) (ta 0 + 1)) ab (s)) (fun s => cs (s) ab ((s_seal (s_clr (upd ta (5 + j) 0) (fun _ => True) (9 + (j * 10 + 0 * 2 + 0)) (10 - 0 * 2)) (ta 0 + 1))) ((s_seal (s_clr (upd ta (5 + j) 0) (fun _ => True) (9 + (j * 10 + 0 * 2 + 0)) (10 - 0 * 2)) (ta 0 + 1))) md ((s_ml (s_seal (s_clr (upd ta (5 + j) 0) (fun _ => True) (9 + (j * 10 + 0 * 2 + 0)) (10 - 0 * 2)) (ta 0 + 1)) ml mt).1) ((s_ml (s_seal (s_clr (upd ta (5 + j) 0) (fun _ => True) (9 + (j * 10 + 0 * 2 + 0)) (10 - 0 * 2)) (ta 0 + 1)) ml mt).2) mc on r) (fun s => cl (s) ab ta ((s_seal (s_clr (upd ta (5 + j) 0) (fun _ => True) (9 + (j * 10 + 0 * 2 + 0)) (10 - 0 * 2)) (ta 0 + 1))) mc r)) := by
  apply xk_Ev.of
  refine xk_Po.go 1 rfl ?_
  refine xk_Po.cv1 rfl rfl (c_requirePower hp) ?_
  refine xk_Po.go 2 rfl ?_
  refine xk_Po.cv2 rfl rfl (c_requireVolume hj hv) ?_
  refine xk_Po.go 1 rfl ?_
  refine xk_Po.cv1 rfl rfl (c_requireListedPresent hb hq) ?_
  refine xk_Po.go 1 rfl ?_
  refine xk_Po.cv1 rfl rfl (c_beginDraft ht hd) ?_
  refine xk_Po.go 3 rfl ?_
  refine xk_Po.cv2 rfl rfl (d_forget hj) ?_
  refine xk_Po.go 1 rfl ?_
  refine xk_Po.cm1 rfl rfl (c_commitDraft1 hb hq ht (s_clr_z (upd_z ht (by omega)) _ (by omega)) hml) rfl (fun q0 => s_bad (W := fun s => cs (s) ab ((s_seal (s_clr (upd ta (5 + j) 0) (fun _ => True) (9 + (j * 10 + 0 * 2 + 0)) (10 - 0 * 2)) (ta 0 + 1))) ((s_seal (s_clr (upd ta (5 + j) 0) (fun _ => True) (9 + (j * 10 + 0 * 2 + 0)) (10 - 0 * 2)) (ta 0 + 1))) md ((s_ml (s_seal (s_clr (upd ta (5 + j) 0) (fun _ => True) (9 + (j * 10 + 0 * 2 + 0)) (10 - 0 * 2)) (ta 0 + 1)) ml mt).1) ((s_ml (s_seal (s_clr (upd ta (5 + j) 0) (fun _ => True) (9 + (j * 10 + 0 * 2 + 0)) (10 - 0 * 2)) (ta 0 + 1)) ml mt).2) mc on r) (V := fun s => cl (s) ab ta ((s_seal (s_clr (upd ta (5 + j) 0) (fun _ => True) (9 + (j * 10 + 0 * 2 + 0)) (10 - 0 * 2)) (ta 0 + 1))) mc r) (u := m_com (s_seal (s_clr (upd ta (5 + j) 0) (fun _ => True) (9 + (j * 10 + 0 * 2 + 0)) (10 - 0 * 2)) (ta 0 + 1)) ab (s)) (rfl) q0) (fun q0 => ?_)
  exact xk_Po.ret rfl (s_good (W := fun s => cs (s) ab ((s_seal (s_clr (upd ta (5 + j) 0) (fun _ => True) (9 + (j * 10 + 0 * 2 + 0)) (10 - 0 * 2)) (ta 0 + 1))) ((s_seal (s_clr (upd ta (5 + j) 0) (fun _ => True) (9 + (j * 10 + 0 * 2 + 0)) (10 - 0 * 2)) (ta 0 + 1))) md ((s_ml (s_seal (s_clr (upd ta (5 + j) 0) (fun _ => True) (9 + (j * 10 + 0 * 2 + 0)) (10 - 0 * 2)) (ta 0 + 1)) ml mt).1) ((s_ml (s_seal (s_clr (upd ta (5 + j) 0) (fun _ => True) (9 + (j * 10 + 0 * 2 + 0)) (10 - 0 * 2)) (ta 0 + 1)) ml mt).2) mc on r) (V := fun s => cl (s) ab ta ((s_seal (s_clr (upd ta (5 + j) 0) (fun _ => True) (9 + (j * 10 + 0 * 2 + 0)) (10 - 0 * 2)) (ta 0 + 1))) mc r) (s := (m_com (s_seal (s_clr (upd ta (5 + j) 0) (fun _ => True) (9 + (j * 10 + 0 * 2 + 0)) (10 - 0 * 2)) (ta 0 + 1)) ab (s)).2) (m_true q0))
theorem c_add_off {g x : Int32} (hp : on = 0) : xk_Ev (xp_P sc) 40 0 [.ref 0, .int g, .int x] [] (cw sl ex ab ta dr md ml mt mc on ct r) (.inr 0, 1, cw sl ex ab ta dr md ml mt mc on ct r) := by
  apply xk_Ev.of
  refine xk_Po.go 1 rfl ?_
  exact xk_Po.ct1 rfl rfl (c_requirePower_t hp) rfl rfl
theorem c_add_nd (hp : ¬ on = 0) {x : Int32} {g : Int32} (hg : ¬ (¬ g < 0 ∧ ¬ Int32.ofInt 4 ≤ g))  : xk_Ev (xp_P sc) 40 0 [.ref 0, .int g, .int x] [] (cw sl ex ab ta dr md ml mt mc on ct r) (.inr 1, 1, cw sl ex ab ta dr md ml mt mc on ct r) := by
  apply xk_Ev.of
  refine xk_Po.go 1 rfl ?_
  refine xk_Po.cv1 rfl rfl (c_requirePower hp) ?_
  refine xk_Po.go 1 rfl ?_
  exact xk_Po.ct1 rfl rfl (c_requireDisk_t hg) rfl rfl
theorem c_add_ne (hp : ¬ on = 0) {j : Nat} (hj : j < 4) {x : Int32} (h : x < Int32.ofInt 2 ∨ ¬ x ≤ Int32.ofInt 8) : xk_Ev (xp_P sc) 40 0 [.ref 0, .int (Int32.ofNat j), .int x] [] (cw sl ex ab ta dr md ml mt mc on ct r) (.inr 1, 1, cw sl ex ab ta dr md ml mt mc on ct r) := by
  apply xk_Ev.of
  refine xk_Po.go 1 rfl ?_
  refine xk_Po.cv1 rfl rfl (c_requirePower hp) ?_
  refine xk_Po.go 1 rfl ?_
  refine xk_Po.cv1 rfl rfl (c_requireDisk (dk hj)) ?_
  refine xk_Po.go 2 rfl ?_
  refine xk_Po.br rfl rfl (fun h0 => ?_) (fun h0 => ?_) -- 6 .if_icmp .lt 10
  · exact xk_Po.thr rfl rfl
  · refine xk_Po.go 2 rfl ?_
    refine xk_Po.br rfl rfl (fun h1 => ?_) (fun h1 => ?_) -- 9 .if_icmp .le 11
    · exact h.elim (fun q => absurd q h0) (fun q => absurd h1 q)
    · exact xk_Po.thr rfl rfl
theorem c_add_li (hp : ¬ on = 0) {j : Nat} (hj : j < 4) {x : Int32} (hx : ¬ x < Int32.ofInt 2) (hy : x ≤ Int32.ofInt 8) (hb : ∀ i, ab i = 0 ∨ ab i = 1) (h : ¬ ta (1 + j) = 0 ∨ ¬ ab j = 0) : xk_Ev (xp_P sc) 40 0 [.ref 0, .int (Int32.ofNat j), .int x] [] (cw sl ex ab ta dr md ml mt mc on ct r) (.inr 2, 1, cw sl ex ab ta dr md ml mt mc on ct r) := by
  apply xk_Ev.of
  refine xk_Po.go 1 rfl ?_
  refine xk_Po.cv1 rfl rfl (c_requirePower hp) ?_
  refine xk_Po.go 1 rfl ?_
  refine xk_Po.cv1 rfl rfl (c_requireDisk (dk hj)) ?_
  refine xk_Po.go 2 rfl ?_
  refine xk_Po.br rfl rfl (fun h0 => ?_) (fun h0 => ?_) -- 6 .if_icmp .lt 10
  · exact xk_Po.thr rfl (absurd h0 hx)
  · refine xk_Po.go 2 rfl ?_
    refine xk_Po.br rfl rfl (fun h1 => ?_) (fun h1 => ?_) -- 9 .if_icmp .le 11
    · refine xk_Po.go 3 rfl ?_
      refine xk_Po.ci2 rfl rfl (c_lists hj) ?_
      refine xk_Po.br rfl rfl (fun h2 => ?_) (fun h2 => ?_) -- 15 .ifCond .ne 21
      · refine xk_Po.go 3 rfl ?_
        refine xk_Po.ci2 rfl rfl (c_isAbsent hj hb) ?_
        refine xk_Po.br rfl rfl (fun h3 => ?_) (fun h3 => ?_) -- 20 .ifCond .eq 22
        · exact h.elim (fun q => absurd q (xn_b0 h2)) (fun q => absurd h3 q)
        · exact xk_Po.thr rfl rfl
      · exact xk_Po.thr rfl rfl
    · exact xk_Po.thr rfl (absurd hy h1)
theorem c_add_ab (hp : ¬ on = 0) {j : Nat} (hj : j < 4) {x : Int32} (hx : ¬ x < Int32.ofInt 2) (hy : x ≤ Int32.ofInt 8) (hb : ∀ i, ab i = 0 ∨ ab i = 1) (hl : ta (1 + j) = 0) (ha : ab j = 0) (hq : ¬ s_any (fun j => ¬ ta (1 + j) = 0 ∧ ¬ ab j = 0) 4 0 = 0)  : xk_Ev (xp_P sc) 40 0 [.ref 0, .int (Int32.ofNat j), .int x] [] (cw sl ex ab ta dr md ml mt mc on ct r) (.inr 2, 1, cw sl ex ab ta dr md ml mt mc on ct r) := by
  apply xk_Ev.of
  refine xk_Po.go 1 rfl ?_
  refine xk_Po.cv1 rfl rfl (c_requirePower hp) ?_
  refine xk_Po.go 1 rfl ?_
  refine xk_Po.cv1 rfl rfl (c_requireDisk (dk hj)) ?_
  refine xk_Po.go 2 rfl ?_
  refine xk_Po.br rfl rfl (fun h0 => ?_) (fun h0 => ?_) -- 6 .if_icmp .lt 10
  · exact xk_Po.thr rfl (absurd h0 hx)
  · refine xk_Po.go 2 rfl ?_
    refine xk_Po.br rfl rfl (fun h1 => ?_) (fun h1 => ?_) -- 9 .if_icmp .le 11
    · refine xk_Po.go 3 rfl ?_
      refine xk_Po.ci2 rfl rfl (c_lists hj) ?_
      refine xk_Po.br rfl rfl (fun h2 => ?_) (fun h2 => ?_) -- 15 .ifCond .ne 21
      · refine xk_Po.go 3 rfl ?_
        refine xk_Po.ci2 rfl rfl (c_isAbsent hj hb) ?_
        refine xk_Po.br rfl rfl (fun h3 => ?_) (fun h3 => ?_) -- 20 .ifCond .eq 22
        · refine xk_Po.go 1 rfl ?_
          exact xk_Po.ct1 rfl rfl (c_requireListedPresent_t hb hq) rfl rfl
        · exact xk_Po.thr rfl (absurd ha h3)
      · exact xk_Po.thr rfl (absurd hl (xn_b1 h2))
    · exact xk_Po.thr rfl (absurd hy h1)
theorem c_add {s : s_S} (hp : ¬ on = 0) {j : Nat} (hj : j < 4) {x : Int32} (hx : ¬ x < Int32.ofInt 2) (hy : x ≤ Int32.ofInt 8) (hb : ∀ i, ab i = 0 ∨ ab i = 1) (hl : ta (1 + j) = 0) (ha : ab j = 0) (hq : s_any (fun j => ¬ ta (1 + j) = 0 ∧ ¬ ab j = 0) 4 0 = 0) (ht : ∀ i, 51 ≤ i → ta i = 0) (hd : ∀ i, 51 ≤ i → dr i = 0) (hml : ¬ ml = Int32.ofInt (-1) → ∃ j, j < 40 ∧ ml = Int32.ofNat j)  : xk_Ev (xp_P sc) 40 0 [.ref 0, .int (Int32.ofNat j), .int x] [] (cs (s) ab ta dr md ml mt mc on r) (s_out (m_com (s_seal (upd ta (1 + j) x) (ta 0 + 1)) ab (s.1, s_clr s.2.1 (fun _ => True) (j * 32) 32, s.2.2)) (fun s => cs (s) ab ((s_seal (upd ta (1 + j) x) (ta 0 + 1))) ((s_seal (upd ta (1 + j) x) (ta 0 + 1))) md ((s_ml (s_seal (upd ta (1 + j) x) (ta 0 + 1)) ml mt).1) ((s_ml (s_seal (upd ta (1 + j) x) (ta 0 + 1)) ml mt).2) mc on r) (fun s => cl (s) ab ta ((s_seal (upd ta (1 + j) x) (ta 0 + 1))) mc r)) := by
  apply xk_Ev.of
  refine xk_Po.go 1 rfl ?_
  refine xk_Po.cv1 rfl rfl (c_requirePower hp) ?_
  refine xk_Po.go 1 rfl ?_
  refine xk_Po.cv1 rfl rfl (c_requireDisk (dk hj)) ?_
  refine xk_Po.go 2 rfl ?_
  refine xk_Po.br rfl rfl (fun h0 => ?_) (fun h0 => ?_) -- 6 .if_icmp .lt 10
  · exact xk_Po.thr rfl (absurd h0 hx)
  · refine xk_Po.go 2 rfl ?_
    refine xk_Po.br rfl rfl (fun h1 => ?_) (fun h1 => ?_) -- 9 .if_icmp .le 11
    · refine xk_Po.go 3 rfl ?_
      refine xk_Po.ci2 rfl rfl (c_lists hj) ?_
      refine xk_Po.br rfl rfl (fun h2 => ?_) (fun h2 => ?_) -- 15 .ifCond .ne 21
      · refine xk_Po.go 3 rfl ?_
        refine xk_Po.ci2 rfl rfl (c_isAbsent hj hb) ?_
        refine xk_Po.br rfl rfl (fun h3 => ?_) (fun h3 => ?_) -- 20 .ifCond .eq 22
        · refine xk_Po.go 1 rfl ?_
          refine xk_Po.cv1 rfl rfl (c_requireListedPresent hb hq) ?_
          refine xk_Po.go 3 rfl ?_
          refine xk_Po.cv2 rfl rfl (c_clearExtents hj) ?_
          refine xk_Po.go 1 rfl ?_
          refine xk_Po.cv1 rfl rfl (c_beginDraft ht hd) ?_
          refine xk_Po.go 4 rfl ?_
          refine xk_Po.cv3 rfl rfl (d_setExtentsN hj) ?_
          refine xk_Po.go 1 rfl ?_
          refine xk_Po.cm1 rfl rfl (c_commitDraft1 (s := (s.1, s_clr s.2.1 (fun _ => True) (j * 32) 32, s.2.2)) hb hq ht (upd_z ht (by omega)) hml) rfl (fun q0 => s_bad (W := fun s => cs (s) ab ((s_seal (upd ta (1 + j) x) (ta 0 + 1))) ((s_seal (upd ta (1 + j) x) (ta 0 + 1))) md ((s_ml (s_seal (upd ta (1 + j) x) (ta 0 + 1)) ml mt).1) ((s_ml (s_seal (upd ta (1 + j) x) (ta 0 + 1)) ml mt).2) mc on r) (V := fun s => cl (s) ab ta ((s_seal (upd ta (1 + j) x) (ta 0 + 1))) mc r) (u := m_com (s_seal (upd ta (1 + j) x) (ta 0 + 1)) ab (s.1, s_clr s.2.1 (fun _ => True) (j * 32) 32, s.2.2)) (rfl) q0) (fun q0 => ?_)
          exact xk_Po.ret rfl (s_good (W := fun s => cs (s) ab ((s_seal (upd ta (1 + j) x) (ta 0 + 1))) ((s_seal (upd ta (1 + j) x) (ta 0 + 1))) md ((s_ml (s_seal (upd ta (1 + j) x) (ta 0 + 1)) ml mt).1) ((s_ml (s_seal (upd ta (1 + j) x) (ta 0 + 1)) ml mt).2) mc on r) (V := fun s => cl (s) ab ta ((s_seal (upd ta (1 + j) x) (ta 0 + 1))) mc r) (s := (m_com (s_seal (upd ta (1 + j) x) (ta 0 + 1)) ab (s.1, s_clr s.2.1 (fun _ => True) (j * 32) 32, s.2.2)).2) (m_true q0))
        · exact xk_Po.thr rfl (absurd ha h3)
      · exact xk_Po.thr rfl (absurd hl (xn_b1 h2))
    · exact xk_Po.thr rfl (absurd hy h1)
end XkAdd
