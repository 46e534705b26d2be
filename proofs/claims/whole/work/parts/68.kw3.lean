section XkKw3
variable {sc : Nat × (Nat → Int32)} {sl ex ab ta dr : Nat → Int32} {md ml mt mc on ct : Int32} {r w : xk_W}
theorem k_ml40 {D : Nat → Int32} {g : Nat → Nat} (T : s_Tv D g) : s_ml D (n_ml 40) (n_mt 32) = (n_ml 40, n_mt 32) := by
  rw [s_ml_eq T, show n_mx g 40 32 = (40, 32) from if_neg (fun q => absurd q.1 (by omega))]
theorem k_lal_b1 {f : Nat → Nat} {v e : Nat} {s : s_S} (T : s_Tv ta f) (hv : v < 4) (he : e < 5) (hb : ∀ i, ab i = 0 ∨ ab i = 1) (hd : ∀ i, 51 ≤ i → dr i = 0) (hq : ¬ s_any (fun j => ¬ ta (1 + j) = 0 ∧ ¬ ab j = 0) 4 0 = 0) (h0 : n_rda (f (9 + (v * 10 + e * 2))) ab) (h1 : ¬ n_rda (f (9 + (v * 10 + e * 2 + 1))) ab) (hL : f (9 + (v * 10 + e * 2 + 1)) ≠ 0) (ho : (m_com (s_seal (upd ta (9 + (v * 10 + e * 2 + 1)) 0) (ta 0 + 2)) ab s).1 = true) : xk_Ev (xp_P sc) 89 0 [.ref 0, .int (Int32.ofNat v), .int (Int32.ofNat e), .retAddr 0, .retAddr 0] [] (cs (s) (ab) (ta) (dr) (md) (n_ml 40) (n_mt 32) (mc) (on) r) (.inl none, 0, cs ((m_com (s_seal (upd ta (9 + (v * 10 + e * 2 + 1)) 0) (ta 0 + 2)) ab s).2) (ab) (s_seal (upd ta (9 + (v * 10 + e * 2 + 1)) 0) (ta 0 + 2)) (s_seal (upd ta (9 + (v * 10 + e * 2 + 1)) 0) (ta 0 + 2)) (md) (n_ml 40) (n_mt 32) (mc) (on) r) := by
  have l0 := T.l (v * 10 + e * 2 + 0) (by omega)
  have l2 := T.l (v * 10 + e * 2) (by omega)
  have l1 := T.l (v * 10 + e * 2 + 1) (by omega)
  have TD : s_Tv (s_seal (upd ta (9 + (v * 10 + e * 2 + 1)) 0) (ta 0 + 2)) (n_up f (9 + (v * 10 + e * 2 + 1)) 0) := s_seal_Tv (g_los T (by omega))
  have ss : ∀ (q1 q2 : Nat → Int32) (q3 : Int32), xk_Ev (xp_P sc) 35 0 [.ref 7, .int (Int32.ofNat (v * 10 + e * 2 + 1)), .int (Int32.ofInt (-1))] [] (cw (q1) (q2) ab ta (ta) md (n_ml 40) (n_mt 32) mc on (q3) r) (.inl none, 0, cw (q1) (q2) ab ta (upd ta (9 + (v * 10 + e * 2 + 1)) 0) md (n_ml 40) (n_mt 32) mc on (q3) r) := by
    intro q1 q2 q3
    have h := d_setSpotN (sc := sc) (sl := q1) (ex := q2) (ab := ab) (ta := ta) (dr := ta) (md := md) (ml := n_ml 40) (mt := n_mt 32) (mc := mc) (on := on) (ct := q3) (r := r) (j := (v * 10 + e * 2 + 1)) (x := Int32.ofInt (-1)) (by omega)
    rw [show Int32.ofInt (-1) + 1 = 0 by decide] at h
    exact h
  have cm := c_commitDraft2 (sc := sc) (s := s) (ab := ab) (ta := ta) (dr := upd ta (9 + (v * 10 + e * 2 + 1)) 0) (md := md) (ml := n_ml 40) (mt := n_mt 32) (mc := mc) (on := on) (r := r) hb hq T.z (upd_z T.z (by omega)) (fun q => absurd rfl q)
  unfold s_out at cm
  rw [k_ml40 TD] at cm
  rw [if_pos ho] at cm
  apply xk_Ev.of
  refine xk_Po.go 8 rfl ?_
  refine xk_Po.ci3 rfl rfl (c_legOfN (l := 0)) ?_
  refine xk_Po.go 4 rfl ?_
  refine xk_Po.ci2 rfl rfl (k_sp T (by omega) h0.1) ?_
  refine xk_Po.go 1 rfl ?_
  refine xk_Po.br rfl rfl (fun hZ => absurd hZ (n_ne1 (by omega))) (fun _ => ?_) -- 15 .if_icmp .eq 29
  refine xk_Po.go 2 rfl ?_
  refine xk_Po.ci2 rfl rfl (k_rd1 T (by omega) hb h0) ?_
  refine xk_Po.go 9 rfl ?_
  refine xk_Po.ci3 rfl rfl (c_legOfN (l := 1)) ?_
  refine xk_Po.go 4 rfl ?_
  refine xk_Po.ci2 rfl rfl (k_sp T (by omega) hL) ?_
  refine xk_Po.go 1 rfl ?_
  refine xk_Po.br rfl rfl (fun hZ => absurd hZ (n_ne1 (by omega))) (fun _ => ?_) -- 15 .if_icmp .eq 29
  refine xk_Po.go 2 rfl ?_
  refine xk_Po.ci2 rfl rfl (k_rd0 T (by omega) hb h1) ?_
  refine xk_Po.go 2 rfl ?_
  refine xk_Po.cv1 rfl rfl (c_beginDraft T.z hd) ?_
  refine xk_Po.go 4 rfl ?_
  refine xk_Po.cv3 rfl rfl (ss _ _ _) ?_
  refine xk_Po.go 1 rfl ?_
  refine xk_Po.cv1 rfl rfl (cm) ?_
  refine xk_Po.go 5 rfl ?_
  exact xk_Po.ret rfl (rfl)
theorem k_lal_b0 {f : Nat → Nat} {v e : Nat} {s : s_S} (T : s_Tv ta f) (hv : v < 4) (he : e < 5) (hb : ∀ i, ab i = 0 ∨ ab i = 1) (hd : ∀ i, 51 ≤ i → dr i = 0) (hq : ¬ s_any (fun j => ¬ ta (1 + j) = 0 ∧ ¬ ab j = 0) 4 0 = 0) (h0 : n_rda (f (9 + (v * 10 + e * 2))) ab) (h1 : ¬ n_rda (f (9 + (v * 10 + e * 2 + 1))) ab) (hL : f (9 + (v * 10 + e * 2 + 1)) ≠ 0) (ho : ¬ (m_com (s_seal (upd ta (9 + (v * 10 + e * 2 + 1)) 0) (ta 0 + 2)) ab s).1 = true) : xk_Ev (xp_P sc) 89 0 [.ref 0, .int (Int32.ofNat v), .int (Int32.ofNat e), .retAddr 0, .retAddr 0] [] (cs (s) (ab) (ta) (dr) (md) (n_ml 40) (n_mt 32) (mc) (on) r) (.inr 0, 1, cl ((m_com (s_seal (upd ta (9 + (v * 10 + e * 2 + 1)) 0) (ta 0 + 2)) ab s).2) ab ta (s_seal (upd ta (9 + (v * 10 + e * 2 + 1)) 0) (ta 0 + 2)) (mc) r) := by
  have l0 := T.l (v * 10 + e * 2 + 0) (by omega)
  have l2 := T.l (v * 10 + e * 2) (by omega)
  have l1 := T.l (v * 10 + e * 2 + 1) (by omega)
  have TD : s_Tv (s_seal (upd ta (9 + (v * 10 + e * 2 + 1)) 0) (ta 0 + 2)) (n_up f (9 + (v * 10 + e * 2 + 1)) 0) := s_seal_Tv (g_los T (by omega))
  have ss : ∀ (q1 q2 : Nat → Int32) (q3 : Int32), xk_Ev (xp_P sc) 35 0 [.ref 7, .int (Int32.ofNat (v * 10 + e * 2 + 1)), .int (Int32.ofInt (-1))] [] (cw (q1) (q2) ab ta (ta) md (n_ml 40) (n_mt 32) mc on (q3) r) (.inl none, 0, cw (q1) (q2) ab ta (upd ta (9 + (v * 10 + e * 2 + 1)) 0) md (n_ml 40) (n_mt 32) mc on (q3) r) := by
    intro q1 q2 q3
    have h := d_setSpotN (sc := sc) (sl := q1) (ex := q2) (ab := ab) (ta := ta) (dr := ta) (md := md) (ml := n_ml 40) (mt := n_mt 32) (mc := mc) (on := on) (ct := q3) (r := r) (j := (v * 10 + e * 2 + 1)) (x := Int32.ofInt (-1)) (by omega)
    rw [show Int32.ofInt (-1) + 1 = 0 by decide] at h
    exact h
  have cm := c_commitDraft2 (sc := sc) (s := s) (ab := ab) (ta := ta) (dr := upd ta (9 + (v * 10 + e * 2 + 1)) 0) (md := md) (ml := n_ml 40) (mt := n_mt 32) (mc := mc) (on := on) (r := r) hb hq T.z (upd_z T.z (by omega)) (fun q => absurd rfl q)
  unfold s_out at cm
  rw [k_ml40 TD] at cm
  rw [if_neg ho] at cm
  apply xk_Ev.of
  refine xk_Po.go 8 rfl ?_
  refine xk_Po.ci3 rfl rfl (c_legOfN (l := 0)) ?_
  refine xk_Po.go 4 rfl ?_
  refine xk_Po.ci2 rfl rfl (k_sp T (by omega) h0.1) ?_
  refine xk_Po.go 1 rfl ?_
  refine xk_Po.br rfl rfl (fun hZ => absurd hZ (n_ne1 (by omega))) (fun _ => ?_) -- 15 .if_icmp .eq 29
  refine xk_Po.go 2 rfl ?_
  refine xk_Po.ci2 rfl rfl (k_rd1 T (by omega) hb h0) ?_
  refine xk_Po.go 9 rfl ?_
  refine xk_Po.ci3 rfl rfl (c_legOfN (l := 1)) ?_
  refine xk_Po.go 4 rfl ?_
  refine xk_Po.ci2 rfl rfl (k_sp T (by omega) hL) ?_
  refine xk_Po.go 1 rfl ?_
  refine xk_Po.br rfl rfl (fun hZ => absurd hZ (n_ne1 (by omega))) (fun _ => ?_) -- 15 .if_icmp .eq 29
  refine xk_Po.go 2 rfl ?_
  refine xk_Po.ci2 rfl rfl (k_rd0 T (by omega) hb h1) ?_
  refine xk_Po.go 2 rfl ?_
  refine xk_Po.cv1 rfl rfl (c_beginDraft T.z hd) ?_
  refine xk_Po.go 4 rfl ?_
  refine xk_Po.cv3 rfl rfl (ss _ _ _) ?_
  refine xk_Po.go 1 rfl ?_
  exact xk_Po.ct1 rfl rfl (cm) rfl rfl
theorem k_write1b_0 {v : Nat} (hv : v < 4) (hu : ¬ ta (5 + v) = 0) {f : Nat → Nat} (T : s_Tv ta f) (h5 : f (5 + v) ≠ 0) {k : Nat} (hk : k < 20) (hk4 : k < 4 * (f (5 + v) / 32)) (hb : ∀ i, ab i = 0 ∨ ab i = 1) {y : Int32} {s : s_S} (hd : ∀ i, 51 ≤ i → dr i = 0) (hq : ¬ s_any (fun j => ¬ ta (1 + j) = 0 ∧ ¬ ab j = 0) 4 0 = 0) (h0 : n_rda (f (9 + (v * 10 + n_el (f (5 + v)) k * 2))) ab) (h1 : ¬ n_rda (f (9 + (v * 10 + n_el (f (5 + v)) k * 2 + 1))) ab) (hL : f (9 + (v * 10 + n_el (f (5 + v)) k * 2 + 1)) ≠ 0) (ho : ¬ (m_com (s_seal (upd ta (9 + (v * 10 + n_el (f (5 + v)) k * 2 + 1)) 0) (ta 0 + 2)) ab s).1 = true) : xk_Ev (xp_P sc) 48 0 [.ref 0, .int (Int32.ofNat v), .int (Int32.ofNat k), .int y, .retAddr 0, .retAddr 0, .retAddr 0, .retAddr 0, .retAddr 0] [] (cs (s) (ab) (ta) (dr) (md) (n_ml 40) (n_mt 32) (mc) (1) r) (.inr 0, 1, cl ((m_com (s_seal (upd ta (9 + (v * 10 + n_el (f (5 + v)) k * 2 + 1)) 0) (ta 0 + 2)) ab s).2) ab ta (s_seal (upd ta (9 + (v * 10 + n_el (f (5 + v)) k * 2 + 1)) 0) (ta 0 + 2)) (mc) r) := by
  obtain ⟨b1, b2⟩ := s_elb _ (T.v v hv) h5 k hk hk4
  have e5 := (s_dv_32 _ (T.v v hv)).2
  have l0 := T.l (v * 10 + n_el (f (5 + v)) k * 2) (by omega)
  have l1 := T.l (v * 10 + n_el (f (5 + v)) k * 2 + 1) (by omega)
  have TD : s_Tv (s_seal (upd ta (9 + (v * 10 + n_el (f (5 + v)) k * 2 + 1)) 0) (ta 0 + 2)) (n_up f (9 + (v * 10 + n_el (f (5 + v)) k * 2 + 1)) 0) := s_seal_Tv (g_los T (by omega))
  have g5 : (n_up f (9 + (v * 10 + n_el (f (5 + v)) k * 2 + 1)) 0) (5 + v) = f (5 + v) := n_up_ne (by omega)
  have hw : ¬ Int32.ofNat k < 0 ∧ Int32.ofNat k < ta (5 + v) / 32 * 4 := by
    refine ⟨xn_nneg (by omega), ?_⟩
    rw [T.w (5 + v) (by omega) (by omega), (s_dv_32 _ (T.v v hv)).1]
    show _ < Int32.ofNat _ * Int32.ofNat 4
    rw [xn_mul]
    exact (xn_lt (by omega) (by omega)).2 (by omega)
  apply xk_Ev.of
  refine xk_Po.go 1 rfl ?_
  refine xk_Po.cv1 rfl rfl (c_requirePower (show ¬ (1 : Int32) = 0 by decide)) ?_
  refine xk_Po.go 2 rfl ?_
  refine xk_Po.cv2 rfl rfl (c_requireVolume hv hu) ?_
  refine xk_Po.go 3 rfl ?_
  refine xk_Po.cv3 rfl rfl (c_requireWord hv hw) ?_
  refine xk_Po.go 3 rfl ?_
  refine xk_Po.ci3 rfl rfl (k_elw T hv h5 hk) ?_
  refine xk_Po.go 4 rfl ?_
  refine xk_Po.ci3 rfl rfl (by have h := k_lr (sc := sc) (sl := s.1) (ex := s.2.1) (dr := dr) (md := md) (ml := n_ml 40) (mt := n_mt 32) (mc := mc) (on := 1) (ct := s.2.2) (r := r) T hv (e := n_el (f (5 + v)) k) (by omega) hb; rw [if_pos h0] at h; exact h) ?_
  refine xk_Po.go 1 rfl ?_
  refine xk_Po.br rfl rfl (fun hZ => absurd hZ (n_ne1 (by omega))) (fun _ => ?_) -- 19 .if_icmp .ne 21
  refine xk_Po.go 3 rfl ?_
  exact xk_Po.ct3 rfl rfl (k_lal_b0 (s := s) T hv (by omega) hb hd hq h0 h1 hL ho) rfl rfl
theorem k_write1b_2 {v : Nat} (hv : v < 4) (hu : ¬ ta (5 + v) = 0) {f : Nat → Nat} (T : s_Tv ta f) (h5 : f (5 + v) ≠ 0) {k : Nat} (hk : k < 20) (hk4 : k < 4 * (f (5 + v) / 32)) (hb : ∀ i, ab i = 0 ∨ ab i = 1) {y : Int32} {s : s_S} (hd : ∀ i, 51 ≤ i → dr i = 0) (hq : ¬ s_any (fun j => ¬ ta (1 + j) = 0 ∧ ¬ ab j = 0) 4 0 = 0) (h0 : n_rda (f (9 + (v * 10 + n_el (f (5 + v)) k * 2))) ab) (h1 : ¬ n_rda (f (9 + (v * 10 + n_el (f (5 + v)) k * 2 + 1))) ab) (hL : f (9 + (v * 10 + n_el (f (5 + v)) k * 2 + 1)) ≠ 0) (ho : (m_com (s_seal (upd ta (9 + (v * 10 + n_el (f (5 + v)) k * 2 + 1)) 0) (ta 0 + 2)) ab s).1 = true) (ho2 : (m_seq (m_wr (n_up f (9 + (v * 10 + n_el (f (5 + v)) k * 2 + 1)) 0) 40 32 0 (n_wo ((n_up f (9 + (v * 10 + n_el (f (5 + v)) k * 2 + 1)) 0) (5 + v)) k) y (v * 10 + n_el (f (5 + v)) k * 2)) (m_wr (n_up f (9 + (v * 10 + n_el (f (5 + v)) k * 2 + 1)) 0) 40 32 0 (n_wo ((n_up f (9 + (v * 10 + n_el (f (5 + v)) k * 2 + 1)) 0) (5 + v)) k) y ((v * 10 + n_el (f (5 + v)) k * 2) + 1)) (m_com (s_seal (upd ta (9 + (v * 10 + n_el (f (5 + v)) k * 2 + 1)) 0) (ta 0 + 2)) ab s).2).1 = true) : xk_Ev (xp_P sc) 48 0 [.ref 0, .int (Int32.ofNat v), .int (Int32.ofNat k), .int y, .retAddr 0, .retAddr 0, .retAddr 0, .retAddr 0, .retAddr 0] [] (cs (s) (ab) (ta) (dr) (md) (n_ml 40) (n_mt 32) (mc) (1) r) (.inl (some (.int 1)), 0, cs ((m_seq (m_wr (n_up f (9 + (v * 10 + n_el (f (5 + v)) k * 2 + 1)) 0) 40 32 0 (n_wo ((n_up f (9 + (v * 10 + n_el (f (5 + v)) k * 2 + 1)) 0) (5 + v)) k) y (v * 10 + n_el (f (5 + v)) k * 2)) (m_wr (n_up f (9 + (v * 10 + n_el (f (5 + v)) k * 2 + 1)) 0) 40 32 0 (n_wo ((n_up f (9 + (v * 10 + n_el (f (5 + v)) k * 2 + 1)) 0) (5 + v)) k) y ((v * 10 + n_el (f (5 + v)) k * 2) + 1)) (m_com (s_seal (upd ta (9 + (v * 10 + n_el (f (5 + v)) k * 2 + 1)) 0) (ta 0 + 2)) ab s).2).2) (ab) (s_seal (upd ta (9 + (v * 10 + n_el (f (5 + v)) k * 2 + 1)) 0) (ta 0 + 2)) (s_seal (upd ta (9 + (v * 10 + n_el (f (5 + v)) k * 2 + 1)) 0) (ta 0 + 2)) (md) (n_ml 40) (n_mt 32) (mc) (1) r) := by
  obtain ⟨b1, b2⟩ := s_elb _ (T.v v hv) h5 k hk hk4
  have e5 := (s_dv_32 _ (T.v v hv)).2
  have l0 := T.l (v * 10 + n_el (f (5 + v)) k * 2) (by omega)
  have l1 := T.l (v * 10 + n_el (f (5 + v)) k * 2 + 1) (by omega)
  have TD : s_Tv (s_seal (upd ta (9 + (v * 10 + n_el (f (5 + v)) k * 2 + 1)) 0) (ta 0 + 2)) (n_up f (9 + (v * 10 + n_el (f (5 + v)) k * 2 + 1)) 0) := s_seal_Tv (g_los T (by omega))
  have g5 : (n_up f (9 + (v * 10 + n_el (f (5 + v)) k * 2 + 1)) 0) (5 + v) = f (5 + v) := n_up_ne (by omega)
  have hw : ¬ Int32.ofNat k < 0 ∧ Int32.ofNat k < ta (5 + v) / 32 * 4 := by
    refine ⟨xn_nneg (by omega), ?_⟩
    rw [T.w (5 + v) (by omega) (by omega), (s_dv_32 _ (T.v v hv)).1]
    show _ < Int32.ofNat _ * Int32.ofNat 4
    rw [xn_mul]
    exact (xn_lt (by omega) (by omega)).2 (by omega)
  have hn : (n_up f (9 + (v * 10 + n_el (f (5 + v)) k * 2 + 1)) 0) (9 + (v * 10 + n_el (f (5 + v)) k * 2 + 1)) = 0 := n_up_at
  have hp : n_rda ((n_up f (9 + (v * 10 + n_el (f (5 + v)) k * 2 + 1)) 0) (9 + ((v * 10 + n_el (f (5 + v)) k * 2)))) ab := by rw [n_up_ne (by omega)]; exact h0
  have lp := TD.l ((v * 10 + n_el (f (5 + v)) k * 2)) (by omega)
  have eW : m_seq (m_wr (n_up f (9 + (v * 10 + n_el (f (5 + v)) k * 2 + 1)) 0) 40 32 0 (n_wo ((n_up f (9 + (v * 10 + n_el (f (5 + v)) k * 2 + 1)) 0) (5 + v)) k) y (v * 10 + n_el (f (5 + v)) k * 2)) (m_wr (n_up f (9 + (v * 10 + n_el (f (5 + v)) k * 2 + 1)) 0) 40 32 0 (n_wo ((n_up f (9 + (v * 10 + n_el (f (5 + v)) k * 2 + 1)) 0) (5 + v)) k) y ((v * 10 + n_el (f (5 + v)) k * 2) + 1)) (m_com (s_seal (upd ta (9 + (v * 10 + n_el (f (5 + v)) k * 2 + 1)) 0) (ta 0 + 2)) ab s).2 = m_wr (n_up f (9 + (v * 10 + n_el (f (5 + v)) k * 2 + 1)) 0) 40 32 0 (n_wo ((n_up f (9 + (v * 10 + n_el (f (5 + v)) k * 2 + 1)) 0) (5 + v)) k) y (v * 10 + n_el (f (5 + v)) k * 2) (m_com (s_seal (upd ta (9 + (v * 10 + n_el (f (5 + v)) k * 2 + 1)) 0) (ta 0 + 2)) ab s).2 := by
    rw [show m_wr (n_up f (9 + (v * 10 + n_el (f (5 + v)) k * 2 + 1)) 0) 40 32 0 (n_wo ((n_up f (9 + (v * 10 + n_el (f (5 + v)) k * 2 + 1)) 0) (5 + v)) k) y ((v * 10 + n_el (f (5 + v)) k * 2) + 1) = m_no from if_pos hn, m_no_seq]
  apply xk_Ev.of
  refine xk_Po.go 1 rfl ?_
  refine xk_Po.cv1 rfl rfl (c_requirePower (show ¬ (1 : Int32) = 0 by decide)) ?_
  refine xk_Po.go 2 rfl ?_
  refine xk_Po.cv2 rfl rfl (c_requireVolume hv hu) ?_
  refine xk_Po.go 3 rfl ?_
  refine xk_Po.cv3 rfl rfl (c_requireWord hv hw) ?_
  refine xk_Po.go 3 rfl ?_
  refine xk_Po.ci3 rfl rfl (k_elw T hv h5 hk) ?_
  refine xk_Po.go 4 rfl ?_
  refine xk_Po.ci3 rfl rfl (by have h := k_lr (sc := sc) (sl := s.1) (ex := s.2.1) (dr := dr) (md := md) (ml := n_ml 40) (mt := n_mt 32) (mc := mc) (on := 1) (ct := s.2.2) (r := r) T hv (e := n_el (f (5 + v)) k) (by omega) hb; rw [if_pos h0] at h; exact h) ?_
  refine xk_Po.go 1 rfl ?_
  refine xk_Po.br rfl rfl (fun hZ => absurd hZ (n_ne1 (by omega))) (fun _ => ?_) -- 19 .if_icmp .ne 21
  refine xk_Po.go 3 rfl ?_
  refine xk_Po.cv3 rfl rfl (k_lal_b1 (s := s) T hv (by omega) hb hd hq h0 h1 hL ho) ?_
  refine xk_Po.go 3 rfl ?_
  refine xk_Po.ci3 rfl rfl (k_wow TD hv (by rw [g5]; exact h5) hk) ?_
  refine xk_Po.go 11 rfl ?_
  refine xk_Po.ci3 rfl rfl (c_legOfN (l := 0)) ?_
  refine xk_Po.go 3 rfl ?_
  refine xk_Po.ci2 rfl rfl (k_rd1 TD (by omega) hb hp) ?_
  refine xk_Po.go 5 rfl ?_
  refine xk_Po.cm4 rfl rfl (k_pl (s := (m_com (s_seal (upd ta (9 + (v * 10 + n_el (f (5 + v)) k * 2 + 1)) 0) (ta 0 + 2)) ab s).2) TD (m := 40) (x := 32) (c := 0) ⟨fun q => absurd q (by omega), fun q => absurd q (by omega)⟩ (fun q => absurd q (by omega)) (j := (v * 10 + n_el (f (5 + v)) k * 2)) (by omega) hp.1 (by rw [g5]; exact b2)) rfl (fun q0 => absurd (by rw [← eW]; exact ho2) q0) (fun q0 => ?_)
  refine xk_Po.go 9 rfl ?_
  refine xk_Po.ci3 rfl rfl (c_legOfN (l := 1)) ?_
  refine xk_Po.go 3 rfl ?_
  refine xk_Po.ci2 rfl rfl (k_rd0 TD (by omega) hb (fun q => q.1 hn)) ?_
  refine xk_Po.go 7 rfl ?_
  exact xk_Po.iret rfl (by rw [eW]; rfl)
theorem k_write1b_1 {v : Nat} (hv : v < 4) (hu : ¬ ta (5 + v) = 0) {f : Nat → Nat} (T : s_Tv ta f) (h5 : f (5 + v) ≠ 0) {k : Nat} (hk : k < 20) (hk4 : k < 4 * (f (5 + v) / 32)) (hb : ∀ i, ab i = 0 ∨ ab i = 1) {y : Int32} {s : s_S} (hd : ∀ i, 51 ≤ i → dr i = 0) (hq : ¬ s_any (fun j => ¬ ta (1 + j) = 0 ∧ ¬ ab j = 0) 4 0 = 0) (h0 : n_rda (f (9 + (v * 10 + n_el (f (5 + v)) k * 2))) ab) (h1 : ¬ n_rda (f (9 + (v * 10 + n_el (f (5 + v)) k * 2 + 1))) ab) (hL : f (9 + (v * 10 + n_el (f (5 + v)) k * 2 + 1)) ≠ 0) (ho : (m_com (s_seal (upd ta (9 + (v * 10 + n_el (f (5 + v)) k * 2 + 1)) 0) (ta 0 + 2)) ab s).1 = true) (ho2 : ¬ (m_seq (m_wr (n_up f (9 + (v * 10 + n_el (f (5 + v)) k * 2 + 1)) 0) 40 32 0 (n_wo ((n_up f (9 + (v * 10 + n_el (f (5 + v)) k * 2 + 1)) 0) (5 + v)) k) y (v * 10 + n_el (f (5 + v)) k * 2)) (m_wr (n_up f (9 + (v * 10 + n_el (f (5 + v)) k * 2 + 1)) 0) 40 32 0 (n_wo ((n_up f (9 + (v * 10 + n_el (f (5 + v)) k * 2 + 1)) 0) (5 + v)) k) y ((v * 10 + n_el (f (5 + v)) k * 2) + 1)) (m_com (s_seal (upd ta (9 + (v * 10 + n_el (f (5 + v)) k * 2 + 1)) 0) (ta 0 + 2)) ab s).2).1 = true) : xk_Ev (xp_P sc) 48 0 [.ref 0, .int (Int32.ofNat v), .int (Int32.ofNat k), .int y, .retAddr 0, .retAddr 0, .retAddr 0, .retAddr 0, .retAddr 0] [] (cs (s) (ab) (ta) (dr) (md) (n_ml 40) (n_mt 32) (mc) (1) r) (.inr 0, 1, cl ((m_seq (m_wr (n_up f (9 + (v * 10 + n_el (f (5 + v)) k * 2 + 1)) 0) 40 32 0 (n_wo ((n_up f (9 + (v * 10 + n_el (f (5 + v)) k * 2 + 1)) 0) (5 + v)) k) y (v * 10 + n_el (f (5 + v)) k * 2)) (m_wr (n_up f (9 + (v * 10 + n_el (f (5 + v)) k * 2 + 1)) 0) 40 32 0 (n_wo ((n_up f (9 + (v * 10 + n_el (f (5 + v)) k * 2 + 1)) 0) (5 + v)) k) y ((v * 10 + n_el (f (5 + v)) k * 2) + 1)) (m_com (s_seal (upd ta (9 + (v * 10 + n_el (f (5 + v)) k * 2 + 1)) 0) (ta 0 + 2)) ab s).2).2) ab (s_seal (upd ta (9 + (v * 10 + n_el (f (5 + v)) k * 2 + 1)) 0) (ta 0 + 2)) (s_seal (upd ta (9 + (v * 10 + n_el (f (5 + v)) k * 2 + 1)) 0) (ta 0 + 2)) mc r) := by
  obtain ⟨b1, b2⟩ := s_elb _ (T.v v hv) h5 k hk hk4
  have e5 := (s_dv_32 _ (T.v v hv)).2
  have l0 := T.l (v * 10 + n_el (f (5 + v)) k * 2) (by omega)
  have l1 := T.l (v * 10 + n_el (f (5 + v)) k * 2 + 1) (by omega)
  have TD : s_Tv (s_seal (upd ta (9 + (v * 10 + n_el (f (5 + v)) k * 2 + 1)) 0) (ta 0 + 2)) (n_up f (9 + (v * 10 + n_el (f (5 + v)) k * 2 + 1)) 0) := s_seal_Tv (g_los T (by omega))
  have g5 : (n_up f (9 + (v * 10 + n_el (f (5 + v)) k * 2 + 1)) 0) (5 + v) = f (5 + v) := n_up_ne (by omega)
  have hw : ¬ Int32.ofNat k < 0 ∧ Int32.ofNat k < ta (5 + v) / 32 * 4 := by
    refine ⟨xn_nneg (by omega), ?_⟩
    rw [T.w (5 + v) (by omega) (by omega), (s_dv_32 _ (T.v v hv)).1]
    show _ < Int32.ofNat _ * Int32.ofNat 4
    rw [xn_mul]
    exact (xn_lt (by omega) (by omega)).2 (by omega)
  have hn : (n_up f (9 + (v * 10 + n_el (f (5 + v)) k * 2 + 1)) 0) (9 + (v * 10 + n_el (f (5 + v)) k * 2 + 1)) = 0 := n_up_at
  have hp : n_rda ((n_up f (9 + (v * 10 + n_el (f (5 + v)) k * 2 + 1)) 0) (9 + ((v * 10 + n_el (f (5 + v)) k * 2)))) ab := by rw [n_up_ne (by omega)]; exact h0
  have lp := TD.l ((v * 10 + n_el (f (5 + v)) k * 2)) (by omega)
  have eW : m_seq (m_wr (n_up f (9 + (v * 10 + n_el (f (5 + v)) k * 2 + 1)) 0) 40 32 0 (n_wo ((n_up f (9 + (v * 10 + n_el (f (5 + v)) k * 2 + 1)) 0) (5 + v)) k) y (v * 10 + n_el (f (5 + v)) k * 2)) (m_wr (n_up f (9 + (v * 10 + n_el (f (5 + v)) k * 2 + 1)) 0) 40 32 0 (n_wo ((n_up f (9 + (v * 10 + n_el (f (5 + v)) k * 2 + 1)) 0) (5 + v)) k) y ((v * 10 + n_el (f (5 + v)) k * 2) + 1)) (m_com (s_seal (upd ta (9 + (v * 10 + n_el (f (5 + v)) k * 2 + 1)) 0) (ta 0 + 2)) ab s).2 = m_wr (n_up f (9 + (v * 10 + n_el (f (5 + v)) k * 2 + 1)) 0) 40 32 0 (n_wo ((n_up f (9 + (v * 10 + n_el (f (5 + v)) k * 2 + 1)) 0) (5 + v)) k) y (v * 10 + n_el (f (5 + v)) k * 2) (m_com (s_seal (upd ta (9 + (v * 10 + n_el (f (5 + v)) k * 2 + 1)) 0) (ta 0 + 2)) ab s).2 := by
    rw [show m_wr (n_up f (9 + (v * 10 + n_el (f (5 + v)) k * 2 + 1)) 0) 40 32 0 (n_wo ((n_up f (9 + (v * 10 + n_el (f (5 + v)) k * 2 + 1)) 0) (5 + v)) k) y ((v * 10 + n_el (f (5 + v)) k * 2) + 1) = m_no from if_pos hn, m_no_seq]
  apply xk_Ev.of
  refine xk_Po.go 1 rfl ?_
  refine xk_Po.cv1 rfl rfl (c_requirePower (show ¬ (1 : Int32) = 0 by decide)) ?_
  refine xk_Po.go 2 rfl ?_
  refine xk_Po.cv2 rfl rfl (c_requireVolume hv hu) ?_
  refine xk_Po.go 3 rfl ?_
  refine xk_Po.cv3 rfl rfl (c_requireWord hv hw) ?_
  refine xk_Po.go 3 rfl ?_
  refine xk_Po.ci3 rfl rfl (k_elw T hv h5 hk) ?_
  refine xk_Po.go 4 rfl ?_
  refine xk_Po.ci3 rfl rfl (by have h := k_lr (sc := sc) (sl := s.1) (ex := s.2.1) (dr := dr) (md := md) (ml := n_ml 40) (mt := n_mt 32) (mc := mc) (on := 1) (ct := s.2.2) (r := r) T hv (e := n_el (f (5 + v)) k) (by omega) hb; rw [if_pos h0] at h; exact h) ?_
  refine xk_Po.go 1 rfl ?_
  refine xk_Po.br rfl rfl (fun hZ => absurd hZ (n_ne1 (by omega))) (fun _ => ?_) -- 19 .if_icmp .ne 21
  refine xk_Po.go 3 rfl ?_
  refine xk_Po.cv3 rfl rfl (k_lal_b1 (s := s) T hv (by omega) hb hd hq h0 h1 hL ho) ?_
  refine xk_Po.go 3 rfl ?_
  refine xk_Po.ci3 rfl rfl (k_wow TD hv (by rw [g5]; exact h5) hk) ?_
  refine xk_Po.go 11 rfl ?_
  refine xk_Po.ci3 rfl rfl (c_legOfN (l := 0)) ?_
  refine xk_Po.go 3 rfl ?_
  refine xk_Po.ci2 rfl rfl (k_rd1 TD (by omega) hb hp) ?_
  refine xk_Po.go 5 rfl ?_
  refine xk_Po.cm4 rfl rfl (k_pl (s := (m_com (s_seal (upd ta (9 + (v * 10 + n_el (f (5 + v)) k * 2 + 1)) 0) (ta 0 + 2)) ab s).2) TD (m := 40) (x := 32) (c := 0) ⟨fun q => absurd q (by omega), fun q => absurd q (by omega)⟩ (fun q => absurd q (by omega)) (j := (v * 10 + n_el (f (5 + v)) k * 2)) (by omega) hp.1 (by rw [g5]; exact b2)) rfl (fun q0 => by rw [eW]) (fun q0 => ?_)
  refine xk_Po.go 9 rfl ?_
  refine xk_Po.ci3 rfl rfl (c_legOfN (l := 1)) ?_
  refine xk_Po.go 3 rfl ?_
  refine xk_Po.ci2 rfl rfl (k_rd0 TD (by omega) hb (fun q => q.1 hn)) ?_
  refine xk_Po.go 7 rfl ?_
  exact xk_Po.iret rfl (absurd (by rw [eW]; exact q0) ho2)
theorem k_lal_d1 {f : Nat → Nat} {v e : Nat} {s : s_S} (T : s_Tv ta f) (hv : v < 4) (he : e < 5) (hb : ∀ i, ab i = 0 ∨ ab i = 1) (hd : ∀ i, 51 ≤ i → dr i = 0) (hq : ¬ s_any (fun j => ¬ ta (1 + j) = 0 ∧ ¬ ab j = 0) 4 0 = 0) (h0 : ¬ n_rda (f (9 + (v * 10 + e * 2))) ab) (h1 : n_rda (f (9 + (v * 10 + e * 2 + 1))) ab) (hL : f (9 + (v * 10 + e * 2)) ≠ 0) (ho : (m_com (s_seal (upd ta (9 + (v * 10 + e * 2)) 0) (ta 0 + 2)) ab s).1 = true) : xk_Ev (xp_P sc) 89 0 [.ref 0, .int (Int32.ofNat v), .int (Int32.ofNat e), .retAddr 0, .retAddr 0] [] (cs (s) (ab) (ta) (dr) (md) (n_ml 40) (n_mt 32) (mc) (on) r) (.inl none, 0, cs ((m_com (s_seal (upd ta (9 + (v * 10 + e * 2)) 0) (ta 0 + 2)) ab s).2) (ab) (s_seal (upd ta (9 + (v * 10 + e * 2)) 0) (ta 0 + 2)) (s_seal (upd ta (9 + (v * 10 + e * 2)) 0) (ta 0 + 2)) (md) (n_ml 40) (n_mt 32) (mc) (on) r) := by
  have l0 := T.l (v * 10 + e * 2 + 0) (by omega)
  have l2 := T.l (v * 10 + e * 2) (by omega)
  have l1 := T.l (v * 10 + e * 2 + 1) (by omega)
  have TD : s_Tv (s_seal (upd ta (9 + (v * 10 + e * 2)) 0) (ta 0 + 2)) (n_up f (9 + (v * 10 + e * 2)) 0) := s_seal_Tv (g_los T (by omega))
  have ss : ∀ (q1 q2 : Nat → Int32) (q3 : Int32), xk_Ev (xp_P sc) 35 0 [.ref 7, .int (Int32.ofNat (v * 10 + e * 2)), .int (Int32.ofInt (-1))] [] (cw (q1) (q2) ab ta (ta) md (n_ml 40) (n_mt 32) mc on (q3) r) (.inl none, 0, cw (q1) (q2) ab ta (upd ta (9 + (v * 10 + e * 2)) 0) md (n_ml 40) (n_mt 32) mc on (q3) r) := by
    intro q1 q2 q3
    have h := d_setSpotN (sc := sc) (sl := q1) (ex := q2) (ab := ab) (ta := ta) (dr := ta) (md := md) (ml := n_ml 40) (mt := n_mt 32) (mc := mc) (on := on) (ct := q3) (r := r) (j := (v * 10 + e * 2)) (x := Int32.ofInt (-1)) (by omega)
    rw [show Int32.ofInt (-1) + 1 = 0 by decide] at h
    exact h
  have cm := c_commitDraft2 (sc := sc) (s := s) (ab := ab) (ta := ta) (dr := upd ta (9 + (v * 10 + e * 2)) 0) (md := md) (ml := n_ml 40) (mt := n_mt 32) (mc := mc) (on := on) (r := r) hb hq T.z (upd_z T.z (by omega)) (fun q => absurd rfl q)
  unfold s_out at cm
  rw [k_ml40 TD] at cm
  rw [if_pos ho] at cm
  have hg1 : n_rda ((n_up f (9 + (v * 10 + e * 2)) 0) (9 + (v * 10 + e * 2 + 1))) ab := by rw [n_up_ne (by omega)]; exact h1
  have lg1 := TD.l (v * 10 + e * 2 + 1) (by omega)
  apply xk_Ev.of
  refine xk_Po.go 8 rfl ?_
  refine xk_Po.ci3 rfl rfl (c_legOfN (l := 0)) ?_
  refine xk_Po.go 4 rfl ?_
  refine xk_Po.ci2 rfl rfl (k_sp T (j := v * 10 + e * 2) (by omega) hL) ?_
  refine xk_Po.go 1 rfl ?_
  refine xk_Po.br rfl rfl (fun hZ => absurd hZ (n_ne1 (by omega))) (fun _ => ?_) -- 15 .if_icmp .eq 29
  refine xk_Po.go 2 rfl ?_
  refine xk_Po.ci2 rfl rfl (k_rd0 T (by omega) hb h0) ?_
  refine xk_Po.go 2 rfl ?_
  refine xk_Po.cv1 rfl rfl (c_beginDraft T.z hd) ?_
  refine xk_Po.go 4 rfl ?_
  refine xk_Po.cv3 rfl rfl (ss _ _ _) ?_
  refine xk_Po.go 1 rfl ?_
  refine xk_Po.cv1 rfl rfl (cm) ?_
  refine xk_Po.go 8 rfl ?_
  refine xk_Po.ci3 rfl rfl (c_legOfN (l := 1)) ?_
  refine xk_Po.go 4 rfl ?_
  refine xk_Po.ci2 rfl rfl (k_sp TD (by omega) hg1.1) ?_
  refine xk_Po.go 1 rfl ?_
  refine xk_Po.br rfl rfl (fun hZ => absurd hZ (n_ne1 (by omega))) (fun _ => ?_) -- 15 .if_icmp .eq 29
  refine xk_Po.go 2 rfl ?_
  refine xk_Po.ci2 rfl rfl (k_rd1 TD (by omega) hb hg1) ?_
  refine xk_Po.go 6 rfl ?_
  exact xk_Po.ret rfl (rfl)
theorem k_lal_d0 {f : Nat → Nat} {v e : Nat} {s : s_S} (T : s_Tv ta f) (hv : v < 4) (he : e < 5) (hb : ∀ i, ab i = 0 ∨ ab i = 1) (hd : ∀ i, 51 ≤ i → dr i = 0) (hq : ¬ s_any (fun j => ¬ ta (1 + j) = 0 ∧ ¬ ab j = 0) 4 0 = 0) (h0 : ¬ n_rda (f (9 + (v * 10 + e * 2))) ab) (h1 : n_rda (f (9 + (v * 10 + e * 2 + 1))) ab) (hL : f (9 + (v * 10 + e * 2)) ≠ 0) (ho : ¬ (m_com (s_seal (upd ta (9 + (v * 10 + e * 2)) 0) (ta 0 + 2)) ab s).1 = true) : xk_Ev (xp_P sc) 89 0 [.ref 0, .int (Int32.ofNat v), .int (Int32.ofNat e), .retAddr 0, .retAddr 0] [] (cs (s) (ab) (ta) (dr) (md) (n_ml 40) (n_mt 32) (mc) (on) r) (.inr 0, 1, cl ((m_com (s_seal (upd ta (9 + (v * 10 + e * 2)) 0) (ta 0 + 2)) ab s).2) ab ta (s_seal (upd ta (9 + (v * 10 + e * 2)) 0) (ta 0 + 2)) (mc) r) := by
  have l0 := T.l (v * 10 + e * 2 + 0) (by omega)
  have l2 := T.l (v * 10 + e * 2) (by omega)
  have l1 := T.l (v * 10 + e * 2 + 1) (by omega)
  have TD : s_Tv (s_seal (upd ta (9 + (v * 10 + e * 2)) 0) (ta 0 + 2)) (n_up f (9 + (v * 10 + e * 2)) 0) := s_seal_Tv (g_los T (by omega))
  have ss : ∀ (q1 q2 : Nat → Int32) (q3 : Int32), xk_Ev (xp_P sc) 35 0 [.ref 7, .int (Int32.ofNat (v * 10 + e * 2)), .int (Int32.ofInt (-1))] [] (cw (q1) (q2) ab ta (ta) md (n_ml 40) (n_mt 32) mc on (q3) r) (.inl none, 0, cw (q1) (q2) ab ta (upd ta (9 + (v * 10 + e * 2)) 0) md (n_ml 40) (n_mt 32) mc on (q3) r) := by
    intro q1 q2 q3
    have h := d_setSpotN (sc := sc) (sl := q1) (ex := q2) (ab := ab) (ta := ta) (dr := ta) (md := md) (ml := n_ml 40) (mt := n_mt 32) (mc := mc) (on := on) (ct := q3) (r := r) (j := (v * 10 + e * 2)) (x := Int32.ofInt (-1)) (by omega)
    rw [show Int32.ofInt (-1) + 1 = 0 by decide] at h
    exact h
  have cm := c_commitDraft2 (sc := sc) (s := s) (ab := ab) (ta := ta) (dr := upd ta (9 + (v * 10 + e * 2)) 0) (md := md) (ml := n_ml 40) (mt := n_mt 32) (mc := mc) (on := on) (r := r) hb hq T.z (upd_z T.z (by omega)) (fun q => absurd rfl q)
  unfold s_out at cm
  rw [k_ml40 TD] at cm
  rw [if_neg ho] at cm
  have hg1 : n_rda ((n_up f (9 + (v * 10 + e * 2)) 0) (9 + (v * 10 + e * 2 + 1))) ab := by rw [n_up_ne (by omega)]; exact h1
  have lg1 := TD.l (v * 10 + e * 2 + 1) (by omega)
  apply xk_Ev.of
  refine xk_Po.go 8 rfl ?_
  refine xk_Po.ci3 rfl rfl (c_legOfN (l := 0)) ?_
  refine xk_Po.go 4 rfl ?_
  refine xk_Po.ci2 rfl rfl (k_sp T (j := v * 10 + e * 2) (by omega) hL) ?_
  refine xk_Po.go 1 rfl ?_
  refine xk_Po.br rfl rfl (fun hZ => absurd hZ (n_ne1 (by omega))) (fun _ => ?_) -- 15 .if_icmp .eq 29
  refine xk_Po.go 2 rfl ?_
  refine xk_Po.ci2 rfl rfl (k_rd0 T (by omega) hb h0) ?_
  refine xk_Po.go 2 rfl ?_
  refine xk_Po.cv1 rfl rfl (c_beginDraft T.z hd) ?_
  refine xk_Po.go 4 rfl ?_
  refine xk_Po.cv3 rfl rfl (ss _ _ _) ?_
  refine xk_Po.go 1 rfl ?_
  exact xk_Po.ct1 rfl rfl (cm) rfl rfl
theorem k_write1d_0 {v : Nat} (hv : v < 4) (hu : ¬ ta (5 + v) = 0) {f : Nat → Nat} (T : s_Tv ta f) (h5 : f (5 + v) ≠ 0) {k : Nat} (hk : k < 20) (hk4 : k < 4 * (f (5 + v) / 32)) (hb : ∀ i, ab i = 0 ∨ ab i = 1) {y : Int32} {s : s_S} (hd : ∀ i, 51 ≤ i → dr i = 0) (hq : ¬ s_any (fun j => ¬ ta (1 + j) = 0 ∧ ¬ ab j = 0) 4 0 = 0) (h0 : ¬ n_rda (f (9 + (v * 10 + n_el (f (5 + v)) k * 2))) ab) (h1 : n_rda (f (9 + (v * 10 + n_el (f (5 + v)) k * 2 + 1))) ab) (hL : f (9 + (v * 10 + n_el (f (5 + v)) k * 2)) ≠ 0) (ho : ¬ (m_com (s_seal (upd ta (9 + (v * 10 + n_el (f (5 + v)) k * 2)) 0) (ta 0 + 2)) ab s).1 = true) : xk_Ev (xp_P sc) 48 0 [.ref 0, .int (Int32.ofNat v), .int (Int32.ofNat k), .int y, .retAddr 0, .retAddr 0, .retAddr 0, .retAddr 0, .retAddr 0] [] (cs (s) (ab) (ta) (dr) (md) (n_ml 40) (n_mt 32) (mc) (1) r) (.inr 0, 1, cl ((m_com (s_seal (upd ta (9 + (v * 10 + n_el (f (5 + v)) k * 2)) 0) (ta 0 + 2)) ab s).2) ab ta (s_seal (upd ta (9 + (v * 10 + n_el (f (5 + v)) k * 2)) 0) (ta 0 + 2)) (mc) r) := by
  obtain ⟨b1, b2⟩ := s_elb _ (T.v v hv) h5 k hk hk4
  have e5 := (s_dv_32 _ (T.v v hv)).2
  have l0 := T.l (v * 10 + n_el (f (5 + v)) k * 2) (by omega)
  have l1 := T.l (v * 10 + n_el (f (5 + v)) k * 2 + 1) (by omega)
  have TD : s_Tv (s_seal (upd ta (9 + (v * 10 + n_el (f (5 + v)) k * 2)) 0) (ta 0 + 2)) (n_up f (9 + (v * 10 + n_el (f (5 + v)) k * 2)) 0) := s_seal_Tv (g_los T (by omega))
  have g5 : (n_up f (9 + (v * 10 + n_el (f (5 + v)) k * 2)) 0) (5 + v) = f (5 + v) := n_up_ne (by omega)
  have hw : ¬ Int32.ofNat k < 0 ∧ Int32.ofNat k < ta (5 + v) / 32 * 4 := by
    refine ⟨xn_nneg (by omega), ?_⟩
    rw [T.w (5 + v) (by omega) (by omega), (s_dv_32 _ (T.v v hv)).1]
    show _ < Int32.ofNat _ * Int32.ofNat 4
    rw [xn_mul]
    exact (xn_lt (by omega) (by omega)).2 (by omega)
  apply xk_Ev.of
  refine xk_Po.go 1 rfl ?_
  refine xk_Po.cv1 rfl rfl (c_requirePower (show ¬ (1 : Int32) = 0 by decide)) ?_
  refine xk_Po.go 2 rfl ?_
  refine xk_Po.cv2 rfl rfl (c_requireVolume hv hu) ?_
  refine xk_Po.go 3 rfl ?_
  refine xk_Po.cv3 rfl rfl (c_requireWord hv hw) ?_
  refine xk_Po.go 3 rfl ?_
  refine xk_Po.ci3 rfl rfl (k_elw T hv h5 hk) ?_
  refine xk_Po.go 4 rfl ?_
  refine xk_Po.ci3 rfl rfl (by have h := k_lr (sc := sc) (sl := s.1) (ex := s.2.1) (dr := dr) (md := md) (ml := n_ml 40) (mt := n_mt 32) (mc := mc) (on := 1) (ct := s.2.2) (r := r) T hv (e := n_el (f (5 + v)) k) (by omega) hb; rw [if_neg h0, if_pos h1] at h; exact h) ?_
  refine xk_Po.go 1 rfl ?_
  refine xk_Po.br rfl rfl (fun hZ => absurd hZ (n_ne1 (by omega))) (fun _ => ?_) -- 19 .if_icmp .ne 21
  refine xk_Po.go 3 rfl ?_
  exact xk_Po.ct3 rfl rfl (k_lal_d0 (s := s) T hv (by omega) hb hd hq h0 h1 hL ho) rfl rfl
theorem k_write1d_2 {v : Nat} (hv : v < 4) (hu : ¬ ta (5 + v) = 0) {f : Nat → Nat} (T : s_Tv ta f) (h5 : f (5 + v) ≠ 0) {k : Nat} (hk : k < 20) (hk4 : k < 4 * (f (5 + v) / 32)) (hb : ∀ i, ab i = 0 ∨ ab i = 1) {y : Int32} {s : s_S} (hd : ∀ i, 51 ≤ i → dr i = 0) (hq : ¬ s_any (fun j => ¬ ta (1 + j) = 0 ∧ ¬ ab j = 0) 4 0 = 0) (h0 : ¬ n_rda (f (9 + (v * 10 + n_el (f (5 + v)) k * 2))) ab) (h1 : n_rda (f (9 + (v * 10 + n_el (f (5 + v)) k * 2 + 1))) ab) (hL : f (9 + (v * 10 + n_el (f (5 + v)) k * 2)) ≠ 0) (ho : (m_com (s_seal (upd ta (9 + (v * 10 + n_el (f (5 + v)) k * 2)) 0) (ta 0 + 2)) ab s).1 = true) (ho2 : (m_seq (m_wr (n_up f (9 + (v * 10 + n_el (f (5 + v)) k * 2)) 0) 40 32 0 (n_wo ((n_up f (9 + (v * 10 + n_el (f (5 + v)) k * 2)) 0) (5 + v)) k) y (v * 10 + n_el (f (5 + v)) k * 2)) (m_wr (n_up f (9 + (v * 10 + n_el (f (5 + v)) k * 2)) 0) 40 32 0 (n_wo ((n_up f (9 + (v * 10 + n_el (f (5 + v)) k * 2)) 0) (5 + v)) k) y ((v * 10 + n_el (f (5 + v)) k * 2) + 1)) (m_com (s_seal (upd ta (9 + (v * 10 + n_el (f (5 + v)) k * 2)) 0) (ta 0 + 2)) ab s).2).1 = true) : xk_Ev (xp_P sc) 48 0 [.ref 0, .int (Int32.ofNat v), .int (Int32.ofNat k), .int y, .retAddr 0, .retAddr 0, .retAddr 0, .retAddr 0, .retAddr 0] [] (cs (s) (ab) (ta) (dr) (md) (n_ml 40) (n_mt 32) (mc) (1) r) (.inl (some (.int 1)), 0, cs ((m_seq (m_wr (n_up f (9 + (v * 10 + n_el (f (5 + v)) k * 2)) 0) 40 32 0 (n_wo ((n_up f (9 + (v * 10 + n_el (f (5 + v)) k * 2)) 0) (5 + v)) k) y (v * 10 + n_el (f (5 + v)) k * 2)) (m_wr (n_up f (9 + (v * 10 + n_el (f (5 + v)) k * 2)) 0) 40 32 0 (n_wo ((n_up f (9 + (v * 10 + n_el (f (5 + v)) k * 2)) 0) (5 + v)) k) y ((v * 10 + n_el (f (5 + v)) k * 2) + 1)) (m_com (s_seal (upd ta (9 + (v * 10 + n_el (f (5 + v)) k * 2)) 0) (ta 0 + 2)) ab s).2).2) (ab) (s_seal (upd ta (9 + (v * 10 + n_el (f (5 + v)) k * 2)) 0) (ta 0 + 2)) (s_seal (upd ta (9 + (v * 10 + n_el (f (5 + v)) k * 2)) 0) (ta 0 + 2)) (md) (n_ml 40) (n_mt 32) (mc) (1) r) := by
  obtain ⟨b1, b2⟩ := s_elb _ (T.v v hv) h5 k hk hk4
  have e5 := (s_dv_32 _ (T.v v hv)).2
  have l0 := T.l (v * 10 + n_el (f (5 + v)) k * 2) (by omega)
  have l1 := T.l (v * 10 + n_el (f (5 + v)) k * 2 + 1) (by omega)
  have TD : s_Tv (s_seal (upd ta (9 + (v * 10 + n_el (f (5 + v)) k * 2)) 0) (ta 0 + 2)) (n_up f (9 + (v * 10 + n_el (f (5 + v)) k * 2)) 0) := s_seal_Tv (g_los T (by omega))
  have g5 : (n_up f (9 + (v * 10 + n_el (f (5 + v)) k * 2)) 0) (5 + v) = f (5 + v) := n_up_ne (by omega)
  have hw : ¬ Int32.ofNat k < 0 ∧ Int32.ofNat k < ta (5 + v) / 32 * 4 := by
    refine ⟨xn_nneg (by omega), ?_⟩
    rw [T.w (5 + v) (by omega) (by omega), (s_dv_32 _ (T.v v hv)).1]
    show _ < Int32.ofNat _ * Int32.ofNat 4
    rw [xn_mul]
    exact (xn_lt (by omega) (by omega)).2 (by omega)
  have hn : (n_up f (9 + (v * 10 + n_el (f (5 + v)) k * 2)) 0) (9 + (v * 10 + n_el (f (5 + v)) k * 2)) = 0 := n_up_at
  have hp : n_rda ((n_up f (9 + (v * 10 + n_el (f (5 + v)) k * 2)) 0) (9 + ((v * 10 + n_el (f (5 + v)) k * 2) + 1))) ab := by rw [n_up_ne (by omega)]; exact h1
  have lp := TD.l ((v * 10 + n_el (f (5 + v)) k * 2) + 1) (by omega)
  have eW : m_seq (m_wr (n_up f (9 + (v * 10 + n_el (f (5 + v)) k * 2)) 0) 40 32 0 (n_wo ((n_up f (9 + (v * 10 + n_el (f (5 + v)) k * 2)) 0) (5 + v)) k) y (v * 10 + n_el (f (5 + v)) k * 2)) (m_wr (n_up f (9 + (v * 10 + n_el (f (5 + v)) k * 2)) 0) 40 32 0 (n_wo ((n_up f (9 + (v * 10 + n_el (f (5 + v)) k * 2)) 0) (5 + v)) k) y ((v * 10 + n_el (f (5 + v)) k * 2) + 1)) (m_com (s_seal (upd ta (9 + (v * 10 + n_el (f (5 + v)) k * 2)) 0) (ta 0 + 2)) ab s).2 = m_wr (n_up f (9 + (v * 10 + n_el (f (5 + v)) k * 2)) 0) 40 32 0 (n_wo ((n_up f (9 + (v * 10 + n_el (f (5 + v)) k * 2)) 0) (5 + v)) k) y ((v * 10 + n_el (f (5 + v)) k * 2) + 1) (m_com (s_seal (upd ta (9 + (v * 10 + n_el (f (5 + v)) k * 2)) 0) (ta 0 + 2)) ab s).2 := by
    rw [show m_wr (n_up f (9 + (v * 10 + n_el (f (5 + v)) k * 2)) 0) 40 32 0 (n_wo ((n_up f (9 + (v * 10 + n_el (f (5 + v)) k * 2)) 0) (5 + v)) k) y (v * 10 + n_el (f (5 + v)) k * 2) = m_no from if_pos hn, m_seq_no]
  apply xk_Ev.of
  refine xk_Po.go 1 rfl ?_
  refine xk_Po.cv1 rfl rfl (c_requirePower (show ¬ (1 : Int32) = 0 by decide)) ?_
  refine xk_Po.go 2 rfl ?_
  refine xk_Po.cv2 rfl rfl (c_requireVolume hv hu) ?_
  refine xk_Po.go 3 rfl ?_
  refine xk_Po.cv3 rfl rfl (c_requireWord hv hw) ?_
  refine xk_Po.go 3 rfl ?_
  refine xk_Po.ci3 rfl rfl (k_elw T hv h5 hk) ?_
  refine xk_Po.go 4 rfl ?_
  refine xk_Po.ci3 rfl rfl (by have h := k_lr (sc := sc) (sl := s.1) (ex := s.2.1) (dr := dr) (md := md) (ml := n_ml 40) (mt := n_mt 32) (mc := mc) (on := 1) (ct := s.2.2) (r := r) T hv (e := n_el (f (5 + v)) k) (by omega) hb; rw [if_neg h0, if_pos h1] at h; exact h) ?_
  refine xk_Po.go 1 rfl ?_
  refine xk_Po.br rfl rfl (fun hZ => absurd hZ (n_ne1 (by omega))) (fun _ => ?_) -- 19 .if_icmp .ne 21
  refine xk_Po.go 3 rfl ?_
  refine xk_Po.cv3 rfl rfl (k_lal_d1 (s := s) T hv (by omega) hb hd hq h0 h1 hL ho) ?_
  refine xk_Po.go 3 rfl ?_
  refine xk_Po.ci3 rfl rfl (k_wow TD hv (by rw [g5]; exact h5) hk) ?_
  refine xk_Po.go 11 rfl ?_
  refine xk_Po.ci3 rfl rfl (c_legOfN (l := 0)) ?_
  refine xk_Po.go 3 rfl ?_
  refine xk_Po.ci2 rfl rfl (k_rd0 TD (by omega) hb (fun q => q.1 hn)) ?_
  refine xk_Po.go 9 rfl ?_
  refine xk_Po.ci3 rfl rfl (c_legOfN (l := 1)) ?_
  refine xk_Po.go 3 rfl ?_
  refine xk_Po.ci2 rfl rfl (k_rd1 TD (by omega) hb hp) ?_
  refine xk_Po.go 5 rfl ?_
  refine xk_Po.cm4 rfl rfl (k_pl (s := (m_com (s_seal (upd ta (9 + (v * 10 + n_el (f (5 + v)) k * 2)) 0) (ta 0 + 2)) ab s).2) TD (m := 40) (x := 32) (c := 0) ⟨fun q => absurd q (by omega), fun q => absurd q (by omega)⟩ (fun q => absurd q (by omega)) (j := (v * 10 + n_el (f (5 + v)) k * 2) + 1) (by omega) hp.1 (by rw [g5]; exact b2)) rfl (fun q0 => absurd (by rw [← eW]; exact ho2) q0) (fun q0 => ?_)
  refine xk_Po.go 7 rfl ?_
  exact xk_Po.iret rfl (by rw [eW]; rfl)
theorem k_write1d_1 {v : Nat} (hv : v < 4) (hu : ¬ ta (5 + v) = 0) {f : Nat → Nat} (T : s_Tv ta f) (h5 : f (5 + v) ≠ 0) {k : Nat} (hk : k < 20) (hk4 : k < 4 * (f (5 + v) / 32)) (hb : ∀ i, ab i = 0 ∨ ab i = 1) {y : Int32} {s : s_S} (hd : ∀ i, 51 ≤ i → dr i = 0) (hq : ¬ s_any (fun j => ¬ ta (1 + j) = 0 ∧ ¬ ab j = 0) 4 0 = 0) (h0 : ¬ n_rda (f (9 + (v * 10 + n_el (f (5 + v)) k * 2))) ab) (h1 : n_rda (f (9 + (v * 10 + n_el (f (5 + v)) k * 2 + 1))) ab) (hL : f (9 + (v * 10 + n_el (f (5 + v)) k * 2)) ≠ 0) (ho : (m_com (s_seal (upd ta (9 + (v * 10 + n_el (f (5 + v)) k * 2)) 0) (ta 0 + 2)) ab s).1 = true) (ho2 : ¬ (m_seq (m_wr (n_up f (9 + (v * 10 + n_el (f (5 + v)) k * 2)) 0) 40 32 0 (n_wo ((n_up f (9 + (v * 10 + n_el (f (5 + v)) k * 2)) 0) (5 + v)) k) y (v * 10 + n_el (f (5 + v)) k * 2)) (m_wr (n_up f (9 + (v * 10 + n_el (f (5 + v)) k * 2)) 0) 40 32 0 (n_wo ((n_up f (9 + (v * 10 + n_el (f (5 + v)) k * 2)) 0) (5 + v)) k) y ((v * 10 + n_el (f (5 + v)) k * 2) + 1)) (m_com (s_seal (upd ta (9 + (v * 10 + n_el (f (5 + v)) k * 2)) 0) (ta 0 + 2)) ab s).2).1 = true) : xk_Ev (xp_P sc) 48 0 [.ref 0, .int (Int32.ofNat v), .int (Int32.ofNat k), .int y, .retAddr 0, .retAddr 0, .retAddr 0, .retAddr 0, .retAddr 0] [] (cs (s) (ab) (ta) (dr) (md) (n_ml 40) (n_mt 32) (mc) (1) r) (.inr 0, 1, cl ((m_seq (m_wr (n_up f (9 + (v * 10 + n_el (f (5 + v)) k * 2)) 0) 40 32 0 (n_wo ((n_up f (9 + (v * 10 + n_el (f (5 + v)) k * 2)) 0) (5 + v)) k) y (v * 10 + n_el (f (5 + v)) k * 2)) (m_wr (n_up f (9 + (v * 10 + n_el (f (5 + v)) k * 2)) 0) 40 32 0 (n_wo ((n_up f (9 + (v * 10 + n_el (f (5 + v)) k * 2)) 0) (5 + v)) k) y ((v * 10 + n_el (f (5 + v)) k * 2) + 1)) (m_com (s_seal (upd ta (9 + (v * 10 + n_el (f (5 + v)) k * 2)) 0) (ta 0 + 2)) ab s).2).2) ab (s_seal (upd ta (9 + (v * 10 + n_el (f (5 + v)) k * 2)) 0) (ta 0 + 2)) (s_seal (upd ta (9 + (v * 10 + n_el (f (5 + v)) k * 2)) 0) (ta 0 + 2)) mc r) := by
  obtain ⟨b1, b2⟩ := s_elb _ (T.v v hv) h5 k hk hk4
  have e5 := (s_dv_32 _ (T.v v hv)).2
  have l0 := T.l (v * 10 + n_el (f (5 + v)) k * 2) (by omega)
  have l1 := T.l (v * 10 + n_el (f (5 + v)) k * 2 + 1) (by omega)
  have TD : s_Tv (s_seal (upd ta (9 + (v * 10 + n_el (f (5 + v)) k * 2)) 0) (ta 0 + 2)) (n_up f (9 + (v * 10 + n_el (f (5 + v)) k * 2)) 0) := s_seal_Tv (g_los T (by omega))
  have g5 : (n_up f (9 + (v * 10 + n_el (f (5 + v)) k * 2)) 0) (5 + v) = f (5 + v) := n_up_ne (by omega)
  have hw : ¬ Int32.ofNat k < 0 ∧ Int32.ofNat k < ta (5 + v) / 32 * 4 := by
    refine ⟨xn_nneg (by omega), ?_⟩
    rw [T.w (5 + v) (by omega) (by omega), (s_dv_32 _ (T.v v hv)).1]
    show _ < Int32.ofNat _ * Int32.ofNat 4
    rw [xn_mul]
    exact (xn_lt (by omega) (by omega)).2 (by omega)
  have hn : (n_up f (9 + (v * 10 + n_el (f (5 + v)) k * 2)) 0) (9 + (v * 10 + n_el (f (5 + v)) k * 2)) = 0 := n_up_at
  have hp : n_rda ((n_up f (9 + (v * 10 + n_el (f (5 + v)) k * 2)) 0) (9 + ((v * 10 + n_el (f (5 + v)) k * 2) + 1))) ab := by rw [n_up_ne (by omega)]; exact h1
  have lp := TD.l ((v * 10 + n_el (f (5 + v)) k * 2) + 1) (by omega)
  have eW : m_seq (m_wr (n_up f (9 + (v * 10 + n_el (f (5 + v)) k * 2)) 0) 40 32 0 (n_wo ((n_up f (9 + (v * 10 + n_el (f (5 + v)) k * 2)) 0) (5 + v)) k) y (v * 10 + n_el (f (5 + v)) k * 2)) (m_wr (n_up f (9 + (v * 10 + n_el (f (5 + v)) k * 2)) 0) 40 32 0 (n_wo ((n_up f (9 + (v * 10 + n_el (f (5 + v)) k * 2)) 0) (5 + v)) k) y ((v * 10 + n_el (f (5 + v)) k * 2) + 1)) (m_com (s_seal (upd ta (9 + (v * 10 + n_el (f (5 + v)) k * 2)) 0) (ta 0 + 2)) ab s).2 = m_wr (n_up f (9 + (v * 10 + n_el (f (5 + v)) k * 2)) 0) 40 32 0 (n_wo ((n_up f (9 + (v * 10 + n_el (f (5 + v)) k * 2)) 0) (5 + v)) k) y ((v * 10 + n_el (f (5 + v)) k * 2) + 1) (m_com (s_seal (upd ta (9 + (v * 10 + n_el (f (5 + v)) k * 2)) 0) (ta 0 + 2)) ab s).2 := by
    rw [show m_wr (n_up f (9 + (v * 10 + n_el (f (5 + v)) k * 2)) 0) 40 32 0 (n_wo ((n_up f (9 + (v * 10 + n_el (f (5 + v)) k * 2)) 0) (5 + v)) k) y (v * 10 + n_el (f (5 + v)) k * 2) = m_no from if_pos hn, m_seq_no]
  apply xk_Ev.of
  refine xk_Po.go 1 rfl ?_
  refine xk_Po.cv1 rfl rfl (c_requirePower (show ¬ (1 : Int32) = 0 by decide)) ?_
  refine xk_Po.go 2 rfl ?_
  refine xk_Po.cv2 rfl rfl (c_requireVolume hv hu) ?_
  refine xk_Po.go 3 rfl ?_
  refine xk_Po.cv3 rfl rfl (c_requireWord hv hw) ?_
  refine xk_Po.go 3 rfl ?_
  refine xk_Po.ci3 rfl rfl (k_elw T hv h5 hk) ?_
  refine xk_Po.go 4 rfl ?_
  refine xk_Po.ci3 rfl rfl (by have h := k_lr (sc := sc) (sl := s.1) (ex := s.2.1) (dr := dr) (md := md) (ml := n_ml 40) (mt := n_mt 32) (mc := mc) (on := 1) (ct := s.2.2) (r := r) T hv (e := n_el (f (5 + v)) k) (by omega) hb; rw [if_neg h0, if_pos h1] at h; exact h) ?_
  refine xk_Po.go 1 rfl ?_
  refine xk_Po.br rfl rfl (fun hZ => absurd hZ (n_ne1 (by omega))) (fun _ => ?_) -- 19 .if_icmp .ne 21
  refine xk_Po.go 3 rfl ?_
  refine xk_Po.cv3 rfl rfl (k_lal_d1 (s := s) T hv (by omega) hb hd hq h0 h1 hL ho) ?_
  refine xk_Po.go 3 rfl ?_
  refine xk_Po.ci3 rfl rfl (k_wow TD hv (by rw [g5]; exact h5) hk) ?_
  refine xk_Po.go 11 rfl ?_
  refine xk_Po.ci3 rfl rfl (c_legOfN (l := 0)) ?_
  refine xk_Po.go 3 rfl ?_
  refine xk_Po.ci2 rfl rfl (k_rd0 TD (by omega) hb (fun q => q.1 hn)) ?_
  refine xk_Po.go 9 rfl ?_
  refine xk_Po.ci3 rfl rfl (c_legOfN (l := 1)) ?_
  refine xk_Po.go 3 rfl ?_
  refine xk_Po.ci2 rfl rfl (k_rd1 TD (by omega) hb hp) ?_
  refine xk_Po.go 5 rfl ?_
  refine xk_Po.cm4 rfl rfl (k_pl (s := (m_com (s_seal (upd ta (9 + (v * 10 + n_el (f (5 + v)) k * 2)) 0) (ta 0 + 2)) ab s).2) TD (m := 40) (x := 32) (c := 0) ⟨fun q => absurd q (by omega), fun q => absurd q (by omega)⟩ (fun q => absurd q (by omega)) (j := (v * 10 + n_el (f (5 + v)) k * 2) + 1) (by omega) hp.1 (by rw [g5]; exact b2)) rfl (fun q0 => by rw [eW]) (fun q0 => ?_)
  refine xk_Po.go 7 rfl ?_
  exact xk_Po.iret rfl (absurd (by rw [eW]; exact q0) ho2)
end XkKw3
