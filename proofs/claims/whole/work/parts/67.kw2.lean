section XkKw2
variable {sc : Nat × (Nat → Int32)} {sl ex ab ta dr : Nat → Int32} {md ml mt mc on ct : Int32} {r w : xk_W}
theorem k_pl {f : Nat → Nat} {m x c j a : Nat} {y : Int32} {s : s_S} (T : s_Tv ta f) (hmx : x < 32 ↔ m < 40) (hcp : x < 32 → mc = Int32.ofNat c ∧ c < 4) (hj : j < 40) (h0 : f (9 + j) ≠ 0) (ha : a < 4) : xk_Ev (xp_P sc) 84 0 [.ref 0, .int (Int32.ofNat j), .int (Int32.ofNat a), .int y] [] (cs (s) (ab) (ta) (dr) (md) (n_ml m) (n_mt x) (mc) (on) r) (s_out (m_wr f m x c a y j s) (fun s => cs (s) (ab) (ta) (dr) (md) (n_ml m) (n_mt x) (mc) (on) r) (fun s => cl (s) ab ta (dr) (mc) r)) := by
  have hl := T.l j hj
  have hw : ta (9 + j) - 1 = Int32.ofNat (f (9 + j) - 1) := by
    rw [T.w (9 + j) (by omega) (by omega)]
    exact xn_sub (b := 1) (by omega)
  have e : m_wr f m x c a y j = m_seq (m_ex ((f (9 + j) - 1) * 4 + a) y) (if m = j ∧ x < 32 ∧ a < c then m_ex (x * 4 + a) y else m_no) := if_neg h0
  rw [e]
  by_cases q : m = j ∧ x < 32 ∧ a < c
  · rw [if_pos q]
    have h := c_putLeg2 (sc := sc) (s := s) (ab := ab) (ta := ta) (dr := dr) (md := md) (ml := n_ml m) (mc := mc) (on := on) (r := r) (y := y) hj ha (show f (9 + j) - 1 < 32 by omega) hw q.2.1 ⟨(n_ml_eq hj).2 q.1, fun z => by
      rw [(hcp q.2.1).1] at z
      have := (xn_le (by have := (hcp q.2.1).2; omega) (by omega)).1 z
      omega⟩
    rw [show Int32.ofNat x = n_mt x from (if_pos q.2.1).symm] at h
    exact h
  · rw [if_neg q, m_no_seq]
    exact c_putLeg1 hj ha (by omega) hw (fun z => by
      have hm := (n_ml_eq hj).1 z.1
      have hx : x < 32 := hmx.2 (by omega)
      refine q ⟨hm, hx, ?_⟩
      rcases Nat.lt_or_ge a c with k | k
      · exact k
      · exact absurd (by rw [(hcp hx).1]; exact (xn_le (by have := (hcp hx).2; omega) (by omega)).2 k) z.2)
theorem k_lal_2 {f : Nat → Nat} {v e : Nat} (T : s_Tv ta f) (hv : v < 4) (he : e < 5) (hb : ∀ i, ab i = 0 ∨ ab i = 1) (h0 : n_rda (f (9 + (v * 10 + e * 2))) ab) (h1 : n_rda (f (9 + (v * 10 + e * 2 + 1))) ab) : xk_Ev (xp_P sc) 89 0 [.ref 0, .int (Int32.ofNat v), .int (Int32.ofNat e), .retAddr 0, .retAddr 0] [] (cw sl ex ab ta dr md ml mt mc on ct r) (.inl none, 0, cw sl ex ab ta dr md ml mt mc on ct r) := by
  have l0 := T.l (v * 10 + e * 2 + 0) (by omega)
  have l1 := T.l (v * 10 + e * 2 + 1) (by omega)
  apply xk_Ev.of
  refine xk_Po.go 8 rfl ?_
  refine xk_Po.ci3 rfl rfl (c_legOfN (l := 0)) ?_
  refine xk_Po.go 4 rfl ?_
  refine xk_Po.ci2 rfl rfl (k_sp T (by omega) h0.1) ?_
  refine xk_Po.go 1 rfl ?_
  refine xk_Po.br rfl rfl (fun hZ => absurd hZ (n_ne1 (by omega))) (fun _ => ?_) -- 15 .if_icmp .eq 29
  refine xk_Po.go 2 rfl ?_
  refine xk_Po.ci2 rfl rfl (k_rd1 T (by omega) hb h0) ?_
  refine xk_Po.go 9 rfl ?_
  refine xk_Po.ci3 rfl rfl (c_legOfN (l := 1)) ?_
  refine xk_Po.go 4 rfl ?_
  refine xk_Po.ci2 rfl rfl (k_sp T (by omega) h1.1) ?_
  refine xk_Po.go 1 rfl ?_
  refine xk_Po.br rfl rfl (fun hZ => absurd hZ (n_ne1 (by omega))) (fun _ => ?_) -- 15 .if_icmp .eq 29
  refine xk_Po.go 2 rfl ?_
  refine xk_Po.ci2 rfl rfl (k_rd1 T (by omega) hb h1) ?_
  refine xk_Po.go 6 rfl ?_
  exact xk_Po.ret rfl (rfl)
theorem k_lal_a {f : Nat → Nat} {v e : Nat} (T : s_Tv ta f) (hv : v < 4) (he : e < 5) (hb : ∀ i, ab i = 0 ∨ ab i = 1) (h0 : n_rda (f (9 + (v * 10 + e * 2))) ab) (h1 : f (9 + (v * 10 + e * 2 + 1)) = 0) : xk_Ev (xp_P sc) 89 0 [.ref 0, .int (Int32.ofNat v), .int (Int32.ofNat e), .retAddr 0, .retAddr 0] [] (cw sl ex ab ta dr md ml mt mc on ct r) (.inl none, 0, cw sl ex ab ta dr md ml mt mc on ct r) := by
  have l0 := T.l (v * 10 + e * 2 + 0) (by omega)
  have l1 := T.l (v * 10 + e * 2 + 1) (by omega)
  apply xk_Ev.of
  refine xk_Po.go 8 rfl ?_
  refine xk_Po.ci3 rfl rfl (c_legOfN (l := 0)) ?_
  refine xk_Po.go 4 rfl ?_
  refine xk_Po.ci2 rfl rfl (k_sp T (by omega) h0.1) ?_
  refine xk_Po.go 1 rfl ?_
  refine xk_Po.br rfl rfl (fun hZ => absurd hZ (n_ne1 (by omega))) (fun _ => ?_) -- 15 .if_icmp .eq 29
  refine xk_Po.go 2 rfl ?_
  refine xk_Po.ci2 rfl rfl (k_rd1 T (by omega) hb h0) ?_
  refine xk_Po.go 9 rfl ?_
  refine xk_Po.ci3 rfl rfl (c_legOfN (l := 1)) ?_
  refine xk_Po.go 4 rfl ?_
  refine xk_Po.ci2 rfl rfl (k_sp0 T (by omega) h1) ?_
  refine xk_Po.go 7 rfl ?_
  exact xk_Po.ret rfl (rfl)
theorem k_lal_c {f : Nat → Nat} {v e : Nat} (T : s_Tv ta f) (hv : v < 4) (he : e < 5) (hb : ∀ i, ab i = 0 ∨ ab i = 1) (h0 : f (9 + (v * 10 + e * 2)) = 0) (h1 : n_rda (f (9 + (v * 10 + e * 2 + 1))) ab) : xk_Ev (xp_P sc) 89 0 [.ref 0, .int (Int32.ofNat v), .int (Int32.ofNat e), .retAddr 0, .retAddr 0] [] (cw sl ex ab ta dr md ml mt mc on ct r) (.inl none, 0, cw sl ex ab ta dr md ml mt mc on ct r) := by
  have l0 := T.l (v * 10 + e * 2 + 0) (by omega)
  have l1 := T.l (v * 10 + e * 2 + 1) (by omega)
  apply xk_Ev.of
  refine xk_Po.go 8 rfl ?_
  refine xk_Po.ci3 rfl rfl (c_legOfN (l := 0)) ?_
  refine xk_Po.go 4 rfl ?_
  refine xk_Po.ci2 rfl rfl (k_sp0 T (by omega) h0) ?_
  refine xk_Po.go 10 rfl ?_
  refine xk_Po.ci3 rfl rfl (c_legOfN (l := 1)) ?_
  refine xk_Po.go 4 rfl ?_
  refine xk_Po.ci2 rfl rfl (k_sp T (by omega) h1.1) ?_
  refine xk_Po.go 1 rfl ?_
  refine xk_Po.br rfl rfl (fun hZ => absurd hZ (n_ne1 (by omega))) (fun _ => ?_) -- 15 .if_icmp .eq 29
  refine xk_Po.go 2 rfl ?_
  refine xk_Po.ci2 rfl rfl (k_rd1 T (by omega) hb h1) ?_
  refine xk_Po.go 6 rfl ?_
  exact xk_Po.ret rfl (rfl)
theorem k_write2_1 {v : Nat} (hv : v < 4) (hu : ¬ ta (5 + v) = 0) {f : Nat → Nat} (T : s_Tv ta f) (h5 : f (5 + v) ≠ 0) {k : Nat} (hk : k < 20) (hk4 : k < 4 * (f (5 + v) / 32)) (hb : ∀ i, ab i = 0 ∨ ab i = 1) {y : Int32} {m x c : Nat} {s : s_S} (hmx : x < 32 ↔ m < 40) (hcp : x < 32 → mc = Int32.ofNat c ∧ c < 4) (h0 : n_rda (f (9 + (v * 10 + n_el (f (5 + v)) k * 2))) ab) (h1 : n_rda (f (9 + (v * 10 + n_el (f (5 + v)) k * 2 + 1))) ab) (ho : (m_seq (m_wr f m x c (n_wo (f (5 + v)) k) y (v * 10 + n_el (f (5 + v)) k * 2)) (m_wr f m x c (n_wo (f (5 + v)) k) y ((v * 10 + n_el (f (5 + v)) k * 2) + 1)) s).1 = true) : xk_Ev (xp_P sc) 48 0 [.ref 0, .int (Int32.ofNat v), .int (Int32.ofNat k), .int y, .retAddr 0, .retAddr 0, .retAddr 0, .retAddr 0, .retAddr 0] [] (cs (s) (ab) (ta) (dr) (md) (n_ml m) (n_mt x) (mc) (1) r) (.inl (some (.int 2)), 0, cs ((m_seq (m_wr f m x c (n_wo (f (5 + v)) k) y (v * 10 + n_el (f (5 + v)) k * 2)) (m_wr f m x c (n_wo (f (5 + v)) k) y ((v * 10 + n_el (f (5 + v)) k * 2) + 1)) s).2) (ab) (ta) (dr) (md) (n_ml m) (n_mt x) (mc) (1) r) := by
  obtain ⟨b1, b2⟩ := s_elb _ (T.v v hv) h5 k hk hk4
  have e5 := (s_dv_32 _ (T.v v hv)).2
  have l0 := T.l (v * 10 + n_el (f (5 + v)) k * 2) (by omega)
  have l1 := T.l (v * 10 + n_el (f (5 + v)) k * 2 + 1) (by omega)
  have hw : ¬ Int32.ofNat k < 0 ∧ Int32.ofNat k < ta (5 + v) / 32 * 4 := by
    refine ⟨xn_nneg (by omega), ?_⟩
    rw [T.w (5 + v) (by omega) (by omega), (s_dv_32 _ (T.v v hv)).1]
    show _ < Int32.ofNat _ * Int32.ofNat 4
    rw [xn_mul]
    exact (xn_lt (by omega) (by omega)).2 (by omega)
  apply xk_Ev.of
  refine xk_Po.go 1 rfl ?_
  refine xk_Po.cv1 rfl rfl (c_requirePower (show ¬ (1 : Int32) = 0 by decide)) ?_
  refine xk_Po.go 2 rfl ?_
  refine xk_Po.cv2 rfl rfl (c_requireVolume hv hu) ?_
  refine xk_Po.go 3 rfl ?_
  refine xk_Po.cv3 rfl rfl (c_requireWord hv hw) ?_
  refine xk_Po.go 3 rfl ?_
  refine xk_Po.ci3 rfl rfl (k_elw T hv h5 hk) ?_
  refine xk_Po.go 4 rfl ?_
  refine xk_Po.ci3 rfl rfl (by have h := k_lr (sc := sc) (sl := s.1) (ex := s.2.1) (dr := dr) (md := md) (ml := n_ml m) (mt := n_mt x) (mc := mc) (on := 1) (ct := s.2.2) (r := r) T hv (e := n_el (f (5 + v)) k) (by omega) hb; rw [if_pos h0] at h; exact h) ?_
  refine xk_Po.go 1 rfl ?_
  refine xk_Po.br rfl rfl (fun hZ => absurd hZ (n_ne1 (by omega))) (fun _ => ?_) -- 19 .if_icmp .ne 21
  refine xk_Po.go 3 rfl ?_
  refine xk_Po.cv3 rfl rfl (k_lal_2 T hv (by omega) hb h0 h1) ?_
  refine xk_Po.go 3 rfl ?_
  refine xk_Po.ci3 rfl rfl (k_wow T hv h5 hk) ?_
  refine xk_Po.go 11 rfl ?_
  refine xk_Po.ci3 rfl rfl (c_legOfN (l := 0)) ?_
  refine xk_Po.go 3 rfl ?_
  refine xk_Po.ci2 rfl rfl (k_rd1 T (by omega) hb h0) ?_
  refine xk_Po.go 5 rfl ?_
  refine xk_Po.cm4 rfl rfl (k_pl (s := s) T hmx hcp (j := (v * 10 + n_el (f (5 + v)) k * 2)) (by omega) h0.1 b2) rfl (fun q0 => absurd (by rw [← ho, show m_seq (m_wr f m x c (n_wo (f (5 + v)) k) y (v * 10 + n_el (f (5 + v)) k * 2)) (m_wr f m x c (n_wo (f (5 + v)) k) y ((v * 10 + n_el (f (5 + v)) k * 2) + 1)) s = m_wr f m x c (n_wo (f (5 + v)) k) y (v * 10 + n_el (f (5 + v)) k * 2) s from if_neg q0]) q0) (fun q0 => ?_)
  refine xk_Po.go 9 rfl ?_
  refine xk_Po.ci3 rfl rfl (c_legOfN (l := 1)) ?_
  refine xk_Po.go 3 rfl ?_
  refine xk_Po.ci2 rfl rfl (k_rd1 T (by omega) hb h1) ?_
  refine xk_Po.go 5 rfl ?_
  refine xk_Po.cm4 rfl rfl (k_pl (s := (m_wr f m x c (n_wo (f (5 + v)) k) y (v * 10 + n_el (f (5 + v)) k * 2) s).2) T hmx hcp (j := (v * 10 + n_el (f (5 + v)) k * 2) + 1) (by omega) h1.1 b2) rfl (fun q1 => absurd (by rw [← ho, show m_seq (m_wr f m x c (n_wo (f (5 + v)) k) y (v * 10 + n_el (f (5 + v)) k * 2)) (m_wr f m x c (n_wo (f (5 + v)) k) y ((v * 10 + n_el (f (5 + v)) k * 2) + 1)) s = m_wr f m x c (n_wo (f (5 + v)) k) y ((v * 10 + n_el (f (5 + v)) k * 2) + 1) (m_wr f m x c (n_wo (f (5 + v)) k) y (v * 10 + n_el (f (5 + v)) k * 2) s).2 from if_pos q0]) q1) (fun q1 => ?_)
  refine xk_Po.go 7 rfl ?_
  exact xk_Po.iret rfl (by rw [show m_seq (m_wr f m x c (n_wo (f (5 + v)) k) y (v * 10 + n_el (f (5 + v)) k * 2)) (m_wr f m x c (n_wo (f (5 + v)) k) y ((v * 10 + n_el (f (5 + v)) k * 2) + 1)) s = m_wr f m x c (n_wo (f (5 + v)) k) y ((v * 10 + n_el (f (5 + v)) k * 2) + 1) (m_wr f m x c (n_wo (f (5 + v)) k) y (v * 10 + n_el (f (5 + v)) k * 2) s).2 from if_pos q0]; rfl)
theorem k_write2_0 {v : Nat} (hv : v < 4) (hu : ¬ ta (5 + v) = 0) {f : Nat → Nat} (T : s_Tv ta f) (h5 : f (5 + v) ≠ 0) {k : Nat} (hk : k < 20) (hk4 : k < 4 * (f (5 + v) / 32)) (hb : ∀ i, ab i = 0 ∨ ab i = 1) {y : Int32} {m x c : Nat} {s : s_S} (hmx : x < 32 ↔ m < 40) (hcp : x < 32 → mc = Int32.ofNat c ∧ c < 4) (h0 : n_rda (f (9 + (v * 10 + n_el (f (5 + v)) k * 2))) ab) (h1 : n_rda (f (9 + (v * 10 + n_el (f (5 + v)) k * 2 + 1))) ab) (ho : ¬ (m_seq (m_wr f m x c (n_wo (f (5 + v)) k) y (v * 10 + n_el (f (5 + v)) k * 2)) (m_wr f m x c (n_wo (f (5 + v)) k) y ((v * 10 + n_el (f (5 + v)) k * 2) + 1)) s).1 = true) : xk_Ev (xp_P sc) 48 0 [.ref 0, .int (Int32.ofNat v), .int (Int32.ofNat k), .int y, .retAddr 0, .retAddr 0, .retAddr 0, .retAddr 0, .retAddr 0] [] (cs (s) (ab) (ta) (dr) (md) (n_ml m) (n_mt x) (mc) (1) r) (.inr 0, 1, cl ((m_seq (m_wr f m x c (n_wo (f (5 + v)) k) y (v * 10 + n_el (f (5 + v)) k * 2)) (m_wr f m x c (n_wo (f (5 + v)) k) y ((v * 10 + n_el (f (5 + v)) k * 2) + 1)) s).2) ab ta (dr) (mc) r) := by
  obtain ⟨b1, b2⟩ := s_elb _ (T.v v hv) h5 k hk hk4
  have e5 := (s_dv_32 _ (T.v v hv)).2
  have l0 := T.l (v * 10 + n_el (f (5 + v)) k * 2) (by omega)
  have l1 := T.l (v * 10 + n_el (f (5 + v)) k * 2 + 1) (by omega)
  have hw : ¬ Int32.ofNat k < 0 ∧ Int32.ofNat k < ta (5 + v) / 32 * 4 := by
    refine ⟨xn_nneg (by omega), ?_⟩
    rw [T.w (5 + v) (by omega) (by omega), (s_dv_32 _ (T.v v hv)).1]
    show _ < Int32.ofNat _ * Int32.ofNat 4
    rw [xn_mul]
    exact (xn_lt (by omega) (by omega)).2 (by omega)
  apply xk_Ev.of
  refine xk_Po.go 1 rfl ?_
  refine xk_Po.cv1 rfl rfl (c_requirePower (show ¬ (1 : Int32) = 0 by decide)) ?_
  refine xk_Po.go 2 rfl ?_
  refine xk_Po.cv2 rfl rfl (c_requireVolume hv hu) ?_
  refine xk_Po.go 3 rfl ?_
  refine xk_Po.cv3 rfl rfl (c_requireWord hv hw) ?_
  refine xk_Po.go 3 rfl ?_
  refine xk_Po.ci3 rfl rfl (k_elw T hv h5 hk) ?_
  refine xk_Po.go 4 rfl ?_
  refine xk_Po.ci3 rfl rfl (by have h := k_lr (sc := sc) (sl := s.1) (ex := s.2.1) (dr := dr) (md := md) (ml := n_ml m) (mt := n_mt x) (mc := mc) (on := 1) (ct := s.2.2) (r := r) T hv (e := n_el (f (5 + v)) k) (by omega) hb; rw [if_pos h0] at h; exact h) ?_
  refine xk_Po.go 1 rfl ?_
  refine xk_Po.br rfl rfl (fun hZ => absurd hZ (n_ne1 (by omega))) (fun _ => ?_) -- 19 .if_icmp .ne 21
  refine xk_Po.go 3 rfl ?_
  refine xk_Po.cv3 rfl rfl (k_lal_2 T hv (by omega) hb h0 h1) ?_
  refine xk_Po.go 3 rfl ?_
  refine xk_Po.ci3 rfl rfl (k_wow T hv h5 hk) ?_
  refine xk_Po.go 11 rfl ?_
  refine xk_Po.ci3 rfl rfl (c_legOfN (l := 0)) ?_
  refine xk_Po.go 3 rfl ?_
  refine xk_Po.ci2 rfl rfl (k_rd1 T (by omega) hb h0) ?_
  refine xk_Po.go 5 rfl ?_
  refine xk_Po.cm4 rfl rfl (k_pl (s := s) T hmx hcp (j := (v * 10 + n_el (f (5 + v)) k * 2)) (by omega) h0.1 b2) rfl (fun q0 => by rw [show m_seq (m_wr f m x c (n_wo (f (5 + v)) k) y (v * 10 + n_el (f (5 + v)) k * 2)) (m_wr f m x c (n_wo (f (5 + v)) k) y ((v * 10 + n_el (f (5 + v)) k * 2) + 1)) s = m_wr f m x c (n_wo (f (5 + v)) k) y (v * 10 + n_el (f (5 + v)) k * 2) s from if_neg q0]) (fun q0 => ?_)
  refine xk_Po.go 9 rfl ?_
  refine xk_Po.ci3 rfl rfl (c_legOfN (l := 1)) ?_
  refine xk_Po.go 3 rfl ?_
  refine xk_Po.ci2 rfl rfl (k_rd1 T (by omega) hb h1) ?_
  refine xk_Po.go 5 rfl ?_
  refine xk_Po.cm4 rfl rfl (k_pl (s := (m_wr f m x c (n_wo (f (5 + v)) k) y (v * 10 + n_el (f (5 + v)) k * 2) s).2) T hmx hcp (j := (v * 10 + n_el (f (5 + v)) k * 2) + 1) (by omega) h1.1 b2) rfl (fun q1 => by rw [show m_seq (m_wr f m x c (n_wo (f (5 + v)) k) y (v * 10 + n_el (f (5 + v)) k * 2)) (m_wr f m x c (n_wo (f (5 + v)) k) y ((v * 10 + n_el (f (5 + v)) k * 2) + 1)) s = m_wr f m x c (n_wo (f (5 + v)) k) y ((v * 10 + n_el (f (5 + v)) k * 2) + 1) (m_wr f m x c (n_wo (f (5 + v)) k) y (v * 10 + n_el (f (5 + v)) k * 2) s).2 from if_pos q0]) (fun q1 => ?_)
  refine xk_Po.go 7 rfl ?_
  exact xk_Po.iret rfl (absurd (by rw [show m_seq (m_wr f m x c (n_wo (f (5 + v)) k) y (v * 10 + n_el (f (5 + v)) k * 2)) (m_wr f m x c (n_wo (f (5 + v)) k) y ((v * 10 + n_el (f (5 + v)) k * 2) + 1)) s = m_wr f m x c (n_wo (f (5 + v)) k) y ((v * 10 + n_el (f (5 + v)) k * 2) + 1) (m_wr f m x c (n_wo (f (5 + v)) k) y (v * 10 + n_el (f (5 + v)) k * 2) s).2 from if_pos q0]; exact q1) ho)
theorem k_write1a_1 {v : Nat} (hv : v < 4) (hu : ¬ ta (5 + v) = 0) {f : Nat → Nat} (T : s_Tv ta f) (h5 : f (5 + v) ≠ 0) {k : Nat} (hk : k < 20) (hk4 : k < 4 * (f (5 + v) / 32)) (hb : ∀ i, ab i = 0 ∨ ab i = 1) {y : Int32} {m x c : Nat} {s : s_S} (hmx : x < 32 ↔ m < 40) (hcp : x < 32 → mc = Int32.ofNat c ∧ c < 4) (h0 : n_rda (f (9 + (v * 10 + n_el (f (5 + v)) k * 2))) ab) (h1 : f (9 + (v * 10 + n_el (f (5 + v)) k * 2 + 1)) = 0) (ho : (m_seq (m_wr f m x c (n_wo (f (5 + v)) k) y (v * 10 + n_el (f (5 + v)) k * 2)) (m_wr f m x c (n_wo (f (5 + v)) k) y ((v * 10 + n_el (f (5 + v)) k * 2) + 1)) s).1 = true) : xk_Ev (xp_P sc) 48 0 [.ref 0, .int (Int32.ofNat v), .int (Int32.ofNat k), .int y, .retAddr 0, .retAddr 0, .retAddr 0, .retAddr 0, .retAddr 0] [] (cs (s) (ab) (ta) (dr) (md) (n_ml m) (n_mt x) (mc) (1) r) (.inl (some (.int 1)), 0, cs ((m_seq (m_wr f m x c (n_wo (f (5 + v)) k) y (v * 10 + n_el (f (5 + v)) k * 2)) (m_wr f m x c (n_wo (f (5 + v)) k) y ((v * 10 + n_el (f (5 + v)) k * 2) + 1)) s).2) (ab) (ta) (dr) (md) (n_ml m) (n_mt x) (mc) (1) r) := by
  obtain ⟨b1, b2⟩ := s_elb _ (T.v v hv) h5 k hk hk4
  have e5 := (s_dv_32 _ (T.v v hv)).2
  have l0 := T.l (v * 10 + n_el (f (5 + v)) k * 2) (by omega)
  have l1 := T.l (v * 10 + n_el (f (5 + v)) k * 2 + 1) (by omega)
  have hw : ¬ Int32.ofNat k < 0 ∧ Int32.ofNat k < ta (5 + v) / 32 * 4 := by
    refine ⟨xn_nneg (by omega), ?_⟩
    rw [T.w (5 + v) (by omega) (by omega), (s_dv_32 _ (T.v v hv)).1]
    show _ < Int32.ofNat _ * Int32.ofNat 4
    rw [xn_mul]
    exact (xn_lt (by omega) (by omega)).2 (by omega)
  have eW : m_seq (m_wr f m x c (n_wo (f (5 + v)) k) y (v * 10 + n_el (f (5 + v)) k * 2)) (m_wr f m x c (n_wo (f (5 + v)) k) y ((v * 10 + n_el (f (5 + v)) k * 2) + 1)) s = m_wr f m x c (n_wo (f (5 + v)) k) y (v * 10 + n_el (f (5 + v)) k * 2) s := by
    rw [show m_wr f m x c (n_wo (f (5 + v)) k) y ((v * 10 + n_el (f (5 + v)) k * 2) + 1) = m_no from if_pos h1, m_no_seq]
  apply xk_Ev.of
  refine xk_Po.go 1 rfl ?_
  refine xk_Po.cv1 rfl rfl (c_requirePower (show ¬ (1 : Int32) = 0 by decide)) ?_
  refine xk_Po.go 2 rfl ?_
  refine xk_Po.cv2 rfl rfl (c_requireVolume hv hu) ?_
  refine xk_Po.go 3 rfl ?_
  refine xk_Po.cv3 rfl rfl (c_requireWord hv hw) ?_
  refine xk_Po.go 3 rfl ?_
  refine xk_Po.ci3 rfl rfl (k_elw T hv h5 hk) ?_
  refine xk_Po.go 4 rfl ?_
  refine xk_Po.ci3 rfl rfl (by have h := k_lr (sc := sc) (sl := s.1) (ex := s.2.1) (dr := dr) (md := md) (ml := n_ml m) (mt := n_mt x) (mc := mc) (on := 1) (ct := s.2.2) (r := r) T hv (e := n_el (f (5 + v)) k) (by omega) hb; rw [if_pos h0] at h; exact h) ?_
  refine xk_Po.go 1 rfl ?_
  refine xk_Po.br rfl rfl (fun hZ => absurd hZ (n_ne1 (by omega))) (fun _ => ?_) -- 19 .if_icmp .ne 21
  refine xk_Po.go 3 rfl ?_
  refine xk_Po.cv3 rfl rfl (k_lal_a T hv (by omega) hb h0 h1) ?_
  refine xk_Po.go 3 rfl ?_
  refine xk_Po.ci3 rfl rfl (k_wow T hv h5 hk) ?_
  refine xk_Po.go 11 rfl ?_
  refine xk_Po.ci3 rfl rfl (c_legOfN (l := 0)) ?_
  refine xk_Po.go 3 rfl ?_
  refine xk_Po.ci2 rfl rfl (k_rd1 T (by omega) hb h0) ?_
  refine xk_Po.go 5 rfl ?_
  refine xk_Po.cm4 rfl rfl (k_pl (s := s) T hmx hcp (j := (v * 10 + n_el (f (5 + v)) k * 2)) (by omega) h0.1 b2) rfl (fun q0 => absurd (by rw [← eW]; exact ho) q0) (fun q0 => ?_)
  refine xk_Po.go 9 rfl ?_
  refine xk_Po.ci3 rfl rfl (c_legOfN (l := 1)) ?_
  refine xk_Po.go 3 rfl ?_
  refine xk_Po.ci2 rfl rfl (k_rd0 T (by omega) hb (fun q => q.1 h1)) ?_
  refine xk_Po.go 7 rfl ?_
  exact xk_Po.iret rfl (by rw [eW]; rfl)
theorem k_write1a_0 {v : Nat} (hv : v < 4) (hu : ¬ ta (5 + v) = 0) {f : Nat → Nat} (T : s_Tv ta f) (h5 : f (5 + v) ≠ 0) {k : Nat} (hk : k < 20) (hk4 : k < 4 * (f (5 + v) / 32)) (hb : ∀ i, ab i = 0 ∨ ab i = 1) {y : Int32} {m x c : Nat} {s : s_S} (hmx : x < 32 ↔ m < 40) (hcp : x < 32 → mc = Int32.ofNat c ∧ c < 4) (h0 : n_rda (f (9 + (v * 10 + n_el (f (5 + v)) k * 2))) ab) (h1 : f (9 + (v * 10 + n_el (f (5 + v)) k * 2 + 1)) = 0) (ho : ¬ (m_seq (m_wr f m x c (n_wo (f (5 + v)) k) y (v * 10 + n_el (f (5 + v)) k * 2)) (m_wr f m x c (n_wo (f (5 + v)) k) y ((v * 10 + n_el (f (5 + v)) k * 2) + 1)) s).1 = true) : xk_Ev (xp_P sc) 48 0 [.ref 0, .int (Int32.ofNat v), .int (Int32.ofNat k), .int y, .retAddr 0, .retAddr 0, .retAddr 0, .retAddr 0, .retAddr 0] [] (cs (s) (ab) (ta) (dr) (md) (n_ml m) (n_mt x) (mc) (1) r) (.inr 0, 1, cl ((m_seq (m_wr f m x c (n_wo (f (5 + v)) k) y (v * 10 + n_el (f (5 + v)) k * 2)) (m_wr f m x c (n_wo (f (5 + v)) k) y ((v * 10 + n_el (f (5 + v)) k * 2) + 1)) s).2) ab ta (dr) (mc) r) := by
  obtain ⟨b1, b2⟩ := s_elb _ (T.v v hv) h5 k hk hk4
  have e5 := (s_dv_32 _ (T.v v hv)).2
  have l0 := T.l (v * 10 + n_el (f (5 + v)) k * 2) (by omega)
  have l1 := T.l (v * 10 + n_el (f (5 + v)) k * 2 + 1) (by omega)
  have hw : ¬ Int32.ofNat k < 0 ∧ Int32.ofNat k < ta (5 + v) / 32 * 4 := by
    refine ⟨xn_nneg (by omega), ?_⟩
    rw [T.w (5 + v) (by omega) (by omega), (s_dv_32 _ (T.v v hv)).1]
    show _ < Int32.ofNat _ * Int32.ofNat 4
    rw [xn_mul]
    exact (xn_lt (by omega) (by omega)).2 (by omega)
  have eW : m_seq (m_wr f m x c (n_wo (f (5 + v)) k) y (v * 10 + n_el (f (5 + v)) k * 2)) (m_wr f m x c (n_wo (f (5 + v)) k) y ((v * 10 + n_el (f (5 + v)) k * 2) + 1)) s = m_wr f m x c (n_wo (f (5 + v)) k) y (v * 10 + n_el (f (5 + v)) k * 2) s := by
    rw [show m_wr f m x c (n_wo (f (5 + v)) k) y ((v * 10 + n_el (f (5 + v)) k * 2) + 1) = m_no from if_pos h1, m_no_seq]
  apply xk_Ev.of
  refine xk_Po.go 1 rfl ?_
  refine xk_Po.cv1 rfl rfl (c_requirePower (show ¬ (1 : Int32) = 0 by decide)) ?_
  refine xk_Po.go 2 rfl ?_
  refine xk_Po.cv2 rfl rfl (c_requireVolume hv hu) ?_
  refine xk_Po.go 3 rfl ?_
  refine xk_Po.cv3 rfl rfl (c_requireWord hv hw) ?_
  refine xk_Po.go 3 rfl ?_
  refine xk_Po.ci3 rfl rfl (k_elw T hv h5 hk) ?_
  refine xk_Po.go 4 rfl ?_
  refine xk_Po.ci3 rfl rfl (by have h := k_lr (sc := sc) (sl := s.1) (ex := s.2.1) (dr := dr) (md := md) (ml := n_ml m) (mt := n_mt x) (mc := mc) (on := 1) (ct := s.2.2) (r := r) T hv (e := n_el (f (5 + v)) k) (by omega) hb; rw [if_pos h0] at h; exact h) ?_
  refine xk_Po.go 1 rfl ?_
  refine xk_Po.br rfl rfl (fun hZ => absurd hZ (n_ne1 (by omega))) (fun _ => ?_) -- 19 .if_icmp .ne 21
  refine xk_Po.go 3 rfl ?_
  refine xk_Po.cv3 rfl rfl (k_lal_a T hv (by omega) hb h0 h1) ?_
  refine xk_Po.go 3 rfl ?_
  refine xk_Po.ci3 rfl rfl (k_wow T hv h5 hk) ?_
  refine xk_Po.go 11 rfl ?_
  refine xk_Po.ci3 rfl rfl (c_legOfN (l := 0)) ?_
  refine xk_Po.go 3 rfl ?_
  refine xk_Po.ci2 rfl rfl (k_rd1 T (by omega) hb h0) ?_
  refine xk_Po.go 5 rfl ?_
  refine xk_Po.cm4 rfl rfl (k_pl (s := s) T hmx hcp (j := (v * 10 + n_el (f (5 + v)) k * 2)) (by omega) h0.1 b2) rfl (fun q0 => by rw [eW]) (fun q0 => ?_)
  refine xk_Po.go 9 rfl ?_
  refine xk_Po.ci3 rfl rfl (c_legOfN (l := 1)) ?_
  refine xk_Po.go 3 rfl ?_
  refine xk_Po.ci2 rfl rfl (k_rd0 T (by omega) hb (fun q => q.1 h1)) ?_
  refine xk_Po.go 7 rfl ?_
  exact xk_Po.iret rfl (absurd (by rw [eW]; exact q0) ho)
theorem k_write1c_1 {v : Nat} (hv : v < 4) (hu : ¬ ta (5 + v) = 0) {f : Nat → Nat} (T : s_Tv ta f) (h5 : f (5 + v) ≠ 0) {k : Nat} (hk : k < 20) (hk4 : k < 4 * (f (5 + v) / 32)) (hb : ∀ i, ab i = 0 ∨ ab i = 1) {y : Int32} {m x c : Nat} {s : s_S} (hmx : x < 32 ↔ m < 40) (hcp : x < 32 → mc = Int32.ofNat c ∧ c < 4) (h0 : f (9 + (v * 10 + n_el (f (5 + v)) k * 2)) = 0) (h1 : n_rda (f (9 + (v * 10 + n_el (f (5 + v)) k * 2 + 1))) ab) (ho : (m_seq (m_wr f m x c (n_wo (f (5 + v)) k) y (v * 10 + n_el (f (5 + v)) k * 2)) (m_wr f m x c (n_wo (f (5 + v)) k) y ((v * 10 + n_el (f (5 + v)) k * 2) + 1)) s).1 = true) : xk_Ev (xp_P sc) 48 0 [.ref 0, .int (Int32.ofNat v), .int (Int32.ofNat k), .int y, .retAddr 0, .retAddr 0, .retAddr 0, .retAddr 0, .retAddr 0] [] (cs (s) (ab) (ta) (dr) (md) (n_ml m) (n_mt x) (mc) (1) r) (.inl (some (.int 1)), 0, cs ((m_seq (m_wr f m x c (n_wo (f (5 + v)) k) y (v * 10 + n_el (f (5 + v)) k * 2)) (m_wr f m x c (n_wo (f (5 + v)) k) y ((v * 10 + n_el (f (5 + v)) k * 2) + 1)) s).2) (ab) (ta) (dr) (md) (n_ml m) (n_mt x) (mc) (1) r) := by
  obtain ⟨b1, b2⟩ := s_elb _ (T.v v hv) h5 k hk hk4
  have e5 := (s_dv_32 _ (T.v v hv)).2
  have l0 := T.l (v * 10 + n_el (f (5 + v)) k * 2) (by omega)
  have l1 := T.l (v * 10 + n_el (f (5 + v)) k * 2 + 1) (by omega)
  have hw : ¬ Int32.ofNat k < 0 ∧ Int32.ofNat k < ta (5 + v) / 32 * 4 := by
    refine ⟨xn_nneg (by omega), ?_⟩
    rw [T.w (5 + v) (by omega) (by omega), (s_dv_32 _ (T.v v hv)).1]
    show _ < Int32.ofNat _ * Int32.ofNat 4
    rw [xn_mul]
    exact (xn_lt (by omega) (by omega)).2 (by omega)
  have eW : m_seq (m_wr f m x c (n_wo (f (5 + v)) k) y (v * 10 + n_el (f (5 + v)) k * 2)) (m_wr f m x c (n_wo (f (5 + v)) k) y ((v * 10 + n_el (f (5 + v)) k * 2) + 1)) s = m_wr f m x c (n_wo (f (5 + v)) k) y ((v * 10 + n_el (f (5 + v)) k * 2) + 1) s := by
    rw [show m_wr f m x c (n_wo (f (5 + v)) k) y (v * 10 + n_el (f (5 + v)) k * 2) = m_no from if_pos h0, m_seq_no]
  apply xk_Ev.of
  refine xk_Po.go 1 rfl ?_
  refine xk_Po.cv1 rfl rfl (c_requirePower (show ¬ (1 : Int32) = 0 by decide)) ?_
  refine xk_Po.go 2 rfl ?_
  refine xk_Po.cv2 rfl rfl (c_requireVolume hv hu) ?_
  refine xk_Po.go 3 rfl ?_
  refine xk_Po.cv3 rfl rfl (c_requireWord hv hw) ?_
  refine xk_Po.go 3 rfl ?_
  refine xk_Po.ci3 rfl rfl (k_elw T hv h5 hk) ?_
  refine xk_Po.go 4 rfl ?_
  refine xk_Po.ci3 rfl rfl (by have h := k_lr (sc := sc) (sl := s.1) (ex := s.2.1) (dr := dr) (md := md) (ml := n_ml m) (mt := n_mt x) (mc := mc) (on := 1) (ct := s.2.2) (r := r) T hv (e := n_el (f (5 + v)) k) (by omega) hb; rw [if_neg (fun q => q.1 h0), if_pos h1] at h; exact h) ?_
  refine xk_Po.go 1 rfl ?_
  refine xk_Po.br rfl rfl (fun hZ => absurd hZ (n_ne1 (by omega))) (fun _ => ?_) -- 19 .if_icmp .ne 21
  refine xk_Po.go 3 rfl ?_
  refine xk_Po.cv3 rfl rfl (k_lal_c T hv (by omega) hb h0 h1) ?_
  refine xk_Po.go 3 rfl ?_
  refine xk_Po.ci3 rfl rfl (k_wow T hv h5 hk) ?_
  refine xk_Po.go 11 rfl ?_
  refine xk_Po.ci3 rfl rfl (c_legOfN (l := 0)) ?_
  refine xk_Po.go 3 rfl ?_
  refine xk_Po.ci2 rfl rfl (k_rd0 T (by omega) hb (fun q => q.1 h0)) ?_
  refine xk_Po.go 9 rfl ?_
  refine xk_Po.ci3 rfl rfl (c_legOfN (l := 1)) ?_
  refine xk_Po.go 3 rfl ?_
  refine xk_Po.ci2 rfl rfl (k_rd1 T (by omega) hb h1) ?_
  refine xk_Po.go 5 rfl ?_
  refine xk_Po.cm4 rfl rfl (k_pl (s := s) T hmx hcp (j := (v * 10 + n_el (f (5 + v)) k * 2) + 1) (by omega) h1.1 b2) rfl (fun q0 => absurd (by rw [← eW]; exact ho) q0) (fun q0 => ?_)
  refine xk_Po.go 7 rfl ?_
  exact xk_Po.iret rfl (by rw [eW]; rfl)
theorem k_write1c_0 {v : Nat} (hv : v < 4) (hu : ¬ ta (5 + v) = 0) {f : Nat → Nat} (T : s_Tv ta f) (h5 : f (5 + v) ≠ 0) {k : Nat} (hk : k < 20) (hk4 : k < 4 * (f (5 + v) / 32)) (hb : ∀ i, ab i = 0 ∨ ab i = 1) {y : Int32} {m x c : Nat} {s : s_S} (hmx : x < 32 ↔ m < 40) (hcp : x < 32 → mc = Int32.ofNat c ∧ c < 4) (h0 : f (9 + (v * 10 + n_el (f (5 + v)) k * 2)) = 0) (h1 : n_rda (f (9 + (v * 10 + n_el (f (5 + v)) k * 2 + 1))) ab) (ho : ¬ (m_seq (m_wr f m x c (n_wo (f (5 + v)) k) y (v * 10 + n_el (f (5 + v)) k * 2)) (m_wr f m x c (n_wo (f (5 + v)) k) y ((v * 10 + n_el (f (5 + v)) k * 2) + 1)) s).1 = true) : xk_Ev (xp_P sc) 48 0 [.ref 0, .int (Int32.ofNat v), .int (Int32.ofNat k), .int y, .retAddr 0, .retAddr 0, .retAddr 0, .retAddr 0, .retAddr 0] [] (cs (s) (ab) (ta) (dr) (md) (n_ml m) (n_mt x) (mc) (1) r) (.inr 0, 1, cl ((m_seq (m_wr f m x c (n_wo (f (5 + v)) k) y (v * 10 + n_el (f (5 + v)) k * 2)) (m_wr f m x c (n_wo (f (5 + v)) k) y ((v * 10 + n_el (f (5 + v)) k * 2) + 1)) s).2) ab ta (dr) (mc) r) := by
  obtain ⟨b1, b2⟩ := s_elb _ (T.v v hv) h5 k hk hk4
  have e5 := (s_dv_32 _ (T.v v hv)).2
  have l0 := T.l (v * 10 + n_el (f (5 + v)) k * 2) (by omega)
  have l1 := T.l (v * 10 + n_el (f (5 + v)) k * 2 + 1) (by omega)
  have hw : ¬ Int32.ofNat k < 0 ∧ Int32.ofNat k < ta (5 + v) / 32 * 4 := by
    refine ⟨xn_nneg (by omega), ?_⟩
    rw [T.w (5 + v) (by omega) (by omega), (s_dv_32 _ (T.v v hv)).1]
    show _ < Int32.ofNat _ * Int32.ofNat 4
    rw [xn_mul]
    exact (xn_lt (by omega) (by omega)).2 (by omega)
  have eW : m_seq (m_wr f m x c (n_wo (f (5 + v)) k) y (v * 10 + n_el (f (5 + v)) k * 2)) (m_wr f m x c (n_wo (f (5 + v)) k) y ((v * 10 + n_el (f (5 + v)) k * 2) + 1)) s = m_wr f m x c (n_wo (f (5 + v)) k) y ((v * 10 + n_el (f (5 + v)) k * 2) + 1) s := by
    rw [show m_wr f m x c (n_wo (f (5 + v)) k) y (v * 10 + n_el (f (5 + v)) k * 2) = m_no from if_pos h0, m_seq_no]
  apply xk_Ev.of
  refine xk_Po.go 1 rfl ?_
  refine xk_Po.cv1 rfl rfl (c_requirePower (show ¬ (1 : Int32) = 0 by decide)) ?_
  refine xk_Po.go 2 rfl ?_
  refine xk_Po.cv2 rfl rfl (c_requireVolume hv hu) ?_
  refine xk_Po.go 3 rfl ?_
  refine xk_Po.cv3 rfl rfl (c_requireWord hv hw) ?_
  refine xk_Po.go 3 rfl ?_
  refine xk_Po.ci3 rfl rfl (k_elw T hv h5 hk) ?_
  refine xk_Po.go 4 rfl ?_
  refine xk_Po.ci3 rfl rfl (by have h := k_lr (sc := sc) (sl := s.1) (ex := s.2.1) (dr := dr) (md := md) (ml := n_ml m) (mt := n_mt x) (mc := mc) (on := 1) (ct := s.2.2) (r := r) T hv (e := n_el (f (5 + v)) k) (by omega) hb; rw [if_neg (fun q => q.1 h0), if_pos h1] at h; exact h) ?_
  refine xk_Po.go 1 rfl ?_
  refine xk_Po.br rfl rfl (fun hZ => absurd hZ (n_ne1 (by omega))) (fun _ => ?_) -- 19 .if_icmp .ne 21
  refine xk_Po.go 3 rfl ?_
  refine xk_Po.cv3 rfl rfl (k_lal_c T hv (by omega) hb h0 h1) ?_
  refine xk_Po.go 3 rfl ?_
  refine xk_Po.ci3 rfl rfl (k_wow T hv h5 hk) ?_
  refine xk_Po.go 11 rfl ?_
  refine xk_Po.ci3 rfl rfl (c_legOfN (l := 0)) ?_
  refine xk_Po.go 3 rfl ?_
  refine xk_Po.ci2 rfl rfl (k_rd0 T (by omega) hb (fun q => q.1 h0)) ?_
  refine xk_Po.go 9 rfl ?_
  refine xk_Po.ci3 rfl rfl (c_legOfN (l := 1)) ?_
  refine xk_Po.go 3 rfl ?_
  refine xk_Po.ci2 rfl rfl (k_rd1 T (by omega) hb h1) ?_
  refine xk_Po.go 5 rfl ?_
  refine xk_Po.cm4 rfl rfl (k_pl (s := s) T hmx hcp (j := (v * 10 + n_el (f (5 + v)) k * 2) + 1) (by omega) h1.1 b2) rfl (fun q0 => by rw [eW]) (fun q0 => ?_)
  refine xk_Po.go 7 rfl ?_
  exact xk_Po.iret rfl (absurd (by rw [eW]; exact q0) ho)
end XkKw2
