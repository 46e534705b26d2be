section XkKst
variable {sc : Nat × (Nat → Int32)} {sl ex ab ta dr : Nat → Int32} {md ml mt mc on ct : Int32} {r w : xk_W}
theorem k_cn1 {f : Nat → Nat} {j x k : Nat} {s : s_S} (T : s_Tv ta f) (hj : j < 40) (hx : x < 32) (hk : k < 4) (h0 : f (9 + j) ≠ 0) (h4 : k + 1 < 4) : xk_Ev (xp_P sc) 104 0 [.ref 0, .retAddr 0] [] (cs (s) (ab) (ta) (dr) (md) (Int32.ofNat j) (Int32.ofNat x) (Int32.ofNat k) (on) r) (s_out (m_cp (x * 4 + k) ((f (9 + j) - 1) * 4 + k) s) (fun s => cs (s) (ab) (ta) (dr) (md) (Int32.ofNat j) (Int32.ofNat x) (Int32.ofNat (k + 1)) (on) r) (fun s => cl (s) ab ta (dr) (Int32.ofNat k) r)) := by
  have hl := T.l j hj
  have hw : ta (9 + j) - 1 = Int32.ofNat (f (9 + j) - 1) := by
    rw [T.w (9 + j) (by omega) (by omega)]
    exact xn_sub (b := 1) (by omega)
  exact c_copyNext1 hj hx (by omega) hk hw h4
theorem k_cn4_1 {f : Nat → Nat} {j x k : Nat} {s : s_S} (T : s_Tv ta f) (hj : j < 40) (hx : x < 32) (hk : k < 4) (h0 : f (9 + j) ≠ 0) (hb : ∀ i, ab i = 0 ∨ ab i = 1) (hq : s_any (fun j => ¬ ta (1 + j) = 0 ∧ ¬ ab j = 0) 4 0 = 0) (hd : ∀ i, 51 ≤ i → dr i = 0) (h4 : k + 1 = 4) (ho : (m_seq (m_cp (x * 4 + k) ((f (9 + j) - 1) * 4 + k)) (m_com (s_seal (upd ta (9 + j) (Int32.ofNat (x + 1))) (ta 0 + 1)) ab) s).1 = true) : xk_Ev (xp_P sc) 104 0 [.ref 0, .retAddr 0] [] (cs (s) (ab) (ta) (dr) (md) (Int32.ofNat j) (Int32.ofNat x) (Int32.ofNat k) (on) r) (.inl none, 0, cs ((m_seq (m_cp (x * 4 + k) ((f (9 + j) - 1) * 4 + k)) (m_com (s_seal (upd ta (9 + j) (Int32.ofNat (x + 1))) (ta 0 + 1)) ab) s).2) (ab) (s_seal (upd ta (9 + j) (Int32.ofNat (x + 1))) (ta 0 + 1)) (s_seal (upd ta (9 + j) (Int32.ofNat (x + 1))) (ta 0 + 1)) (md) (-1) (-1) (Int32.ofNat (k + 1)) (on) r) := by
  have hl := T.l j hj
  have hw : ta (9 + j) - 1 = Int32.ofNat (f (9 + j) - 1) := by
    rw [T.w (9 + j) (by omega) (by omega)]
    exact xn_sub (b := 1) (by omega)
  have cm := c_commitDraft1 (sc := sc) (s := (m_cp (x * 4 + k) ((f (9 + j) - 1) * 4 + k) s).2) (ab := ab) (ta := ta) (dr := upd ta (9 + j) (Int32.ofNat (x + 1))) (md := md) (ml := Int32.ofNat j) (mt := Int32.ofNat x) (mc := Int32.ofNat (k + 1)) (on := on) (r := r) hb hq T.z (upd_z T.z (by omega)) (fun _ => ⟨j, hj, rfl⟩)
  unfold s_out at cm
  have ss : ∀ (q1 q2 : Nat → Int32) (q3 q4 : Int32), xk_Ev (xp_P sc) 35 0 [.ref 7, .int (Int32.ofNat j), .int (Int32.ofNat x)] [] (cw (q1) (q2) ab ta (ta) md (Int32.ofNat j) (Int32.ofNat x) (q4) on (q3) r) (.inl none, 0, cw (q1) (q2) ab ta (upd ta (9 + j) (Int32.ofNat (x + 1))) md (Int32.ofNat j) (Int32.ofNat x) (q4) on (q3) r) := by
    intro q1 q2 q3 q4
    have h := d_setSpotN (sc := sc) (sl := q1) (ex := q2) (ab := ab) (ta := ta) (dr := ta) (md := md) (ml := Int32.ofNat j) (mt := Int32.ofNat x) (mc := q4) (on := on) (ct := q3) (r := r) (j := j) (x := Int32.ofNat x) hj
    rw [show Int32.ofNat x + 1 = Int32.ofNat (x + 1) from xn_suc x] at h
    exact h
  by_cases q : (m_cp (x * 4 + k) ((f (9 + j) - 1) * 4 + k) s).1 = true
  · have eO : m_seq (m_cp (x * 4 + k) ((f (9 + j) - 1) * 4 + k)) (m_com (s_seal (upd ta (9 + j) (Int32.ofNat (x + 1))) (ta 0 + 1)) ab) s = m_com (s_seal (upd ta (9 + j) (Int32.ofNat (x + 1))) (ta 0 + 1)) ab (m_cp (x * 4 + k) ((f (9 + j) - 1) * 4 + k) s).2 := if_pos q
    rw [eO] at ho ⊢
    rw [if_pos ho] at cm
    apply xk_Ev.of
    refine xk_Po.go 5 rfl ?_
    refine xk_Po.ci2 rfl rfl (k_sp T hj h0) ?_
    refine xk_Po.go 14 rfl ?_
    refine xk_Po.ci3 rfl rfl (by have h := c_extentWord (sc := sc) (sl := s.1) (ex := s.2.1) (ab := ab) (ta := ta) (dr := dr) (md := md) (ml := Int32.ofNat j) (mt := Int32.ofNat x) (mc := Int32.ofNat k) (on := on) (ct := s.2.2) (r := r) (x := f (9 + j) - 1) (k := k) (by omega) hk; exact h) ?_
    refine xk_Po.cm4 rfl rfl (c_putWord (s := s) hx hk) rfl (fun q0 => absurd q q0) (fun q0 => ?_)
    refine xk_Po.go 6 rfl ?_
    rw [show Int32.ofNat k + Int32.ofInt 1 = Int32.ofNat (k + 1) from xn_suc k]
    refine xk_Po.go 5 rfl ?_
    refine xk_Po.br rfl rfl (fun _ => ?_) (fun hZ => absurd (by rw [h4]; rfl) hZ) -- 33 .if_icmp .ne 50
    refine xk_Po.go 1 rfl ?_
    refine xk_Po.cv1 rfl rfl (c_beginDraft T.z hd) ?_
    refine xk_Po.go 8 rfl ?_
    refine xk_Po.cv3 rfl rfl (ss _ _ _ _) ?_
    refine xk_Po.go 1 rfl ?_
    refine xk_Po.cv1 rfl rfl (cm) ?_
    refine xk_Po.go 2 rfl ?_
    refine xk_Po.cv1 rfl rfl (c_endCopy) ?_
    exact xk_Po.ret rfl (rfl)
  · have eO : m_seq (m_cp (x * 4 + k) ((f (9 + j) - 1) * 4 + k)) (m_com (s_seal (upd ta (9 + j) (Int32.ofNat (x + 1))) (ta 0 + 1)) ab) s = m_cp (x * 4 + k) ((f (9 + j) - 1) * 4 + k) s := if_neg q
    rw [eO] at ho
    exact absurd ho q
theorem k_cn4_0 {f : Nat → Nat} {j x k : Nat} {s : s_S} (T : s_Tv ta f) (hj : j < 40) (hx : x < 32) (hk : k < 4) (h0 : f (9 + j) ≠ 0) (hb : ∀ i, ab i = 0 ∨ ab i = 1) (hq : s_any (fun j => ¬ ta (1 + j) = 0 ∧ ¬ ab j = 0) 4 0 = 0) (hd : ∀ i, 51 ≤ i → dr i = 0) (h4 : k + 1 = 4) (ho : ¬ (m_seq (m_cp (x * 4 + k) ((f (9 + j) - 1) * 4 + k)) (m_com (s_seal (upd ta (9 + j) (Int32.ofNat (x + 1))) (ta 0 + 1)) ab) s).1 = true) : ∃ d2 c2, (∀ i, 51 ≤ i → d2 i = 0) ∧ xk_Ev (xp_P sc) 104 0 [.ref 0, .retAddr 0] [] (cs (s) (ab) (ta) (dr) (md) (Int32.ofNat j) (Int32.ofNat x) (Int32.ofNat k) (on) r) (.inr 0, 1, cl ((m_seq (m_cp (x * 4 + k) ((f (9 + j) - 1) * 4 + k)) (m_com (s_seal (upd ta (9 + j) (Int32.ofNat (x + 1))) (ta 0 + 1)) ab) s).2) ab ta (d2) (c2) r) := by
  have hl := T.l j hj
  have hw : ta (9 + j) - 1 = Int32.ofNat (f (9 + j) - 1) := by
    rw [T.w (9 + j) (by omega) (by omega)]
    exact xn_sub (b := 1) (by omega)
  have cm := c_commitDraft1 (sc := sc) (s := (m_cp (x * 4 + k) ((f (9 + j) - 1) * 4 + k) s).2) (ab := ab) (ta := ta) (dr := upd ta (9 + j) (Int32.ofNat (x + 1))) (md := md) (ml := Int32.ofNat j) (mt := Int32.ofNat x) (mc := Int32.ofNat (k + 1)) (on := on) (r := r) hb hq T.z (upd_z T.z (by omega)) (fun _ => ⟨j, hj, rfl⟩)
  unfold s_out at cm
  have ss : ∀ (q1 q2 : Nat → Int32) (q3 q4 : Int32), xk_Ev (xp_P sc) 35 0 [.ref 7, .int (Int32.ofNat j), .int (Int32.ofNat x)] [] (cw (q1) (q2) ab ta (ta) md (Int32.ofNat j) (Int32.ofNat x) (q4) on (q3) r) (.inl none, 0, cw (q1) (q2) ab ta (upd ta (9 + j) (Int32.ofNat (x + 1))) md (Int32.ofNat j) (Int32.ofNat x) (q4) on (q3) r) := by
    intro q1 q2 q3 q4
    have h := d_setSpotN (sc := sc) (sl := q1) (ex := q2) (ab := ab) (ta := ta) (dr := ta) (md := md) (ml := Int32.ofNat j) (mt := Int32.ofNat x) (mc := q4) (on := on) (ct := q3) (r := r) (j := j) (x := Int32.ofNat x) hj
    rw [show Int32.ofNat x + 1 = Int32.ofNat (x + 1) from xn_suc x] at h
    exact h
  by_cases q : (m_cp (x * 4 + k) ((f (9 + j) - 1) * 4 + k) s).1 = true
  · have eO : m_seq (m_cp (x * 4 + k) ((f (9 + j) - 1) * 4 + k)) (m_com (s_seal (upd ta (9 + j) (Int32.ofNat (x + 1))) (ta 0 + 1)) ab) s = m_com (s_seal (upd ta (9 + j) (Int32.ofNat (x + 1))) (ta 0 + 1)) ab (m_cp (x * 4 + k) ((f (9 + j) - 1) * 4 + k) s).2 := if_pos q
    rw [eO] at ho ⊢
    rw [if_neg ho] at cm
    refine ⟨s_seal (upd ta (9 + j) (Int32.ofNat (x + 1))) (ta 0 + 1), Int32.ofNat (k + 1), s_seal_z (upd_z T.z (by omega)), ?_⟩
    apply xk_Ev.of
    refine xk_Po.go 5 rfl ?_
    refine xk_Po.ci2 rfl rfl (k_sp T hj h0) ?_
    refine xk_Po.go 14 rfl ?_
    refine xk_Po.ci3 rfl rfl (by have h := c_extentWord (sc := sc) (sl := s.1) (ex := s.2.1) (ab := ab) (ta := ta) (dr := dr) (md := md) (ml := Int32.ofNat j) (mt := Int32.ofNat x) (mc := Int32.ofNat k) (on := on) (ct := s.2.2) (r := r) (x := f (9 + j) - 1) (k := k) (by omega) hk; exact h) ?_
    refine xk_Po.cm4 rfl rfl (c_putWord (s := s) hx hk) rfl (fun q0 => absurd q q0) (fun q0 => ?_)
    refine xk_Po.go 6 rfl ?_
    rw [show Int32.ofNat k + Int32.ofInt 1 = Int32.ofNat (k + 1) from xn_suc k]
    refine xk_Po.go 5 rfl ?_
    refine xk_Po.br rfl rfl (fun _ => ?_) (fun hZ => absurd (by rw [h4]; rfl) hZ) -- 33 .if_icmp .ne 50
    refine xk_Po.go 1 rfl ?_
    refine xk_Po.cv1 rfl rfl (c_beginDraft T.z hd) ?_
    refine xk_Po.go 8 rfl ?_
    refine xk_Po.cv3 rfl rfl (ss _ _ _ _) ?_
    refine xk_Po.go 1 rfl ?_
    exact xk_Po.ct1 rfl rfl (cm) rfl rfl
  · have eO : m_seq (m_cp (x * 4 + k) ((f (9 + j) - 1) * 4 + k)) (m_com (s_seal (upd ta (9 + j) (Int32.ofNat (x + 1))) (ta 0 + 1)) ab) s = m_cp (x * 4 + k) ((f (9 + j) - 1) * 4 + k) s := if_neg q
    rw [eO]
    refine ⟨dr, Int32.ofNat k, hd, ?_⟩
    apply xk_Ev.of
    refine xk_Po.go 5 rfl ?_
    refine xk_Po.ci2 rfl rfl (k_sp T hj h0) ?_
    refine xk_Po.go 14 rfl ?_
    refine xk_Po.ci3 rfl rfl (by have h := c_extentWord (sc := sc) (sl := s.1) (ex := s.2.1) (ab := ab) (ta := ta) (dr := dr) (md := md) (ml := Int32.ofNat j) (mt := Int32.ofNat x) (mc := Int32.ofNat k) (on := on) (ct := s.2.2) (r := r) (x := f (9 + j) - 1) (k := k) (by omega) hk; exact h) ?_
    exact xk_Po.ct4 rfl rfl ((by have h := c_putWord (sc := sc) (ab := ab) (ta := ta) (dr := dr) (md := md) (ml := Int32.ofNat j) (mt := Int32.ofNat x) (mc := Int32.ofNat k) (on := on) (r := r) (s := s) (x := x) (k := k) (y := s.2.1 ((f (9 + j) - 1) * 4 + k)) hx hk; unfold s_out at h; rw [if_neg (show ¬ (m_ex (x * 4 + k) (s.2.1 ((f (9 + j) - 1) * 4 + k)) s).1 = true from q)] at h; exact h)) rfl rfl
theorem k_step_off  : xk_Ev (xp_P sc) 51 0 [.ref 0, .retAddr 0, .retAddr 0] [] (cw sl ex ab ta dr md ml mt mc (0) ct r) (.inr 0, 1, cw sl ex ab ta dr md ml mt mc (0) ct r) := by
  apply xk_Ev.of
  refine xk_Po.go 1 rfl ?_
  exact xk_Po.ct1 rfl rfl (c_requirePower_t rfl) rfl rfl
theorem k_step_nm (h : md = Int32.ofInt (-1)) : xk_Ev (xp_P sc) 51 0 [.ref 0, .retAddr 0, .retAddr 0] [] (cw sl ex ab ta dr md ml mt mc (1) ct r) (.inr 2, 1, cw sl ex ab ta dr md ml mt mc (1) ct r) := by
  apply xk_Ev.of
  refine xk_Po.go 1 rfl ?_
  refine xk_Po.cv1 rfl rfl (c_requirePower (show ¬ (1 : Int32) = 0 by decide)) ?_
  refine xk_Po.go 4 rfl ?_
  refine xk_Po.br rfl rfl (fun _ => ?_) (fun hZ => absurd (h) hZ) -- 6 .if_icmp .ne 8
  exact xk_Po.thr rfl (rfl)
end XkKst
