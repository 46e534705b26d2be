/-! A draft is committed; a leg's word; twins; extents cleared. -/
section XkCom
variable {sc : Nat × (Nat → Int32)} {sl ex ab ta dr : Nat → Int32} {md ml mt mc on ct : Int32} {r w : xk_W}
def s_seal (t : Nat → Int32) (x : Int32) : Nat → Int32 := upd (upd (upd t 0 x) 49 (s_sum (upd t 0 x) 0 49)) 50 x
theorem s_seal_z {t : Nat → Int32} {x : Int32} (h : ∀ i, 51 ≤ i → t i = 0) : ∀ i, 51 ≤ i → s_seal t x i = 0 := by
  intro i hi
  unfold s_seal upd
  rw [if_neg (by omega), if_neg (by omega), if_neg (by omega)]
  exact h i hi
def s_ml (t : Nat → Int32) (ml mt : Int32) : Int32 × Int32 := if ml = Int32.ofInt (-1) then (ml, mt) else if t (9 + ml.toNatClampNeg) - 1 = Int32.ofInt (-1) then (-1, -1) else (ml, mt)
def m_com (D ab : Nat → Int32) : s_M := m_for (fun d => if ¬ D (1 + d) = 0 ∧ ab d = 0 then m_wt d D else m_no) 4 0
theorem c_spotOfI {g : Int32} (hg : ∃ j, j < 40 ∧ g = Int32.ofNat j) : xk_Ev (xp_P sc) 34 0 [.ref 5, .int g] [] (cw sl ex ab ta dr md ml mt mc on ct r) (.inl (some (.int (ta (9 + g.toNatClampNeg) - 1))), 0, cw sl ex ab ta dr md ml mt mc on ct r) := by
  obtain ⟨j, hj, rfl⟩ := hg
  rw [xn_nat (j := j) (by omega)]
  exact c_spotOfN hj
theorem c_putLeg1 {s : s_S} {j k x : Nat} {y : Int32} (hj : j < 40) (hk : k < 4) (hx : x < 32) (hw : ta (9 + j) - 1 = Int32.ofNat x) (h : ¬ (ml = Int32.ofNat j ∧ ¬ mc ≤ Int32.ofNat k)) : xk_Ev (xp_P sc) 84 0 [.ref 0, .int (Int32.ofNat j), .int (Int32.ofNat k), .int y] [] (cs (s) ab ta dr md ml mt mc on r) (s_out (m_ex (x * 4 + k) y s) (fun s => cs (s) ab ta dr md ml mt mc on r) (fun s => cl (s) ab ta dr mc r)) := by
  apply xk_Ev.of
  refine xk_Po.go 4 rfl ?_
  refine xk_Po.ci2 rfl rfl (by have h := c_spotOfN (sc := sc) (sl := (s).1) (ex := (s).2.1) (ab := ab) (ta := ta) (dr := dr) (md := md) (ml := ml) (mt := mt) (mc := mc) (on := on) (ct := (s).2.2) (r := r) hj; rw [hw] at h; exact h) ?_
  refine xk_Po.go 2 rfl ?_
  refine xk_Po.cm4 rfl rfl (c_putWord hx hk) rfl (fun q0 => s_bad (W := fun s => cs (s) ab ta dr md ml mt mc on r) (V := fun s => cl (s) ab ta dr mc r) (u := m_ex (x * 4 + k) y s) (rfl) q0) (fun q0 => ?_)
  refine xk_Po.go 4 rfl ?_
  refine xk_Po.ci3 rfl rfl (c_hasCopied) ?_
  refine xk_Po.br rfl rfl (fun h0 => ?_) (fun h0 => ?_) -- 13 .ifCond .eq 21
  · exact xk_Po.ret rfl (s_good (W := fun s => cs (s) ab ta dr md ml mt mc on r) (V := fun s => cl (s) ab ta dr mc r) (s := (m_ex (x * 4 + k) y s).2) (m_true q0))
  · exact absurd (xn_b1 h0) h
theorem c_putLeg2 {s : s_S} {j k x : Nat} {y : Int32} (hj : j < 40) (hk : k < 4) (hx : x < 32) (hw : ta (9 + j) - 1 = Int32.ofNat x) {x2 : Nat} (hx2 : x2 < 32) (h : ml = Int32.ofNat j ∧ ¬ mc ≤ Int32.ofNat k) : xk_Ev (xp_P sc) 84 0 [.ref 0, .int (Int32.ofNat j), .int (Int32.ofNat k), .int y] [] (cs (s) ab ta dr md ml (Int32.ofNat x2) mc on r) (s_out (m_seq (m_ex (x * 4 + k) y) (m_ex (x2 * 4 + k) y) s) (fun s => cs (s) ab ta dr md ml (Int32.ofNat x2) mc on r) (fun s => cl (s) ab ta dr mc r)) := by
  apply xk_Ev.of
  refine xk_Po.go 4 rfl ?_
  refine xk_Po.ci2 rfl rfl (by have h := c_spotOfN (sc := sc) (sl := (s).1) (ex := (s).2.1) (ab := ab) (ta := ta) (dr := dr) (md := md) (ml := ml) (mt := Int32.ofNat x2) (mc := mc) (on := on) (ct := (s).2.2) (r := r) hj; rw [hw] at h; exact h) ?_
  refine xk_Po.go 2 rfl ?_
  refine xk_Po.cm4 rfl rfl (c_putWord hx hk) rfl (fun q0 => s_bad (W := fun s => cs (s) ab ta dr md ml (Int32.ofNat x2) mc on r) (V := fun s => cl (s) ab ta dr mc r) (u := m_ex (x * 4 + k) y s) (if_neg q0) q0) (fun q0 => ?_)
  refine xk_Po.go 4 rfl ?_
  refine xk_Po.ci3 rfl rfl (c_hasCopied) ?_
  refine xk_Po.br rfl rfl (fun h0 => ?_) (fun h0 => ?_) -- 13 .ifCond .eq 21
  · exact xk_Po.ret rfl (absurd h (xn_b0 h0))
  · refine xk_Po.go 6 rfl ?_
    refine xk_Po.cm4 rfl rfl (c_putWord hx2 hk) rfl (fun q1 => s_bad (W := fun s => cs (s) ab ta dr md ml (Int32.ofNat x2) mc on r) (V := fun s => cl (s) ab ta dr mc r) (u := m_ex (x2 * 4 + k) y (m_ex (x * 4 + k) y s).2) (if_pos q0) q1) (fun q1 => ?_)
    exact xk_Po.ret rfl (s_good (W := fun s => cs (s) ab ta dr md ml (Int32.ofNat x2) mc on r) (V := fun s => cl (s) ab ta dr mc r) (s := (m_ex (x2 * 4 + k) y (m_ex (x * 4 + k) y s).2).2) ((if_pos q0).trans (m_true q1)))
theorem c_commitDraft1 {s : s_S} (hb : ∀ i, ab i = 0 ∨ ab i = 1) (h : s_any (fun j => ¬ ta (1 + j) = 0 ∧ ¬ ab j = 0) 4 0 = 0) (ht : ∀ i, 51 ≤ i → ta i = 0) (hd : ∀ i, 51 ≤ i → dr i = 0) (hml : ¬ ml = Int32.ofInt (-1) → ∃ j, j < 40 ∧ ml = Int32.ofNat j) : xk_Ev (xp_P sc) 86 0 [.ref 0, .retAddr 0] [] (cs (s) ab ta dr md ml mt mc on r) (s_out (m_com (s_seal dr (ta 0 + 1)) ab s) (fun s => cs (s) ab ((s_seal dr (ta 0 + 1))) ((s_seal dr (ta 0 + 1))) md ((s_ml (s_seal dr (ta 0 + 1)) ml mt).1) ((s_ml (s_seal dr (ta 0 + 1)) ml mt).2) mc on r) (fun s => cl (s) ab ta ((s_seal dr (ta 0 + 1))) mc r)) := by
  apply xk_Ev.of
  refine xk_Po.go 4 rfl ?_
  refine xk_Po.ci1 rfl rfl (c_serial) ?_
  refine xk_Po.go 1 rfl ?_
  refine xk_Po.ci1 rfl rfl (c_isAnyListedAbsent hb) ?_
  refine xk_Po.br rfl rfl (fun h0 => ?_) (fun h0 => ?_) -- 7 .ifCond .eq 10
  · refine xk_Po.go 2 rfl ?_
    refine xk_Po.cv2 rfl rfl (d_seal) ?_
    refine xk_Po.go 2 rfl ?_
    refine xk_Po.loopS 4 (fun j0 => [.ref 0, .int (Int32.ofNat j0)]) (fun s => cs (s) ab ta ((s_seal dr (ta 0 + 1))) md ml mt mc on r) (fun m0 j0 s => fun z => z = s_out (m_for (fun d => if ¬ (s_seal dr (ta 0 + 1)) (1 + d) = 0 ∧ ab d = 0 then m_wt d (s_seal dr (ta 0 + 1)) else m_no) m0 j0 s) (fun s => cs (s) ab ((s_seal dr (ta 0 + 1))) ((s_seal dr (ta 0 + 1))) md ((s_ml (s_seal dr (ta 0 + 1)) ml mt).1) ((s_ml (s_seal dr (ta 0 + 1)) ml mt).2) mc on r) (fun s => cl (s) ab ta ((s_seal dr (ta 0 + 1))) mc r)) (fun m0 j0 s hj0 ih0 => ?_) (fun s => ?_) s
    · have uj0 : j0 < 4 := by omega
      refine xk_Po.go 2 rfl ?_
      refine xk_Po.br rfl rfl (fun hx => absurd ((xn_le (a := 4) (b := j0) (by omega) (by omega)).1 hx) (by omega)) (fun _ => ?_)
      refine xk_Po.go 4 rfl ?_
      refine xk_Po.ci3 rfl rfl (d_isListedAndPresent (by omega) hb) ?_
      refine xk_Po.br rfl rfl (fun h1 => ?_) (fun h1 => ?_) -- 23 .ifCond .eq 29
      · refine xk_Po.go 2 rfl ?_
        rw [show m_for (fun d => if ¬ (s_seal dr (ta 0 + 1)) (1 + d) = 0 ∧ ab d = 0 then m_wt d (s_seal dr (ta 0 + 1)) else m_no) (m0 + 1) j0 s = m_for (fun d => if ¬ (s_seal dr (ta 0 + 1)) (1 + d) = 0 ∧ ab d = 0 then m_wt d (s_seal dr (ta 0 + 1)) else m_no) m0 (j0 + 1) s from m_for_ok (congrFun (if_neg (xn_b0 h1)) s)]
        rw [← xn_suc j0] at ih0
        exact ih0 _
      · refine xk_Po.go 4 rfl ?_
        refine xk_Po.cm3 rfl rfl (d_writeTable (by omega)) rfl (fun q0 => s_bad (W := fun s => cs (s) ab ((s_seal dr (ta 0 + 1))) ((s_seal dr (ta 0 + 1))) md ((s_ml (s_seal dr (ta 0 + 1)) ml mt).1) ((s_ml (s_seal dr (ta 0 + 1)) ml mt).2) mc on r) (V := fun s => cl (s) ab ta ((s_seal dr (ta 0 + 1))) mc r) (u := m_wt j0 (s_seal dr (ta 0 + 1)) s) (m_for_no (congrFun (if_pos (xn_b1 h1)) s) q0) q0) (fun q0 => ?_)
        refine xk_Po.go 2 rfl ?_
        rw [show m_for (fun d => if ¬ (s_seal dr (ta 0 + 1)) (1 + d) = 0 ∧ ab d = 0 then m_wt d (s_seal dr (ta 0 + 1)) else m_no) (m0 + 1) j0 s = m_for (fun d => if ¬ (s_seal dr (ta 0 + 1)) (1 + d) = 0 ∧ ab d = 0 then m_wt d (s_seal dr (ta 0 + 1)) else m_no) m0 (j0 + 1) _ from m_for_ok ((congrFun (if_pos (xn_b1 h1)) s).trans (m_true q0))]
        rw [← xn_suc j0] at ih0
        exact ih0 _
    · refine xk_Po.go 9 rfl ?_
      refine xk_Po.cv3 rfl rfl (by have h := c_takeD (sc := sc) (sl := (s).1) (ex := (s).2.1) (ab := ab) (ta := ta) (dr := (s_seal dr (ta 0 + 1))) (md := md) (ml := ml) (mt := mt) (mc := mc) (on := on) (ct := (s).2.2) (r := r); rw [s_cpy (s_seal dr (ta 0 + 1)) ta (s_seal_z hd) ht] at h; exact h) ?_
      refine xk_Po.go 4 rfl ?_
      refine xk_Po.br rfl rfl (fun h1 => ?_) (fun h1 => ?_) -- 42 .if_icmp .eq 54
      · exact xk_Po.ret rfl (by have g := s_good (W := fun s => cs (s) ab ((s_seal dr (ta 0 + 1))) ((s_seal dr (ta 0 + 1))) md ((s_ml (s_seal dr (ta 0 + 1)) ml mt).1) ((s_ml (s_seal dr (ta 0 + 1)) ml mt).2) mc on r) (V := fun s => cl (s) ab ta ((s_seal dr (ta 0 + 1))) mc r) (s := s) (o := m_for (fun d => if ¬ (s_seal dr (ta 0 + 1)) (1 + d) = 0 ∧ ab d = 0 then m_wt d (s_seal dr (ta 0 + 1)) else m_no) 0 4 s) rfl; rw [← g]; show _ = ((.inl none, 0, cs (s) ab ((s_seal dr (ta 0 + 1))) ((s_seal dr (ta 0 + 1))) md ((s_ml (s_seal dr (ta 0 + 1)) ml mt).1) ((s_ml (s_seal dr (ta 0 + 1)) ml mt).2) mc on r) : xk_R); rw [show s_ml (s_seal dr (ta 0 + 1)) ml mt = (ml, mt) from if_pos h1]; rfl)
      · refine xk_Po.go 5 rfl ?_
        refine xk_Po.ci2 rfl rfl (c_spotOfI (hml h1)) ?_
        refine xk_Po.go 1 rfl ?_
        refine xk_Po.br rfl rfl (fun h2 => ?_) (fun h2 => ?_) -- 50 .if_icmp .ne 54
        · refine xk_Po.go 2 rfl ?_
          refine xk_Po.cv1 rfl rfl (c_endCopy) ?_
          exact xk_Po.ret rfl (by have g := s_good (W := fun s => cs (s) ab ((s_seal dr (ta 0 + 1))) ((s_seal dr (ta 0 + 1))) md ((s_ml (s_seal dr (ta 0 + 1)) ml mt).1) ((s_ml (s_seal dr (ta 0 + 1)) ml mt).2) mc on r) (V := fun s => cl (s) ab ta ((s_seal dr (ta 0 + 1))) mc r) (s := s) (o := m_for (fun d => if ¬ (s_seal dr (ta 0 + 1)) (1 + d) = 0 ∧ ab d = 0 then m_wt d (s_seal dr (ta 0 + 1)) else m_no) 0 4 s) rfl; rw [← g]; show _ = ((.inl none, 0, cs (s) ab ((s_seal dr (ta 0 + 1))) ((s_seal dr (ta 0 + 1))) md ((s_ml (s_seal dr (ta 0 + 1)) ml mt).1) ((s_ml (s_seal dr (ta 0 + 1)) ml mt).2) mc on r) : xk_R); rw [show s_ml (s_seal dr (ta 0 + 1)) ml mt = (-1, -1) from (if_neg h1).trans (if_pos h2)]; rfl)
        · exact xk_Po.ret rfl (by have g := s_good (W := fun s => cs (s) ab ((s_seal dr (ta 0 + 1))) ((s_seal dr (ta 0 + 1))) md ((s_ml (s_seal dr (ta 0 + 1)) ml mt).1) ((s_ml (s_seal dr (ta 0 + 1)) ml mt).2) mc on r) (V := fun s => cl (s) ab ta ((s_seal dr (ta 0 + 1))) mc r) (s := s) (o := m_for (fun d => if ¬ (s_seal dr (ta 0 + 1)) (1 + d) = 0 ∧ ab d = 0 then m_wt d (s_seal dr (ta 0 + 1)) else m_no) 0 4 s) rfl; rw [← g]; show _ = ((.inl none, 0, cs (s) ab ((s_seal dr (ta 0 + 1))) ((s_seal dr (ta 0 + 1))) md ((s_ml (s_seal dr (ta 0 + 1)) ml mt).1) ((s_ml (s_seal dr (ta 0 + 1)) ml mt).2) mc on r) : xk_R); rw [show s_ml (s_seal dr (ta 0 + 1)) ml mt = (ml, mt) from (if_neg h1).trans (if_neg h2)]; rfl)
  · exact absurd h h0
theorem c_commitDraft2 {s : s_S} (hb : ∀ i, ab i = 0 ∨ ab i = 1) (h : ¬ s_any (fun j => ¬ ta (1 + j) = 0 ∧ ¬ ab j = 0) 4 0 = 0) (ht : ∀ i, 51 ≤ i → ta i = 0) (hd : ∀ i, 51 ≤ i → dr i = 0) (hml : ¬ ml = Int32.ofInt (-1) → ∃ j, j < 40 ∧ ml = Int32.ofNat j) : xk_Ev (xp_P sc) 86 0 [.ref 0, .retAddr 0] [] (cs (s) ab ta dr md ml mt mc on r) (s_out (m_com (s_seal dr (ta 0 + 2)) ab s) (fun s => cs (s) ab ((s_seal dr (ta 0 + 2))) ((s_seal dr (ta 0 + 2))) md ((s_ml (s_seal dr (ta 0 + 2)) ml mt).1) ((s_ml (s_seal dr (ta 0 + 2)) ml mt).2) mc on r) (fun s => cl (s) ab ta ((s_seal dr (ta 0 + 2))) mc r)) := by
  apply xk_Ev.of
  refine xk_Po.go 4 rfl ?_
  refine xk_Po.ci1 rfl rfl (c_serial) ?_
  refine xk_Po.go 1 rfl ?_
  refine xk_Po.ci1 rfl rfl (c_isAnyListedAbsent hb) ?_
  refine xk_Po.br rfl rfl (fun h0 => ?_) (fun h0 => ?_) -- 7 .ifCond .eq 10
  · exact absurd h0 h
  · refine xk_Po.go 3 rfl ?_
    refine xk_Po.cv2 rfl rfl (d_seal) ?_
    refine xk_Po.go 2 rfl ?_
    refine xk_Po.loopS 4 (fun j0 => [.ref 0, .int (Int32.ofNat j0)]) (fun s => cs (s) ab ta ((s_seal dr (ta 0 + 2))) md ml mt mc on r) (fun m0 j0 s => fun z => z = s_out (m_for (fun d => if ¬ (s_seal dr (ta 0 + 2)) (1 + d) = 0 ∧ ab d = 0 then m_wt d (s_seal dr (ta 0 + 2)) else m_no) m0 j0 s) (fun s => cs (s) ab ((s_seal dr (ta 0 + 2))) ((s_seal dr (ta 0 + 2))) md ((s_ml (s_seal dr (ta 0 + 2)) ml mt).1) ((s_ml (s_seal dr (ta 0 + 2)) ml mt).2) mc on r) (fun s => cl (s) ab ta ((s_seal dr (ta 0 + 2))) mc r)) (fun m0 j0 s hj0 ih0 => ?_) (fun s => ?_) s
    · have uj0 : j0 < 4 := by omega
      refine xk_Po.go 2 rfl ?_
      refine xk_Po.br rfl rfl (fun hx => absurd ((xn_le (a := 4) (b := j0) (by omega) (by omega)).1 hx) (by omega)) (fun _ => ?_)
      refine xk_Po.go 4 rfl ?_
      refine xk_Po.ci3 rfl rfl (d_isListedAndPresent (by omega) hb) ?_
      refine xk_Po.br rfl rfl (fun h1 => ?_) (fun h1 => ?_) -- 23 .ifCond .eq 29
      · refine xk_Po.go 2 rfl ?_
        rw [show m_for (fun d => if ¬ (s_seal dr (ta 0 + 2)) (1 + d) = 0 ∧ ab d = 0 then m_wt d (s_seal dr (ta 0 + 2)) else m_no) (m0 + 1) j0 s = m_for (fun d => if ¬ (s_seal dr (ta 0 + 2)) (1 + d) = 0 ∧ ab d = 0 then m_wt d (s_seal dr (ta 0 + 2)) else m_no) m0 (j0 + 1) s from m_for_ok (congrFun (if_neg (xn_b0 h1)) s)]
        rw [← xn_suc j0] at ih0
        exact ih0 _
      · refine xk_Po.go 4 rfl ?_
        refine xk_Po.cm3 rfl rfl (d_writeTable (by omega)) rfl (fun q0 => s_bad (W := fun s => cs (s) ab ((s_seal dr (ta 0 + 2))) ((s_seal dr (ta 0 + 2))) md ((s_ml (s_seal dr (ta 0 + 2)) ml mt).1) ((s_ml (s_seal dr (ta 0 + 2)) ml mt).2) mc on r) (V := fun s => cl (s) ab ta ((s_seal dr (ta 0 + 2))) mc r) (u := m_wt j0 (s_seal dr (ta 0 + 2)) s) (m_for_no (congrFun (if_pos (xn_b1 h1)) s) q0) q0) (fun q0 => ?_)
        refine xk_Po.go 2 rfl ?_
        rw [show m_for (fun d => if ¬ (s_seal dr (ta 0 + 2)) (1 + d) = 0 ∧ ab d = 0 then m_wt d (s_seal dr (ta 0 + 2)) else m_no) (m0 + 1) j0 s = m_for (fun d => if ¬ (s_seal dr (ta 0 + 2)) (1 + d) = 0 ∧ ab d = 0 then m_wt d (s_seal dr (ta 0 + 2)) else m_no) m0 (j0 + 1) _ from m_for_ok ((congrFun (if_pos (xn_b1 h1)) s).trans (m_true q0))]
        rw [← xn_suc j0] at ih0
        exact ih0 _
    · refine xk_Po.go 9 rfl ?_
      refine xk_Po.cv3 rfl rfl (by have h := c_takeD (sc := sc) (sl := (s).1) (ex := (s).2.1) (ab := ab) (ta := ta) (dr := (s_seal dr (ta 0 + 2))) (md := md) (ml := ml) (mt := mt) (mc := mc) (on := on) (ct := (s).2.2) (r := r); rw [s_cpy (s_seal dr (ta 0 + 2)) ta (s_seal_z hd) ht] at h; exact h) ?_
      refine xk_Po.go 4 rfl ?_
      refine xk_Po.br rfl rfl (fun h1 => ?_) (fun h1 => ?_) -- 42 .if_icmp .eq 54
      · exact xk_Po.ret rfl (by have g := s_good (W := fun s => cs (s) ab ((s_seal dr (ta 0 + 2))) ((s_seal dr (ta 0 + 2))) md ((s_ml (s_seal dr (ta 0 + 2)) ml mt).1) ((s_ml (s_seal dr (ta 0 + 2)) ml mt).2) mc on r) (V := fun s => cl (s) ab ta ((s_seal dr (ta 0 + 2))) mc r) (s := s) (o := m_for (fun d => if ¬ (s_seal dr (ta 0 + 2)) (1 + d) = 0 ∧ ab d = 0 then m_wt d (s_seal dr (ta 0 + 2)) else m_no) 0 4 s) rfl; rw [← g]; show _ = ((.inl none, 0, cs (s) ab ((s_seal dr (ta 0 + 2))) ((s_seal dr (ta 0 + 2))) md ((s_ml (s_seal dr (ta 0 + 2)) ml mt).1) ((s_ml (s_seal dr (ta 0 + 2)) ml mt).2) mc on r) : xk_R); rw [show s_ml (s_seal dr (ta 0 + 2)) ml mt = (ml, mt) from if_pos h1]; rfl)
      · refine xk_Po.go 5 rfl ?_
        refine xk_Po.ci2 rfl rfl (c_spotOfI (hml h1)) ?_
        refine xk_Po.go 1 rfl ?_
        refine xk_Po.br rfl rfl (fun h2 => ?_) (fun h2 => ?_) -- 50 .if_icmp .ne 54
        · refine xk_Po.go 2 rfl ?_
          refine xk_Po.cv1 rfl rfl (c_endCopy) ?_
          exact xk_Po.ret rfl (by have g := s_good (W := fun s => cs (s) ab ((s_seal dr (ta 0 + 2))) ((s_seal dr (ta 0 + 2))) md ((s_ml (s_seal dr (ta 0 + 2)) ml mt).1) ((s_ml (s_seal dr (ta 0 + 2)) ml mt).2) mc on r) (V := fun s => cl (s) ab ta ((s_seal dr (ta 0 + 2))) mc r) (s := s) (o := m_for (fun d => if ¬ (s_seal dr (ta 0 + 2)) (1 + d) = 0 ∧ ab d = 0 then m_wt d (s_seal dr (ta 0 + 2)) else m_no) 0 4 s) rfl; rw [← g]; show _ = ((.inl none, 0, cs (s) ab ((s_seal dr (ta 0 + 2))) ((s_seal dr (ta 0 + 2))) md ((s_ml (s_seal dr (ta 0 + 2)) ml mt).1) ((s_ml (s_seal dr (ta 0 + 2)) ml mt).2) mc on r) : xk_R); rw [show s_ml (s_seal dr (ta 0 + 2)) ml mt = (-1, -1) from (if_neg h1).trans (if_pos h2)]; rfl)
        · exact xk_Po.ret rfl (by have g := s_good (W := fun s => cs (s) ab ((s_seal dr (ta 0 + 2))) ((s_seal dr (ta 0 + 2))) md ((s_ml (s_seal dr (ta 0 + 2)) ml mt).1) ((s_ml (s_seal dr (ta 0 + 2)) ml mt).2) mc on r) (V := fun s => cl (s) ab ta ((s_seal dr (ta 0 + 2))) mc r) (s := s) (o := m_for (fun d => if ¬ (s_seal dr (ta 0 + 2)) (1 + d) = 0 ∧ ab d = 0 then m_wt d (s_seal dr (ta 0 + 2)) else m_no) 0 4 s) rfl; rw [← g]; show _ = ((.inl none, 0, cs (s) ab ((s_seal dr (ta 0 + 2))) ((s_seal dr (ta 0 + 2))) md ((s_ml (s_seal dr (ta 0 + 2)) ml mt).1) ((s_ml (s_seal dr (ta 0 + 2)) ml mt).2) mc on r) : xk_R); rw [show s_ml (s_seal dr (ta 0 + 2)) ml mt = (ml, mt) from (if_neg h1).trans (if_neg h2)]; rfl)
theorem c_clearExtents {d : Nat} (hd : d < 4) : xk_Ev (xp_P sc) 11 0 [.ref 1, .int (Int32.ofNat d), .retAddr 0] [] (cw sl ex ab ta dr md ml mt mc on ct r) (.inl none, 0, cw sl (s_clr ex (fun _ => True) (d * 32) 32) ab ta dr md ml mt mc on ct r) := by
  apply xk_Ev.of
  refine xk_Po.go 4 rfl ?_
  rw [show Int32.ofNat d * Int32.ofInt 32 = Int32.ofNat (d * 32) from xn_mul d 32]
  refine xk_Po.loop 32 (fun j0 => [.ref 1, .int (Int32.ofNat d), .int (Int32.ofNat (d * 32 + j0))]) (fun j0 => cw sl (s_clr ex (fun _ => True) (d * 32) j0) ab ta dr md ml mt mc on ct r) (fun m0 j0 => _) (fun m0 j0 hj0 ih0 => ?_) ?_
  · have uj0 : j0 < 32 := by omega
    refine xk_Po.go 6 rfl ?_
    refine xk_Po.br rfl rfl (fun hx => absurd ((xn_le (a := (d + 1) * 32) (b := d * 32 + j0) (by omega) (by omega)).1 (by rw [show (Int32.ofNat d + Int32.ofInt 1) * Int32.ofInt 32 = Int32.ofNat ((d + 1) * 32) from by rw [xn_suc]; exact xn_mul (d + 1) 32] at hx; exact hx)) (by omega)) (fun _ => ?_)
    refine xk_Po.go 4 rfl ?_
    refine xk_Po.ok rfl rfl (xn_ix (by omega) (by omega)) ?_ -- .iastore
    refine xk_Po.go 2 rfl ?_
    rw [show s_clr ex (fun _ => True) (d * 32) (j0 + 1) = upd (s_clr ex (fun _ => True) (d * 32) j0) (Int32.ofNat (d * 32 + j0)).toNatClampNeg (Int32.ofInt 0) from by rw [xn_nat (by omega)]; rfl, ← show Int32.ofNat (d * 32 + j0) + Int32.ofInt 1 = Int32.ofNat (d * 32 + (j0 + 1)) from xn_suc (d * 32 + j0)] at ih0
    exact ih0
  · refine xk_Po.go 6 rfl ?_
    refine xk_Po.br rfl rfl (fun _ => ?_) (fun hx => absurd (by rw [show (Int32.ofNat d + Int32.ofInt 1) * Int32.ofInt 32 = Int32.ofNat ((d + 1) * 32) from by rw [xn_suc]; exact xn_mul (d + 1) 32]; exact (xn_le (by omega) (by omega)).2 (by omega)) hx)
    exact xk_Po.ret rfl rfl
theorem d_forget {v : Nat} (hv : v < 4) : xk_Ev (xp_P sc) 32 0 [.ref 7, .int (Int32.ofNat v)] [] (cw sl ex ab ta dr md ml mt mc on ct r) (.inl none, 0, cw sl ex ab ta (s_clr (upd dr (5 + v) 0) (fun _ => True) (9 + (v * 10 + 0 * 2 + 0)) (10 - 0 * 2)) md ml mt mc on ct r) := by
  apply xk_Ev.of
  refine xk_Po.go 6 rfl ?_
  refine xk_Po.ok rfl rfl (xn_ixa (a := 5) (j := v) (by omega) (by omega)) ?_ -- .iastore
  rw [show (Int32.ofInt 5 + Int32.ofNat v).toNatClampNeg = 5 + v from xn_nata (a := 5) (by omega)]
  refine xk_Po.go 3 rfl ?_
  refine xk_Po.cv3 rfl rfl (d_loseElements (f := 0) hv (by omega)) ?_
  exact xk_Po.ret rfl rfl
theorem c_alignTwins1 {s : s_S} {j i : Nat} (hj : j < 40) (hi : i < 40) (hb : ∀ i, ab i = 0 ∨ ab i = 1) (ok : ∀ j, j < 40 → ¬ ta (9 + j) - 1 = Int32.ofInt (-1) → ∃ d, d < 4 ∧ s_disk (ta (9 + j) - 1) = Int32.ofNat d) (h : ¬ (s_rd ta ab j ∧ s_rd ta ab i)) : xk_Ev (xp_P sc) 106 0 [.ref 0, .int (Int32.ofNat j), .int (Int32.ofNat i)] [] (cs (s) ab ta dr md ml mt mc on r) (s_out (m_no s) (fun s => cs (s) ab ta dr md ml mt mc on r) (fun s => cl (s) ab ta dr mc r)) := by
  apply xk_Ev.of
  refine xk_Po.go 2 rfl ?_
  refine xk_Po.ci2 rfl rfl (c_isReadable hj hb ok) ?_
  refine xk_Po.br rfl rfl (fun h0 => ?_) (fun h0 => ?_) -- 3 .ifCond .eq 18
  · exact xk_Po.ret rfl (s_good (W := fun s => cs (s) ab ta dr md ml mt mc on r) (V := fun s => cl (s) ab ta dr mc r) (s := s) (rfl))
  · refine xk_Po.go 2 rfl ?_
    refine xk_Po.ci2 rfl rfl (c_isReadable hi hb ok) ?_
    refine xk_Po.br rfl rfl (fun h1 => ?_) (fun h1 => ?_) -- 7 .ifCond .eq 18
    · exact xk_Po.ret rfl (s_good (W := fun s => cs (s) ab ta dr md ml mt mc on r) (V := fun s => cl (s) ab ta dr mc r) (s := s) (rfl))
    · exact absurd ⟨xn_b1 h0, xn_b1 h1⟩ h
theorem c_alignTwins2 {s : s_S} {j i x y : Nat} (hj : j < 40) (hi : i < 40) (hb : ∀ i, ab i = 0 ∨ ab i = 1) (ok : ∀ j, j < 40 → ¬ ta (9 + j) - 1 = Int32.ofInt (-1) → ∃ d, d < 4 ∧ s_disk (ta (9 + j) - 1) = Int32.ofNat d) (h : s_rd ta ab j ∧ s_rd ta ab i) (hx : x < 32) (hy : y < 32) (hwx : ta (9 + j) - 1 = Int32.ofNat x) (hwy : ta (9 + i) - 1 = Int32.ofNat y) : xk_Ev (xp_P sc) 106 0 [.ref 0, .int (Int32.ofNat j), .int (Int32.ofNat i)] [] (cs (s) ab ta dr md ml mt mc on r) (s_out (m_for (fun k => m_cp (y * 4 + k) (x * 4 + k)) 4 0 s) (fun s => cs (s) ab ta dr md ml mt mc on r) (fun s => cl (s) ab ta dr mc r)) := by
  apply xk_Ev.of
  refine xk_Po.go 2 rfl ?_
  refine xk_Po.ci2 rfl rfl (c_isReadable hj hb ok) ?_
  refine xk_Po.br rfl rfl (fun h0 => ?_) (fun h0 => ?_) -- 3 .ifCond .eq 18
  · exact xk_Po.ret rfl (absurd h.1 (xn_b0 h0))
  · refine xk_Po.go 2 rfl ?_
    refine xk_Po.ci2 rfl rfl (c_isReadable hi hb ok) ?_
    refine xk_Po.br rfl rfl (fun h1 => ?_) (fun h1 => ?_) -- 7 .ifCond .eq 18
    · exact xk_Po.ret rfl (absurd h.2 (xn_b0 h1))
    · refine xk_Po.go 4 rfl ?_
      refine xk_Po.ci2 rfl rfl (by have h := c_spotOfN (sc := sc) (sl := (s).1) (ex := (s).2.1) (ab := ab) (ta := ta) (dr := dr) (md := md) (ml := ml) (mt := mt) (mc := mc) (on := on) (ct := (s).2.2) (r := r) hj; rw [hwx] at h; exact h) ?_
      refine xk_Po.go 3 rfl ?_
      refine xk_Po.ci2 rfl rfl (by have h := c_spotOfN (sc := sc) (sl := (s).1) (ex := (s).2.1) (ab := ab) (ta := ta) (dr := dr) (md := md) (ml := ml) (mt := mt) (mc := mc) (on := on) (ct := (s).2.2) (r := r) hi; rw [hwy] at h; exact h) ?_
      refine xk_Po.cm3 rfl rfl (c_copyExtent hx hy) rfl (fun q0 => s_bad (W := fun s => cs (s) ab ta dr md ml mt mc on r) (V := fun s => cl (s) ab ta dr mc r) (u := m_for (fun k => m_cp (y * 4 + k) (x * 4 + k)) 4 0 s) (rfl) q0) (fun q0 => ?_)
      exact xk_Po.ret rfl (s_good (W := fun s => cs (s) ab ta dr md ml mt mc on r) (V := fun s => cl (s) ab ta dr mc r) (s := (m_for (fun k => m_cp (y * 4 + k) (x * 4 + k)) 4 0 s).2) (m_true q0))
end XkCom
