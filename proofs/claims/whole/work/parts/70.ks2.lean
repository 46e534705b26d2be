section XkKs2
variable {sc : Nat × (Nat → Int32)} {sl ex ab ta dr : Nat → Int32} {md ml mt mc on ct : Int32} {r w : xk_W}
theorem k_leg {f : Nat → Nat} {d : Nat} (T : s_Tv ta f) (hd : d < 4) : xk_Ev (xp_P sc) 37 0 [.ref 5, .int (Int32.ofNat d), .retAddr 0, .retAddr 0] [] (cw sl ex ab ta dr md ml mt mc on ct r) (.inl (some (.int (Int32.ofNat (n_cnt (n_on f d) 40)))), 0, cw sl ex ab ta dr md ml mt mc on ct r) := by
  have h := c_legsOn (sc := sc) (sl := sl) (ex := ex) (ab := ab) (ta := ta) (dr := dr) (md := md) (ml := ml) (mt := mt) (mc := mc) (on := on) (ct := ct) (r := r) (d := Int32.ofNat d)
  rw [s_cnt_on T hd] at h
  exact h
theorem k_fst {f : Nat → Nat} {d : Nat} (T : s_Tv ta f) (hd : d < 4) : xk_Ev (xp_P sc) 38 0 [.ref 5, .int (Int32.ofNat d), .retAddr 0] [] (cw sl ex ab ta dr md ml mt mc on ct r) (.inl (some (.int (if n_ls (n_on f d) 40 0 < 40 then Int32.ofNat (n_ls (n_on f d) 40 0) else -1))), 0, cw sl ex ab ta dr md ml mt mc on ct r) := by
  have h := c_firstLegOn (sc := sc) (sl := sl) (ex := ex) (ab := ab) (ta := ta) (dr := dr) (md := md) (ml := ml) (mt := mt) (mc := mc) (on := on) (ct := ct) (r := r) (d := Int32.ofNat d)
  rw [s_least_eq (q := n_on f d) 40 0 (fun j _ hj => by
    rw [T.w (9 + j) (by omega) (by omega)]
    exact s_disk_on _ (by have := T.l j (by omega); omega) d hd)] at h
  exact h
theorem k_st_A {f : Nat → Nat} {j x k d : Nat} {s : s_S} (T : s_Tv ta f) (hj : j < 40) (hx : x < 32) (hk : k < 4) (h0 : f (9 + j) ≠ 0) (hd4 : d < 4) (h4 : k + 1 < 4) (ho : ¬ (m_cp (x * 4 + k) ((f (9 + j) - 1) * 4 + k) s).1 = true) {y1 y2 : Value} : xk_Po (xp_P sc) 51 47 [.ref 0, y1, y2] [] (cs (s) (ab) (ta) (dr) (Int32.ofNat d) (Int32.ofNat j) (Int32.ofNat x) (Int32.ofNat k) (1) r) (fun z => z = (.inr 0, 1, cl ((m_cp (x * 4 + k) ((f (9 + j) - 1) * 4 + k) s).2) ab ta (dr) (Int32.ofNat k) r)) := by
  have cn := k_cn1 (sc := sc) (ab := ab) (dr := dr) (md := Int32.ofNat d) (on := 1) (r := r) (s := s) T hj hx hk h0 h4
  unfold s_out at cn
  rw [if_neg ho] at cn
  refine xk_Po.go 1 rfl ?_
  exact xk_Po.ct1 rfl rfl (cn) rfl rfl
theorem k_st_B0 {f : Nat → Nat} {j x k d : Nat} {s : s_S} (T : s_Tv ta f) (hj : j < 40) (hx : x < 32) (hk : k < 4) (h0 : f (9 + j) ≠ 0) (hd4 : d < 4) (h4 : k + 1 < 4) (hz : ¬ n_cnt (n_on f d) 40 = 0) (ho : (m_cp (x * 4 + k) ((f (9 + j) - 1) * 4 + k) s).1 = true) {y1 y2 : Value} : xk_Po (xp_P sc) 51 47 [.ref 0, y1, y2] [] (cs (s) (ab) (ta) (dr) (Int32.ofNat d) (Int32.ofNat j) (Int32.ofNat x) (Int32.ofNat k) (1) r) (fun z => z = (.inl (some (.int (Int32.ofNat (n_cnt (n_on f d) 40)))), 0, cs ((m_cp (x * 4 + k) ((f (9 + j) - 1) * 4 + k) s).2) (ab) (ta) (dr) (Int32.ofNat d) (Int32.ofNat j) (Int32.ofNat x) (Int32.ofNat (k + 1)) (1) r)) := by
  have cn := k_cn1 (sc := sc) (ab := ab) (dr := dr) (md := Int32.ofNat d) (on := 1) (r := r) (s := s) T hj hx hk h0 h4
  unfold s_out at cn
  rw [if_pos ho] at cn
  refine xk_Po.go 1 rfl ?_
  refine xk_Po.cv1 rfl rfl (cn) ?_
  refine xk_Po.go 5 rfl ?_
  refine xk_Po.ci2 rfl rfl (k_leg T hd4) ?_
  refine xk_Po.go 2 rfl ?_
  refine xk_Po.br rfl rfl (fun hZ => absurd hZ (fun q => hz ((xn_inj (b := 0) (by have := n_cnt_le (n_on f d) 40; omega) (by omega)).1 q))) (fun _ => ?_) -- 57 .ifCond .ne 61
  refine xk_Po.go 1 rfl ?_
  exact xk_Po.iret rfl (rfl)
theorem k_st_B1 {f : Nat → Nat} {j x k d : Nat} {s : s_S} (T : s_Tv ta f) (hj : j < 40) (hx : x < 32) (hk : k < 4) (h0 : f (9 + j) ≠ 0) (hd4 : d < 4) (h4 : k + 1 < 4) (hz : n_cnt (n_on f d) 40 = 0) (ho : (m_cp (x * 4 + k) ((f (9 + j) - 1) * 4 + k) s).1 = true) {y1 y2 : Value} : xk_Po (xp_P sc) 51 47 [.ref 0, y1, y2] [] (cs (s) (ab) (ta) (dr) (Int32.ofNat d) (Int32.ofNat j) (Int32.ofNat x) (Int32.ofNat k) (1) r) (fun z => z = (.inl (some (.int (Int32.ofNat (n_cnt (n_on f d) 40)))), 0, cs ((m_cp (x * 4 + k) ((f (9 + j) - 1) * 4 + k) s).2) (ab) (ta) (dr) (-1) (-1) (-1) (Int32.ofNat (k + 1)) (1) r)) := by
  have cn := k_cn1 (sc := sc) (ab := ab) (dr := dr) (md := Int32.ofNat d) (on := 1) (r := r) (s := s) T hj hx hk h0 h4
  unfold s_out at cn
  rw [if_pos ho] at cn
  refine xk_Po.go 1 rfl ?_
  refine xk_Po.cv1 rfl rfl (cn) ?_
  refine xk_Po.go 5 rfl ?_
  refine xk_Po.ci2 rfl rfl (k_leg T hd4) ?_
  refine xk_Po.go 2 rfl ?_
  refine xk_Po.br rfl rfl (fun _ => ?_) (fun hZ => absurd (by rw [hz]; rfl) hZ) -- 57 .ifCond .ne 61
  refine xk_Po.go 2 rfl ?_
  refine xk_Po.cv1 rfl rfl (c_end) ?_
  refine xk_Po.go 1 rfl ?_
  exact xk_Po.iret rfl (rfl)
theorem k_st_C1 {f : Nat → Nat} {j x k d : Nat} {s : s_S} (T : s_Tv ta f) (hj : j < 40) (hx : x < 32) (hk : k < 4) (h0 : f (9 + j) ≠ 0) (hd4 : d < 4) (hb : ∀ i, ab i = 0 ∨ ab i = 1) (hq : s_any (fun j => ¬ ta (1 + j) = 0 ∧ ¬ ab j = 0) 4 0 = 0) (hd : ∀ i, 51 ≤ i → dr i = 0) (h4 : k + 1 = 4) (TD : s_Tv (s_seal (upd ta (9 + j) (Int32.ofNat (x + 1))) (ta 0 + 1)) (n_up f (9 + j) (x + 1))) (hz : ¬ n_cnt (n_on (n_up f (9 + j) (x + 1)) d) 40 = 0) (ho : (m_seq (m_cp (x * 4 + k) ((f (9 + j) - 1) * 4 + k)) (m_com (s_seal (upd ta (9 + j) (Int32.ofNat (x + 1))) (ta 0 + 1)) ab) s).1 = true) {y1 y2 : Value} : xk_Po (xp_P sc) 51 47 [.ref 0, y1, y2] [] (cs (s) (ab) (ta) (dr) (Int32.ofNat d) (Int32.ofNat j) (Int32.ofNat x) (Int32.ofNat k) (1) r) (fun z => z = (.inl (some (.int (Int32.ofNat (n_cnt (n_on (n_up f (9 + j) (x + 1)) d) 40)))), 0, cs ((m_seq (m_cp (x * 4 + k) ((f (9 + j) - 1) * 4 + k)) (m_com (s_seal (upd ta (9 + j) (Int32.ofNat (x + 1))) (ta 0 + 1)) ab) s).2) (ab) (s_seal (upd ta (9 + j) (Int32.ofNat (x + 1))) (ta 0 + 1)) (s_seal (upd ta (9 + j) (Int32.ofNat (x + 1))) (ta 0 + 1)) (Int32.ofNat d) (-1) (-1) (Int32.ofNat (k + 1)) (1) r)) := by
  have cn := k_cn4_1 (sc := sc) (ab := ab) (dr := dr) (md := Int32.ofNat d) (on := 1) (r := r) (s := s) T hj hx hk h0 hb hq hd h4 ho
  refine xk_Po.go 1 rfl ?_
  refine xk_Po.cv1 rfl rfl (cn) ?_
  refine xk_Po.go 5 rfl ?_
  refine xk_Po.ci2 rfl rfl (k_leg TD hd4) ?_
  refine xk_Po.go 2 rfl ?_
  refine xk_Po.br rfl rfl (fun hZ => absurd hZ (fun q => hz ((xn_inj (b := 0) (by have := n_cnt_le (n_on (n_up f (9 + j) (x + 1)) d) 40; omega) (by omega)).1 q))) (fun _ => ?_) -- 57 .ifCond .ne 61
  refine xk_Po.go 1 rfl ?_
  exact xk_Po.iret rfl (rfl)
theorem k_st_C2 {f : Nat → Nat} {j x k d : Nat} {s : s_S} (T : s_Tv ta f) (hj : j < 40) (hx : x < 32) (hk : k < 4) (h0 : f (9 + j) ≠ 0) (hd4 : d < 4) (hb : ∀ i, ab i = 0 ∨ ab i = 1) (hq : s_any (fun j => ¬ ta (1 + j) = 0 ∧ ¬ ab j = 0) 4 0 = 0) (hd : ∀ i, 51 ≤ i → dr i = 0) (h4 : k + 1 = 4) (TD : s_Tv (s_seal (upd ta (9 + j) (Int32.ofNat (x + 1))) (ta 0 + 1)) (n_up f (9 + j) (x + 1))) (hz : n_cnt (n_on (n_up f (9 + j) (x + 1)) d) 40 = 0) (ho : (m_seq (m_cp (x * 4 + k) ((f (9 + j) - 1) * 4 + k)) (m_com (s_seal (upd ta (9 + j) (Int32.ofNat (x + 1))) (ta 0 + 1)) ab) s).1 = true) {y1 y2 : Value} : xk_Po (xp_P sc) 51 47 [.ref 0, y1, y2] [] (cs (s) (ab) (ta) (dr) (Int32.ofNat d) (Int32.ofNat j) (Int32.ofNat x) (Int32.ofNat k) (1) r) (fun z => z = (.inl (some (.int (Int32.ofNat (n_cnt (n_on (n_up f (9 + j) (x + 1)) d) 40)))), 0, cs ((m_seq (m_cp (x * 4 + k) ((f (9 + j) - 1) * 4 + k)) (m_com (s_seal (upd ta (9 + j) (Int32.ofNat (x + 1))) (ta 0 + 1)) ab) s).2) (ab) (s_seal (upd ta (9 + j) (Int32.ofNat (x + 1))) (ta 0 + 1)) (s_seal (upd ta (9 + j) (Int32.ofNat (x + 1))) (ta 0 + 1)) (-1) (-1) (-1) (Int32.ofNat (k + 1)) (1) r)) := by
  have cn := k_cn4_1 (sc := sc) (ab := ab) (dr := dr) (md := Int32.ofNat d) (on := 1) (r := r) (s := s) T hj hx hk h0 hb hq hd h4 ho
  refine xk_Po.go 1 rfl ?_
  refine xk_Po.cv1 rfl rfl (cn) ?_
  refine xk_Po.go 5 rfl ?_
  refine xk_Po.ci2 rfl rfl (k_leg TD hd4) ?_
  refine xk_Po.go 2 rfl ?_
  refine xk_Po.br rfl rfl (fun _ => ?_) (fun hZ => absurd (by rw [hz]; rfl) hZ) -- 57 .ifCond .ne 61
  refine xk_Po.go 2 rfl ?_
  refine xk_Po.cv1 rfl rfl (c_end) ?_
  refine xk_Po.go 1 rfl ?_
  exact xk_Po.iret rfl (rfl)
theorem k_st_C0 {f : Nat → Nat} {j x k d : Nat} {s : s_S} (T : s_Tv ta f) (hj : j < 40) (hx : x < 32) (hk : k < 4) (h0 : f (9 + j) ≠ 0) (hd4 : d < 4) (hb : ∀ i, ab i = 0 ∨ ab i = 1) (hq : s_any (fun j => ¬ ta (1 + j) = 0 ∧ ¬ ab j = 0) 4 0 = 0) (hd : ∀ i, 51 ≤ i → dr i = 0) (h4 : k + 1 = 4) (ho : ¬ (m_seq (m_cp (x * 4 + k) ((f (9 + j) - 1) * 4 + k)) (m_com (s_seal (upd ta (9 + j) (Int32.ofNat (x + 1))) (ta 0 + 1)) ab) s).1 = true) {y1 y2 : Value} : ∃ d2 c2, (∀ i, 51 ≤ i → d2 i = 0) ∧ xk_Po (xp_P sc) 51 47 [.ref 0, y1, y2] [] (cs (s) (ab) (ta) (dr) (Int32.ofNat d) (Int32.ofNat j) (Int32.ofNat x) (Int32.ofNat k) (1) r) (fun z => z = (.inr 0, 1, cl ((m_seq (m_cp (x * 4 + k) ((f (9 + j) - 1) * 4 + k)) (m_com (s_seal (upd ta (9 + j) (Int32.ofNat (x + 1))) (ta 0 + 1)) ab) s).2) ab ta (d2) (c2) r)) := by
  obtain ⟨d2, c2, z2, cn⟩ := k_cn4_0 (sc := sc) (ab := ab) (dr := dr) (md := Int32.ofNat d) (on := 1) (r := r) (s := s) T hj hx hk h0 hb hq hd h4 ho
  refine ⟨d2, c2, z2, ?_⟩
  refine xk_Po.go 1 rfl ?_
  exact xk_Po.ct1 rfl rfl (cn) rfl rfl
theorem k_step_go {f : Nat → Nat} {d : Nat} {s : s_S} (T : s_Tv ta f) (hd4 : d < 4) {j x : Nat} (hj : j < 40) {c : Int32} {Φ : xk_R → Prop} (h : ∀ y1 y2, xk_Po (xp_P sc) 51 47 [.ref 0, y1, y2] [] (cs (s) (ab) (ta) (dr) (Int32.ofNat d) (Int32.ofNat j) (Int32.ofNat x) (c) (1) r) Φ) : xk_Po (xp_P sc) 51 0 [.ref 0, .retAddr 0, .retAddr 0] [] (cs (s) (ab) (ta) (dr) (Int32.ofNat d) (Int32.ofNat j) (Int32.ofNat x) (c) (1) r) Φ := by
  refine xk_Po.go 1 rfl ?_
  refine xk_Po.cv1 rfl rfl (c_requirePower (show ¬ (1 : Int32) = 0 by decide)) ?_
  refine xk_Po.go 4 rfl ?_
  refine xk_Po.br rfl rfl (fun hZ => absurd hZ (n_ne1 (by omega))) (fun _ => ?_) -- 6 .if_icmp .ne 8
  refine xk_Po.go 4 rfl ?_
  refine xk_Po.br rfl rfl (fun hZ => absurd hZ (n_ne1 (by omega))) (fun _ => ?_) -- 12 .if_icmp .ne 47
  exact h _ _
theorem k_step_0 {f : Nat → Nat} {d : Nat} {s : s_S} (T : s_Tv ta f) (hd4 : d < 4) (h : n_ls (n_on f d) 40 0 = 40) : xk_Ev (xp_P sc) 51 0 [.ref 0, .retAddr 0, .retAddr 0] [] (cs (s) (ab) (ta) (dr) (Int32.ofNat d) (n_ml 40) (n_mt 32) (mc) (1) r) (.inl (some (.int 0)), 0, cs (s) (ab) (ta) (dr) (-1) (-1) (-1) (mc) (1) r) := by
  apply xk_Ev.of
  refine xk_Po.go 1 rfl ?_
  refine xk_Po.cv1 rfl rfl (c_requirePower (show ¬ (1 : Int32) = 0 by decide)) ?_
  refine xk_Po.go 4 rfl ?_
  refine xk_Po.br rfl rfl (fun hZ => absurd hZ (n_ne1 (by omega))) (fun _ => ?_) -- 6 .if_icmp .ne 8
  refine xk_Po.go 10 rfl ?_
  refine xk_Po.ci2 rfl rfl (by have h := k_fst (sc := sc) (sl := s.1) (ex := s.2.1) (ab := ab) (dr := dr) (md := Int32.ofNat d) (ml := n_ml 40) (mt := n_mt 32) (mc := mc) (on := 1) (ct := s.2.2) (r := r) T hd4; rw [if_neg (by omega)] at h; exact h) ?_
  refine xk_Po.go 12 rfl ?_
  refine xk_Po.cv1 rfl rfl (c_end) ?_
  refine xk_Po.go 5 rfl ?_
  exact xk_Po.iret rfl (rfl)
theorem k_step_1 {f : Nat → Nat} {d : Nat} {s : s_S} (T : s_Tv ta f) (hd4 : d < 4) {j : Nat} (hj : j < 40) (hls : n_ls (n_on f d) 40 0 = j) (h5 : f (5 + j / 10) ≠ 0) (hfj : f (9 + j) ≠ 0) (hb : ∀ i, ab i = 0 ∨ ab i = 1) (hd : ∀ i, 51 ≤ i → dr i = 0) (h : ¬ n_R f ab 40 32 (j / 10) (j % 10) d < 32) : xk_Ev (xp_P sc) 51 0 [.ref 0, .retAddr 0, .retAddr 0] [] (cs (s) (ab) (ta) (dr) (Int32.ofNat d) (n_ml 40) (n_mt 32) (mc) (1) r) (.inl (some (.int (-1))), 0, cs (s) (ab) (ta) (ta) (-1) (-1) (-1) (mc) (1) r) := by
  have hg := T.g (j / 10) (j % 10) (by omega) (by omega) (by rw [show j / 10 * 10 + j % 10 = j by omega]; exact hfj)
  obtain ⟨c0, c1, c2, c3, c4, c5⟩ := s_dv_col _ (T.v (j / 10) (by omega)) h5
  have cu := c5 (j % 10 / 2) hg.1
  have hR := s_room_R (ab := ab) (m := 40) (x := 32) (e := j % 10 / 2) (l := j % 2) (nt := d) T (fun q => absurd q (by omega)) (by omega) h5 hg.1 (by omega) (by omega) (fun q => absurd q (by omega)) (n_bs_not hd4)
  rw [show 2 * (j % 10 / 2) + j % 2 = j % 10 by omega] at hR
  have rm := c_findRoomToMove (sc := sc) (sl := s.1) (ex := s.2.1) (ab := ab) (ta := ta) (dr := dr) (md := Int32.ofNat d) (ml := n_ml 40) (mt := n_mt 32) (mc := mc) (on := 1) (ct := s.2.2) (r := r) hj c1 c2 (by omega) (by rw [T.w (5 + j / 10) (by omega) (by omega)]; exact c0) hb (fun d hd => ⟨_, T.e d hd, T.w (1 + d) (by omega) (by omega)⟩) T.z hd
  rw [hR] at rm
  rw [show n_mt (n_R f ab 40 32 (j / 10) (j % 10) d) = -1 from if_neg h] at rm
  apply xk_Ev.of
  refine xk_Po.go 1 rfl ?_
  refine xk_Po.cv1 rfl rfl (c_requirePower (show ¬ (1 : Int32) = 0 by decide)) ?_
  refine xk_Po.go 4 rfl ?_
  refine xk_Po.br rfl rfl (fun hZ => absurd hZ (n_ne1 (by omega))) (fun _ => ?_) -- 6 .if_icmp .ne 8
  refine xk_Po.go 10 rfl ?_
  refine xk_Po.ci2 rfl rfl (by have h := k_fst (sc := sc) (sl := s.1) (ex := s.2.1) (ab := ab) (dr := dr) (md := Int32.ofNat d) (ml := n_ml 40) (mt := n_mt 32) (mc := mc) (on := 1) (ct := s.2.2) (r := r) T hd4; rw [hls, if_pos hj] at h; exact h) ?_
  refine xk_Po.go 3 rfl ?_
  refine xk_Po.br rfl rfl (fun hZ => absurd hZ (n_ne1 (by omega))) (fun _ => ?_) -- 22 .if_icmp .ne 25
  refine xk_Po.go 2 rfl ?_
  refine xk_Po.ci2 rfl rfl (rm) ?_
  refine xk_Po.go 6 rfl ?_
  refine xk_Po.cv1 rfl rfl (c_end) ?_
  refine xk_Po.go 2 rfl ?_
  refine xk_Po.br rfl rfl (fun hZ => absurd hZ (n_ne1 (by omega))) (fun _ => ?_) -- 37 .if_icmp .ne 40
  refine xk_Po.go 1 rfl ?_
  exact xk_Po.iret rfl (rfl)
theorem k_step_2 {f : Nat → Nat} {d : Nat} {s : s_S} (T : s_Tv ta f) (hd4 : d < 4) {j : Nat} (hj : j < 40) (hls : n_ls (n_on f d) 40 0 = j) (h5 : f (5 + j / 10) ≠ 0) (hfj : f (9 + j) ≠ 0) (hb : ∀ i, ab i = 0 ∨ ab i = 1) (hd : ∀ i, 51 ≤ i → dr i = 0) {x : Nat} (hRx : n_R f ab 40 32 (j / 10) (j % 10) d = x) (hx : x < 32) {Φ : xk_R → Prop} (h : ∀ y1 y2, xk_Po (xp_P sc) 51 47 [.ref 0, y1, y2] [] (cs (s) (ab) (ta) (ta) (Int32.ofNat d) (Int32.ofNat j) (Int32.ofNat x) (0) (1) r) Φ) : xk_Po (xp_P sc) 51 0 [.ref 0, .retAddr 0, .retAddr 0] [] (cs (s) (ab) (ta) (dr) (Int32.ofNat d) (n_ml 40) (n_mt 32) (mc) (1) r) Φ := by
  have hg := T.g (j / 10) (j % 10) (by omega) (by omega) (by rw [show j / 10 * 10 + j % 10 = j by omega]; exact hfj)
  obtain ⟨c0, c1, c2, c3, c4, c5⟩ := s_dv_col _ (T.v (j / 10) (by omega)) h5
  have cu := c5 (j % 10 / 2) hg.1
  have hR := s_room_R (ab := ab) (m := 40) (x := 32) (e := j % 10 / 2) (l := j % 2) (nt := d) T (fun q => absurd q (by omega)) (by omega) h5 hg.1 (by omega) (by omega) (fun q => absurd q (by omega)) (n_bs_not hd4)
  rw [show 2 * (j % 10 / 2) + j % 2 = j % 10 by omega] at hR
  have rm := c_findRoomToMove (sc := sc) (sl := s.1) (ex := s.2.1) (ab := ab) (ta := ta) (dr := dr) (md := Int32.ofNat d) (ml := n_ml 40) (mt := n_mt 32) (mc := mc) (on := 1) (ct := s.2.2) (r := r) hj c1 c2 (by omega) (by rw [T.w (5 + j / 10) (by omega) (by omega)]; exact c0) hb (fun d hd => ⟨_, T.e d hd, T.w (1 + d) (by omega) (by omega)⟩) T.z hd
  rw [hR] at rm
  rw [hRx, show n_mt x = Int32.ofNat x from if_pos hx] at rm
  refine xk_Po.go 1 rfl ?_
  refine xk_Po.cv1 rfl rfl (c_requirePower (show ¬ (1 : Int32) = 0 by decide)) ?_
  refine xk_Po.go 4 rfl ?_
  refine xk_Po.br rfl rfl (fun hZ => absurd hZ (n_ne1 (by omega))) (fun _ => ?_) -- 6 .if_icmp .ne 8
  refine xk_Po.go 10 rfl ?_
  refine xk_Po.ci2 rfl rfl (by have h := k_fst (sc := sc) (sl := s.1) (ex := s.2.1) (ab := ab) (dr := dr) (md := Int32.ofNat d) (ml := n_ml 40) (mt := n_mt 32) (mc := mc) (on := 1) (ct := s.2.2) (r := r) T hd4; rw [hls, if_pos hj] at h; exact h) ?_
  refine xk_Po.go 3 rfl ?_
  refine xk_Po.br rfl rfl (fun hZ => absurd hZ (n_ne1 (by omega))) (fun _ => ?_) -- 22 .if_icmp .ne 25
  refine xk_Po.go 2 rfl ?_
  refine xk_Po.ci2 rfl rfl (rm) ?_
  refine xk_Po.go 3 rfl ?_
  refine xk_Po.br rfl rfl (fun hZ => absurd hZ (n_ne1 (by omega))) (fun _ => ?_) -- 31 .if_icmp .ne 42
  refine xk_Po.go 4 rfl ?_
  refine xk_Po.cv3 rfl rfl (c_beginCopy) ?_
  exact h _ _
end XkKs2
