section XkKme
variable {sc : Nat × (Nat → Int32)} {sl ex ab ta dr : Nat → Int32} {md ml mt mc on ct : Int32} {r w : xk_W}
theorem k_lost {f : Nat → Nat} {v e : Nat} (T : s_Tv ta f) (hv : v < 4) (he : e < 5) : xk_Ev (xp_P sc) 100 0 [.ref 0, .int (Int32.ofNat v), .int (Int32.ofNat e), .retAddr 0, .retAddr 0] [] (cw sl ex ab ta dr md ml mt mc on ct r) (.inl (some (.int (if f (9 + (v * 10 + 2 * e)) = 0 then (if f (9 + (v * 10 + (2 * e + 1))) = 0 then -1 else 0) else (if f (9 + (v * 10 + (2 * e + 1))) = 0 then 1 else -1)))), 0, cw sl ex ab ta dr md ml mt mc on ct r) := by
  have key : ∀ j, j < 40 → (ta (9 + j) - 1 = Int32.ofInt (-1) ↔ f (9 + j) = 0) := by
    intro j hj
    have hl := T.l j hj
    rw [T.w (9 + j) (by omega) (by omega)]
    generalize f (9 + j) = y at *
    have : ∀ y, y < 33 → (Int32.ofNat y - 1 = Int32.ofInt (-1) ↔ y = 0) := by decide
    exact this y (by omega)
  have h := c_lostLeg (sc := sc) (sl := sl) (ex := ex) (ab := ab) (ta := ta) (dr := dr) (md := md) (ml := ml) (mt := mt) (mc := mc) (on := on) (ct := ct) (r := r) hv he
  have k0 := key (v * 10 + e * 2 + 0) (by omega)
  have k1 := key (v * 10 + e * 2 + 1) (by omega)
  simp only [k0, k1] at h
  rw [show v * 10 + e * 2 + 0 = v * 10 + 2 * e by omega, show v * 10 + e * 2 + 1 = v * 10 + (2 * e + 1) by omega] at h
  exact h
theorem k_frl {f : Nat → Nat} {m x v : Nat} (T : s_Tv ta f) (hb : ∀ i, ab i = 0 ∨ ab i = 1) (hx : n_tg f x) (hm : m < 40 → f (9 + m) ≠ 0) (hv : v < 4) (h3 : f (5 + v) % 4 = 3) : xk_Po (xp_P sc) 99 0 [.ref 0, .int (Int32.ofNat v), .retAddr 0, .retAddr 0, .retAddr 0] [] (cw sl ex ab ta (s_mk ta f) md (n_ml m) (n_mt x) mc on ct r) (fun z => (∀ g c2, (n_mnd ab m x v f (2 * (f (5 + v) / 32)) 0 f 0) = some (g, c2) → z = (.inl (some (.int (Int32.ofNat c2))), 0, cw sl ex ab ta (s_mk ta g) md (n_ml m) (n_mt x) mc on ct r)) ∧ ((n_mnd ab m x v f (2 * (f (5 + v) / 32)) 0 f 0) = none → ∃ d2, (∀ i, 51 ≤ i → d2 i = 0) ∧ z = (.inr 2, 1, cw sl ex ab ta (d2) md (n_ml m) (n_mt x) mc on ct r))) := by
  have h5 : f (5 + v) ≠ 0 := by omega
  have e32 := s_dv_32 _ (T.v v hv)
  refine xk_Po.go 4 rfl ?_
  have key : ∀ n e (q : Nat → Nat) c (y : Value), e + n = f (5 + v) / 32 → (∀ i, i < 9 → q i = f i) → n_Tv q → n_tg q x → (m < 40 → q (9 + m) ≠ 0) → (∀ i, 2 * e ≤ i → i < 10 → q (9 + (v * 10 + i)) = f (9 + (v * 10 + i))) → n_mnd ab m x v f (2 * n) (2 * e) q c = (n_mnd ab m x v f (2 * (f (5 + v) / 32)) 0 f 0) → xk_Po (xp_P sc) 99 4 [.ref 0, .int (Int32.ofNat v), .int (Int32.ofNat c), .int (Int32.ofNat e), y] [] (cw sl ex ab ta (s_mk ta q) md (n_ml m) (n_mt x) mc on ct r) (fun z => (∀ g c2, (n_mnd ab m x v f (2 * (f (5 + v) / 32)) 0 f 0) = some (g, c2) → z = (.inl (some (.int (Int32.ofNat c2))), 0, cw sl ex ab ta (s_mk ta g) md (n_ml m) (n_mt x) mc on ct r)) ∧ ((n_mnd ab m x v f (2 * (f (5 + v) / 32)) 0 f 0) = none → ∃ d2, (∀ i, 51 ≤ i → d2 i = 0) ∧ z = (.inr 2, 1, cw sl ex ab ta (d2) md (n_ml m) (n_mt x) mc on ct r))) := by
    intro n
    induction n with
    | zero =>
      intro e q c y he hq Tq hxq hmq hlq hn
      refine xk_Po.go 4 rfl ?_
      refine xk_Po.ci2 rfl rfl (k_elN T hv) ?_
      refine xk_Po.br rfl rfl (fun _ => ?_) (fun hZ => absurd ((xn_le (a := f (5 + v) / 32) (b := e) (by omega) (by omega)).2 (by omega)) hZ)
      refine xk_Po.go 1 rfl ?_
      rw [← hn]
      refine xk_Po.iret rfl ⟨fun g c2 hg => ?_, fun hg => (by cases hg)⟩
      obtain ⟨a1, a2⟩ := Prod.mk.inj (Option.some.inj hg)
      rw [← a1, ← a2]
    | succ n ih =>
      intro e q c y he hq Tq hxq hmq hlq hn
      have q5 : q (5 + v) = f (5 + v) := hq _ (by omega)
      refine xk_Po.go 4 rfl ?_
      refine xk_Po.ci2 rfl rfl (k_elN T hv) ?_
      refine xk_Po.br rfl rfl (fun hZ => absurd ((xn_le (a := f (5 + v) / 32) (b := e) (by omega) (by omega)).1 hZ) (by omega)) (fun _ => ?_)
      refine xk_Po.go 3 rfl ?_
      refine xk_Po.ci3 rfl rfl (k_lost T hv (by omega)) ?_
      have t0 : n_tw (2 * e) = 2 * e + 1 := if_pos (by omega)
      have t1 : n_tw (2 * e + 1) = 2 * e := (if_neg (by omega)).trans (by omega)
      have next : ∀ (y : Value) (q2 : Nat → Nat) c, (∀ i, i < 9 → q2 i = f i) → n_Tv q2 → n_tg q2 x → (m < 40 → q2 (9 + m) ≠ 0) → (∀ i, 2 * e + 2 ≤ i → i < 10 → q2 (9 + (v * 10 + i)) = f (9 + (v * 10 + i))) → n_mnd ab m x v f (2 * n) (2 * e + 2) q2 c = (n_mnd ab m x v f (2 * (f (5 + v) / 32)) 0 f 0) → xk_Po (xp_P sc) 99 24 [.ref 0, .int (Int32.ofNat v), .int (Int32.ofNat c), .int (Int32.ofNat e), y] [] (cw sl ex ab ta (s_mk ta q2) md (n_ml m) (n_mt x) mc on ct r) (fun z => (∀ g c2, (n_mnd ab m x v f (2 * (f (5 + v) / 32)) 0 f 0) = some (g, c2) → z = (.inl (some (.int (Int32.ofNat c2))), 0, cw sl ex ab ta (s_mk ta g) md (n_ml m) (n_mt x) mc on ct r)) ∧ ((n_mnd ab m x v f (2 * (f (5 + v) / 32)) 0 f 0) = none → ∃ d2, (∀ i, 51 ≤ i → d2 i = 0) ∧ z = (.inr 2, 1, cw sl ex ab ta (d2) md (n_ml m) (n_mt x) mc on ct r))) := by
        intro y q2 c a1 a2 a3 a4 a5 a6
        have hh := ih (e + 1) q2 c y (by omega) a1 a2 a3 a4 (fun i k1 k2 => a5 i (by omega) k2) a6
        rw [← xn_suc e] at hh
        exact xk_Po.go 2 rfl hh
      have give : ∀ (l : Nat), l < 2 → q (9 + (v * 10 + (2 * e + l))) = 0 → (n_R q ab m x v (2 * e + l) 4 < 32 → n_mnd ab m x v f (2 * n) (2 * e + 2) (n_up q (9 + (v * 10 + (2 * e + l))) (n_R q ab m x v (2 * e + l) 4 + 1)) (c + 1) = (n_mnd ab m x v f (2 * (f (5 + v) / 32)) 0 f 0)) → (¬ n_R q ab m x v (2 * e + l) 4 < 32 → (n_mnd ab m x v f (2 * (f (5 + v) / 32)) 0 f 0) = none) → xk_Po (xp_P sc) 99 18 [.ref 0, .int (Int32.ofNat v), .int (Int32.ofNat c), .int (Int32.ofNat e), .int (Int32.ofNat l)] [] (cw sl ex ab ta (s_mk ta q) md (n_ml m) (n_mt x) mc on ct r) (fun z => (∀ g c2, (n_mnd ab m x v f (2 * (f (5 + v) / 32)) 0 f 0) = some (g, c2) → z = (.inl (some (.int (Int32.ofNat c2))), 0, cw sl ex ab ta (s_mk ta g) md (n_ml m) (n_mt x) mc on ct r)) ∧ ((n_mnd ab m x v f (2 * (f (5 + v) / 32)) 0 f 0) = none → ∃ d2, (∀ i, 51 ≤ i → d2 i = 0) ∧ z = (.inr 2, 1, cw sl ex ab ta (d2) md (n_ml m) (n_mt x) mc on ct r))) := by
        intro l hl2 hz0 hs hnn
        refine xk_Po.go 4 rfl ?_
        by_cases hr : n_R q ab m x v (2 * e + l) 4 < 32
        · refine xk_Po.cv4 rfl rfl (k_give T.z Tq hb hxq hmq hv (by rw [q5]; exact h5) (by rw [q5]; omega) hl2 (.inr (by rw [q5]; exact h3)) hr) ?_
          obtain ⟨r1, r2, r3⟩ := n_R_ok Tq.e hr
          have hs := hs hr
          generalize n_R q ab m x v (2 * e + l) 4 = R at *
          have hh := next (.int (Int32.ofNat l)) (n_up q (9 + (v * 10 + (2 * e + l))) (R + 1)) (c + 1) (fun i hi => by rw [n_up_ne (by omega)]; exact hq i hi) (Tq.leg (by omega) hr r2 r1.1 (by
            rw [show (v * 10 + (2 * e + l)) / 10 = v by omega, show (v * 10 + (2 * e + l)) % 10 = 2 * e + l by omega, q5]
            exact ⟨by omega, .inr h3⟩)) (n_tg_up hxq r1.2) (fun k => by
            by_cases z : m = v * 10 + (2 * e + l)
            · rw [z, n_up_at]
              omega
            · rw [n_up_ne (by omega)]
              exact hmq k) (fun i k1 k2 => by rw [n_up_ne (by omega)]; exact hlq i (by omega) k2) hs
          rw [← xn_suc c] at hh
          exact xk_Po.go 1 rfl hh
        · exact xk_Po.ct4 rfl rfl (k_give_t T.z Tq hb hxq hmq hv (by rw [q5]; exact h5) (by rw [q5]; omega) hl2 (.inr (by rw [q5]; exact h3)) hr) rfl ⟨fun g c2 hg => (by rw [hnn hr] at hg; cases hg), fun _ => ⟨_, s_mk_z T.z, rfl⟩⟩
      have s0 : n_mnd ab m x v f (2 * (n + 1)) (2 * e) q c = if f (9 + (v * 10 + 2 * e)) = 0 ∧ f (9 + (v * 10 + n_tw (2 * e))) ≠ 0 then (if n_R q ab m x v (2 * e) 4 < 32 then n_mnd ab m x v f (2 * n + 1) (2 * e + 1) (n_up q (9 + (v * 10 + 2 * e)) (n_R q ab m x v (2 * e) 4 + 1)) (c + 1) else none) else n_mnd ab m x v f (2 * n + 1) (2 * e + 1) q c := rfl
      have s1 : ∀ q2 c2, n_mnd ab m x v f (2 * n + 1) (2 * e + 1) q2 c2 = if f (9 + (v * 10 + (2 * e + 1))) = 0 ∧ f (9 + (v * 10 + n_tw (2 * e + 1))) ≠ 0 then (if n_R q2 ab m x v (2 * e + 1) 4 < 32 then n_mnd ab m x v f (2 * n) (2 * e + 2) (n_up q2 (9 + (v * 10 + (2 * e + 1))) (n_R q2 ab m x v (2 * e + 1) 4 + 1)) (c2 + 1) else none) else n_mnd ab m x v f (2 * n) (2 * e + 2) q2 c2 := fun _ _ => rfl
      rw [t0] at s0
      rw [t1] at s1
      rw [s0] at hn
      by_cases z0 : f (9 + (v * 10 + 2 * e)) = 0
      · rw [if_pos z0]
        by_cases z1 : f (9 + (v * 10 + (2 * e + 1))) = 0
        · rw [if_pos z1]
          rw [if_neg (fun k => k.2 z1), s1, if_neg (fun k => k.2 z0)] at hn
          refine xk_Po.go 4 rfl ?_
          exact next _ q c hq Tq hxq hmq (fun i k1 k2 => hlq i (by omega) k2) hn
        · rw [if_neg z1]
          rw [if_pos ⟨z0, z1⟩] at hn
          refine xk_Po.go 4 rfl ?_
          refine give 0 (by omega) (by rw [hlq _ (by omega) (by omega)]; exact z0) (fun hr => ?_) (fun hr => ?_)
          · rw [show 2 * e + 0 = 2 * e from rfl] at hr ⊢
            rw [if_pos hr, s1, if_neg (fun k => z1 k.1)] at hn
            exact hn
          · rw [show 2 * e + 0 = 2 * e from rfl] at hr
            rw [if_neg hr] at hn
            exact hn.symm
      · rw [if_neg z0]
        by_cases z1 : f (9 + (v * 10 + (2 * e + 1))) = 0
        · rw [if_pos z1]
          rw [if_neg (fun k => z0 k.1), s1, if_pos ⟨z1, z0⟩] at hn
          refine xk_Po.go 4 rfl ?_
          refine give 1 (by omega) (by rw [hlq _ (by omega) (by omega)]; exact z1) (fun hr => ?_) (fun hr => ?_)
          · rw [if_pos hr] at hn
            exact hn
          · rw [if_neg hr] at hn
            exact hn.symm
        · rw [if_neg z1]
          rw [if_neg (fun k => z0 k.1), s1, if_neg (fun k => z1 k.1)] at hn
          refine xk_Po.go 4 rfl ?_
          exact next _ q c hq Tq hxq hmq (fun i k1 k2 => hlq i (by omega) k2) hn
  exact key (f (5 + v) / 32) 0 f 0 _ (by omega) (fun _ _ => rfl) T.n hx hm (fun _ _ _ => rfl) rfl
theorem k_ctn {f g : Nat → Nat} {m x v : Nat} {s : s_S} (T : s_Tv ta f) (Tg : n_Tv g) (hv : v < 4) (hh : ∀ k, k < 2 * (f (5 + v) / 32) → (g (9 + (v * 10 + k)) ≠ f (9 + (v * 10 + k)) ↔ (f (9 + (v * 10 + k)) = 0 ∧ f (9 + (v * 10 + n_tw k)) ≠ 0))) : xk_Ev (xp_P sc) 101 0 [.ref 0, .int (Int32.ofNat v), .retAddr 0, .retAddr 0, .retAddr 0] [] (cs (s) (ab) (ta) (s_mk ta g) (md) (n_ml m) (n_mt x) (mc) (on) r) ((s_out (m_for (m_mnd g f v) (2 * (f (5 + v) / 32)) 0 s) (fun s => cs (s) (ab) (ta) (s_mk ta g) (md) (n_ml m) (n_mt x) (mc) (on) r) (fun s => cl (s) ab ta (s_mk ta g) (mc) r))) := by
  have e32 := s_dv_32 _ (T.v v hv)
  apply xk_Ev.of
  refine xk_Po.go 2 rfl ?_
  have key : ∀ n e (u : s_S) (y1 y2 : Value), e + n = f (5 + v) / 32 → m_for (m_mnd g f v) (2 * n) (2 * e) u = (m_for (m_mnd g f v) (2 * (f (5 + v) / 32)) 0) s → xk_Po (xp_P sc) 101 2 [.ref 0, .int (Int32.ofNat v), .int (Int32.ofNat e), y1, y2] [] (cs (u) (ab) (ta) (s_mk ta g) (md) (n_ml m) (n_mt x) (mc) (on) r) (fun z => z = (s_out (m_for (m_mnd g f v) (2 * (f (5 + v) / 32)) 0 s) (fun s => cs (s) (ab) (ta) (s_mk ta g) (md) (n_ml m) (n_mt x) (mc) (on) r) (fun s => cl (s) ab ta (s_mk ta g) (mc) r))) := by
    intro n
    induction n with
    | zero =>
      intro e u y1 y2 he hm
      refine xk_Po.go 4 rfl ?_
      refine xk_Po.ci2 rfl rfl (k_elN T hv) ?_
      refine xk_Po.br rfl rfl (fun _ => ?_) (fun hZ => absurd ((xn_le (a := f (5 + v) / 32) (b := e) (by omega) (by omega)).2 (by omega)) hZ)
      rw [← hm]
      exact xk_Po.ret rfl rfl
    | succ n ih =>
      intro e u y1 y2 he hm
      have hm : m_seq (m_mnd g f v (2 * e)) (m_seq (m_mnd g f v (2 * e + 1)) (m_for (m_mnd g f v) (2 * n) (2 * e + 2))) u = (m_for (m_mnd g f v) (2 * (f (5 + v) / 32)) 0) s := hm
      have t0 : n_tw (2 * e) = 2 * e + 1 := if_pos (by omega)
      have t1 : n_tw (2 * e + 1) = 2 * e := (if_neg (by omega)).trans (by omega)
      have c0 := hh (2 * e) (by omega)
      have c1 := hh (2 * e + 1) (by omega)
      rw [t0] at c0
      rw [t1] at c1
      have lf0 := T.l (v * 10 + 2 * e) (by omega)
      have lf1 := T.l (v * 10 + (2 * e + 1)) (by omega)
      have lg0 := Tg.l (v * 10 + 2 * e) (by omega)
      have lg1 := Tg.l (v * 10 + (2 * e + 1)) (by omega)
      refine xk_Po.go 4 rfl ?_
      refine xk_Po.ci2 rfl rfl (k_elN T hv) ?_
      refine xk_Po.br rfl rfl (fun hZ => absurd ((xn_le (a := f (5 + v) / 32) (b := e) (by omega) (by omega)).1 hZ) (by omega)) (fun _ => ?_)
      refine xk_Po.go 3 rfl ?_
      refine xk_Po.ci3 rfl rfl (k_lost T hv (by omega)) ?_
      have next : ∀ (u2 : s_S) (y1 y2 : Value), m_for (m_mnd g f v) (2 * n) (2 * e + 2) u2 = (m_for (m_mnd g f v) (2 * (f (5 + v) / 32)) 0) s → xk_Po (xp_P sc) 101 36 [.ref 0, .int (Int32.ofNat v), .int (Int32.ofNat e), y1, y2] [] (cs (u2) (ab) (ta) (s_mk ta g) (md) (n_ml m) (n_mt x) (mc) (on) r) (fun z => z = (s_out (m_for (m_mnd g f v) (2 * (f (5 + v) / 32)) 0 s) (fun s => cs (s) (ab) (ta) (s_mk ta g) (md) (n_ml m) (n_mt x) (mc) (on) r) (fun s => cl (s) ab ta (s_mk ta g) (mc) r))) := by
        intro u2 y1 y2 a6
        have hq := ih (e + 1) u2 y1 y2 (by omega) a6
        rw [← xn_suc e] at hq
        exact xk_Po.go 2 rfl hq
      have same : ∀ k, k < 10 → g (9 + (v * 10 + k)) = f (9 + (v * 10 + k)) → m_mnd g f v k = m_no := fun k _ q => if_pos q
      have cp : ∀ l, l < 2 → f (9 + (v * 10 + (2 * e + (1 - l)))) ≠ 0 → g (9 + (v * 10 + (2 * e + l))) ≠ 0 → m_seq (m_for (fun w => m_cp ((g (9 + (v * 10 + (2 * e + l))) - 1) * 4 + w) ((f (9 + (v * 10 + (2 * e + (1 - l)))) - 1) * 4 + w)) 4 0) (m_for (m_mnd g f v) (2 * n) (2 * e + 2)) u = (m_for (m_mnd g f v) (2 * (f (5 + v) / 32)) 0) s → xk_Po (xp_P sc) 101 16 [.ref 0, .int (Int32.ofNat v), .int (Int32.ofNat e), .int (Int32.ofNat l), y2] [] (cs (u) (ab) (ta) (s_mk ta g) (md) (n_ml m) (n_mt x) (mc) (on) r) (fun z => z = (s_out (m_for (m_mnd g f v) (2 * (f (5 + v) / 32)) 0 s) (fun s => cs (s) (ab) (ta) (s_mk ta g) (md) (n_ml m) (n_mt x) (mc) (on) r) (fun s => cl (s) ab ta (s_mk ta g) (mc) r))) := by
        intro l hl q0 q1 hq
        have hT := T.l (v * 10 + (2 * e + (1 - l))) (by omega)
        have hG := Tg.l (v * 10 + (2 * e + l)) (by omega)
        refine xk_Po.go 7 rfl ?_
        rw [show Int32.ofInt 1 - Int32.ofNat l = Int32.ofNat (1 - l) from xn_sub (a := 1) (by omega)]
        refine xk_Po.ci3 rfl rfl (c_legOfN) ?_
        refine xk_Po.ci2 rfl rfl (by
          have h := c_spotOfN (sc := sc) (sl := u.1) (ex := u.2.1) (ab := ab) (ta := ta) (dr := s_mk ta g) (md := md) (ml := n_ml m) (mt := n_mt x) (mc := mc) (on := on) (ct := u.2.2) (r := r) (j := v * 10 + e * 2 + (1 - l)) (by omega)
          rw [show v * 10 + e * 2 + (1 - l) = v * 10 + (2 * e + (1 - l)) by omega, T.w (9 + (v * 10 + (2 * e + (1 - l)))) (by omega) (by omega), show Int32.ofNat (f (9 + (v * 10 + (2 * e + (1 - l))))) - 1 = Int32.ofNat (f (9 + (v * 10 + (2 * e + (1 - l)))) - 1) from xn_sub (b := 1) (by omega)] at h
          rw [show v * 10 + e * 2 + (1 - l) = v * 10 + (2 * e + (1 - l)) by omega]
          exact h) ?_
        refine xk_Po.go 8 rfl ?_
        refine xk_Po.ci3 rfl rfl (c_legOfN) ?_
        refine xk_Po.ci2 rfl rfl (by
          have h := d_spotOfN (sc := sc) (sl := u.1) (ex := u.2.1) (ab := ab) (ta := ta) (dr := s_mk ta g) (md := md) (ml := n_ml m) (mt := n_mt x) (mc := mc) (on := on) (ct := u.2.2) (r := r) (j := v * 10 + e * 2 + l) (by omega)
          rw [show v * 10 + e * 2 + l = v * 10 + (2 * e + l) by omega, s_mk_w _ _ (9 + (v * 10 + (2 * e + l))) (by omega) (by omega), show Int32.ofNat (g (9 + (v * 10 + (2 * e + l)))) - 1 = Int32.ofNat (g (9 + (v * 10 + (2 * e + l))) - 1) from xn_sub (b := 1) (by omega)] at h
          rw [show v * 10 + e * 2 + l = v * 10 + (2 * e + l) by omega]
          exact h) ?_
        refine xk_Po.cm3 rfl rfl (c_copyExtent (s := u) (x := f (9 + (v * 10 + (2 * e + (1 - l)))) - 1) (y := g (9 + (v * 10 + (2 * e + l))) - 1) (by omega) (by omega)) rfl (fun q => ?_) (fun q => ?_)
        · rw [← hq, show m_seq _ _ u = _ from if_neg q]
          exact (if_neg q).symm
        · rw [show m_seq (m_for (fun w => m_cp ((g (9 + (v * 10 + (2 * e + l))) - 1) * 4 + w) ((f (9 + (v * 10 + (2 * e + (1 - l)))) - 1) * 4 + w)) 4 0) (m_for (m_mnd g f v) (2 * n) (2 * e + 2)) u = _ from if_pos q] at hq
          exact next _ _ _ hq
      by_cases z0 : f (9 + (v * 10 + 2 * e)) = 0
      · rw [if_pos z0]
        by_cases z1 : f (9 + (v * 10 + (2 * e + 1))) = 0
        · rw [if_pos z1]
          rw [same (2 * e) (by omega) (Decidable.byContradiction (fun k => (c0.1 k).2 z1)), same (2 * e + 1) (by omega) (Decidable.byContradiction (fun k => (c1.1 k).2 z0)), m_seq_no, m_seq_no] at hm
          refine xk_Po.go 4 rfl ?_
          exact next u _ _ hm
        · rw [if_neg z1]
          have d0 := c0.2 ⟨z0, z1⟩
          rw [same (2 * e + 1) (by omega) (Decidable.byContradiction (fun k => z1 (c1.1 k).1)), m_seq_no, show m_mnd g f v (2 * e) = _ from if_neg d0, t0] at hm
          refine xk_Po.go 4 rfl ?_
          exact cp 0 (by omega) z1 (fun k => d0 (by rw [z0]; exact k)) hm
      · rw [if_neg z0]
        by_cases z1 : f (9 + (v * 10 + (2 * e + 1))) = 0
        · rw [if_pos z1]
          have d1 := c1.2 ⟨z1, z0⟩
          rw [same (2 * e) (by omega) (Decidable.byContradiction (fun k => z0 (c0.1 k).1)), m_seq_no, show m_mnd g f v (2 * e + 1) = _ from if_neg d1, t1] at hm
          refine xk_Po.go 4 rfl ?_
          exact cp 1 (by omega) z0 (fun k => d1 (by rw [z1]; exact k)) hm
        · rw [if_neg z1]
          rw [same (2 * e) (by omega) (Decidable.byContradiction (fun k => z0 (c0.1 k).1)), same (2 * e + 1) (by omega) (Decidable.byContradiction (fun k => z1 (c1.1 k).1)), m_seq_no, m_seq_no] at hm
          refine xk_Po.go 4 rfl ?_
          exact next u _ _ hm
  exact key (f (5 + v) / 32) 0 s _ _ (by omega) rfl
theorem k_mend_off {g : Int32} : xk_Ev (xp_P sc) 47 0 [.ref 0, .int g, .retAddr 0] [] (cw sl ex ab ta dr md ml mt mc (0) ct r) (.inr 0, 1, cw sl ex ab ta dr md ml mt mc (0) ct r) := by
  apply xk_Ev.of
  refine xk_Po.go 1 rfl ?_
  exact xk_Po.ct1 rfl rfl (c_requirePower_t rfl) rfl rfl
theorem k_mend_nv {g : Int32} (hg : g < 0 ∨ Int32.ofInt 4 ≤ g) : xk_Ev (xp_P sc) 47 0 [.ref 0, .int g, .retAddr 0] [] (cw sl ex ab ta dr md ml mt mc (1) ct r) (.inr 3, 1, cw sl ex ab ta dr md ml mt mc (1) ct r) := by
  apply xk_Ev.of
  refine xk_Po.go 1 rfl ?_
  refine xk_Po.cv1 rfl rfl (c_requirePower (show ¬ (1 : Int32) = 0 by decide)) ?_
  refine xk_Po.go 2 rfl ?_
  exact xk_Po.ct2 rfl rfl (c_requireVolume_t hg) rfl rfl
theorem k_mend_uv {v : Nat} (hv : v < 4) (hu : ta (5 + v) = 0) : xk_Ev (xp_P sc) 47 0 [.ref 0, .int (Int32.ofNat v), .retAddr 0] [] (cw sl ex ab ta dr md ml mt mc (1) ct r) (.inr 3, 1, cw sl ex ab ta dr md ml mt mc (1) ct r) := by
  apply xk_Ev.of
  refine xk_Po.go 1 rfl ?_
  refine xk_Po.cv1 rfl rfl (c_requirePower (show ¬ (1 : Int32) = 0 by decide)) ?_
  refine xk_Po.go 2 rfl ?_
  exact xk_Po.ct2 rfl rfl (c_requireVolume_u hv hu) rfl rfl
theorem k_mend_nt {v : Nat} (hv : v < 4) (hu : ¬ ta (5 + v) = 0) {f : Nat → Nat} (T : s_Tv ta f) (h5 : f (5 + v) ≠ 0) (h : ¬ f (5 + v) % 4 = 3) : xk_Ev (xp_P sc) 47 0 [.ref 0, .int (Int32.ofNat v), .retAddr 0] [] (cw sl ex ab ta dr md ml mt mc (1) ct r) (.inr 1, 1, cw sl ex ab ta dr md ml mt mc (1) ct r) := by
  apply xk_Ev.of
  refine xk_Po.go 1 rfl ?_
  refine xk_Po.cv1 rfl rfl (c_requirePower (show ¬ (1 : Int32) = 0 by decide)) ?_
  refine xk_Po.go 2 rfl ?_
  refine xk_Po.cv2 rfl rfl (c_requireVolume hv hu) ?_
  refine xk_Po.go 3 rfl ?_
  refine xk_Po.ci2 rfl rfl (k_kiN T hv h5) ?_
  refine xk_Po.go 1 rfl ?_
  refine xk_Po.br rfl rfl (fun hZ => absurd hZ (fun z => h (e4_2 (by omega) z))) (fun _ => ?_) -- 10 .if_icmp .eq 12
  exact xk_Po.thr rfl (rfl)
theorem k_mend_ab {v : Nat} (hv : v < 4) (hu : ¬ ta (5 + v) = 0) {f : Nat → Nat} (T : s_Tv ta f) (h5 : f (5 + v) ≠ 0) (h3 : f (5 + v) % 4 = 3) (hb : ∀ i, ab i = 0 ∨ ab i = 1) (h : ¬ s_any (fun j => ¬ ta (1 + j) = 0 ∧ ¬ ab j = 0) 4 0 = 0) : xk_Ev (xp_P sc) 47 0 [.ref 0, .int (Int32.ofNat v), .retAddr 0] [] (cw sl ex ab ta dr md ml mt mc (1) ct r) (.inr 2, 1, cw sl ex ab ta dr md ml mt mc (1) ct r) := by
  apply xk_Ev.of
  refine xk_Po.go 1 rfl ?_
  refine xk_Po.cv1 rfl rfl (c_requirePower (show ¬ (1 : Int32) = 0 by decide)) ?_
  refine xk_Po.go 2 rfl ?_
  refine xk_Po.cv2 rfl rfl (c_requireVolume hv hu) ?_
  refine xk_Po.go 3 rfl ?_
  refine xk_Po.ci2 rfl rfl (k_kiN T hv h5) ?_
  refine xk_Po.go 1 rfl ?_
  refine xk_Po.br rfl rfl (fun _ => ?_) (fun hZ => absurd (by rw [h3]; rfl) hZ) -- 10 .if_icmp .eq 12
  refine xk_Po.go 1 rfl ?_
  exact xk_Po.ct1 rfl rfl (c_requireListedPresent_t hb h) rfl rfl
theorem k_mend_nr {v : Nat} (hv : v < 4) (hu : ¬ ta (5 + v) = 0) {f : Nat → Nat} (T : s_Tv ta f) (h5 : f (5 + v) ≠ 0) (h3 : f (5 + v) % 4 = 3) (hb : ∀ i, ab i = 0 ∨ ab i = 1) (hq : s_any (fun j => ¬ ta (1 + j) = 0 ∧ ¬ ab j = 0) 4 0 = 0) {m x : Nat} {s : s_S} (hd : ∀ i, 51 ≤ i → dr i = 0) (hx : n_tg f x) (hm : m < 40 → f (9 + m) ≠ 0) (hn : n_mnd ab m x v f (2 * (f (5 + v) / 32)) 0 f 0 = none) : ∃ d2, (∀ i, 51 ≤ i → d2 i = 0) ∧ xk_Ev (xp_P sc) 47 0 [.ref 0, .int (Int32.ofNat v), .retAddr 0] [] (cs (s) (ab) (ta) (dr) (md) (n_ml m) (n_mt x) (mc) (1) r) (.inr 2, 1, cs (s) (ab) (ta) (d2) (md) (n_ml m) (n_mt x) (mc) (1) r) := by
  obtain ⟨z, z1, z2, z3⟩ := k_frl (sc := sc) (sl := s.1) (ex := s.2.1) (ct := s.2.2) (md := md) (mc := mc) (on := 1) (r := r) T hb hx hm hv h3
  rw [s_mk_self T.w] at z1
  obtain ⟨d2, w2, w3⟩ := z3 hn
  rw [w3] at z1
  refine ⟨d2, w2, ?_⟩
  apply xk_Ev.of
  refine xk_Po.go 1 rfl ?_
  refine xk_Po.cv1 rfl rfl (c_requirePower (show ¬ (1 : Int32) = 0 by decide)) ?_
  refine xk_Po.go 2 rfl ?_
  refine xk_Po.cv2 rfl rfl (c_requireVolume hv hu) ?_
  refine xk_Po.go 3 rfl ?_
  refine xk_Po.ci2 rfl rfl (k_kiN T hv h5) ?_
  refine xk_Po.go 1 rfl ?_
  refine xk_Po.br rfl rfl (fun _ => ?_) (fun hZ => absurd (by rw [h3]; rfl) hZ) -- 10 .if_icmp .eq 12
  refine xk_Po.go 1 rfl ?_
  refine xk_Po.cv1 rfl rfl (c_requireListedPresent hb hq) ?_
  refine xk_Po.go 1 rfl ?_
  refine xk_Po.cv1 rfl rfl (c_beginDraft T.z hd) ?_
  refine xk_Po.go 2 rfl ?_
  exact xk_Po.ct2 rfl rfl (z1) rfl rfl
theorem k_mend_z {v : Nat} (hv : v < 4) (hu : ¬ ta (5 + v) = 0) {f : Nat → Nat} (T : s_Tv ta f) (h5 : f (5 + v) ≠ 0) (h3 : f (5 + v) % 4 = 3) (hb : ∀ i, ab i = 0 ∨ ab i = 1) (hq : s_any (fun j => ¬ ta (1 + j) = 0 ∧ ¬ ab j = 0) 4 0 = 0) {m x : Nat} {s : s_S} (hd : ∀ i, 51 ≤ i → dr i = 0) (hx : n_tg f x) (hm : m < 40 → f (9 + m) ≠ 0) {g : Nat → Nat} {c2 : Nat} (hn : n_mnd ab m x v f (2 * (f (5 + v) / 32)) 0 f 0 = some (g, c2)) (h0 : c2 = 0) : xk_Ev (xp_P sc) 47 0 [.ref 0, .int (Int32.ofNat v), .retAddr 0] [] (cs (s) (ab) (ta) (dr) (md) (n_ml m) (n_mt x) (mc) (1) r) (.inl (some (.int 0)), 0, cs (s) (ab) (ta) (s_mk ta g) (md) (n_ml m) (n_mt x) (mc) (1) r) := by
  obtain ⟨z, z1, z2, z3⟩ := k_frl (sc := sc) (sl := s.1) (ex := s.2.1) (ct := s.2.2) (md := md) (mc := mc) (on := 1) (r := r) T hb hx hm hv h3
  rw [s_mk_self T.w] at z1
  rw [z2 g c2 hn, h0] at z1
  apply xk_Ev.of
  refine xk_Po.go 1 rfl ?_
  refine xk_Po.cv1 rfl rfl (c_requirePower (show ¬ (1 : Int32) = 0 by decide)) ?_
  refine xk_Po.go 2 rfl ?_
  refine xk_Po.cv2 rfl rfl (c_requireVolume hv hu) ?_
  refine xk_Po.go 3 rfl ?_
  refine xk_Po.ci2 rfl rfl (k_kiN T hv h5) ?_
  refine xk_Po.go 1 rfl ?_
  refine xk_Po.br rfl rfl (fun _ => ?_) (fun hZ => absurd (by rw [h3]; rfl) hZ) -- 10 .if_icmp .eq 12
  refine xk_Po.go 1 rfl ?_
  refine xk_Po.cv1 rfl rfl (c_requireListedPresent hb hq) ?_
  refine xk_Po.go 1 rfl ?_
  refine xk_Po.cv1 rfl rfl (c_beginDraft T.z hd) ?_
  refine xk_Po.go 2 rfl ?_
  refine xk_Po.ci2 rfl rfl (z1) ?_
  refine xk_Po.go 4 rfl ?_
  exact xk_Po.iret rfl (rfl)
theorem k_mend_1 {v : Nat} (hv : v < 4) (hu : ¬ ta (5 + v) = 0) {f : Nat → Nat} (T : s_Tv ta f) (h5 : f (5 + v) ≠ 0) (h3 : f (5 + v) % 4 = 3) (hb : ∀ i, ab i = 0 ∨ ab i = 1) (hq : s_any (fun j => ¬ ta (1 + j) = 0 ∧ ¬ ab j = 0) 4 0 = 0) {m x : Nat} {s : s_S} (hd : ∀ i, 51 ≤ i → dr i = 0) (hx : n_tg f x) (hm : m < 40 → f (9 + m) ≠ 0) {g : Nat → Nat} {c2 : Nat} (hn : n_mnd ab m x v f (2 * (f (5 + v) / 32)) 0 f 0 = some (g, c2)) (h0 : ¬ c2 = 0) (hc2 : c2 < 100) (Tg : n_Tv g) (hh : ∀ k, k < 2 * (f (5 + v) / 32) → (g (9 + (v * 10 + k)) ≠ f (9 + (v * 10 + k)) ↔ (f (9 + (v * 10 + k)) = 0 ∧ f (9 + (v * 10 + n_tw k)) ≠ 0))) (ho : (m_seq (m_for (m_mnd g f v) (2 * (f (5 + v) / 32)) 0) (m_com (s_seal (s_mk ta g) (ta 0 + 1)) ab) s).1 = true) : xk_Ev (xp_P sc) 47 0 [.ref 0, .int (Int32.ofNat v), .retAddr 0] [] (cs (s) (ab) (ta) (dr) (md) (n_ml m) (n_mt x) (mc) (1) r) (.inl (some (.int (Int32.ofNat c2))), 0, cs ((m_seq (m_for (m_mnd g f v) (2 * (f (5 + v) / 32)) 0) (m_com (s_seal (s_mk ta g) (ta 0 + 1)) ab) s).2) (ab) (s_seal (s_mk ta g) (ta 0 + 1)) (s_seal (s_mk ta g) (ta 0 + 1)) (md) ((s_ml (s_seal (s_mk ta g) (ta 0 + 1)) (n_ml m) (n_mt x)).1) ((s_ml (s_seal (s_mk ta g) (ta 0 + 1)) (n_ml m) (n_mt x)).2) (mc) (1) r) := by
  obtain ⟨z, z1, z2, z3⟩ := k_frl (sc := sc) (sl := s.1) (ex := s.2.1) (ct := s.2.2) (md := md) (mc := mc) (on := 1) (r := r) T hb hx hm hv h3
  rw [s_mk_self T.w] at z1
  have hml : ¬ n_ml m = Int32.ofInt (-1) → ∃ j, j < 40 ∧ n_ml m = Int32.ofNat j := fun q => by
    by_cases k : m < 40
    · exact ⟨m, k, if_pos k⟩
    · exact absurd (if_neg k) q
  have ct := k_ctn (sc := sc) (ab := ab) (md := md) (m := m) (x := x) (mc := mc) (on := 1) (r := r) (s := s) T Tg hv hh
  have cm := c_commitDraft1 (sc := sc) (s := (m_for (m_mnd g f v) (2 * (f (5 + v) / 32)) 0 s).2) (ab := ab) (ta := ta) (dr := s_mk ta g) (md := md) (ml := n_ml m) (mt := n_mt x) (mc := mc) (on := 1) (r := r) hb hq T.z (s_mk_z T.z) hml
  unfold s_out at ct cm
  rw [z2 g c2 hn] at z1
  by_cases q : (m_for (m_mnd g f v) (2 * (f (5 + v) / 32)) 0 s).1 = true
  · have eO : m_seq (m_for (m_mnd g f v) (2 * (f (5 + v) / 32)) 0) (m_com (s_seal (s_mk ta g) (ta 0 + 1)) ab) s = m_com (s_seal (s_mk ta g) (ta 0 + 1)) ab (m_for (m_mnd g f v) (2 * (f (5 + v) / 32)) 0 s).2 := if_pos q
    rw [eO] at ho ⊢
    rw [if_pos q] at ct
    rw [if_pos ho] at cm
    apply xk_Ev.of
    refine xk_Po.go 1 rfl ?_
    refine xk_Po.cv1 rfl rfl (c_requirePower (show ¬ (1 : Int32) = 0 by decide)) ?_
    refine xk_Po.go 2 rfl ?_
    refine xk_Po.cv2 rfl rfl (c_requireVolume hv hu) ?_
    refine xk_Po.go 3 rfl ?_
    refine xk_Po.ci2 rfl rfl (k_kiN T hv h5) ?_
    refine xk_Po.go 1 rfl ?_
    refine xk_Po.br rfl rfl (fun _ => ?_) (fun hZ => absurd (by rw [h3]; rfl) hZ) -- 10 .if_icmp .eq 12
    refine xk_Po.go 1 rfl ?_
    refine xk_Po.cv1 rfl rfl (c_requireListedPresent hb hq) ?_
    refine xk_Po.go 1 rfl ?_
    refine xk_Po.cv1 rfl rfl (c_beginDraft T.z hd) ?_
    refine xk_Po.go 2 rfl ?_
    refine xk_Po.ci2 rfl rfl (z1) ?_
    refine xk_Po.go 2 rfl ?_
    refine xk_Po.br rfl rfl (fun hZ => absurd hZ (fun q => absurd ((xn_le0 (by omega)).1 q) h0)) (fun _ => ?_) -- 21 .ifCond .le 27
    refine xk_Po.go 2 rfl ?_
    refine xk_Po.cv2 rfl rfl (ct) ?_
    refine xk_Po.go 1 rfl ?_
    refine xk_Po.cv1 rfl rfl (cm) ?_
    refine xk_Po.go 1 rfl ?_
    exact xk_Po.iret rfl (rfl)
  · have eO : m_seq (m_for (m_mnd g f v) (2 * (f (5 + v) / 32)) 0) (m_com (s_seal (s_mk ta g) (ta 0 + 1)) ab) s = m_for (m_mnd g f v) (2 * (f (5 + v) / 32)) 0 s := if_neg q
    rw [eO] at ho
    exact absurd ho q
theorem k_mend_0 {v : Nat} (hv : v < 4) (hu : ¬ ta (5 + v) = 0) {f : Nat → Nat} (T : s_Tv ta f) (h5 : f (5 + v) ≠ 0) (h3 : f (5 + v) % 4 = 3) (hb : ∀ i, ab i = 0 ∨ ab i = 1) (hq : s_any (fun j => ¬ ta (1 + j) = 0 ∧ ¬ ab j = 0) 4 0 = 0) {m x : Nat} {s : s_S} (hd : ∀ i, 51 ≤ i → dr i = 0) (hx : n_tg f x) (hm : m < 40 → f (9 + m) ≠ 0) {g : Nat → Nat} {c2 : Nat} (hn : n_mnd ab m x v f (2 * (f (5 + v) / 32)) 0 f 0 = some (g, c2)) (h0 : ¬ c2 = 0) (hc2 : c2 < 100) (Tg : n_Tv g) (hh : ∀ k, k < 2 * (f (5 + v) / 32) → (g (9 + (v * 10 + k)) ≠ f (9 + (v * 10 + k)) ↔ (f (9 + (v * 10 + k)) = 0 ∧ f (9 + (v * 10 + n_tw k)) ≠ 0))) (ho : ¬ (m_seq (m_for (m_mnd g f v) (2 * (f (5 + v) / 32)) 0) (m_com (s_seal (s_mk ta g) (ta 0 + 1)) ab) s).1 = true) : ∃ d2, (∀ i, 51 ≤ i → d2 i = 0) ∧ xk_Ev (xp_P sc) 47 0 [.ref 0, .int (Int32.ofNat v), .retAddr 0] [] (cs (s) (ab) (ta) (dr) (md) (n_ml m) (n_mt x) (mc) (1) r) (.inr 0, 1, cl ((m_seq (m_for (m_mnd g f v) (2 * (f (5 + v) / 32)) 0) (m_com (s_seal (s_mk ta g) (ta 0 + 1)) ab) s).2) ab ta (d2) (mc) r) := by
  obtain ⟨z, z1, z2, z3⟩ := k_frl (sc := sc) (sl := s.1) (ex := s.2.1) (ct := s.2.2) (md := md) (mc := mc) (on := 1) (r := r) T hb hx hm hv h3
  rw [s_mk_self T.w] at z1
  have hml : ¬ n_ml m = Int32.ofInt (-1) → ∃ j, j < 40 ∧ n_ml m = Int32.ofNat j := fun q => by
    by_cases k : m < 40
    · exact ⟨m, k, if_pos k⟩
    · exact absurd (if_neg k) q
  have ct := k_ctn (sc := sc) (ab := ab) (md := md) (m := m) (x := x) (mc := mc) (on := 1) (r := r) (s := s) T Tg hv hh
  have cm := c_commitDraft1 (sc := sc) (s := (m_for (m_mnd g f v) (2 * (f (5 + v) / 32)) 0 s).2) (ab := ab) (ta := ta) (dr := s_mk ta g) (md := md) (ml := n_ml m) (mt := n_mt x) (mc := mc) (on := 1) (r := r) hb hq T.z (s_mk_z T.z) hml
  unfold s_out at ct cm
  rw [z2 g c2 hn] at z1
  by_cases q : (m_for (m_mnd g f v) (2 * (f (5 + v) / 32)) 0 s).1 = true
  · have eO : m_seq (m_for (m_mnd g f v) (2 * (f (5 + v) / 32)) 0) (m_com (s_seal (s_mk ta g) (ta 0 + 1)) ab) s = m_com (s_seal (s_mk ta g) (ta 0 + 1)) ab (m_for (m_mnd g f v) (2 * (f (5 + v) / 32)) 0 s).2 := if_pos q
    rw [eO] at ho ⊢
    rw [if_pos q] at ct
    rw [if_neg ho] at cm
    refine ⟨s_seal (s_mk ta g) (ta 0 + 1), s_seal_z (s_mk_z T.z), ?_⟩
    apply xk_Ev.of
    refine xk_Po.go 1 rfl ?_
    refine xk_Po.cv1 rfl rfl (c_requirePower (show ¬ (1 : Int32) = 0 by decide)) ?_
    refine xk_Po.go 2 rfl ?_
    refine xk_Po.cv2 rfl rfl (c_requireVolume hv hu) ?_
    refine xk_Po.go 3 rfl ?_
    refine xk_Po.ci2 rfl rfl (k_kiN T hv h5) ?_
    refine xk_Po.go 1 rfl ?_
    refine xk_Po.br rfl rfl (fun _ => ?_) (fun hZ => absurd (by rw [h3]; rfl) hZ) -- 10 .if_icmp .eq 12
    refine xk_Po.go 1 rfl ?_
    refine xk_Po.cv1 rfl rfl (c_requireListedPresent hb hq) ?_
    refine xk_Po.go 1 rfl ?_
    refine xk_Po.cv1 rfl rfl (c_beginDraft T.z hd) ?_
    refine xk_Po.go 2 rfl ?_
    refine xk_Po.ci2 rfl rfl (z1) ?_
    refine xk_Po.go 2 rfl ?_
    refine xk_Po.br rfl rfl (fun hZ => absurd hZ (fun q => absurd ((xn_le0 (by omega)).1 q) h0)) (fun _ => ?_) -- 21 .ifCond .le 27
    refine xk_Po.go 2 rfl ?_
    refine xk_Po.cv2 rfl rfl (ct) ?_
    refine xk_Po.go 1 rfl ?_
    exact xk_Po.ct1 rfl rfl (cm) rfl rfl
  · have eO : m_seq (m_for (m_mnd g f v) (2 * (f (5 + v) / 32)) 0) (m_com (s_seal (s_mk ta g) (ta 0 + 1)) ab) s = m_for (m_mnd g f v) (2 * (f (5 + v) / 32)) 0 s := if_neg q
    rw [eO] at ho ⊢
    rw [if_neg q] at ct
    refine ⟨s_mk ta g, s_mk_z T.z, ?_⟩
    apply xk_Ev.of
    refine xk_Po.go 1 rfl ?_
    refine xk_Po.cv1 rfl rfl (c_requirePower (show ¬ (1 : Int32) = 0 by decide)) ?_
    refine xk_Po.go 2 rfl ?_
    refine xk_Po.cv2 rfl rfl (c_requireVolume hv hu) ?_
    refine xk_Po.go 3 rfl ?_
    refine xk_Po.ci2 rfl rfl (k_kiN T hv h5) ?_
    refine xk_Po.go 1 rfl ?_
    refine xk_Po.br rfl rfl (fun _ => ?_) (fun hZ => absurd (by rw [h3]; rfl) hZ) -- 10 .if_icmp .eq 12
    refine xk_Po.go 1 rfl ?_
    refine xk_Po.cv1 rfl rfl (c_requireListedPresent hb hq) ?_
    refine xk_Po.go 1 rfl ?_
    refine xk_Po.cv1 rfl rfl (c_beginDraft T.z hd) ?_
    refine xk_Po.go 2 rfl ?_
    refine xk_Po.ci2 rfl rfl (z1) ?_
    refine xk_Po.go 2 rfl ?_
    refine xk_Po.br rfl rfl (fun hZ => absurd hZ (fun q => absurd ((xn_le0 (by omega)).1 q) h0)) (fun _ => ?_) -- 21 .ifCond .le 27
    refine xk_Po.go 2 rfl ?_
    exact xk_Po.ct2 rfl rfl (ct) rfl rfl
end XkKme
