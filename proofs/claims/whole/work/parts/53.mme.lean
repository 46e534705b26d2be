section XkMme
variable {sc : Nat × (Nat → Int32)} {p : xk_Ten} {pr sl ex ta nx : Nat → Int32} {th on lf mo cv cg cT cp : Int32} {r w : xk_W}
theorem s_ak (v k : Nat) : Int32.ofNat (9 + v * 10) + Int32.ofNat k = Int32.ofNat (9 + (v * 10 + k)) := by
  rw [xn_add]
  congr 1
  omega
theorem s_a0 (v : Nat) : Int32.ofInt 9 + Int32.ofInt 10 * Int32.ofNat v = Int32.ofNat (9 + v * 10) := by
  show Int32.ofNat 9 + Int32.ofNat 10 * Int32.ofNat v = _
  rw [xn_mul, xn_add, Nat.mul_comm]
theorem n_tw_lt {k : Nat} (h : k < 10) : n_tw k < 10 := by
  unfold n_tw
  split <;> omega
theorem r_twin {k : Nat} (hk : k < 10) : xk_Ev (xp_P sc) 141 0 [.int (Int32.ofNat k)] [] w (.inl (some (.int (Int32.ofNat (n_tw k)))), 0, w) := by
  have e2 : ∀ k, k < 10 → (Int32.ofNat k % Int32.ofInt 2 = 0 ↔ k % 2 = 0) := by decide
  apply xk_Ev.of
  refine xk_Po.go 3 rfl ?_
  refine xk_Po.br rfl rfl (fun h0 => ?_) (fun h0 => ?_)
  · have h0 := (e2 k hk).1 h0
    rw [show n_tw k = k + 1 from if_pos h0, ← xn_suc k]
    refine xk_Po.go 4 rfl ?_
    exact xk_Po.iret rfl rfl
  · have h0 : ¬ k % 2 = 0 := fun q => h0 ((e2 k hk).2 q)
    rw [show n_tw k = k - 1 from if_neg h0, ← xn_sub (a := k) (b := 1) (by omega)]
    refine xk_Po.go 3 rfl ?_
    exact xk_Po.iret rfl rfl
theorem r_mlp {f : Nat → Nat} {m x v : Nat} {y : Value} {Φ : xk_R → Prop} (T0 : s_Tv ta f) (hb : ∀ i, pr i = 0 ∨ pr i = 1) (hC : n_cp mo cT x) (hQ : n_cq cv cg m x) (hv : v < 4) (h3 : f (5 + v) % 4 = 3) (hx : n_tg f x) (h1 : ∀ g c2, n_mnd (n_ab pr) m x v f (2 * (f (5 + v) / 32)) 0 f 0 = some (g, c2) → xk_Po (xp_P sc) 142 95 [.ref 10, .int (Int32.ofNat v), .int (Int32.ofNat (9 + v * 10)), .int (Int32.ofNat c2), .int (Int32.ofNat (2 * (f (5 + v) / 32))), y] [] (mw p (0) pr sl ex ta (s_mk ta g) (1) lf mo cv cg cT cp r) Φ) (h0 : n_mnd (n_ab pr) m x v f (2 * (f (5 + v) / 32)) 0 f 0 = none → ∀ n2, (∀ i, 51 ≤ i → n2 i = 0) → Φ (.inl (some (.int 0)), 0, mw p (4) pr sl ex ta (n2) (1) lf mo cv cg cT cp r)) : xk_Po (xp_P sc) 142 44 [.ref 10, .int (Int32.ofNat v), .int (Int32.ofNat (9 + v * 10)), .int 0, .int 0, y] [] (mw p (0) pr sl ex ta (s_mk ta f) (1) lf mo cv cg cT cp r) Φ := by
  have h5 : f (5 + v) ≠ 0 := by omega
  have e32 := s_dv_32 _ (T0.v v hv)
  have key : ∀ n k (e : Nat → Nat) c, k + n = 2 * (f (5 + v) / 32) → (∀ i, i < 9 → e i = f i) → n_Tv e → n_tg e x → (∀ i, k ≤ i → i < 10 → e (9 + (v * 10 + i)) = f (9 + (v * 10 + i))) → n_mnd (n_ab pr) m x v f n k e c = n_mnd (n_ab pr) m x v f (2 * (f (5 + v) / 32)) 0 f 0 → xk_Po (xp_P sc) 142 44 [.ref 10, .int (Int32.ofNat v), .int (Int32.ofNat (9 + v * 10)), .int (Int32.ofNat c), .int (Int32.ofNat k), y] [] (mw p (0) pr sl ex ta (s_mk ta e) (1) lf mo cv cg cT cp r) Φ := by
    intro n
    induction n with
    | zero =>
      intro k e c hk he Te hxe hle hr
      refine xk_Po.go 5 rfl ?_
      refine xk_Po.ci2 rfl rfl (t_elN T0 hv) ?_
      refine xk_Po.go 1 rfl ?_
      rw [show Int32.ofInt 2 * Int32.ofNat (f (5 + v) / 32) = Int32.ofNat (2 * (f (5 + v) / 32)) from xn_mul 2 _]
      refine xk_Po.br rfl rfl (fun _ => ?_) (fun hZ => absurd ((xn_le (a := 2 * (f (5 + v) / 32)) (b := k) (by omega) (by omega)).2 (by omega)) hZ)
      have hq := h1 e c hr.symm
      rw [show 2 * (f (5 + v) / 32) = k by omega] at hq
      exact hq
    | succ n ih =>
      intro k e c hk he Te hxe hle hr
      have TE := s_mk_Tv Te T0.z
      have ht := n_tw_lt (k := k) (by omega)
      refine xk_Po.go 5 rfl ?_
      refine xk_Po.ci2 rfl rfl (t_elN T0 hv) ?_
      refine xk_Po.go 1 rfl ?_
      rw [show Int32.ofInt 2 * Int32.ofNat (f (5 + v) / 32) = Int32.ofNat (2 * (f (5 + v) / 32)) from xn_mul 2 _]
      refine xk_Po.br rfl rfl (fun hZ => absurd ((xn_le (a := 2 * (f (5 + v) / 32)) (b := k) (by omega) (by omega)).1 hZ) (by omega)) (fun _ => ?_)
      refine xk_Po.go 5 rfl ?_
      rw [s_ak v k]
      refine xk_Po.ok rfl rfl (xn_ix (j := 9 + (v * 10 + k)) (by omega) (by omega)) ?_
      rw [xn_nat (j := 9 + (v * 10 + k)) (by omega), T0.w (9 + (v * 10 + k)) (by omega) (by omega)]
      have hl1 := T0.l (v * 10 + k) (by omega)
      have hl2 := T0.l (v * 10 + n_tw k) (by omega)
      have skip : ¬ (f (9 + (v * 10 + k)) = 0 ∧ f (9 + (v * 10 + n_tw k)) ≠ 0) → xk_Po (xp_P sc) 142 93 [.ref 10, .int (Int32.ofNat v), .int (Int32.ofNat (9 + v * 10)), .int (Int32.ofNat c), .int (Int32.ofNat k), y] [] (mw p (0) pr sl ex ta (s_mk ta e) (1) lf mo cv cg cT cp r) Φ := by
        intro hc
        rw [show n_mnd (n_ab pr) m x v f (n + 1) k e c = n_mnd (n_ab pr) m x v f n (k + 1) e c from if_neg hc] at hr
        have hq := ih (k + 1) e c (by omega) he Te hxe (fun i h1 h2 => hle i (by omega) h2) hr
        rw [← xn_suc k] at hq
        exact xk_Po.go 2 rfl hq
      refine xk_Po.br rfl rfl (fun k0 => ?_) (fun k0 => skip (fun q => k0 (by rw [q.1]; rfl)))
      have k0 := (xn_inj (b := 0) (by omega) (by omega)).1 k0
      refine xk_Po.go 4 rfl ?_
      refine xk_Po.ci1 rfl rfl (r_twin (k := k) (by omega)) ?_
      refine xk_Po.go 1 rfl ?_
      rw [s_ak v (n_tw k)]
      refine xk_Po.ok rfl rfl (xn_ix (j := 9 + (v * 10 + n_tw k)) (by omega) (by omega)) ?_
      rw [xn_nat (j := 9 + (v * 10 + n_tw k)) (by omega), T0.w (9 + (v * 10 + n_tw k)) (by omega) (by omega)]
      refine xk_Po.br rfl rfl (fun k1 => skip (fun q => q.2 ((xn_le0 (by omega)).1 k1))) (fun k1 => ?_)
      have k1 : f (9 + (v * 10 + n_tw k)) ≠ 0 := fun q => k1 ((xn_le0 (by omega)).2 q)
      refine xk_Po.go 11 rfl ?_
      refine xk_Po.ci5 rfl rfl (n_roomM (nt := 4) TE hb hC hQ hv (by rw [he _ (by omega)]; exact h5) (by omega)) ?_
      rw [s_ak v k]
      refine xk_Po.ok rfl rfl (xn_ix (j := 9 + (v * 10 + k)) (by omega) (by omega)) ?_
      rw [xn_nat (j := 9 + (v * 10 + k)) (by omega)]
      refine xk_Po.go 6 rfl ?_
      rw [s_ak v k]
      refine xk_Po.ok rfl rfl (xn_ix (j := 9 + (v * 10 + k)) (by omega) (by omega)) ?_
      rw [xn_nat (j := 9 + (v * 10 + k)) (by omega), show upd (s_mk ta e) (9 + (v * 10 + k)) (n_leg (n_R e (n_ab pr) m x v k 4)) (9 + (v * 10 + k)) = n_leg (n_R e (n_ab pr) m x v k 4) from if_pos rfl]
      by_cases hR : n_R e (n_ab pr) m x v k 4 < 32
      · rw [show n_mnd (n_ab pr) m x v f (n + 1) k e c = n_mnd (n_ab pr) m x v f n (k + 1) (n_up e (9 + (v * 10 + k)) (n_R e (n_ab pr) m x v k 4 + 1)) (c + 1) from (if_pos ⟨k0, k1⟩).trans (if_pos hR)] at hr
        obtain ⟨r1, r2, r3⟩ := n_R_ok Te.e hR
        rw [show n_leg (n_R e (n_ab pr) m x v k 4) = Int32.ofNat (n_R e (n_ab pr) m x v k 4 + 1) from if_pos hR]
        generalize n_R e (n_ab pr) m x v k 4 = R at *
        refine xk_Po.br rfl rfl (fun hZ => absurd ((xn_inj (b := 0) (by omega) (by omega)).1 hZ) (by omega)) (fun _ => ?_)
        have hq := ih (k + 1) (n_up e (9 + (v * 10 + k)) (R + 1)) (c + 1) (by omega) (fun i hi => by rw [n_up_ne (by omega)]; exact he i hi) (Te.leg (by omega) hR r2 r1.1 (by
          rw [show (v * 10 + k) / 10 = v by omega, show (v * 10 + k) % 10 = k by omega, he _ (by omega)]
          exact ⟨by omega, .inr h3⟩)) (n_tg_up hxe r1.2) (fun i h1 h2 => by
          rw [n_up_ne (by omega)]
          exact hle i (by omega) h2) hr
        rw [← xn_suc k, ← xn_suc c, ← s_mk_up (by omega) (by omega)] at hq
        exact xk_Po.go 2 rfl hq
      · rw [show n_mnd (n_ab pr) m x v f (n + 1) k e c = none from (if_pos ⟨k0, k1⟩).trans (if_neg hR)] at hr
        rw [show n_leg (n_R e (n_ab pr) m x v k 4) = 0 from if_neg hR]
        refine xk_Po.go 5 rfl ?_
        exact xk_Po.iret rfl (h0 hr.symm _ (upd_z (s_mk_z T0.z) (by omega)))
  exact key _ 0 f 0 (by omega) (fun _ _ => rfl) T0.n hx (fun _ _ _ => rfl) rfl
theorem r_mcp {f g : Nat → Nat} {v : Nat} {c : Int32} {y1 y2 : Value} {o : Bool × s_S} {Φ : xk_R → Prop} (T0 : s_Tv ta f) (Tg : n_Tv g) (hv : v < 4) (hh : ∀ k, k < 10 → g (9 + (v * 10 + k)) ≠ f (9 + (v * 10 + k)) → f (9 + (v * 10 + n_tw k)) ≠ 0 ∧ g (9 + (v * 10 + k)) ≠ 0) (h : ∀ y, xk_Po (xp_P sc) 142 145 [.ref 10, .int (Int32.ofNat v), .int (Int32.ofNat (9 + v * 10)), .int c, .int 10, y] [] (mp p th pr ta (s_mk ta g) mo cv cg cT cp r (m_b o (m_for (m_mnd g f v) 10 0))) Φ) : xk_Po (xp_P sc) 142 99 [.ref 10, .int (Int32.ofNat v), .int (Int32.ofNat (9 + v * 10)), .int c, y1, y2] [] (mp p th pr ta (s_mk ta g) mo cv cg cT cp r o) Φ := by
  refine xk_Po.go 2 rfl ?_
  have key : ∀ n k (y : Value) (o2 : Bool × s_S), k + n = 10 → m_b o2 (m_for (m_mnd g f v) n k) = m_b o (m_for (m_mnd g f v) 10 0) → xk_Po (xp_P sc) 142 101 [.ref 10, .int (Int32.ofNat v), .int (Int32.ofNat (9 + v * 10)), .int c, .int (Int32.ofNat k), y] [] (mp p th pr ta (s_mk ta g) mo cv cg cT cp r o2) Φ := by
    intro n
    induction n with
    | zero =>
      intro k y o2 hk hm
      have e : k = 10 := by omega
      subst e
      rw [show m_for (m_mnd g f v) 0 10 = m_no from rfl, m_b_no] at hm
      have hq := h y
      rw [← hm] at hq
      exact xk_Po.go 3 rfl hq
    | succ n ih =>
      intro k y o2 hk hm
      have ht := n_tw_lt (k := k) (by omega)
      have hlg := Tg.l (v * 10 + k) (by omega)
      have hlf := T0.l (v * 10 + k) (by omega)
      have hlt := T0.l (v * 10 + n_tw k) (by omega)
      refine xk_Po.go 2 rfl ?_
      refine xk_Po.br rfl rfl (fun hZ => absurd ((xn_le (a := 10) (b := k) (by omega) (by omega)).1 hZ) (by omega)) (fun _ => ?_)
      refine xk_Po.go 2 rfl ?_
      have next : ∀ (y : Value) (o3 : Bool × s_S), m_b o3 (m_for (m_mnd g f v) n (k + 1)) = m_b o (m_for (m_mnd g f v) 10 0) → xk_Po (xp_P sc) 142 143 [.ref 10, .int (Int32.ofNat v), .int (Int32.ofNat (9 + v * 10)), .int c, .int (Int32.ofNat k), y] [] (mp p th pr ta (s_mk ta g) mo cv cg cT cp r o3) Φ := by
        intro y o3 hm3
        have hq := ih (k + 1) y o3 (by omega) hm3
        rw [← xn_suc k] at hq
        exact xk_Po.go 2 rfl hq
      rw [← m_b_for] at hm
      have cmp : ∀ (j : Int32) (o3 : Bool × s_S), xk_Po (xp_P sc) 142 121 [.ref 10, .int (Int32.ofNat v), .int (Int32.ofNat (9 + v * 10)), .int c, .int (Int32.ofNat k), .int j] [.int (Int32.ofNat (f (9 + (v * 10 + k)))), .int (Int32.ofNat (g (9 + (v * 10 + k))))] (mp p th pr ta (s_mk ta g) mo cv cg cT cp r o3) Φ → xk_Po (xp_P sc) 142 109 [.ref 10, .int (Int32.ofNat v), .int (Int32.ofNat (9 + v * 10)), .int c, .int (Int32.ofNat k), .int j] [] (mp p th pr ta (s_mk ta g) mo cv cg cT cp r o3) Φ := by
        intro j o3 hq
        refine xk_Po.go 5 rfl ?_
        rw [s_ak v k]
        refine xk_Po.ok rfl rfl (xn_ix (j := 9 + (v * 10 + k)) (by omega) (by omega)) ?_
        rw [xn_nat (j := 9 + (v * 10 + k)) (by omega), s_mk_w _ _ (9 + (v * 10 + k)) (by omega) (by omega)]
        refine xk_Po.go 5 rfl ?_
        rw [s_ak v k]
        refine xk_Po.ok rfl rfl (xn_ix (j := 9 + (v * 10 + k)) (by omega) (by omega)) ?_
        rw [xn_nat (j := 9 + (v * 10 + k)) (by omega), T0.w (9 + (v * 10 + k)) (by omega) (by omega)]
        exact hq
      by_cases hd : g (9 + (v * 10 + k)) = f (9 + (v * 10 + k))
      · rw [show m_mnd g f v k = m_no from if_pos hd, m_b_no] at hm
        refine xk_Po.go 3 rfl ?_
        refine cmp _ o2 ?_
        refine xk_Po.br rfl rfl (fun _ => next _ o2 hm) (fun hZ => absurd (by rw [hd]) hZ)
      · obtain ⟨d1, d2⟩ := hh k (by omega) hd
        rw [show m_mnd g f v k = m_for (fun w => m_cp ((g (9 + (v * 10 + k)) - 1) * 4 + w) ((f (9 + (v * 10 + n_tw k)) - 1) * 4 + w)) 4 0 from if_neg hd] at hm
        have inner : ∀ m0 j0 (o3 : Bool × s_S), j0 + m0 = 4 → m_b (m_b o3 (m_for (fun w => m_cp ((g (9 + (v * 10 + k)) - 1) * 4 + w) ((f (9 + (v * 10 + n_tw k)) - 1) * 4 + w)) m0 j0)) (m_for (m_mnd g f v) n (k + 1)) = m_b o (m_for (m_mnd g f v) 10 0) → xk_Po (xp_P sc) 142 106 [.ref 10, .int (Int32.ofNat v), .int (Int32.ofNat (9 + v * 10)), .int c, .int (Int32.ofNat k), .int (Int32.ofNat j0)] [] (mp p th pr ta (s_mk ta g) mo cv cg cT cp r o3) Φ := by
          intro m0
          induction m0 with
          | zero =>
            intro j0 o3 hj0 hm3
            have e : j0 = 4 := by omega
            subst e
            rw [show m_for (fun w => m_cp ((g (9 + (v * 10 + k)) - 1) * 4 + w) ((f (9 + (v * 10 + n_tw k)) - 1) * 4 + w)) 0 4 = m_no from rfl, m_b_no] at hm3
            refine xk_Po.go 3 rfl ?_
            exact next _ o3 hm3
          | succ m0 ih0 =>
            intro j0 o3 hj0 hm3
            refine xk_Po.go 2 rfl ?_
            refine xk_Po.br rfl rfl (fun hZ => absurd ((xn_le (a := 4) (b := j0) (by omega) (by omega)).1 hZ) (by omega)) (fun _ => ?_)
            refine cmp _ o3 ?_
            refine xk_Po.br rfl rfl (fun hZ => absurd ((xn_inj (by omega) (by omega)).1 hZ) hd) (fun _ => ?_)
            refine xk_Po.go 6 rfl ?_
            rw [s_ak v k]
            refine xk_Po.ok rfl rfl (xn_ix (j := 9 + (v * 10 + k)) (by omega) (by omega)) ?_
            rw [xn_nat (j := 9 + (v * 10 + k)) (by omega), s_mk_w _ _ (9 + (v * 10 + k)) (by omega) (by omega)]
            refine xk_Po.go 6 rfl ?_
            refine xk_Po.ci1 rfl rfl (r_twin (k := k) (by omega)) ?_
            refine xk_Po.go 1 rfl ?_
            rw [s_ak v (n_tw k)]
            refine xk_Po.ok rfl rfl (xn_ix (j := 9 + (v * 10 + n_tw k)) (by omega) (by omega)) ?_
            rw [xn_nat (j := 9 + (v * 10 + n_tw k)) (by omega), T0.w (9 + (v * 10 + n_tw k)) (by omega) (by omega)]
            refine xk_Po.go 1 rfl ?_
            rw [show f (9 + (v * 10 + n_tw k)) = f (9 + (v * 10 + n_tw k)) - 1 + 1 by omega]
            refine xk_Po.ci3 rfl rfl (r_get (x := f (9 + (v * 10 + n_tw k)) - 1) (k := j0) (by omega) (by omega)) ?_
            rw [show g (9 + (v * 10 + k)) = g (9 + (v * 10 + k)) - 1 + 1 by omega]
            refine xk_Po.cv4 rfl rfl (r_put (o := o3) (x := g (9 + (v * 10 + k)) - 1) (k := j0) (by omega) (by omega)) ?_
            have em : m_b o3 (m_ex ((g (9 + (v * 10 + k)) - 1) * 4 + j0) (o3.2.2.1 ((f (9 + (v * 10 + n_tw k)) - 1) * 4 + j0))) = m_b o3 (m_cp ((g (9 + (v * 10 + k)) - 1) * 4 + j0) ((f (9 + (v * 10 + n_tw k)) - 1) * 4 + j0)) := rfl
            rw [em]
            have hq := ih0 (j0 + 1) _ (by omega) (by rw [← m_b_for] at hm3; exact hm3)
            rw [← xn_suc j0] at hq
            exact xk_Po.go 2 rfl hq
        exact inner 4 0 o2 rfl hm
  exact key 10 0 _ o rfl rfl
end XkMme
