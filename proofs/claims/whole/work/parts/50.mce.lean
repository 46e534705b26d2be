section XkMce
variable {sc : Nat × (Nat → Int32)} {p : xk_Ten} {pr sl ex ta nx : Nat → Int32} {th on lf mo cv cg cT cp : Int32} {r w : xk_W}
theorem r_clear {t0 : Nat → Int32} {g : Nat → Nat} {v from_ : Nat} {o : Bool × s_S} (T : n_Tv g) (hz : ∀ i, 51 ≤ i → t0 i = 0) (hv : v < 4) (hf : from_ ≤ g (5 + v) / 32) : xk_Ev (xp_P sc) 131 0 [.ref 10, .int (Int32.ofNat v), .int (Int32.ofNat from_), .retAddr 0, .retAddr 0] [] (mp p th pr ta (s_mk t0 g) mo cv cg cT cp r o) (.inl none, 0, mp p th pr ta (s_mk t0 g) mo cv cg cT cp r (m_b o (m_for (m_cle g v) (2 * (g (5 + v) / 32) - 2 * from_) (2 * from_)))) := by
  have e32 := s_dv_32 _ (T.v v hv)
  have TE := s_mk_Tv T hz
  apply xk_Ev.of
  have key : ∀ n k (y : Value) (o : Bool × s_S), k + n = 2 * (g (5 + v) / 32) → xk_Po (xp_P sc) 131 4 [.ref 10, .int (Int32.ofNat v), .int (Int32.ofNat from_), .int (Int32.ofNat k), y] [] (mp p th pr ta (s_mk t0 g) mo cv cg cT cp r o) (fun z => z = (.inl none, 0, mp p th pr ta (s_mk t0 g) mo cv cg cT cp r (m_b o (m_for (m_cle g v) n k)))) := by
    have hel : ∀ o : Bool × s_S, xk_Ev (xp_P sc) 114 0 [.ref 15, .int (Int32.ofNat v)] [] (mp p th pr ta (s_mk t0 g) mo cv cg cT cp r o) (.inl (some (.int (Int32.ofNat (g (5 + v) / 32)))), 0, mp p th pr ta (s_mk t0 g) mo cv cg cT cp r o) := by
      intro o
      have h := n_elementsOf (sc := sc) (p := p) (th := th) (pr := pr) (sl := o.2.1) (ex := o.2.2.1) (ta := ta) (nx := s_mk t0 g) (on := if o.1 = true then 1 else 0) (lf := if o.1 = true then o.2.2.2 else -1) (mo := if o.1 = true then mo else -1) (cv := cv) (cg := cg) (cT := cT) (cp := cp) (r := r) hv
      rw [s_mk_w _ _ (5 + v) (by omega) (by omega), e32.1] at h
      exact h
    intro n
    induction n with
    | zero =>
      intro k y o hk
      rw [show m_for (m_cle g v) 0 k = m_no from rfl, m_b_no]
      refine xk_Po.go 5 rfl ?_
      refine xk_Po.ci2 rfl rfl (hel o) ?_
      refine xk_Po.go 1 rfl ?_
      rw [show Int32.ofInt 2 * Int32.ofNat (g (5 + v) / 32) = Int32.ofNat (2 * (g (5 + v) / 32)) from xn_mul 2 _]
      refine xk_Po.br rfl rfl (fun _ => ?_) (fun hZ => absurd ((xn_le (a := 2 * (g (5 + v) / 32)) (b := k) (by omega) (by omega)).2 (by omega)) hZ)
      exact xk_Po.ret rfl rfl
    | succ n ih =>
      intro k y o hk
      rw [← m_b_for]
      refine xk_Po.go 5 rfl ?_
      refine xk_Po.ci2 rfl rfl (hel o) ?_
      refine xk_Po.go 1 rfl ?_
      rw [show Int32.ofInt 2 * Int32.ofNat (g (5 + v) / 32) = Int32.ofNat (2 * (g (5 + v) / 32)) from xn_mul 2 _]
      refine xk_Po.br rfl rfl (fun hZ => absurd ((xn_le (a := 2 * (g (5 + v) / 32)) (b := k) (by omega) (by omega)).1 hZ) (by omega)) (fun _ => ?_)
      refine xk_Po.go 2 rfl ?_
      have hl := T.l (v * 10 + k) (by omega)
      have next : ∀ (y : Value) (o2 : Bool × s_S), xk_Po (xp_P sc) 131 44 [.ref 10, .int (Int32.ofNat v), .int (Int32.ofNat from_), .int (Int32.ofNat k), y] [] (mp p th pr ta (s_mk t0 g) mo cv cg cT cp r o2) (fun z => z = (.inl none, 0, mp p th pr ta (s_mk t0 g) mo cv cg cT cp r (m_b o2 (m_for (m_cle g v) n (k + 1))))) := by
        intro y o2
        refine xk_Po.go 2 rfl ?_
        have hq := ih (k + 1) y o2 (by omega)
        rw [← xn_suc k] at hq
        exact hq
      by_cases h0 : g (9 + (v * 10 + k)) = 0
      · rw [show m_cle g v k = m_no from if_pos h0, m_b_no]
        refine xk_Po.go 12 rfl ?_
        rw [s_lg v k]
        refine xk_Po.ok rfl rfl (xn_ix (j := 9 + (v * 10 + k)) (by omega) (by omega)) ?_
        rw [xn_nat (j := 9 + (v * 10 + k)) (by omega), s_mk_w _ _ (9 + (v * 10 + k)) (by omega) (by omega), h0]
        refine xk_Po.go 1 rfl ?_
        exact next _ o
      · rw [show m_cle g v k = m_for (fun w => m_ex ((g (9 + (v * 10 + k)) - 1) * 4 + w) 0) 4 0 from if_neg h0]
        refine xk_Po.mono (xk_Po.loopS (σ := Bool × s_S) 4 (fun j0 => [.ref 10, .int (Int32.ofNat v), .int (Int32.ofNat from_), .int (Int32.ofNat k), .int (Int32.ofNat j0)]) (fun o => mp p th pr ta (s_mk t0 g) mo cv cg cT cp r o) (fun m0 j0 o => fun z => z = (.inl none, 0, mp p th pr ta (s_mk t0 g) mo cv cg cT cp r (m_b (m_b o (m_for (fun w => m_ex ((g (9 + (v * 10 + k)) - 1) * 4 + w) 0) m0 j0)) (m_for (m_cle g v) n (k + 1))))) (fun m0 j0 o hj0 ih0 => ?_) (fun o => ?_) o) (fun z hz => hz)
        · rw [← xn_suc j0] at ih0
          refine xk_Po.go 2 rfl ?_
          refine xk_Po.br rfl rfl (fun hZ => absurd ((xn_le (a := 4) (b := j0) (by omega) (by omega)).1 hZ) (by omega)) (fun _ => ?_)
          refine xk_Po.go 9 rfl ?_
          rw [s_lg v k]
          refine xk_Po.ok rfl rfl (xn_ix (j := 9 + (v * 10 + k)) (by omega) (by omega)) ?_
          rw [xn_nat (j := 9 + (v * 10 + k)) (by omega), s_mk_w _ _ (9 + (v * 10 + k)) (by omega) (by omega)]
          refine xk_Po.br rfl rfl (fun hZ => absurd ((xn_le0 (by omega)).1 hZ) h0) (fun _ => ?_)
          refine xk_Po.go 10 rfl ?_
          rw [s_lg v k]
          refine xk_Po.ok rfl rfl (xn_ix (j := 9 + (v * 10 + k)) (by omega) (by omega)) ?_
          rw [xn_nat (j := 9 + (v * 10 + k)) (by omega), s_mk_w _ _ (9 + (v * 10 + k)) (by omega) (by omega), show g (9 + (v * 10 + k)) = g (9 + (v * 10 + k)) - 1 + 1 by omega]
          refine xk_Po.go 2 rfl ?_
          refine xk_Po.cv4 rfl rfl (r_put (o := o) (x := g (9 + (v * 10 + k)) - 1) (k := j0) (y := 0) (by omega) (by omega)) ?_
          rw [show g (9 + (v * 10 + k)) - 1 + 1 - 1 = g (9 + (v * 10 + k)) - 1 by omega, ← m_b_for]
          refine xk_Po.go 2 rfl ?_
          exact ih0 _
        · rw [show m_for (fun w => m_ex ((g (9 + (v * 10 + k)) - 1) * 4 + w) 0) 0 4 = m_no from rfl, m_b_no]
          refine xk_Po.go 3 rfl ?_
          exact next _ o
  refine xk_Po.go 4 rfl ?_
  rw [show Int32.ofInt 2 * Int32.ofNat from_ = Int32.ofNat (2 * from_) from xn_mul 2 _]
  exact key _ (2 * from_) _ o (by omega)
theorem r_change_off {x : Int32} (hx : x = ta 0 + (if p_abs ta pr 4 = 0 then 1 else 2)) : xk_Ev (xp_P sc) 123 0 [.ref 10, .retAddr 0, .retAddr 0] [] (mw p th pr sl ex ta nx (0) lf mo cv cg cT cp r) (.inl none, 0, mw p th pr sl ex ta (s_seal nx x) (0) lf mo cv cg cT cp r) := by
  apply xk_Ev.of
  refine xk_Po.go 8 rfl ?_
  refine xk_Po.ci1 rfl rfl (r_isOneAbsent (on := 0)) ?_
  have key : ∀ y : Int32, y = x → xk_Po (xp_P sc) 123 14 [.ref 10, .retAddr 0, .retAddr 0] [.int y, .int 0, .ref 15] (mw p th pr sl ex ta nx (0) lf mo cv cg cT cp r) (fun z => z = (.inl none, 0, mw p th pr sl ex ta (s_seal nx x) (0) lf mo cv cg cT cp r)) := by
    intro y hy
    subst hy
    refine xk_Po.go 16 rfl ?_
    refine xk_Po.loop 49 (fun j0 => [.ref 10, .int (Int32.ofNat j0), .retAddr 0]) (fun j0 => mw p th pr sl ex ta (p_sl nx y j0) (0) lf mo cv cg cT cp r) (fun _ _ => fun z => z = (.inl none, 0, mw p th pr sl ex ta (s_seal nx y) (0) lf mo cv cg cT cp r)) (fun m0 j0 hj0 ih0 => ?_) ?_
    · refine xk_Po.go 2 rfl ?_
      refine xk_Po.br rfl rfl (fun hZ => absurd ((xn_le (a := 49) (b := j0) (by omega) (by omega)).1 hZ) (by omega)) (fun _ => ?_)
      refine xk_Po.go 10 rfl ?_
      refine xk_Po.ok rfl rfl (xn_ix (j := j0) (by omega) (by omega)) ?_
      rw [xn_nat (j := j0) (by omega)]
      refine xk_Po.go 8 rfl ?_
      rw [← xn_suc j0] at ih0
      exact ih0
    · rw [p_sl_eq]
      refine xk_Po.go 14 rfl ?_
      exact xk_Po.ret rfl rfl
  refine xk_Po.br rfl rfl (fun h0 => ?_) (fun h0 => ?_)
  · refine xk_Po.go 2 rfl ?_
    exact key _ (by rw [hx, if_pos h0]; rfl)
  · refine xk_Po.go 3 rfl ?_
    exact key _ (by rw [hx, if_neg h0]; rfl)
end XkMce
