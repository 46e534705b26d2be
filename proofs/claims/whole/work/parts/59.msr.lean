section XkMsr
variable {sc : Nat × (Nat → Int32)} {p : xk_Ten} {pr sl ex ta nx : Nat → Int32} {th on lf mo cv cg cT cp : Int32} {r w : xk_W}
theorem r_start_on  : xk_Ev (xp_P sc) 159 0 [.ref 10, .retAddr 0, .retAddr 0, .retAddr 0, .retAddr 0] [] (mw p th pr sl ex ta nx (1) lf mo cv cg cT cp r) (.inl (some (.int 0)), 0, mw p (1) pr sl ex ta nx (1) lf mo cv cg cT cp r) := by
  apply xk_Ev.of
  refine xk_Po.go 11 rfl ?_
  exact xk_Po.iret rfl (rfl)
theorem n_cpa {sl t : Nat → Int32} {a j : Nat} : upd (va_cpy sl t a 0 j) j (sl (a + j)) = va_cpy sl t a 0 (j + 1) := by
  funext i
  unfold upd va_cpy
  by_cases h : i = j
  · rw [if_pos h, if_pos ⟨by omega, by omega⟩, h, Nat.sub_zero]
  · rw [if_neg h]
    by_cases q : i < j
    · rw [if_pos ⟨by omega, by omega⟩, if_pos ⟨by omega, by omega⟩]
    · rw [if_neg (by omega), if_neg (by omega)]
theorem p_wt_neg {d : Nat} {t : Nat → Int32} {s : s_S} (h : s.2.2 = -1) : (p_wt d t s).1 = true ∧ (p_wt d t s).2.2.2 = -1 := by
  unfold p_wt
  exact m_for_neg (fun i u q => by rw [m_sl_neg q]; exact ⟨rfl, q⟩) 51 0 h
theorem r_sB {y2 y3 y4 : Value} {Φ : xk_R → Prop} (hb : ∀ i, pr i = 0 ∨ pr i = 1) (h : ∀ y3 y4, xk_Po (xp_P sc) 159 89 [.ref 10, .int (p_nwO sl (n_ab pr) 4).1, .int 4, y3, y4] [] (mw p th pr sl ex ((p_nwO sl (n_ab pr) 4).2) nx (1) lf mo cv cg cT cp r) Φ) : xk_Po (xp_P sc) 159 36 [.ref 10, .int 0, y2, y3, y4] [] (mw p th pr sl ex (fun _ => 0) nx (1) lf mo cv cg cT cp r) Φ := by
  refine xk_Po.go 2 rfl ?_
  have key : ∀ m j (y3 y4 : Value), j + m = 4 → xk_Po (xp_P sc) 159 38 [.ref 10, .int (p_nwO sl (n_ab pr) j).1, .int (Int32.ofNat j), y3, y4] [] (mw p th pr sl ex ((p_nwO sl (n_ab pr) j).2) nx (1) lf mo cv cg cT cp r) Φ := by
    intro m
    induction m with
    | zero =>
      intro j y3 y4 hj
      have e : j = 4 := by omega
      subst e
      refine xk_Po.go 3 rfl ?_
      exact h y3 y4
    | succ m ih =>
      intro j y3 y4 hj
      refine xk_Po.go 2 rfl ?_
      refine xk_Po.br rfl rfl (fun hZ => absurd ((xn_le (a := 4) (b := j) (by omega) (by omega)).1 hZ) (by omega)) (fun _ => ?_)
      refine xk_Po.go 2 rfl ?_
      have next : ∀ (y3 y4 : Value) (q : Int32 × (Nat → Int32)), q = p_nwO sl (n_ab pr) (j + 1) → xk_Po (xp_P sc) 159 87 [.ref 10, .int q.1, .int (Int32.ofNat j), y3, y4] [] (mw p th pr sl ex (q.2) nx (1) lf mo cv cg cT cp r) Φ := by
        intro y3 y4 q hq
        subst hq
        have hh := ih (j + 1) y3 y4 (by omega)
        rw [← xn_suc j] at hh
        exact xk_Po.go 2 rfl hh
      by_cases hp : pr j = 0
      · have e : p_nwO sl (n_ab pr) (j + 1) = p_nwO sl (n_ab pr) j := if_neg (fun q => by
          unfold n_ab at q
          rw [if_pos hp] at q
          exact absurd q (by decide))
        refine xk_Po.go 6 rfl ?_
        refine xk_Po.ok rfl rfl (xn_ix (j := j) (by omega) (by omega)) ?_
        rw [xn_nat (j := j) (by omega), hp]
        refine xk_Po.go 1 rfl ?_
        exact next _ _ _ e.symm
      · have e : p_nwO sl (n_ab pr) (j + 1) = p_nwI sl j 2 (p_nwO sl (n_ab pr) j) := if_pos (if_neg hp)
        have inner : ∀ n i (y4 : Value), i + n = 2 → xk_Po (xp_P sc) 159 43 [.ref 10, .int (p_nwI sl j i (p_nwO sl (n_ab pr) j)).1, .int (Int32.ofNat j), .int (Int32.ofNat i), y4] [] (mw p th pr sl ex ((p_nwI sl j i (p_nwO sl (n_ab pr) j)).2) nx (1) lf mo cv cg cT cp r) Φ := by
          intro n
          induction n with
          | zero =>
            intro i y4 hi
            have e2 : i = 2 := by omega
            subst e2
            refine xk_Po.go 3 rfl ?_
            exact next _ _ _ e.symm
          | succ n ihn =>
            intro i y4 hi
            have hd : j < 4 := by omega
            have hs : i < 2 := by omega
            have hlt := s_start_lt hd hs
            refine xk_Po.go 2 rfl ?_
            refine xk_Po.br rfl rfl (fun hZ => absurd ((xn_le (a := 2) (b := i) (by omega) (by omega)).1 hZ) (by omega)) (fun _ => ?_)
            refine xk_Po.go 3 rfl ?_
            refine xk_Po.ok rfl rfl (xn_ix (j := j) (by omega) (by omega)) ?_
            rw [xn_nat (j := j) (by omega)]
            refine xk_Po.br rfl rfl (fun hZ => absurd hZ hp) (fun _ => ?_)
            refine xk_Po.go 3 rfl ?_
            refine xk_Po.ci3 rfl rfl (r_numberOf hd hs) ?_
            refine xk_Po.go 1 rfl ?_
            have nx2 : ∀ (y4 : Value) (q : Int32 × (Nat → Int32)), q = p_nwI sl j (i + 1) (p_nwO sl (n_ab pr) j) → xk_Po (xp_P sc) 159 85 [.ref 10, .int q.1, .int (Int32.ofNat j), .int (Int32.ofNat i), y4] [] (mw p th pr sl ex (q.2) nx (1) lf mo cv cg cT cp r) Φ := by
              intro y4 q hq
              subst hq
              have hh := ihn (i + 1) y4 (by omega)
              rw [← xn_suc i] at hh
              exact xk_Po.go 2 rfl hh
            refine xk_Po.br rfl rfl (fun k0 => ?_) (fun k0 => ?_)
            · exact nx2 _ _ (if_neg (fun q => (xn_lt_le.1 q) k0)).symm
            · have e3 : p_nwI sl j (i + 1) (p_nwO sl (n_ab pr) j) = (s_ws sl (s_start j i), va_cpy sl (p_nwI sl j i (p_nwO sl (n_ab pr) j)).2 (s_start j i) 0 51) := if_pos (xn_lt_le.2 k0)
              refine xk_Po.go 3 rfl ?_
              refine xk_Po.ci3 rfl rfl (r_numberOf hd hs) ?_
              refine xk_Po.go 3 rfl ?_
              have e0 : (p_nwI sl j i (p_nwO sl (n_ab pr) j)).2 = va_cpy sl (p_nwI sl j i (p_nwO sl (n_ab pr) j)).2 (s_start j i) 0 0 := by
                funext q
                unfold va_cpy
                rw [if_neg (by omega)]
              rw [e0]
              refine xk_Po.loop 51 (fun j0 => [.ref 10, .int (s_ws sl (s_start j i)), .int (Int32.ofNat j), .int (Int32.ofNat i), .int (Int32.ofNat j0)]) (fun j0 => mw p th pr sl ex (va_cpy sl (p_nwI sl j i (p_nwO sl (n_ab pr) j)).2 (s_start j i) 0 j0) nx (1) lf mo cv cg cT cp r) (fun _ _ => Φ) (fun m0 j0 hj0 ih0 => ?_) ?_
              · rw [← xn_suc j0, ← n_cpa] at ih0
                refine xk_Po.go 2 rfl ?_
                refine xk_Po.br rfl rfl (fun hZ => absurd ((xn_le (a := 51) (b := j0) (by omega) (by omega)).1 hZ) (by omega)) (fun _ => ?_)
                refine xk_Po.go 14 rfl ?_
                rw [s_lo j i j0]
                refine xk_Po.ok rfl rfl (xn_ix (j := s_start j i + j0) (by omega) (by omega)) ?_
                rw [xn_nat (j := s_start j i + j0) (by omega)]
                refine xk_Po.ok rfl rfl (xn_ix (j := j0) (by omega) (by omega)) ?_
                rw [xn_nat (j := j0) (by omega)]
                exact xk_Po.go 2 rfl ih0
              · refine xk_Po.go 3 rfl ?_
                exact nx2 _ (s_ws sl (s_start j i), va_cpy sl (p_nwI sl j i (p_nwO sl (n_ab pr) j)).2 (s_start j i) 0 51) e3.symm
        exact inner 2 0 _ rfl
  exact key 4 0 _ _ rfl
theorem r_sC {f : Nat → Nat} {N : Int32} {s : s_S} {y2 y3 y4 : Value} {Φ : xk_R → Prop} (T : s_Tv ta f) (hs : s.2.2 = -1) (h : xk_Po (xp_P sc) 159 125 [.ref 10, .int N, .int 4, y3, y4] [] (mp p th pr ta nx mo cv cg cT cp r (p_sta ta (n_ab pr) N s)) Φ) : xk_Po (xp_P sc) 159 89 [.ref 10, .int N, y2, y3, y4] [] (mp p th pr ta nx mo cv cg cT cp r (true, s)) Φ := by
  refine xk_Po.go 2 rfl ?_
  unfold p_sta at h
  have key : ∀ m j (u : s_S), j + m = 4 → u.2.2 = -1 → m_for (fun d s => if (¬ ta (1 + d) = 0 ∧ n_ab pr d = 0) ∧ ¬ (s_ws s.1 (s_start d 0) = N ∨ s_ws s.1 (s_start d 1) = N) then p_wt d ta s else (true, s)) m j u = m_for (fun d s => if (¬ ta (1 + d) = 0 ∧ n_ab pr d = 0) ∧ ¬ (s_ws s.1 (s_start d 0) = N ∨ s_ws s.1 (s_start d 1) = N) then p_wt d ta s else (true, s)) 4 0 s → xk_Po (xp_P sc) 159 91 [.ref 10, .int N, .int (Int32.ofNat j), y3, y4] [] (mp p th pr ta nx mo cv cg cT cp r (true, u)) Φ := by
    intro m
    induction m with
    | zero =>
      intro j u hj hu he
      have e : j = 4 := by omega
      subst e
      rw [← he] at h
      exact xk_Po.go 3 rfl h
    | succ m ih =>
      intro j u hj hu he
      have hd : j < 4 := by omega
      have hE := T.e j hd
      refine xk_Po.go 2 rfl ?_
      refine xk_Po.br rfl rfl (fun hZ => absurd ((xn_le (a := 4) (b := j) (by omega) (by omega)).1 hZ) (by omega)) (fun _ => ?_)
      refine xk_Po.go 5 rfl ?_
      refine xk_Po.ok rfl rfl (xn_ixa (a := 1) (j := j) (by omega) (by omega)) ?_
      rw [show (Int32.ofInt 1 + Int32.ofNat j).toNatClampNeg = 1 + j from xn_nata (a := 1) (j := j) (by omega)]
      have hD : ta (1 + j) ≤ 0 ↔ ta (1 + j) = 0 := by
        rw [T.w (1 + j) (by omega) (by omega), xn_le0 (by omega)]
        exact (xn_inj (b := 0) (by omega) (by omega)).symm
      have skip : ¬ ((¬ ta (1 + j) = 0 ∧ n_ab pr j = 0) ∧ ¬ (s_ws u.1 (s_start j 0) = N ∨ s_ws u.1 (s_start j 1) = N)) → xk_Po (xp_P sc) 159 123 [.ref 10, .int N, .int (Int32.ofNat j), y3, y4] [] (mp p th pr ta nx mo cv cg cT cp r (true, u)) Φ := by
        intro hc
        have hh := ih (j + 1) u (by omega) hu ((m_for_ok (if_neg hc)).symm.trans he)
        rw [← xn_suc j] at hh
        exact xk_Po.go 2 rfl hh
      refine xk_Po.br rfl rfl (fun k0 => skip (fun q => q.1.1 (hD.1 k0))) (fun k0 => ?_)
      have k0 : ¬ ta (1 + j) = 0 := fun q => k0 (hD.2 q)
      refine xk_Po.go 3 rfl ?_
      refine xk_Po.ok rfl rfl (xn_ix (j := j) (by omega) (by omega)) ?_
      rw [xn_nat (j := j) (by omega)]
      refine xk_Po.br rfl rfl (fun k1 => skip (fun q => by
        have := q.1.2
        unfold n_ab at this
        rw [if_pos k1] at this
        exact absurd this (by decide))) (fun k1 => ?_)
      refine xk_Po.go 3 rfl ?_
      refine xk_Po.ci3 rfl rfl (r_numberOf hd (s := 0) (by omega)) ?_
      refine xk_Po.go 1 rfl ?_
      refine xk_Po.br rfl rfl (fun k2 => skip (fun q => q.2 (.inl k2))) (fun k2 => ?_)
      refine xk_Po.go 3 rfl ?_
      refine xk_Po.ci3 rfl rfl (r_numberOf hd (s := 1) (by omega)) ?_
      refine xk_Po.go 1 rfl ?_
      refine xk_Po.br rfl rfl (fun k3 => skip (fun q => q.2 (.inr k3))) (fun k3 => ?_)
      refine xk_Po.go 4 rfl ?_
      refine xk_Po.cv3 rfl rfl (t_writeTo (s := u) hd) ?_
      obtain ⟨w1, w2⟩ := p_wt_neg (d := j) (t := ta) hu
      have hh := ih (j + 1) (p_wt j ta u).2 (by omega) w2 ((m_for_ok ((if_pos ⟨⟨k0, if_neg k1⟩, fun q => q.elim k2 k3⟩).trans (m_true w1))).symm.trans he)
      rw [← xn_suc j, ← m_true w1] at hh
      exact xk_Po.go 2 rfl hh
  exact key 4 0 s rfl hs rfl
end XkMsr
