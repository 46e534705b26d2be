section XkMs2
variable {sc : Nat × (Nat → Int32)} {p : xk_Ten} {pr sl ex ta nx : Nat → Int32} {th on lf mo cv cg cT cp : Int32} {r w : xk_W}
/-- twins are made alike -/
def m_ali (f : Nat → Nat) (pr : Nat → Int32) (i : Nat) : s_M := if n_rdb (f (9 + 2 * i)) pr ∧ n_rdb (f (9 + (2 * i + 1))) pr then m_for (fun w => m_cp ((f (9 + (2 * i + 1)) - 1) * 4 + w) ((f (9 + 2 * i) - 1) * 4 + w)) 4 0 else m_no
theorem m_cp_neg {a b : Nat} {s : s_S} (h : s.2.2 = -1) : m_cp a b s = (true, (s.1, upd s.2.1 a (s.2.1 b), s.2.2)) := m_ex_neg h
theorem m_ali_neg {f : Nat → Nat} {pr : Nat → Int32} {i : Nat} {s : s_S} (h : s.2.2 = -1) : (m_ali f pr i s).1 = true ∧ (m_ali f pr i s).2.2.2 = -1 := by
  unfold m_ali
  split
  · exact m_for_neg (fun i u q => by rw [m_cp_neg q]; exact ⟨rfl, q⟩) 4 0 h
  · exact ⟨rfl, h⟩
theorem m_ali_sl (f : Nat → Nat) (pr : Nat → Int32) (i : Nat) (s : s_S) : (m_ali f pr i s).2.1 = s.1 := by
  unfold m_ali
  split
  · exact m_for_sl (fun i u => m_cp_sl _ _ u) 4 0 s
  · rfl
theorem r_sD {f : Nat → Nat} {N : Int32} {s : s_S} {y2 y3 y4 : Value} {Φ : xk_R → Prop} (T : s_Tv ta f) (hb : ∀ i, pr i = 0 ∨ pr i = 1) (hs : s.2.2 = -1) (h : ∀ y2 y3, xk_Po (xp_P sc) 159 177 [.ref 10, .int N, y2, y3, y4] [] (mp p th pr ta nx mo cv cg cT cp r (m_for (m_ali f pr) 20 0 s)) Φ) : xk_Po (xp_P sc) 159 125 [.ref 10, .int N, y2, y3, y4] [] (mp p th pr ta nx mo cv cg cT cp r (true, s)) Φ := by
  refine xk_Po.go 2 rfl ?_
  have key : ∀ m i (y3 : Value) (u : s_S), i + m = 20 → u.2.2 = -1 → m_for (m_ali f pr) m i u = m_for (m_ali f pr) 20 0 s → xk_Po (xp_P sc) 159 127 [.ref 10, .int N, .int (Int32.ofNat (9 + 2 * i)), y3, y4] [] (mp p th pr ta nx mo cv cg cT cp r (true, u)) Φ := by
    intro m
    induction m with
    | zero =>
      intro i y3 u hi hu he
      have e : i = 20 := by omega
      subst e
      have hh := h (.int 49) y3
      rw [← he] at hh
      exact xk_Po.go 3 rfl hh
    | succ m ih =>
      intro i y3 u hi hu he
      have l0 := T.l (2 * i) (by omega)
      have l1 := T.l (2 * i + 1) (by omega)
      refine xk_Po.go 2 rfl ?_
      refine xk_Po.br rfl rfl (fun hZ => absurd ((xn_le (a := 49) (b := 9 + 2 * i) (by omega) (by omega)).1 hZ) (by omega)) (fun _ => ?_)
      refine xk_Po.go 2 rfl ?_
      have next : ∀ (y3 : Value) (v : s_S), v.2.2 = -1 → m_for (m_ali f pr) m (i + 1) v = m_for (m_ali f pr) 20 0 s → xk_Po (xp_P sc) 159 175 [.ref 10, .int N, .int (Int32.ofNat (9 + 2 * i)), y3, y4] [] (mp p th pr ta nx mo cv cg cT cp r (true, v)) Φ := by
        intro y3 v hv hm
        have hh := ih (i + 1) y3 v (by omega) hv hm
        rw [show Int32.ofNat (9 + 2 * (i + 1)) = Int32.ofNat (9 + 2 * i) + Int32.ofInt 2 from (xn_add (9 + 2 * i) 2).symm] at hh
        exact xk_Po.go 2 rfl hh
      have test0 : ∀ (j : Int32) (v : s_S), j < Int32.ofInt 4 → (n_rdb (f (9 + 2 * i)) pr → xk_Po (xp_P sc) 159 142 [.ref 10, .int N, .int (Int32.ofNat (9 + 2 * i)), .int j, y4] [] (mp p th pr ta nx mo cv cg cT cp r (true, v)) Φ) → (¬ n_rdb (f (9 + 2 * i)) pr → xk_Po (xp_P sc) 159 175 [.ref 10, .int N, .int (Int32.ofNat (9 + 2 * i)), .int j, y4] [] (mp p th pr ta nx mo cv cg cT cp r (true, v)) Φ) → xk_Po (xp_P sc) 159 132 [.ref 10, .int N, .int (Int32.ofNat (9 + 2 * i)), .int j, y4] [] (mp p th pr ta nx mo cv cg cT cp r (true, v)) Φ := by
        intro j v hj hy hn
        refine xk_Po.go 2 rfl ?_
        refine xk_Po.br rfl rfl (fun hZ => absurd hZ (xn_lt_le.1 hj)) (fun _ => ?_)
        refine xk_Po.go 4 rfl ?_
        refine xk_Po.ok rfl rfl (xn_ix (j := 9 + 2 * i) (by omega) (by omega)) ?_
        rw [xn_nat (j := 9 + 2 * i) (by omega), T.w (9 + 2 * i) (by omega) (by omega)]
        by_cases q : n_rdb (f (9 + 2 * i)) pr
        · refine xk_Po.ci2 rfl rfl (r_rd1 (by omega) q hb) ?_
          exact xk_Po.go 1 rfl (hy q)
        · refine xk_Po.ci2 rfl rfl (r_rd0 (by omega) q hb) ?_
          exact xk_Po.go 1 rfl (hn q)
      have test1 : ∀ (j : Int32) (v : s_S), (n_rdb (f (9 + (2 * i + 1))) pr → xk_Po (xp_P sc) 159 151 [.ref 10, .int N, .int (Int32.ofNat (9 + 2 * i)), .int j, y4] [] (mp p th pr ta nx mo cv cg cT cp r (true, v)) Φ) → (¬ n_rdb (f (9 + (2 * i + 1))) pr → xk_Po (xp_P sc) 159 175 [.ref 10, .int N, .int (Int32.ofNat (9 + 2 * i)), .int j, y4] [] (mp p th pr ta nx mo cv cg cT cp r (true, v)) Φ) → xk_Po (xp_P sc) 159 142 [.ref 10, .int N, .int (Int32.ofNat (9 + 2 * i)), .int j, y4] [] (mp p th pr ta nx mo cv cg cT cp r (true, v)) Φ := by
        intro j v hy hn
        refine xk_Po.go 6 rfl ?_
        rw [show Int32.ofNat (9 + 2 * i) + Int32.ofInt 1 = Int32.ofNat (9 + (2 * i + 1)) from xn_suc _]
        refine xk_Po.ok rfl rfl (xn_ix (j := 9 + (2 * i + 1)) (by omega) (by omega)) ?_
        rw [xn_nat (j := 9 + (2 * i + 1)) (by omega), T.w (9 + (2 * i + 1)) (by omega) (by omega)]
        by_cases q : n_rdb (f (9 + (2 * i + 1))) pr
        · refine xk_Po.ci2 rfl rfl (r_rd1 (by omega) q hb) ?_
          exact xk_Po.go 1 rfl (hy q)
        · refine xk_Po.ci2 rfl rfl (r_rd0 (by omega) q hb) ?_
          exact xk_Po.go 1 rfl (hn q)
      by_cases hc : n_rdb (f (9 + 2 * i)) pr ∧ n_rdb (f (9 + (2 * i + 1))) pr
      · have em : m_ali f pr i = m_for (fun w => m_cp ((f (9 + (2 * i + 1)) - 1) * 4 + w) ((f (9 + 2 * i) - 1) * 4 + w)) 4 0 := if_pos hc
        have inner : ∀ n k (v : s_S), k + n = 4 → v.2.2 = -1 → m_seq (m_for (fun w => m_cp ((f (9 + (2 * i + 1)) - 1) * 4 + w) ((f (9 + 2 * i) - 1) * 4 + w)) n k) (m_for (m_ali f pr) m (i + 1)) v = m_for (m_ali f pr) 20 0 s → xk_Po (xp_P sc) 159 132 [.ref 10, .int N, .int (Int32.ofNat (9 + 2 * i)), .int (Int32.ofNat k), y4] [] (mp p th pr ta nx mo cv cg cT cp r (true, v)) Φ := by
          intro n
          induction n with
          | zero =>
            intro k v hk hv hm
            have e : k = 4 := by omega
            subst e
            rw [show m_for (fun w => m_cp ((f (9 + (2 * i + 1)) - 1) * 4 + w) ((f (9 + 2 * i) - 1) * 4 + w)) 0 4 = m_no from rfl, m_seq_no] at hm
            refine xk_Po.go 3 rfl ?_
            exact next _ v hv hm
          | succ n ihn =>
            intro k v hk hv hm
            refine test0 _ v ((xn_lt (a := k) (b := 4) (by omega) (by omega)).2 (by omega)) (fun _ => test1 _ v (fun _ => ?_) (fun q => absurd hc.2 q)) (fun q => absurd hc.1 q)
            refine xk_Po.go 8 rfl ?_
            rw [show Int32.ofNat (9 + 2 * i) + Int32.ofInt 1 = Int32.ofNat (9 + (2 * i + 1)) from xn_suc _]
            refine xk_Po.ok rfl rfl (xn_ix (j := 9 + (2 * i + 1)) (by omega) (by omega)) ?_
            rw [xn_nat (j := 9 + (2 * i + 1)) (by omega), T.w (9 + (2 * i + 1)) (by omega) (by omega)]
            refine xk_Po.go 9 rfl ?_
            refine xk_Po.ok rfl rfl (xn_ix (j := 9 + 2 * i) (by omega) (by omega)) ?_
            rw [xn_nat (j := 9 + 2 * i) (by omega), T.w (9 + 2 * i) (by omega) (by omega)]
            refine xk_Po.go 1 rfl ?_
            have h0 := hc.1.1
            have h1 := hc.2.1
            have hg := r_get (sc := sc) (p := p) (th := th) (pr := pr) (sl := v.1) (ex := v.2.1) (ta := ta) (nx := nx) (on := 1) (lf := v.2.2) (mo := mo) (cv := cv) (cg := cg) (cT := cT) (cp := cp) (r := r) (x := f (9 + 2 * i) - 1) (k := k) (by omega) (by omega)
            rw [show f (9 + 2 * i) - 1 + 1 = f (9 + 2 * i) by omega] at hg
            refine xk_Po.ci3 rfl rfl hg ?_
            have ea : Int32.ofInt 4 * (Int32.ofNat (f (9 + (2 * i + 1))) - Int32.ofInt 1) + Int32.ofNat k = Int32.ofNat ((f (9 + (2 * i + 1)) - 1) * 4 + k) := by
              have := s_at_eq (x := f (9 + (2 * i + 1)) - 1) (k := k)
              rw [show f (9 + (2 * i + 1)) - 1 + 1 = f (9 + (2 * i + 1)) by omega] at this
              exact this
            rw [ea]
            refine xk_Po.ok rfl rfl (xn_ix (j := (f (9 + (2 * i + 1)) - 1) * 4 + k) (by omega) (by omega)) ?_
            rw [xn_nat (j := (f (9 + (2 * i + 1)) - 1) * 4 + k) (by omega)]
            have hh := ihn (k + 1) (v.1, upd v.2.1 ((f (9 + (2 * i + 1)) - 1) * 4 + k) (v.2.1 ((f (9 + 2 * i) - 1) * 4 + k)), v.2.2) (by omega) hv (by
              rw [← hm]
              show _ = m_seq (m_seq (m_cp ((f (9 + (2 * i + 1)) - 1) * 4 + k) ((f (9 + 2 * i) - 1) * 4 + k)) _) _ v
              rw [m_seq_assoc]
              show _ = (if (m_cp _ _ v).1 = true then _ else _)
              rw [m_cp_neg hv, if_pos rfl])
            rw [← xn_suc k] at hh
            exact xk_Po.go 2 rfl hh
        refine inner 4 0 u rfl hu ?_
        rw [← he, ← em]
        rfl
      · have em : m_ali f pr i = m_no := if_neg hc
        have hm : m_for (m_ali f pr) m (i + 1) u = m_for (m_ali f pr) 20 0 s := by
          rw [← he]
          show _ = m_seq (m_ali f pr i) _ u
          rw [em, m_seq_no]
        refine test0 _ u (by decide) (fun q => test1 _ u (fun q2 => absurd ⟨q, q2⟩ hc) (fun _ => next _ u hu hm)) (fun _ => next _ u hu hm)
  exact key 20 0 _ s rfl hs rfl
theorem r_start {B : Nat} {ab : Nat → Int32} (V : s_Sv B sl) (hb : ∀ i, ab i = 0 ∨ ab i = 1) (hB : B < 2147483648) (hpr : pr = n_pr ab) (hz : ∀ i, 51 ≤ i → ta i = 0) {f : Nat → Nat} {n : Nat} (T : s_Tv (n_tb sl (s_nwO sl ab 4)) f) (hn : (s_nwO sl ab 4).2 = Int32.ofNat n) (hnB : n ≤ B) (hW : ∀ d u, d < 4 → u < 2 → ab d = 0 → n_ws sl (s_start d u) ≤ n) (hS : (n = 0 ∧ ∀ i, f i = 0) ∨ (0 < n ∧ s_Sd (n_tb sl (s_nwO sl ab 4)) n)) : xk_Ev (xp_P sc) 159 0 [.ref 10, .retAddr 0, .retAddr 0, .retAddr 0, .retAddr 0] [] (mw p th pr sl ex ta nx (0) (-1) mo cv cg cT cp r) (.inl (some (.int ((s_nwO sl ab 4).2))), 0, mw p (0) pr ((m_for (m_ali f pr) 20 0 (m_sta (n_tb sl (s_nwO sl ab 4)) ab ((s_nwO sl ab 4).2) (sl, ex, -1)).2).2.1) ((m_for (m_ali f pr) 20 0 (m_sta (n_tb sl (s_nwO sl ab 4)) ab ((s_nwO sl ab 4).2) (sl, ex, -1)).2).2.2.1) (n_tb sl (s_nwO sl ab 4)) nx (1) (-1) (-1) cv cg (0) cp r) := by
  have hbp : ∀ i, pr i = 0 ∨ pr i = 1 := by rw [hpr]; exact n_pr_b ab
  have eab : n_ab pr = ab := by rw [hpr]; exact n_ab_pr hb
  have ok := m_sta_ok (s := (sl, ex, -1)) (ab := ab) V hB T hnB hW hS rfl
  rw [← hn] at ok
  obtain ⟨o1, o2, o3, o4, o5⟩ := ok
  have oa : (m_for (m_ali f pr) 20 0 (m_sta (n_tb sl (s_nwO sl ab 4)) ab ((s_nwO sl ab 4).2) (sl, ex, -1)).2).1 = true ∧ (m_for (m_ali f pr) 20 0 (m_sta (n_tb sl (s_nwO sl ab 4)) ab ((s_nwO sl ab 4).2) (sl, ex, -1)).2).2.2.2 = -1 := m_for_neg (fun i s h => m_ali_neg h) 20 0 (by rw [o3])
  apply xk_Ev.of
  refine xk_Po.go 22 rfl ?_
  refine xk_Po.loop 51 (fun j0 => [.ref 10, .int 0, .int (Int32.ofNat j0), .retAddr 0, .retAddr 0]) (fun j0 => mw p (0) pr sl ex (s_clr ta (fun _ => True) 0 j0) nx (1) (-1) (-1) cv cg (0) cp r) (fun _ _ => fun z => z = (.inl (some (.int ((s_nwO sl ab 4).2))), 0, mw p (0) pr ((m_for (m_ali f pr) 20 0 (m_sta (n_tb sl (s_nwO sl ab 4)) ab ((s_nwO sl ab 4).2) (sl, ex, -1)).2).2.1) ((m_for (m_ali f pr) 20 0 (m_sta (n_tb sl (s_nwO sl ab 4)) ab ((s_nwO sl ab 4).2) (sl, ex, -1)).2).2.2.1) (n_tb sl (s_nwO sl ab 4)) nx (1) (-1) (-1) cv cg (0) cp r)) (fun m0 j0 hj0 ih0 => ?_) ?_
  · refine xk_Po.go 2 rfl ?_
    refine xk_Po.br rfl rfl (fun hZ => absurd hZ (fun q => absurd ((xn_le (a := 51) (b := j0) (by omega) (by omega)).1 q) (by omega))) (fun _ => ?_) -- 28 .if_icmp .ge 36
    refine xk_Po.go 4 rfl ?_
    refine xk_Po.ok rfl rfl (xn_ix (j := j0) (by omega) (by omega)) ?_ -- 33 .iastore
    rw [xn_nat (j := j0) (by omega)]
    refine xk_Po.go 2 rfl ?_
    rw [← xn_suc j0, show s_clr ta (fun _ => True) 0 (j0 + 1) = upd (s_clr ta (fun _ => True) 0 j0) j0 0 from (if_pos trivial).trans (congrArg (fun q => upd (s_clr ta (fun _ => True) 0 j0) q 0) (Nat.zero_add j0))] at ih0
    exact ih0
  · have e0 : s_clr ta (fun _ => True) 0 51 = fun _ => 0 := by
      funext i
      rw [s_clr_eq]
      by_cases q : i < 51
      · rw [if_pos ⟨by omega, by omega, trivial⟩]
      · rw [if_neg (by omega), hz i (by omega)]
    rw [e0]
    refine xk_Po.go 3 rfl ?_
    refine r_sB hbp (fun y3 y4 => ?_)
    rw [eab, p_nwO_eq sl ab 4 (by omega)]
    refine r_sC (s := (sl, ex, -1)) T rfl ?_
    rw [eab, o5, m_true o1]
    refine r_sD T hbp (by rw [o3]) (fun y2 y3 => ?_)
    rw [m_true oa.1]
    refine xk_Po.go 1 rfl ?_
    refine xk_Po.iret rfl ?_
    rw [mp_on, oa.2]
end XkMs2
