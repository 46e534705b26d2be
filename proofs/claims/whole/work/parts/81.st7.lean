section XkSt7
theorem R_seq {B : Nat} {th : Int32} {ou : Nat → Int64} {sl ab ta D0 : Nat → Int32} {f g : Nat → Nat} {n dN mN xN cN k : Nat} {mc cv cg cT cp : Int32} {X : s_M} {s : s_S} {a b : Nat} (N : s_Non B sl ab ta f n dN mN xN cN mc cv cg cT cp) (hB : B + 2 < 2147483648) (hs : s.1 = sl) (hX : ∀ s : s_S, (X s).2.1 = s.1) (T : s_Tv D0 g) (hk : k = 1 ∨ k = 2) (h1 : dN < 4 → n_all g ab) (h2 : mN < 40 → g (9 + mN) ≠ 0 → n_tg g xN) (hab : mN < 40 → a * 10 + b = mN) (hgm : mN < 40 → g (9 + mN) = f (9 + mN) ∨ g (9 + mN) = 0) (ho : (m_seq X (m_com (s_seal D0 (Int32.ofNat (n + k))) ab) s).1 = true) : s_R (B + 2) th ou (cw (m_seq X (m_com (s_seal D0 (Int32.ofNat (n + k))) ab) s).2.1 (m_seq X (m_com (s_seal D0 (Int32.ofNat (n + k))) ab) s).2.2.1 ab (s_seal D0 (Int32.ofNat (n + k))) (s_seal D0 (Int32.ofNat (n + k))) (n_md dN) (n_ml (n_mx g mN xN).1) (n_mt (n_mx g mN xN).2) mc 1 (m_seq X (m_com (s_seal D0 (Int32.ofNat (n + k))) ab) s).2.2.2 (mrr th (n_pr ab) (m_seq X (m_com (s_seal D0 (Int32.ofNat (n + k))) ab) s).2.1 (m_seq X (m_com (s_seal D0 (Int32.ofNat (n + k))) ab) s).2.2.1 (s_seal D0 (Int32.ofNat (n + k))) (s_seal D0 (Int32.ofNat (n + k))) 1 (m_seq X (m_com (s_seal D0 (Int32.ofNat (n + k))) ab) s).2.2.2 (n_md dN) cv cg (p_cT (s_seal D0 (Int32.ofNat (n + k))) ta cT (9 + (a * 10 + b))) (cp) (ou))) := by
  by_cases q : (X s).1 = true
  · rw [show m_seq X (m_com (s_seal D0 (Int32.ofNat (n + k))) ab) s = m_com (s_seal D0 (Int32.ofNat (n + k))) ab (X s).2 from if_pos q]
    exact R_com (s := (X s).2) N hB ((hX s).trans hs) T hk h1 h2 hab hgm
  · rw [show m_seq X (m_com (s_seal D0 (Int32.ofNat (n + k))) ab) s = X s from if_neg q] at ho
    exact absurd ho q
theorem V_seq {B : Nat} {sl ab ta D0 : Nat → Int32} {f g : Nat → Nat} {n dN mN xN cN k : Nat} {X : s_M} {s : s_S} (O : s_On B sl ab ta f n dN mN xN cN) (hB : B + 2 < 2147483648) (hs : s.1 = sl) (hX : ∀ s : s_S, (X s).2.1 = s.1) (T : s_Tv D0 g) (hk : k = 1 ∨ k = 2) : s_Sv (B + 2) (m_seq X (m_com (s_seal D0 (Int32.ofNat (n + k))) ab) s).2.1 := by
  by_cases q : (X s).1 = true
  · rw [show m_seq X (m_com (s_seal D0 (Int32.ofNat (n + k))) ab) s = m_com (s_seal D0 (Int32.ofNat (n + k))) ab (X s).2 from if_pos q]
    exact V_com (s := (X s).2) O hB ((hX s).trans hs) T hk
  · rw [show m_seq X (m_com (s_seal D0 (Int32.ofNat (n + k))) ab) s = X s from if_neg q, hX s, hs]
    exact s_Sv_up (by omega) O.1
theorem n_shape_nat {q c : Int32} (h : n_shape q c) : ∃ a b, a < 3 ∧ b < 4 ∧ 1 ≤ b ∧ q = Int32.ofNat a ∧ c = Int32.ofNat b ∧ ((a = 1 ∧ (b = 2 ∨ b = 3)) ∨ (a ≠ 1 ∧ b = 1)) := by
  rcases h with ⟨h1, h2 | h2⟩ | ⟨_, h1 | h1, h2⟩
  · exact ⟨1, 2, by omega, by omega, by omega, h1, h2, .inl ⟨rfl, .inl rfl⟩⟩
  · exact ⟨1, 3, by omega, by omega, by omega, h1, h2, .inl ⟨rfl, .inr rfl⟩⟩
  · exact ⟨0, 1, by omega, by omega, by omega, h1, h2, .inr ⟨by omega, rfl⟩⟩
  · exact ⟨2, 1, by omega, by omega, by omega, h1, h2, .inr ⟨by omega, rfl⟩⟩
theorem n_desc : ∀ a, a < 3 → ∀ b, b < 4 → ((a = 1 ∧ (b = 2 ∨ b = 3)) ∨ (a ≠ 1 ∧ b = 1)) → ∀ k, k < 6 → 1 ≤ k → Int32.ofNat k % Int32.ofNat b = 0 → (1 + a + 4 * b + 32 * k) ∈ s_dv := by
  intro a ha b hb h k hk h1 hz
  have q12 : ∀ k, k < 6 → 1 ≤ k → Int32.ofNat k % Int32.ofNat 2 = 0 → (1 + 1 + 4 * 2 + 32 * k) ∈ s_dv := by decide
  have q13 : ∀ k, k < 6 → 1 ≤ k → Int32.ofNat k % Int32.ofNat 3 = 0 → (1 + 1 + 4 * 3 + 32 * k) ∈ s_dv := by decide
  have q01 : ∀ k, k < 6 → 1 ≤ k → (1 + 0 + 4 * 1 + 32 * k) ∈ s_dv := by decide
  have q21 : ∀ k, k < 6 → 1 ≤ k → (1 + 2 + 4 * 1 + 32 * k) ∈ s_dv := by decide
  rcases h with ⟨rfl, rfl | rfl⟩ | ⟨h2, rfl⟩
  · exact q12 k hk h1 hz
  · exact q13 k hk h1 hz
  · rcases (show a = 0 ∨ a = 2 by omega) with rfl | rfl
    · exact q01 k hk h1
    · exact q21 k hk h1
theorem n_desc2 (a b k : Nat) : (1 : Int32) + Int32.ofNat a + 4 * Int32.ofNat b + 32 * Int32.ofNat k = Int32.ofNat (1 + a + 4 * b + 32 * k) := by
  show Int32.ofNat 1 + Int32.ofNat a + Int32.ofNat 4 * Int32.ofNat b + Int32.ofNat 32 * Int32.ofNat k = _
  rw [xn_add, xn_mul, xn_add, xn_mul, xn_add]
theorem n_le6 {g : Int32} (h1 : ¬ g < Int32.ofInt 1) (h5 : ¬ Int32.ofInt 5 < g) : ∃ k, k < 6 ∧ 1 ≤ k ∧ g = Int32.ofNat k := by
  obtain ⟨k, hk, e⟩ := xn_of (g := g) (n := 6) (fun z => h1 (by rw [Int32.lt_iff_toInt_lt] at z ⊢; have q1 : (Int32.ofInt 1).toInt = 1 := (by decide); have q0 : (0 : Int32).toInt = 0 := (by decide); omega)) (fun z => h5 (by rw [Int32.le_iff_toInt_le] at z; rw [Int32.lt_iff_toInt_lt]; have q1 : (Int32.ofInt 5).toInt = 5 := (by decide); have q2 : (Int32.ofNat 6).toInt = 6 := (by decide); omega)) (by omega)
  refine ⟨k, hk, ?_, e⟩
  rcases Nat.eq_zero_or_pos k with z | z
  · rw [e, z] at h1
    exact absurd (by decide) h1
  · exact z
theorem t_3 {sc : Nat × (Nat → Int32)} {i B : Nat} {th : Int32} {ou : Nat → Int64} {W : xk_W} {y5 y6 : Value} {Φ : xk_R → Prop} (h : s_R B th ou W) (hB : B + 2 < 2147483648) (hi : i + 3 < sc.1) (hn0 : sc.1 < 2147483648) (K : s_K sc i B Φ) : xk_Po (xp_P sc) 180 103 [.ref 999, .ref 0, .ref 10, .ref 16, .int (Int32.ofNat i), y5, y6] [] W Φ := by
  rcases h with ⟨sl, ex, ab, ta, dr, nx, f, n, dN, mN, xN, cN, mc, ct, cv, cg, cT, cp, hd, hx, N, rfl⟩ | ⟨sl, ex, ab, ta, dr, nx, mc, cv, cg, cT, cp, hd, hx, hz, V, hb, hA, rfl⟩
  · have O := N.1
    have T := O.2.2.1
    have hb := O.2.1
    obtain ⟨hC, hQ⟩ := N.cp
    obtain ⟨M1, M2, M3, M4⟩ := O.2.2.2.2.2
    by_cases hs : n_shape (sc.2 (i + 1)) (sc.2 (i + 2))
    · obtain ⟨qn, cn, hq3, hc4, hc1, eq, ec, hqc⟩ := n_shape_nat hs
      obtain ⟨cn1, cn2⟩ := n_c1 hc1 hc4
      rw [← ec] at cn1 cn2
      have fit := n_fits (m := (sc.2 (i + 3))) cn1
      by_cases hf : (¬ (sc.2 (i + 3)) < Int32.ofInt 1 ∧ ¬ Int32.ofInt 5 < (sc.2 (i + 3)) ∧ ¬ (sc.2 (i + 2)) < Int32.ofInt 1 ∧ (sc.2 (i + 3)) % (sc.2 (i + 2)) = 0)
      · by_cases hq : n_all f ab
        · have lsl := n_ls_le (fun v => f (5 + v) = 0) 4 0
          by_cases h4 : n_ls (fun v => f (5 + v) = 0) 4 0 < 4
          · obtain ⟨v, hvl⟩ : ∃ v, n_ls (fun v => f (5 + v) = 0) 4 0 = v := ⟨_, rfl⟩
            have hv : v < 4 := by omega
            have f0 : f (5 + v) = 0 := by rw [← hvl]; exact lsl.2.2.1 (by omega)
            obtain ⟨k, hk6, hk1, em⟩ := n_le6 hf.1 hf.2.1
            have hD := n_desc qn hq3 cn hc4 hqc k hk6 hk1 (by rw [← em, ← ec]; exact hf.2.2.2)
            have hD2 : 1 + (sc.2 (i + 1)) + 4 * (sc.2 (i + 2)) + 32 * (sc.2 (i + 3)) = Int32.ofNat (1 + qn + 4 * cn + 32 * k) := by rw [eq, ec, em]; exact n_desc2 qn cn k
            have hl0 : ∀ i, i < 10 → f (9 + (v * 10 + i)) = 0 := fun i hi => Decidable.byContradiction (fun z => by have := T.g v i hv hi z; omega)
            have T1 : n_Tv (n_up f (5 + v) (1 + qn + 4 * cn + 32 * k)) := T.n.desc hv hD (fun i hi z => absurd (hl0 i hi) z)
            have hx1 : n_tg (n_up f (5 + v) (1 + qn + 4 * cn + 32 * k)) xN := fun z => by obtain ⟨q1, q2⟩ := M4 z; exact ⟨by rw [n_up_ne (by omega)]; exact q1, fun ⟨i, k1, k2⟩ => q2 ⟨i, k1, by rw [n_up_ne (by omega)] at k2; exact k2⟩⟩
            have e0 : ta 0 + 1 = Int32.ofNat (n + 1) := by rw [O.2.2.2.1.1]; exact xn_add n 1
            obtain ⟨a, b, ha, hb2, hcv, hcg, hab⟩ := id N.2.1
            cases hn : n_fil ab mN xN v (2 * ((n_up f (5 + v) (1 + qn + 4 * cn + 32 * k)) (5 + v) / 32) - 2 * 0) (2 * 0) (n_up f (5 + v) (1 + qn + 4 * cn + 32 * k)) with
            | none =>
              obtain ⟨d2, z2, cl⟩ := k_make_nr (sc := sc) (dr := dr) (md := n_md dN) (mc := mc) (r := mrr th (n_pr ab) sl ex ta nx 1 ct (n_md dN) cv cg cT cp ou) (m := mN) (x := xN) (s := (sl, ex, ct)) hs hf hb ((s_absent T).2 hq) T hd hv hvl hD2 (by omega) T1 M4 (fun z => (M2 z).2.1) hl0 hn
              obtain ⟨n2, y2, ml⟩ := r_make_nr (sc := sc) (p := c10 sl ex ab ta d2 (n_md dN) (n_ml mN) (n_mt xN) mc 1 ct) (th := th) (pr := n_pr ab) (sl := sl) (ex := ex) (ta := ta) (nx := nx) (lf := ct) (mo := n_md dN) (cv := cv) (cg := cg) (cT := cT) (cp := cp) (r := [.inl (2, 1, .inr (ou))]) hv hs cn2 (fun z => fit.1 z hf) ((p_abs_eq T 4 (by omega)).2 hq) hvl O hB rfl hx ha hb2 hcv hcg hC hQ hD2 (by omega) T1 hl0 hn
              refine l_3 hi hn0 (k := 3) (q := 1) (ou1 := ou) (b := 0) (fun z => absurd z (by decide)) ?_ ?_ (K 1 3 _ _ _ _ (by omega) (R_on (ou := ou) (sl := sl) (ex := ex) (ab := ab) (ta := ta) (dr := d2) (nx := n2) (f := f) (n := n) (dN := dN) (mN := mN) (xN := xN) (cN := cN) (mc := mc) (ct := ct) (cv := cv) (cg := cg) (cT := cT) (cp := cp) (by omega) z2 y2 N))
              · exact h_make_t cl rfl
              · simp only [fw_eq]; exact ml
            | some g =>
              obtain ⟨Tg, Gx, ⟨P1, P2, P3⟩, P4, P5⟩ := n_fil_ok hv _ _ _ g (by omega) (fun i _ hi => by rw [n_up_ne (by omega)]; exact hl0 i (by have := (s_dv_32 _ (T1.v v hv)).2; omega)) T1 hx1 hn
              have K4 : ∀ i, 2 * 0 ≤ i → i < 2 * ((n_up f (5 + v) (1 + qn + 4 * cn + 32 * k)) (5 + v) / 32) → (i % 2 = 0 ∨ (n_up f (5 + v) (1 + qn + 4 * cn + 32 * k)) (5 + v) % 4 = 3) → g (9 + (v * 10 + i)) ≠ 0 := fun i a1 a2 a3 => P5 i a1 (by omega) a3
              have TG := s_mk_Tv Tg T.z
              have g5 : g (5 + v) = (n_up f (5 + v) (1 + qn + 4 * cn + 32 * k)) (5 + v) := P1 _ (by omega)
              have hX : ∀ s : s_S, (m_for (m_cle g v) (2 * ((n_up f (5 + v) (1 + qn + 4 * cn + 32 * k)) (5 + v) / 32) - 2 * 0) (2 * 0) s).2.1 = s.1 := fun s => m_for_sl (fun i s => m_cle_sl g v i s) _ _ s
              have g9 : ∀ i, i < 9 → i ≠ 5 + v → g i = f i := fun i h1 h2 => by rw [P1 i h1, n_up_ne h2]
              have H1 : dN < 4 → n_all g ab := fun _ e he hne => hq e he (by rw [← g9 (1 + e) (by omega) (by omega)]; exact hne)
              have H3 : mN < 40 → g (9 + mN) = f (9 + mN) ∨ g (9 + mN) = 0 := fun z => .inl (by rw [P2 mN z (by rw [n_up_ne (by omega)]; exact (M2 z).2.1), n_up_ne (by omega)])
              by_cases ho : (m_seq (m_for (m_cle g v) (2 * ((n_up f (5 + v) (1 + qn + 4 * cn + 32 * k)) (5 + v) / 32) - 2 * 0) (2 * 0)) (m_com (s_seal (s_mk ta g) (Int32.ofNat (n + 1))) ab) (sl, ex, ct)).1 = true
              · have cl := k_make_1 (sc := sc) (dr := dr) (md := n_md dN) (mc := mc) (r := mrr th (n_pr ab) sl ex ta nx 1 ct (n_md dN) cv cg cT cp ou) (m := mN) (x := xN) (s := (sl, ex, ct)) hs hf hb ((s_absent T).2 hq) T hd hv hvl hD2 (by omega) T1 M4 (fun z => (M2 z).2.1) hl0 hn Tg P1 K4 (by rw [e0]; exact ho)
                rw [e0, s_ml_eq (s_seal_Tv TG)] at cl
                have ml := r_make1 (sc := sc) (p := c10 (m_seq (m_for (m_cle g v) (2 * ((n_up f (5 + v) (1 + qn + 4 * cn + 32 * k)) (5 + v) / 32) - 2 * 0) (2 * 0)) (m_com (s_seal (s_mk ta g) (Int32.ofNat (n + 1))) ab) (sl, ex, ct)).2.1 (m_seq (m_for (m_cle g v) (2 * ((n_up f (5 + v) (1 + qn + 4 * cn + 32 * k)) (5 + v) / 32) - 2 * 0) (2 * 0)) (m_com (s_seal (s_mk ta g) (Int32.ofNat (n + 1))) ab) (sl, ex, ct)).2.2.1 ab (s_seal (s_mk ta g) (Int32.ofNat (n + 1))) (s_seal (s_mk ta g) (Int32.ofNat (n + 1))) (n_md dN) (n_ml (n_mx g mN xN).1) (n_mt (n_mx g mN xN).2) mc 1 (m_seq (m_for (m_cle g v) (2 * ((n_up f (5 + v) (1 + qn + 4 * cn + 32 * k)) (5 + v) / 32) - 2 * 0) (2 * 0)) (m_com (s_seal (s_mk ta g) (Int32.ofNat (n + 1))) ab) (sl, ex, ct)).2.2.2) (th := th) (pr := n_pr ab) (sl := sl) (ex := ex) (ta := ta) (nx := nx) (lf := ct) (mo := n_md dN) (cv := cv) (cg := cg) (cT := cT) (cp := cp) (r := [.inl (2, 1, .inr (vp_updL ou 0 (Int32.ofNat v).toInt64))]) hv hs cn2 (fun z => fit.1 z hf) ((p_abs_eq T 4 (by omega)).2 hq) hvl O hB rfl hx ha hb2 hcv hcg hC hQ hD2 (by omega) T1 hl0 hn Tg hq (by rw [m_b_seq, m_b_on, g5]; exact ho)
                rw [m_b_seq, m_b_on, g5] at ml
                refine l_3 hi hn0 (k := 0) (q := 0) (ou1 := vp_updL ou 0 (Int32.ofNat v).toInt64) (b := Int32.ofNat v) (fun _ => if_pos rfl) ?_ ?_ (K 0 0 _ _ _ _ (by omega) (R_seq (ou := vp_updL ou 0 (Int32.ofNat v).toInt64) (X := m_for (m_cle g v) (2 * ((n_up f (5 + v) (1 + qn + 4 * cn + 32 * k)) (5 + v) / 32) - 2 * 0) (2 * 0)) (s := (sl, ex, ct)) (k := 1) (a := a) (b := b) N hB rfl hX TG (.inl rfl) H1 (fun _ _ => Gx) (fun z => by have := hab z; omega) H3 ho))
                · exact h_make cl
                · simp only [fw_eq]; exact ml
              · obtain ⟨d2, z2, cl⟩ := k_make_0 (sc := sc) (dr := dr) (md := n_md dN) (mc := mc) (r := mrr th (n_pr ab) sl ex ta nx 1 ct (n_md dN) cv cg cT cp ou) (m := mN) (x := xN) (s := (sl, ex, ct)) hs hf hb ((s_absent T).2 hq) T hd hv hvl hD2 (by omega) T1 M4 (fun z => (M2 z).2.1) hl0 hn Tg P1 K4 (by rw [e0]; exact ho)
                rw [e0] at cl
                have ml := r_make0 (sc := sc) (p := c10 (m_seq (m_for (m_cle g v) (2 * ((n_up f (5 + v) (1 + qn + 4 * cn + 32 * k)) (5 + v) / 32) - 2 * 0) (2 * 0)) (m_com (s_seal (s_mk ta g) (Int32.ofNat (n + 1))) ab) (sl, ex, ct)).2.1 (m_seq (m_for (m_cle g v) (2 * ((n_up f (5 + v) (1 + qn + 4 * cn + 32 * k)) (5 + v) / 32) - 2 * 0) (2 * 0)) (m_com (s_seal (s_mk ta g) (Int32.ofNat (n + 1))) ab) (sl, ex, ct)).2.2.1 ab ta d2 (-1) (-1) (-1) mc 0 (-1)) (th := th) (pr := n_pr ab) (sl := sl) (ex := ex) (ta := ta) (nx := nx) (lf := ct) (mo := n_md dN) (cv := cv) (cg := cg) (cT := cT) (cp := cp) (r := [.inl (2, 1, .inr (ou))]) hv hs cn2 (fun z => fit.1 z hf) ((p_abs_eq T 4 (by omega)).2 hq) hvl O hB rfl hx ha hb2 hcv hcg hC hQ hD2 (by omega) T1 hl0 hn Tg hq (by rw [m_b_seq, m_b_on, g5]; exact ho)
                rw [m_b_seq, m_b_on, g5] at ml
                refine l_3 hi hn0 (k := 1) (q := 1) (ou1 := ou) (b := 0) (fun z => absurd z (by decide)) ?_ ?_ (K 1 1 ou _ _ _ (by omega) (R_cut (o := m_seq (m_for (m_cle g v) (2 * ((n_up f (5 + v) (1 + qn + 4 * cn + 32 * k)) (5 + v) / 32) - 2 * 0) (2 * 0)) (m_com (s_seal (s_mk ta g) (Int32.ofNat (n + 1))) ab) (sl, ex, ct)) (mc2 := mc) (cp2 := cp) (cT2 := cT) (dr := d2) (nx := s_seal (s_mk ta g) (Int32.ofNat (n + 1))) N (V_seq O hB rfl hX TG (.inl rfl)) z2 (s_seal_z TG.z)))
                · exact h_make_t cl rfl
                · simp only [fw_eq]; exact ml
          · have h44 : n_ls (fun v => f (5 + v) = 0) 4 0 = 4 := by omega
            refine l_3 hi hn0 (k := 3) (q := 1) (ou1 := ou) (b := 0) (fun z => absurd z (by decide)) ?_ ?_ (K 1 3 _ _ _ _ (by omega) (R_on (ou := ou) (sl := sl) (ex := ex) (ab := ab) (ta := ta) (dr := dr) (nx := ta) (f := f) (n := n) (dN := dN) (mN := mN) (xN := xN) (cN := cN) (mc := mc) (ct := ct) (cv := cv) (cg := cg) (cT := cT) (cp := cp) (by omega) hd T.z N))
            · exact h_make_t (k_make_4 hs hf hb ((s_absent T).2 hq) T h44) rfl
            · simp only [fw_eq]; exact r_make_4 hs cn2 (fun z => fit.1 z hf) ((p_abs_eq T 4 (by omega)).2 hq) T hx h44
        · refine l_3 hi hn0 (k := 3) (q := 1) (ou1 := ou) (b := 0) (fun z => absurd z (by decide)) ?_ ?_ (K 1 3 _ _ _ _ (by omega) (R_on (ou := ou) (sl := sl) (ex := ex) (ab := ab) (ta := ta) (dr := dr) (nx := nx) (f := f) (n := n) (dN := dN) (mN := mN) (xN := xN) (cN := cN) (mc := mc) (ct := ct) (cv := cv) (cg := cg) (cT := cT) (cp := cp) (by omega) hd hx N))
          · exact h_make_t (k_make_ab hs hf hb (fun z => hq ((s_absent T).1 z))) rfl
          · simp only [fw_eq]; exact r_make_ab hs cn2 (fun z => fit.1 z hf) (fun z => hq ((p_abs_eq T 4 (by omega)).1 z))
      · refine l_3 hi hn0 (k := 2) (q := 1) (ou1 := ou) (b := 0) (fun z => absurd z (by decide)) ?_ ?_ (K 1 2 _ _ _ _ (by omega) (R_on (ou := ou) (sl := sl) (ex := ex) (ab := ab) (ta := ta) (dr := dr) (nx := nx) (f := f) (n := n) (dN := dN) (mN := mN) (xN := xN) (cN := cN) (mc := mc) (ct := ct) (cv := cv) (cg := cg) (cT := cT) (cp := cp) (by omega) hd hx N))
        · exact h_make_t (k_make_no hs hf) rfl
        · simp only [fw_eq]; exact r_make_no hs cn2 (fit.2 hf)
    · refine l_3 hi hn0 (k := 2) (q := 1) (ou1 := ou) (b := 0) (fun z => absurd z (by decide)) ?_ ?_ (K 1 2 _ _ _ _ (by omega) (R_on (ou := ou) (sl := sl) (ex := ex) (ab := ab) (ta := ta) (dr := dr) (nx := nx) (f := f) (n := n) (dN := dN) (mN := mN) (xN := xN) (cN := cN) (mc := mc) (ct := ct) (cv := cv) (cg := cg) (cT := cT) (cp := cp) (by omega) hd hx N))
      · exact h_make_t (k_make_ns hs) rfl
      · simp only [fw_eq]; exact r_make_ns hs
  · refine l_3 hi hn0 (k := 1) (q := 1) (ou1 := ou) (b := 0) (fun z => absurd z (by decide)) ?_ ?_ (K 1 1 _ _ _ _ (by omega) (R_off (ou := ou) (sl := sl) (ex := ex) (ab := ab) (ta := ta) (dr := dr) (nx := nx) (mc := mc) (cv := cv) (cg := cg) (cT := cT) (cp := cp) (by omega) hd hx hz V hb hA))
    · exact h_make_t (k_make_off) rfl
    · simp only [fw_eq]; exact r_make_off
end XkSt7
