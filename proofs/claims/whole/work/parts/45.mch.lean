section XkMch
variable {sc : Nat × (Nat → Int32)} {p : xk_Ten} {pr sl ex ta nx : Nat → Int32} {th on lf mo cv cg cT cp : Int32} {r w : xk_W}
def n_pr (ab : Nat → Int32) : Nat → Int32 := fun i => if ab i = 0 then 1 else 0
theorem n_pr_b (ab : Nat → Int32) (i : Nat) : n_pr ab i = 0 ∨ n_pr ab i = 1 := by
  unfold n_pr
  split
  · exact .inr rfl
  · exact .inl rfl
theorem n_pr_0 {ab : Nat → Int32} {i : Nat} : n_pr ab i = 0 ↔ ¬ ab i = 0 := by
  unfold n_pr
  by_cases h : ab i = 0
  · rw [if_pos h]
    exact ⟨fun q => absurd q (by decide), fun q => absurd h q⟩
  · rw [if_neg h]
    exact ⟨fun _ => h, fun _ => rfl⟩
theorem n_ab_pr {ab : Nat → Int32} (hb : ∀ i, ab i = 0 ∨ ab i = 1) : n_ab (n_pr ab) = ab := by
  funext i
  unfold n_ab
  by_cases h : ab i = 0
  · rw [if_neg (fun q => n_pr_0.1 q h), h]
  · rw [if_pos (n_pr_0.2 h)]
    exact ((hb i).elim (fun q => absurd q h) id).symm
/-- no listed disk is away -/
abbrev n_all (f : Nat → Nat) (ab : Nat → Int32) : Prop := ∀ e, e < 4 → f (1 + e) ≠ 0 → ab e = 0
theorem p_abs_eq {t ab : Nat → Int32} {f : Nat → Nat} (T : s_Tv t f) : ∀ n, n ≤ 4 → (p_abs t (n_pr ab) n = 0 ↔ ∀ e, e < n → f (1 + e) ≠ 0 → ab e = 0)
  | 0, _ => ⟨fun _ e h => absurd h (by omega), fun _ => rfl⟩
  | n + 1, hn => by
    have ih := p_abs_eq (ab := ab) T n (by omega)
    have he := T.e n (by omega)
    unfold p_abs
    rw [T.w (1 + n) (by omega) (by omega)]
    by_cases h0 : p_abs t (n_pr ab) n = 0
    · rw [if_pos h0]
      have ih := ih.1 h0
      by_cases h1 : f (1 + n) = 0
      · rw [if_pos ((xn_le0 (by omega)).2 h1)]
        refine ⟨fun _ e h2 h3 => ?_, fun _ => rfl⟩
        by_cases q : e = n
        · rw [q] at h3
          exact absurd h1 h3
        · exact ih e (by omega) h3
      · rw [if_neg (fun q => h1 ((xn_le0 (by omega)).1 q))]
        by_cases h2 : n_pr ab n = 0
        · rw [if_pos h2]
          exact ⟨fun q => absurd q (by decide), fun q => absurd (q n (by omega) h1) (n_pr_0.1 h2)⟩
        · rw [if_neg h2]
          refine ⟨fun _ e h3 h4 => ?_, fun _ => rfl⟩
          by_cases q : e = n
          · rw [q]
            exact Decidable.byContradiction (fun r => h2 (n_pr_0.2 r))
          · exact ih e (by omega) h4
    · rw [if_neg h0]
      exact ⟨fun q => absurd q (by decide), fun q => absurd (ih.2 (fun e h => q e (by omega))) h0⟩
theorem s_any_eq {p : Nat → Prop} [DecidablePred p] : ∀ m j, s_any p m j = 0 ↔ ∀ e, j ≤ e → e < j + m → ¬ p e
  | 0, j => ⟨fun _ e h1 h2 => absurd h2 (by omega), fun _ => rfl⟩
  | m + 1, j => by
    have ih := s_any_eq (p := p) m (j + 1)
    unfold s_any
    by_cases h : p j
    · rw [if_pos h]
      exact ⟨fun q => absurd q (by decide), fun q => absurd h (q j (by omega) (by omega))⟩
    · rw [if_neg h, ih]
      refine ⟨fun q e h1 h2 => ?_, fun q e h1 h2 => q e (by omega) (by omega)⟩
      by_cases r : e = j
      · rw [r]
        exact h
      · exact q e (by omega) (by omega)
theorem s_absent {t ab : Nat → Int32} {f : Nat → Nat} (T : s_Tv t f) : s_any (fun j => ¬ t (1 + j) = 0 ∧ ¬ ab j = 0) 4 0 = 0 ↔ n_all f ab := by
  rw [s_any_eq]
  have key : ∀ e, e < 4 → (t (1 + e) = 0 ↔ f (1 + e) = 0) := fun e he => by
    rw [T.w (1 + e) (by omega) (by omega)]
    exact xn_inj (b := 0) (by have := T.e e he; omega) (by omega)
  constructor
  · intro q e h1 h2
    exact Decidable.byContradiction (fun r => q e (by omega) (by omega) ⟨fun s => h2 ((key e h1).1 s), r⟩)
  · intro q e _ h1 ⟨h2, h3⟩
    exact h3 (q e (by omega) (fun s => h2 ((key e (by omega)).2 s)))
theorem p_leg_eq {t : Nat → Int32} {f : Nat → Nat} {d : Nat} (T : s_Tv t f) (hd : d < 4) : ∀ n, n ≤ 40 → p_leg t (Int32.ofNat d) n = Int32.ofNat (n_cnt (n_on f d) n)
  | 0, _ => rfl
  | n + 1, hn => by
    have ih := p_leg_eq T hd n (by omega)
    have hl := T.l n (by omega)
    unfold p_leg n_cnt
    rw [ih, T.w (9 + n) (by omega) (by omega)]
    by_cases h0 : f (9 + n) = 0
    · rw [if_pos ((xn_le0 (by omega)).2 h0), if_neg (fun q => q.1 h0)]
    · rw [if_neg (fun q => h0 ((xn_le0 (by omega)).1 q))]
      have e8 : (Int32.ofNat (f (9 + n)) - 1) / 8 = Int32.ofNat d ↔ (f (9 + n) - 1) / 8 = d := s_leg8 _ (show f (9 + n) < 33 by omega) h0 d hd
      by_cases h1 : (f (9 + n) - 1) / 8 = d
      · rw [if_pos (e8.2 h1), if_pos ⟨h0, h1⟩]
        exact xn_suc _
      · rw [if_neg (fun q => h1 (e8.1 q)), if_neg (fun q => h1 q.2)]
theorem s_cnt_on {t : Nat → Int32} {f : Nat → Nat} {d : Nat} (T : s_Tv t f) (hd : d < 4) : s_cnt (fun j => s_disk (t (9 + j) - 1) = Int32.ofNat d) 40 = Int32.ofNat (n_cnt (n_on f d) 40) := n_cnt_eq 40 (fun j hj => by
  rw [T.w (9 + j) (by omega) (by omega)]
  exact s_disk_on _ (by have := T.l j hj; omega) d hd)
theorem r_chg1 {B : Nat} {ab : Nat → Int32} {f g : Nat → Nat} {n dN mN xN cN k : Nat} (O : s_On B sl ab ta f n dN mN xN cN) (T : s_Tv nx g) (hB : B + 2 < 2147483648) (hpr : pr = n_pr ab) (hk : k = 1 ∧ n_all f ab ∨ k = 2 ∧ ¬ n_all f ab) {a b : Nat} (ha : a < 4) (hb2 : b < 10) (hcv : cv = Int32.ofNat a) (hcg : cg = Int32.ofNat b) (ho : (m_com (s_seal nx (Int32.ofNat (n + k))) ab (sl, ex, lf)).1 = true) : xk_Ev (xp_P sc) 123 0 [.ref 10, .retAddr 0, .retAddr 0] [] (mw p th pr sl ex ta nx (1) lf mo cv cg cT cp r) (.inl none, 0, mw p th pr ((m_com (s_seal nx (Int32.ofNat (n + k))) ab (sl, ex, lf)).2.1) ((m_com (s_seal nx (Int32.ofNat (n + k))) ab (sl, ex, lf)).2.2.1) (s_seal nx (Int32.ofNat (n + k))) (s_seal nx (Int32.ofNat (n + k))) (1) ((m_com (s_seal nx (Int32.ofNat (n + k))) ab (sl, ex, lf)).2.2.2) mo cv cg (p_cT (s_seal nx (Int32.ofNat (n + k))) ta cT (9 + (a * 10 + b))) cp r) := by
  obtain ⟨V, hb, T0, ⟨N1, N2⟩, W, M1, M2, M3, M4⟩ := id O
  have hk2 : k = 1 ∨ k = 2 := hk.elim (fun q => .inl q.1) (fun q => .inr q.1)
  have hx : Int32.ofNat (n + k) = ta 0 + (if p_abs ta pr 4 = 0 then 1 else 2) := by
    rw [N1, hpr]
    have e := p_abs_eq (ab := ab) T0 4 (by omega)
    rcases hk with ⟨q1, q2⟩ | ⟨q1, q2⟩
    · rw [if_pos (e.2 q2), q1]
      exact (xn_add n 1).symm
    · rw [if_neg (fun r => q2 (e.1 r)), q1]
      exact (xn_add n 2).symm
  have T2 : s_Tv (s_seal nx (Int32.ofNat (n + k))) g := s_seal_Tv T
  have h := r_change1 (sc := sc) (p := p) (th := th) (pr := pr) (ta := ta) (nx := nx) (mo := mo) (cv := cv) (cg := cg) (cT := cT) (cp := cp) (r := r) (s := (sl, ex, lf)) T2 (by rw [hpr]; exact n_pr_b ab) hx ha hb2 hcv hcg
  unfold mch at h
  rw [show n_ab pr = ab by rw [hpr]; exact n_ab_pr hb, p_com_On (s := (sl, ex, lf)) O T hk2 hB rfl] at h
  rw [if_pos ho, p_cpy_51 (s_seal_z T.z) T0.z, m_true ho] at h
  exact h
theorem r_chg0 {B : Nat} {ab : Nat → Int32} {f g : Nat → Nat} {n dN mN xN cN k : Nat} (O : s_On B sl ab ta f n dN mN xN cN) (T : s_Tv nx g) (hB : B + 2 < 2147483648) (hpr : pr = n_pr ab) (hk : k = 1 ∧ n_all f ab ∨ k = 2 ∧ ¬ n_all f ab) {a b : Nat} (ha : a < 4) (hb2 : b < 10) (hcv : cv = Int32.ofNat a) (hcg : cg = Int32.ofNat b) (ho : ¬ (m_com (s_seal nx (Int32.ofNat (n + k))) ab (sl, ex, lf)).1 = true) : xk_Ev (xp_P sc) 123 0 [.ref 10, .retAddr 0, .retAddr 0] [] (mw p th pr sl ex ta nx (1) lf mo cv cg cT cp r) (.inl none, 0, mw p th pr ((m_com (s_seal nx (Int32.ofNat (n + k))) ab (sl, ex, lf)).2.1) ((m_com (s_seal nx (Int32.ofNat (n + k))) ab (sl, ex, lf)).2.2.1) ta (s_seal nx (Int32.ofNat (n + k))) (0) (-1) (-1) cv cg cT cp r) := by
  obtain ⟨V, hb, T0, ⟨N1, N2⟩, W, M1, M2, M3, M4⟩ := id O
  have hk2 : k = 1 ∨ k = 2 := hk.elim (fun q => .inl q.1) (fun q => .inr q.1)
  have hx : Int32.ofNat (n + k) = ta 0 + (if p_abs ta pr 4 = 0 then 1 else 2) := by
    rw [N1, hpr]
    have e := p_abs_eq (ab := ab) T0 4 (by omega)
    rcases hk with ⟨q1, q2⟩ | ⟨q1, q2⟩
    · rw [if_pos (e.2 q2), q1]
      exact (xn_add n 1).symm
    · rw [if_neg (fun r => q2 (e.1 r)), q1]
      exact (xn_add n 2).symm
  have T2 : s_Tv (s_seal nx (Int32.ofNat (n + k))) g := s_seal_Tv T
  have h := r_change1 (sc := sc) (p := p) (th := th) (pr := pr) (ta := ta) (nx := nx) (mo := mo) (cv := cv) (cg := cg) (cT := cT) (cp := cp) (r := r) (s := (sl, ex, lf)) T2 (by rw [hpr]; exact n_pr_b ab) hx ha hb2 hcv hcg
  unfold mch at h
  rw [show n_ab pr = ab by rw [hpr]; exact n_ab_pr hb, p_com_On (s := (sl, ex, lf)) O T hk2 hB rfl] at h
  rw [if_neg ho, mp_off ho] at h
  exact h
theorem r_ended1 {x : Int32} : xk_Ev (xp_P sc) 124 0 [.ref 10, .int x] [] (mw p th pr sl ex ta nx (1) lf mo cv cg cT cp r) (.inl (some (.int x)), 0, mw p (0) pr sl ex ta nx (1) lf mo cv cg cT cp r) := by
  apply xk_Ev.of
  refine xk_Po.go 12 rfl ?_
  exact xk_Po.iret rfl (rfl)
theorem r_ended0 {x : Int32} : xk_Ev (xp_P sc) 124 0 [.ref 10, .int x] [] (mw p th pr sl ex ta nx (0) lf mo cv cg cT cp r) (.inl (some (.int 0)), 0, mw p (1) pr sl ex ta nx (0) lf mo cv cg cT cp r) := by
  apply xk_Ev.of
  refine xk_Po.go 10 rfl ?_
  exact xk_Po.iret rfl (rfl)
end XkMch
