section XkMw2
variable {sc : Nat × (Nat → Int32)} {p : xk_Ten} {pr sl ex ta nx : Nat → Int32} {th on lf mo cv cg cT cp : Int32} {r w : xk_W}
/-- a word of a leg, and of the place that it is copied to -/
def m_wr (f : Nat → Nat) (m x c : Nat) (a : Nat) (y : Int32) (j : Nat) : s_M := if f (9 + j) = 0 then m_no else m_seq (m_ex ((f (9 + j) - 1) * 4 + a) y) (if m = j ∧ x < 32 ∧ a < c then m_ex (x * 4 + a) y else m_no)
theorem m_wr_sl (f : Nat → Nat) (m x c a : Nat) (y : Int32) (j : Nat) (s : s_S) : (m_wr f m x c a y j s).2.1 = s.1 := by
  unfold m_wr
  split
  · rfl
  · refine m_seq_sl (fun s => (m_ex_S _ _ s).1) (fun s => ?_) s
    split
    · exact (m_ex_S _ _ s).1
    · rfl
theorem r_wl1 {f : Nat → Nat} {m x c j a : Nat} {y : Int32} {l1 l2 l4 l5 l6 l9 : Value} {s : s_S} {Φ : xk_R → Prop} (T : s_Tv ta f) (hC : n_cp mo cT x) (hQ : n_cq cv cg m x) (hcp : x < 32 → cp = Int32.ofNat c ∧ c < 4) (hj : j < 40) (ha : a < 4) (h : ∀ l9, xk_Po (xp_P sc) 146 171 [.ref 10, l1, l2, .int y, l4, l5, l6, .int (Int32.ofNat a), .int (Int32.ofNat (9 + j)), l9] [] (mp p th pr ta nx mo cv cg cT cp r (m_wr f m x c a y j s)) Φ) : xk_Po (xp_P sc) 146 120 [.ref 10, l1, l2, .int y, l4, l5, l6, .int (Int32.ofNat a), .int (Int32.ofNat (9 + j)), l9] [] (mp p th pr ta nx mo cv cg cT cp r (true, s)) Φ := by
  have hl := T.l j hj
  refine xk_Po.go 3 rfl ?_
  refine xk_Po.ok rfl rfl (xn_ix (j := 9 + j) (by omega) (by omega)) ?_
  rw [xn_nat (j := 9 + j) (by omega), T.w (9 + j) (by omega) (by omega)]
  unfold m_wr at h
  by_cases h0 : f (9 + j) = 0
  · rw [if_pos h0] at h
    refine xk_Po.br rfl rfl (fun _ => ?_) (fun q => absurd ((xn_le0 (by omega)).2 h0) q)
    refine xk_Po.go 6 rfl ?_
    exact h _
  · rw [if_neg h0] at h
    refine xk_Po.br rfl rfl (fun q => absurd ((xn_le0 (by omega)).1 q) h0) (fun _ => ?_)
    refine xk_Po.go 9 rfl ?_
    refine xk_Po.ok rfl rfl (xn_ix (j := 9 + j) (by omega) (by omega)) ?_
    rw [xn_nat (j := 9 + j) (by omega), T.w (9 + j) (by omega) (by omega)]
    refine xk_Po.go 2 rfl ?_
    have hp := r_put (sc := sc) (p := p) (th := th) (pr := pr) (ta := ta) (nx := nx) (mo := mo) (cv := cv) (cg := cg) (cT := cT) (cp := cp) (r := r) (o := (true, s)) (x := f (9 + j) - 1) (k := a) (y := y) (by omega) ha
    rw [show f (9 + j) - 1 + 1 = f (9 + j) by omega, m_b_on] at hp
    refine xk_Po.cv4 rfl rfl hp ?_
    have es : m_seq (m_ex ((f (9 + j) - 1) * 4 + a) y) (if m = j ∧ x < 32 ∧ a < c then m_ex (x * 4 + a) y else m_no) s = m_b (m_ex ((f (9 + j) - 1) * 4 + a) y s) (if m = j ∧ x < 32 ∧ a < c then m_ex (x * 4 + a) y else m_no) := rfl
    rw [es] at h
    generalize m_ex ((f (9 + j) - 1) * 4 + a) y s = o at *
    by_cases ho : o.1 = true
    · obtain ⟨b, u⟩ := o
      have hbo : b = true := ho
      subst hbo
      rw [m_b_on] at h
      have no : ¬ (m = j ∧ x < 32 ∧ a < c) → ∀ l9, xk_Po (xp_P sc) 146 171 [.ref 10, l1, l2, .int y, l4, l5, l6, .int (Int32.ofNat a), .int (Int32.ofNat (9 + j)), l9] [] (mp p th pr ta nx mo cv cg cT cp r (true, u)) Φ := by
        intro q l9
        rw [if_neg q] at h
        exact h l9
      refine xk_Po.go 7 rfl ?_
      by_cases hx : x < 32
      · obtain ⟨c1, c2⟩ := hC.1 hx
        obtain ⟨c3, c4⟩ := hQ.2 hx
        obtain ⟨c5, c6⟩ := hcp hx
        have hm := hQ.1.1 hx
        refine xk_Po.br rfl rfl (fun q => absurd q c1) (fun _ => ?_)
        subst c2 c3 c4 c5
        refine xk_Po.go 2 rfl ?_
        refine xk_Po.br rfl rfl (fun q => absurd ((xn_le0 (by omega)).1 q) (by omega)) (fun _ => ?_)
        refine xk_Po.go 10 rfl ?_
        rw [show Int32.ofInt 9 + Int32.ofInt 10 * Int32.ofNat (m / 10) + Int32.ofNat (m % 10) = Int32.ofNat (9 + m) from (s_was _ _).trans (congrArg Int32.ofNat (by omega))]
        refine xk_Po.br rfl rfl (fun q => ?_) (fun q => no (fun r => q (by rw [r.1])) _)
        have q := (xn_inj (by omega) (by omega)).1 q
        refine xk_Po.go 3 rfl ?_
        refine xk_Po.br rfl rfl (fun q2 => no (fun r => absurd ((xn_le (by omega) (by omega)).1 q2) (by omega)) _) (fun q2 => ?_)
        have q2 : a < c := by
          rcases Nat.lt_or_ge a c with r | r
          · exact r
          · exact absurd ((xn_le (by omega) (by omega)).2 r) q2
        rw [if_pos ⟨by omega, hx, q2⟩] at h
        refine xk_Po.go 5 rfl ?_
        have hp2 := r_put (sc := sc) (p := p) (th := th) (pr := pr) (ta := ta) (nx := nx) (mo := mo) (cv := Int32.ofNat (m / 10)) (cg := Int32.ofNat (m % 10)) (cT := Int32.ofNat (x + 1)) (cp := Int32.ofNat c) (r := r) (o := (true, u)) (x := x) (k := a) (y := y) hx ha
        rw [m_b_on] at hp2
        refine xk_Po.cv4 rfl rfl hp2 ?_
        exact h _
      · have nn : ¬ (m = j ∧ x < 32 ∧ a < c) := fun r => hx r.2.1
        refine xk_Po.br rfl rfl (fun _ => no nn _) (fun q => ?_)
        rcases hC.2 hx with r | r
        · exact absurd r q
        · subst r
          refine xk_Po.go 3 rfl ?_
          exact no nn _
    · rw [m_b_off ho] at h
      have hh := h (.int 1)
      rw [mp_off ho] at hh ⊢
      refine xk_Po.go 5 rfl ?_
      exact hh
theorem r_wlp {f : Nat → Nat} {m x c j a : Nat} {y : Int32} {l1 l2 l5 l6 l8 l9 : Value} {o : Bool × s_S} {Φ : xk_R → Prop} (T : s_Tv ta f) (hC : n_cp mo cT x) (hQ : n_cq cv cg m x) (hcp : x < 32 → cp = Int32.ofNat c ∧ c < 4) (hj : j + 2 ≤ 40) (ha : a < 4) (h : ∀ l8 l9, xk_Po (xp_P sc) 146 173 [.ref 10, l1, l2, .int y, .int (Int32.ofNat (9 + j)), l5, l6, .int (Int32.ofNat a), l8, l9] [] (mp p th pr ta nx mo cv cg cT cp r (m_b o (m_seq (m_wr f m x c a y j) (m_wr f m x c a y (j + 1))))) Φ) : xk_Po (xp_P sc) 146 110 [.ref 10, l1, l2, .int y, .int (Int32.ofNat (9 + j)), l5, l6, .int (Int32.ofNat a), l8, l9] [] (mp p th pr ta nx mo cv cg cT cp r o) Φ := by
  refine xk_Po.go 2 rfl ?_
  have hoff : ∀ (i : Nat) (l9 : Value) (o2 : Bool × s_S), ¬ o2.1 = true → o2 = m_b o (m_seq (m_wr f m x c a y j) (m_wr f m x c a y (j + 1))) → xk_Po (xp_P sc) 146 112 [.ref 10, l1, l2, .int y, .int (Int32.ofNat (9 + j)), l5, l6, .int (Int32.ofNat a), .int (Int32.ofNat i), l9] [] (mp p th pr ta nx mo cv cg cT cp r o2) Φ := by
    intro i l9 o2 ho2 he
    have hh := fun l8 => h l8 l9
    rw [← he] at hh
    rw [mp_off ho2] at hh ⊢
    refine xk_Po.go 4 rfl ?_
    refine xk_Po.br rfl rfl (fun _ => hh _) (fun _ => ?_)
    refine xk_Po.go 3 rfl ?_
    exact hh _
  have lim : Int32.ofNat (9 + j) + Int32.ofInt 2 = Int32.ofNat (9 + j + 2) := xn_add _ 2
  by_cases ho : o.1 = true
  · obtain ⟨b, s⟩ := o
    have hbo : b = true := ho
    subst hbo
    rw [m_b_on] at h hoff
    refine xk_Po.go 4 rfl ?_
    rw [lim]
    refine xk_Po.br rfl rfl (fun q => absurd ((xn_le (by omega) (by omega)).1 q) (by omega)) (fun _ => ?_)
    refine xk_Po.go 3 rfl ?_
    refine r_wl1 T hC hQ hcp (by omega) ha (fun l9 => ?_)
    refine xk_Po.go 2 rfl ?_
    rw [show Int32.ofNat (9 + j) + Int32.ofInt 1 = Int32.ofNat (9 + (j + 1)) from xn_suc _]
    have es : m_seq (m_wr f m x c a y j) (m_wr f m x c a y (j + 1)) s = m_b (m_wr f m x c a y j s) (m_wr f m x c a y (j + 1)) := rfl
    rw [es] at h hoff
    generalize m_wr f m x c a y j s = o2 at *
    by_cases ho2 : o2.1 = true
    · obtain ⟨b, u⟩ := o2
      have hbo : b = true := ho2
      subst hbo
      rw [m_b_on] at h hoff
      refine xk_Po.go 4 rfl ?_
      rw [lim]
      refine xk_Po.br rfl rfl (fun q => absurd ((xn_le (by omega) (by omega)).1 q) (by omega)) (fun _ => ?_)
      refine xk_Po.go 3 rfl ?_
      refine r_wl1 T hC hQ hcp (by omega) ha (fun l9 => ?_)
      refine xk_Po.go 2 rfl ?_
      rw [show Int32.ofNat (9 + (j + 1)) + Int32.ofInt 1 = Int32.ofNat (9 + j + 2) from xn_suc _]
      by_cases ho3 : (m_wr f m x c a y (j + 1) u).1 = true
      · refine xk_Po.go 4 rfl ?_
        rw [lim]
        refine xk_Po.br rfl rfl (fun _ => h _ _) (fun q => absurd (Int32.le_refl _) q)
      · exact hoff _ _ _ ho3 rfl
    · exact hoff _ _ _ ho2 (m_b_off ho2 _).symm
  · exact hoff _ _ _ ho (m_b_off ho _).symm
end XkMw2
