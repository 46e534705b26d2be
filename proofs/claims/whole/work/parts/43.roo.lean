section XkRoom
variable {sc : Nat × (Nat → Int32)} {p : xk_Ten} {pr sl ex ta nx : Nat → Int32} {th on lf mo cv cg cT cp : Int32} {r w : xk_W}
theorem n_md_neg {b : Nat} : n_md b < 0 ↔ ¬ b < 4 := by
  unfold n_md
  by_cases h : b < 4
  · rw [if_pos h]
    exact ⟨fun q => absurd q (xn_nneg (by omega)), fun q => absurd h q⟩
  · rw [if_neg h]
    exact ⟨fun _ => h, fun _ => by decide⟩
theorem n_md_eq {d b : Nat} (hd : d < 4) : Int32.ofNat d = n_md b ↔ b = d := by
  unfold n_md
  by_cases h : b < 4
  · rw [if_pos h, xn_inj (by omega) (by omega)]
    omega
  · rw [if_neg h]
    exact ⟨fun q => absurd q (n_ne1 (by omega)), fun q => by omega⟩
theorem xn_down : ∀ j, j < 4 → Int32.ofInt 3 - Int32.ofNat j = Int32.ofNat (3 - j) ∧ Int32.ofInt 3 - Int32.ofNat j + Int32.ofInt (-1) = Int32.ofInt 3 - Int32.ofNat (j + 1) := by decide
def n_leg (x : Nat) : Int32 := if x < 32 then Int32.ofNat (x + 1) else 0
theorem n_G_le {f : Nat → Nat} {ab : Nat → Int32} {m x v k nt d : Nat} (he : f (1 + d) ≤ 8) : n_G f ab m x v k nt d ≤ 8 := by
  unfold n_G
  split
  · exact Nat.le_trans (n_cnt_le _ _) he
  · omega
theorem q_br_8 {F : Nat → Nat} : ∀ i, i ≤ 4 → (∀ d, d < 4 → F d ≤ 8) → (q_br F i).2 ≤ 8
  | 0, _, _ => Nat.zero_le 8
  | i + 1, hi, h => by
    have ih := q_br_8 (F := F) i (by omega) h
    have := h (3 - i) (by omega)
    show (if (q_br F i).2 < F (3 - i) then F (3 - i) else (q_br F i).2) ≤ 8
    split <;> omega
theorem t_roomM {f : Nat → Nat} {m x v k nt : Nat} (T : s_Tv ta f) (hb : ∀ i, pr i = 0 ∨ pr i = 1) (hC : n_cp mo cT x) (hQ : n_cq cv cg m x) (hv : v < 4) (h0 : f (5 + v) ≠ 0) (hk : k < 10) : xk_Ev (xp_P sc) 129 0 [.ref 10, .ref 14, .int (Int32.ofNat v), .int (Int32.ofNat k), .int (n_md nt), .retAddr 0, .retAddr 0, .retAddr 0, .retAddr 0] [] (mw p th pr sl ex ta nx on lf mo cv cg cT cp r) (.inl (some (.int (n_leg (n_R f (n_ab pr) m x v k nt)))), 0, mw p th pr sl ex ta nx on lf mo cv cg cT cp r) := by
  have h8 : ∀ d, d < 4 → n_G f (n_ab pr) m x v k nt d ≤ 8 := fun d hd => n_G_le (T.e d hd)
  apply xk_Ev.of
  refine xk_Po.go 6 rfl ?_
  refine xk_Po.loopJ 4 (fun j0 x1 y1 => [.ref 10, .ref 14, .int (Int32.ofNat v), .int (Int32.ofNat k), .int (n_md nt), .int (n_md (q_br (n_G f (n_ab pr) m x v k nt) j0).1), .int (Int32.ofNat (q_br (n_G f (n_ab pr) m x v k nt) j0).2), .int (Int32.ofInt 3 - Int32.ofNat j0), x1]) (fun _ => mw p th pr sl ex ta nx on lf mo cv cg cT cp r) (fun _ _ => fun z => z = (.inl (some (.int (n_leg (n_R f (n_ab pr) m x v k nt)))), 0, mw p th pr sl ex ta nx on lf mo cv cg cT cp r)) (fun m0 j0 x1 y1 hj0 ih0 => ?_) (fun x1 y1 => ?_) (.retAddr 0) (.retAddr 0)
  · have hj : j0 < 4 := by omega
    have hr := q_br_8 j0 (by omega) h8
    have hF := h8 (3 - j0) (by omega)
    rw [← (xn_down j0 hj).2] at ih0
    rw [(xn_down j0 hj).1] at ih0 ⊢
    refine xk_Po.go 1 rfl ?_
    refine xk_Po.br rfl rfl (fun hx => absurd hx (xn_nneg (by omega))) (fun _ => ?_)
    have back : ∀ F : Nat, F = n_G f (n_ab pr) m x v k nt (3 - j0) → xk_Po (xp_P sc) 129 29 [.ref 10, .ref 14, .int (Int32.ofNat v), .int (Int32.ofNat k), .int (n_md nt), .int (n_md (q_br (n_G f (n_ab pr) m x v k nt) j0).1), .int (Int32.ofNat (q_br (n_G f (n_ab pr) m x v k nt) j0).2), .int (Int32.ofNat (3 - j0)), x1] [.int (Int32.ofNat F)] (mw p th pr sl ex ta nx on lf mo cv cg cT cp r) (fun z => z = (.inl (some (.int (n_leg (n_R f (n_ab pr) m x v k nt)))), 0, mw p th pr sl ex ta nx on lf mo cv cg cT cp r)) := by
      intro F hFe
      have e1 : (q_br (n_G f (n_ab pr) m x v k nt) (j0 + 1)).1 = if 0 < F ∧ (q_br (n_G f (n_ab pr) m x v k nt) j0).2 ≤ F then 3 - j0 else (q_br (n_G f (n_ab pr) m x v k nt) j0).1 := by
        rw [hFe]
        rfl
      have e2 : (q_br (n_G f (n_ab pr) m x v k nt) (j0 + 1)).2 = if (q_br (n_G f (n_ab pr) m x v k nt) j0).2 < F then F else (q_br (n_G f (n_ab pr) m x v k nt) j0).2 := by
        rw [hFe]
        rfl
      rw [e1, e2] at ih0
      rw [← hFe] at hF
      generalize q_br (n_G f (n_ab pr) m x v k nt) j0 = rr at *
      have tail : ∀ b : Nat, b = (if 0 < F ∧ rr.2 ≤ F then 3 - j0 else rr.1) → xk_Po (xp_P sc) 129 38 [.ref 10, .ref 14, .int (Int32.ofNat v), .int (Int32.ofNat k), .int (n_md nt), .int (n_md rr.1), .int (Int32.ofNat rr.2), .int (Int32.ofNat (3 - j0)), .int (Int32.ofNat F)] [.int (n_md b)] (mw p th pr sl ex ta nx on lf mo cv cg cT cp r) (fun z => z = (.inl (some (.int (n_leg (n_R f (n_ab pr) m x v k nt)))), 0, mw p th pr sl ex ta nx on lf mo cv cg cT cp r)) := by
        intro b hbe
        rw [← hbe] at ih0
        refine xk_Po.go 3 rfl ?_
        refine xk_Po.br rfl rfl (fun k0 => ?_) (fun k0 => ?_)
        · have k0 := (xn_le (by omega) (by omega)).1 k0
          rw [if_neg (by omega)] at ih0
          refine xk_Po.go 4 rfl ?_
          exact ih0 _ (.retAddr 0)
        · have k0 : rr.2 < F := by
            rcases Nat.lt_or_ge rr.2 F with r | r
            · exact r
            · exact absurd ((xn_le (by omega) (by omega)).2 r) k0
          rw [if_pos k0] at ih0
          refine xk_Po.go 5 rfl ?_
          exact ih0 _ (.retAddr 0)
      refine xk_Po.go 2 rfl ?_
      refine xk_Po.br rfl rfl (fun k0 => ?_) (fun k0 => ?_)
      · have k0 := (xn_le0 (by omega)).1 k0
        refine xk_Po.go 1 rfl ?_
        exact tail _ (if_neg (by omega)).symm
      · have k0 : 0 < F := by
          rcases Nat.eq_zero_or_pos F with r | r
          · exact absurd ((xn_le0 (by omega)).2 r) k0
          · exact r
        refine xk_Po.go 2 rfl ?_
        refine xk_Po.br rfl rfl (fun k1 => ?_) (fun k1 => ?_)
        · have k1 := (xn_lt (by omega) (by omega)).1 k1
          refine xk_Po.go 1 rfl ?_
          exact tail _ (if_neg (by omega)).symm
        · have k1 : rr.2 ≤ F := by
            rcases Nat.lt_or_ge F rr.2 with r | r
            · exact absurd ((xn_lt (by omega) (by omega)).2 r) k1
            · exact r
          refine xk_Po.go 2 rfl ?_
          have hq := tail (3 - j0) (if_pos ⟨k0, k1⟩).symm
          rw [show n_md (3 - j0) = Int32.ofNat (3 - j0) from if_pos (by omega)] at hq
          exact hq
    have zero : (¬ (n_ab pr (3 - j0) = 0 ∧ ¬ n_bar f m x v k nt (3 - j0))) → xk_Po (xp_P sc) 129 23 [.ref 10, .ref 14, .int (Int32.ofNat v), .int (Int32.ofNat k), .int (n_md nt), .int (n_md (q_br (n_G f (n_ab pr) m x v k nt) j0).1), .int (Int32.ofNat (q_br (n_G f (n_ab pr) m x v k nt) j0).2), .int (Int32.ofNat (3 - j0)), x1] [] (mw p th pr sl ex ta nx on lf mo cv cg cT cp r) (fun z => z = (.inl (some (.int (n_leg (n_R f (n_ab pr) m x v k nt)))), 0, mw p th pr sl ex ta nx on lf mo cv cg cT cp r)) := by
      intro hz
      refine xk_Po.go 2 rfl ?_
      exact back 0 (if_neg hz).symm
    refine xk_Po.go 2 rfl ?_
    refine xk_Po.br rfl rfl (fun k0 => ?_) (fun k0 => ?_)
    · exact zero (fun r => r.2 (.inl ((n_md_eq (by omega)).1 k0)))
    · have k0 : ¬ nt = 3 - j0 := fun r => k0 ((n_md_eq (by omega)).2 r)
      refine xk_Po.go 3 rfl ?_
      refine xk_Po.ok rfl rfl (xn_ix (j := 3 - j0) (by omega) (by omega)) ?_
      rw [xn_nat (j := 3 - j0) (by omega)]
      refine xk_Po.br rfl rfl (fun k1 => ?_) (fun k1 => ?_)
      · exact zero (fun r => by
          have := r.1
          unfold n_ab at this
          rw [if_pos k1] at this
          exact absurd this (by decide))
      · refine xk_Po.go 5 rfl ?_
        refine xk_Po.ci5 rfl rfl (t_meets T hC hQ hv h0 hk (by omega)) ?_
        refine xk_Po.br rfl rfl (fun k2 => ?_) (fun k2 => ?_)
        · have k2 := xn_b0 k2
          refine xk_Po.go 3 rfl ?_
          refine xk_Po.ci3 rfl rfl (t_freeOn T hC (by omega)) ?_
          exact back _ (if_pos ⟨if_neg k1, fun r => r.elim k0 k2⟩).symm
        · have k2 := xn_b1 k2
          exact zero (fun r => r.2 (.inr k2))
  · refine xk_Po.go 2 rfl ?_
    rw [q_br_eq]
    have hbr := n_br_lt (n_G f (n_ab pr) m x v k nt) 4 (by omega)
    unfold n_R
    generalize hB : (n_br (n_G f (n_ab pr) m x v k nt) 4).1 = B at *
    by_cases hB4 : B < 4
    · refine xk_Po.go 1 rfl ?_
      refine xk_Po.br rfl rfl (fun _ => ?_) (fun k0 => absurd (Decidable.byContradiction (fun r => n_md_neg.1 (by rw [Int32.lt_iff_toInt_lt]; rw [Int32.le_iff_toInt_le] at r; omega) hB4)) k0)
      rw [show n_md B = Int32.ofNat B from if_pos hB4]
      have hex : ∃ i, i < f (1 + B) ∧ n_fre f x (8 * B + i) := by
        rcases hbr with ⟨r, _⟩ | ⟨r1, r2, r3⟩
        · omega
        · rw [r2] at r3
          unfold n_G at r3
          by_cases hc : n_ab pr B = 0 ∧ ¬ n_bar f m x v k nt B
          · rw [if_pos hc] at r3
            exact (n_cnt_pos _).1 r3
          · rw [if_neg hc] at r3
            omega
      have he := T.e B hB4
      have e8 : n_rm f x B = 8 * B + n_ls (fun p => n_fre f x (8 * B + p)) 8 0 := by
        unfold n_rm
        rw [if_pos hB4, n_ls_eq hex he]
      have hlt : n_ls (fun p => n_fre f x (8 * B + p)) 8 0 < 8 := by
        rw [← n_ls_eq hex he]
        obtain ⟨i, i1, i2⟩ := hex
        obtain ⟨a1, a2, a3, a4⟩ := n_ls_le (fun p => n_fre f x (8 * B + p)) (f (1 + B)) 0
        have : n_ls (fun p => n_fre f x (8 * B + p)) (f (1 + B)) 0 ≤ i := Decidable.byContradiction (fun q => a4 i (by omega) (by omega) i2)
        omega
      rw [e8]
      have e9 : n_leg (8 * B + n_ls (fun p => n_fre f x (8 * B + p)) 8 0) = (if n_ls (fun p => n_fre f x (8 * B + p)) 8 0 < 0 + 8 then Int32.ofNat (8 * B + n_ls (fun p => n_fre f x (8 * B + p)) 8 0 + 1) else 0) := by
        unfold n_leg
        rw [if_pos (by omega), if_pos (by omega)]
      rw [e9]
      refine xk_Po.go 2 rfl ?_
      refine xk_Po.loop 8 (fun j0 => [.ref 10, .ref 14, .int (Int32.ofNat v), .int (Int32.ofNat k), .int (n_md nt), .int (Int32.ofNat B), .int (Int32.ofNat (n_br (n_G f (n_ab pr) m x v k nt) 4).2), .int (Int32.ofNat j0), x1]) (fun _ => mw p th pr sl ex ta nx on lf mo cv cg cT cp r) (fun m0 j0 => fun z => z = (.inl (some (.int (if n_ls (fun p => n_fre f x (8 * B + p)) m0 j0 < j0 + m0 then Int32.ofNat (8 * B + n_ls (fun p => n_fre f x (8 * B + p)) m0 j0 + 1) else 0))), 0, mw p th pr sl ex ta nx on lf mo cv cg cT cp r)) (fun m0 j0 hj0 ih0 => ?_) ?_
      · refine xk_Po.go 2 rfl ?_
        refine xk_Po.br rfl rfl (fun hx => absurd ((xn_le (a := 8) (b := j0) (by omega) (by omega)).1 hx) (by omega)) (fun _ => ?_)
        refine xk_Po.go 9 rfl ?_
        rw [s_spot B j0]
        refine xk_Po.ci3 rfl rfl (t_isFree T hC (y := 8 * B + j0) (by omega)) ?_
        by_cases kk : n_fre f x (8 * B + j0)
        · rw [xn_bt kk]
          refine xk_Po.go 8 rfl ?_
          rw [s_spot B j0]
          rw [show n_ls (fun p => n_fre f x (8 * B + p)) (m0 + 1) j0 = j0 from if_pos kk, if_pos (by omega)]
          exact xk_Po.iret rfl rfl
        · rw [xn_bf kk]
          rw [show n_ls (fun p => n_fre f x (8 * B + p)) (m0 + 1) j0 = n_ls (fun p => n_fre f x (8 * B + p)) m0 (j0 + 1) from if_neg kk, show j0 + (m0 + 1) = j0 + 1 + m0 by omega]
          refine xk_Po.go 3 rfl ?_
          rw [← xn_suc j0] at ih0
          exact ih0
      · refine xk_Po.go 4 rfl ?_
        rw [if_neg (show ¬ n_ls (fun p => n_fre f x (8 * B + p)) 0 8 < 8 + 0 by show ¬ 8 < 8 + 0; omega)]
        exact xk_Po.iret rfl rfl
    · refine xk_Po.go 1 rfl ?_
      refine xk_Po.br rfl rfl (fun k0 => absurd (n_md_neg.2 hB4) (fun r => by rw [Int32.lt_iff_toInt_lt] at r; rw [Int32.le_iff_toInt_le] at k0; omega)) (fun _ => ?_)
      refine xk_Po.go 1 rfl ?_
      rw [show n_rm f x B = 32 from if_neg hB4]
      exact xk_Po.iret rfl rfl
theorem n_roomM {f : Nat → Nat} {m x v k nt : Nat} (T : s_Tv nx f) (hb : ∀ i, pr i = 0 ∨ pr i = 1) (hC : n_cp mo cT x) (hQ : n_cq cv cg m x) (hv : v < 4) (h0 : f (5 + v) ≠ 0) (hk : k < 10) : xk_Ev (xp_P sc) 129 0 [.ref 10, .ref 15, .int (Int32.ofNat v), .int (Int32.ofNat k), .int (n_md nt), .retAddr 0, .retAddr 0, .retAddr 0, .retAddr 0] [] (mw p th pr sl ex ta nx on lf mo cv cg cT cp r) (.inl (some (.int (n_leg (n_R f (n_ab pr) m x v k nt)))), 0, mw p th pr sl ex ta nx on lf mo cv cg cT cp r) := by
  have h8 : ∀ d, d < 4 → n_G f (n_ab pr) m x v k nt d ≤ 8 := fun d hd => n_G_le (T.e d hd)
  apply xk_Ev.of
  refine xk_Po.go 6 rfl ?_
  refine xk_Po.loopJ 4 (fun j0 x1 y1 => [.ref 10, .ref 15, .int (Int32.ofNat v), .int (Int32.ofNat k), .int (n_md nt), .int (n_md (q_br (n_G f (n_ab pr) m x v k nt) j0).1), .int (Int32.ofNat (q_br (n_G f (n_ab pr) m x v k nt) j0).2), .int (Int32.ofInt 3 - Int32.ofNat j0), x1]) (fun _ => mw p th pr sl ex ta nx on lf mo cv cg cT cp r) (fun _ _ => fun z => z = (.inl (some (.int (n_leg (n_R f (n_ab pr) m x v k nt)))), 0, mw p th pr sl ex ta nx on lf mo cv cg cT cp r)) (fun m0 j0 x1 y1 hj0 ih0 => ?_) (fun x1 y1 => ?_) (.retAddr 0) (.retAddr 0)
  · have hj : j0 < 4 := by omega
    have hr := q_br_8 j0 (by omega) h8
    have hF := h8 (3 - j0) (by omega)
    rw [← (xn_down j0 hj).2] at ih0
    rw [(xn_down j0 hj).1] at ih0 ⊢
    refine xk_Po.go 1 rfl ?_
    refine xk_Po.br rfl rfl (fun hx => absurd hx (xn_nneg (by omega))) (fun _ => ?_)
    have back : ∀ F : Nat, F = n_G f (n_ab pr) m x v k nt (3 - j0) → xk_Po (xp_P sc) 129 29 [.ref 10, .ref 15, .int (Int32.ofNat v), .int (Int32.ofNat k), .int (n_md nt), .int (n_md (q_br (n_G f (n_ab pr) m x v k nt) j0).1), .int (Int32.ofNat (q_br (n_G f (n_ab pr) m x v k nt) j0).2), .int (Int32.ofNat (3 - j0)), x1] [.int (Int32.ofNat F)] (mw p th pr sl ex ta nx on lf mo cv cg cT cp r) (fun z => z = (.inl (some (.int (n_leg (n_R f (n_ab pr) m x v k nt)))), 0, mw p th pr sl ex ta nx on lf mo cv cg cT cp r)) := by
      intro F hFe
      have e1 : (q_br (n_G f (n_ab pr) m x v k nt) (j0 + 1)).1 = if 0 < F ∧ (q_br (n_G f (n_ab pr) m x v k nt) j0).2 ≤ F then 3 - j0 else (q_br (n_G f (n_ab pr) m x v k nt) j0).1 := by
        rw [hFe]
        rfl
      have e2 : (q_br (n_G f (n_ab pr) m x v k nt) (j0 + 1)).2 = if (q_br (n_G f (n_ab pr) m x v k nt) j0).2 < F then F else (q_br (n_G f (n_ab pr) m x v k nt) j0).2 := by
        rw [hFe]
        rfl
      rw [e1, e2] at ih0
      rw [← hFe] at hF
      generalize q_br (n_G f (n_ab pr) m x v k nt) j0 = rr at *
      have tail : ∀ b : Nat, b = (if 0 < F ∧ rr.2 ≤ F then 3 - j0 else rr.1) → xk_Po (xp_P sc) 129 38 [.ref 10, .ref 15, .int (Int32.ofNat v), .int (Int32.ofNat k), .int (n_md nt), .int (n_md rr.1), .int (Int32.ofNat rr.2), .int (Int32.ofNat (3 - j0)), .int (Int32.ofNat F)] [.int (n_md b)] (mw p th pr sl ex ta nx on lf mo cv cg cT cp r) (fun z => z = (.inl (some (.int (n_leg (n_R f (n_ab pr) m x v k nt)))), 0, mw p th pr sl ex ta nx on lf mo cv cg cT cp r)) := by
        intro b hbe
        rw [← hbe] at ih0
        refine xk_Po.go 3 rfl ?_
        refine xk_Po.br rfl rfl (fun k0 => ?_) (fun k0 => ?_)
        · have k0 := (xn_le (by omega) (by omega)).1 k0
          rw [if_neg (by omega)] at ih0
          refine xk_Po.go 4 rfl ?_
          exact ih0 _ (.retAddr 0)
        · have k0 : rr.2 < F := by
            rcases Nat.lt_or_ge rr.2 F with r | r
            · exact r
            · exact absurd ((xn_le (by omega) (by omega)).2 r) k0
          rw [if_pos k0] at ih0
          refine xk_Po.go 5 rfl ?_
          exact ih0 _ (.retAddr 0)
      refine xk_Po.go 2 rfl ?_
      refine xk_Po.br rfl rfl (fun k0 => ?_) (fun k0 => ?_)
      · have k0 := (xn_le0 (by omega)).1 k0
        refine xk_Po.go 1 rfl ?_
        exact tail _ (if_neg (by omega)).symm
      · have k0 : 0 < F := by
          rcases Nat.eq_zero_or_pos F with r | r
          · exact absurd ((xn_le0 (by omega)).2 r) k0
          · exact r
        refine xk_Po.go 2 rfl ?_
        refine xk_Po.br rfl rfl (fun k1 => ?_) (fun k1 => ?_)
        · have k1 := (xn_lt (by omega) (by omega)).1 k1
          refine xk_Po.go 1 rfl ?_
          exact tail _ (if_neg (by omega)).symm
        · have k1 : rr.2 ≤ F := by
            rcases Nat.lt_or_ge F rr.2 with r | r
            · exact absurd ((xn_lt (by omega) (by omega)).2 r) k1
            · exact r
          refine xk_Po.go 2 rfl ?_
          have hq := tail (3 - j0) (if_pos ⟨k0, k1⟩).symm
          rw [show n_md (3 - j0) = Int32.ofNat (3 - j0) from if_pos (by omega)] at hq
          exact hq
    have zero : (¬ (n_ab pr (3 - j0) = 0 ∧ ¬ n_bar f m x v k nt (3 - j0))) → xk_Po (xp_P sc) 129 23 [.ref 10, .ref 15, .int (Int32.ofNat v), .int (Int32.ofNat k), .int (n_md nt), .int (n_md (q_br (n_G f (n_ab pr) m x v k nt) j0).1), .int (Int32.ofNat (q_br (n_G f (n_ab pr) m x v k nt) j0).2), .int (Int32.ofNat (3 - j0)), x1] [] (mw p th pr sl ex ta nx on lf mo cv cg cT cp r) (fun z => z = (.inl (some (.int (n_leg (n_R f (n_ab pr) m x v k nt)))), 0, mw p th pr sl ex ta nx on lf mo cv cg cT cp r)) := by
      intro hz
      refine xk_Po.go 2 rfl ?_
      exact back 0 (if_neg hz).symm
    refine xk_Po.go 2 rfl ?_
    refine xk_Po.br rfl rfl (fun k0 => ?_) (fun k0 => ?_)
    · exact zero (fun r => r.2 (.inl ((n_md_eq (by omega)).1 k0)))
    · have k0 : ¬ nt = 3 - j0 := fun r => k0 ((n_md_eq (by omega)).2 r)
      refine xk_Po.go 3 rfl ?_
      refine xk_Po.ok rfl rfl (xn_ix (j := 3 - j0) (by omega) (by omega)) ?_
      rw [xn_nat (j := 3 - j0) (by omega)]
      refine xk_Po.br rfl rfl (fun k1 => ?_) (fun k1 => ?_)
      · exact zero (fun r => by
          have := r.1
          unfold n_ab at this
          rw [if_pos k1] at this
          exact absurd this (by decide))
      · refine xk_Po.go 5 rfl ?_
        refine xk_Po.ci5 rfl rfl (n_meets T hC hQ hv h0 hk (by omega)) ?_
        refine xk_Po.br rfl rfl (fun k2 => ?_) (fun k2 => ?_)
        · have k2 := xn_b0 k2
          refine xk_Po.go 3 rfl ?_
          refine xk_Po.ci3 rfl rfl (n_freeOn T hC (by omega)) ?_
          exact back _ (if_pos ⟨if_neg k1, fun r => r.elim k0 k2⟩).symm
        · have k2 := xn_b1 k2
          exact zero (fun r => r.2 (.inr k2))
  · refine xk_Po.go 2 rfl ?_
    rw [q_br_eq]
    have hbr := n_br_lt (n_G f (n_ab pr) m x v k nt) 4 (by omega)
    unfold n_R
    generalize hB : (n_br (n_G f (n_ab pr) m x v k nt) 4).1 = B at *
    by_cases hB4 : B < 4
    · refine xk_Po.go 1 rfl ?_
      refine xk_Po.br rfl rfl (fun _ => ?_) (fun k0 => absurd (Decidable.byContradiction (fun r => n_md_neg.1 (by rw [Int32.lt_iff_toInt_lt]; rw [Int32.le_iff_toInt_le] at r; omega) hB4)) k0)
      rw [show n_md B = Int32.ofNat B from if_pos hB4]
      have hex : ∃ i, i < f (1 + B) ∧ n_fre f x (8 * B + i) := by
        rcases hbr with ⟨r, _⟩ | ⟨r1, r2, r3⟩
        · omega
        · rw [r2] at r3
          unfold n_G at r3
          by_cases hc : n_ab pr B = 0 ∧ ¬ n_bar f m x v k nt B
          · rw [if_pos hc] at r3
            exact (n_cnt_pos _).1 r3
          · rw [if_neg hc] at r3
            omega
      have he := T.e B hB4
      have e8 : n_rm f x B = 8 * B + n_ls (fun p => n_fre f x (8 * B + p)) 8 0 := by
        unfold n_rm
        rw [if_pos hB4, n_ls_eq hex he]
      have hlt : n_ls (fun p => n_fre f x (8 * B + p)) 8 0 < 8 := by
        rw [← n_ls_eq hex he]
        obtain ⟨i, i1, i2⟩ := hex
        obtain ⟨a1, a2, a3, a4⟩ := n_ls_le (fun p => n_fre f x (8 * B + p)) (f (1 + B)) 0
        have : n_ls (fun p => n_fre f x (8 * B + p)) (f (1 + B)) 0 ≤ i := Decidable.byContradiction (fun q => a4 i (by omega) (by omega) i2)
        omega
      rw [e8]
      have e9 : n_leg (8 * B + n_ls (fun p => n_fre f x (8 * B + p)) 8 0) = (if n_ls (fun p => n_fre f x (8 * B + p)) 8 0 < 0 + 8 then Int32.ofNat (8 * B + n_ls (fun p => n_fre f x (8 * B + p)) 8 0 + 1) else 0) := by
        unfold n_leg
        rw [if_pos (by omega), if_pos (by omega)]
      rw [e9]
      refine xk_Po.go 2 rfl ?_
      refine xk_Po.loop 8 (fun j0 => [.ref 10, .ref 15, .int (Int32.ofNat v), .int (Int32.ofNat k), .int (n_md nt), .int (Int32.ofNat B), .int (Int32.ofNat (n_br (n_G f (n_ab pr) m x v k nt) 4).2), .int (Int32.ofNat j0), x1]) (fun _ => mw p th pr sl ex ta nx on lf mo cv cg cT cp r) (fun m0 j0 => fun z => z = (.inl (some (.int (if n_ls (fun p => n_fre f x (8 * B + p)) m0 j0 < j0 + m0 then Int32.ofNat (8 * B + n_ls (fun p => n_fre f x (8 * B + p)) m0 j0 + 1) else 0))), 0, mw p th pr sl ex ta nx on lf mo cv cg cT cp r)) (fun m0 j0 hj0 ih0 => ?_) ?_
      · refine xk_Po.go 2 rfl ?_
        refine xk_Po.br rfl rfl (fun hx => absurd ((xn_le (a := 8) (b := j0) (by omega) (by omega)).1 hx) (by omega)) (fun _ => ?_)
        refine xk_Po.go 9 rfl ?_
        rw [s_spot B j0]
        refine xk_Po.ci3 rfl rfl (n_isFree T hC (y := 8 * B + j0) (by omega)) ?_
        by_cases kk : n_fre f x (8 * B + j0)
        · rw [xn_bt kk]
          refine xk_Po.go 8 rfl ?_
          rw [s_spot B j0]
          rw [show n_ls (fun p => n_fre f x (8 * B + p)) (m0 + 1) j0 = j0 from if_pos kk, if_pos (by omega)]
          exact xk_Po.iret rfl rfl
        · rw [xn_bf kk]
          rw [show n_ls (fun p => n_fre f x (8 * B + p)) (m0 + 1) j0 = n_ls (fun p => n_fre f x (8 * B + p)) m0 (j0 + 1) from if_neg kk, show j0 + (m0 + 1) = j0 + 1 + m0 by omega]
          refine xk_Po.go 3 rfl ?_
          rw [← xn_suc j0] at ih0
          exact ih0
      · refine xk_Po.go 4 rfl ?_
        rw [if_neg (show ¬ n_ls (fun p => n_fre f x (8 * B + p)) 0 8 < 8 + 0 by show ¬ 8 < 8 + 0; omega)]
        exact xk_Po.iret rfl rfl
    · refine xk_Po.go 1 rfl ?_
      refine xk_Po.br rfl rfl (fun k0 => absurd (n_md_neg.2 hB4) (fun r => by rw [Int32.lt_iff_toInt_lt] at r; rw [Int32.le_iff_toInt_le] at k0; omega)) (fun _ => ?_)
      refine xk_Po.go 1 rfl ?_
      rw [show n_rm f x B = 32 from if_neg hB4]
      exact xk_Po.iret rfl rfl
end XkRoom
