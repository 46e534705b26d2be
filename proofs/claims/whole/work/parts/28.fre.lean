/-! Where room is found. -/
section XkFre
variable {sc : Nat × (Nat → Int32)} {sl ex ab ta dr : Nat → Int32} {md ml mt mc on ct : Int32} {r w : xk_W}
def s_free (t : Nat → Int32) (mt : Int32) (d : Nat) : Int32 := t (1 + d) - s_cnt (fun j => s_disk (t (9 + j) - 1) = Int32.ofNat d) 40 - (if s_disk mt = Int32.ofNat d then 1 else 0)
def s_fr (t ab : Nat → Int32) (mt bar : Int32) : Nat → Int32 × Int32
  | 0 => (-1, 0)
  | d + 1 => if ¬ t (1 + d) = 0 ∧ ab d = 0 then (if bar >>> (Int32.ofNat d &&& 31) &&& 1 = 0 then (if s_free t mt d ≤ (s_fr t ab mt bar d).2 then s_fr t ab mt bar d else (Int32.ofNat d, s_free t mt d)) else s_fr t ab mt bar d) else s_fr t ab mt bar d
theorem s_fr_d (t ab : Nat → Int32) (mt bar : Int32) : ∀ n, (s_fr t ab mt bar n).1 = Int32.ofInt (-1) ∨ ∃ d, d < n ∧ (s_fr t ab mt bar n).1 = Int32.ofNat d
  | 0 => .inl rfl
  | n + 1 => by
    have ih : (s_fr t ab mt bar n).1 = Int32.ofInt (-1) ∨ ∃ d, d < n + 1 ∧ (s_fr t ab mt bar n).1 = Int32.ofNat d := (s_fr_d t ab mt bar n).imp_right (fun ⟨d, h, e⟩ => ⟨d, by omega, e⟩)
    unfold s_fr
    split
    · split
      · split
        · exact ih
        · exact .inr ⟨n, by omega, rfl⟩
      · exact ih
    · exact ih
def s_room (t ab : Nat → Int32) (mt bar : Int32) : Int32 := if (s_fr t ab mt bar 4).1 = Int32.ofInt (-1) then -1 else s_lfs t mt ((s_fr t ab mt bar 4).1.toNatClampNeg * 8) (t (1 + (s_fr t ab mt bar 4).1.toNatClampNeg)).toNatClampNeg 0
theorem c_leastFreeSpotI {g : Int32} (hg : ∃ d, d < 4 ∧ g = Int32.ofNat d) (hE : ∀ d, d < 4 → ∃ n, n ≤ 8 ∧ dr (1 + d) = Int32.ofNat n) : xk_Ev (xp_P sc) 92 0 [.ref 0, .int g, .retAddr 0, .retAddr 0] [] (cw sl ex ab ta dr md ml mt mc on ct r) (.inl (some (.int (s_lfs dr mt (g.toNatClampNeg * 8) (dr (1 + g.toNatClampNeg)).toNatClampNeg 0))), 0, cw sl ex ab ta dr md ml mt mc on ct r) := by
  obtain ⟨d, hd, rfl⟩ := hg
  obtain ⟨n, hn, e⟩ := hE d hd
  rw [xn_nat (j := d) (by omega), e, xn_nat (j := n) (by omega)]
  exact c_leastFreeSpot hd hn e
theorem c_findRoom {v e l c : Nat} (hv : v < 4) (he : e < 5) (hl : l < 2) (h1 : 1 ≤ c) (hc : c < 4) (hu : e - e % c + c ≤ 5) (hw : s_col (dr (5 + v)) = Int32.ofNat c) {b : Int32} (hb : ∀ i, ab i = 0 ∨ ab i = 1) (hE : ∀ d, d < 4 → ∃ n, n ≤ 8 ∧ dr (1 + d) = Int32.ofNat n) : xk_Ev (xp_P sc) 91 0 [.ref 0, .int (Int32.ofNat v), .int (Int32.ofNat e), .int (Int32.ofNat l), .int b, .retAddr 0, .retAddr 0, .retAddr 0, .retAddr 0, .retAddr 0] [] (cw sl ex ab ta dr md ml mt mc on ct r) (.inl (some (.int (s_room dr ab mt (b ||| s_gO dr ml mt v e l (e - e % c) c)))), 0, cw sl ex ab ta dr md ml mt mc on ct r) := by
  apply xk_Ev.of
  refine xk_Po.go 5 rfl ?_
  refine xk_Po.ci4 rfl rfl (c_groupDisks hv he hl h1 hc hu hw) ?_
  refine xk_Po.go 8 rfl ?_
  refine xk_Po.loopJ 4 (fun j0 x y => [.ref 0, .int (Int32.ofNat v), .int (Int32.ofNat e), .int (Int32.ofNat l), .int b, .int (b ||| s_gO dr ml mt v e l (e - e % c) c), .int (s_fr dr ab mt (b ||| s_gO dr ml mt v e l (e - e % c) c) j0).1, .int (s_fr dr ab mt (b ||| s_gO dr ml mt v e l (e - e % c) c) j0).2, .int (Int32.ofNat j0), x]) (fun j0 => cw sl ex ab ta dr md ml mt mc on ct r) (fun m0 j0 => _) (fun m0 j0 x y hj0 ih0 => ?_) (fun x y => ?_) (.retAddr 0) (.retAddr 0)
  · have uj0 : j0 < 4 := by omega
    refine xk_Po.go 2 rfl ?_
    refine xk_Po.br rfl rfl (fun hx => absurd ((xn_le (a := 4) (b := j0) (by omega) (by omega)).1 hx) (by omega)) (fun _ => ?_)
    refine xk_Po.go 4 rfl ?_
    refine xk_Po.ci3 rfl rfl (d_countFree (by omega)) ?_
    refine xk_Po.go 5 rfl ?_
    refine xk_Po.ci3 rfl rfl (d_isListedAndPresent (by omega) hb) ?_
    refine xk_Po.br rfl rfl (fun h0 => ?_) (fun h0 => ?_) -- 28 .ifCond .eq 42
    · refine xk_Po.go 2 rfl ?_
      rw [show s_fr dr ab mt (b ||| s_gO dr ml mt v e l (e - e % c) c) (j0 + 1) = s_fr dr ab mt (b ||| s_gO dr ml mt v e l (e - e % c) c) j0 from if_neg (xn_b0 h0), ← xn_suc j0] at ih0
      exact ih0 _ y
    · refine xk_Po.go 5 rfl ?_
      refine xk_Po.br rfl rfl (fun h1 => ?_) (fun h1 => ?_) -- 34 .ifCond .ne 42
      · refine xk_Po.go 2 rfl ?_
        refine xk_Po.br rfl rfl (fun h2 => ?_) (fun h2 => ?_) -- 37 .if_icmp .le 42
        · refine xk_Po.go 2 rfl ?_
          rw [show s_fr dr ab mt (b ||| s_gO dr ml mt v e l (e - e % c) c) (j0 + 1) = s_fr dr ab mt (b ||| s_gO dr ml mt v e l (e - e % c) c) j0 from (if_pos (xn_b1 h0)).trans ((if_pos h1).trans (if_pos h2)), ← xn_suc j0] at ih0
          exact ih0 _ y
        · refine xk_Po.go 6 rfl ?_
          rw [show s_fr dr ab mt (b ||| s_gO dr ml mt v e l (e - e % c) c) (j0 + 1) = (Int32.ofNat j0, s_free dr mt j0) from (if_pos (xn_b1 h0)).trans ((if_pos h1).trans (if_neg h2)), ← xn_suc j0] at ih0
          exact ih0 _ y
      · refine xk_Po.go 2 rfl ?_
        rw [show s_fr dr ab mt (b ||| s_gO dr ml mt v e l (e - e % c) c) (j0 + 1) = s_fr dr ab mt (b ||| s_gO dr ml mt v e l (e - e % c) c) j0 from (if_pos (xn_b1 h0)).trans (if_neg h1), ← xn_suc j0] at ih0
        exact ih0 _ y
  · refine xk_Po.go 5 rfl ?_
    refine xk_Po.br rfl rfl (fun h0 => ?_) (fun h0 => ?_) -- 46 .if_icmp .ne 49
    · refine xk_Po.go 2 rfl ?_
      exact xk_Po.iret rfl (congrArg (fun z => ((.inl (some (.int z)), 0, _) : xk_R)) (if_pos h0).symm)
    · refine xk_Po.go 2 rfl ?_
      refine xk_Po.ci2 rfl rfl (c_leastFreeSpotI (((s_fr_d dr ab mt (b ||| s_gO dr ml mt v e l (e - e % c) c) 4).resolve_left h0)) hE) ?_
      exact xk_Po.iret rfl (congrArg (fun z => ((.inl (some (.int z)), 0, _) : xk_R)) (if_neg h0).symm)
theorem c_giveRoom {v e l c : Nat} (hv : v < 4) (he : e < 5) (hl : l < 2) (h1 : 1 ≤ c) (hc : c < 4) (hu : e - e % c + c ≤ 5) (hw : s_col (dr (5 + v)) = Int32.ofNat c) (hb : ∀ i, ab i = 0 ∨ ab i = 1) (hE : ∀ d, d < 4 → ∃ n, n ≤ 8 ∧ dr (1 + d) = Int32.ofNat n) (h : ¬ s_room dr ab mt (0 ||| s_gO dr ml mt v e l (e - e % c) c) = Int32.ofInt (-1)) : xk_Ev (xp_P sc) 96 0 [.ref 0, .int (Int32.ofNat v), .int (Int32.ofNat e), .int (Int32.ofNat l), .retAddr 0] [] (cw sl ex ab ta dr md ml mt mc on ct r) (.inl none, 0, cw sl ex ab ta (upd dr (9 + (v * 10 + e * 2 + l)) (s_room dr ab mt (0 ||| s_gO dr ml mt v e l (e - e % c) c) + 1)) md ml mt mc on ct r) := by
  apply xk_Ev.of
  refine xk_Po.go 5 rfl ?_
  refine xk_Po.ci5 rfl rfl (c_findRoom hv he hl h1 hc hu hw hb hE) ?_
  refine xk_Po.go 3 rfl ?_
  refine xk_Po.br rfl rfl (fun h0 => ?_) (fun h0 => ?_) -- 9 .if_icmp .ne 11
  · exact xk_Po.thr rfl (absurd h0 h)
  · refine xk_Po.go 5 rfl ?_
    refine xk_Po.ci3 rfl rfl (c_legOfN) ?_
    refine xk_Po.go 1 rfl ?_
    refine xk_Po.cv3 rfl rfl (d_setSpotN (by omega)) ?_
    exact xk_Po.ret rfl rfl
theorem c_giveRoom_t {v e l c : Nat} (hv : v < 4) (he : e < 5) (hl : l < 2) (h1 : 1 ≤ c) (hc : c < 4) (hu : e - e % c + c ≤ 5) (hw : s_col (dr (5 + v)) = Int32.ofNat c) (hb : ∀ i, ab i = 0 ∨ ab i = 1) (hE : ∀ d, d < 4 → ∃ n, n ≤ 8 ∧ dr (1 + d) = Int32.ofNat n) (h : s_room dr ab mt (0 ||| s_gO dr ml mt v e l (e - e % c) c) = Int32.ofInt (-1)) : xk_Ev (xp_P sc) 96 0 [.ref 0, .int (Int32.ofNat v), .int (Int32.ofNat e), .int (Int32.ofNat l), .retAddr 0] [] (cw sl ex ab ta dr md ml mt mc on ct r) (.inr 2, 1, cw sl ex ab ta dr md ml mt mc on ct r) := by
  apply xk_Ev.of
  refine xk_Po.go 5 rfl ?_
  refine xk_Po.ci5 rfl rfl (c_findRoom hv he hl h1 hc hu hw hb hE) ?_
  refine xk_Po.go 3 rfl ?_
  refine xk_Po.br rfl rfl (fun h0 => ?_) (fun h0 => ?_) -- 9 .if_icmp .ne 11
  · exact xk_Po.thr rfl rfl
  · refine xk_Po.go 5 rfl ?_
    refine xk_Po.ci3 rfl rfl (c_legOfN) ?_
    refine xk_Po.go 1 rfl ?_
    refine xk_Po.cv3 rfl rfl (d_setSpotN (by omega)) ?_
    exact xk_Po.ret rfl (absurd h h0)
theorem s_lose_eq (v : Nat) : Int32.ofNat v + Int32.ofInt 1 = Int32.ofNat (v + 1) := xn_suc v
theorem d_loseElements {v f : Nat} (hv : v < 4) (hf : f ≤ 5) : xk_Ev (xp_P sc) 33 0 [.ref 7, .int (Int32.ofNat v), .int (Int32.ofNat f), .retAddr 0] [] (cw sl ex ab ta dr md ml mt mc on ct r) (.inl none, 0, cw sl ex ab ta (s_clr dr (fun _ => True) (9 + (v * 10 + f * 2 + 0)) (10 - f * 2)) md ml mt mc on ct r) := by
  apply xk_Ev.of
  refine xk_Po.go 3 rfl ?_
  refine xk_Po.ci3 rfl rfl (c_legOfN (l := 0)) ?_
  refine xk_Po.go 1 rfl ?_
  refine xk_Po.loop (10 - f * 2) (fun j0 => [.ref 7, .int (Int32.ofNat v), .int (Int32.ofNat f), .int (Int32.ofNat ((v * 10 + f * 2 + 0) + j0))]) (fun j0 => cw sl ex ab ta (s_clr dr (fun _ => True) (9 + (v * 10 + f * 2 + 0)) j0) md ml mt mc on ct r) (fun m0 j0 => _) (fun m0 j0 hj0 ih0 => ?_) ?_
  · have uj0 : j0 < (10 - f * 2) := by omega
    refine xk_Po.go 6 rfl ?_
    refine xk_Po.ci3 rfl rfl (by have h := c_legOfN (sc := sc) (v := v + 1) (e := 0) (l := 0) (w := cw sl ex ab ta (s_clr dr (fun _ => True) (9 + (v * 10 + f * 2 + 0)) j0) md ml mt mc on ct r); rw [← xn_suc v] at h; exact h) ?_
    refine xk_Po.br rfl rfl (fun hx => absurd ((xn_le (a := (v + 1) * 10 + 0 * 2 + 0) (b := (v * 10 + f * 2 + 0) + j0) (by omega) (by omega)).1 hx) (by omega)) (fun _ => ?_)
    refine xk_Po.go 3 rfl ?_
    refine xk_Po.cv3 rfl rfl (d_setSpotN (by omega)) ?_
    refine xk_Po.go 2 rfl ?_
    rw [show s_clr dr (fun _ => True) (9 + (v * 10 + f * 2 + 0)) (j0 + 1) = upd (s_clr dr (fun _ => True) (9 + (v * 10 + f * 2 + 0)) j0) (9 + ((v * 10 + f * 2 + 0) + j0)) (Int32.ofInt (-1) + 1) from by rw [← Nat.add_assoc 9 (v * 10 + f * 2 + 0) j0]; rfl, ← show Int32.ofNat ((v * 10 + f * 2 + 0) + j0) + Int32.ofInt 1 = Int32.ofNat ((v * 10 + f * 2 + 0) + (j0 + 1)) from xn_suc ((v * 10 + f * 2 + 0) + j0)] at ih0
    exact ih0
  · refine xk_Po.go 6 rfl ?_
    refine xk_Po.ci3 rfl rfl (by have h := c_legOfN (sc := sc) (v := v + 1) (e := 0) (l := 0) (w := cw sl ex ab ta (s_clr dr (fun _ => True) (9 + (v * 10 + f * 2 + 0)) (10 - f * 2)) md ml mt mc on ct r); rw [← xn_suc v] at h; exact h) ?_
    refine xk_Po.br rfl rfl (fun _ => ?_) (fun hx => absurd ((xn_le (by omega) (by omega)).2 (by omega)) hx)
    exact xk_Po.ret rfl rfl
end XkFre
