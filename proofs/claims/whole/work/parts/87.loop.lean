section XkLoop
theorem xn_31 (a : Int32) : ∃ k, k < 32 ∧ a &&& Int32.ofInt 31 = Int32.ofNat k := by
  refine ⟨(a &&& Int32.ofInt 31).toBitVec.toNat, ?_, ?_⟩
  · rw [Int32.toBitVec_and, BitVec.toNat_and]
    have : a.toBitVec.toNat &&& (Int32.ofInt 31).toBitVec.toNat ≤ (Int32.ofInt 31).toBitVec.toNat := Nat.and_le_right
    have h31 : (Int32.ofInt 31).toBitVec.toNat = 31 := by decide
    omega
  · apply Int32.toBitVec_inj.1
    rw [Int32.toBitVec_ofNat', BitVec.ofNat_toNat, BitVec.setWidth_eq]
theorem s_R_up {B B2 : Nat} {th : Int32} {ou : Nat → Int64} {W : xk_W} (hB : B ≤ B2) (h : s_R B th ou W) : s_R B2 th ou W := by
  rcases h with ⟨sl, ex, ab, ta, dr, nx, f, n, dN, mN, xN, cN, mc, ct, cv, cg, cT, cp, hd, hx, N, rfl⟩ | ⟨sl, ex, ab, ta, dr, nx, mc, cv, cg, cT, cp, hd, hx, hz, V, hb, hA, rfl⟩
  · exact R_on hB hd hx N
  · exact R_off hB hd hx hz V hb hA
set_option maxRecDepth 20000 in
theorem l_disp {sc : Nat × (Nat → Int32)} {i B : Nat} {th : Int32} {ou : Nat → Int64} {W : xk_W} {y5 y6 : Value} {Φ : xk_R → Prop} (h : s_R B th ou W) (hB : B + 2 < 2147483648) (hi : i + 3 < sc.1) (hn : sc.1 < 2147483648) (K : s_K sc i B Φ) : xk_Po (xp_P sc) 180 13 [.ref 999, .ref 0, .ref 10, .ref 16, .int (Int32.ofNat i), y5, y6] [.int (sc.2 i &&& Int32.ofInt 31)] W Φ := by
  obtain ⟨k, hk, e⟩ := xn_31 (sc.2 i)
  rw [e]
  have hc : k = 0 ∨ k = 1 ∨ k = 2 ∨ k = 3 ∨ k = 4 ∨ k = 5 ∨ k = 6 ∨ k = 7 ∨ k = 8 ∨ k = 9 ∨ k = 10 ∨ k = 11 ∨ k = 12 ∨ k = 13 ∨ k = 14 ∨ k = 15 ∨ k = 16 ∨ k = 17 ∨ k = 18 ∨ k = 19 ∨ k = 20 ∨ k = 21 ∨ k = 22 ∨ k = 23 ∨ k = 24 ∨ k = 25 ∨ k = 26 ∨ k = 27 ∨ k = 28 ∨ k = 29 ∨ k = 30 ∨ k = 31 := by omega
  rcases hc with rfl | rfl | rfl | rfl | rfl | rfl | rfl | rfl | rfl | rfl | rfl | rfl | rfl | rfl | rfl | rfl | rfl | rfl | rfl | rfl | rfl | rfl | rfl | rfl | rfl | rfl | rfl | rfl | rfl | rfl | rfl | rfl
  · refine xk_Po.go 1 rfl ?_
    exact t_0 h hB hi hn K
  · refine xk_Po.go 1 rfl ?_
    exact t_1 h hB hi hn K
  · refine xk_Po.go 1 rfl ?_
    exact t_2 h hB hi hn K
  · refine xk_Po.go 1 rfl ?_
    exact t_3 h hB hi hn K
  · refine xk_Po.go 1 rfl ?_
    exact t_4 h hB hi hn K
  · refine xk_Po.go 1 rfl ?_
    exact t_5 h hB hi hn K
  · refine xk_Po.go 1 rfl ?_
    exact t_6 h hB hi hn K
  · refine xk_Po.go 1 rfl ?_
    exact t_7 h hB hi hn K
  · refine xk_Po.go 1 rfl ?_
    exact t_8 h hB hi hn K
  · refine xk_Po.go 1 rfl ?_
    exact t_9 h hB hi hn K
  · refine xk_Po.go 1 rfl ?_
    exact t_10 h hB hi hn K
  · refine xk_Po.go 1 rfl ?_
    exact t_11 h hB hi hn K
  · refine xk_Po.go 1 rfl ?_
    exact t_12 h hB hi hn K
  · refine xk_Po.go 1 rfl ?_
    exact t_13 h hB hi hn K
  · refine xk_Po.go 1 rfl ?_
    exact t_14 h hB hi hn K
  · refine xk_Po.go 1 rfl ?_
    exact t_15 h hB hi hn K
  · refine xk_Po.go 1 rfl ?_
    exact t_16 h hB hi hn K
  · refine xk_Po.go 1 rfl ?_
    exact t_17 h hB hi hn K
  · refine xk_Po.go 1 rfl ?_
    by_cases hp : sc.2 (i + 2) = 0
    · exact t_18a h hB hi hn hp K
    · exact t_18b h hB hi hn hp K
  · refine xk_Po.go 1 rfl ?_
    exact t_19 h hB hi hn K
  · refine xk_Po.go 1 rfl ?_
    exact t_20 h hB hi hn K
  · refine xk_Po.go 1 rfl ?_
    exact t_21 h hB hi hn K
  · refine xk_Po.go 1 rfl ?_
    exact (K 0 th ou W y5 y6 (by omega) (s_R_up (by omega) h)).mono (fun z hz => by simpa using hz)
  · refine xk_Po.go 1 rfl ?_
    exact (K 0 th ou W y5 y6 (by omega) (s_R_up (by omega) h)).mono (fun z hz => by simpa using hz)
  · refine xk_Po.go 1 rfl ?_
    exact (K 0 th ou W y5 y6 (by omega) (s_R_up (by omega) h)).mono (fun z hz => by simpa using hz)
  · refine xk_Po.go 1 rfl ?_
    exact (K 0 th ou W y5 y6 (by omega) (s_R_up (by omega) h)).mono (fun z hz => by simpa using hz)
  · refine xk_Po.go 1 rfl ?_
    exact (K 0 th ou W y5 y6 (by omega) (s_R_up (by omega) h)).mono (fun z hz => by simpa using hz)
  · refine xk_Po.go 1 rfl ?_
    exact (K 0 th ou W y5 y6 (by omega) (s_R_up (by omega) h)).mono (fun z hz => by simpa using hz)
  · refine xk_Po.go 1 rfl ?_
    exact (K 0 th ou W y5 y6 (by omega) (s_R_up (by omega) h)).mono (fun z hz => by simpa using hz)
  · refine xk_Po.go 1 rfl ?_
    exact (K 0 th ou W y5 y6 (by omega) (s_R_up (by omega) h)).mono (fun z hz => by simpa using hz)
  · refine xk_Po.go 1 rfl ?_
    exact (K 0 th ou W y5 y6 (by omega) (s_R_up (by omega) h)).mono (fun z hz => by simpa using hz)
  · refine xk_Po.go 1 rfl ?_
    exact (K 0 th ou W y5 y6 (by omega) (s_R_up (by omega) h)).mono (fun z hz => by simpa using hz)
set_option maxRecDepth 20000 in
theorem l_fw {sc : Nat × (Nat → Int32)} (hn : sc.1 ≤ 100000) : ∀ (m i B : Nat) (th : Int32) (ou : Nat → Int64) (W : xk_W) (y5 y6 : Value), sc.1 + 4 ≤ i + m → i ≤ sc.1 → B ≤ i → s_R B th ou W → xk_Po (xp_P sc) 180 2 [.ref 999, .ref 0, .ref 10, .ref 16, .int (Int32.ofNat i), y5, y6] [] W (fun z => z.1 = .inl (some (.int 1)) ∧ z.2.1 ≤ (sc.1 - i) / 4 ∧ ∃ th ou, s_R (i + (sc.1 - i)) th ou z.2.2) := by
  intro m
  induction m with
  | zero => intro i B th ou W y5 y6 h1 h2; omega
  | succ m ih =>
    intro i B th ou W y5 y6 h1 h2 hBi h
    refine xk_Po.go 5 rfl ?_
    have ei : (Int32.ofNat sc.1 - Int32.ofInt 4).toInt = (sc.1 : Int) - 4 := by
      have e4 : (Int32.ofInt 4).toInt = 4 := by decide
      rw [Int32.toInt_sub, xn_int (by omega), e4]
      exact Int.bmod_eq_of_le (by omega) (by omega)
    refine xk_Po.br rfl rfl (fun hz => ?_) (fun hz => ?_)
    · refine xk_Po.go 1 rfl ?_
      refine xk_Po.zret rfl (.inr rfl) ⟨rfl, Nat.zero_le _, th, ou, s_R_up (by omega) h⟩
    · have hi : i + 3 < sc.1 := by
        rw [Int32.lt_iff_toInt_lt, ei, xn_int (by omega)] at hz
        omega
      refine xk_Po.go 2 rfl ?_
      have hW : W[999]? = none := by
        rcases h with ⟨sl, ex, ab, ta, dr, nx, f, n, dN, mN, xN, cN, mc, ct, cv, cg, cT, cp, hd, hx, N, rfl⟩ | ⟨sl, ex, ab, ta, dr, nx, mc, cv, cg, cT, cp, hd, hx, hz, V, hb, hA, rfl⟩
        · rfl
        · rfl
      refine xk_Po.ok (b := xk_ix (Int32.ofNat i) sc.1 = true) (i1 := 11) (st1 := [.int (sc.2 (Int32.ofNat i).toNatClampNeg)]) (w1 := W) rfl (by
        simp only [xk_step, hW]
        rfl) (xn_ix (j := i) (n := sc.1) (by omega) (by omega)) ?_
      rw [xn_nat (j := i) (by omega)]
      refine xk_Po.go 2 rfl ?_
      refine l_disp h (by omega) hi (by omega) (fun q k ou2 W2 z5 z6 hq hR => ?_)
      refine xk_Po.go 2 rfl ?_
      rw [show Int32.ofNat i + Int32.ofInt 4 = Int32.ofNat (i + 4) from xn_add i 4]
      refine (ih (i + 4) (B + 2) k ou2 W2 z5 z6 (by omega) (by omega) (by omega) hR).mono (fun z hz => ?_)
      obtain ⟨z1, z2, t3, o3, z3⟩ := hz
      refine ⟨z1, ?_, t3, o3, ?_⟩
      · show q + z.2.1 ≤ (sc.1 - i) / 4
        omega
      · rw [show i + (sc.1 - i) = i + 4 + (sc.1 - (i + 4)) by omega]
        exact z3
set_option maxRecDepth 20000 in
theorem l_all {sc : Nat × (Nat → Int32)} (hn : sc.1 ≤ 100000) {th : Int32} {ou : Nat → Int64} {W : xk_W} {y4 y5 y6 : Value} (h : s_R 0 th ou W) : xk_Po (xp_P sc) 180 0 [.ref 999, .ref 0, .ref 10, .ref 16, y4, y5, y6] [] W (fun z => z.1 = .inl (some (.int 1)) ∧ z.2.1 ≤ sc.1 / 4 ∧ ∃ th ou, s_R sc.1 th ou z.2.2) := by
  refine xk_Po.go 2 rfl ?_
  refine (l_fw hn (sc.1 + 4) 0 0 th ou W y5 y6 (by omega) (by omega) (by omega) h).mono (fun z hz => ?_)
  simpa using hz
end XkLoop
