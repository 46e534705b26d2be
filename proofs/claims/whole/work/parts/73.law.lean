section XkLaw
theorem xk_Po.cD {P : Nat → xk_M} {k i j na : Nat} {L st : List Value} {w w1 : xk_W} {Φ : xk_R → Prop} {v : Value} {q : Nat} (h : (P k).1[i]? = some (.invokeinterface j na)) (hf : xk_fit P j na st w = true) (hc : xk_Ev P j 0 (xk_in P j na st) [] w (.inl (some v), q, w1)) (hk : xk_Po P k (i + 1) L (v :: st.drop na) w1 (fun z => Φ (z.1, q + z.2.1, z.2.2))) : xk_Po P k i L st w Φ := by
  obtain ⟨⟨o, d2, w2⟩, h1, h2⟩ := hk
  exact ⟨(o, q + d2, w2), xk_Ev.call (st := st) (v := some v) h hf hc h1, h2⟩
theorem lg_same (x : Int64) : lg_cmp x x = 0 := by
  unfold lg_cmp
  rw [if_neg (fun q => by
    have := Int64.lt_iff_toInt_lt.1 q
    omega), if_pos rfl]
theorem l_thr {sc : Nat × (Nat → Int32)} {sl : Nat → Int32} {ex : Nat → Int32} {ab : Nat → Int32} {ta : Nat → Int32} {dr : Nat → Int32} {md : Int32} {ml : Int32} {mt : Int32} {mc : Int32} {on : Int32} {ct : Int32} {th : Int32} {pr : Nat → Int32} {sl2 : Nat → Int32} {ex2 : Nat → Int32} {ta2 : Nat → Int32} {nx : Nat → Int32} {on2 : Int32} {lf : Int32} {mo : Int32} {cv : Int32} {cg : Int32} {cT : Int32} {cp : Int32} {ou : Nat → Int64} : xk_Ev (xp_P sc) 107 0 [.ref 10] [] (cw sl ex ab ta dr md ml mt mc on ct (mrr th pr sl2 ex2 ta2 nx on2 lf mo cv cg cT cp ou)) (.inl (some (.int th)), 0, cw sl ex ab ta dr md ml mt mc on ct (mrr th pr sl2 ex2 ta2 nx on2 lf mo cv cg cT cp ou)) := r_thrown (p := c10 sl ex ab ta dr md ml mt mc on ct) (th := th) (pr := pr) (sl := sl2) (ex := ex2) (ta := ta2) (nx := nx) (on := on2) (lf := lf) (mo := mo) (cv := cv) (cg := cg) (cT := cT) (cp := cp) (r := [.inl (2, 1, .inr ou)])
set_option maxRecDepth 20000 in
theorem l_0 {sc : Nat × (Nat → Int32)} {i : Nat} (hi : i + 3 < sc.1) (hn : sc.1 < 2147483648) {y5 y6 : Value} {Φ : xk_R → Prop} {sl0 : Nat → Int32} {ex0 : Nat → Int32} {ab0 : Nat → Int32} {ta0 : Nat → Int32} {dr0 : Nat → Int32} {md0 : Int32} {ml0 : Int32} {mt0 : Int32} {mc0 : Int32} {on0 : Int32} {ct0 : Int32} {th0 : Int32} {pr0 : Nat → Int32} {sl20 : Nat → Int32} {ex20 : Nat → Int32} {ta20 : Nat → Int32} {nx0 : Nat → Int32} {on20 : Int32} {lf0 : Int32} {mo0 : Int32} {cv0 : Int32} {cg0 : Int32} {cT0 : Int32} {cp0 : Int32} {ou0 : Nat → Int64} {sl1 : Nat → Int32} {ex1 : Nat → Int32} {ab1 : Nat → Int32} {ta1 : Nat → Int32} {dr1 : Nat → Int32} {md1 : Int32} {ml1 : Int32} {mt1 : Int32} {mc1 : Int32} {on1 : Int32} {ct1 : Int32} {pr2 : Nat → Int32} {sl22 : Nat → Int32} {ex22 : Nat → Int32} {ta22 : Nat → Int32} {nx2 : Nat → Int32} {on22 : Int32} {lf2 : Int32} {mo2 : Int32} {cv2 : Int32} {cg2 : Int32} {cT2 : Int32} {cp2 : Int32} {ou2 : Nat → Int64} {k : Int32} {q : Nat} (hc : xk_Ev (xp_P sc) 160 0 [.ref 0, .int (sc.2 (i + 1)), .int (sc.2 (i + 2)), .retAddr 0] [] (cw sl0 ex0 ab0 ta0 dr0 md0 ml0 mt0 mc0 on0 ct0 (mrr th0 pr0 sl20 ex20 ta20 nx0 on20 lf0 mo0 cv0 cg0 cT0 cp0 ou0)) (.inl (some (.int k)), q, cw sl1 ex1 ab1 ta1 dr1 md1 ml1 mt1 mc1 on1 ct1 (mrr th0 pr0 sl20 ex20 ta20 nx0 on20 lf0 mo0 cv0 cg0 cT0 cp0 ou0))) (hm : xk_Ev (xp_P sc) 133 0 [.ref 10, .int (sc.2 (i + 1)), .int (sc.2 (i + 2)), .retAddr 0] [] (cw sl1 ex1 ab1 ta1 dr1 md1 ml1 mt1 mc1 on1 ct1 (mrr th0 pr0 sl20 ex20 ta20 nx0 on20 lf0 mo0 cv0 cg0 cT0 cp0 ou0)) (.inl none, 0, cw sl1 ex1 ab1 ta1 dr1 md1 ml1 mt1 mc1 on1 ct1 (mrr k pr2 sl22 ex22 ta22 nx2 on22 lf2 mo2 cv2 cg2 cT2 cp2 ou2))) (h : xk_Po (xp_P sc) 180 784 [.ref 999, .ref 0, .ref 10, .ref 16, .int (Int32.ofNat i), .int k, y6] [] (cw sl1 ex1 ab1 ta1 dr1 md1 ml1 mt1 mc1 on1 ct1 (mrr k pr2 sl22 ex22 ta22 nx2 on22 lf2 mo2 cv2 cg2 cT2 cp2 ou2)) (fun z => Φ (z.1, q + z.2.1, z.2.2))) : xk_Po (xp_P sc) 180 14 [.ref 999, .ref 0, .ref 10, .ref 16, .int (Int32.ofNat i), y5, y6] [] (cw sl0 ex0 ab0 ta0 dr0 md0 ml0 mt0 mc0 on0 ct0 (mrr th0 pr0 sl20 ex20 ta20 nx0 on20 lf0 mo0 cv0 cg0 cT0 cp0 ou0)) Φ := by
  refine xk_Po.go 5 rfl ?_
  refine xk_Po.ok rfl rfl (xn_ixa (a := i) (j := 1) (by omega) (by omega)) ?_ -- 19 .iaload
  rw [show (Int32.ofNat i + Int32.ofInt 1).toNatClampNeg = i + 1 from xn_nata (a := i) (j := 1) (by omega)]
  refine xk_Po.go 4 rfl ?_
  refine xk_Po.ok rfl rfl (xn_ixa (a := i) (j := 2) (by omega) (by omega)) ?_ -- 24 .iaload
  rw [show (Int32.ofNat i + Int32.ofInt 2).toNatClampNeg = i + 2 from xn_nata (a := i) (j := 2) (by omega)]
  refine xk_Po.cD rfl rfl (hc) ?_
  refine xk_Po.go 6 rfl ?_
  refine xk_Po.ok rfl rfl (xn_ixa (a := i) (j := 1) (by omega) (by omega)) ?_ -- 32 .iaload
  rw [show (Int32.ofNat i + Int32.ofInt 1).toNatClampNeg = i + 1 from xn_nata (a := i) (j := 1) (by omega)]
  refine xk_Po.go 4 rfl ?_
  refine xk_Po.ok rfl rfl (xn_ixa (a := i) (j := 2) (by omega) (by omega)) ?_ -- 37 .iaload
  rw [show (Int32.ofNat i + Int32.ofInt 2).toNatClampNeg = i + 2 from xn_nata (a := i) (j := 2) (by omega)]
  refine xk_Po.cv3 rfl rfl (hm) ?_
  refine xk_Po.go 1 rfl ?_
  refine xk_Po.ci1 rfl rfl (l_thr) ?_
  refine xk_Po.go 1 rfl ?_
  refine xk_Po.br rfl rfl (fun _ => ?_) (fun hZ => absurd (rfl) hZ) -- 42 .if_icmp .eq 45
  refine xk_Po.go 1 rfl ?_
  exact h
set_option maxRecDepth 20000 in
theorem l_1 {sc : Nat × (Nat → Int32)} {i : Nat} (hi : i + 3 < sc.1) (hn : sc.1 < 2147483648) {y5 y6 : Value} {Φ : xk_R → Prop} {sl0 : Nat → Int32} {ex0 : Nat → Int32} {ab0 : Nat → Int32} {ta0 : Nat → Int32} {dr0 : Nat → Int32} {md0 : Int32} {ml0 : Int32} {mt0 : Int32} {mc0 : Int32} {on0 : Int32} {ct0 : Int32} {th0 : Int32} {pr0 : Nat → Int32} {sl20 : Nat → Int32} {ex20 : Nat → Int32} {ta20 : Nat → Int32} {nx0 : Nat → Int32} {on20 : Int32} {lf0 : Int32} {mo0 : Int32} {cv0 : Int32} {cg0 : Int32} {cT0 : Int32} {cp0 : Int32} {ou0 : Nat → Int64} {sl1 : Nat → Int32} {ex1 : Nat → Int32} {ab1 : Nat → Int32} {ta1 : Nat → Int32} {dr1 : Nat → Int32} {md1 : Int32} {ml1 : Int32} {mt1 : Int32} {mc1 : Int32} {on1 : Int32} {ct1 : Int32} {pr2 : Nat → Int32} {sl22 : Nat → Int32} {ex22 : Nat → Int32} {ta22 : Nat → Int32} {nx2 : Nat → Int32} {on22 : Int32} {lf2 : Int32} {mo2 : Int32} {cv2 : Int32} {cg2 : Int32} {cT2 : Int32} {cp2 : Int32} {ou2 : Nat → Int64} {k : Int32} {q : Nat} (hc : xk_Ev (xp_P sc) 161 0 [.ref 0, .int (sc.2 (i + 1)), .retAddr 0] [] (cw sl0 ex0 ab0 ta0 dr0 md0 ml0 mt0 mc0 on0 ct0 (mrr th0 pr0 sl20 ex20 ta20 nx0 on20 lf0 mo0 cv0 cg0 cT0 cp0 ou0)) (.inl (some (.int k)), q, cw sl1 ex1 ab1 ta1 dr1 md1 ml1 mt1 mc1 on1 ct1 (mrr th0 pr0 sl20 ex20 ta20 nx0 on20 lf0 mo0 cv0 cg0 cT0 cp0 ou0))) (hm : xk_Ev (xp_P sc) 134 0 [.ref 10, .int (sc.2 (i + 1)), .retAddr 0] [] (cw sl1 ex1 ab1 ta1 dr1 md1 ml1 mt1 mc1 on1 ct1 (mrr th0 pr0 sl20 ex20 ta20 nx0 on20 lf0 mo0 cv0 cg0 cT0 cp0 ou0)) (.inl none, 0, cw sl1 ex1 ab1 ta1 dr1 md1 ml1 mt1 mc1 on1 ct1 (mrr k pr2 sl22 ex22 ta22 nx2 on22 lf2 mo2 cv2 cg2 cT2 cp2 ou2))) (h : xk_Po (xp_P sc) 180 784 [.ref 999, .ref 0, .ref 10, .ref 16, .int (Int32.ofNat i), .int k, y6] [] (cw sl1 ex1 ab1 ta1 dr1 md1 ml1 mt1 mc1 on1 ct1 (mrr k pr2 sl22 ex22 ta22 nx2 on22 lf2 mo2 cv2 cg2 cT2 cp2 ou2)) (fun z => Φ (z.1, q + z.2.1, z.2.2))) : xk_Po (xp_P sc) 180 46 [.ref 999, .ref 0, .ref 10, .ref 16, .int (Int32.ofNat i), y5, y6] [] (cw sl0 ex0 ab0 ta0 dr0 md0 ml0 mt0 mc0 on0 ct0 (mrr th0 pr0 sl20 ex20 ta20 nx0 on20 lf0 mo0 cv0 cg0 cT0 cp0 ou0)) Φ := by
  refine xk_Po.go 5 rfl ?_
  refine xk_Po.ok rfl rfl (xn_ixa (a := i) (j := 1) (by omega) (by omega)) ?_ -- 51 .iaload
  rw [show (Int32.ofNat i + Int32.ofInt 1).toNatClampNeg = i + 1 from xn_nata (a := i) (j := 1) (by omega)]
  refine xk_Po.cD rfl rfl (hc) ?_
  refine xk_Po.go 6 rfl ?_
  refine xk_Po.ok rfl rfl (xn_ixa (a := i) (j := 1) (by omega) (by omega)) ?_ -- 59 .iaload
  rw [show (Int32.ofNat i + Int32.ofInt 1).toNatClampNeg = i + 1 from xn_nata (a := i) (j := 1) (by omega)]
  refine xk_Po.cv2 rfl rfl (hm) ?_
  refine xk_Po.go 1 rfl ?_
  refine xk_Po.ci1 rfl rfl (l_thr) ?_
  refine xk_Po.go 1 rfl ?_
  refine xk_Po.br rfl rfl (fun _ => ?_) (fun hZ => absurd (rfl) hZ) -- 64 .if_icmp .eq 67
  refine xk_Po.go 1 rfl ?_
  exact h
set_option maxRecDepth 20000 in
theorem l_2 {sc : Nat × (Nat → Int32)} {i : Nat} (hi : i + 3 < sc.1) (hn : sc.1 < 2147483648) {y5 y6 : Value} {Φ : xk_R → Prop} {sl0 : Nat → Int32} {ex0 : Nat → Int32} {ab0 : Nat → Int32} {ta0 : Nat → Int32} {dr0 : Nat → Int32} {md0 : Int32} {ml0 : Int32} {mt0 : Int32} {mc0 : Int32} {on0 : Int32} {ct0 : Int32} {th0 : Int32} {pr0 : Nat → Int32} {sl20 : Nat → Int32} {ex20 : Nat → Int32} {ta20 : Nat → Int32} {nx0 : Nat → Int32} {on20 : Int32} {lf0 : Int32} {mo0 : Int32} {cv0 : Int32} {cg0 : Int32} {cT0 : Int32} {cp0 : Int32} {ou0 : Nat → Int64} {sl1 : Nat → Int32} {ex1 : Nat → Int32} {ab1 : Nat → Int32} {ta1 : Nat → Int32} {dr1 : Nat → Int32} {md1 : Int32} {ml1 : Int32} {mt1 : Int32} {mc1 : Int32} {on1 : Int32} {ct1 : Int32} {pr2 : Nat → Int32} {sl22 : Nat → Int32} {ex22 : Nat → Int32} {ta22 : Nat → Int32} {nx2 : Nat → Int32} {on22 : Int32} {lf2 : Int32} {mo2 : Int32} {cv2 : Int32} {cg2 : Int32} {cT2 : Int32} {cp2 : Int32} {ou2 : Nat → Int64} {k : Int32} {q : Nat} {ou1 : Nat → Int64} {b : Int32} (hk : k = 0 → ou2 0 = b.toInt64) (hc : xk_Ev (xp_P sc) 162 0 [.ref 0, .int (sc.2 (i + 1)), .ref 16, .retAddr 0] [] (cw sl0 ex0 ab0 ta0 dr0 md0 ml0 mt0 mc0 on0 ct0 (mrr th0 pr0 sl20 ex20 ta20 nx0 on20 lf0 mo0 cv0 cg0 cT0 cp0 ou0)) (.inl (some (.int k)), q, cw sl1 ex1 ab1 ta1 dr1 md1 ml1 mt1 mc1 on1 ct1 (mrr th0 pr0 sl20 ex20 ta20 nx0 on20 lf0 mo0 cv0 cg0 cT0 cp0 ou1))) (hm : xk_Ev (xp_P sc) 135 0 [.ref 10, .int (sc.2 (i + 1)), .retAddr 0, .retAddr 0, .retAddr 0] [] (cw sl1 ex1 ab1 ta1 dr1 md1 ml1 mt1 mc1 on1 ct1 (mrr th0 pr0 sl20 ex20 ta20 nx0 on20 lf0 mo0 cv0 cg0 cT0 cp0 ou1)) (.inl (some (.int b)), 0, cw sl1 ex1 ab1 ta1 dr1 md1 ml1 mt1 mc1 on1 ct1 (mrr k pr2 sl22 ex22 ta22 nx2 on22 lf2 mo2 cv2 cg2 cT2 cp2 ou2))) (h : xk_Po (xp_P sc) 180 784 [.ref 999, .ref 0, .ref 10, .ref 16, .int (Int32.ofNat i), .int k, .int b] [] (cw sl1 ex1 ab1 ta1 dr1 md1 ml1 mt1 mc1 on1 ct1 (mrr k pr2 sl22 ex22 ta22 nx2 on22 lf2 mo2 cv2 cg2 cT2 cp2 ou2)) (fun z => Φ (z.1, q + z.2.1, z.2.2))) : xk_Po (xp_P sc) 180 68 [.ref 999, .ref 0, .ref 10, .ref 16, .int (Int32.ofNat i), y5, y6] [] (cw sl0 ex0 ab0 ta0 dr0 md0 ml0 mt0 mc0 on0 ct0 (mrr th0 pr0 sl20 ex20 ta20 nx0 on20 lf0 mo0 cv0 cg0 cT0 cp0 ou0)) Φ := by
  refine xk_Po.go 5 rfl ?_
  refine xk_Po.ok rfl rfl (xn_ixa (a := i) (j := 1) (by omega) (by omega)) ?_ -- 73 .iaload
  rw [show (Int32.ofNat i + Int32.ofInt 1).toNatClampNeg = i + 1 from xn_nata (a := i) (j := 1) (by omega)]
  refine xk_Po.go 1 rfl ?_
  refine xk_Po.cD rfl rfl (hc) ?_
  refine xk_Po.go 6 rfl ?_
  refine xk_Po.ok rfl rfl (xn_ixa (a := i) (j := 1) (by omega) (by omega)) ?_ -- 82 .iaload
  rw [show (Int32.ofNat i + Int32.ofInt 1).toNatClampNeg = i + 1 from xn_nata (a := i) (j := 1) (by omega)]
  refine xk_Po.ci2 rfl rfl (hm) ?_
  refine xk_Po.go 2 rfl ?_
  refine xk_Po.ci1 rfl rfl (l_thr) ?_
  refine xk_Po.go 1 rfl ?_
  refine xk_Po.br rfl rfl (fun _ => ?_) (fun hZ => absurd (rfl) hZ) -- 88 .if_icmp .eq 91
  refine xk_Po.go 1 rfl ?_
  refine xk_Po.br rfl rfl (fun h0 => ?_) (fun h0 => ?_)
  · refine xk_Po.go 6 rfl ?_
    refine xk_Po.br rfl rfl (fun _ => ?_) (fun hZ => absurd (show lg_cmp (ou2 0) b.toInt64 = 0 from by rw [hk h0]; exact lg_same _) hZ) -- 99 .ifCond .eq 102
    refine xk_Po.go 1 rfl ?_
    exact h
  · refine xk_Po.go 1 rfl ?_
    exact h
set_option maxRecDepth 20000 in
theorem l_3 {sc : Nat × (Nat → Int32)} {i : Nat} (hi : i + 3 < sc.1) (hn : sc.1 < 2147483648) {y5 y6 : Value} {Φ : xk_R → Prop} {sl0 : Nat → Int32} {ex0 : Nat → Int32} {ab0 : Nat → Int32} {ta0 : Nat → Int32} {dr0 : Nat → Int32} {md0 : Int32} {ml0 : Int32} {mt0 : Int32} {mc0 : Int32} {on0 : Int32} {ct0 : Int32} {th0 : Int32} {pr0 : Nat → Int32} {sl20 : Nat → Int32} {ex20 : Nat → Int32} {ta20 : Nat → Int32} {nx0 : Nat → Int32} {on20 : Int32} {lf0 : Int32} {mo0 : Int32} {cv0 : Int32} {cg0 : Int32} {cT0 : Int32} {cp0 : Int32} {ou0 : Nat → Int64} {sl1 : Nat → Int32} {ex1 : Nat → Int32} {ab1 : Nat → Int32} {ta1 : Nat → Int32} {dr1 : Nat → Int32} {md1 : Int32} {ml1 : Int32} {mt1 : Int32} {mc1 : Int32} {on1 : Int32} {ct1 : Int32} {pr2 : Nat → Int32} {sl22 : Nat → Int32} {ex22 : Nat → Int32} {ta22 : Nat → Int32} {nx2 : Nat → Int32} {on22 : Int32} {lf2 : Int32} {mo2 : Int32} {cv2 : Int32} {cg2 : Int32} {cT2 : Int32} {cp2 : Int32} {ou2 : Nat → Int64} {k : Int32} {q : Nat} {ou1 : Nat → Int64} {b : Int32} (hk : k = 0 → ou2 0 = b.toInt64) (hc : xk_Ev (xp_P sc) 163 0 [.ref 0, .int (sc.2 (i + 1)), .int (sc.2 (i + 2)), .int (sc.2 (i + 3)), .ref 16, .retAddr 0] [] (cw sl0 ex0 ab0 ta0 dr0 md0 ml0 mt0 mc0 on0 ct0 (mrr th0 pr0 sl20 ex20 ta20 nx0 on20 lf0 mo0 cv0 cg0 cT0 cp0 ou0)) (.inl (some (.int k)), q, cw sl1 ex1 ab1 ta1 dr1 md1 ml1 mt1 mc1 on1 ct1 (mrr th0 pr0 sl20 ex20 ta20 nx0 on20 lf0 mo0 cv0 cg0 cT0 cp0 ou1))) (hm : xk_Ev (xp_P sc) 137 0 [.ref 10, .int (sc.2 (i + 1)), .int (sc.2 (i + 2)), .int (sc.2 (i + 3)), .retAddr 0, .retAddr 0] [] (cw sl1 ex1 ab1 ta1 dr1 md1 ml1 mt1 mc1 on1 ct1 (mrr th0 pr0 sl20 ex20 ta20 nx0 on20 lf0 mo0 cv0 cg0 cT0 cp0 ou1)) (.inl (some (.int b)), 0, cw sl1 ex1 ab1 ta1 dr1 md1 ml1 mt1 mc1 on1 ct1 (mrr k pr2 sl22 ex22 ta22 nx2 on22 lf2 mo2 cv2 cg2 cT2 cp2 ou2))) (h : xk_Po (xp_P sc) 180 784 [.ref 999, .ref 0, .ref 10, .ref 16, .int (Int32.ofNat i), .int k, .int b] [] (cw sl1 ex1 ab1 ta1 dr1 md1 ml1 mt1 mc1 on1 ct1 (mrr k pr2 sl22 ex22 ta22 nx2 on22 lf2 mo2 cv2 cg2 cT2 cp2 ou2)) (fun z => Φ (z.1, q + z.2.1, z.2.2))) : xk_Po (xp_P sc) 180 103 [.ref 999, .ref 0, .ref 10, .ref 16, .int (Int32.ofNat i), y5, y6] [] (cw sl0 ex0 ab0 ta0 dr0 md0 ml0 mt0 mc0 on0 ct0 (mrr th0 pr0 sl20 ex20 ta20 nx0 on20 lf0 mo0 cv0 cg0 cT0 cp0 ou0)) Φ := by
  refine xk_Po.go 5 rfl ?_
  refine xk_Po.ok rfl rfl (xn_ixa (a := i) (j := 1) (by omega) (by omega)) ?_ -- 108 .iaload
  rw [show (Int32.ofNat i + Int32.ofInt 1).toNatClampNeg = i + 1 from xn_nata (a := i) (j := 1) (by omega)]
  refine xk_Po.go 4 rfl ?_
  refine xk_Po.ok rfl rfl (xn_ixa (a := i) (j := 2) (by omega) (by omega)) ?_ -- 113 .iaload
  rw [show (Int32.ofNat i + Int32.ofInt 2).toNatClampNeg = i + 2 from xn_nata (a := i) (j := 2) (by omega)]
  refine xk_Po.go 4 rfl ?_
  refine xk_Po.ok rfl rfl (xn_ixa (a := i) (j := 3) (by omega) (by omega)) ?_ -- 118 .iaload
  rw [show (Int32.ofNat i + Int32.ofInt 3).toNatClampNeg = i + 3 from xn_nata (a := i) (j := 3) (by omega)]
  refine xk_Po.go 1 rfl ?_
  refine xk_Po.cD rfl rfl (hc) ?_
  refine xk_Po.go 6 rfl ?_
  refine xk_Po.ok rfl rfl (xn_ixa (a := i) (j := 1) (by omega) (by omega)) ?_ -- 127 .iaload
  rw [show (Int32.ofNat i + Int32.ofInt 1).toNatClampNeg = i + 1 from xn_nata (a := i) (j := 1) (by omega)]
  refine xk_Po.go 4 rfl ?_
  refine xk_Po.ok rfl rfl (xn_ixa (a := i) (j := 2) (by omega) (by omega)) ?_ -- 132 .iaload
  rw [show (Int32.ofNat i + Int32.ofInt 2).toNatClampNeg = i + 2 from xn_nata (a := i) (j := 2) (by omega)]
  refine xk_Po.go 4 rfl ?_
  refine xk_Po.ok rfl rfl (xn_ixa (a := i) (j := 3) (by omega) (by omega)) ?_ -- 137 .iaload
  rw [show (Int32.ofNat i + Int32.ofInt 3).toNatClampNeg = i + 3 from xn_nata (a := i) (j := 3) (by omega)]
  refine xk_Po.ci4 rfl rfl (hm) ?_
  refine xk_Po.go 2 rfl ?_
  refine xk_Po.ci1 rfl rfl (l_thr) ?_
  refine xk_Po.go 1 rfl ?_
  refine xk_Po.br rfl rfl (fun _ => ?_) (fun hZ => absurd (rfl) hZ) -- 143 .if_icmp .eq 146
  refine xk_Po.go 1 rfl ?_
  refine xk_Po.br rfl rfl (fun h0 => ?_) (fun h0 => ?_)
  · refine xk_Po.go 6 rfl ?_
    refine xk_Po.br rfl rfl (fun _ => ?_) (fun hZ => absurd (show lg_cmp (ou2 0) b.toInt64 = 0 from by rw [hk h0]; exact lg_same _) hZ) -- 154 .ifCond .eq 157
    refine xk_Po.go 1 rfl ?_
    exact h
  · refine xk_Po.go 1 rfl ?_
    exact h
set_option maxRecDepth 20000 in
theorem l_4 {sc : Nat × (Nat → Int32)} {i : Nat} (hi : i + 3 < sc.1) (hn : sc.1 < 2147483648) {y5 y6 : Value} {Φ : xk_R → Prop} {sl0 : Nat → Int32} {ex0 : Nat → Int32} {ab0 : Nat → Int32} {ta0 : Nat → Int32} {dr0 : Nat → Int32} {md0 : Int32} {ml0 : Int32} {mt0 : Int32} {mc0 : Int32} {on0 : Int32} {ct0 : Int32} {th0 : Int32} {pr0 : Nat → Int32} {sl20 : Nat → Int32} {ex20 : Nat → Int32} {ta20 : Nat → Int32} {nx0 : Nat → Int32} {on20 : Int32} {lf0 : Int32} {mo0 : Int32} {cv0 : Int32} {cg0 : Int32} {cT0 : Int32} {cp0 : Int32} {ou0 : Nat → Int64} {sl1 : Nat → Int32} {ex1 : Nat → Int32} {ab1 : Nat → Int32} {ta1 : Nat → Int32} {dr1 : Nat → Int32} {md1 : Int32} {ml1 : Int32} {mt1 : Int32} {mc1 : Int32} {on1 : Int32} {ct1 : Int32} {pr2 : Nat → Int32} {sl22 : Nat → Int32} {ex22 : Nat → Int32} {ta22 : Nat → Int32} {nx2 : Nat → Int32} {on22 : Int32} {lf2 : Int32} {mo2 : Int32} {cv2 : Int32} {cg2 : Int32} {cT2 : Int32} {cp2 : Int32} {ou2 : Nat → Int64} {k : Int32} {q : Nat} {ou1 : Nat → Int64} {b : Int32} (hk : k = 0 → ou2 0 = b.toInt64) (hc : xk_Ev (xp_P sc) 164 0 [.ref 0, .int (sc.2 (i + 1)), .int (sc.2 (i + 2)), .ref 16, .retAddr 0] [] (cw sl0 ex0 ab0 ta0 dr0 md0 ml0 mt0 mc0 on0 ct0 (mrr th0 pr0 sl20 ex20 ta20 nx0 on20 lf0 mo0 cv0 cg0 cT0 cp0 ou0)) (.inl (some (.int k)), q, cw sl1 ex1 ab1 ta1 dr1 md1 ml1 mt1 mc1 on1 ct1 (mrr th0 pr0 sl20 ex20 ta20 nx0 on20 lf0 mo0 cv0 cg0 cT0 cp0 ou1))) (hm : xk_Ev (xp_P sc) 138 0 [.ref 10, .int (sc.2 (i + 1)), .int (sc.2 (i + 2)), .retAddr 0] [] (cw sl1 ex1 ab1 ta1 dr1 md1 ml1 mt1 mc1 on1 ct1 (mrr th0 pr0 sl20 ex20 ta20 nx0 on20 lf0 mo0 cv0 cg0 cT0 cp0 ou1)) (.inl (some (.int b)), 0, cw sl1 ex1 ab1 ta1 dr1 md1 ml1 mt1 mc1 on1 ct1 (mrr k pr2 sl22 ex22 ta22 nx2 on22 lf2 mo2 cv2 cg2 cT2 cp2 ou2))) (h : xk_Po (xp_P sc) 180 784 [.ref 999, .ref 0, .ref 10, .ref 16, .int (Int32.ofNat i), .int k, .int b] [] (cw sl1 ex1 ab1 ta1 dr1 md1 ml1 mt1 mc1 on1 ct1 (mrr k pr2 sl22 ex22 ta22 nx2 on22 lf2 mo2 cv2 cg2 cT2 cp2 ou2)) (fun z => Φ (z.1, q + z.2.1, z.2.2))) : xk_Po (xp_P sc) 180 158 [.ref 999, .ref 0, .ref 10, .ref 16, .int (Int32.ofNat i), y5, y6] [] (cw sl0 ex0 ab0 ta0 dr0 md0 ml0 mt0 mc0 on0 ct0 (mrr th0 pr0 sl20 ex20 ta20 nx0 on20 lf0 mo0 cv0 cg0 cT0 cp0 ou0)) Φ := by
  refine xk_Po.go 5 rfl ?_
  refine xk_Po.ok rfl rfl (xn_ixa (a := i) (j := 1) (by omega) (by omega)) ?_ -- 163 .iaload
  rw [show (Int32.ofNat i + Int32.ofInt 1).toNatClampNeg = i + 1 from xn_nata (a := i) (j := 1) (by omega)]
  refine xk_Po.go 4 rfl ?_
  refine xk_Po.ok rfl rfl (xn_ixa (a := i) (j := 2) (by omega) (by omega)) ?_ -- 168 .iaload
  rw [show (Int32.ofNat i + Int32.ofInt 2).toNatClampNeg = i + 2 from xn_nata (a := i) (j := 2) (by omega)]
  refine xk_Po.go 1 rfl ?_
  refine xk_Po.cD rfl rfl (hc) ?_
  refine xk_Po.go 6 rfl ?_
  refine xk_Po.ok rfl rfl (xn_ixa (a := i) (j := 1) (by omega) (by omega)) ?_ -- 177 .iaload
  rw [show (Int32.ofNat i + Int32.ofInt 1).toNatClampNeg = i + 1 from xn_nata (a := i) (j := 1) (by omega)]
  refine xk_Po.go 4 rfl ?_
  refine xk_Po.ok rfl rfl (xn_ixa (a := i) (j := 2) (by omega) (by omega)) ?_ -- 182 .iaload
  rw [show (Int32.ofNat i + Int32.ofInt 2).toNatClampNeg = i + 2 from xn_nata (a := i) (j := 2) (by omega)]
  refine xk_Po.ci3 rfl rfl (hm) ?_
  refine xk_Po.go 2 rfl ?_
  refine xk_Po.ci1 rfl rfl (l_thr) ?_
  refine xk_Po.go 1 rfl ?_
  refine xk_Po.br rfl rfl (fun _ => ?_) (fun hZ => absurd (rfl) hZ) -- 188 .if_icmp .eq 191
  refine xk_Po.go 1 rfl ?_
  refine xk_Po.br rfl rfl (fun h0 => ?_) (fun h0 => ?_)
  · refine xk_Po.go 6 rfl ?_
    refine xk_Po.br rfl rfl (fun _ => ?_) (fun hZ => absurd (show lg_cmp (ou2 0) b.toInt64 = 0 from by rw [hk h0]; exact lg_same _) hZ) -- 199 .ifCond .eq 202
    refine xk_Po.go 1 rfl ?_
    exact h
  · refine xk_Po.go 1 rfl ?_
    exact h
set_option maxRecDepth 20000 in
theorem l_5 {sc : Nat × (Nat → Int32)} {i : Nat} (hi : i + 3 < sc.1) (hn : sc.1 < 2147483648) {y5 y6 : Value} {Φ : xk_R → Prop} {sl0 : Nat → Int32} {ex0 : Nat → Int32} {ab0 : Nat → Int32} {ta0 : Nat → Int32} {dr0 : Nat → Int32} {md0 : Int32} {ml0 : Int32} {mt0 : Int32} {mc0 : Int32} {on0 : Int32} {ct0 : Int32} {th0 : Int32} {pr0 : Nat → Int32} {sl20 : Nat → Int32} {ex20 : Nat → Int32} {ta20 : Nat → Int32} {nx0 : Nat → Int32} {on20 : Int32} {lf0 : Int32} {mo0 : Int32} {cv0 : Int32} {cg0 : Int32} {cT0 : Int32} {cp0 : Int32} {ou0 : Nat → Int64} {sl1 : Nat → Int32} {ex1 : Nat → Int32} {ab1 : Nat → Int32} {ta1 : Nat → Int32} {dr1 : Nat → Int32} {md1 : Int32} {ml1 : Int32} {mt1 : Int32} {mc1 : Int32} {on1 : Int32} {ct1 : Int32} {pr2 : Nat → Int32} {sl22 : Nat → Int32} {ex22 : Nat → Int32} {ta22 : Nat → Int32} {nx2 : Nat → Int32} {on22 : Int32} {lf2 : Int32} {mo2 : Int32} {cv2 : Int32} {cg2 : Int32} {cT2 : Int32} {cp2 : Int32} {ou2 : Nat → Int64} {k : Int32} {q : Nat} {ou1 : Nat → Int64} {b : Int32} (hk : k = 0 → ou2 0 = b.toInt64) (hc : xk_Ev (xp_P sc) 165 0 [.ref 0, .int (sc.2 (i + 1)), .int (sc.2 (i + 2)), .ref 16, .retAddr 0] [] (cw sl0 ex0 ab0 ta0 dr0 md0 ml0 mt0 mc0 on0 ct0 (mrr th0 pr0 sl20 ex20 ta20 nx0 on20 lf0 mo0 cv0 cg0 cT0 cp0 ou0)) (.inl (some (.int k)), q, cw sl1 ex1 ab1 ta1 dr1 md1 ml1 mt1 mc1 on1 ct1 (mrr th0 pr0 sl20 ex20 ta20 nx0 on20 lf0 mo0 cv0 cg0 cT0 cp0 ou1))) (hm : xk_Ev (xp_P sc) 139 0 [.ref 10, .int (sc.2 (i + 1)), .int (sc.2 (i + 2)), .retAddr 0, .retAddr 0] [] (cw sl1 ex1 ab1 ta1 dr1 md1 ml1 mt1 mc1 on1 ct1 (mrr th0 pr0 sl20 ex20 ta20 nx0 on20 lf0 mo0 cv0 cg0 cT0 cp0 ou1)) (.inl (some (.int b)), 0, cw sl1 ex1 ab1 ta1 dr1 md1 ml1 mt1 mc1 on1 ct1 (mrr k pr2 sl22 ex22 ta22 nx2 on22 lf2 mo2 cv2 cg2 cT2 cp2 ou2))) (h : xk_Po (xp_P sc) 180 784 [.ref 999, .ref 0, .ref 10, .ref 16, .int (Int32.ofNat i), .int k, .int b] [] (cw sl1 ex1 ab1 ta1 dr1 md1 ml1 mt1 mc1 on1 ct1 (mrr k pr2 sl22 ex22 ta22 nx2 on22 lf2 mo2 cv2 cg2 cT2 cp2 ou2)) (fun z => Φ (z.1, q + z.2.1, z.2.2))) : xk_Po (xp_P sc) 180 203 [.ref 999, .ref 0, .ref 10, .ref 16, .int (Int32.ofNat i), y5, y6] [] (cw sl0 ex0 ab0 ta0 dr0 md0 ml0 mt0 mc0 on0 ct0 (mrr th0 pr0 sl20 ex20 ta20 nx0 on20 lf0 mo0 cv0 cg0 cT0 cp0 ou0)) Φ := by
  refine xk_Po.go 5 rfl ?_
  refine xk_Po.ok rfl rfl (xn_ixa (a := i) (j := 1) (by omega) (by omega)) ?_ -- 208 .iaload
  rw [show (Int32.ofNat i + Int32.ofInt 1).toNatClampNeg = i + 1 from xn_nata (a := i) (j := 1) (by omega)]
  refine xk_Po.go 4 rfl ?_
  refine xk_Po.ok rfl rfl (xn_ixa (a := i) (j := 2) (by omega) (by omega)) ?_ -- 213 .iaload
  rw [show (Int32.ofNat i + Int32.ofInt 2).toNatClampNeg = i + 2 from xn_nata (a := i) (j := 2) (by omega)]
  refine xk_Po.go 1 rfl ?_
  refine xk_Po.cD rfl rfl (hc) ?_
  refine xk_Po.go 6 rfl ?_
  refine xk_Po.ok rfl rfl (xn_ixa (a := i) (j := 1) (by omega) (by omega)) ?_ -- 222 .iaload
  rw [show (Int32.ofNat i + Int32.ofInt 1).toNatClampNeg = i + 1 from xn_nata (a := i) (j := 1) (by omega)]
  refine xk_Po.go 4 rfl ?_
  refine xk_Po.ok rfl rfl (xn_ixa (a := i) (j := 2) (by omega) (by omega)) ?_ -- 227 .iaload
  rw [show (Int32.ofNat i + Int32.ofInt 2).toNatClampNeg = i + 2 from xn_nata (a := i) (j := 2) (by omega)]
  refine xk_Po.ci3 rfl rfl (hm) ?_
  refine xk_Po.go 2 rfl ?_
  refine xk_Po.ci1 rfl rfl (l_thr) ?_
  refine xk_Po.go 1 rfl ?_
  refine xk_Po.br rfl rfl (fun _ => ?_) (fun hZ => absurd (rfl) hZ) -- 233 .if_icmp .eq 236
  refine xk_Po.go 1 rfl ?_
  refine xk_Po.br rfl rfl (fun h0 => ?_) (fun h0 => ?_)
  · refine xk_Po.go 6 rfl ?_
    refine xk_Po.br rfl rfl (fun _ => ?_) (fun hZ => absurd (show lg_cmp (ou2 0) b.toInt64 = 0 from by rw [hk h0]; exact lg_same _) hZ) -- 244 .ifCond .eq 247
    refine xk_Po.go 1 rfl ?_
    exact h
  · refine xk_Po.go 1 rfl ?_
    exact h
set_option maxRecDepth 20000 in
theorem l_6 {sc : Nat × (Nat → Int32)} {i : Nat} (hi : i + 3 < sc.1) (hn : sc.1 < 2147483648) {y5 y6 : Value} {Φ : xk_R → Prop} {sl0 : Nat → Int32} {ex0 : Nat → Int32} {ab0 : Nat → Int32} {ta0 : Nat → Int32} {dr0 : Nat → Int32} {md0 : Int32} {ml0 : Int32} {mt0 : Int32} {mc0 : Int32} {on0 : Int32} {ct0 : Int32} {th0 : Int32} {pr0 : Nat → Int32} {sl20 : Nat → Int32} {ex20 : Nat → Int32} {ta20 : Nat → Int32} {nx0 : Nat → Int32} {on20 : Int32} {lf0 : Int32} {mo0 : Int32} {cv0 : Int32} {cg0 : Int32} {cT0 : Int32} {cp0 : Int32} {ou0 : Nat → Int64} {sl1 : Nat → Int32} {ex1 : Nat → Int32} {ab1 : Nat → Int32} {ta1 : Nat → Int32} {dr1 : Nat → Int32} {md1 : Int32} {ml1 : Int32} {mt1 : Int32} {mc1 : Int32} {on1 : Int32} {ct1 : Int32} {pr2 : Nat → Int32} {sl22 : Nat → Int32} {ex22 : Nat → Int32} {ta22 : Nat → Int32} {nx2 : Nat → Int32} {on22 : Int32} {lf2 : Int32} {mo2 : Int32} {cv2 : Int32} {cg2 : Int32} {cT2 : Int32} {cp2 : Int32} {ou2 : Nat → Int64} {k : Int32} {q : Nat} (hc : xk_Ev (xp_P sc) 166 0 [.ref 0, .int (sc.2 (i + 1)), .retAddr 0] [] (cw sl0 ex0 ab0 ta0 dr0 md0 ml0 mt0 mc0 on0 ct0 (mrr th0 pr0 sl20 ex20 ta20 nx0 on20 lf0 mo0 cv0 cg0 cT0 cp0 ou0)) (.inl (some (.int k)), q, cw sl1 ex1 ab1 ta1 dr1 md1 ml1 mt1 mc1 on1 ct1 (mrr th0 pr0 sl20 ex20 ta20 nx0 on20 lf0 mo0 cv0 cg0 cT0 cp0 ou0))) (hm : xk_Ev (xp_P sc) 140 0 [.ref 10, .int (sc.2 (i + 1)), .retAddr 0] [] (cw sl1 ex1 ab1 ta1 dr1 md1 ml1 mt1 mc1 on1 ct1 (mrr th0 pr0 sl20 ex20 ta20 nx0 on20 lf0 mo0 cv0 cg0 cT0 cp0 ou0)) (.inl none, 0, cw sl1 ex1 ab1 ta1 dr1 md1 ml1 mt1 mc1 on1 ct1 (mrr k pr2 sl22 ex22 ta22 nx2 on22 lf2 mo2 cv2 cg2 cT2 cp2 ou2))) (h : xk_Po (xp_P sc) 180 784 [.ref 999, .ref 0, .ref 10, .ref 16, .int (Int32.ofNat i), .int k, y6] [] (cw sl1 ex1 ab1 ta1 dr1 md1 ml1 mt1 mc1 on1 ct1 (mrr k pr2 sl22 ex22 ta22 nx2 on22 lf2 mo2 cv2 cg2 cT2 cp2 ou2)) (fun z => Φ (z.1, q + z.2.1, z.2.2))) : xk_Po (xp_P sc) 180 248 [.ref 999, .ref 0, .ref 10, .ref 16, .int (Int32.ofNat i), y5, y6] [] (cw sl0 ex0 ab0 ta0 dr0 md0 ml0 mt0 mc0 on0 ct0 (mrr th0 pr0 sl20 ex20 ta20 nx0 on20 lf0 mo0 cv0 cg0 cT0 cp0 ou0)) Φ := by
  refine xk_Po.go 5 rfl ?_
  refine xk_Po.ok rfl rfl (xn_ixa (a := i) (j := 1) (by omega) (by omega)) ?_ -- 253 .iaload
  rw [show (Int32.ofNat i + Int32.ofInt 1).toNatClampNeg = i + 1 from xn_nata (a := i) (j := 1) (by omega)]
  refine xk_Po.cD rfl rfl (hc) ?_
  refine xk_Po.go 6 rfl ?_
  refine xk_Po.ok rfl rfl (xn_ixa (a := i) (j := 1) (by omega) (by omega)) ?_ -- 261 .iaload
  rw [show (Int32.ofNat i + Int32.ofInt 1).toNatClampNeg = i + 1 from xn_nata (a := i) (j := 1) (by omega)]
  refine xk_Po.cv2 rfl rfl (hm) ?_
  refine xk_Po.go 1 rfl ?_
  refine xk_Po.ci1 rfl rfl (l_thr) ?_
  refine xk_Po.go 1 rfl ?_
  refine xk_Po.br rfl rfl (fun _ => ?_) (fun hZ => absurd (rfl) hZ) -- 266 .if_icmp .eq 269
  refine xk_Po.go 1 rfl ?_
  exact h
set_option maxRecDepth 20000 in
theorem l_7 {sc : Nat × (Nat → Int32)} {i : Nat} (hi : i + 3 < sc.1) (hn : sc.1 < 2147483648) {y5 y6 : Value} {Φ : xk_R → Prop} {sl0 : Nat → Int32} {ex0 : Nat → Int32} {ab0 : Nat → Int32} {ta0 : Nat → Int32} {dr0 : Nat → Int32} {md0 : Int32} {ml0 : Int32} {mt0 : Int32} {mc0 : Int32} {on0 : Int32} {ct0 : Int32} {th0 : Int32} {pr0 : Nat → Int32} {sl20 : Nat → Int32} {ex20 : Nat → Int32} {ta20 : Nat → Int32} {nx0 : Nat → Int32} {on20 : Int32} {lf0 : Int32} {mo0 : Int32} {cv0 : Int32} {cg0 : Int32} {cT0 : Int32} {cp0 : Int32} {ou0 : Nat → Int64} {sl1 : Nat → Int32} {ex1 : Nat → Int32} {ab1 : Nat → Int32} {ta1 : Nat → Int32} {dr1 : Nat → Int32} {md1 : Int32} {ml1 : Int32} {mt1 : Int32} {mc1 : Int32} {on1 : Int32} {ct1 : Int32} {pr2 : Nat → Int32} {sl22 : Nat → Int32} {ex22 : Nat → Int32} {ta22 : Nat → Int32} {nx2 : Nat → Int32} {on22 : Int32} {lf2 : Int32} {mo2 : Int32} {cv2 : Int32} {cg2 : Int32} {cT2 : Int32} {cp2 : Int32} {ou2 : Nat → Int64} {k : Int32} {q : Nat} {ou1 : Nat → Int64} {b : Int32} (hk : k = 0 → ou2 0 = b.toInt64) (hc : xk_Ev (xp_P sc) 167 0 [.ref 0, .int (sc.2 (i + 1)), .ref 16, .retAddr 0] [] (cw sl0 ex0 ab0 ta0 dr0 md0 ml0 mt0 mc0 on0 ct0 (mrr th0 pr0 sl20 ex20 ta20 nx0 on20 lf0 mo0 cv0 cg0 cT0 cp0 ou0)) (.inl (some (.int k)), q, cw sl1 ex1 ab1 ta1 dr1 md1 ml1 mt1 mc1 on1 ct1 (mrr th0 pr0 sl20 ex20 ta20 nx0 on20 lf0 mo0 cv0 cg0 cT0 cp0 ou1))) (hm : xk_Ev (xp_P sc) 142 0 [.ref 10, .int (sc.2 (i + 1)), .retAddr 0, .retAddr 0, .retAddr 0, .retAddr 0] [] (cw sl1 ex1 ab1 ta1 dr1 md1 ml1 mt1 mc1 on1 ct1 (mrr th0 pr0 sl20 ex20 ta20 nx0 on20 lf0 mo0 cv0 cg0 cT0 cp0 ou1)) (.inl (some (.int b)), 0, cw sl1 ex1 ab1 ta1 dr1 md1 ml1 mt1 mc1 on1 ct1 (mrr k pr2 sl22 ex22 ta22 nx2 on22 lf2 mo2 cv2 cg2 cT2 cp2 ou2))) (h : xk_Po (xp_P sc) 180 784 [.ref 999, .ref 0, .ref 10, .ref 16, .int (Int32.ofNat i), .int k, .int b] [] (cw sl1 ex1 ab1 ta1 dr1 md1 ml1 mt1 mc1 on1 ct1 (mrr k pr2 sl22 ex22 ta22 nx2 on22 lf2 mo2 cv2 cg2 cT2 cp2 ou2)) (fun z => Φ (z.1, q + z.2.1, z.2.2))) : xk_Po (xp_P sc) 180 270 [.ref 999, .ref 0, .ref 10, .ref 16, .int (Int32.ofNat i), y5, y6] [] (cw sl0 ex0 ab0 ta0 dr0 md0 ml0 mt0 mc0 on0 ct0 (mrr th0 pr0 sl20 ex20 ta20 nx0 on20 lf0 mo0 cv0 cg0 cT0 cp0 ou0)) Φ := by
  refine xk_Po.go 5 rfl ?_
  refine xk_Po.ok rfl rfl (xn_ixa (a := i) (j := 1) (by omega) (by omega)) ?_ -- 275 .iaload
  rw [show (Int32.ofNat i + Int32.ofInt 1).toNatClampNeg = i + 1 from xn_nata (a := i) (j := 1) (by omega)]
  refine xk_Po.go 1 rfl ?_
  refine xk_Po.cD rfl rfl (hc) ?_
  refine xk_Po.go 6 rfl ?_
  refine xk_Po.ok rfl rfl (xn_ixa (a := i) (j := 1) (by omega) (by omega)) ?_ -- 284 .iaload
  rw [show (Int32.ofNat i + Int32.ofInt 1).toNatClampNeg = i + 1 from xn_nata (a := i) (j := 1) (by omega)]
  refine xk_Po.ci2 rfl rfl (hm) ?_
  refine xk_Po.go 2 rfl ?_
  refine xk_Po.ci1 rfl rfl (l_thr) ?_
  refine xk_Po.go 1 rfl ?_
  refine xk_Po.br rfl rfl (fun _ => ?_) (fun hZ => absurd (rfl) hZ) -- 290 .if_icmp .eq 293
  refine xk_Po.go 1 rfl ?_
  refine xk_Po.br rfl rfl (fun h0 => ?_) (fun h0 => ?_)
  · refine xk_Po.go 6 rfl ?_
    refine xk_Po.br rfl rfl (fun _ => ?_) (fun hZ => absurd (show lg_cmp (ou2 0) b.toInt64 = 0 from by rw [hk h0]; exact lg_same _) hZ) -- 301 .ifCond .eq 304
    refine xk_Po.go 1 rfl ?_
    exact h
  · refine xk_Po.go 1 rfl ?_
    exact h
set_option maxRecDepth 20000 in
theorem l_8 {sc : Nat × (Nat → Int32)} {i : Nat} (hi : i + 3 < sc.1) (hn : sc.1 < 2147483648) {y5 y6 : Value} {Φ : xk_R → Prop} {sl0 : Nat → Int32} {ex0 : Nat → Int32} {ab0 : Nat → Int32} {ta0 : Nat → Int32} {dr0 : Nat → Int32} {md0 : Int32} {ml0 : Int32} {mt0 : Int32} {mc0 : Int32} {on0 : Int32} {ct0 : Int32} {th0 : Int32} {pr0 : Nat → Int32} {sl20 : Nat → Int32} {ex20 : Nat → Int32} {ta20 : Nat → Int32} {nx0 : Nat → Int32} {on20 : Int32} {lf0 : Int32} {mo0 : Int32} {cv0 : Int32} {cg0 : Int32} {cT0 : Int32} {cp0 : Int32} {ou0 : Nat → Int64} {sl1 : Nat → Int32} {ex1 : Nat → Int32} {ab1 : Nat → Int32} {ta1 : Nat → Int32} {dr1 : Nat → Int32} {md1 : Int32} {ml1 : Int32} {mt1 : Int32} {mc1 : Int32} {on1 : Int32} {ct1 : Int32} {pr2 : Nat → Int32} {sl22 : Nat → Int32} {ex22 : Nat → Int32} {ta22 : Nat → Int32} {nx2 : Nat → Int32} {on22 : Int32} {lf2 : Int32} {mo2 : Int32} {cv2 : Int32} {cg2 : Int32} {cT2 : Int32} {cp2 : Int32} {ou2 : Nat → Int64} {k : Int32} {q : Nat} {ou1 : Nat → Int64} {b : Int32} (hk : k = 0 → ou2 0 = b.toInt64) (hc : xk_Ev (xp_P sc) 168 0 [.ref 0, .int (sc.2 (i + 1)), .int (sc.2 (i + 2)), .int (sc.2 (i + 3)), .ref 16, .retAddr 0] [] (cw sl0 ex0 ab0 ta0 dr0 md0 ml0 mt0 mc0 on0 ct0 (mrr th0 pr0 sl20 ex20 ta20 nx0 on20 lf0 mo0 cv0 cg0 cT0 cp0 ou0)) (.inl (some (.int k)), q, cw sl1 ex1 ab1 ta1 dr1 md1 ml1 mt1 mc1 on1 ct1 (mrr th0 pr0 sl20 ex20 ta20 nx0 on20 lf0 mo0 cv0 cg0 cT0 cp0 ou1))) (hm : xk_Ev (xp_P sc) 146 0 [.ref 10, .int (sc.2 (i + 1)), .int (sc.2 (i + 2)), .int (sc.2 (i + 3)), .retAddr 0, .retAddr 0, .retAddr 0, .retAddr 0, .retAddr 0, .retAddr 0] [] (cw sl1 ex1 ab1 ta1 dr1 md1 ml1 mt1 mc1 on1 ct1 (mrr th0 pr0 sl20 ex20 ta20 nx0 on20 lf0 mo0 cv0 cg0 cT0 cp0 ou1)) (.inl (some (.int b)), 0, cw sl1 ex1 ab1 ta1 dr1 md1 ml1 mt1 mc1 on1 ct1 (mrr k pr2 sl22 ex22 ta22 nx2 on22 lf2 mo2 cv2 cg2 cT2 cp2 ou2))) (h : xk_Po (xp_P sc) 180 784 [.ref 999, .ref 0, .ref 10, .ref 16, .int (Int32.ofNat i), .int k, .int b] [] (cw sl1 ex1 ab1 ta1 dr1 md1 ml1 mt1 mc1 on1 ct1 (mrr k pr2 sl22 ex22 ta22 nx2 on22 lf2 mo2 cv2 cg2 cT2 cp2 ou2)) (fun z => Φ (z.1, q + z.2.1, z.2.2))) : xk_Po (xp_P sc) 180 305 [.ref 999, .ref 0, .ref 10, .ref 16, .int (Int32.ofNat i), y5, y6] [] (cw sl0 ex0 ab0 ta0 dr0 md0 ml0 mt0 mc0 on0 ct0 (mrr th0 pr0 sl20 ex20 ta20 nx0 on20 lf0 mo0 cv0 cg0 cT0 cp0 ou0)) Φ := by
  refine xk_Po.go 5 rfl ?_
  refine xk_Po.ok rfl rfl (xn_ixa (a := i) (j := 1) (by omega) (by omega)) ?_ -- 310 .iaload
  rw [show (Int32.ofNat i + Int32.ofInt 1).toNatClampNeg = i + 1 from xn_nata (a := i) (j := 1) (by omega)]
  refine xk_Po.go 4 rfl ?_
  refine xk_Po.ok rfl rfl (xn_ixa (a := i) (j := 2) (by omega) (by omega)) ?_ -- 315 .iaload
  rw [show (Int32.ofNat i + Int32.ofInt 2).toNatClampNeg = i + 2 from xn_nata (a := i) (j := 2) (by omega)]
  refine xk_Po.go 4 rfl ?_
  refine xk_Po.ok rfl rfl (xn_ixa (a := i) (j := 3) (by omega) (by omega)) ?_ -- 320 .iaload
  rw [show (Int32.ofNat i + Int32.ofInt 3).toNatClampNeg = i + 3 from xn_nata (a := i) (j := 3) (by omega)]
  refine xk_Po.go 1 rfl ?_
  refine xk_Po.cD rfl rfl (hc) ?_
  refine xk_Po.go 6 rfl ?_
  refine xk_Po.ok rfl rfl (xn_ixa (a := i) (j := 1) (by omega) (by omega)) ?_ -- 329 .iaload
  rw [show (Int32.ofNat i + Int32.ofInt 1).toNatClampNeg = i + 1 from xn_nata (a := i) (j := 1) (by omega)]
  refine xk_Po.go 4 rfl ?_
  refine xk_Po.ok rfl rfl (xn_ixa (a := i) (j := 2) (by omega) (by omega)) ?_ -- 334 .iaload
  rw [show (Int32.ofNat i + Int32.ofInt 2).toNatClampNeg = i + 2 from xn_nata (a := i) (j := 2) (by omega)]
  refine xk_Po.go 4 rfl ?_
  refine xk_Po.ok rfl rfl (xn_ixa (a := i) (j := 3) (by omega) (by omega)) ?_ -- 339 .iaload
  rw [show (Int32.ofNat i + Int32.ofInt 3).toNatClampNeg = i + 3 from xn_nata (a := i) (j := 3) (by omega)]
  refine xk_Po.ci4 rfl rfl (hm) ?_
  refine xk_Po.go 2 rfl ?_
  refine xk_Po.ci1 rfl rfl (l_thr) ?_
  refine xk_Po.go 1 rfl ?_
  refine xk_Po.br rfl rfl (fun _ => ?_) (fun hZ => absurd (rfl) hZ) -- 345 .if_icmp .eq 348
  refine xk_Po.go 1 rfl ?_
  refine xk_Po.br rfl rfl (fun h0 => ?_) (fun h0 => ?_)
  · refine xk_Po.go 6 rfl ?_
    refine xk_Po.br rfl rfl (fun _ => ?_) (fun hZ => absurd (show lg_cmp (ou2 0) b.toInt64 = 0 from by rw [hk h0]; exact lg_same _) hZ) -- 356 .ifCond .eq 359
    refine xk_Po.go 1 rfl ?_
    exact h
  · refine xk_Po.go 1 rfl ?_
    exact h
set_option maxRecDepth 20000 in
theorem l_9 {sc : Nat × (Nat → Int32)} {i : Nat} (hi : i + 3 < sc.1) (hn : sc.1 < 2147483648) {y5 y6 : Value} {Φ : xk_R → Prop} {sl0 : Nat → Int32} {ex0 : Nat → Int32} {ab0 : Nat → Int32} {ta0 : Nat → Int32} {dr0 : Nat → Int32} {md0 : Int32} {ml0 : Int32} {mt0 : Int32} {mc0 : Int32} {on0 : Int32} {ct0 : Int32} {th0 : Int32} {pr0 : Nat → Int32} {sl20 : Nat → Int32} {ex20 : Nat → Int32} {ta20 : Nat → Int32} {nx0 : Nat → Int32} {on20 : Int32} {lf0 : Int32} {mo0 : Int32} {cv0 : Int32} {cg0 : Int32} {cT0 : Int32} {cp0 : Int32} {ou0 : Nat → Int64} {sl1 : Nat → Int32} {ex1 : Nat → Int32} {ab1 : Nat → Int32} {ta1 : Nat → Int32} {dr1 : Nat → Int32} {md1 : Int32} {ml1 : Int32} {mt1 : Int32} {mc1 : Int32} {on1 : Int32} {ct1 : Int32} {pr2 : Nat → Int32} {sl22 : Nat → Int32} {ex22 : Nat → Int32} {ta22 : Nat → Int32} {nx2 : Nat → Int32} {on22 : Int32} {lf2 : Int32} {mo2 : Int32} {cv2 : Int32} {cg2 : Int32} {cT2 : Int32} {cp2 : Int32} {ou2 : Nat → Int64} {k : Int32} {q : Nat} {ou1 : Nat → Int64} {b : Int32} (hk : k = 0 → ou2 0 = b.toInt64) (hc : xk_Ev (xp_P sc) 169 0 [.ref 0, .int (sc.2 (i + 1)), .int (sc.2 (i + 2)), .ref 16, .retAddr 0] [] (cw sl0 ex0 ab0 ta0 dr0 md0 ml0 mt0 mc0 on0 ct0 (mrr th0 pr0 sl20 ex20 ta20 nx0 on20 lf0 mo0 cv0 cg0 cT0 cp0 ou0)) (.inl (some (.int k)), q, cw sl1 ex1 ab1 ta1 dr1 md1 ml1 mt1 mc1 on1 ct1 (mrr th0 pr0 sl20 ex20 ta20 nx0 on20 lf0 mo0 cv0 cg0 cT0 cp0 ou1))) (hm : xk_Ev (xp_P sc) 147 0 [.ref 10, .int (sc.2 (i + 1)), .int (sc.2 (i + 2)), .retAddr 0, .retAddr 0] [] (cw sl1 ex1 ab1 ta1 dr1 md1 ml1 mt1 mc1 on1 ct1 (mrr th0 pr0 sl20 ex20 ta20 nx0 on20 lf0 mo0 cv0 cg0 cT0 cp0 ou1)) (.inl (some (.int b)), 0, cw sl1 ex1 ab1 ta1 dr1 md1 ml1 mt1 mc1 on1 ct1 (mrr k pr2 sl22 ex22 ta22 nx2 on22 lf2 mo2 cv2 cg2 cT2 cp2 ou2))) (h : xk_Po (xp_P sc) 180 784 [.ref 999, .ref 0, .ref 10, .ref 16, .int (Int32.ofNat i), .int k, .int b] [] (cw sl1 ex1 ab1 ta1 dr1 md1 ml1 mt1 mc1 on1 ct1 (mrr k pr2 sl22 ex22 ta22 nx2 on22 lf2 mo2 cv2 cg2 cT2 cp2 ou2)) (fun z => Φ (z.1, q + z.2.1, z.2.2))) : xk_Po (xp_P sc) 180 360 [.ref 999, .ref 0, .ref 10, .ref 16, .int (Int32.ofNat i), y5, y6] [] (cw sl0 ex0 ab0 ta0 dr0 md0 ml0 mt0 mc0 on0 ct0 (mrr th0 pr0 sl20 ex20 ta20 nx0 on20 lf0 mo0 cv0 cg0 cT0 cp0 ou0)) Φ := by
  refine xk_Po.go 5 rfl ?_
  refine xk_Po.ok rfl rfl (xn_ixa (a := i) (j := 1) (by omega) (by omega)) ?_ -- 365 .iaload
  rw [show (Int32.ofNat i + Int32.ofInt 1).toNatClampNeg = i + 1 from xn_nata (a := i) (j := 1) (by omega)]
  refine xk_Po.go 4 rfl ?_
  refine xk_Po.ok rfl rfl (xn_ixa (a := i) (j := 2) (by omega) (by omega)) ?_ -- 370 .iaload
  rw [show (Int32.ofNat i + Int32.ofInt 2).toNatClampNeg = i + 2 from xn_nata (a := i) (j := 2) (by omega)]
  refine xk_Po.go 1 rfl ?_
  refine xk_Po.cD rfl rfl (hc) ?_
  refine xk_Po.go 6 rfl ?_
  refine xk_Po.ok rfl rfl (xn_ixa (a := i) (j := 1) (by omega) (by omega)) ?_ -- 379 .iaload
  rw [show (Int32.ofNat i + Int32.ofInt 1).toNatClampNeg = i + 1 from xn_nata (a := i) (j := 1) (by omega)]
  refine xk_Po.go 4 rfl ?_
  refine xk_Po.ok rfl rfl (xn_ixa (a := i) (j := 2) (by omega) (by omega)) ?_ -- 384 .iaload
  rw [show (Int32.ofNat i + Int32.ofInt 2).toNatClampNeg = i + 2 from xn_nata (a := i) (j := 2) (by omega)]
  refine xk_Po.ci3 rfl rfl (hm) ?_
  refine xk_Po.go 2 rfl ?_
  refine xk_Po.ci1 rfl rfl (l_thr) ?_
  refine xk_Po.go 1 rfl ?_
  refine xk_Po.br rfl rfl (fun _ => ?_) (fun hZ => absurd (rfl) hZ) -- 390 .if_icmp .eq 393
  refine xk_Po.go 1 rfl ?_
  refine xk_Po.br rfl rfl (fun h0 => ?_) (fun h0 => ?_)
  · refine xk_Po.go 6 rfl ?_
    refine xk_Po.br rfl rfl (fun _ => ?_) (fun hZ => absurd (show lg_cmp (ou2 0) b.toInt64 = 0 from by rw [hk h0]; exact lg_same _) hZ) -- 401 .ifCond .eq 404
    refine xk_Po.go 1 rfl ?_
    exact h
  · refine xk_Po.go 1 rfl ?_
    exact h
set_option maxRecDepth 20000 in
theorem l_10 {sc : Nat × (Nat → Int32)} {i : Nat} (hi : i + 3 < sc.1) (hn : sc.1 < 2147483648) {y5 y6 : Value} {Φ : xk_R → Prop} {sl0 : Nat → Int32} {ex0 : Nat → Int32} {ab0 : Nat → Int32} {ta0 : Nat → Int32} {dr0 : Nat → Int32} {md0 : Int32} {ml0 : Int32} {mt0 : Int32} {mc0 : Int32} {on0 : Int32} {ct0 : Int32} {th0 : Int32} {pr0 : Nat → Int32} {sl20 : Nat → Int32} {ex20 : Nat → Int32} {ta20 : Nat → Int32} {nx0 : Nat → Int32} {on20 : Int32} {lf0 : Int32} {mo0 : Int32} {cv0 : Int32} {cg0 : Int32} {cT0 : Int32} {cp0 : Int32} {ou0 : Nat → Int64} {sl1 : Nat → Int32} {ex1 : Nat → Int32} {ab1 : Nat → Int32} {ta1 : Nat → Int32} {dr1 : Nat → Int32} {md1 : Int32} {ml1 : Int32} {mt1 : Int32} {mc1 : Int32} {on1 : Int32} {ct1 : Int32} {pr2 : Nat → Int32} {sl22 : Nat → Int32} {ex22 : Nat → Int32} {ta22 : Nat → Int32} {nx2 : Nat → Int32} {on22 : Int32} {lf2 : Int32} {mo2 : Int32} {cv2 : Int32} {cg2 : Int32} {cT2 : Int32} {cp2 : Int32} {ou2 : Nat → Int64} {k : Int32} {q : Nat} {ou1 : Nat → Int64} {b : Int32} (hk : k = 0 → ou2 0 = b.toInt64) (hc : xk_Ev (xp_P sc) 170 0 [.ref 0, .int (sc.2 (i + 1)), .ref 16, .retAddr 0] [] (cw sl0 ex0 ab0 ta0 dr0 md0 ml0 mt0 mc0 on0 ct0 (mrr th0 pr0 sl20 ex20 ta20 nx0 on20 lf0 mo0 cv0 cg0 cT0 cp0 ou0)) (.inl (some (.int k)), q, cw sl1 ex1 ab1 ta1 dr1 md1 ml1 mt1 mc1 on1 ct1 (mrr th0 pr0 sl20 ex20 ta20 nx0 on20 lf0 mo0 cv0 cg0 cT0 cp0 ou1))) (hm : xk_Ev (xp_P sc) 148 0 [.ref 10, .int (sc.2 (i + 1))] [] (cw sl1 ex1 ab1 ta1 dr1 md1 ml1 mt1 mc1 on1 ct1 (mrr th0 pr0 sl20 ex20 ta20 nx0 on20 lf0 mo0 cv0 cg0 cT0 cp0 ou1)) (.inl (some (.int b)), 0, cw sl1 ex1 ab1 ta1 dr1 md1 ml1 mt1 mc1 on1 ct1 (mrr k pr2 sl22 ex22 ta22 nx2 on22 lf2 mo2 cv2 cg2 cT2 cp2 ou2))) (h : xk_Po (xp_P sc) 180 784 [.ref 999, .ref 0, .ref 10, .ref 16, .int (Int32.ofNat i), .int k, .int b] [] (cw sl1 ex1 ab1 ta1 dr1 md1 ml1 mt1 mc1 on1 ct1 (mrr k pr2 sl22 ex22 ta22 nx2 on22 lf2 mo2 cv2 cg2 cT2 cp2 ou2)) (fun z => Φ (z.1, q + z.2.1, z.2.2))) : xk_Po (xp_P sc) 180 405 [.ref 999, .ref 0, .ref 10, .ref 16, .int (Int32.ofNat i), y5, y6] [] (cw sl0 ex0 ab0 ta0 dr0 md0 ml0 mt0 mc0 on0 ct0 (mrr th0 pr0 sl20 ex20 ta20 nx0 on20 lf0 mo0 cv0 cg0 cT0 cp0 ou0)) Φ := by
  refine xk_Po.go 5 rfl ?_
  refine xk_Po.ok rfl rfl (xn_ixa (a := i) (j := 1) (by omega) (by omega)) ?_ -- 410 .iaload
  rw [show (Int32.ofNat i + Int32.ofInt 1).toNatClampNeg = i + 1 from xn_nata (a := i) (j := 1) (by omega)]
  refine xk_Po.go 1 rfl ?_
  refine xk_Po.cD rfl rfl (hc) ?_
  refine xk_Po.go 6 rfl ?_
  refine xk_Po.ok rfl rfl (xn_ixa (a := i) (j := 1) (by omega) (by omega)) ?_ -- 419 .iaload
  rw [show (Int32.ofNat i + Int32.ofInt 1).toNatClampNeg = i + 1 from xn_nata (a := i) (j := 1) (by omega)]
  refine xk_Po.ci2 rfl rfl (hm) ?_
  refine xk_Po.go 2 rfl ?_
  refine xk_Po.ci1 rfl rfl (l_thr) ?_
  refine xk_Po.go 1 rfl ?_
  refine xk_Po.br rfl rfl (fun _ => ?_) (fun hZ => absurd (rfl) hZ) -- 425 .if_icmp .eq 428
  refine xk_Po.go 1 rfl ?_
  refine xk_Po.br rfl rfl (fun h0 => ?_) (fun h0 => ?_)
  · refine xk_Po.go 6 rfl ?_
    refine xk_Po.br rfl rfl (fun _ => ?_) (fun hZ => absurd (show lg_cmp (ou2 0) b.toInt64 = 0 from by rw [hk h0]; exact lg_same _) hZ) -- 436 .ifCond .eq 439
    refine xk_Po.go 1 rfl ?_
    exact h
  · refine xk_Po.go 1 rfl ?_
    exact h
set_option maxRecDepth 20000 in
theorem l_11 {sc : Nat × (Nat → Int32)} {i : Nat} (hi : i + 3 < sc.1) (hn : sc.1 < 2147483648) {y5 y6 : Value} {Φ : xk_R → Prop} {sl0 : Nat → Int32} {ex0 : Nat → Int32} {ab0 : Nat → Int32} {ta0 : Nat → Int32} {dr0 : Nat → Int32} {md0 : Int32} {ml0 : Int32} {mt0 : Int32} {mc0 : Int32} {on0 : Int32} {ct0 : Int32} {th0 : Int32} {pr0 : Nat → Int32} {sl20 : Nat → Int32} {ex20 : Nat → Int32} {ta20 : Nat → Int32} {nx0 : Nat → Int32} {on20 : Int32} {lf0 : Int32} {mo0 : Int32} {cv0 : Int32} {cg0 : Int32} {cT0 : Int32} {cp0 : Int32} {ou0 : Nat → Int64} {sl1 : Nat → Int32} {ex1 : Nat → Int32} {ab1 : Nat → Int32} {ta1 : Nat → Int32} {dr1 : Nat → Int32} {md1 : Int32} {ml1 : Int32} {mt1 : Int32} {mc1 : Int32} {on1 : Int32} {ct1 : Int32} {pr2 : Nat → Int32} {sl22 : Nat → Int32} {ex22 : Nat → Int32} {ta22 : Nat → Int32} {nx2 : Nat → Int32} {on22 : Int32} {lf2 : Int32} {mo2 : Int32} {cv2 : Int32} {cg2 : Int32} {cT2 : Int32} {cp2 : Int32} {ou2 : Nat → Int64} {k : Int32} {q : Nat} {ou1 : Nat → Int64} {b : Int32} (hk : k = 0 → ou2 0 = b.toInt64) (hc : xk_Ev (xp_P sc) 171 0 [.ref 0, .ref 16, .retAddr 0] [] (cw sl0 ex0 ab0 ta0 dr0 md0 ml0 mt0 mc0 on0 ct0 (mrr th0 pr0 sl20 ex20 ta20 nx0 on20 lf0 mo0 cv0 cg0 cT0 cp0 ou0)) (.inl (some (.int k)), q, cw sl1 ex1 ab1 ta1 dr1 md1 ml1 mt1 mc1 on1 ct1 (mrr th0 pr0 sl20 ex20 ta20 nx0 on20 lf0 mo0 cv0 cg0 cT0 cp0 ou1))) (hm : xk_Ev (xp_P sc) 149 0 [.ref 10, .retAddr 0, .retAddr 0] [] (cw sl1 ex1 ab1 ta1 dr1 md1 ml1 mt1 mc1 on1 ct1 (mrr th0 pr0 sl20 ex20 ta20 nx0 on20 lf0 mo0 cv0 cg0 cT0 cp0 ou1)) (.inl (some (.int b)), 0, cw sl1 ex1 ab1 ta1 dr1 md1 ml1 mt1 mc1 on1 ct1 (mrr k pr2 sl22 ex22 ta22 nx2 on22 lf2 mo2 cv2 cg2 cT2 cp2 ou2))) (h : xk_Po (xp_P sc) 180 784 [.ref 999, .ref 0, .ref 10, .ref 16, .int (Int32.ofNat i), .int k, .int b] [] (cw sl1 ex1 ab1 ta1 dr1 md1 ml1 mt1 mc1 on1 ct1 (mrr k pr2 sl22 ex22 ta22 nx2 on22 lf2 mo2 cv2 cg2 cT2 cp2 ou2)) (fun z => Φ (z.1, q + z.2.1, z.2.2))) : xk_Po (xp_P sc) 180 440 [.ref 999, .ref 0, .ref 10, .ref 16, .int (Int32.ofNat i), y5, y6] [] (cw sl0 ex0 ab0 ta0 dr0 md0 ml0 mt0 mc0 on0 ct0 (mrr th0 pr0 sl20 ex20 ta20 nx0 on20 lf0 mo0 cv0 cg0 cT0 cp0 ou0)) Φ := by
  refine xk_Po.go 2 rfl ?_
  refine xk_Po.cD rfl rfl (hc) ?_
  refine xk_Po.go 2 rfl ?_
  refine xk_Po.ci1 rfl rfl (hm) ?_
  refine xk_Po.go 2 rfl ?_
  refine xk_Po.ci1 rfl rfl (l_thr) ?_
  refine xk_Po.go 1 rfl ?_
  refine xk_Po.br rfl rfl (fun _ => ?_) (fun hZ => absurd (rfl) hZ) -- 450 .if_icmp .eq 453
  refine xk_Po.go 1 rfl ?_
  refine xk_Po.br rfl rfl (fun h0 => ?_) (fun h0 => ?_)
  · refine xk_Po.go 6 rfl ?_
    refine xk_Po.br rfl rfl (fun _ => ?_) (fun hZ => absurd (show lg_cmp (ou2 0) b.toInt64 = 0 from by rw [hk h0]; exact lg_same _) hZ) -- 461 .ifCond .eq 464
    refine xk_Po.go 1 rfl ?_
    exact h
  · refine xk_Po.go 1 rfl ?_
    exact h
set_option maxRecDepth 20000 in
theorem l_12 {sc : Nat × (Nat → Int32)} {i : Nat} (hi : i + 3 < sc.1) (hn : sc.1 < 2147483648) {y5 y6 : Value} {Φ : xk_R → Prop} {sl0 : Nat → Int32} {ex0 : Nat → Int32} {ab0 : Nat → Int32} {ta0 : Nat → Int32} {dr0 : Nat → Int32} {md0 : Int32} {ml0 : Int32} {mt0 : Int32} {mc0 : Int32} {on0 : Int32} {ct0 : Int32} {th0 : Int32} {pr0 : Nat → Int32} {sl20 : Nat → Int32} {ex20 : Nat → Int32} {ta20 : Nat → Int32} {nx0 : Nat → Int32} {on20 : Int32} {lf0 : Int32} {mo0 : Int32} {cv0 : Int32} {cg0 : Int32} {cT0 : Int32} {cp0 : Int32} {ou0 : Nat → Int64} {sl1 : Nat → Int32} {ex1 : Nat → Int32} {ab1 : Nat → Int32} {ta1 : Nat → Int32} {dr1 : Nat → Int32} {md1 : Int32} {ml1 : Int32} {mt1 : Int32} {mc1 : Int32} {on1 : Int32} {ct1 : Int32} {th2 : Int32} {pr2 : Nat → Int32} {sl22 : Nat → Int32} {ex22 : Nat → Int32} {ta22 : Nat → Int32} {nx2 : Nat → Int32} {on22 : Int32} {lf2 : Int32} {mo2 : Int32} {cv2 : Int32} {cg2 : Int32} {cT2 : Int32} {cp2 : Int32} {ou2 : Nat → Int64} {x : Int32} (hc : xk_Ev (xp_P sc) 52 0 [.ref 0] [] (cw sl0 ex0 ab0 ta0 dr0 md0 ml0 mt0 mc0 on0 ct0 (mrr th0 pr0 sl20 ex20 ta20 nx0 on20 lf0 mo0 cv0 cg0 cT0 cp0 ou0)) (.inl (some (.int x)), 0, cw sl1 ex1 ab1 ta1 dr1 md1 ml1 mt1 mc1 on1 ct1 (mrr th0 pr0 sl20 ex20 ta20 nx0 on20 lf0 mo0 cv0 cg0 cT0 cp0 ou0))) (hm : xk_Ev (xp_P sc) 150 0 [.ref 10] [] (cw sl1 ex1 ab1 ta1 dr1 md1 ml1 mt1 mc1 on1 ct1 (mrr th0 pr0 sl20 ex20 ta20 nx0 on20 lf0 mo0 cv0 cg0 cT0 cp0 ou0)) (.inl (some (.int x)), 0, cw sl1 ex1 ab1 ta1 dr1 md1 ml1 mt1 mc1 on1 ct1 (mrr th2 pr2 sl22 ex22 ta22 nx2 on22 lf2 mo2 cv2 cg2 cT2 cp2 ou2))) (h : xk_Po (xp_P sc) 180 784 [.ref 999, .ref 0, .ref 10, .ref 16, .int (Int32.ofNat i), y5, y6] [] (cw sl1 ex1 ab1 ta1 dr1 md1 ml1 mt1 mc1 on1 ct1 (mrr th2 pr2 sl22 ex22 ta22 nx2 on22 lf2 mo2 cv2 cg2 cT2 cp2 ou2)) Φ) : xk_Po (xp_P sc) 180 465 [.ref 999, .ref 0, .ref 10, .ref 16, .int (Int32.ofNat i), y5, y6] [] (cw sl0 ex0 ab0 ta0 dr0 md0 ml0 mt0 mc0 on0 ct0 (mrr th0 pr0 sl20 ex20 ta20 nx0 on20 lf0 mo0 cv0 cg0 cT0 cp0 ou0)) Φ := by
  refine xk_Po.go 1 rfl ?_
  refine xk_Po.ci1 rfl rfl (hc) ?_
  refine xk_Po.go 1 rfl ?_
  refine xk_Po.ci1 rfl rfl (hm) ?_
  refine xk_Po.br rfl rfl (fun _ => ?_) (fun hZ => absurd (rfl) hZ) -- 469 .if_icmp .eq 784
  exact h
set_option maxRecDepth 20000 in
theorem l_13 {sc : Nat × (Nat → Int32)} {i : Nat} (hi : i + 3 < sc.1) (hn : sc.1 < 2147483648) {y5 y6 : Value} {Φ : xk_R → Prop} {sl0 : Nat → Int32} {ex0 : Nat → Int32} {ab0 : Nat → Int32} {ta0 : Nat → Int32} {dr0 : Nat → Int32} {md0 : Int32} {ml0 : Int32} {mt0 : Int32} {mc0 : Int32} {on0 : Int32} {ct0 : Int32} {th0 : Int32} {pr0 : Nat → Int32} {sl20 : Nat → Int32} {ex20 : Nat → Int32} {ta20 : Nat → Int32} {nx0 : Nat → Int32} {on20 : Int32} {lf0 : Int32} {mo0 : Int32} {cv0 : Int32} {cg0 : Int32} {cT0 : Int32} {cp0 : Int32} {ou0 : Nat → Int64} {sl1 : Nat → Int32} {ex1 : Nat → Int32} {ab1 : Nat → Int32} {ta1 : Nat → Int32} {dr1 : Nat → Int32} {md1 : Int32} {ml1 : Int32} {mt1 : Int32} {mc1 : Int32} {on1 : Int32} {ct1 : Int32} {pr2 : Nat → Int32} {sl22 : Nat → Int32} {ex22 : Nat → Int32} {ta22 : Nat → Int32} {nx2 : Nat → Int32} {on22 : Int32} {lf2 : Int32} {mo2 : Int32} {cv2 : Int32} {cg2 : Int32} {cT2 : Int32} {cp2 : Int32} {ou2 : Nat → Int64} {k : Int32} {q : Nat} {ou1 : Nat → Int64} {b : Int32} (hk : k = 0 → ou2 0 = b.toInt64) (hc : xk_Ev (xp_P sc) 172 0 [.ref 0, .int (sc.2 (i + 1)), .int (sc.2 (i + 2)), .ref 16, .retAddr 0] [] (cw sl0 ex0 ab0 ta0 dr0 md0 ml0 mt0 mc0 on0 ct0 (mrr th0 pr0 sl20 ex20 ta20 nx0 on20 lf0 mo0 cv0 cg0 cT0 cp0 ou0)) (.inl (some (.int k)), q, cw sl1 ex1 ab1 ta1 dr1 md1 ml1 mt1 mc1 on1 ct1 (mrr th0 pr0 sl20 ex20 ta20 nx0 on20 lf0 mo0 cv0 cg0 cT0 cp0 ou1))) (hm : xk_Ev (xp_P sc) 151 0 [.ref 10, .int (sc.2 (i + 1)), .int (sc.2 (i + 2)), .retAddr 0] [] (cw sl1 ex1 ab1 ta1 dr1 md1 ml1 mt1 mc1 on1 ct1 (mrr th0 pr0 sl20 ex20 ta20 nx0 on20 lf0 mo0 cv0 cg0 cT0 cp0 ou1)) (.inl (some (.int b)), 0, cw sl1 ex1 ab1 ta1 dr1 md1 ml1 mt1 mc1 on1 ct1 (mrr k pr2 sl22 ex22 ta22 nx2 on22 lf2 mo2 cv2 cg2 cT2 cp2 ou2))) (h : xk_Po (xp_P sc) 180 784 [.ref 999, .ref 0, .ref 10, .ref 16, .int (Int32.ofNat i), .int k, .int b] [] (cw sl1 ex1 ab1 ta1 dr1 md1 ml1 mt1 mc1 on1 ct1 (mrr k pr2 sl22 ex22 ta22 nx2 on22 lf2 mo2 cv2 cg2 cT2 cp2 ou2)) (fun z => Φ (z.1, q + z.2.1, z.2.2))) : xk_Po (xp_P sc) 180 472 [.ref 999, .ref 0, .ref 10, .ref 16, .int (Int32.ofNat i), y5, y6] [] (cw sl0 ex0 ab0 ta0 dr0 md0 ml0 mt0 mc0 on0 ct0 (mrr th0 pr0 sl20 ex20 ta20 nx0 on20 lf0 mo0 cv0 cg0 cT0 cp0 ou0)) Φ := by
  refine xk_Po.go 5 rfl ?_
  refine xk_Po.ok rfl rfl (xn_ixa (a := i) (j := 1) (by omega) (by omega)) ?_ -- 477 .iaload
  rw [show (Int32.ofNat i + Int32.ofInt 1).toNatClampNeg = i + 1 from xn_nata (a := i) (j := 1) (by omega)]
  refine xk_Po.go 4 rfl ?_
  refine xk_Po.ok rfl rfl (xn_ixa (a := i) (j := 2) (by omega) (by omega)) ?_ -- 482 .iaload
  rw [show (Int32.ofNat i + Int32.ofInt 2).toNatClampNeg = i + 2 from xn_nata (a := i) (j := 2) (by omega)]
  refine xk_Po.go 1 rfl ?_
  refine xk_Po.cD rfl rfl (hc) ?_
  refine xk_Po.go 6 rfl ?_
  refine xk_Po.ok rfl rfl (xn_ixa (a := i) (j := 1) (by omega) (by omega)) ?_ -- 491 .iaload
  rw [show (Int32.ofNat i + Int32.ofInt 1).toNatClampNeg = i + 1 from xn_nata (a := i) (j := 1) (by omega)]
  refine xk_Po.go 4 rfl ?_
  refine xk_Po.ok rfl rfl (xn_ixa (a := i) (j := 2) (by omega) (by omega)) ?_ -- 496 .iaload
  rw [show (Int32.ofNat i + Int32.ofInt 2).toNatClampNeg = i + 2 from xn_nata (a := i) (j := 2) (by omega)]
  refine xk_Po.ci3 rfl rfl (hm) ?_
  refine xk_Po.go 2 rfl ?_
  refine xk_Po.ci1 rfl rfl (l_thr) ?_
  refine xk_Po.go 1 rfl ?_
  refine xk_Po.br rfl rfl (fun _ => ?_) (fun hZ => absurd (rfl) hZ) -- 502 .if_icmp .eq 505
  refine xk_Po.go 1 rfl ?_
  refine xk_Po.br rfl rfl (fun h0 => ?_) (fun h0 => ?_)
  · refine xk_Po.go 6 rfl ?_
    refine xk_Po.br rfl rfl (fun _ => ?_) (fun hZ => absurd (show lg_cmp (ou2 0) b.toInt64 = 0 from by rw [hk h0]; exact lg_same _) hZ) -- 513 .ifCond .eq 516
    refine xk_Po.go 1 rfl ?_
    exact h
  · refine xk_Po.go 1 rfl ?_
    exact h
set_option maxRecDepth 20000 in
theorem l_14 {sc : Nat × (Nat → Int32)} {i : Nat} (hi : i + 3 < sc.1) (hn : sc.1 < 2147483648) {y5 y6 : Value} {Φ : xk_R → Prop} {sl0 : Nat → Int32} {ex0 : Nat → Int32} {ab0 : Nat → Int32} {ta0 : Nat → Int32} {dr0 : Nat → Int32} {md0 : Int32} {ml0 : Int32} {mt0 : Int32} {mc0 : Int32} {on0 : Int32} {ct0 : Int32} {th0 : Int32} {pr0 : Nat → Int32} {sl20 : Nat → Int32} {ex20 : Nat → Int32} {ta20 : Nat → Int32} {nx0 : Nat → Int32} {on20 : Int32} {lf0 : Int32} {mo0 : Int32} {cv0 : Int32} {cg0 : Int32} {cT0 : Int32} {cp0 : Int32} {ou0 : Nat → Int64} {sl1 : Nat → Int32} {ex1 : Nat → Int32} {ab1 : Nat → Int32} {ta1 : Nat → Int32} {dr1 : Nat → Int32} {md1 : Int32} {ml1 : Int32} {mt1 : Int32} {mc1 : Int32} {on1 : Int32} {ct1 : Int32} {pr2 : Nat → Int32} {sl22 : Nat → Int32} {ex22 : Nat → Int32} {ta22 : Nat → Int32} {nx2 : Nat → Int32} {on22 : Int32} {lf2 : Int32} {mo2 : Int32} {cv2 : Int32} {cg2 : Int32} {cT2 : Int32} {cp2 : Int32} {ou2 : Nat → Int64} {k : Int32} {q : Nat} {ou1 : Nat → Int64} {b : Int32} (hk : k = 0 → ou2 0 = b.toInt64) (hc : xk_Ev (xp_P sc) 173 0 [.ref 0, .int (sc.2 (i + 1)), .int (sc.2 (i + 2)), .int (sc.2 (i + 3)), .ref 16, .retAddr 0] [] (cw sl0 ex0 ab0 ta0 dr0 md0 ml0 mt0 mc0 on0 ct0 (mrr th0 pr0 sl20 ex20 ta20 nx0 on20 lf0 mo0 cv0 cg0 cT0 cp0 ou0)) (.inl (some (.int k)), q, cw sl1 ex1 ab1 ta1 dr1 md1 ml1 mt1 mc1 on1 ct1 (mrr th0 pr0 sl20 ex20 ta20 nx0 on20 lf0 mo0 cv0 cg0 cT0 cp0 ou1))) (hm : xk_Ev (xp_P sc) 152 0 [.ref 10, .int (sc.2 (i + 1)), .int (sc.2 (i + 2)), .int (sc.2 (i + 3))] [] (cw sl1 ex1 ab1 ta1 dr1 md1 ml1 mt1 mc1 on1 ct1 (mrr th0 pr0 sl20 ex20 ta20 nx0 on20 lf0 mo0 cv0 cg0 cT0 cp0 ou1)) (.inl (some (.int b)), 0, cw sl1 ex1 ab1 ta1 dr1 md1 ml1 mt1 mc1 on1 ct1 (mrr k pr2 sl22 ex22 ta22 nx2 on22 lf2 mo2 cv2 cg2 cT2 cp2 ou2))) (h : xk_Po (xp_P sc) 180 784 [.ref 999, .ref 0, .ref 10, .ref 16, .int (Int32.ofNat i), .int k, .int b] [] (cw sl1 ex1 ab1 ta1 dr1 md1 ml1 mt1 mc1 on1 ct1 (mrr k pr2 sl22 ex22 ta22 nx2 on22 lf2 mo2 cv2 cg2 cT2 cp2 ou2)) (fun z => Φ (z.1, q + z.2.1, z.2.2))) : xk_Po (xp_P sc) 180 517 [.ref 999, .ref 0, .ref 10, .ref 16, .int (Int32.ofNat i), y5, y6] [] (cw sl0 ex0 ab0 ta0 dr0 md0 ml0 mt0 mc0 on0 ct0 (mrr th0 pr0 sl20 ex20 ta20 nx0 on20 lf0 mo0 cv0 cg0 cT0 cp0 ou0)) Φ := by
  refine xk_Po.go 5 rfl ?_
  refine xk_Po.ok rfl rfl (xn_ixa (a := i) (j := 1) (by omega) (by omega)) ?_ -- 522 .iaload
  rw [show (Int32.ofNat i + Int32.ofInt 1).toNatClampNeg = i + 1 from xn_nata (a := i) (j := 1) (by omega)]
  refine xk_Po.go 4 rfl ?_
  refine xk_Po.ok rfl rfl (xn_ixa (a := i) (j := 2) (by omega) (by omega)) ?_ -- 527 .iaload
  rw [show (Int32.ofNat i + Int32.ofInt 2).toNatClampNeg = i + 2 from xn_nata (a := i) (j := 2) (by omega)]
  refine xk_Po.go 4 rfl ?_
  refine xk_Po.ok rfl rfl (xn_ixa (a := i) (j := 3) (by omega) (by omega)) ?_ -- 532 .iaload
  rw [show (Int32.ofNat i + Int32.ofInt 3).toNatClampNeg = i + 3 from xn_nata (a := i) (j := 3) (by omega)]
  refine xk_Po.go 1 rfl ?_
  refine xk_Po.cD rfl rfl (hc) ?_
  refine xk_Po.go 6 rfl ?_
  refine xk_Po.ok rfl rfl (xn_ixa (a := i) (j := 1) (by omega) (by omega)) ?_ -- 541 .iaload
  rw [show (Int32.ofNat i + Int32.ofInt 1).toNatClampNeg = i + 1 from xn_nata (a := i) (j := 1) (by omega)]
  refine xk_Po.go 4 rfl ?_
  refine xk_Po.ok rfl rfl (xn_ixa (a := i) (j := 2) (by omega) (by omega)) ?_ -- 546 .iaload
  rw [show (Int32.ofNat i + Int32.ofInt 2).toNatClampNeg = i + 2 from xn_nata (a := i) (j := 2) (by omega)]
  refine xk_Po.go 4 rfl ?_
  refine xk_Po.ok rfl rfl (xn_ixa (a := i) (j := 3) (by omega) (by omega)) ?_ -- 551 .iaload
  rw [show (Int32.ofNat i + Int32.ofInt 3).toNatClampNeg = i + 3 from xn_nata (a := i) (j := 3) (by omega)]
  refine xk_Po.ci4 rfl rfl (hm) ?_
  refine xk_Po.go 2 rfl ?_
  refine xk_Po.ci1 rfl rfl (l_thr) ?_
  refine xk_Po.go 1 rfl ?_
  refine xk_Po.br rfl rfl (fun _ => ?_) (fun hZ => absurd (rfl) hZ) -- 557 .if_icmp .eq 560
  refine xk_Po.go 1 rfl ?_
  refine xk_Po.br rfl rfl (fun h0 => ?_) (fun h0 => ?_)
  · refine xk_Po.go 6 rfl ?_
    refine xk_Po.br rfl rfl (fun _ => ?_) (fun hZ => absurd (show lg_cmp (ou2 0) b.toInt64 = 0 from by rw [hk h0]; exact lg_same _) hZ) -- 568 .ifCond .eq 571
    refine xk_Po.go 1 rfl ?_
    exact h
  · refine xk_Po.go 1 rfl ?_
    exact h
set_option maxRecDepth 20000 in
theorem l_15 {sc : Nat × (Nat → Int32)} {i : Nat} (hi : i + 3 < sc.1) (hn : sc.1 < 2147483648) {y5 y6 : Value} {Φ : xk_R → Prop} {sl0 : Nat → Int32} {ex0 : Nat → Int32} {ab0 : Nat → Int32} {ta0 : Nat → Int32} {dr0 : Nat → Int32} {md0 : Int32} {ml0 : Int32} {mt0 : Int32} {mc0 : Int32} {on0 : Int32} {ct0 : Int32} {th0 : Int32} {pr0 : Nat → Int32} {sl20 : Nat → Int32} {ex20 : Nat → Int32} {ta20 : Nat → Int32} {nx0 : Nat → Int32} {on20 : Int32} {lf0 : Int32} {mo0 : Int32} {cv0 : Int32} {cg0 : Int32} {cT0 : Int32} {cp0 : Int32} {ou0 : Nat → Int64} {sl1 : Nat → Int32} {ex1 : Nat → Int32} {ab1 : Nat → Int32} {ta1 : Nat → Int32} {dr1 : Nat → Int32} {md1 : Int32} {ml1 : Int32} {mt1 : Int32} {mc1 : Int32} {on1 : Int32} {ct1 : Int32} {pr2 : Nat → Int32} {sl22 : Nat → Int32} {ex22 : Nat → Int32} {ta22 : Nat → Int32} {nx2 : Nat → Int32} {on22 : Int32} {lf2 : Int32} {mo2 : Int32} {cv2 : Int32} {cg2 : Int32} {cT2 : Int32} {cp2 : Int32} {ou2 : Nat → Int64} {k : Int32} {q : Nat} {ou1 : Nat → Int64} {b : Int32} (hk : k = 0 → ou2 0 = b.toInt64) (hc : xk_Ev (xp_P sc) 174 0 [.ref 0, .int (sc.2 (i + 1)), .ref 16, .retAddr 0] [] (cw sl0 ex0 ab0 ta0 dr0 md0 ml0 mt0 mc0 on0 ct0 (mrr th0 pr0 sl20 ex20 ta20 nx0 on20 lf0 mo0 cv0 cg0 cT0 cp0 ou0)) (.inl (some (.int k)), q, cw sl1 ex1 ab1 ta1 dr1 md1 ml1 mt1 mc1 on1 ct1 (mrr th0 pr0 sl20 ex20 ta20 nx0 on20 lf0 mo0 cv0 cg0 cT0 cp0 ou1))) (hm : xk_Ev (xp_P sc) 153 0 [.ref 10, .int (sc.2 (i + 1))] [] (cw sl1 ex1 ab1 ta1 dr1 md1 ml1 mt1 mc1 on1 ct1 (mrr th0 pr0 sl20 ex20 ta20 nx0 on20 lf0 mo0 cv0 cg0 cT0 cp0 ou1)) (.inl (some (.int b)), 0, cw sl1 ex1 ab1 ta1 dr1 md1 ml1 mt1 mc1 on1 ct1 (mrr k pr2 sl22 ex22 ta22 nx2 on22 lf2 mo2 cv2 cg2 cT2 cp2 ou2))) (h : xk_Po (xp_P sc) 180 784 [.ref 999, .ref 0, .ref 10, .ref 16, .int (Int32.ofNat i), .int k, .int b] [] (cw sl1 ex1 ab1 ta1 dr1 md1 ml1 mt1 mc1 on1 ct1 (mrr k pr2 sl22 ex22 ta22 nx2 on22 lf2 mo2 cv2 cg2 cT2 cp2 ou2)) (fun z => Φ (z.1, q + z.2.1, z.2.2))) : xk_Po (xp_P sc) 180 572 [.ref 999, .ref 0, .ref 10, .ref 16, .int (Int32.ofNat i), y5, y6] [] (cw sl0 ex0 ab0 ta0 dr0 md0 ml0 mt0 mc0 on0 ct0 (mrr th0 pr0 sl20 ex20 ta20 nx0 on20 lf0 mo0 cv0 cg0 cT0 cp0 ou0)) Φ := by
  refine xk_Po.go 5 rfl ?_
  refine xk_Po.ok rfl rfl (xn_ixa (a := i) (j := 1) (by omega) (by omega)) ?_ -- 577 .iaload
  rw [show (Int32.ofNat i + Int32.ofInt 1).toNatClampNeg = i + 1 from xn_nata (a := i) (j := 1) (by omega)]
  refine xk_Po.go 1 rfl ?_
  refine xk_Po.cD rfl rfl (hc) ?_
  refine xk_Po.go 6 rfl ?_
  refine xk_Po.ok rfl rfl (xn_ixa (a := i) (j := 1) (by omega) (by omega)) ?_ -- 586 .iaload
  rw [show (Int32.ofNat i + Int32.ofInt 1).toNatClampNeg = i + 1 from xn_nata (a := i) (j := 1) (by omega)]
  refine xk_Po.ci2 rfl rfl (hm) ?_
  refine xk_Po.go 2 rfl ?_
  refine xk_Po.ci1 rfl rfl (l_thr) ?_
  refine xk_Po.go 1 rfl ?_
  refine xk_Po.br rfl rfl (fun _ => ?_) (fun hZ => absurd (rfl) hZ) -- 592 .if_icmp .eq 595
  refine xk_Po.go 1 rfl ?_
  refine xk_Po.br rfl rfl (fun h0 => ?_) (fun h0 => ?_)
  · refine xk_Po.go 6 rfl ?_
    refine xk_Po.br rfl rfl (fun _ => ?_) (fun hZ => absurd (show lg_cmp (ou2 0) b.toInt64 = 0 from by rw [hk h0]; exact lg_same _) hZ) -- 603 .ifCond .eq 606
    refine xk_Po.go 1 rfl ?_
    exact h
  · refine xk_Po.go 1 rfl ?_
    exact h
set_option maxRecDepth 20000 in
theorem l_16 {sc : Nat × (Nat → Int32)} {i : Nat} (hi : i + 3 < sc.1) (hn : sc.1 < 2147483648) {y5 y6 : Value} {Φ : xk_R → Prop} {sl0 : Nat → Int32} {ex0 : Nat → Int32} {ab0 : Nat → Int32} {ta0 : Nat → Int32} {dr0 : Nat → Int32} {md0 : Int32} {ml0 : Int32} {mt0 : Int32} {mc0 : Int32} {on0 : Int32} {ct0 : Int32} {th0 : Int32} {pr0 : Nat → Int32} {sl20 : Nat → Int32} {ex20 : Nat → Int32} {ta20 : Nat → Int32} {nx0 : Nat → Int32} {on20 : Int32} {lf0 : Int32} {mo0 : Int32} {cv0 : Int32} {cg0 : Int32} {cT0 : Int32} {cp0 : Int32} {ou0 : Nat → Int64} {sl1 : Nat → Int32} {ex1 : Nat → Int32} {ab1 : Nat → Int32} {ta1 : Nat → Int32} {dr1 : Nat → Int32} {md1 : Int32} {ml1 : Int32} {mt1 : Int32} {mc1 : Int32} {on1 : Int32} {ct1 : Int32} {pr2 : Nat → Int32} {sl22 : Nat → Int32} {ex22 : Nat → Int32} {ta22 : Nat → Int32} {nx2 : Nat → Int32} {on22 : Int32} {lf2 : Int32} {mo2 : Int32} {cv2 : Int32} {cg2 : Int32} {cT2 : Int32} {cp2 : Int32} {ou2 : Nat → Int64} {k : Int32} {q : Nat} (hc : xk_Ev (xp_P sc) 175 0 [.ref 0, .int (sc.2 (i + 1)), .retAddr 0] [] (cw sl0 ex0 ab0 ta0 dr0 md0 ml0 mt0 mc0 on0 ct0 (mrr th0 pr0 sl20 ex20 ta20 nx0 on20 lf0 mo0 cv0 cg0 cT0 cp0 ou0)) (.inl (some (.int k)), q, cw sl1 ex1 ab1 ta1 dr1 md1 ml1 mt1 mc1 on1 ct1 (mrr th0 pr0 sl20 ex20 ta20 nx0 on20 lf0 mo0 cv0 cg0 cT0 cp0 ou0))) (hm : xk_Ev (xp_P sc) 156 0 [.ref 10, .int (sc.2 (i + 1))] [] (cw sl1 ex1 ab1 ta1 dr1 md1 ml1 mt1 mc1 on1 ct1 (mrr th0 pr0 sl20 ex20 ta20 nx0 on20 lf0 mo0 cv0 cg0 cT0 cp0 ou0)) (.inl none, 0, cw sl1 ex1 ab1 ta1 dr1 md1 ml1 mt1 mc1 on1 ct1 (mrr k pr2 sl22 ex22 ta22 nx2 on22 lf2 mo2 cv2 cg2 cT2 cp2 ou2))) (h : xk_Po (xp_P sc) 180 784 [.ref 999, .ref 0, .ref 10, .ref 16, .int (Int32.ofNat i), .int k, y6] [] (cw sl1 ex1 ab1 ta1 dr1 md1 ml1 mt1 mc1 on1 ct1 (mrr k pr2 sl22 ex22 ta22 nx2 on22 lf2 mo2 cv2 cg2 cT2 cp2 ou2)) (fun z => Φ (z.1, q + z.2.1, z.2.2))) : xk_Po (xp_P sc) 180 607 [.ref 999, .ref 0, .ref 10, .ref 16, .int (Int32.ofNat i), y5, y6] [] (cw sl0 ex0 ab0 ta0 dr0 md0 ml0 mt0 mc0 on0 ct0 (mrr th0 pr0 sl20 ex20 ta20 nx0 on20 lf0 mo0 cv0 cg0 cT0 cp0 ou0)) Φ := by
  refine xk_Po.go 5 rfl ?_
  refine xk_Po.ok rfl rfl (xn_ixa (a := i) (j := 1) (by omega) (by omega)) ?_ -- 612 .iaload
  rw [show (Int32.ofNat i + Int32.ofInt 1).toNatClampNeg = i + 1 from xn_nata (a := i) (j := 1) (by omega)]
  refine xk_Po.cD rfl rfl (hc) ?_
  refine xk_Po.go 6 rfl ?_
  refine xk_Po.ok rfl rfl (xn_ixa (a := i) (j := 1) (by omega) (by omega)) ?_ -- 620 .iaload
  rw [show (Int32.ofNat i + Int32.ofInt 1).toNatClampNeg = i + 1 from xn_nata (a := i) (j := 1) (by omega)]
  refine xk_Po.cv2 rfl rfl (hm) ?_
  refine xk_Po.go 1 rfl ?_
  refine xk_Po.ci1 rfl rfl (l_thr) ?_
  refine xk_Po.go 1 rfl ?_
  refine xk_Po.br rfl rfl (fun _ => ?_) (fun hZ => absurd (rfl) hZ) -- 625 .if_icmp .eq 628
  refine xk_Po.go 1 rfl ?_
  exact h
set_option maxRecDepth 20000 in
theorem l_17 {sc : Nat × (Nat → Int32)} {i : Nat} (hi : i + 3 < sc.1) (hn : sc.1 < 2147483648) {y5 y6 : Value} {Φ : xk_R → Prop} {sl0 : Nat → Int32} {ex0 : Nat → Int32} {ab0 : Nat → Int32} {ta0 : Nat → Int32} {dr0 : Nat → Int32} {md0 : Int32} {ml0 : Int32} {mt0 : Int32} {mc0 : Int32} {on0 : Int32} {ct0 : Int32} {th0 : Int32} {pr0 : Nat → Int32} {sl20 : Nat → Int32} {ex20 : Nat → Int32} {ta20 : Nat → Int32} {nx0 : Nat → Int32} {on20 : Int32} {lf0 : Int32} {mo0 : Int32} {cv0 : Int32} {cg0 : Int32} {cT0 : Int32} {cp0 : Int32} {ou0 : Nat → Int64} {sl1 : Nat → Int32} {ex1 : Nat → Int32} {ab1 : Nat → Int32} {ta1 : Nat → Int32} {dr1 : Nat → Int32} {md1 : Int32} {ml1 : Int32} {mt1 : Int32} {mc1 : Int32} {on1 : Int32} {ct1 : Int32} {pr2 : Nat → Int32} {sl22 : Nat → Int32} {ex22 : Nat → Int32} {ta22 : Nat → Int32} {nx2 : Nat → Int32} {on22 : Int32} {lf2 : Int32} {mo2 : Int32} {cv2 : Int32} {cg2 : Int32} {cT2 : Int32} {cp2 : Int32} {ou2 : Nat → Int64} {k : Int32} {q : Nat} (hc : xk_Ev (xp_P sc) 176 0 [.ref 0, .retAddr 0] [] (cw sl0 ex0 ab0 ta0 dr0 md0 ml0 mt0 mc0 on0 ct0 (mrr th0 pr0 sl20 ex20 ta20 nx0 on20 lf0 mo0 cv0 cg0 cT0 cp0 ou0)) (.inl (some (.int k)), q, cw sl1 ex1 ab1 ta1 dr1 md1 ml1 mt1 mc1 on1 ct1 (mrr th0 pr0 sl20 ex20 ta20 nx0 on20 lf0 mo0 cv0 cg0 cT0 cp0 ou0))) (hm : xk_Ev (xp_P sc) 157 0 [.ref 10] [] (cw sl1 ex1 ab1 ta1 dr1 md1 ml1 mt1 mc1 on1 ct1 (mrr th0 pr0 sl20 ex20 ta20 nx0 on20 lf0 mo0 cv0 cg0 cT0 cp0 ou0)) (.inl none, 0, cw sl1 ex1 ab1 ta1 dr1 md1 ml1 mt1 mc1 on1 ct1 (mrr k pr2 sl22 ex22 ta22 nx2 on22 lf2 mo2 cv2 cg2 cT2 cp2 ou2))) (h : xk_Po (xp_P sc) 180 784 [.ref 999, .ref 0, .ref 10, .ref 16, .int (Int32.ofNat i), .int k, y6] [] (cw sl1 ex1 ab1 ta1 dr1 md1 ml1 mt1 mc1 on1 ct1 (mrr k pr2 sl22 ex22 ta22 nx2 on22 lf2 mo2 cv2 cg2 cT2 cp2 ou2)) (fun z => Φ (z.1, q + z.2.1, z.2.2))) : xk_Po (xp_P sc) 180 629 [.ref 999, .ref 0, .ref 10, .ref 16, .int (Int32.ofNat i), y5, y6] [] (cw sl0 ex0 ab0 ta0 dr0 md0 ml0 mt0 mc0 on0 ct0 (mrr th0 pr0 sl20 ex20 ta20 nx0 on20 lf0 mo0 cv0 cg0 cT0 cp0 ou0)) Φ := by
  refine xk_Po.go 1 rfl ?_
  refine xk_Po.cD rfl rfl (hc) ?_
  refine xk_Po.go 2 rfl ?_
  refine xk_Po.cv1 rfl rfl (hm) ?_
  refine xk_Po.go 1 rfl ?_
  refine xk_Po.ci1 rfl rfl (l_thr) ?_
  refine xk_Po.go 1 rfl ?_
  refine xk_Po.br rfl rfl (fun _ => ?_) (fun hZ => absurd (rfl) hZ) -- 637 .if_icmp .eq 640
  refine xk_Po.go 1 rfl ?_
  exact h
set_option maxRecDepth 20000 in
theorem l_18a {sc : Nat × (Nat → Int32)} {i : Nat} (hi : i + 3 < sc.1) (hn : sc.1 < 2147483648) {y5 y6 : Value} {Φ : xk_R → Prop} {sl0 : Nat → Int32} {ex0 : Nat → Int32} {ab0 : Nat → Int32} {ta0 : Nat → Int32} {dr0 : Nat → Int32} {md0 : Int32} {ml0 : Int32} {mt0 : Int32} {mc0 : Int32} {on0 : Int32} {ct0 : Int32} {th0 : Int32} {pr0 : Nat → Int32} {sl20 : Nat → Int32} {ex20 : Nat → Int32} {ta20 : Nat → Int32} {nx0 : Nat → Int32} {on20 : Int32} {lf0 : Int32} {mo0 : Int32} {cv0 : Int32} {cg0 : Int32} {cT0 : Int32} {cp0 : Int32} {ou0 : Nat → Int64} {sl1 : Nat → Int32} {ex1 : Nat → Int32} {ab1 : Nat → Int32} {ta1 : Nat → Int32} {dr1 : Nat → Int32} {md1 : Int32} {ml1 : Int32} {mt1 : Int32} {mc1 : Int32} {on1 : Int32} {ct1 : Int32} {pr2 : Nat → Int32} {sl22 : Nat → Int32} {ex22 : Nat → Int32} {ta22 : Nat → Int32} {nx2 : Nat → Int32} {on22 : Int32} {lf2 : Int32} {mo2 : Int32} {cv2 : Int32} {cg2 : Int32} {cT2 : Int32} {cp2 : Int32} {ou2 : Nat → Int64} {k : Int32} {q : Nat} {ou1 : Nat → Int64} {b : Int32} (hk : k = 0 → ou2 0 = if b = 0 then 0 else 1) (hb : sc.2 (i + 2) = 0) (hc : xk_Ev (xp_P sc) 177 0 [.ref 0, .int (sc.2 (i + 1)), .int 0, .ref 16, .retAddr 0] [] (cw sl0 ex0 ab0 ta0 dr0 md0 ml0 mt0 mc0 on0 ct0 (mrr th0 pr0 sl20 ex20 ta20 nx0 on20 lf0 mo0 cv0 cg0 cT0 cp0 ou0)) (.inl (some (.int k)), q, cw sl1 ex1 ab1 ta1 dr1 md1 ml1 mt1 mc1 on1 ct1 (mrr th0 pr0 sl20 ex20 ta20 nx0 on20 lf0 mo0 cv0 cg0 cT0 cp0 ou1))) (hm : xk_Ev (xp_P sc) 158 0 [.ref 10, .int (sc.2 (i + 1)), .int 0, .retAddr 0] [] (cw sl1 ex1 ab1 ta1 dr1 md1 ml1 mt1 mc1 on1 ct1 (mrr th0 pr0 sl20 ex20 ta20 nx0 on20 lf0 mo0 cv0 cg0 cT0 cp0 ou1)) (.inl (some (.int b)), 0, cw sl1 ex1 ab1 ta1 dr1 md1 ml1 mt1 mc1 on1 ct1 (mrr k pr2 sl22 ex22 ta22 nx2 on22 lf2 mo2 cv2 cg2 cT2 cp2 ou2))) (h : xk_Po (xp_P sc) 180 784 [.ref 999, .ref 0, .ref 10, .ref 16, .int (Int32.ofNat i), .int k, .int b] [] (cw sl1 ex1 ab1 ta1 dr1 md1 ml1 mt1 mc1 on1 ct1 (mrr k pr2 sl22 ex22 ta22 nx2 on22 lf2 mo2 cv2 cg2 cT2 cp2 ou2)) (fun z => Φ (z.1, q + z.2.1, z.2.2))) : xk_Po (xp_P sc) 180 641 [.ref 999, .ref 0, .ref 10, .ref 16, .int (Int32.ofNat i), y5, y6] [] (cw sl0 ex0 ab0 ta0 dr0 md0 ml0 mt0 mc0 on0 ct0 (mrr th0 pr0 sl20 ex20 ta20 nx0 on20 lf0 mo0 cv0 cg0 cT0 cp0 ou0)) Φ := by
  refine xk_Po.go 5 rfl ?_
  refine xk_Po.ok rfl rfl (xn_ixa (a := i) (j := 1) (by omega) (by omega)) ?_ -- 646 .iaload
  rw [show (Int32.ofNat i + Int32.ofInt 1).toNatClampNeg = i + 1 from xn_nata (a := i) (j := 1) (by omega)]
  refine xk_Po.go 4 rfl ?_
  refine xk_Po.ok rfl rfl (xn_ixa (a := i) (j := 2) (by omega) (by omega)) ?_ -- 651 .iaload
  rw [show (Int32.ofNat i + Int32.ofInt 2).toNatClampNeg = i + 2 from xn_nata (a := i) (j := 2) (by omega)]
  refine xk_Po.br rfl rfl (fun _ => ?_) (fun hZ => absurd (hb) hZ) -- 652 .ifCond .eq 655
  refine xk_Po.go 2 rfl ?_
  refine xk_Po.cD rfl rfl (hc) ?_
  refine xk_Po.go 6 rfl ?_
  refine xk_Po.ok rfl rfl (xn_ixa (a := i) (j := 1) (by omega) (by omega)) ?_ -- 664 .iaload
  rw [show (Int32.ofNat i + Int32.ofInt 1).toNatClampNeg = i + 1 from xn_nata (a := i) (j := 1) (by omega)]
  refine xk_Po.go 4 rfl ?_
  refine xk_Po.ok rfl rfl (xn_ixa (a := i) (j := 2) (by omega) (by omega)) ?_ -- 669 .iaload
  rw [show (Int32.ofNat i + Int32.ofInt 2).toNatClampNeg = i + 2 from xn_nata (a := i) (j := 2) (by omega)]
  refine xk_Po.br rfl rfl (fun _ => ?_) (fun hZ => absurd (hb) hZ) -- 670 .ifCond .eq 673
  refine xk_Po.go 1 rfl ?_
  refine xk_Po.ci3 rfl rfl (hm) ?_
  refine xk_Po.go 2 rfl ?_
  refine xk_Po.ci1 rfl rfl (l_thr) ?_
  refine xk_Po.go 1 rfl ?_
  refine xk_Po.br rfl rfl (fun _ => ?_) (fun hZ => absurd (rfl) hZ) -- 679 .if_icmp .eq 682
  refine xk_Po.go 1 rfl ?_
  refine xk_Po.br rfl rfl (fun h0 => ?_) (fun h0 => ?_)
  · refine xk_Po.go 4 rfl ?_
    refine xk_Po.br rfl rfl (fun h1 => ?_) (fun h1 => ?_)
    · refine xk_Po.go 2 rfl ?_
      refine xk_Po.br rfl rfl (fun _ => ?_) (fun hZ => absurd (show lg_cmp (ou2 0) 0 = 0 from by rw [hk h0, if_pos h1]; exact lg_same _) hZ)
      refine xk_Po.go 1 rfl ?_
      exact h
    · refine xk_Po.go 3 rfl ?_
      refine xk_Po.br rfl rfl (fun _ => ?_) (fun hZ => absurd (show lg_cmp (ou2 0) 1 = 0 from by rw [hk h0, if_neg h1]; exact lg_same _) hZ)
      refine xk_Po.go 1 rfl ?_
      exact h
  · refine xk_Po.go 1 rfl ?_
    exact h
set_option maxRecDepth 20000 in
theorem l_18b {sc : Nat × (Nat → Int32)} {i : Nat} (hi : i + 3 < sc.1) (hn : sc.1 < 2147483648) {y5 y6 : Value} {Φ : xk_R → Prop} {sl0 : Nat → Int32} {ex0 : Nat → Int32} {ab0 : Nat → Int32} {ta0 : Nat → Int32} {dr0 : Nat → Int32} {md0 : Int32} {ml0 : Int32} {mt0 : Int32} {mc0 : Int32} {on0 : Int32} {ct0 : Int32} {th0 : Int32} {pr0 : Nat → Int32} {sl20 : Nat → Int32} {ex20 : Nat → Int32} {ta20 : Nat → Int32} {nx0 : Nat → Int32} {on20 : Int32} {lf0 : Int32} {mo0 : Int32} {cv0 : Int32} {cg0 : Int32} {cT0 : Int32} {cp0 : Int32} {ou0 : Nat → Int64} {sl1 : Nat → Int32} {ex1 : Nat → Int32} {ab1 : Nat → Int32} {ta1 : Nat → Int32} {dr1 : Nat → Int32} {md1 : Int32} {ml1 : Int32} {mt1 : Int32} {mc1 : Int32} {on1 : Int32} {ct1 : Int32} {pr2 : Nat → Int32} {sl22 : Nat → Int32} {ex22 : Nat → Int32} {ta22 : Nat → Int32} {nx2 : Nat → Int32} {on22 : Int32} {lf2 : Int32} {mo2 : Int32} {cv2 : Int32} {cg2 : Int32} {cT2 : Int32} {cp2 : Int32} {ou2 : Nat → Int64} {k : Int32} {q : Nat} {ou1 : Nat → Int64} {b : Int32} (hk : k = 0 → ou2 0 = if b = 0 then 0 else 1) (hb : ¬ sc.2 (i + 2) = 0) (hc : xk_Ev (xp_P sc) 177 0 [.ref 0, .int (sc.2 (i + 1)), .int 1, .ref 16, .retAddr 0] [] (cw sl0 ex0 ab0 ta0 dr0 md0 ml0 mt0 mc0 on0 ct0 (mrr th0 pr0 sl20 ex20 ta20 nx0 on20 lf0 mo0 cv0 cg0 cT0 cp0 ou0)) (.inl (some (.int k)), q, cw sl1 ex1 ab1 ta1 dr1 md1 ml1 mt1 mc1 on1 ct1 (mrr th0 pr0 sl20 ex20 ta20 nx0 on20 lf0 mo0 cv0 cg0 cT0 cp0 ou1))) (hm : xk_Ev (xp_P sc) 158 0 [.ref 10, .int (sc.2 (i + 1)), .int 1, .retAddr 0] [] (cw sl1 ex1 ab1 ta1 dr1 md1 ml1 mt1 mc1 on1 ct1 (mrr th0 pr0 sl20 ex20 ta20 nx0 on20 lf0 mo0 cv0 cg0 cT0 cp0 ou1)) (.inl (some (.int b)), 0, cw sl1 ex1 ab1 ta1 dr1 md1 ml1 mt1 mc1 on1 ct1 (mrr k pr2 sl22 ex22 ta22 nx2 on22 lf2 mo2 cv2 cg2 cT2 cp2 ou2))) (h : xk_Po (xp_P sc) 180 784 [.ref 999, .ref 0, .ref 10, .ref 16, .int (Int32.ofNat i), .int k, .int b] [] (cw sl1 ex1 ab1 ta1 dr1 md1 ml1 mt1 mc1 on1 ct1 (mrr k pr2 sl22 ex22 ta22 nx2 on22 lf2 mo2 cv2 cg2 cT2 cp2 ou2)) (fun z => Φ (z.1, q + z.2.1, z.2.2))) : xk_Po (xp_P sc) 180 641 [.ref 999, .ref 0, .ref 10, .ref 16, .int (Int32.ofNat i), y5, y6] [] (cw sl0 ex0 ab0 ta0 dr0 md0 ml0 mt0 mc0 on0 ct0 (mrr th0 pr0 sl20 ex20 ta20 nx0 on20 lf0 mo0 cv0 cg0 cT0 cp0 ou0)) Φ := by
  refine xk_Po.go 5 rfl ?_
  refine xk_Po.ok rfl rfl (xn_ixa (a := i) (j := 1) (by omega) (by omega)) ?_ -- 646 .iaload
  rw [show (Int32.ofNat i + Int32.ofInt 1).toNatClampNeg = i + 1 from xn_nata (a := i) (j := 1) (by omega)]
  refine xk_Po.go 4 rfl ?_
  refine xk_Po.ok rfl rfl (xn_ixa (a := i) (j := 2) (by omega) (by omega)) ?_ -- 651 .iaload
  rw [show (Int32.ofNat i + Int32.ofInt 2).toNatClampNeg = i + 2 from xn_nata (a := i) (j := 2) (by omega)]
  refine xk_Po.br rfl rfl (fun hZ => absurd hZ (hb)) (fun _ => ?_) -- 652 .ifCond .eq 655
  refine xk_Po.go 3 rfl ?_
  refine xk_Po.cD rfl rfl (hc) ?_
  refine xk_Po.go 6 rfl ?_
  refine xk_Po.ok rfl rfl (xn_ixa (a := i) (j := 1) (by omega) (by omega)) ?_ -- 664 .iaload
  rw [show (Int32.ofNat i + Int32.ofInt 1).toNatClampNeg = i + 1 from xn_nata (a := i) (j := 1) (by omega)]
  refine xk_Po.go 4 rfl ?_
  refine xk_Po.ok rfl rfl (xn_ixa (a := i) (j := 2) (by omega) (by omega)) ?_ -- 669 .iaload
  rw [show (Int32.ofNat i + Int32.ofInt 2).toNatClampNeg = i + 2 from xn_nata (a := i) (j := 2) (by omega)]
  refine xk_Po.br rfl rfl (fun hZ => absurd hZ (hb)) (fun _ => ?_) -- 670 .ifCond .eq 673
  refine xk_Po.go 2 rfl ?_
  refine xk_Po.ci3 rfl rfl (hm) ?_
  refine xk_Po.go 2 rfl ?_
  refine xk_Po.ci1 rfl rfl (l_thr) ?_
  refine xk_Po.go 1 rfl ?_
  refine xk_Po.br rfl rfl (fun _ => ?_) (fun hZ => absurd (rfl) hZ) -- 679 .if_icmp .eq 682
  refine xk_Po.go 1 rfl ?_
  refine xk_Po.br rfl rfl (fun h0 => ?_) (fun h0 => ?_)
  · refine xk_Po.go 4 rfl ?_
    refine xk_Po.br rfl rfl (fun h1 => ?_) (fun h1 => ?_)
    · refine xk_Po.go 2 rfl ?_
      refine xk_Po.br rfl rfl (fun _ => ?_) (fun hZ => absurd (show lg_cmp (ou2 0) 0 = 0 from by rw [hk h0, if_pos h1]; exact lg_same _) hZ)
      refine xk_Po.go 1 rfl ?_
      exact h
    · refine xk_Po.go 3 rfl ?_
      refine xk_Po.br rfl rfl (fun _ => ?_) (fun hZ => absurd (show lg_cmp (ou2 0) 1 = 0 from by rw [hk h0, if_neg h1]; exact lg_same _) hZ)
      refine xk_Po.go 1 rfl ?_
      exact h
  · refine xk_Po.go 1 rfl ?_
    exact h
set_option maxRecDepth 20000 in
theorem l_19 {sc : Nat × (Nat → Int32)} {i : Nat} (hi : i + 3 < sc.1) (hn : sc.1 < 2147483648) {y5 y6 : Value} {Φ : xk_R → Prop} {sl0 : Nat → Int32} {ex0 : Nat → Int32} {ab0 : Nat → Int32} {ta0 : Nat → Int32} {dr0 : Nat → Int32} {md0 : Int32} {ml0 : Int32} {mt0 : Int32} {mc0 : Int32} {on0 : Int32} {ct0 : Int32} {th0 : Int32} {pr0 : Nat → Int32} {sl20 : Nat → Int32} {ex20 : Nat → Int32} {ta20 : Nat → Int32} {nx0 : Nat → Int32} {on20 : Int32} {lf0 : Int32} {mo0 : Int32} {cv0 : Int32} {cg0 : Int32} {cT0 : Int32} {cp0 : Int32} {ou0 : Nat → Int64} {sl1 : Nat → Int32} {ex1 : Nat → Int32} {ab1 : Nat → Int32} {ta1 : Nat → Int32} {dr1 : Nat → Int32} {md1 : Int32} {ml1 : Int32} {mt1 : Int32} {mc1 : Int32} {on1 : Int32} {ct1 : Int32} {pr2 : Nat → Int32} {sl22 : Nat → Int32} {ex22 : Nat → Int32} {ta22 : Nat → Int32} {nx2 : Nat → Int32} {on22 : Int32} {lf2 : Int32} {mo2 : Int32} {cv2 : Int32} {cg2 : Int32} {cT2 : Int32} {cp2 : Int32} {ou2 : Nat → Int64} {k : Int32} {q : Nat} {ou1 : Nat → Int64} {b : Int32} (hk : k = 0 → ou2 0 = b.toInt64) (hc : xk_Ev (xp_P sc) 178 0 [.ref 0, .ref 16, .retAddr 0] [] (cw sl0 ex0 ab0 ta0 dr0 md0 ml0 mt0 mc0 on0 ct0 (mrr th0 pr0 sl20 ex20 ta20 nx0 on20 lf0 mo0 cv0 cg0 cT0 cp0 ou0)) (.inl (some (.int k)), q, cw sl1 ex1 ab1 ta1 dr1 md1 ml1 mt1 mc1 on1 ct1 (mrr th0 pr0 sl20 ex20 ta20 nx0 on20 lf0 mo0 cv0 cg0 cT0 cp0 ou1))) (hm : xk_Ev (xp_P sc) 159 0 [.ref 10, .retAddr 0, .retAddr 0, .retAddr 0, .retAddr 0] [] (cw sl1 ex1 ab1 ta1 dr1 md1 ml1 mt1 mc1 on1 ct1 (mrr th0 pr0 sl20 ex20 ta20 nx0 on20 lf0 mo0 cv0 cg0 cT0 cp0 ou1)) (.inl (some (.int b)), 0, cw sl1 ex1 ab1 ta1 dr1 md1 ml1 mt1 mc1 on1 ct1 (mrr k pr2 sl22 ex22 ta22 nx2 on22 lf2 mo2 cv2 cg2 cT2 cp2 ou2))) (h : xk_Po (xp_P sc) 180 784 [.ref 999, .ref 0, .ref 10, .ref 16, .int (Int32.ofNat i), .int k, .int b] [] (cw sl1 ex1 ab1 ta1 dr1 md1 ml1 mt1 mc1 on1 ct1 (mrr k pr2 sl22 ex22 ta22 nx2 on22 lf2 mo2 cv2 cg2 cT2 cp2 ou2)) (fun z => Φ (z.1, q + z.2.1, z.2.2))) : xk_Po (xp_P sc) 180 697 [.ref 999, .ref 0, .ref 10, .ref 16, .int (Int32.ofNat i), y5, y6] [] (cw sl0 ex0 ab0 ta0 dr0 md0 ml0 mt0 mc0 on0 ct0 (mrr th0 pr0 sl20 ex20 ta20 nx0 on20 lf0 mo0 cv0 cg0 cT0 cp0 ou0)) Φ := by
  refine xk_Po.go 2 rfl ?_
  refine xk_Po.cD rfl rfl (hc) ?_
  refine xk_Po.go 2 rfl ?_
  refine xk_Po.ci1 rfl rfl (hm) ?_
  refine xk_Po.go 2 rfl ?_
  refine xk_Po.ci1 rfl rfl (l_thr) ?_
  refine xk_Po.go 1 rfl ?_
  refine xk_Po.br rfl rfl (fun _ => ?_) (fun hZ => absurd (rfl) hZ) -- 707 .if_icmp .eq 710
  refine xk_Po.go 1 rfl ?_
  refine xk_Po.br rfl rfl (fun h0 => ?_) (fun h0 => ?_)
  · refine xk_Po.go 6 rfl ?_
    refine xk_Po.br rfl rfl (fun _ => ?_) (fun hZ => absurd (show lg_cmp (ou2 0) b.toInt64 = 0 from by rw [hk h0]; exact lg_same _) hZ) -- 718 .ifCond .eq 721
    refine xk_Po.go 1 rfl ?_
    exact h
  · refine xk_Po.go 1 rfl ?_
    exact h
set_option maxRecDepth 20000 in
theorem l_20 {sc : Nat × (Nat → Int32)} {i : Nat} (hi : i + 3 < sc.1) (hn : sc.1 < 2147483648) {y5 y6 : Value} {Φ : xk_R → Prop} {sl0 : Nat → Int32} {ex0 : Nat → Int32} {ab0 : Nat → Int32} {ta0 : Nat → Int32} {dr0 : Nat → Int32} {md0 : Int32} {ml0 : Int32} {mt0 : Int32} {mc0 : Int32} {on0 : Int32} {ct0 : Int32} {th0 : Int32} {pr0 : Nat → Int32} {sl20 : Nat → Int32} {ex20 : Nat → Int32} {ta20 : Nat → Int32} {nx0 : Nat → Int32} {on20 : Int32} {lf0 : Int32} {mo0 : Int32} {cv0 : Int32} {cg0 : Int32} {cT0 : Int32} {cp0 : Int32} {ou0 : Nat → Int64} {sl1 : Nat → Int32} {ex1 : Nat → Int32} {ab1 : Nat → Int32} {ta1 : Nat → Int32} {dr1 : Nat → Int32} {md1 : Int32} {ml1 : Int32} {mt1 : Int32} {mc1 : Int32} {on1 : Int32} {ct1 : Int32} {th2 : Int32} {pr2 : Nat → Int32} {sl22 : Nat → Int32} {ex22 : Nat → Int32} {ta22 : Nat → Int32} {nx2 : Nat → Int32} {on22 : Int32} {lf2 : Int32} {mo2 : Int32} {cv2 : Int32} {cg2 : Int32} {cT2 : Int32} {cp2 : Int32} {ou2 : Nat → Int64} {x : Int32} (hc : xk_Ev (xp_P sc) 60 0 [.ref 0] [] (cw sl0 ex0 ab0 ta0 dr0 md0 ml0 mt0 mc0 on0 ct0 (mrr th0 pr0 sl20 ex20 ta20 nx0 on20 lf0 mo0 cv0 cg0 cT0 cp0 ou0)) (.inl (some (.int x)), 0, cw sl1 ex1 ab1 ta1 dr1 md1 ml1 mt1 mc1 on1 ct1 (mrr th0 pr0 sl20 ex20 ta20 nx0 on20 lf0 mo0 cv0 cg0 cT0 cp0 ou0))) (hm : xk_Ev (xp_P sc) 154 0 [.ref 10] [] (cw sl1 ex1 ab1 ta1 dr1 md1 ml1 mt1 mc1 on1 ct1 (mrr th0 pr0 sl20 ex20 ta20 nx0 on20 lf0 mo0 cv0 cg0 cT0 cp0 ou0)) (.inl (some (.int x)), 0, cw sl1 ex1 ab1 ta1 dr1 md1 ml1 mt1 mc1 on1 ct1 (mrr th2 pr2 sl22 ex22 ta22 nx2 on22 lf2 mo2 cv2 cg2 cT2 cp2 ou2))) (h : xk_Po (xp_P sc) 180 784 [.ref 999, .ref 0, .ref 10, .ref 16, .int (Int32.ofNat i), y5, y6] [] (cw sl1 ex1 ab1 ta1 dr1 md1 ml1 mt1 mc1 on1 ct1 (mrr th2 pr2 sl22 ex22 ta22 nx2 on22 lf2 mo2 cv2 cg2 cT2 cp2 ou2)) Φ) : xk_Po (xp_P sc) 180 722 [.ref 999, .ref 0, .ref 10, .ref 16, .int (Int32.ofNat i), y5, y6] [] (cw sl0 ex0 ab0 ta0 dr0 md0 ml0 mt0 mc0 on0 ct0 (mrr th0 pr0 sl20 ex20 ta20 nx0 on20 lf0 mo0 cv0 cg0 cT0 cp0 ou0)) Φ := by
  refine xk_Po.go 1 rfl ?_
  refine xk_Po.ci1 rfl rfl (hc) ?_
  refine xk_Po.go 1 rfl ?_
  refine xk_Po.ci1 rfl rfl (hm) ?_
  refine xk_Po.br rfl rfl (fun _ => ?_) (fun hZ => absurd (rfl) hZ) -- 726 .if_icmp .eq 784
  exact h
set_option maxRecDepth 20000 in
theorem l_21 {sc : Nat × (Nat → Int32)} {i : Nat} (hi : i + 3 < sc.1) (hn : sc.1 < 2147483648) {y5 y6 : Value} {Φ : xk_R → Prop} {sl0 : Nat → Int32} {ex0 : Nat → Int32} {ab0 : Nat → Int32} {ta0 : Nat → Int32} {dr0 : Nat → Int32} {md0 : Int32} {ml0 : Int32} {mt0 : Int32} {mc0 : Int32} {on0 : Int32} {ct0 : Int32} {th0 : Int32} {pr0 : Nat → Int32} {sl20 : Nat → Int32} {ex20 : Nat → Int32} {ta20 : Nat → Int32} {nx0 : Nat → Int32} {on20 : Int32} {lf0 : Int32} {mo0 : Int32} {cv0 : Int32} {cg0 : Int32} {cT0 : Int32} {cp0 : Int32} {ou0 : Nat → Int64} {sl1 : Nat → Int32} {ex1 : Nat → Int32} {ab1 : Nat → Int32} {ta1 : Nat → Int32} {dr1 : Nat → Int32} {md1 : Int32} {ml1 : Int32} {mt1 : Int32} {mc1 : Int32} {on1 : Int32} {ct1 : Int32} {pr2 : Nat → Int32} {sl22 : Nat → Int32} {ex22 : Nat → Int32} {ta22 : Nat → Int32} {nx2 : Nat → Int32} {on22 : Int32} {lf2 : Int32} {mo2 : Int32} {cv2 : Int32} {cg2 : Int32} {cT2 : Int32} {cp2 : Int32} {ou2 : Nat → Int64} {k : Int32} {q : Nat} {ou1 : Nat → Int64} {b : Int32} (hk : k = 0 → ou2 0 = b.toInt64) (hc : xk_Ev (xp_P sc) 179 0 [.ref 0, .int (sc.2 (i + 1)), .int (sc.2 (i + 2)), .int (sc.2 (i + 3)), .ref 16, .retAddr 0] [] (cw sl0 ex0 ab0 ta0 dr0 md0 ml0 mt0 mc0 on0 ct0 (mrr th0 pr0 sl20 ex20 ta20 nx0 on20 lf0 mo0 cv0 cg0 cT0 cp0 ou0)) (.inl (some (.int k)), q, cw sl1 ex1 ab1 ta1 dr1 md1 ml1 mt1 mc1 on1 ct1 (mrr th0 pr0 sl20 ex20 ta20 nx0 on20 lf0 mo0 cv0 cg0 cT0 cp0 ou1))) (hm : xk_Ev (xp_P sc) 155 0 [.ref 10, .int (sc.2 (i + 1)), .int (sc.2 (i + 2)), .int (sc.2 (i + 3)), .retAddr 0] [] (cw sl1 ex1 ab1 ta1 dr1 md1 ml1 mt1 mc1 on1 ct1 (mrr th0 pr0 sl20 ex20 ta20 nx0 on20 lf0 mo0 cv0 cg0 cT0 cp0 ou1)) (.inl (some (.int b)), 0, cw sl1 ex1 ab1 ta1 dr1 md1 ml1 mt1 mc1 on1 ct1 (mrr k pr2 sl22 ex22 ta22 nx2 on22 lf2 mo2 cv2 cg2 cT2 cp2 ou2))) (h : xk_Po (xp_P sc) 180 784 [.ref 999, .ref 0, .ref 10, .ref 16, .int (Int32.ofNat i), .int k, .int b] [] (cw sl1 ex1 ab1 ta1 dr1 md1 ml1 mt1 mc1 on1 ct1 (mrr k pr2 sl22 ex22 ta22 nx2 on22 lf2 mo2 cv2 cg2 cT2 cp2 ou2)) (fun z => Φ (z.1, q + z.2.1, z.2.2))) : xk_Po (xp_P sc) 180 729 [.ref 999, .ref 0, .ref 10, .ref 16, .int (Int32.ofNat i), y5, y6] [] (cw sl0 ex0 ab0 ta0 dr0 md0 ml0 mt0 mc0 on0 ct0 (mrr th0 pr0 sl20 ex20 ta20 nx0 on20 lf0 mo0 cv0 cg0 cT0 cp0 ou0)) Φ := by
  refine xk_Po.go 5 rfl ?_
  refine xk_Po.ok rfl rfl (xn_ixa (a := i) (j := 1) (by omega) (by omega)) ?_ -- 734 .iaload
  rw [show (Int32.ofNat i + Int32.ofInt 1).toNatClampNeg = i + 1 from xn_nata (a := i) (j := 1) (by omega)]
  refine xk_Po.go 4 rfl ?_
  refine xk_Po.ok rfl rfl (xn_ixa (a := i) (j := 2) (by omega) (by omega)) ?_ -- 739 .iaload
  rw [show (Int32.ofNat i + Int32.ofInt 2).toNatClampNeg = i + 2 from xn_nata (a := i) (j := 2) (by omega)]
  refine xk_Po.go 4 rfl ?_
  refine xk_Po.ok rfl rfl (xn_ixa (a := i) (j := 3) (by omega) (by omega)) ?_ -- 744 .iaload
  rw [show (Int32.ofNat i + Int32.ofInt 3).toNatClampNeg = i + 3 from xn_nata (a := i) (j := 3) (by omega)]
  refine xk_Po.go 1 rfl ?_
  refine xk_Po.cD rfl rfl (hc) ?_
  refine xk_Po.go 6 rfl ?_
  refine xk_Po.ok rfl rfl (xn_ixa (a := i) (j := 1) (by omega) (by omega)) ?_ -- 753 .iaload
  rw [show (Int32.ofNat i + Int32.ofInt 1).toNatClampNeg = i + 1 from xn_nata (a := i) (j := 1) (by omega)]
  refine xk_Po.go 4 rfl ?_
  refine xk_Po.ok rfl rfl (xn_ixa (a := i) (j := 2) (by omega) (by omega)) ?_ -- 758 .iaload
  rw [show (Int32.ofNat i + Int32.ofInt 2).toNatClampNeg = i + 2 from xn_nata (a := i) (j := 2) (by omega)]
  refine xk_Po.go 4 rfl ?_
  refine xk_Po.ok rfl rfl (xn_ixa (a := i) (j := 3) (by omega) (by omega)) ?_ -- 763 .iaload
  rw [show (Int32.ofNat i + Int32.ofInt 3).toNatClampNeg = i + 3 from xn_nata (a := i) (j := 3) (by omega)]
  refine xk_Po.ci4 rfl rfl (hm) ?_
  refine xk_Po.go 2 rfl ?_
  refine xk_Po.ci1 rfl rfl (l_thr) ?_
  refine xk_Po.go 1 rfl ?_
  refine xk_Po.br rfl rfl (fun _ => ?_) (fun hZ => absurd (rfl) hZ) -- 769 .if_icmp .eq 772
  refine xk_Po.go 1 rfl ?_
  refine xk_Po.br rfl rfl (fun h0 => ?_) (fun h0 => ?_)
  · refine xk_Po.go 6 rfl ?_
    refine xk_Po.br rfl rfl (fun _ => ?_) (fun hZ => absurd (show lg_cmp (ou2 0) b.toInt64 = 0 from by rw [hk h0]; exact lg_same _) hZ) -- 780 .ifCond .eq 783
    refine xk_Po.go 1 rfl ?_
    exact h
  · refine xk_Po.go 1 rfl ?_
    exact h
end XkLaw
