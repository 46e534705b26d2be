/-! look. -/
section XkLoo
variable {sc : Nat × (Nat → Int32)} {sl ex ab ta dr : Nat → Int32} {md ml mt mc on ct : Int32} {r w : xk_W}
theorem c_extentWordL0 {x k : Nat} (h : x * 4 + k < 128) : xk_Ev (xp_P sc) 9 0 [.ref 1, .int (Int32.ofNat x), .int (Int32.ofNat k)] [] (cw sl ex ab ta dr md ml mt mc on ct r) (.inl (some (.int (ex (Int32.ofNat x * Int32.ofInt 4 + Int32.ofNat k).toNatClampNeg))), 0, cw sl ex ab ta dr md ml mt mc on ct r) := by
  apply xk_Ev.of
  refine xk_Po.go 7 rfl ?_
  refine xk_Po.ok rfl rfl (by rw [s_ext_eq]; exact xn_ix h (by omega)) ?_ -- .iaload
  exact xk_Po.iret rfl rfl
theorem c_extentWordL {x k : Nat} (h : x * 4 + k < 128) : xk_Ev (xp_P sc) 9 0 [.ref 1, .int (Int32.ofNat x), .int (Int32.ofNat k)] [] (cw sl ex ab ta dr md ml mt mc on ct r) (.inl (some (.int (ex (x * 4 + k)))), 0, cw sl ex ab ta dr md ml mt mc on ct r) := by
  have q := c_extentWordL0 (sc := sc) (sl := sl) (ex := ex) (ab := ab) (ta := ta) (dr := dr) (md := md) (ml := ml) (mt := mt) (mc := mc) (on := on) (ct := ct) (r := r) h
  rw [s_ext_eq, xn_nat (j := x * 4 + k) (by omega)] at q
  exact q
theorem c_look_slot {j s i : Nat} (hj : j < 4) (hs : s < 2) (hi : i < 51) : xk_Ev (xp_P sc) 61 0 [.ref 0, .int (Int32.ofNat j), .int (Int32.ofNat s), .int (Int32.ofNat i), .retAddr 0, .retAddr 0] [] (cw sl ex ab ta dr md ml mt mc on ct r) (.inl (some (.int (sl (s_start j s + i)))), 0, cw sl ex ab ta dr md ml mt mc on ct r) := by
  apply xk_Ev.of
  refine xk_Po.go 1 rfl ?_
  refine xk_Po.br rfl rfl (fun h0 => ?_) (fun h0 => ?_) -- 1 .ifCond .lt 12
  · first | exact absurd h0 (xn_nneg (by omega)) | exact absurd ((xn_le (a := 2) (by omega) (by omega)).1 h1) (by omega) | exact absurd h2 (xn_nneg (by omega)) | exact absurd ((xn_le (a := 51) (by omega) (by omega)).1 h3) (by omega)
  · refine xk_Po.go 2 rfl ?_
    refine xk_Po.br rfl rfl (fun h1 => ?_) (fun h1 => ?_) -- 4 .if_icmp .ge 12
    · first | exact absurd h0 (xn_nneg (by omega)) | exact absurd ((xn_le (a := 2) (by omega) (by omega)).1 h1) (by omega) | exact absurd h2 (xn_nneg (by omega)) | exact absurd ((xn_le (a := 51) (by omega) (by omega)).1 h3) (by omega)
    · refine xk_Po.go 1 rfl ?_
      refine xk_Po.br rfl rfl (fun h2 => ?_) (fun h2 => ?_) -- 6 .ifCond .lt 12
      · first | exact absurd h0 (xn_nneg (by omega)) | exact absurd ((xn_le (a := 2) (by omega) (by omega)).1 h1) (by omega) | exact absurd h2 (xn_nneg (by omega)) | exact absurd ((xn_le (a := 51) (by omega) (by omega)).1 h3) (by omega)
      · refine xk_Po.go 2 rfl ?_
        refine xk_Po.br rfl rfl (fun h3 => ?_) (fun h3 => ?_) -- 9 .if_icmp .ge 12
        · first | exact absurd h0 (xn_nneg (by omega)) | exact absurd ((xn_le (a := 2) (by omega) (by omega)).1 h1) (by omega) | exact absurd h2 (xn_nneg (by omega)) | exact absurd ((xn_le (a := 51) (by omega) (by omega)).1 h3) (by omega)
        · refine xk_Po.go 5 rfl ?_
          refine xk_Po.br rfl rfl (fun h4 => ?_) (fun h4 => ?_) -- 16 .if_icmp .ne 24
          · exact absurd (congrArg Int32.toNatClampNeg h4) (by rw [xn_nat (by omega)]; show ¬ s = 2; omega)
          · refine xk_Po.go 3 rfl ?_
            refine xk_Po.ci1 rfl rfl (c_isDisk) ?_
            refine xk_Po.br rfl rfl (fun h5 => ?_) (fun h5 => ?_) -- 28 .ifCond .eq 33
            · exact xk_Po.thr rfl (absurd (dk hj) (xn_b0 h5))
            · refine xk_Po.go 9 rfl ?_
              refine xk_Po.ci4 rfl rfl (c_slotWord hj hs hi) ?_
              refine xk_Po.go 1 rfl ?_
              exact xk_Po.iret rfl rfl
theorem c_look_ext {j i : Nat} (hj : j < 4) (hi : i < 32) : xk_Ev (xp_P sc) 61 0 [.ref 0, .int (Int32.ofNat j), .int 2, .int (Int32.ofNat i), .retAddr 0, .retAddr 0] [] (cw sl ex ab ta dr md ml mt mc on ct r) (.inl (some (.int (ex (j * 8 * 4 + i)))), 0, cw sl ex ab ta dr md ml mt mc on ct r) := by
  apply xk_Ev.of
  refine xk_Po.go 11 rfl ?_
  refine xk_Po.br rfl rfl (fun h0 => ?_) (fun h0 => ?_) -- 18 .ifCond .lt 24
  · first | exact absurd h0 (xn_nneg (by omega)) | exact absurd ((xn_le (a := 32) (by omega) (by omega)).1 h1) (by omega)
  · refine xk_Po.go 2 rfl ?_
    refine xk_Po.br rfl rfl (fun h1 => ?_) (fun h1 => ?_) -- 21 .if_icmp .ge 24
    · first | exact absurd h0 (xn_nneg (by omega)) | exact absurd ((xn_le (a := 32) (by omega) (by omega)).1 h1) (by omega)
    · refine xk_Po.go 4 rfl ?_
      refine xk_Po.ci1 rfl rfl (c_isDisk) ?_
      refine xk_Po.br rfl rfl (fun h2 => ?_) (fun h2 => ?_) -- 28 .ifCond .eq 33
      · exact xk_Po.thr rfl (absurd (dk hj) (xn_b0 h2))
      · refine xk_Po.go 12 rfl ?_
        rw [show Int32.ofNat j * Int32.ofInt 8 = Int32.ofNat (j * 8) from xn_mul j 8]
        refine xk_Po.ci3 rfl rfl (c_extentWordL (by omega)) ?_
        exact xk_Po.iret rfl rfl
theorem c_look_out {g s i : Int32} (h : ¬ ((¬ g < 0 ∧ ¬ Int32.ofInt 4 ≤ g) ∧ ((¬ s < 0 ∧ ¬ Int32.ofInt 2 ≤ s ∧ ¬ i < 0 ∧ ¬ Int32.ofInt 51 ≤ i) ∨ (s = Int32.ofInt 2 ∧ ¬ i < 0 ∧ ¬ Int32.ofInt 32 ≤ i)))) : xk_Ev (xp_P sc) 61 0 [.ref 0, .int g, .int s, .int i, .retAddr 0, .retAddr 0] [] (cw sl ex ab ta dr md ml mt mc on ct r) (.inr 4, 1, cw sl ex ab ta dr md ml mt mc on ct r) := by
  apply xk_Ev.of
  refine xk_Po.go 1 rfl ?_
  refine xk_Po.br rfl rfl (fun h0 => ?_) (fun h0 => ?_) -- 1 .ifCond .lt 12
  · refine xk_Po.go 4 rfl ?_
    refine xk_Po.br rfl rfl (fun h1 => ?_) (fun h1 => ?_) -- 16 .if_icmp .ne 24
    · refine xk_Po.go 1 rfl ?_
      refine xk_Po.br rfl rfl (fun h2 => ?_) (fun h2 => ?_) -- 18 .ifCond .lt 24
      · refine xk_Po.go 3 rfl ?_
        refine xk_Po.ci1 rfl rfl (c_isDisk) ?_
        refine xk_Po.br rfl rfl (fun h3 => ?_) (fun h3 => ?_) -- 28 .ifCond .eq 33
        · exact xk_Po.thr rfl rfl
        · refine xk_Po.go 4 rfl ?_
          exact xk_Po.thr rfl rfl
      · refine xk_Po.go 2 rfl ?_
        refine xk_Po.br rfl rfl (fun h3 => ?_) (fun h3 => ?_) -- 21 .if_icmp .ge 24
        · refine xk_Po.go 3 rfl ?_
          refine xk_Po.ci1 rfl rfl (c_isDisk) ?_
          refine xk_Po.br rfl rfl (fun h4 => ?_) (fun h4 => ?_) -- 28 .ifCond .eq 33
          · exact xk_Po.thr rfl rfl
          · refine xk_Po.go 4 rfl ?_
            exact xk_Po.thr rfl rfl
        · refine xk_Po.go 4 rfl ?_
          refine xk_Po.ci1 rfl rfl (c_isDisk) ?_
          refine xk_Po.br rfl rfl (fun h4 => ?_) (fun h4 => ?_) -- 28 .ifCond .eq 33
          · exact xk_Po.thr rfl rfl
          · refine xk_Po.go 6 rfl ?_
            exact absurd ⟨xn_b1 (by assumption), .inr ⟨by assumption, by assumption, by assumption⟩⟩ h
    · refine xk_Po.go 3 rfl ?_
      refine xk_Po.ci1 rfl rfl (c_isDisk) ?_
      refine xk_Po.br rfl rfl (fun h2 => ?_) (fun h2 => ?_) -- 28 .ifCond .eq 33
      · exact xk_Po.thr rfl rfl
      · refine xk_Po.go 4 rfl ?_
        exact xk_Po.thr rfl rfl
  · refine xk_Po.go 2 rfl ?_
    refine xk_Po.br rfl rfl (fun h1 => ?_) (fun h1 => ?_) -- 4 .if_icmp .ge 12
    · refine xk_Po.go 4 rfl ?_
      refine xk_Po.br rfl rfl (fun h2 => ?_) (fun h2 => ?_) -- 16 .if_icmp .ne 24
      · refine xk_Po.go 1 rfl ?_
        refine xk_Po.br rfl rfl (fun h3 => ?_) (fun h3 => ?_) -- 18 .ifCond .lt 24
        · refine xk_Po.go 3 rfl ?_
          refine xk_Po.ci1 rfl rfl (c_isDisk) ?_
          refine xk_Po.br rfl rfl (fun h4 => ?_) (fun h4 => ?_) -- 28 .ifCond .eq 33
          · exact xk_Po.thr rfl rfl
          · refine xk_Po.go 4 rfl ?_
            exact xk_Po.thr rfl rfl
        · refine xk_Po.go 2 rfl ?_
          refine xk_Po.br rfl rfl (fun h4 => ?_) (fun h4 => ?_) -- 21 .if_icmp .ge 24
          · refine xk_Po.go 3 rfl ?_
            refine xk_Po.ci1 rfl rfl (c_isDisk) ?_
            refine xk_Po.br rfl rfl (fun h5 => ?_) (fun h5 => ?_) -- 28 .ifCond .eq 33
            · exact xk_Po.thr rfl rfl
            · refine xk_Po.go 4 rfl ?_
              exact xk_Po.thr rfl rfl
          · refine xk_Po.go 4 rfl ?_
            refine xk_Po.ci1 rfl rfl (c_isDisk) ?_
            refine xk_Po.br rfl rfl (fun h5 => ?_) (fun h5 => ?_) -- 28 .ifCond .eq 33
            · exact xk_Po.thr rfl rfl
            · refine xk_Po.go 6 rfl ?_
              exact absurd ⟨xn_b1 (by assumption), .inr ⟨by assumption, by assumption, by assumption⟩⟩ h
      · refine xk_Po.go 3 rfl ?_
        refine xk_Po.ci1 rfl rfl (c_isDisk) ?_
        refine xk_Po.br rfl rfl (fun h3 => ?_) (fun h3 => ?_) -- 28 .ifCond .eq 33
        · exact xk_Po.thr rfl rfl
        · refine xk_Po.go 4 rfl ?_
          exact xk_Po.thr rfl rfl
    · refine xk_Po.go 1 rfl ?_
      refine xk_Po.br rfl rfl (fun h2 => ?_) (fun h2 => ?_) -- 6 .ifCond .lt 12
      · refine xk_Po.go 4 rfl ?_
        refine xk_Po.br rfl rfl (fun h3 => ?_) (fun h3 => ?_) -- 16 .if_icmp .ne 24
        · refine xk_Po.go 1 rfl ?_
          refine xk_Po.br rfl rfl (fun h4 => ?_) (fun h4 => ?_) -- 18 .ifCond .lt 24
          · refine xk_Po.go 3 rfl ?_
            refine xk_Po.ci1 rfl rfl (c_isDisk) ?_
            refine xk_Po.br rfl rfl (fun h5 => ?_) (fun h5 => ?_) -- 28 .ifCond .eq 33
            · exact xk_Po.thr rfl rfl
            · refine xk_Po.go 4 rfl ?_
              exact xk_Po.thr rfl rfl
          · refine xk_Po.go 2 rfl ?_
            refine xk_Po.br rfl rfl (fun h5 => ?_) (fun h5 => ?_) -- 21 .if_icmp .ge 24
            · refine xk_Po.go 3 rfl ?_
              refine xk_Po.ci1 rfl rfl (c_isDisk) ?_
              refine xk_Po.br rfl rfl (fun h6 => ?_) (fun h6 => ?_) -- 28 .ifCond .eq 33
              · exact xk_Po.thr rfl rfl
              · refine xk_Po.go 4 rfl ?_
                exact xk_Po.thr rfl rfl
            · refine xk_Po.go 4 rfl ?_
              refine xk_Po.ci1 rfl rfl (c_isDisk) ?_
              refine xk_Po.br rfl rfl (fun h6 => ?_) (fun h6 => ?_) -- 28 .ifCond .eq 33
              · exact xk_Po.thr rfl rfl
              · refine xk_Po.go 6 rfl ?_
                exact absurd ⟨xn_b1 (by assumption), .inr ⟨by assumption, by assumption, by assumption⟩⟩ h
        · refine xk_Po.go 3 rfl ?_
          refine xk_Po.ci1 rfl rfl (c_isDisk) ?_
          refine xk_Po.br rfl rfl (fun h4 => ?_) (fun h4 => ?_) -- 28 .ifCond .eq 33
          · exact xk_Po.thr rfl rfl
          · refine xk_Po.go 4 rfl ?_
            exact xk_Po.thr rfl rfl
      · refine xk_Po.go 2 rfl ?_
        refine xk_Po.br rfl rfl (fun h3 => ?_) (fun h3 => ?_) -- 9 .if_icmp .ge 12
        · refine xk_Po.go 4 rfl ?_
          refine xk_Po.br rfl rfl (fun h4 => ?_) (fun h4 => ?_) -- 16 .if_icmp .ne 24
          · refine xk_Po.go 1 rfl ?_
            refine xk_Po.br rfl rfl (fun h5 => ?_) (fun h5 => ?_) -- 18 .ifCond .lt 24
            · refine xk_Po.go 3 rfl ?_
              refine xk_Po.ci1 rfl rfl (c_isDisk) ?_
              refine xk_Po.br rfl rfl (fun h6 => ?_) (fun h6 => ?_) -- 28 .ifCond .eq 33
              · exact xk_Po.thr rfl rfl
              · refine xk_Po.go 4 rfl ?_
                exact xk_Po.thr rfl rfl
            · refine xk_Po.go 2 rfl ?_
              refine xk_Po.br rfl rfl (fun h6 => ?_) (fun h6 => ?_) -- 21 .if_icmp .ge 24
              · refine xk_Po.go 3 rfl ?_
                refine xk_Po.ci1 rfl rfl (c_isDisk) ?_
                refine xk_Po.br rfl rfl (fun h7 => ?_) (fun h7 => ?_) -- 28 .ifCond .eq 33
                · exact xk_Po.thr rfl rfl
                · refine xk_Po.go 4 rfl ?_
                  exact xk_Po.thr rfl rfl
              · refine xk_Po.go 4 rfl ?_
                refine xk_Po.ci1 rfl rfl (c_isDisk) ?_
                refine xk_Po.br rfl rfl (fun h7 => ?_) (fun h7 => ?_) -- 28 .ifCond .eq 33
                · exact xk_Po.thr rfl rfl
                · refine xk_Po.go 6 rfl ?_
                  exact absurd ⟨xn_b1 (by assumption), .inr ⟨by assumption, by assumption, by assumption⟩⟩ h
          · refine xk_Po.go 3 rfl ?_
            refine xk_Po.ci1 rfl rfl (c_isDisk) ?_
            refine xk_Po.br rfl rfl (fun h5 => ?_) (fun h5 => ?_) -- 28 .ifCond .eq 33
            · exact xk_Po.thr rfl rfl
            · refine xk_Po.go 4 rfl ?_
              exact xk_Po.thr rfl rfl
        · refine xk_Po.go 5 rfl ?_
          refine xk_Po.br rfl rfl (fun h4 => ?_) (fun h4 => ?_) -- 16 .if_icmp .ne 24
          · refine xk_Po.go 1 rfl ?_
            refine xk_Po.br rfl rfl (fun h5 => ?_) (fun h5 => ?_) -- 18 .ifCond .lt 24
            · refine xk_Po.go 3 rfl ?_
              refine xk_Po.ci1 rfl rfl (c_isDisk) ?_
              refine xk_Po.br rfl rfl (fun h6 => ?_) (fun h6 => ?_) -- 28 .ifCond .eq 33
              · exact xk_Po.thr rfl rfl
              · refine xk_Po.go 4 rfl ?_
                exact absurd ⟨xn_b1 (by assumption), .inl ⟨by assumption, by assumption, by assumption, by assumption⟩⟩ h
            · refine xk_Po.go 2 rfl ?_
              refine xk_Po.br rfl rfl (fun h6 => ?_) (fun h6 => ?_) -- 21 .if_icmp .ge 24
              · refine xk_Po.go 3 rfl ?_
                refine xk_Po.ci1 rfl rfl (c_isDisk) ?_
                refine xk_Po.br rfl rfl (fun h7 => ?_) (fun h7 => ?_) -- 28 .ifCond .eq 33
                · exact xk_Po.thr rfl rfl
                · refine xk_Po.go 4 rfl ?_
                  exact absurd ⟨xn_b1 (by assumption), .inl ⟨by assumption, by assumption, by assumption, by assumption⟩⟩ h
              · refine xk_Po.go 4 rfl ?_
                refine xk_Po.ci1 rfl rfl (c_isDisk) ?_
                refine xk_Po.br rfl rfl (fun h7 => ?_) (fun h7 => ?_) -- 28 .ifCond .eq 33
                · exact xk_Po.thr rfl rfl
                · refine xk_Po.go 4 rfl ?_
                  exact absurd ⟨xn_b1 (by assumption), .inl ⟨by assumption, by assumption, by assumption, by assumption⟩⟩ h
          · refine xk_Po.go 3 rfl ?_
            refine xk_Po.ci1 rfl rfl (c_isDisk) ?_
            refine xk_Po.br rfl rfl (fun h5 => ?_) (fun h5 => ?_) -- 28 .ifCond .eq 33
            · exact xk_Po.thr rfl rfl
            · refine xk_Po.go 4 rfl ?_
              exact absurd ⟨xn_b1 (by assumption), .inl ⟨by assumption, by assumption, by assumption, by assumption⟩⟩ h
end XkLoo
