/-! The newest table is loaded; a move's next word. -/
section XkMov
variable {sc : Nat × (Nat → Int32)} {sl ex ab ta dr : Nat → Int32} {md ml mt mc on ct : Int32} {r w : xk_W}
theorem xn_ne1 {j : Nat} (h : j < 2147483648) : ¬ Int32.ofNat j = Int32.ofInt (-1) := fun q => by
  have e := congrArg Int32.toInt q
  rw [xn_int h] at e
  have : (Int32.ofInt (-1)).toInt = -1 := by decide
  omega
theorem s_nwI_d (sl ab : Nat → Int32) (d : Nat) (hd : d < 4) : ∀ (n : Nat) (a : Int32 × Int32), n ≤ 2 → (a.1 = Int32.ofInt (-1) ∨ ∃ b, b + 51 ≤ 408 ∧ a.1 = Int32.ofNat b) → ((s_nwI sl ab d n a).1 = Int32.ofInt (-1) ∨ ∃ b, b + 51 ≤ 408 ∧ (s_nwI sl ab d n a).1 = Int32.ofNat b)
  | 0, _, _, h => h
  | n + 1, a, hn, h => by
    have ih := s_nwI_d sl ab d hd n a (by omega) h
    unfold s_nwI
    split
    · split
      · exact ih
      · exact .inr ⟨s_start d n, by unfold s_start; omega, rfl⟩
    · exact ih
theorem s_nwO_d (sl ab : Nat → Int32) : ∀ n, n ≤ 4 → ((s_nwO sl ab n).1 = Int32.ofInt (-1) ∨ ∃ b, b + 51 ≤ 408 ∧ (s_nwO sl ab n).1 = Int32.ofNat b)
  | 0, _ => .inl rfl
  | n + 1, h => s_nwI_d sl ab n (by omega) 2 _ (by omega) (s_nwO_d sl ab n (by omega))
theorem s_div : ∀ j, j < 40 → Int32.ofNat j / Int32.ofInt 10 = Int32.ofNat (j / 10) ∧ Int32.ofNat j % Int32.ofInt 10 / Int32.ofInt 2 = Int32.ofNat (j % 10 / 2) ∧ Int32.ofNat j % Int32.ofInt 2 = Int32.ofNat (j % 2) := by decide
theorem c_load1 (hb : ∀ i, ab i = 0 ∨ ab i = 1) (h : (s_nwO sl ab 4).1 = Int32.ofInt (-1)) : xk_Ev (xp_P sc) 105 0 [.ref 0, .retAddr 0] [] (cw sl ex ab ta dr md ml mt mc on ct r) (.inl none, 0, cw sl ex ab (s_clr ta (fun _ => True) 0 51) dr md ml mt mc on ct r) := by
  apply xk_Ev.of
  refine xk_Po.go 2 rfl ?_
  refine xk_Po.ci1 rfl rfl (c_newestWholeSlot hb) ?_
  refine xk_Po.go 3 rfl ?_
  refine xk_Po.br rfl rfl (fun h0 => ?_) (fun h0 => ?_) -- 6 .if_icmp .ne 11
  · refine xk_Po.go 2 rfl ?_
    refine xk_Po.cv1 rfl rfl (c_clear0) ?_
    refine xk_Po.go 1 rfl ?_
    exact xk_Po.ret rfl rfl
  · exact absurd h h0
theorem c_load2 {a : Nat} (ha : a + 51 ≤ 408) (hb : ∀ i, ab i = 0 ∨ ab i = 1) (hN : (s_nwO sl ab 4).1 = Int32.ofNat a) : xk_Ev (xp_P sc) 105 0 [.ref 0, .retAddr 0] [] (cw sl ex ab ta dr md ml mt mc on ct r) (.inl none, 0, cw sl ex ab (va_cpy sl ta a 0 51) dr md ml mt mc on ct r) := by
  apply xk_Ev.of
  refine xk_Po.go 2 rfl ?_
  refine xk_Po.ci1 rfl rfl (by have h := c_newestWholeSlot (sc := sc) (sl := sl) (ex := ex) (ab := ab) (ta := ta) (dr := dr) (md := md) (ml := ml) (mt := mt) (mc := mc) (on := on) (ct := ct) (r := r) hb; rw [hN] at h; exact h) ?_
  refine xk_Po.go 3 rfl ?_
  refine xk_Po.br rfl rfl (fun h0 => ?_) (fun h0 => ?_) -- 6 .if_icmp .ne 11
  · exact absurd h0 (xn_ne1 (by omega))
  · refine xk_Po.go 6 rfl ?_
    refine xk_Po.cv3 rfl rfl (c_takeS ha) ?_
    exact xk_Po.ret rfl rfl
theorem c_findRoomToMove {j c : Nat} (hj : j < 40) (h1 : 1 ≤ c) (hc : c < 4) (hu : j % 10 / 2 - (j % 10 / 2) % c + c ≤ 5) (hw : s_col (ta (5 + j / 10)) = Int32.ofNat c) (hb : ∀ i, ab i = 0 ∨ ab i = 1) (hE : ∀ d, d < 4 → ∃ n, n ≤ 8 ∧ ta (1 + d) = Int32.ofNat n) (ht : ∀ i, 51 ≤ i → ta i = 0) (hd : ∀ i, 51 ≤ i → dr i = 0) : xk_Ev (xp_P sc) 103 0 [.ref 0, .int (Int32.ofNat j), .retAddr 0, .retAddr 0] [] (cw sl ex ab ta dr md ml mt mc on ct r) (.inl (some (.int (s_room ta ab mt (1 <<< (md &&& 31) ||| s_gO ta ml mt (j / 10) (j % 10 / 2) (j % 2) (j % 10 / 2 - (j % 10 / 2) % c) c)))), 0, cw sl ex ab ta (ta) md ml mt mc on ct r) := by
  apply xk_Ev.of
  refine xk_Po.go 1 rfl ?_
  refine xk_Po.cv1 rfl rfl (c_beginDraft ht hd) ?_
  refine xk_Po.go 21 rfl ?_
  rw [(s_div j hj).1, (s_div j hj).2.1, (s_div j hj).2.2]
  refine xk_Po.ci5 rfl rfl (c_findRoom (by omega) (by omega) (by omega) h1 hc hu hw hb hE) ?_
  exact xk_Po.iret rfl rfl
theorem c_copyNext1 {s : s_S} {j x y k : Nat} (hj : j < 40) (hx : x < 32) (hy : y < 32) (hk : k < 4) (hw : ta (9 + j) - 1 = Int32.ofNat y) (h : k + 1 < 4) : xk_Ev (xp_P sc) 104 0 [.ref 0, .retAddr 0] [] (cs (s) ab ta dr md (Int32.ofNat j) (Int32.ofNat x) (Int32.ofNat k) on r) (s_out (m_cp (x * 4 + k) (y * 4 + k) s) (fun s => cs (s) ab ta dr md (Int32.ofNat j) (Int32.ofNat x) (Int32.ofNat (k + 1)) on r) (fun s => cl (s) ab ta dr (Int32.ofNat k) r)) := by
  apply xk_Ev.of
  refine xk_Po.go 5 rfl ?_
  refine xk_Po.ci2 rfl rfl (by have h := c_spotOfN (sc := sc) (sl := (s).1) (ex := (s).2.1) (ab := ab) (ta := ta) (dr := dr) (md := md) (ml := Int32.ofNat j) (mt := Int32.ofNat x) (mc := Int32.ofNat k) (on := on) (ct := (s).2.2) (r := r) hj; rw [hw] at h; exact h) ?_
  refine xk_Po.go 14 rfl ?_
  refine xk_Po.ci3 rfl rfl (c_extentWord hy hk) ?_
  refine xk_Po.cm4 rfl rfl (c_putWord hx hk) rfl (fun q0 => s_bad (W := fun s => cs (s) ab ta dr md (Int32.ofNat j) (Int32.ofNat x) (Int32.ofNat (k + 1)) on r) (V := fun s => cl (s) ab ta dr (Int32.ofNat k) r) (u := m_cp (x * 4 + k) (y * 4 + k) s) (rfl) q0) (fun q0 => ?_)
  rw [← xn_suc k]
  refine xk_Po.go 11 rfl ?_
  refine xk_Po.br rfl rfl (fun h0 => ?_) (fun h0 => ?_) -- 33 .if_icmp .ne 50
  · exact absurd (congrArg Int32.toNatClampNeg h0) (by rw [xn_suc, xn_nat (by omega)]; show ¬ k + 1 = 4; omega)
  · exact xk_Po.ret rfl (s_good (W := fun s => cs (s) ab ta dr md (Int32.ofNat j) (Int32.ofNat x) (Int32.ofNat k + Int32.ofInt 1) on r) (V := fun s => cl (s) ab ta dr (Int32.ofNat k) r) (s := (m_cp (x * 4 + k) (y * 4 + k) s).2) (m_true q0))
end XkMov
