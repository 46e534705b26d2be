section XkKpu
variable {sc : Nat × (Nat → Int32)} {sl ex ab ta dr : Nat → Int32} {md ml mt mc on ct : Int32} {r w : xk_W}
theorem s_least_eq {p q : Nat → Prop} [DecidablePred p] [DecidablePred q] : ∀ m j, (∀ i, j ≤ i → i < j + m → (p i ↔ q i)) → s_least p m j = if n_ls q m j < j + m then Int32.ofNat (n_ls q m j) else -1
  | 0, j, _ => (if_neg (by show ¬ j < j + 0; omega)).symm
  | m + 1, j, h => by
    have ih := s_least_eq m (j + 1) (fun i h1 h2 => h i (by omega) (by omega))
    have hj := h j (by omega) (by omega)
    unfold s_least
    by_cases hp : p j
    · rw [if_pos hp, show n_ls q (m + 1) j = j from if_pos (hj.1 hp), if_pos (by omega)]
    · rw [if_neg hp, ih, show n_ls q (m + 1) j = n_ls q m (j + 1) from if_neg (fun r => hp (hj.2 r)), show j + 1 + m = j + (m + 1) by omega]
theorem k_lu {f : Nat → Nat} (T : s_Tv ta f) : xk_Ev (xp_P sc) 27 0 [.ref 5, .retAddr 0] [] (cw sl ex ab ta dr md ml mt mc on ct r) (.inl (some (.int (if n_ls (fun v => f (5 + v) = 0) 4 0 < 4 then Int32.ofNat (n_ls (fun v => f (5 + v) = 0) 4 0) else -1))), 0, cw sl ex ab ta dr md ml mt mc on ct r) := by
  have h := c_leastUnusedVolume (sc := sc) (sl := sl) (ex := ex) (ab := ab) (ta := ta) (dr := dr) (md := md) (ml := ml) (mt := mt) (mc := mc) (on := on) (ct := ct) (r := r)
  rw [s_least_eq (q := fun v => f (5 + v) = 0) 4 0 (fun i _ hi => by
    rw [T.w (5 + i) (by omega) (by omega)]
    have : ∀ D, D ∈ s_dv → D < 2147483648 := by decide
    exact xn_inj (b := 0) (this _ (T.v i (by omega))) (by omega))] at h
  exact h
theorem k_make_off {q c m2 : Int32}  : xk_Ev (xp_P sc) 43 0 [.ref 0, .int q, .int c, .int m2, .retAddr 0] [] (cw sl ex ab ta dr md ml mt mc (0) ct r) (.inr 0, 1, cw sl ex ab ta dr md ml mt mc (0) ct r) := by
  apply xk_Ev.of
  refine xk_Po.go 1 rfl ?_
  exact xk_Po.ct1 rfl rfl (c_requirePower_t rfl) rfl rfl
theorem k_make_ns {q c m2 : Int32} (h : ¬ n_shape q c) : xk_Ev (xp_P sc) 43 0 [.ref 0, .int q, .int c, .int m2, .retAddr 0] [] (cw sl ex ab ta dr md ml mt mc (1) ct r) (.inr 1, 1, cw sl ex ab ta dr md ml mt mc (1) ct r) := by
  apply xk_Ev.of
  refine xk_Po.go 1 rfl ?_
  refine xk_Po.cv1 rfl rfl (c_requirePower (show ¬ (1 : Int32) = 0 by decide)) ?_
  refine xk_Po.go 2 rfl ?_
  refine xk_Po.ci2 rfl rfl (c_isShape) ?_
  refine xk_Po.br rfl rfl (fun _ => ?_) (fun hZ => absurd (xn_bf h) hZ) -- 5 .ifCond .eq 10
  exact xk_Po.thr rfl (rfl)
theorem k_make_no {q c m2 : Int32} (hs : n_shape q c) (h : ¬ (¬ m2 < Int32.ofInt 1 ∧ ¬ Int32.ofInt 5 < m2 ∧ ¬ c < Int32.ofInt 1 ∧ m2 % c = 0)) : xk_Ev (xp_P sc) 43 0 [.ref 0, .int q, .int c, .int m2, .retAddr 0] [] (cw sl ex ab ta dr md ml mt mc (1) ct r) (.inr 1, 1, cw sl ex ab ta dr md ml mt mc (1) ct r) := by
  apply xk_Ev.of
  refine xk_Po.go 1 rfl ?_
  refine xk_Po.cv1 rfl rfl (c_requirePower (show ¬ (1 : Int32) = 0 by decide)) ?_
  refine xk_Po.go 2 rfl ?_
  refine xk_Po.ci2 rfl rfl (c_isShape) ?_
  refine xk_Po.br rfl rfl (fun hZ => absurd hZ (fun z => xn_b0 z hs)) (fun _ => ?_) -- 5 .ifCond .eq 10
  refine xk_Po.go 2 rfl ?_
  refine xk_Po.ci2 rfl rfl (c_mayHave) ?_
  refine xk_Po.br rfl rfl (fun _ => ?_) (fun hZ => absurd (xn_bf h) hZ) -- 9 .ifCond .ne 11
  exact xk_Po.thr rfl (rfl)
theorem k_make_ab {q c m2 : Int32} (hs : n_shape q c) (hf : (¬ m2 < Int32.ofInt 1 ∧ ¬ Int32.ofInt 5 < m2 ∧ ¬ c < Int32.ofInt 1 ∧ m2 % c = 0)) (hb : ∀ i, ab i = 0 ∨ ab i = 1) (h : ¬ s_any (fun j => ¬ ta (1 + j) = 0 ∧ ¬ ab j = 0) 4 0 = 0) : xk_Ev (xp_P sc) 43 0 [.ref 0, .int q, .int c, .int m2, .retAddr 0] [] (cw sl ex ab ta dr md ml mt mc (1) ct r) (.inr 2, 1, cw sl ex ab ta dr md ml mt mc (1) ct r) := by
  apply xk_Ev.of
  refine xk_Po.go 1 rfl ?_
  refine xk_Po.cv1 rfl rfl (c_requirePower (show ¬ (1 : Int32) = 0 by decide)) ?_
  refine xk_Po.go 2 rfl ?_
  refine xk_Po.ci2 rfl rfl (c_isShape) ?_
  refine xk_Po.br rfl rfl (fun hZ => absurd hZ (fun z => xn_b0 z hs)) (fun _ => ?_) -- 5 .ifCond .eq 10
  refine xk_Po.go 2 rfl ?_
  refine xk_Po.ci2 rfl rfl (c_mayHave) ?_
  refine xk_Po.br rfl rfl (fun hZ => absurd hZ (fun z => xn_b0 z hf)) (fun _ => ?_) -- 9 .ifCond .ne 11
  refine xk_Po.go 1 rfl ?_
  exact xk_Po.ct1 rfl rfl (c_requireListedPresent_t hb h) rfl rfl
theorem k_make_4 {q c m2 : Int32} (hs : n_shape q c) (hf : (¬ m2 < Int32.ofInt 1 ∧ ¬ Int32.ofInt 5 < m2 ∧ ¬ c < Int32.ofInt 1 ∧ m2 % c = 0)) (hb : ∀ i, ab i = 0 ∨ ab i = 1) (hq : s_any (fun j => ¬ ta (1 + j) = 0 ∧ ¬ ab j = 0) 4 0 = 0) {f : Nat → Nat} (T : s_Tv ta f) (h4 : n_ls (fun v => f (5 + v) = 0) 4 0 = 4) : xk_Ev (xp_P sc) 43 0 [.ref 0, .int q, .int c, .int m2, .retAddr 0] [] (cw sl ex ab ta dr md ml mt mc (1) ct r) (.inr 2, 1, cw sl ex ab ta dr md ml mt mc (1) ct r) := by
  apply xk_Ev.of
  refine xk_Po.go 1 rfl ?_
  refine xk_Po.cv1 rfl rfl (c_requirePower (show ¬ (1 : Int32) = 0 by decide)) ?_
  refine xk_Po.go 2 rfl ?_
  refine xk_Po.ci2 rfl rfl (c_isShape) ?_
  refine xk_Po.br rfl rfl (fun hZ => absurd hZ (fun z => xn_b0 z hs)) (fun _ => ?_) -- 5 .ifCond .eq 10
  refine xk_Po.go 2 rfl ?_
  refine xk_Po.ci2 rfl rfl (c_mayHave) ?_
  refine xk_Po.br rfl rfl (fun hZ => absurd hZ (fun z => xn_b0 z hf)) (fun _ => ?_) -- 9 .ifCond .ne 11
  refine xk_Po.go 1 rfl ?_
  refine xk_Po.cv1 rfl rfl (c_requireListedPresent hb hq) ?_
  refine xk_Po.go 2 rfl ?_
  refine xk_Po.ci1 rfl rfl (by have h := k_lu (sc := sc) (sl := sl) (ex := ex) (ab := ab) (ta := ta) (dr := dr) (md := md) (ml := ml) (mt := mt) (mc := mc) (on := 1) (ct := ct) (r := r) T; rw [if_neg (by omega)] at h; exact h) ?_
  refine xk_Po.go 4 rfl ?_
  exact xk_Po.thr rfl (rfl)
theorem k_make_nr {q c m2 : Int32} (hs : n_shape q c) (hf : (¬ m2 < Int32.ofInt 1 ∧ ¬ Int32.ofInt 5 < m2 ∧ ¬ c < Int32.ofInt 1 ∧ m2 % c = 0)) (hb : ∀ i, ab i = 0 ∨ ab i = 1) (hq : s_any (fun j => ¬ ta (1 + j) = 0 ∧ ¬ ab j = 0) 4 0 = 0) {f : Nat → Nat} {m x v : Nat} {s : s_S} (T : s_Tv ta f) (hd : ∀ i, 51 ≤ i → dr i = 0) (hv : v < 4) (hl4 : n_ls (fun v => f (5 + v) = 0) 4 0 = v) {D : Nat} (hD : 1 + q + 4 * c + 32 * m2 = Int32.ofNat D) (hD0 : D ≠ 0) (T1 : n_Tv (n_up f (5 + v) D)) (hx : n_tg f x) (hm : m < 40 → f (9 + m) ≠ 0) (hl : ∀ i, i < 10 → f (9 + (v * 10 + i)) = 0) (hn : n_fil ab m x v (2 * ((n_up f (5 + v) D) (5 + v) / 32) - 2 * 0) (2 * 0) (n_up f (5 + v) D) = none) : ∃ d2, (∀ i, 51 ≤ i → d2 i = 0) ∧ xk_Ev (xp_P sc) 43 0 [.ref 0, .int q, .int c, .int m2, .retAddr 0] [] (cs (s) (ab) (ta) (dr) (md) (n_ml m) (n_mt x) (mc) (1) r) (.inr 2, 1, cs (s) (ab) (ta) (d2) (md) (n_ml m) (n_mt x) (mc) (1) r) := by
  have eU : upd ta (5 + v) (1 + q + 4 * c + 32 * m2) = s_mk ta (n_up f (5 + v) D) := by
    rw [hD, ← s_mk_up (by omega) (by omega), s_mk_self T.w]
  have hx1 : n_tg (n_up f (5 + v) D) x := fun z => by
    obtain ⟨q1, q2⟩ := hx z
    refine ⟨by rw [n_up_ne (by omega)]; exact q1, fun ⟨i, k1, k2⟩ => q2 ⟨i, k1, by rw [n_up_ne (by omega)] at k2; exact k2⟩⟩
  have hm1 : m < 40 → (n_up f (5 + v) D) (9 + m) ≠ 0 := fun z => by rw [n_up_ne (by omega)]; exact hm z
  have h51 : (n_up f (5 + v) D) (5 + v) ≠ 0 := by rw [n_up_at]; exact hD0
  have hl1 : ∀ i, 2 * 0 ≤ i → i < 10 → (n_up f (5 + v) D) (9 + (v * 10 + i)) = 0 := fun i _ hi => by rw [n_up_ne (by omega)]; exact hl i hi
  have lu : xk_Ev (xp_P sc) 27 0 [.ref 5, .retAddr 0] [] (cs (s) (ab) (ta) (dr) (md) (n_ml m) (n_mt x) (mc) (1) r) (.inl (some (.int (Int32.ofNat v))), 0, cs (s) (ab) (ta) (dr) (md) (n_ml m) (n_mt x) (mc) (1) r) := by
    have h := k_lu (sc := sc) (sl := s.1) (ex := s.2.1) (ab := ab) (ta := ta) (dr := dr) (md := md) (ml := n_ml m) (mt := n_mt x) (mc := mc) (on := 1) (ct := s.2.2) (r := r) T
    rw [hl4, if_pos hv] at h
    exact h
  have ds : xk_Ev (xp_P sc) 28 0 [.ref 7, .int (Int32.ofNat v), .int q, .int c, .int m2] [] (cs (s) (ab) (ta) (ta) (md) (n_ml m) (n_mt x) (mc) (1) r) (.inl none, 0, cs (s) (ab) (ta) (s_mk ta (n_up f (5 + v) D)) (md) (n_ml m) (n_mt x) (mc) (1) r) := by
    rw [← eU]
    exact d_describe hv
  obtain ⟨d2, z2, fn⟩ := k_fill_n (sc := sc) (ab := ab) (ta := ta) (md := md) (mc := mc) (on := 1) (r := r) (from_ := 0) (s := s) T.z T1 hb hx1 hm1 hv h51 (by omega) hl1 hn
  refine ⟨d2, z2, ?_⟩
  apply xk_Ev.of
  refine xk_Po.go 1 rfl ?_
  refine xk_Po.cv1 rfl rfl (c_requirePower (show ¬ (1 : Int32) = 0 by decide)) ?_
  refine xk_Po.go 2 rfl ?_
  refine xk_Po.ci2 rfl rfl (c_isShape) ?_
  refine xk_Po.br rfl rfl (fun hZ => absurd hZ (fun z => xn_b0 z hs)) (fun _ => ?_) -- 5 .ifCond .eq 10
  refine xk_Po.go 2 rfl ?_
  refine xk_Po.ci2 rfl rfl (c_mayHave) ?_
  refine xk_Po.br rfl rfl (fun hZ => absurd hZ (fun z => xn_b0 z hf)) (fun _ => ?_) -- 9 .ifCond .ne 11
  refine xk_Po.go 1 rfl ?_
  refine xk_Po.cv1 rfl rfl (c_requireListedPresent hb hq) ?_
  refine xk_Po.go 2 rfl ?_
  refine xk_Po.ci1 rfl rfl (lu) ?_
  refine xk_Po.go 3 rfl ?_
  refine xk_Po.br rfl rfl (fun hZ => absurd hZ (n_ne1 (by omega))) (fun _ => ?_) -- 19 .if_icmp .ne 21
  refine xk_Po.go 1 rfl ?_
  refine xk_Po.cv1 rfl rfl (c_beginDraft T.z hd) ?_
  refine xk_Po.go 6 rfl ?_
  refine xk_Po.cv5 rfl rfl (ds) ?_
  refine xk_Po.go 3 rfl ?_
  exact xk_Po.ct3 rfl rfl (fn) rfl rfl
theorem k_make_1 {q c m2 : Int32} (hs : n_shape q c) (hf : (¬ m2 < Int32.ofInt 1 ∧ ¬ Int32.ofInt 5 < m2 ∧ ¬ c < Int32.ofInt 1 ∧ m2 % c = 0)) (hb : ∀ i, ab i = 0 ∨ ab i = 1) (hq : s_any (fun j => ¬ ta (1 + j) = 0 ∧ ¬ ab j = 0) 4 0 = 0) {f : Nat → Nat} {m x v : Nat} {s : s_S} (T : s_Tv ta f) (hd : ∀ i, 51 ≤ i → dr i = 0) (hv : v < 4) (hl4 : n_ls (fun v => f (5 + v) = 0) 4 0 = v) {D : Nat} (hD : 1 + q + 4 * c + 32 * m2 = Int32.ofNat D) (hD0 : D ≠ 0) (T1 : n_Tv (n_up f (5 + v) D)) (hx : n_tg f x) (hm : m < 40 → f (9 + m) ≠ 0) (hl : ∀ i, i < 10 → f (9 + (v * 10 + i)) = 0) {g : Nat → Nat} (hn : n_fil ab m x v (2 * ((n_up f (5 + v) D) (5 + v) / 32) - 2 * 0) (2 * 0) (n_up f (5 + v) D) = some g) (Tg : n_Tv g) (K1 : ∀ i, i < 9 → g i = (n_up f (5 + v) D) i) (K4 : ∀ i, 2 * 0 ≤ i → i < 2 * ((n_up f (5 + v) D) (5 + v) / 32) → (i % 2 = 0 ∨ (n_up f (5 + v) D) (5 + v) % 4 = 3) → g (9 + (v * 10 + i)) ≠ 0) (ho : (m_seq (m_for (m_cle g v) (2 * ((n_up f (5 + v) D) (5 + v) / 32) - 2 * 0) (2 * 0)) (m_com (s_seal (s_mk ta g) (ta 0 + 1)) ab) s).1 = true) : xk_Ev (xp_P sc) 43 0 [.ref 0, .int q, .int c, .int m2, .retAddr 0] [] (cs (s) (ab) (ta) (dr) (md) (n_ml m) (n_mt x) (mc) (1) r) (.inl (some (.int (Int32.ofNat v))), 0, cs ((m_seq (m_for (m_cle g v) (2 * ((n_up f (5 + v) D) (5 + v) / 32) - 2 * 0) (2 * 0)) (m_com (s_seal (s_mk ta g) (ta 0 + 1)) ab) s).2) (ab) (s_seal (s_mk ta g) (ta 0 + 1)) (s_seal (s_mk ta g) (ta 0 + 1)) (md) ((s_ml (s_seal (s_mk ta g) (ta 0 + 1)) (n_ml m) (n_mt x)).1) ((s_ml (s_seal (s_mk ta g) (ta 0 + 1)) (n_ml m) (n_mt x)).2) (mc) (1) r) := by
  have eU : upd ta (5 + v) (1 + q + 4 * c + 32 * m2) = s_mk ta (n_up f (5 + v) D) := by
    rw [hD, ← s_mk_up (by omega) (by omega), s_mk_self T.w]
  have hx1 : n_tg (n_up f (5 + v) D) x := fun z => by
    obtain ⟨q1, q2⟩ := hx z
    refine ⟨by rw [n_up_ne (by omega)]; exact q1, fun ⟨i, k1, k2⟩ => q2 ⟨i, k1, by rw [n_up_ne (by omega)] at k2; exact k2⟩⟩
  have hm1 : m < 40 → (n_up f (5 + v) D) (9 + m) ≠ 0 := fun z => by rw [n_up_ne (by omega)]; exact hm z
  have h51 : (n_up f (5 + v) D) (5 + v) ≠ 0 := by rw [n_up_at]; exact hD0
  have hl1 : ∀ i, 2 * 0 ≤ i → i < 10 → (n_up f (5 + v) D) (9 + (v * 10 + i)) = 0 := fun i _ hi => by rw [n_up_ne (by omega)]; exact hl i hi
  have lu : xk_Ev (xp_P sc) 27 0 [.ref 5, .retAddr 0] [] (cs (s) (ab) (ta) (dr) (md) (n_ml m) (n_mt x) (mc) (1) r) (.inl (some (.int (Int32.ofNat v))), 0, cs (s) (ab) (ta) (dr) (md) (n_ml m) (n_mt x) (mc) (1) r) := by
    have h := k_lu (sc := sc) (sl := s.1) (ex := s.2.1) (ab := ab) (ta := ta) (dr := dr) (md := md) (ml := n_ml m) (mt := n_mt x) (mc := mc) (on := 1) (ct := s.2.2) (r := r) T
    rw [hl4, if_pos hv] at h
    exact h
  have ds : xk_Ev (xp_P sc) 28 0 [.ref 7, .int (Int32.ofNat v), .int q, .int c, .int m2] [] (cs (s) (ab) (ta) (ta) (md) (n_ml m) (n_mt x) (mc) (1) r) (.inl none, 0, cs (s) (ab) (ta) (s_mk ta (n_up f (5 + v) D)) (md) (n_ml m) (n_mt x) (mc) (1) r) := by
    rw [← eU]
    exact d_describe hv
  apply xk_Ev.of
  refine xk_Po.go 1 rfl ?_
  refine xk_Po.cv1 rfl rfl (c_requirePower (show ¬ (1 : Int32) = 0 by decide)) ?_
  refine xk_Po.go 2 rfl ?_
  refine xk_Po.ci2 rfl rfl (c_isShape) ?_
  refine xk_Po.br rfl rfl (fun hZ => absurd hZ (fun z => xn_b0 z hs)) (fun _ => ?_) -- 5 .ifCond .eq 10
  refine xk_Po.go 2 rfl ?_
  refine xk_Po.ci2 rfl rfl (c_mayHave) ?_
  refine xk_Po.br rfl rfl (fun hZ => absurd hZ (fun z => xn_b0 z hf)) (fun _ => ?_) -- 9 .ifCond .ne 11
  refine xk_Po.go 1 rfl ?_
  refine xk_Po.cv1 rfl rfl (c_requireListedPresent hb hq) ?_
  refine xk_Po.go 2 rfl ?_
  refine xk_Po.ci1 rfl rfl (lu) ?_
  refine xk_Po.go 3 rfl ?_
  refine xk_Po.br rfl rfl (fun hZ => absurd hZ (n_ne1 (by omega))) (fun _ => ?_) -- 19 .if_icmp .ne 21
  refine xk_Po.go 1 rfl ?_
  refine xk_Po.cv1 rfl rfl (c_beginDraft T.z hd) ?_
  refine xk_Po.go 6 rfl ?_
  refine xk_Po.cv5 rfl rfl (ds) ?_
  refine xk_Po.go 3 rfl ?_
  refine xk_Po.cv3 rfl rfl (k_fill_1 (from_ := 0) (s := s) T.z T1 hb hx1 hm1 hv h51 (by omega) hl1 hn Tg K1 K4 hq ho) ?_
  refine xk_Po.go 1 rfl ?_
  exact xk_Po.iret rfl (rfl)
theorem k_make_0 {q c m2 : Int32} (hs : n_shape q c) (hf : (¬ m2 < Int32.ofInt 1 ∧ ¬ Int32.ofInt 5 < m2 ∧ ¬ c < Int32.ofInt 1 ∧ m2 % c = 0)) (hb : ∀ i, ab i = 0 ∨ ab i = 1) (hq : s_any (fun j => ¬ ta (1 + j) = 0 ∧ ¬ ab j = 0) 4 0 = 0) {f : Nat → Nat} {m x v : Nat} {s : s_S} (T : s_Tv ta f) (hd : ∀ i, 51 ≤ i → dr i = 0) (hv : v < 4) (hl4 : n_ls (fun v => f (5 + v) = 0) 4 0 = v) {D : Nat} (hD : 1 + q + 4 * c + 32 * m2 = Int32.ofNat D) (hD0 : D ≠ 0) (T1 : n_Tv (n_up f (5 + v) D)) (hx : n_tg f x) (hm : m < 40 → f (9 + m) ≠ 0) (hl : ∀ i, i < 10 → f (9 + (v * 10 + i)) = 0) {g : Nat → Nat} (hn : n_fil ab m x v (2 * ((n_up f (5 + v) D) (5 + v) / 32) - 2 * 0) (2 * 0) (n_up f (5 + v) D) = some g) (Tg : n_Tv g) (K1 : ∀ i, i < 9 → g i = (n_up f (5 + v) D) i) (K4 : ∀ i, 2 * 0 ≤ i → i < 2 * ((n_up f (5 + v) D) (5 + v) / 32) → (i % 2 = 0 ∨ (n_up f (5 + v) D) (5 + v) % 4 = 3) → g (9 + (v * 10 + i)) ≠ 0) (ho : ¬ (m_seq (m_for (m_cle g v) (2 * ((n_up f (5 + v) D) (5 + v) / 32) - 2 * 0) (2 * 0)) (m_com (s_seal (s_mk ta g) (ta 0 + 1)) ab) s).1 = true) : ∃ d2, (∀ i, 51 ≤ i → d2 i = 0) ∧ xk_Ev (xp_P sc) 43 0 [.ref 0, .int q, .int c, .int m2, .retAddr 0] [] (cs (s) (ab) (ta) (dr) (md) (n_ml m) (n_mt x) (mc) (1) r) (.inr 0, 1, cl ((m_seq (m_for (m_cle g v) (2 * ((n_up f (5 + v) D) (5 + v) / 32) - 2 * 0) (2 * 0)) (m_com (s_seal (s_mk ta g) (ta 0 + 1)) ab) s).2) ab ta (d2) (mc) r) := by
  have eU : upd ta (5 + v) (1 + q + 4 * c + 32 * m2) = s_mk ta (n_up f (5 + v) D) := by
    rw [hD, ← s_mk_up (by omega) (by omega), s_mk_self T.w]
  have hx1 : n_tg (n_up f (5 + v) D) x := fun z => by
    obtain ⟨q1, q2⟩ := hx z
    refine ⟨by rw [n_up_ne (by omega)]; exact q1, fun ⟨i, k1, k2⟩ => q2 ⟨i, k1, by rw [n_up_ne (by omega)] at k2; exact k2⟩⟩
  have hm1 : m < 40 → (n_up f (5 + v) D) (9 + m) ≠ 0 := fun z => by rw [n_up_ne (by omega)]; exact hm z
  have h51 : (n_up f (5 + v) D) (5 + v) ≠ 0 := by rw [n_up_at]; exact hD0
  have hl1 : ∀ i, 2 * 0 ≤ i → i < 10 → (n_up f (5 + v) D) (9 + (v * 10 + i)) = 0 := fun i _ hi => by rw [n_up_ne (by omega)]; exact hl i hi
  have lu : xk_Ev (xp_P sc) 27 0 [.ref 5, .retAddr 0] [] (cs (s) (ab) (ta) (dr) (md) (n_ml m) (n_mt x) (mc) (1) r) (.inl (some (.int (Int32.ofNat v))), 0, cs (s) (ab) (ta) (dr) (md) (n_ml m) (n_mt x) (mc) (1) r) := by
    have h := k_lu (sc := sc) (sl := s.1) (ex := s.2.1) (ab := ab) (ta := ta) (dr := dr) (md := md) (ml := n_ml m) (mt := n_mt x) (mc := mc) (on := 1) (ct := s.2.2) (r := r) T
    rw [hl4, if_pos hv] at h
    exact h
  have ds : xk_Ev (xp_P sc) 28 0 [.ref 7, .int (Int32.ofNat v), .int q, .int c, .int m2] [] (cs (s) (ab) (ta) (ta) (md) (n_ml m) (n_mt x) (mc) (1) r) (.inl none, 0, cs (s) (ab) (ta) (s_mk ta (n_up f (5 + v) D)) (md) (n_ml m) (n_mt x) (mc) (1) r) := by
    rw [← eU]
    exact d_describe hv
  obtain ⟨d2, z2, fn⟩ := k_fill_0 (sc := sc) (md := md) (mc := mc) (on := 1) (r := r) (from_ := 0) (s := s) T.z T1 hb hx1 hm1 hv h51 (by omega) hl1 hn Tg K1 K4 hq ho
  refine ⟨d2, z2, ?_⟩
  apply xk_Ev.of
  refine xk_Po.go 1 rfl ?_
  refine xk_Po.cv1 rfl rfl (c_requirePower (show ¬ (1 : Int32) = 0 by decide)) ?_
  refine xk_Po.go 2 rfl ?_
  refine xk_Po.ci2 rfl rfl (c_isShape) ?_
  refine xk_Po.br rfl rfl (fun hZ => absurd hZ (fun z => xn_b0 z hs)) (fun _ => ?_) -- 5 .ifCond .eq 10
  refine xk_Po.go 2 rfl ?_
  refine xk_Po.ci2 rfl rfl (c_mayHave) ?_
  refine xk_Po.br rfl rfl (fun hZ => absurd hZ (fun z => xn_b0 z hf)) (fun _ => ?_) -- 9 .ifCond .ne 11
  refine xk_Po.go 1 rfl ?_
  refine xk_Po.cv1 rfl rfl (c_requireListedPresent hb hq) ?_
  refine xk_Po.go 2 rfl ?_
  refine xk_Po.ci1 rfl rfl (lu) ?_
  refine xk_Po.go 3 rfl ?_
  refine xk_Po.br rfl rfl (fun hZ => absurd hZ (n_ne1 (by omega))) (fun _ => ?_) -- 19 .if_icmp .ne 21
  refine xk_Po.go 1 rfl ?_
  refine xk_Po.cv1 rfl rfl (c_beginDraft T.z hd) ?_
  refine xk_Po.go 6 rfl ?_
  refine xk_Po.cv5 rfl rfl (ds) ?_
  refine xk_Po.go 3 rfl ?_
  exact xk_Po.ct3 rfl rfl (fn) rfl rfl
end XkKpu
