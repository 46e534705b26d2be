section XkKgr
variable {sc : Nat × (Nat → Int32)} {sl ex ab ta dr : Nat → Int32} {md ml mt mc on ct : Int32} {r w : xk_W}
theorem k_elN {f : Nat → Nat} {v : Nat} (T : s_Tv ta f) (hv : v < 4) : xk_Ev (xp_P sc) 31 0 [.ref 5, .int (Int32.ofNat v)] [] (cw sl ex ab ta dr md ml mt mc on ct r) (.inl (some (.int (Int32.ofNat (f (5 + v) / 32)))), 0, cw sl ex ab ta dr md ml mt mc on ct r) := by
  have h := c_elementsOfN (sc := sc) (sl := sl) (ex := ex) (ab := ab) (ta := ta) (dr := dr) (md := md) (ml := ml) (mt := mt) (mc := mc) (on := on) (ct := ct) (r := r) hv
  rw [T.w (5 + v) (by omega) (by omega), (s_dv_32 _ (T.v v hv)).1] at h
  exact h
theorem k_coN {f : Nat → Nat} {v : Nat} (T : s_Tv ta f) (hv : v < 4) (h5 : f (5 + v) ≠ 0) : xk_Ev (xp_P sc) 30 0 [.ref 5, .int (Int32.ofNat v)] [] (cw sl ex ab ta dr md ml mt mc on ct r) (.inl (some (.int (Int32.ofNat (f (5 + v) / 4 % 8)))), 0, cw sl ex ab ta dr md ml mt mc on ct r) := by
  have h := c_columnsOf (sc := sc) (sl := sl) (ex := ex) (ab := ab) (ta := ta) (dr := dr) (md := md) (ml := ml) (mt := mt) (mc := mc) (on := on) (ct := ct) (r := r) hv
  rw [T.w (5 + v) (by omega) (by omega), (s_dv_col _ (T.v v hv) h5).1] at h
  exact h
theorem k_kiN {f : Nat → Nat} {v : Nat} (T : s_Tv ta f) (hv : v < 4) (h5 : f (5 + v) ≠ 0) : xk_Ev (xp_P sc) 29 0 [.ref 5, .int (Int32.ofNat v)] [] (cw sl ex ab ta dr md ml mt mc on ct r) (.inl (some (.int (Int32.ofNat (f (5 + v) % 4) - 1))), 0, cw sl ex ab ta dr md ml mt mc on ct r) := by
  have h := c_kindOfN (sc := sc) (sl := sl) (ex := ex) (ab := ab) (ta := ta) (dr := dr) (md := md) (ml := ml) (mt := mt) (mc := mc) (on := on) (ct := ct) (r := r) hv
  rw [T.w (5 + v) (by omega) (by omega), (s_dv_4 _ (T.v v hv) h5).2.1] at h
  exact h
theorem k_des {f : Nat → Nat} {v k : Nat} (T : s_Tv ta f) (hv : v < 4) (h5 : f (5 + v) ≠ 0) (hk : k < 6) : 1 + (Int32.ofNat (f (5 + v) % 4) - 1) + 4 * Int32.ofNat (f (5 + v) / 4 % 8) + 32 * Int32.ofNat k = Int32.ofNat (n_D (f (5 + v)) k) := by
  have h := (s_dv_D1 _ (T.v v hv) h5 k hk).2
  rw [(s_dv_4 _ (T.v v hv) h5).2.1, (s_dv_col _ (T.v v hv) h5).1] at h
  exact h
theorem k_grow_off {g m2 : Int32} : xk_Ev (xp_P sc) 44 0 [.ref 0, .int g, .int m2, .retAddr 0] [] (cw sl ex ab ta dr md ml mt mc (0) ct r) (.inr 0, 1, cw sl ex ab ta dr md ml mt mc (0) ct r) := by
  apply xk_Ev.of
  refine xk_Po.go 1 rfl ?_
  exact xk_Po.ct1 rfl rfl (c_requirePower_t rfl) rfl rfl
theorem k_grow_nv {g m2 : Int32} (hg : g < 0 ∨ Int32.ofInt 4 ≤ g) : xk_Ev (xp_P sc) 44 0 [.ref 0, .int g, .int m2, .retAddr 0] [] (cw sl ex ab ta dr md ml mt mc (1) ct r) (.inr 3, 1, cw sl ex ab ta dr md ml mt mc (1) ct r) := by
  apply xk_Ev.of
  refine xk_Po.go 1 rfl ?_
  refine xk_Po.cv1 rfl rfl (c_requirePower (show ¬ (1 : Int32) = 0 by decide)) ?_
  refine xk_Po.go 2 rfl ?_
  exact xk_Po.ct2 rfl rfl (c_requireVolume_t hg) rfl rfl
theorem k_grow_uv {v : Nat} {m2 : Int32} (hv : v < 4) (hu : ta (5 + v) = 0) : xk_Ev (xp_P sc) 44 0 [.ref 0, .int (Int32.ofNat v), .int m2, .retAddr 0] [] (cw sl ex ab ta dr md ml mt mc (1) ct r) (.inr 3, 1, cw sl ex ab ta dr md ml mt mc (1) ct r) := by
  apply xk_Ev.of
  refine xk_Po.go 1 rfl ?_
  refine xk_Po.cv1 rfl rfl (c_requirePower (show ¬ (1 : Int32) = 0 by decide)) ?_
  refine xk_Po.go 2 rfl ?_
  exact xk_Po.ct2 rfl rfl (c_requireVolume_u hv hu) rfl rfl
theorem k_shrink_off {g m2 : Int32} : xk_Ev (xp_P sc) 45 0 [.ref 0, .int g, .int m2, .retAddr 0] [] (cw sl ex ab ta dr md ml mt mc (0) ct r) (.inr 0, 1, cw sl ex ab ta dr md ml mt mc (0) ct r) := by
  apply xk_Ev.of
  refine xk_Po.go 1 rfl ?_
  exact xk_Po.ct1 rfl rfl (c_requirePower_t rfl) rfl rfl
theorem k_shrink_nv {g m2 : Int32} (hg : g < 0 ∨ Int32.ofInt 4 ≤ g) : xk_Ev (xp_P sc) 45 0 [.ref 0, .int g, .int m2, .retAddr 0] [] (cw sl ex ab ta dr md ml mt mc (1) ct r) (.inr 3, 1, cw sl ex ab ta dr md ml mt mc (1) ct r) := by
  apply xk_Ev.of
  refine xk_Po.go 1 rfl ?_
  refine xk_Po.cv1 rfl rfl (c_requirePower (show ¬ (1 : Int32) = 0 by decide)) ?_
  refine xk_Po.go 2 rfl ?_
  exact xk_Po.ct2 rfl rfl (c_requireVolume_t hg) rfl rfl
theorem k_shrink_uv {v : Nat} {m2 : Int32} (hv : v < 4) (hu : ta (5 + v) = 0) : xk_Ev (xp_P sc) 45 0 [.ref 0, .int (Int32.ofNat v), .int m2, .retAddr 0] [] (cw sl ex ab ta dr md ml mt mc (1) ct r) (.inr 3, 1, cw sl ex ab ta dr md ml mt mc (1) ct r) := by
  apply xk_Ev.of
  refine xk_Po.go 1 rfl ?_
  refine xk_Po.cv1 rfl rfl (c_requirePower (show ¬ (1 : Int32) = 0 by decide)) ?_
  refine xk_Po.go 2 rfl ?_
  exact xk_Po.ct2 rfl rfl (c_requireVolume_u hv hu) rfl rfl
theorem k_grow_lo {v : Nat} (hv : v < 4) (hu : ¬ ta (5 + v) = 0) {f : Nat → Nat} (T : s_Tv ta f) (h5 : f (5 + v) ≠ 0) {m2 : Int32} (h : m2 < Int32.ofInt 1) : xk_Ev (xp_P sc) 44 0 [.ref 0, .int (Int32.ofNat v), .int m2, .retAddr 0] [] (cw sl ex ab ta dr md ml mt mc (1) ct r) (.inr 1, 1, cw sl ex ab ta dr md ml mt mc (1) ct r) := by
  apply xk_Ev.of
  refine xk_Po.go 1 rfl ?_
  refine xk_Po.cv1 rfl rfl (c_requirePower (show ¬ (1 : Int32) = 0 by decide)) ?_
  refine xk_Po.go 2 rfl ?_
  refine xk_Po.cv2 rfl rfl (c_requireVolume hv hu) ?_
  refine xk_Po.go 3 rfl ?_
  refine xk_Po.ci2 rfl rfl (k_elN T hv) ?_
  refine xk_Po.go 3 rfl ?_
  refine xk_Po.br rfl rfl (fun _ => ?_) (fun hZ => absurd (h) hZ) -- 12 .if_icmp .lt 25
  exact xk_Po.thr rfl (rfl)
theorem k_grow_hi {v : Nat} (hv : v < 4) (hu : ¬ ta (5 + v) = 0) {f : Nat → Nat} (T : s_Tv ta f) (h5 : f (5 + v) ≠ 0) {m2 : Int32} (h0 : ¬ m2 < Int32.ofInt 1) (h : Int32.ofInt 5 < m2) : xk_Ev (xp_P sc) 44 0 [.ref 0, .int (Int32.ofNat v), .int m2, .retAddr 0] [] (cw sl ex ab ta dr md ml mt mc (1) ct r) (.inr 1, 1, cw sl ex ab ta dr md ml mt mc (1) ct r) := by
  apply xk_Ev.of
  refine xk_Po.go 1 rfl ?_
  refine xk_Po.cv1 rfl rfl (c_requirePower (show ¬ (1 : Int32) = 0 by decide)) ?_
  refine xk_Po.go 2 rfl ?_
  refine xk_Po.cv2 rfl rfl (c_requireVolume hv hu) ?_
  refine xk_Po.go 3 rfl ?_
  refine xk_Po.ci2 rfl rfl (k_elN T hv) ?_
  refine xk_Po.go 3 rfl ?_
  refine xk_Po.br rfl rfl (fun hZ => absurd hZ (h0)) (fun _ => ?_) -- 12 .if_icmp .lt 25
  refine xk_Po.go 2 rfl ?_
  refine xk_Po.br rfl rfl (fun _ => ?_) (fun hZ => absurd (h) hZ) -- 15 .if_icmp .gt 25
  exact xk_Po.thr rfl (rfl)
theorem k_grow_no {v : Nat} (hv : v < 4) (hu : ¬ ta (5 + v) = 0) {f : Nat → Nat} (T : s_Tv ta f) (h5 : f (5 + v) ≠ 0) {m2 : Int32} (h0 : ¬ m2 < Int32.ofInt 1) (h1 : ¬ Int32.ofInt 5 < m2) (h : ¬ (¬ (Int32.ofNat (f (5 + v) / 32) + m2) < Int32.ofInt 1 ∧ ¬ Int32.ofInt 5 < (Int32.ofNat (f (5 + v) / 32) + m2) ∧ ¬ Int32.ofNat (f (5 + v) / 4 % 8) < Int32.ofInt 1 ∧ (Int32.ofNat (f (5 + v) / 32) + m2) % Int32.ofNat (f (5 + v) / 4 % 8) = 0)) : xk_Ev (xp_P sc) 44 0 [.ref 0, .int (Int32.ofNat v), .int m2, .retAddr 0] [] (cw sl ex ab ta dr md ml mt mc (1) ct r) (.inr 1, 1, cw sl ex ab ta dr md ml mt mc (1) ct r) := by
  apply xk_Ev.of
  refine xk_Po.go 1 rfl ?_
  refine xk_Po.cv1 rfl rfl (c_requirePower (show ¬ (1 : Int32) = 0 by decide)) ?_
  refine xk_Po.go 2 rfl ?_
  refine xk_Po.cv2 rfl rfl (c_requireVolume hv hu) ?_
  refine xk_Po.go 3 rfl ?_
  refine xk_Po.ci2 rfl rfl (k_elN T hv) ?_
  refine xk_Po.go 3 rfl ?_
  refine xk_Po.br rfl rfl (fun hZ => absurd hZ (h0)) (fun _ => ?_) -- 12 .if_icmp .lt 25
  refine xk_Po.go 2 rfl ?_
  refine xk_Po.br rfl rfl (fun hZ => absurd hZ (h1)) (fun _ => ?_) -- 15 .if_icmp .gt 25
  refine xk_Po.go 3 rfl ?_
  refine xk_Po.ci2 rfl rfl (k_coN T hv h5) ?_
  refine xk_Po.go 3 rfl ?_
  refine xk_Po.ci2 rfl rfl (c_mayHave) ?_
  refine xk_Po.br rfl rfl (fun _ => ?_) (fun hZ => absurd (xn_bf h) hZ) -- 24 .ifCond .ne 26
  exact xk_Po.thr rfl (rfl)
theorem k_grow_ab {v : Nat} (hv : v < 4) (hu : ¬ ta (5 + v) = 0) {f : Nat → Nat} (T : s_Tv ta f) (h5 : f (5 + v) ≠ 0) {m2 : Int32} (h0 : ¬ m2 < Int32.ofInt 1) (h1 : ¬ Int32.ofInt 5 < m2) (hf : (¬ (Int32.ofNat (f (5 + v) / 32) + m2) < Int32.ofInt 1 ∧ ¬ Int32.ofInt 5 < (Int32.ofNat (f (5 + v) / 32) + m2) ∧ ¬ Int32.ofNat (f (5 + v) / 4 % 8) < Int32.ofInt 1 ∧ (Int32.ofNat (f (5 + v) / 32) + m2) % Int32.ofNat (f (5 + v) / 4 % 8) = 0)) (hb : ∀ i, ab i = 0 ∨ ab i = 1) (h : ¬ s_any (fun j => ¬ ta (1 + j) = 0 ∧ ¬ ab j = 0) 4 0 = 0) : xk_Ev (xp_P sc) 44 0 [.ref 0, .int (Int32.ofNat v), .int m2, .retAddr 0] [] (cw sl ex ab ta dr md ml mt mc (1) ct r) (.inr 2, 1, cw sl ex ab ta dr md ml mt mc (1) ct r) := by
  apply xk_Ev.of
  refine xk_Po.go 1 rfl ?_
  refine xk_Po.cv1 rfl rfl (c_requirePower (show ¬ (1 : Int32) = 0 by decide)) ?_
  refine xk_Po.go 2 rfl ?_
  refine xk_Po.cv2 rfl rfl (c_requireVolume hv hu) ?_
  refine xk_Po.go 3 rfl ?_
  refine xk_Po.ci2 rfl rfl (k_elN T hv) ?_
  refine xk_Po.go 3 rfl ?_
  refine xk_Po.br rfl rfl (fun hZ => absurd hZ (h0)) (fun _ => ?_) -- 12 .if_icmp .lt 25
  refine xk_Po.go 2 rfl ?_
  refine xk_Po.br rfl rfl (fun hZ => absurd hZ (h1)) (fun _ => ?_) -- 15 .if_icmp .gt 25
  refine xk_Po.go 3 rfl ?_
  refine xk_Po.ci2 rfl rfl (k_coN T hv h5) ?_
  refine xk_Po.go 3 rfl ?_
  refine xk_Po.ci2 rfl rfl (c_mayHave) ?_
  refine xk_Po.br rfl rfl (fun hZ => absurd hZ (fun z => xn_b0 z hf)) (fun _ => ?_) -- 24 .ifCond .ne 26
  refine xk_Po.go 1 rfl ?_
  exact xk_Po.ct1 rfl rfl (c_requireListedPresent_t hb h) rfl rfl
theorem k_grow_nr {v : Nat} (hv : v < 4) (hu : ¬ ta (5 + v) = 0) {f : Nat → Nat} (T : s_Tv ta f) (h5 : f (5 + v) ≠ 0) {k : Nat} (hk : f (5 + v) / 32 + k < 6) (h0 : ¬ Int32.ofNat k < Int32.ofInt 1) (h1 : ¬ Int32.ofInt 5 < Int32.ofNat k) (hf : (¬ (Int32.ofNat (f (5 + v) / 32) + Int32.ofNat k) < Int32.ofInt 1 ∧ ¬ Int32.ofInt 5 < (Int32.ofNat (f (5 + v) / 32) + Int32.ofNat k) ∧ ¬ Int32.ofNat (f (5 + v) / 4 % 8) < Int32.ofInt 1 ∧ (Int32.ofNat (f (5 + v) / 32) + Int32.ofNat k) % Int32.ofNat (f (5 + v) / 4 % 8) = 0)) (hb : ∀ i, ab i = 0 ∨ ab i = 1) (hq : s_any (fun j => ¬ ta (1 + j) = 0 ∧ ¬ ab j = 0) 4 0 = 0) {m x : Nat} {s : s_S} (hd : ∀ i, 51 ≤ i → dr i = 0) (T1 : n_Tv (n_up f (5 + v) (n_D (f (5 + v)) (f (5 + v) / 32 + k)))) (hx : n_tg f x) (hm : m < 40 → f (9 + m) ≠ 0) (hn : n_fil ab m x v (2 * ((n_up f (5 + v) (n_D (f (5 + v)) (f (5 + v) / 32 + k))) (5 + v) / 32) - 2 * (f (5 + v) / 32)) (2 * (f (5 + v) / 32)) (n_up f (5 + v) (n_D (f (5 + v)) (f (5 + v) / 32 + k))) = none) : ∃ d2, (∀ i, 51 ≤ i → d2 i = 0) ∧ xk_Ev (xp_P sc) 44 0 [.ref 0, .int (Int32.ofNat v), .int (Int32.ofNat k), .retAddr 0] [] (cs (s) (ab) (ta) (dr) (md) (n_ml m) (n_mt x) (mc) (1) r) (.inr 2, 1, cs (s) (ab) (ta) (d2) (md) (n_ml m) (n_mt x) (mc) (1) r) := by
  have e2 := s_dv_D2 _ (T.v v hv) h5 (f (5 + v) / 32 + k) hk
  have eU : upd ta (5 + v) (1 + (Int32.ofNat (f (5 + v) % 4) - 1) + 4 * Int32.ofNat (f (5 + v) / 4 % 8) + 32 * (Int32.ofNat (f (5 + v) / 32) + Int32.ofNat k)) = s_mk ta (n_up f (5 + v) (n_D (f (5 + v)) (f (5 + v) / 32 + k))) := by
    rw [xn_add, k_des T hv h5 hk, ← s_mk_up (by omega) (by omega), s_mk_self T.w]
  have hx1 : n_tg (n_up f (5 + v) (n_D (f (5 + v)) (f (5 + v) / 32 + k))) x := fun z => by
    obtain ⟨q1, q2⟩ := hx z
    refine ⟨by rw [n_up_ne (by omega)]; exact q1, fun ⟨i, k1, k2⟩ => q2 ⟨i, k1, by rw [n_up_ne (by omega)] at k2; exact k2⟩⟩
  have hm1 : m < 40 → (n_up f (5 + v) (n_D (f (5 + v)) (f (5 + v) / 32 + k))) (9 + m) ≠ 0 := fun z => by rw [n_up_ne (by omega)]; exact hm z
  have ef : (n_up f (5 + v) (n_D (f (5 + v)) (f (5 + v) / 32 + k))) (5 + v) / 32 = f (5 + v) / 32 + k := by rw [n_up_at]; exact e2.1
  have hel : 1 ≤ f (5 + v) / 32 := (s_dv_col _ (T.v v hv) h5).2.2.2.1
  have h51 : (n_up f (5 + v) (n_D (f (5 + v)) (f (5 + v) / 32 + k))) (5 + v) ≠ 0 := fun z => by rw [z] at ef; omega
  have hl1 : ∀ i, 2 * (f (5 + v) / 32) ≤ i → i < 10 → (n_up f (5 + v) (n_D (f (5 + v)) (f (5 + v) / 32 + k))) (9 + (v * 10 + i)) = 0 := fun i k1 hi => by
    rw [n_up_ne (by omega)]
    exact Decidable.byContradiction (fun z => by have := T.g v i hv hi z; omega)
  have hfr : f (5 + v) / 32 ≤ (n_up f (5 + v) (n_D (f (5 + v)) (f (5 + v) / 32 + k))) (5 + v) / 32 := by rw [ef]; omega
  have ds : xk_Ev (xp_P sc) 28 0 [.ref 7, .int (Int32.ofNat v), .int (Int32.ofNat (f (5 + v) % 4) - 1), .int (Int32.ofNat (f (5 + v) / 4 % 8)), .int (Int32.ofNat (f (5 + v) / 32) + Int32.ofNat k)] [] (cs (s) (ab) (ta) (ta) (md) (n_ml m) (n_mt x) (mc) (1) r) (.inl none, 0, cs (s) (ab) (ta) (s_mk ta (n_up f (5 + v) (n_D (f (5 + v)) (f (5 + v) / 32 + k)))) (md) (n_ml m) (n_mt x) (mc) (1) r) := by
    rw [← eU]
    exact d_describe hv
  obtain ⟨d2, z2, fn⟩ := k_fill_n (sc := sc) (ab := ab) (ta := ta) (md := md) (mc := mc) (on := 1) (r := r) (from_ := f (5 + v) / 32) (s := s) T.z T1 hb hx1 hm1 hv h51 hfr hl1 hn
  refine ⟨d2, z2, ?_⟩
  apply xk_Ev.of
  refine xk_Po.go 1 rfl ?_
  refine xk_Po.cv1 rfl rfl (c_requirePower (show ¬ (1 : Int32) = 0 by decide)) ?_
  refine xk_Po.go 2 rfl ?_
  refine xk_Po.cv2 rfl rfl (c_requireVolume hv hu) ?_
  refine xk_Po.go 3 rfl ?_
  refine xk_Po.ci2 rfl rfl (k_elN T hv) ?_
  refine xk_Po.go 3 rfl ?_
  refine xk_Po.br rfl rfl (fun hZ => absurd hZ (h0)) (fun _ => ?_) -- 12 .if_icmp .lt 25
  refine xk_Po.go 2 rfl ?_
  refine xk_Po.br rfl rfl (fun hZ => absurd hZ (h1)) (fun _ => ?_) -- 15 .if_icmp .gt 25
  refine xk_Po.go 3 rfl ?_
  refine xk_Po.ci2 rfl rfl (k_coN T hv h5) ?_
  refine xk_Po.go 3 rfl ?_
  refine xk_Po.ci2 rfl rfl (c_mayHave) ?_
  refine xk_Po.br rfl rfl (fun hZ => absurd hZ (fun z => xn_b0 z hf)) (fun _ => ?_) -- 24 .ifCond .ne 26
  refine xk_Po.go 1 rfl ?_
  refine xk_Po.cv1 rfl rfl (c_requireListedPresent hb hq) ?_
  refine xk_Po.go 1 rfl ?_
  refine xk_Po.cv1 rfl rfl (c_beginDraft T.z hd) ?_
  refine xk_Po.go 6 rfl ?_
  refine xk_Po.ci2 rfl rfl (k_kiN T hv h5) ?_
  refine xk_Po.go 3 rfl ?_
  refine xk_Po.ci2 rfl rfl (k_coN T hv h5) ?_
  refine xk_Po.go 3 rfl ?_
  refine xk_Po.cv5 rfl rfl (ds) ?_
  refine xk_Po.go 3 rfl ?_
  exact xk_Po.ct3 rfl rfl (fn) rfl rfl
theorem k_grow_1 {v : Nat} (hv : v < 4) (hu : ¬ ta (5 + v) = 0) {f : Nat → Nat} (T : s_Tv ta f) (h5 : f (5 + v) ≠ 0) {k : Nat} (hk : f (5 + v) / 32 + k < 6) (h0 : ¬ Int32.ofNat k < Int32.ofInt 1) (h1 : ¬ Int32.ofInt 5 < Int32.ofNat k) (hf : (¬ (Int32.ofNat (f (5 + v) / 32) + Int32.ofNat k) < Int32.ofInt 1 ∧ ¬ Int32.ofInt 5 < (Int32.ofNat (f (5 + v) / 32) + Int32.ofNat k) ∧ ¬ Int32.ofNat (f (5 + v) / 4 % 8) < Int32.ofInt 1 ∧ (Int32.ofNat (f (5 + v) / 32) + Int32.ofNat k) % Int32.ofNat (f (5 + v) / 4 % 8) = 0)) (hb : ∀ i, ab i = 0 ∨ ab i = 1) (hq : s_any (fun j => ¬ ta (1 + j) = 0 ∧ ¬ ab j = 0) 4 0 = 0) {m x : Nat} {s : s_S} (hd : ∀ i, 51 ≤ i → dr i = 0) (T1 : n_Tv (n_up f (5 + v) (n_D (f (5 + v)) (f (5 + v) / 32 + k)))) (hx : n_tg f x) (hm : m < 40 → f (9 + m) ≠ 0) {g : Nat → Nat} (hn : n_fil ab m x v (2 * ((n_up f (5 + v) (n_D (f (5 + v)) (f (5 + v) / 32 + k))) (5 + v) / 32) - 2 * (f (5 + v) / 32)) (2 * (f (5 + v) / 32)) (n_up f (5 + v) (n_D (f (5 + v)) (f (5 + v) / 32 + k))) = some g) (Tg : n_Tv g) (K1 : ∀ i, i < 9 → g i = (n_up f (5 + v) (n_D (f (5 + v)) (f (5 + v) / 32 + k))) i) (K4 : ∀ i, 2 * (f (5 + v) / 32) ≤ i → i < 2 * ((n_up f (5 + v) (n_D (f (5 + v)) (f (5 + v) / 32 + k))) (5 + v) / 32) → (i % 2 = 0 ∨ (n_up f (5 + v) (n_D (f (5 + v)) (f (5 + v) / 32 + k))) (5 + v) % 4 = 3) → g (9 + (v * 10 + i)) ≠ 0) (ho : (m_seq (m_for (m_cle g v) (2 * ((n_up f (5 + v) (n_D (f (5 + v)) (f (5 + v) / 32 + k))) (5 + v) / 32) - 2 * (f (5 + v) / 32)) (2 * (f (5 + v) / 32))) (m_com (s_seal (s_mk ta g) (ta 0 + 1)) ab) s).1 = true) : xk_Ev (xp_P sc) 44 0 [.ref 0, .int (Int32.ofNat v), .int (Int32.ofNat k), .retAddr 0] [] (cs (s) (ab) (ta) (dr) (md) (n_ml m) (n_mt x) (mc) (1) r) (.inl (some (.int ((Int32.ofNat (f (5 + v) / 32) + Int32.ofNat k)))), 0, cs ((m_seq (m_for (m_cle g v) (2 * ((n_up f (5 + v) (n_D (f (5 + v)) (f (5 + v) / 32 + k))) (5 + v) / 32) - 2 * (f (5 + v) / 32)) (2 * (f (5 + v) / 32))) (m_com (s_seal (s_mk ta g) (ta 0 + 1)) ab) s).2) (ab) (s_seal (s_mk ta g) (ta 0 + 1)) (s_seal (s_mk ta g) (ta 0 + 1)) (md) ((s_ml (s_seal (s_mk ta g) (ta 0 + 1)) (n_ml m) (n_mt x)).1) ((s_ml (s_seal (s_mk ta g) (ta 0 + 1)) (n_ml m) (n_mt x)).2) (mc) (1) r) := by
  have e2 := s_dv_D2 _ (T.v v hv) h5 (f (5 + v) / 32 + k) hk
  have eU : upd ta (5 + v) (1 + (Int32.ofNat (f (5 + v) % 4) - 1) + 4 * Int32.ofNat (f (5 + v) / 4 % 8) + 32 * (Int32.ofNat (f (5 + v) / 32) + Int32.ofNat k)) = s_mk ta (n_up f (5 + v) (n_D (f (5 + v)) (f (5 + v) / 32 + k))) := by
    rw [xn_add, k_des T hv h5 hk, ← s_mk_up (by omega) (by omega), s_mk_self T.w]
  have hx1 : n_tg (n_up f (5 + v) (n_D (f (5 + v)) (f (5 + v) / 32 + k))) x := fun z => by
    obtain ⟨q1, q2⟩ := hx z
    refine ⟨by rw [n_up_ne (by omega)]; exact q1, fun ⟨i, k1, k2⟩ => q2 ⟨i, k1, by rw [n_up_ne (by omega)] at k2; exact k2⟩⟩
  have hm1 : m < 40 → (n_up f (5 + v) (n_D (f (5 + v)) (f (5 + v) / 32 + k))) (9 + m) ≠ 0 := fun z => by rw [n_up_ne (by omega)]; exact hm z
  have ef : (n_up f (5 + v) (n_D (f (5 + v)) (f (5 + v) / 32 + k))) (5 + v) / 32 = f (5 + v) / 32 + k := by rw [n_up_at]; exact e2.1
  have hel : 1 ≤ f (5 + v) / 32 := (s_dv_col _ (T.v v hv) h5).2.2.2.1
  have h51 : (n_up f (5 + v) (n_D (f (5 + v)) (f (5 + v) / 32 + k))) (5 + v) ≠ 0 := fun z => by rw [z] at ef; omega
  have hl1 : ∀ i, 2 * (f (5 + v) / 32) ≤ i → i < 10 → (n_up f (5 + v) (n_D (f (5 + v)) (f (5 + v) / 32 + k))) (9 + (v * 10 + i)) = 0 := fun i k1 hi => by
    rw [n_up_ne (by omega)]
    exact Decidable.byContradiction (fun z => by have := T.g v i hv hi z; omega)
  have hfr : f (5 + v) / 32 ≤ (n_up f (5 + v) (n_D (f (5 + v)) (f (5 + v) / 32 + k))) (5 + v) / 32 := by rw [ef]; omega
  have ds : xk_Ev (xp_P sc) 28 0 [.ref 7, .int (Int32.ofNat v), .int (Int32.ofNat (f (5 + v) % 4) - 1), .int (Int32.ofNat (f (5 + v) / 4 % 8)), .int (Int32.ofNat (f (5 + v) / 32) + Int32.ofNat k)] [] (cs (s) (ab) (ta) (ta) (md) (n_ml m) (n_mt x) (mc) (1) r) (.inl none, 0, cs (s) (ab) (ta) (s_mk ta (n_up f (5 + v) (n_D (f (5 + v)) (f (5 + v) / 32 + k)))) (md) (n_ml m) (n_mt x) (mc) (1) r) := by
    rw [← eU]
    exact d_describe hv
  apply xk_Ev.of
  refine xk_Po.go 1 rfl ?_
  refine xk_Po.cv1 rfl rfl (c_requirePower (show ¬ (1 : Int32) = 0 by decide)) ?_
  refine xk_Po.go 2 rfl ?_
  refine xk_Po.cv2 rfl rfl (c_requireVolume hv hu) ?_
  refine xk_Po.go 3 rfl ?_
  refine xk_Po.ci2 rfl rfl (k_elN T hv) ?_
  refine xk_Po.go 3 rfl ?_
  refine xk_Po.br rfl rfl (fun hZ => absurd hZ (h0)) (fun _ => ?_) -- 12 .if_icmp .lt 25
  refine xk_Po.go 2 rfl ?_
  refine xk_Po.br rfl rfl (fun hZ => absurd hZ (h1)) (fun _ => ?_) -- 15 .if_icmp .gt 25
  refine xk_Po.go 3 rfl ?_
  refine xk_Po.ci2 rfl rfl (k_coN T hv h5) ?_
  refine xk_Po.go 3 rfl ?_
  refine xk_Po.ci2 rfl rfl (c_mayHave) ?_
  refine xk_Po.br rfl rfl (fun hZ => absurd hZ (fun z => xn_b0 z hf)) (fun _ => ?_) -- 24 .ifCond .ne 26
  refine xk_Po.go 1 rfl ?_
  refine xk_Po.cv1 rfl rfl (c_requireListedPresent hb hq) ?_
  refine xk_Po.go 1 rfl ?_
  refine xk_Po.cv1 rfl rfl (c_beginDraft T.z hd) ?_
  refine xk_Po.go 6 rfl ?_
  refine xk_Po.ci2 rfl rfl (k_kiN T hv h5) ?_
  refine xk_Po.go 3 rfl ?_
  refine xk_Po.ci2 rfl rfl (k_coN T hv h5) ?_
  refine xk_Po.go 3 rfl ?_
  refine xk_Po.cv5 rfl rfl (ds) ?_
  refine xk_Po.go 3 rfl ?_
  refine xk_Po.cv3 rfl rfl (k_fill_1 (sc := sc) (ab := ab) (ta := ta) (md := md) (mc := mc) (on := 1) (r := r) (from_ := f (5 + v) / 32) (s := s) T.z T1 hb hx1 hm1 hv h51 hfr hl1 hn Tg K1 K4 hq ho) ?_
  refine xk_Po.go 3 rfl ?_
  exact xk_Po.iret rfl (rfl)
theorem k_grow_0 {v : Nat} (hv : v < 4) (hu : ¬ ta (5 + v) = 0) {f : Nat → Nat} (T : s_Tv ta f) (h5 : f (5 + v) ≠ 0) {k : Nat} (hk : f (5 + v) / 32 + k < 6) (h0 : ¬ Int32.ofNat k < Int32.ofInt 1) (h1 : ¬ Int32.ofInt 5 < Int32.ofNat k) (hf : (¬ (Int32.ofNat (f (5 + v) / 32) + Int32.ofNat k) < Int32.ofInt 1 ∧ ¬ Int32.ofInt 5 < (Int32.ofNat (f (5 + v) / 32) + Int32.ofNat k) ∧ ¬ Int32.ofNat (f (5 + v) / 4 % 8) < Int32.ofInt 1 ∧ (Int32.ofNat (f (5 + v) / 32) + Int32.ofNat k) % Int32.ofNat (f (5 + v) / 4 % 8) = 0)) (hb : ∀ i, ab i = 0 ∨ ab i = 1) (hq : s_any (fun j => ¬ ta (1 + j) = 0 ∧ ¬ ab j = 0) 4 0 = 0) {m x : Nat} {s : s_S} (hd : ∀ i, 51 ≤ i → dr i = 0) (T1 : n_Tv (n_up f (5 + v) (n_D (f (5 + v)) (f (5 + v) / 32 + k)))) (hx : n_tg f x) (hm : m < 40 → f (9 + m) ≠ 0) {g : Nat → Nat} (hn : n_fil ab m x v (2 * ((n_up f (5 + v) (n_D (f (5 + v)) (f (5 + v) / 32 + k))) (5 + v) / 32) - 2 * (f (5 + v) / 32)) (2 * (f (5 + v) / 32)) (n_up f (5 + v) (n_D (f (5 + v)) (f (5 + v) / 32 + k))) = some g) (Tg : n_Tv g) (K1 : ∀ i, i < 9 → g i = (n_up f (5 + v) (n_D (f (5 + v)) (f (5 + v) / 32 + k))) i) (K4 : ∀ i, 2 * (f (5 + v) / 32) ≤ i → i < 2 * ((n_up f (5 + v) (n_D (f (5 + v)) (f (5 + v) / 32 + k))) (5 + v) / 32) → (i % 2 = 0 ∨ (n_up f (5 + v) (n_D (f (5 + v)) (f (5 + v) / 32 + k))) (5 + v) % 4 = 3) → g (9 + (v * 10 + i)) ≠ 0) (ho : ¬ (m_seq (m_for (m_cle g v) (2 * ((n_up f (5 + v) (n_D (f (5 + v)) (f (5 + v) / 32 + k))) (5 + v) / 32) - 2 * (f (5 + v) / 32)) (2 * (f (5 + v) / 32))) (m_com (s_seal (s_mk ta g) (ta 0 + 1)) ab) s).1 = true) : ∃ d2, (∀ i, 51 ≤ i → d2 i = 0) ∧ xk_Ev (xp_P sc) 44 0 [.ref 0, .int (Int32.ofNat v), .int (Int32.ofNat k), .retAddr 0] [] (cs (s) (ab) (ta) (dr) (md) (n_ml m) (n_mt x) (mc) (1) r) (.inr 0, 1, cl ((m_seq (m_for (m_cle g v) (2 * ((n_up f (5 + v) (n_D (f (5 + v)) (f (5 + v) / 32 + k))) (5 + v) / 32) - 2 * (f (5 + v) / 32)) (2 * (f (5 + v) / 32))) (m_com (s_seal (s_mk ta g) (ta 0 + 1)) ab) s).2) ab ta (d2) (mc) r) := by
  have e2 := s_dv_D2 _ (T.v v hv) h5 (f (5 + v) / 32 + k) hk
  have eU : upd ta (5 + v) (1 + (Int32.ofNat (f (5 + v) % 4) - 1) + 4 * Int32.ofNat (f (5 + v) / 4 % 8) + 32 * (Int32.ofNat (f (5 + v) / 32) + Int32.ofNat k)) = s_mk ta (n_up f (5 + v) (n_D (f (5 + v)) (f (5 + v) / 32 + k))) := by
    rw [xn_add, k_des T hv h5 hk, ← s_mk_up (by omega) (by omega), s_mk_self T.w]
  have hx1 : n_tg (n_up f (5 + v) (n_D (f (5 + v)) (f (5 + v) / 32 + k))) x := fun z => by
    obtain ⟨q1, q2⟩ := hx z
    refine ⟨by rw [n_up_ne (by omega)]; exact q1, fun ⟨i, k1, k2⟩ => q2 ⟨i, k1, by rw [n_up_ne (by omega)] at k2; exact k2⟩⟩
  have hm1 : m < 40 → (n_up f (5 + v) (n_D (f (5 + v)) (f (5 + v) / 32 + k))) (9 + m) ≠ 0 := fun z => by rw [n_up_ne (by omega)]; exact hm z
  have ef : (n_up f (5 + v) (n_D (f (5 + v)) (f (5 + v) / 32 + k))) (5 + v) / 32 = f (5 + v) / 32 + k := by rw [n_up_at]; exact e2.1
  have hel : 1 ≤ f (5 + v) / 32 := (s_dv_col _ (T.v v hv) h5).2.2.2.1
  have h51 : (n_up f (5 + v) (n_D (f (5 + v)) (f (5 + v) / 32 + k))) (5 + v) ≠ 0 := fun z => by rw [z] at ef; omega
  have hl1 : ∀ i, 2 * (f (5 + v) / 32) ≤ i → i < 10 → (n_up f (5 + v) (n_D (f (5 + v)) (f (5 + v) / 32 + k))) (9 + (v * 10 + i)) = 0 := fun i k1 hi => by
    rw [n_up_ne (by omega)]
    exact Decidable.byContradiction (fun z => by have := T.g v i hv hi z; omega)
  have hfr : f (5 + v) / 32 ≤ (n_up f (5 + v) (n_D (f (5 + v)) (f (5 + v) / 32 + k))) (5 + v) / 32 := by rw [ef]; omega
  have ds : xk_Ev (xp_P sc) 28 0 [.ref 7, .int (Int32.ofNat v), .int (Int32.ofNat (f (5 + v) % 4) - 1), .int (Int32.ofNat (f (5 + v) / 4 % 8)), .int (Int32.ofNat (f (5 + v) / 32) + Int32.ofNat k)] [] (cs (s) (ab) (ta) (ta) (md) (n_ml m) (n_mt x) (mc) (1) r) (.inl none, 0, cs (s) (ab) (ta) (s_mk ta (n_up f (5 + v) (n_D (f (5 + v)) (f (5 + v) / 32 + k)))) (md) (n_ml m) (n_mt x) (mc) (1) r) := by
    rw [← eU]
    exact d_describe hv
  obtain ⟨d2, z2, fn⟩ := k_fill_0 (sc := sc) (ab := ab) (ta := ta) (md := md) (mc := mc) (on := 1) (r := r) (from_ := f (5 + v) / 32) (s := s) T.z T1 hb hx1 hm1 hv h51 hfr hl1 hn Tg K1 K4 hq ho
  refine ⟨d2, z2, ?_⟩
  apply xk_Ev.of
  refine xk_Po.go 1 rfl ?_
  refine xk_Po.cv1 rfl rfl (c_requirePower (show ¬ (1 : Int32) = 0 by decide)) ?_
  refine xk_Po.go 2 rfl ?_
  refine xk_Po.cv2 rfl rfl (c_requireVolume hv hu) ?_
  refine xk_Po.go 3 rfl ?_
  refine xk_Po.ci2 rfl rfl (k_elN T hv) ?_
  refine xk_Po.go 3 rfl ?_
  refine xk_Po.br rfl rfl (fun hZ => absurd hZ (h0)) (fun _ => ?_) -- 12 .if_icmp .lt 25
  refine xk_Po.go 2 rfl ?_
  refine xk_Po.br rfl rfl (fun hZ => absurd hZ (h1)) (fun _ => ?_) -- 15 .if_icmp .gt 25
  refine xk_Po.go 3 rfl ?_
  refine xk_Po.ci2 rfl rfl (k_coN T hv h5) ?_
  refine xk_Po.go 3 rfl ?_
  refine xk_Po.ci2 rfl rfl (c_mayHave) ?_
  refine xk_Po.br rfl rfl (fun hZ => absurd hZ (fun z => xn_b0 z hf)) (fun _ => ?_) -- 24 .ifCond .ne 26
  refine xk_Po.go 1 rfl ?_
  refine xk_Po.cv1 rfl rfl (c_requireListedPresent hb hq) ?_
  refine xk_Po.go 1 rfl ?_
  refine xk_Po.cv1 rfl rfl (c_beginDraft T.z hd) ?_
  refine xk_Po.go 6 rfl ?_
  refine xk_Po.ci2 rfl rfl (k_kiN T hv h5) ?_
  refine xk_Po.go 3 rfl ?_
  refine xk_Po.ci2 rfl rfl (k_coN T hv h5) ?_
  refine xk_Po.go 3 rfl ?_
  refine xk_Po.cv5 rfl rfl (ds) ?_
  refine xk_Po.go 3 rfl ?_
  exact xk_Po.ct3 rfl rfl (fn) rfl rfl
theorem k_shrink_ge {v : Nat} (hv : v < 4) (hu : ¬ ta (5 + v) = 0) {f : Nat → Nat} (T : s_Tv ta f) (h5 : f (5 + v) ≠ 0) {m2 : Int32} (h : Int32.ofNat (f (5 + v) / 32) ≤ m2) : xk_Ev (xp_P sc) 45 0 [.ref 0, .int (Int32.ofNat v), .int m2, .retAddr 0] [] (cw sl ex ab ta dr md ml mt mc (1) ct r) (.inr 1, 1, cw sl ex ab ta dr md ml mt mc (1) ct r) := by
  apply xk_Ev.of
  refine xk_Po.go 1 rfl ?_
  refine xk_Po.cv1 rfl rfl (c_requirePower (show ¬ (1 : Int32) = 0 by decide)) ?_
  refine xk_Po.go 2 rfl ?_
  refine xk_Po.cv2 rfl rfl (c_requireVolume hv hu) ?_
  refine xk_Po.go 3 rfl ?_
  refine xk_Po.ci2 rfl rfl (k_elN T hv) ?_
  refine xk_Po.go 3 rfl ?_
  refine xk_Po.br rfl rfl (fun _ => ?_) (fun hZ => absurd (h) hZ) -- 12 .if_icmp .ge 20
  exact xk_Po.thr rfl (rfl)
theorem k_shrink_no {v : Nat} (hv : v < 4) (hu : ¬ ta (5 + v) = 0) {f : Nat → Nat} (T : s_Tv ta f) (h5 : f (5 + v) ≠ 0) {m2 : Int32} (h0 : ¬ Int32.ofNat (f (5 + v) / 32) ≤ m2) (h : ¬ (¬ m2 < Int32.ofInt 1 ∧ ¬ Int32.ofInt 5 < m2 ∧ ¬ Int32.ofNat (f (5 + v) / 4 % 8) < Int32.ofInt 1 ∧ m2 % Int32.ofNat (f (5 + v) / 4 % 8) = 0)) : xk_Ev (xp_P sc) 45 0 [.ref 0, .int (Int32.ofNat v), .int m2, .retAddr 0] [] (cw sl ex ab ta dr md ml mt mc (1) ct r) (.inr 1, 1, cw sl ex ab ta dr md ml mt mc (1) ct r) := by
  apply xk_Ev.of
  refine xk_Po.go 1 rfl ?_
  refine xk_Po.cv1 rfl rfl (c_requirePower (show ¬ (1 : Int32) = 0 by decide)) ?_
  refine xk_Po.go 2 rfl ?_
  refine xk_Po.cv2 rfl rfl (c_requireVolume hv hu) ?_
  refine xk_Po.go 3 rfl ?_
  refine xk_Po.ci2 rfl rfl (k_elN T hv) ?_
  refine xk_Po.go 3 rfl ?_
  refine xk_Po.br rfl rfl (fun hZ => absurd hZ (h0)) (fun _ => ?_) -- 12 .if_icmp .ge 20
  refine xk_Po.go 3 rfl ?_
  refine xk_Po.ci2 rfl rfl (k_coN T hv h5) ?_
  refine xk_Po.go 1 rfl ?_
  refine xk_Po.ci2 rfl rfl (c_mayHave) ?_
  refine xk_Po.br rfl rfl (fun _ => ?_) (fun hZ => absurd (xn_bf h) hZ) -- 19 .ifCond .ne 21
  exact xk_Po.thr rfl (rfl)
theorem k_shrink_ab {v : Nat} (hv : v < 4) (hu : ¬ ta (5 + v) = 0) {f : Nat → Nat} (T : s_Tv ta f) (h5 : f (5 + v) ≠ 0) {m2 : Int32} (h0 : ¬ Int32.ofNat (f (5 + v) / 32) ≤ m2) (hf : (¬ m2 < Int32.ofInt 1 ∧ ¬ Int32.ofInt 5 < m2 ∧ ¬ Int32.ofNat (f (5 + v) / 4 % 8) < Int32.ofInt 1 ∧ m2 % Int32.ofNat (f (5 + v) / 4 % 8) = 0)) (hb : ∀ i, ab i = 0 ∨ ab i = 1) (h : ¬ s_any (fun j => ¬ ta (1 + j) = 0 ∧ ¬ ab j = 0) 4 0 = 0) : xk_Ev (xp_P sc) 45 0 [.ref 0, .int (Int32.ofNat v), .int m2, .retAddr 0] [] (cw sl ex ab ta dr md ml mt mc (1) ct r) (.inr 2, 1, cw sl ex ab ta dr md ml mt mc (1) ct r) := by
  apply xk_Ev.of
  refine xk_Po.go 1 rfl ?_
  refine xk_Po.cv1 rfl rfl (c_requirePower (show ¬ (1 : Int32) = 0 by decide)) ?_
  refine xk_Po.go 2 rfl ?_
  refine xk_Po.cv2 rfl rfl (c_requireVolume hv hu) ?_
  refine xk_Po.go 3 rfl ?_
  refine xk_Po.ci2 rfl rfl (k_elN T hv) ?_
  refine xk_Po.go 3 rfl ?_
  refine xk_Po.br rfl rfl (fun hZ => absurd hZ (h0)) (fun _ => ?_) -- 12 .if_icmp .ge 20
  refine xk_Po.go 3 rfl ?_
  refine xk_Po.ci2 rfl rfl (k_coN T hv h5) ?_
  refine xk_Po.go 1 rfl ?_
  refine xk_Po.ci2 rfl rfl (c_mayHave) ?_
  refine xk_Po.br rfl rfl (fun hZ => absurd hZ (fun z => xn_b0 z hf)) (fun _ => ?_) -- 19 .ifCond .ne 21
  refine xk_Po.go 1 rfl ?_
  exact xk_Po.ct1 rfl rfl (c_requireListedPresent_t hb h) rfl rfl
theorem k_shrink_1 {v : Nat} (hv : v < 4) (hu : ¬ ta (5 + v) = 0) {f : Nat → Nat} (T : s_Tv ta f) (h5 : f (5 + v) ≠ 0) {k : Nat} (hk : k < 6) (h0 : ¬ Int32.ofNat (f (5 + v) / 32) ≤ Int32.ofNat k) (hf : (¬ Int32.ofNat k < Int32.ofInt 1 ∧ ¬ Int32.ofInt 5 < Int32.ofNat k ∧ ¬ Int32.ofNat (f (5 + v) / 4 % 8) < Int32.ofInt 1 ∧ Int32.ofNat k % Int32.ofNat (f (5 + v) / 4 % 8) = 0)) (hb : ∀ i, ab i = 0 ∨ ab i = 1) (hq : s_any (fun j => ¬ ta (1 + j) = 0 ∧ ¬ ab j = 0) 4 0 = 0) {m x : Nat} {s : s_S} (hd : ∀ i, 51 ≤ i → dr i = 0) (ho : (m_com (s_seal (s_clr (upd ta (5 + v) (Int32.ofNat (n_D (f (5 + v)) k))) (fun _ => True) (9 + (v * 10 + k * 2 + 0)) (10 - k * 2)) (ta 0 + 1)) ab s).1 = true) : xk_Ev (xp_P sc) 45 0 [.ref 0, .int (Int32.ofNat v), .int (Int32.ofNat k), .retAddr 0] [] (cs (s) (ab) (ta) (dr) (md) (n_ml m) (n_mt x) (mc) (1) r) (.inl (some (.int (Int32.ofNat (f (5 + v) / 32) - Int32.ofNat k))), 0, cs ((m_com (s_seal (s_clr (upd ta (5 + v) (Int32.ofNat (n_D (f (5 + v)) k))) (fun _ => True) (9 + (v * 10 + k * 2 + 0)) (10 - k * 2)) (ta 0 + 1)) ab s).2) (ab) (s_seal (s_clr (upd ta (5 + v) (Int32.ofNat (n_D (f (5 + v)) k))) (fun _ => True) (9 + (v * 10 + k * 2 + 0)) (10 - k * 2)) (ta 0 + 1)) (s_seal (s_clr (upd ta (5 + v) (Int32.ofNat (n_D (f (5 + v)) k))) (fun _ => True) (9 + (v * 10 + k * 2 + 0)) (10 - k * 2)) (ta 0 + 1)) (md) ((s_ml (s_seal (s_clr (upd ta (5 + v) (Int32.ofNat (n_D (f (5 + v)) k))) (fun _ => True) (9 + (v * 10 + k * 2 + 0)) (10 - k * 2)) (ta 0 + 1)) (n_ml m) (n_mt x)).1) ((s_ml (s_seal (s_clr (upd ta (5 + v) (Int32.ofNat (n_D (f (5 + v)) k))) (fun _ => True) (9 + (v * 10 + k * 2 + 0)) (10 - k * 2)) (ta 0 + 1)) (n_ml m) (n_mt x)).2) (mc) (1) r) := by
  have hml : ¬ n_ml m = Int32.ofInt (-1) → ∃ j, j < 40 ∧ n_ml m = Int32.ofNat j := fun q => by
    by_cases k : m < 40
    · exact ⟨m, k, if_pos k⟩
    · exact absurd (if_neg k) q
  have ds : xk_Ev (xp_P sc) 28 0 [.ref 7, .int (Int32.ofNat v), .int (Int32.ofNat (f (5 + v) % 4) - 1), .int (Int32.ofNat (f (5 + v) / 4 % 8)), .int (Int32.ofNat k)] [] (cs (s) (ab) (ta) (ta) (md) (n_ml m) (n_mt x) (mc) (1) r) (.inl none, 0, cs (s) (ab) (ta) (upd ta (5 + v) (Int32.ofNat (n_D (f (5 + v)) k))) (md) (n_ml m) (n_mt x) (mc) (1) r) := by
    rw [← k_des T hv h5 hk]
    exact d_describe hv
  have cm := c_commitDraft1 (sc := sc) (s := s) (ab := ab) (ta := ta) (dr := s_clr (upd ta (5 + v) (Int32.ofNat (n_D (f (5 + v)) k))) (fun _ => True) (9 + (v * 10 + k * 2 + 0)) (10 - k * 2)) (md := md) (ml := n_ml m) (mt := n_mt x) (mc := mc) (on := 1) (r := r) hb hq T.z (s_clr_z (upd_z T.z (by omega)) _ (by omega)) hml
  unfold s_out at cm
  rw [if_pos ho] at cm
  apply xk_Ev.of
  refine xk_Po.go 1 rfl ?_
  refine xk_Po.cv1 rfl rfl (c_requirePower (show ¬ (1 : Int32) = 0 by decide)) ?_
  refine xk_Po.go 2 rfl ?_
  refine xk_Po.cv2 rfl rfl (c_requireVolume hv hu) ?_
  refine xk_Po.go 3 rfl ?_
  refine xk_Po.ci2 rfl rfl (k_elN T hv) ?_
  refine xk_Po.go 3 rfl ?_
  refine xk_Po.br rfl rfl (fun hZ => absurd hZ (h0)) (fun _ => ?_) -- 12 .if_icmp .ge 20
  refine xk_Po.go 3 rfl ?_
  refine xk_Po.ci2 rfl rfl (k_coN T hv h5) ?_
  refine xk_Po.go 1 rfl ?_
  refine xk_Po.ci2 rfl rfl (c_mayHave) ?_
  refine xk_Po.br rfl rfl (fun hZ => absurd hZ (fun z => xn_b0 z hf)) (fun _ => ?_) -- 19 .ifCond .ne 21
  refine xk_Po.go 1 rfl ?_
  refine xk_Po.cv1 rfl rfl (c_requireListedPresent hb hq) ?_
  refine xk_Po.go 1 rfl ?_
  refine xk_Po.cv1 rfl rfl (c_beginDraft T.z hd) ?_
  refine xk_Po.go 6 rfl ?_
  refine xk_Po.ci2 rfl rfl (k_kiN T hv h5) ?_
  refine xk_Po.go 3 rfl ?_
  refine xk_Po.ci2 rfl rfl (k_coN T hv h5) ?_
  refine xk_Po.go 1 rfl ?_
  refine xk_Po.cv5 rfl rfl (ds) ?_
  refine xk_Po.go 4 rfl ?_
  refine xk_Po.cv3 rfl rfl (d_loseElements hv (by omega)) ?_
  refine xk_Po.go 1 rfl ?_
  refine xk_Po.cv1 rfl rfl (cm) ?_
  refine xk_Po.go 3 rfl ?_
  exact xk_Po.iret rfl (rfl)
theorem k_shrink_0 {v : Nat} (hv : v < 4) (hu : ¬ ta (5 + v) = 0) {f : Nat → Nat} (T : s_Tv ta f) (h5 : f (5 + v) ≠ 0) {k : Nat} (hk : k < 6) (h0 : ¬ Int32.ofNat (f (5 + v) / 32) ≤ Int32.ofNat k) (hf : (¬ Int32.ofNat k < Int32.ofInt 1 ∧ ¬ Int32.ofInt 5 < Int32.ofNat k ∧ ¬ Int32.ofNat (f (5 + v) / 4 % 8) < Int32.ofInt 1 ∧ Int32.ofNat k % Int32.ofNat (f (5 + v) / 4 % 8) = 0)) (hb : ∀ i, ab i = 0 ∨ ab i = 1) (hq : s_any (fun j => ¬ ta (1 + j) = 0 ∧ ¬ ab j = 0) 4 0 = 0) {m x : Nat} {s : s_S} (hd : ∀ i, 51 ≤ i → dr i = 0) (ho : ¬ (m_com (s_seal (s_clr (upd ta (5 + v) (Int32.ofNat (n_D (f (5 + v)) k))) (fun _ => True) (9 + (v * 10 + k * 2 + 0)) (10 - k * 2)) (ta 0 + 1)) ab s).1 = true) : xk_Ev (xp_P sc) 45 0 [.ref 0, .int (Int32.ofNat v), .int (Int32.ofNat k), .retAddr 0] [] (cs (s) (ab) (ta) (dr) (md) (n_ml m) (n_mt x) (mc) (1) r) (.inr 0, 1, cl ((m_com (s_seal (s_clr (upd ta (5 + v) (Int32.ofNat (n_D (f (5 + v)) k))) (fun _ => True) (9 + (v * 10 + k * 2 + 0)) (10 - k * 2)) (ta 0 + 1)) ab s).2) ab ta (s_seal (s_clr (upd ta (5 + v) (Int32.ofNat (n_D (f (5 + v)) k))) (fun _ => True) (9 + (v * 10 + k * 2 + 0)) (10 - k * 2)) (ta 0 + 1)) (mc) r) := by
  have hml : ¬ n_ml m = Int32.ofInt (-1) → ∃ j, j < 40 ∧ n_ml m = Int32.ofNat j := fun q => by
    by_cases k : m < 40
    · exact ⟨m, k, if_pos k⟩
    · exact absurd (if_neg k) q
  have ds : xk_Ev (xp_P sc) 28 0 [.ref 7, .int (Int32.ofNat v), .int (Int32.ofNat (f (5 + v) % 4) - 1), .int (Int32.ofNat (f (5 + v) / 4 % 8)), .int (Int32.ofNat k)] [] (cs (s) (ab) (ta) (ta) (md) (n_ml m) (n_mt x) (mc) (1) r) (.inl none, 0, cs (s) (ab) (ta) (upd ta (5 + v) (Int32.ofNat (n_D (f (5 + v)) k))) (md) (n_ml m) (n_mt x) (mc) (1) r) := by
    rw [← k_des T hv h5 hk]
    exact d_describe hv
  have cm := c_commitDraft1 (sc := sc) (s := s) (ab := ab) (ta := ta) (dr := s_clr (upd ta (5 + v) (Int32.ofNat (n_D (f (5 + v)) k))) (fun _ => True) (9 + (v * 10 + k * 2 + 0)) (10 - k * 2)) (md := md) (ml := n_ml m) (mt := n_mt x) (mc := mc) (on := 1) (r := r) hb hq T.z (s_clr_z (upd_z T.z (by omega)) _ (by omega)) hml
  unfold s_out at cm
  rw [if_neg ho] at cm
  apply xk_Ev.of
  refine xk_Po.go 1 rfl ?_
  refine xk_Po.cv1 rfl rfl (c_requirePower (show ¬ (1 : Int32) = 0 by decide)) ?_
  refine xk_Po.go 2 rfl ?_
  refine xk_Po.cv2 rfl rfl (c_requireVolume hv hu) ?_
  refine xk_Po.go 3 rfl ?_
  refine xk_Po.ci2 rfl rfl (k_elN T hv) ?_
  refine xk_Po.go 3 rfl ?_
  refine xk_Po.br rfl rfl (fun hZ => absurd hZ (h0)) (fun _ => ?_) -- 12 .if_icmp .ge 20
  refine xk_Po.go 3 rfl ?_
  refine xk_Po.ci2 rfl rfl (k_coN T hv h5) ?_
  refine xk_Po.go 1 rfl ?_
  refine xk_Po.ci2 rfl rfl (c_mayHave) ?_
  refine xk_Po.br rfl rfl (fun hZ => absurd hZ (fun z => xn_b0 z hf)) (fun _ => ?_) -- 19 .ifCond .ne 21
  refine xk_Po.go 1 rfl ?_
  refine xk_Po.cv1 rfl rfl (c_requireListedPresent hb hq) ?_
  refine xk_Po.go 1 rfl ?_
  refine xk_Po.cv1 rfl rfl (c_beginDraft T.z hd) ?_
  refine xk_Po.go 6 rfl ?_
  refine xk_Po.ci2 rfl rfl (k_kiN T hv h5) ?_
  refine xk_Po.go 3 rfl ?_
  refine xk_Po.ci2 rfl rfl (k_coN T hv h5) ?_
  refine xk_Po.go 1 rfl ?_
  refine xk_Po.cv5 rfl rfl (ds) ?_
  refine xk_Po.go 4 rfl ?_
  refine xk_Po.cv3 rfl rfl (d_loseElements hv (by omega)) ?_
  refine xk_Po.go 1 rfl ?_
  exact xk_Po.ct1 rfl rfl (cm) rfl rfl
end XkKgr
