/-! What the law's helpers catch. -/
section XkCatch
variable {l : Launch} {cl : List vw_C} {F : Nat → xk_F} {P : Nat → xk_M} {BW NW : List Cond} {SW : List (String × Nat × String)} {exn : Nat → String}
/-- the kind x is caught in the method k at the place i, and answered with z -/
def xk_Oh (F : Nat → xk_F) (P : Nat → xk_M) (BW NW : List Cond) (exn : Nat → String) (k i x : Nat) (z : Int) : Prop :=
  ∃ (pre suf : List (Nat × Nat × Nat × Nat)) (a b h ct : Nat) (nm : String) (lc d : Nat), (F k).2.2.2.2.2.2 = pre ++ (a, b, h, ct) :: suf ∧ a ≤ xf_pc F k i ∧ xf_pc F k i < b ∧ ct ≠ 0 ∧ Cond.classLink (F k).1.cls ct nm ∈ BW ∧ Cond.castable (exn x) nm ∈ NW ∧
    (∀ q ∈ pre, q.2.2.2 ≠ 0 ∧ ∃ n2, Cond.classLink (F k).1.cls q.2.2.2 n2 ∈ BW ∧ Cond.not (.castable (exn x) n2) ∈ NW) ∧
    ((decode (F k).2.1 h = .ok (.astore lc, 2) ∧ d = 2) ∨ ∃ q : Fin 4, (q : Nat) = lc ∧ decode (F k).2.1 h = .ok (.astore_n q, 1) ∧ d = 1) ∧ lc < (P k).2.1 ∧
    decode (F k).2.1 (h + d) = .ok (.iconst z, 1) ∧ decode (F k).2.1 (h + d + 1) = .ok (.ireturn, 1) ∧ (F k).2.2.1 = some .int
theorem xk_split {l0 : List ExceptionTableEntry} {pre suf : List (Nat × Nat × Nat × Nat)} {y : Nat × Nat × Nat × Nat} (h : l0.map (fun h => (h.startPc, h.endPc, h.handlerPc, h.catchType)) = pre ++ y :: suf) :
    ∃ (p1 : List ExceptionTableEntry) (y1 : ExceptionTableEntry) (s1 : List ExceptionTableEntry), l0 = p1 ++ y1 :: s1 ∧ p1.map (fun h => (h.startPc, h.endPc, h.handlerPc, h.catchType)) = pre ∧ (y1.startPc, y1.endPc, y1.handlerPc, y1.catchType) = y := by
  obtain ⟨p1, r1, e1, e2, e3⟩ := List.map_eq_append_iff.mp h
  obtain ⟨y1, s1, e4, e5, e6⟩ := List.map_eq_cons_iff.mp e3
  exact ⟨p1, y1, s1, by rw [e1, e4], e2, e5⟩
set_option maxHeartbeats 2000000 in
theorem xk_cat_of (h : ∀ (k i j na x : Nat) (z : Nat × Int), (P k).1[i]? = some (.invokeinterface j na) → (P k).2.2.2.1.find? (fun q => q.1 == x) = some z → xk_Oh F P BW NW exn k i x z.2) : xk_Cat l F P cl BW NW SW exn := by
  intro k i j na x z hi hz p e R s m args below meth c Q D dA ad A cells slots L st w hx hR
  obtain ⟨pre, suf, a, b, hp, ct, nm, lc, d, h1, h2, h3, h4, h5, h6, h7, h8, h9, h10, h11, h12⟩ := h k i j na x z hi hz
  obtain ⟨hexec, hb, hml, hown, hts, hN, hK, hG, hA, hRf, hRl, hlk, hrt, hxt, hsc⟩ := hx
  rw [h1] at hxt
  obtain ⟨p1, y1, s1, e1, e2, e3⟩ := xk_split hxt
  cases e3
  intro ls H locs q ce g1 g2 g3 g4 v1 v2 v3
  refine vx_catch hown p1 y1 s1 e1 (fun u hu => ?_) (by simp [covers]; exact ⟨h2, h3⟩) h4 (hts _ h5) (hN _ h6) v1 v2 v3 ?_
  · have hu2 : (u.startPc, u.endPc, u.handlerPc, u.catchType) ∈ pre := by rw [← e2]; exact List.mem_map_of_mem hu
    obtain ⟨w1, n2, w2, w3⟩ := h7 _ hu2
    exact Or.inr ⟨w1, n2, hts _ w2, va_Nc.of (hN _ w3)⟩
  · have key : ∀ ls' : Array Slot, lv_has ls' (P k).2.1 [] → W p l e R s m args below meth c H locs cells slots Q (F0 m (y1.handlerPc + d) ls' []) := by
      intro ls' hl
      refine lv_iconst hexec hb h10 rfl ?_
      have h0 : lv_has ls' (P k).2.1 (xk_l ad []) := ⟨hl.1, hl.2.1, fun q hq => by simp [xk_l] at hq⟩
      exact hR _ [] (Or.inr ⟨_, rfl, h11, Or.inl h12⟩) ls' H locs h0 g2 g3 g4
    rcases h8 with ⟨h8, rfl⟩ | ⟨q9, hq9, h8, rfl⟩
    · exact lv_astore hexec hb h8 g1 h9 rfl (fun ls' h' => key ls' ⟨h'.1, h'.2.1, fun q hq => by cases hq⟩)
    · exact lv_astore_n hexec hb h8 hq9 g1 h9 rfl (fun ls' h' => key ls' ⟨h'.1, h'.2.1, fun q hq => by cases hq⟩)
end XkCatch
