/-! The interpreter is sound: the whole. -/
section XkMain
variable {p : Program} {l : Launch} {e : Env} {R : Room} {s : State} {m : MethodId} {args : Array Value} {below : List Frame} {meth : Method} {c : Code} {Q : State → Prop} {D : va_G} {dA : Nat → ClassId} {ad : Nat → Nat} {A : Nat → Prop} {cl : List vw_C} {cells slots : Nat}
variable {F : Nat → xk_F} {P : Nat → xk_M} {BW NW : List Cond} {SW : List (String × Nat × String)} {exn : Nat → String} {k i j na : Nat} {L st : List Value} {w w1 : xk_W}
/-- a throwing place's words: new, dup, ldc, invokespecial, athrow -/
def xk_On (F : Nat → xk_F) (BW NW : List Cond) (SW : List (String × Nat × String)) (exn : Nat → String) (k i x : Nat) : Prop :=
  ∃ (ix is ic : Nat) (tx : String) (names : List String), xf_in F k i (.new ix) 3 ∧ decode (F k).2.1 (xf_pc F k i + 3) = .ok (.dup, 1) ∧
    ((F k).1.cls, is, tx) ∈ SW ∧ Cond.classLink (F k).1.cls ix (exn x) ∈ BW ∧ Cond.initialized (exn x) ∈ BW ∧ Bundle.fit (exn x) = true ∧ (∀ n ∈ names, Bundle.fit n = true) ∧ (F k).2.2.2.2.2.2 = [] ∧
    (((∀ q ∈ vx_atS (F k).1.cls ic (exn x) names, q ∈ BW ∨ q ∈ NW) ∧ (∀ q ∈ Cond.classLink (F k).1.cls ix (exn x) :: Cond.initialized (exn x) :: vx_atS (F k).1.cls ic (exn x) names, vx_ot q = true) ∧
      names.length + 3 < (F k).2.2.2.2.1 ∧ 13 * (names.length + 1) + 43 ≤ (F k).2.2.2.2.2.1 ∧
      ((decode (F k).2.1 (xf_pc F k i + 4) = .ok (.ldc is, 2) ∧ decode (F k).2.1 (xf_pc F k i + 6) = .ok (.invokespecial ic, 3) ∧ decode (F k).2.1 (xf_pc F k i + 9) = .ok (.athrow, 1)) ∨
       (decode (F k).2.1 (xf_pc F k i + 4) = .ok (.ldc_w is, 3) ∧ decode (F k).2.1 (xf_pc F k i + 7) = .ok (.invokespecial ic, 3) ∧ decode (F k).2.1 (xf_pc F k i + 10) = .ok (.athrow, 1)))) ∨
     ∃ (Y : String) (ip : Nat) (bytes : ByteArray), Bundle.fit Y = true ∧ decode bytes 0 = .ok (.aload_n 0, 1) ∧ decode bytes 1 = .ok (.aload_n 1, 1) ∧ decode bytes 2 = .ok (.invokespecial ip, 3) ∧ decode bytes 5 = .ok (.return_, 1) ∧
      (∀ q ∈ xg_atoms (F k).1.cls ic (exn x) Y ip bytes names, q ∈ BW ∨ q ∈ NW) ∧ (∀ q ∈ Cond.classLink (F k).1.cls ix (exn x) :: Cond.initialized (exn x) :: xg_atoms (F k).1.cls ic (exn x) Y ip bytes names, vx_ot q = true) ∧
      names.length + 4 < (F k).2.2.2.2.1 ∧ 13 * (names.length + 2) + 43 ≤ (F k).2.2.2.2.2.1 ∧
      decode (F k).2.1 (xf_pc F k i + 4) = .ok (.ldc is, 2) ∧ decode (F k).2.1 (xf_pc F k i + 6) = .ok (.invokespecial ic, 3) ∧ decode (F k).2.1 (xf_pc F k i + 9) = .ok (.athrow, 1))
/-- the end of a method that throws: what its goal asks -/
def xk_ET (below : List Frame) (s : State) (Q : State → Prop) (D : va_G) (dA : Nat → ClassId) (ad : Nat → Nat) (A : Nat → Prop) (cl : List vw_C) (exn : Nat → String) (cells slots x : Nat) (w : xk_W) : Prop :=
  ∀ (U : State) (a : Nat) (ce : Cell) (locs : List Loc), U.status = .running → Ended U below (.threw a) → s.WarmedH U.vm → s.sameButNew ({ U with vm := s.vm } : State) locs cells slots → va_P D cl (xk_w dA ad w) U.heap → va_S A s.heap U.heap locs → U.heap[a]? = some ce → ce.vm = .none → U.vm.findClass (exn x) = some ce.cls → Q U
/-- out of a method that has no handlers -/
theorem xk_T_out {pc x : Nat} (hx : xk_X F P cl BW NW SW D dA ad A k p R s m args meth c) (h0 : (F k).2.2.2.2.2.2 = []) (h : xk_ET below s Q D dA ad A cl exn cells slots x w) : xk_T p l e R s m args below meth c Q (P k).2.1 D dA ad A cl exn cells slots pc L st x w := by
  obtain ⟨hexec, hb, hml, hown, hts, hN, hK, hG, hA, hRf, hRl, hlk, hrt, hxt, hsc⟩ := hx
  intro ls H locs a ce g1 g2 g3 g4 h2 h3 h4 T hT X
  subst hT
  have hE : c.exceptionTable.toList = [] := by rw [h0] at hxt; exact List.map_eq_nil_iff.mp hxt
  obtain ⟨q1, q2, q3, q4, q5⟩ := X.leaveThrown a (g := F0 m pc ls (st.map (xk_v ad))) rfl rfl rfl (fun y hy => by rw [hE] at hy; cases hy) hlk
  exact ⟨_, q1, h _ a ce locs q2 q3 q4 q5 g2 g4 h2 h3 (by rw [show (T.setFrames (.throwing a :: below)).vm = T.vm from rfl, X.warmed.alike.findClass]; exact h4)⟩
set_option maxHeartbeats 4000000 in
/-- **an exception is made and thrown** -/
theorem xk_J_throw {x : Nat} (hx : xk_X F P cl BW NW SW D dA ad A k p R s m args meth c) (hgood : ∀ q ∈ BW, goodWord q = true) (htr : l.stackTraces = false) (hn : xk_On F BW NW SW exn k i x) (hr : cells + 1 ≤ R.cells ∧ slots + 6 ≤ R.slots)
    (h : xk_ET below s Q D dA ad A cl exn (cells + 1) (slots + 6) x w) : xk_J p l e R s m args below meth c Q (P k).2.1 D dA ad A cl cells slots (xf_pc F k i) L [] w := by
  obtain ⟨hexec, hb, hml, hown, hts, hN, hK, hG, hA, hRf, hRl, hlk, hrt, hxt, hsc⟩ := hx
  obtain ⟨ix, is, ic, tx, names, d1, d2, hsw, hcl, hini, hfx, hfn, h0, hcase⟩ := hn
  intro ls H locs g1 g2 g3 g4
  have hE : c.exceptionTable.toList = [] := by rw [h0] at hxt; exact List.map_eq_nil_iff.mp hxt
  obtain ⟨qs, hqs⟩ := hG.2.1 _ hsw
  have hB : ∀ l0 : List Cond, (∀ q ∈ l0, q ∈ BW ∨ q ∈ NW) → ∀ q ∈ l0, q.before args s = true := fun l0 h9 q hq => (h9 q hq).elim (hts q) (hN q)
  have key : W p l e R s m args below meth c H locs cells slots (fun U => ∃ (a : Nat) (ce : Cell) (L2 : List Loc), U.status = .running ∧ Ended U below (.threw a) ∧ s.WarmedH U.vm ∧ s.sameButNew ({ U with vm := s.vm } : State) L2 (cells + 1) (slots + 6) ∧ (∀ z ∈ L2, A z.base) ∧ H.size ≤ U.heap.size ∧ (∀ q : Nat, q < H.size → U.heap[q]? = H[q]?) ∧ U.heap[a]? = some ce ∧ ce.vm = .none ∧ s.vm.findClass (exn x) = some ce.cls) (F0 m (xf_pc F k i) ls []) := by
    rcases hcase with ⟨hat, hot, hr1, hr2, dd⟩ | ⟨Y, ip, bytes, hfy, b0, b1, b2, b5, hat, hot, hr1, hr2, d3, d4, d5⟩
    · have k2 : W p l e R s m args below meth c H locs cells slots (vx_MQ below (fun _ _ _ _ => False) (fun E st t => E = exn x ∧ H.size ≤ t.heap.size ∧ ∀ q : Nat, q < H.size → t.heap[q]? = H[q]?) args s (cells + 1) (slots + 6) A) (F0 m (xf_pc F k i) ls []) := by
        rcases dd with ⟨d3, d4, d5⟩ | ⟨d3, d4, d5⟩
        · exact vx_throwS hexec hb htr hown hfx hfn (hts _ hcl) (hts _ hini) hqs (hB _ hat) hot hG.2.2.1 hG.2.2.2 g4 (by rw [hml]; exact g1.1) d1 d2 d3 d4 d5 (fun y hy => by rw [hE] at hy; cases hy) (by omega) (by show 0 + _ ≤ _; omega) hr.1 hr.2 hlk (fun t h1 h2 h3 => ⟨rfl, h2, h3⟩) g4.2.2 (Nat.le_refl _) (Nat.le_refl _)
        · exact vx_throwSW hexec hb htr hown hfx hfn (hts _ hcl) (hts _ hini) hqs (hB _ hat) hot hG.2.2.1 hG.2.2.2 g4 (by rw [hml]; exact g1.1) d1 d2 d3 d4 d5 (fun y hy => by rw [hE] at hy; cases hy) (by omega) (by show 0 + _ ≤ _; omega) hr.1 hr.2 hlk (fun t h1 h2 h3 => ⟨rfl, h2, h3⟩) g4.2.2 (Nat.le_refl _) (Nat.le_refl _)
      refine xk_Wmono (fun U hU => ?_) k2
      obtain ⟨o, u1, u2, u3⟩ := hU
      rcases u3 with ⟨u3, -⟩ | ⟨a, rfl, E, ce, L2, ⟨rfl, v1, v2⟩, v3, v4, v5, v6, v7, v8⟩
      · exact u3.elim
      · exact ⟨a, ce, L2, u1, u2, v6, v7, v8, v1, v2, v3, v4, v5⟩
    · refine xk_Wmono (fun U hU => ?_) (xg_throwS hexec hb htr hown hfx hfy hfn b0 b1 b2 b5 (hts _ hcl) (hts _ hini) hqs (hB _ hat) hot hG.2.2.1 hG.2.2.2 g4 (by rw [hml]; exact g1.1) d1 d2 d3 d4 d5 (fun y hy => by rw [hE] at hy; cases hy) (by omega) (by omega) hr.1 hr.2 hlk)
      obtain ⟨a, ce, u1, u2, u3, u4, u5, u6, u7, u8, u9⟩ := hU
      exact ⟨a, ce, locs, u1, u2, u3, u4, g4.2.2, u5, u6, u7, u8, u9⟩
  refine xk_Wmono (fun U hU => ?_) key
  obtain ⟨a, ce, L2, u1, u2, v6, v7, v8, v1, v2, v3, v4, v5⟩ := hU
  refine h U a ce L2 u1 u2 v6 v7 ?_ ?_ v3 v4 ?_
  · exact g2.kept (fun k9 q9 h9 => v2 _ (g2 k9 q9 h9).lt)
  · refine ⟨Nat.le_trans g4.1 v1, fun q q1 q2 => ?_, v8⟩
    rw [v2 q (Nat.lt_of_lt_of_le q1 g4.1)]
    exact g4.2.1 q q1 q2
  · rw [v6.alike.findClass]
    exact v5
end XkMain
