/-! The instructions' words: written by wip/whole/gen_tables.py. -/
section XkWords
def xk_OkL (F : Nat → xk_F) (P : Nat → xk_M) (cl : List vw_C) (BW NW : List Cond) (SW : List (String × Nat × String)) (exn : Nat → String) (k : Nat) : Nat → List Instr → Prop
  | _, [] => True
  | i, mi :: t => xk_OkA F P cl BW NW SW exn k i mi ∧ xk_OkL F P cl BW NW SW exn k (i + 1) t
theorem xk_OkL.get {F : Nat → xk_F} {P : Nat → xk_M} {cl : List vw_C} {BW NW : List Cond} {SW : List (String × Nat × String)} {exn : Nat → String} {k : Nat} : ∀ (l : List Instr) (i j : Nat) (mi : Instr), xk_OkL F P cl BW NW SW exn k i l → l[j]? = some mi → xk_OkA F P cl BW NW SW exn k (i + j) mi
  | [], i, j, mi, _, h => by simp at h
  | x :: l, i, 0, mi, hk, h => by
    have e : x = mi := by simpa using h
    subst e
    exact hk.1
  | x :: l, i, j + 1, mi, hk, h => by
    have h2 : l[j]? = some mi := by simpa using h
    have := xk_OkL.get l (i + 1) j mi hk.2 h2
    rw [show i + (j + 1) = i + 1 + j by omega]
    exact this
theorem xk_tsw {F : Nat → xk_F} {k i : Nat} {ts ts0 : Array Int} (h : ts.size = ts0.size ∧ (List.range ts.size).all (fun j => decide ((xf_pc F k i : Int) + ts0.getD j 0 = (xf_pc F k (ts.getD j 0).toNat : Int))) = true) : ∀ (j : Nat) (t : Int), ts[j]? = some t → ∃ t0, ts0[j]? = some t0 ∧ xf_to F k i t0 t := by
  intro j t hj
  have hlt : j < ts.size := (Array.getElem?_eq_some_iff.mp hj).1
  have h2 := List.all_eq_true.mp h.2 j (List.mem_range.mpr hlt)
  have hlt0 : j < ts0.size := by rw [← h.1]; exact hlt
  refine ⟨ts0[j], Array.getElem?_eq_getElem hlt0, ?_⟩
  have e1 : ts.getD j 0 = t := by simp [Array.getD, hlt] ; exact (Array.getElem?_eq_some_iff.mp hj).2
  have e2 : ts0.getD j 0 = ts0[j] := by simp [Array.getD, hlt0]
  have h3 := of_decide_eq_true h2
  rw [e1, e2] at h3
  exact h3
def xp_chain : List String := ["java/lang/RuntimeException", "java/lang/Exception"]
def xp_chain1 : List String := ["java/lang/Exception"]
theorem xp_in (l : List Cond) (h : l.all (fun q => (decide (q ∈ lw_tbl) && goodWord q) || (decide (q ∈ tables_1) && (!goodWord q && xk_nest q))) = true) : ∀ q ∈ l, q ∈ xp_BW ∨ q ∈ xp_NW := by
  intro q hq
  have h1 := List.all_eq_true.mp h q hq
  rcases Bool.or_eq_true_iff.mp h1 with h2 | h2
  · have h3 := Bool.and_eq_true_iff.mp h2
    exact Or.inl (List.mem_filter.mpr ⟨of_decide_eq_true h3.1, h3.2⟩)
  · have h3 := Bool.and_eq_true_iff.mp h2
    exact Or.inr (List.mem_append_left _ (List.mem_filter.mpr ⟨of_decide_eq_true h3.1, h3.2⟩))
theorem xp_inB (l : List Cond) (h : l.all (fun q => decide (q ∈ lw_tbl) && goodWord q) = true) : ∀ q ∈ l, q ∈ xp_BW := by
  intro q hq
  have h3 := Bool.and_eq_true_iff.mp (List.all_eq_true.mp h q hq)
  exact List.mem_filter.mpr ⟨of_decide_eq_true h3.1, h3.2⟩
theorem xu_0 : ∀ q ∈ u_ws "ExtentShelf$Disks" xT_0 3, q ∈ xp_BW := xp_inB _ (by decide +kernel)
theorem xu_1 : ∀ q ∈ u_ws "ExtentShelf$Move" xT_1 4, q ∈ xp_BW := xp_inB _ (by decide +kernel)
theorem xf_1_0 : xf_pf xp_cl 32 .int := by
  intro C T N h
  cases h
  exact ⟨rfl, xY_1, rfl, xy_1, xn_1⟩
theorem xf_1_1 : xf_pf xp_cl 33 .int := by
  intro C T N h
  cases h
  exact ⟨rfl, xY_1, rfl, xy_1, xn_1⟩
theorem xf_1_2 : xf_pf xp_cl 34 .int := by
  intro C T N h
  cases h
  exact ⟨rfl, xY_1, rfl, xy_1, xn_1⟩
theorem xf_1_3 : xf_pf xp_cl 35 .int := by
  intro C T N h
  cases h
  exact ⟨rfl, xY_1, rfl, xy_1, xn_1⟩
theorem xu_2 : ∀ q ∈ u_ws "ExtentShelf$Table" xT_2 1, q ∈ xp_BW := xp_inB _ (by decide +kernel)
theorem xu_3 : ∀ q ∈ u_ws "ExtentShelf" xT_3 6, q ∈ xp_BW := xp_inB _ (by decide +kernel)
theorem xf_3_4 : xf_pf xp_cl 100 .boolean := by
  intro C T N h
  cases h
  exact ⟨rfl, xY_3, rfl, xy_3, xn_3⟩
theorem xf_3_5 : xf_pf xp_cl 101 .int := by
  intro C T N h
  cases h
  exact ⟨rfl, xY_3, rfl, xy_3, xn_3⟩
theorem xu_4 : ∀ q ∈ u_ws "ExtentShelfModel" xT_4 13, q ∈ xp_BW := xp_inB _ (by decide +kernel)
theorem xf_4_0 : xf_pf xp_cl 128 .int := by
  intro C T N h
  cases h
  exact ⟨rfl, xY_4, rfl, xy_4, xn_4⟩
theorem xf_4_4 : xf_pf xp_cl 132 .boolean := by
  intro C T N h
  cases h
  exact ⟨rfl, xY_4, rfl, xy_4, xn_4⟩
theorem xf_4_5 : xf_pf xp_cl 133 .int := by
  intro C T N h
  cases h
  exact ⟨rfl, xY_4, rfl, xy_4, xn_4⟩
theorem xf_4_8 : xf_pf xp_cl 136 .int := by
  intro C T N h
  cases h
  exact ⟨rfl, xY_4, rfl, xy_4, xn_4⟩
theorem xf_4_9 : xf_pf xp_cl 137 .int := by
  intro C T N h
  cases h
  exact ⟨rfl, xY_4, rfl, xy_4, xn_4⟩
theorem xf_4_10 : xf_pf xp_cl 138 .int := by
  intro C T N h
  cases h
  exact ⟨rfl, xY_4, rfl, xy_4, xn_4⟩
theorem xf_4_11 : xf_pf xp_cl 139 .int := by
  intro C T N h
  cases h
  exact ⟨rfl, xY_4, rfl, xy_4, xn_4⟩
theorem xf_4_12 : xf_pf xp_cl 140 .int := by
  intro C T N h
  cases h
  exact ⟨rfl, xY_4, rfl, xy_4, xn_4⟩
theorem xa_3_0 : ∀ q ∈ vx_atS "ExtentShelf" 283 "java/lang/IllegalStateException" xp_chain, q ∈ xp_BW ∨ q ∈ xp_NW := xp_in _ (by decide +kernel)
theorem xo_3_0 : ∀ q ∈ Cond.classLink "ExtentShelf" 279 "java/lang/IllegalStateException" :: Cond.initialized "java/lang/IllegalStateException" :: vx_atS "ExtentShelf" 283 "java/lang/IllegalStateException" xp_chain, vx_ot q = true := fun q hq => List.all_eq_true.mp (show List.all _ _ = true by decide +kernel) q hq
theorem xa_3_1 : ∀ q ∈ vx_atS "ExtentShelf" 52 "java/lang/IllegalArgumentException" xp_chain, q ∈ xp_BW ∨ q ∈ xp_NW := xp_in _ (by decide +kernel)
theorem xo_3_1 : ∀ q ∈ Cond.classLink "ExtentShelf" 48 "java/lang/IllegalArgumentException" :: Cond.initialized "java/lang/IllegalArgumentException" :: vx_atS "ExtentShelf" 52 "java/lang/IllegalArgumentException" xp_chain, vx_ot q = true := fun q hq => List.all_eq_true.mp (show List.all _ _ = true by decide +kernel) q hq
theorem xa_3_2 : ∀ q ∈ vx_atS "ExtentShelf" 66 "java/lang/UnsupportedOperationException" xp_chain, q ∈ xp_BW ∨ q ∈ xp_NW := xp_in _ (by decide +kernel)
theorem xo_3_2 : ∀ q ∈ Cond.classLink "ExtentShelf" 62 "java/lang/UnsupportedOperationException" :: Cond.initialized "java/lang/UnsupportedOperationException" :: vx_atS "ExtentShelf" 66 "java/lang/UnsupportedOperationException" xp_chain, vx_ot q = true := fun q hq => List.all_eq_true.mp (show List.all _ _ = true by decide +kernel) q hq
theorem xa_3_3 : ∀ q ∈ xg_atoms "ExtentShelf" 300 "java/util/NoSuchElementException" "java/lang/RuntimeException" 13 prog_17_method_4_code xp_chain1, q ∈ xp_BW ∨ q ∈ xp_NW := xp_in _ (by decide +kernel)
theorem xo_3_3 : ∀ q ∈ Cond.classLink "ExtentShelf" 298 "java/util/NoSuchElementException" :: Cond.initialized "java/util/NoSuchElementException" :: xg_atoms "ExtentShelf" 300 "java/util/NoSuchElementException" "java/lang/RuntimeException" 13 prog_17_method_4_code xp_chain1, vx_ot q = true := fun q hq => List.all_eq_true.mp (show List.all _ _ = true by decide +kernel) q hq
theorem xa_3_4 : ∀ q ∈ vx_atS "ExtentShelf" 275 "java/lang/IndexOutOfBoundsException" xp_chain, q ∈ xp_BW ∨ q ∈ xp_NW := xp_in _ (by decide +kernel)
theorem xo_3_4 : ∀ q ∈ Cond.classLink "ExtentShelf" 271 "java/lang/IndexOutOfBoundsException" :: Cond.initialized "java/lang/IndexOutOfBoundsException" :: vx_atS "ExtentShelf" 275 "java/lang/IndexOutOfBoundsException" xp_chain, vx_ot q = true := fun q hq => List.all_eq_true.mp (show List.all _ _ = true by decide +kernel) q hq
set_option maxRecDepth 100000 in
theorem xwn_31 : (.fieldLinkNest "ExtentShelf" 383 "ExtentShelf$Disks" "slots" "[I" "ExtentShelf" : Cond) ∈ xp_NW := xw_n 31 rfl rfl
set_option maxRecDepth 100000 in
theorem xwn_50 : (.fieldLinkNest "ExtentShelf" 315 "ExtentShelf$Table" "words" "[I" "ExtentShelf" : Cond) ∈ xp_NW := xw_n 50 rfl rfl
set_option maxRecDepth 100000 in
theorem xwn_61 : (.fieldLinkNest "ExtentShelf" 104 "ExtentShelf$Move" "disk" "I" "ExtentShelf" : Cond) ∈ xp_NW := xw_n 61 rfl rfl
set_option maxRecDepth 100000 in
theorem xwn_63 : (.fieldLinkNest "ExtentShelf" 212 "ExtentShelf$Move" "leg" "I" "ExtentShelf" : Cond) ∈ xp_NW := xw_n 63 rfl rfl
set_option maxRecDepth 100000 in
theorem xwn_65 : (.fieldLinkNest "ExtentShelf" 90 "ExtentShelf$Move" "target" "I" "ExtentShelf" : Cond) ∈ xp_NW := xw_n 65 rfl rfl
set_option maxRecDepth 100000 in
theorem xwn_67 : (.fieldLinkNest "ExtentShelf" 374 "ExtentShelf$Move" "copied" "I" "ExtentShelf" : Cond) ∈ xp_NW := xw_n 67 rfl rfl
set_option maxRecDepth 100000 in
theorem xwn_104 : (.methodLinkNest "ExtentShelf" 255 ({ cls := "ExtentShelf$Table", name := "serial", desc := "()I" } : MethodName) "ExtentShelf" : Cond) ∈ xp_NW := xw_n 104 rfl rfl
set_option maxRecDepth 100000 in
theorem xwn_215 : (.methodLinkNest "ExtentShelf" 55 ({ cls := "ExtentShelf$Table", name := "lists", desc := "(I)Z" } : MethodName) "ExtentShelf" : Cond) ∈ xp_NW := xw_n 215 rfl rfl
set_option maxRecDepth 100000 in
theorem xwn_223 : (.methodLinkNest "ExtentShelf" 59 ({ cls := "ExtentShelf$Disks", name := "isAbsent", desc := "(I)Z" } : MethodName) "ExtentShelf" : Cond) ∈ xp_NW := xw_n 223 rfl rfl
set_option maxRecDepth 100000 in
theorem xwn_252 : (.methodLinkNest "ExtentShelf" 70 ({ cls := "ExtentShelf$Disks", name := "clearExtents", desc := "(I)V" } : MethodName) "ExtentShelf" : Cond) ∈ xp_NW := xw_n 252 rfl rfl
set_option maxRecDepth 100000 in
theorem xwn_260 : (.methodLinkNest "ExtentShelf" 319 ({ cls := "ExtentShelf$Table", name := "takeFrom", desc := "([II)V" } : MethodName) "ExtentShelf" : Cond) ∈ xp_NW := xw_n 260 rfl rfl
set_option maxRecDepth 100000 in
theorem xwn_267 : (.methodLinkNest "ExtentShelf" 76 ({ cls := "ExtentShelf$Table", name := "setExtents", desc := "(II)V" } : MethodName) "ExtentShelf" : Cond) ∈ xp_NW := xw_n 267 rfl rfl
set_option maxRecDepth 100000 in
theorem xwn_275 : (.methodLinkNest "ExtentShelf" 323 ({ cls := "ExtentShelf$Table", name := "seal", desc := "(I)V" } : MethodName) "ExtentShelf" : Cond) ∈ xp_NW := xw_n 275 rfl rfl
set_option maxRecDepth 100000 in
theorem xwn_290 : (.methodLinkNest "ExtentShelf" 329 ({ cls := "ExtentShelf$Disks", name := "slotToWrite", desc := "(I)I" } : MethodName) "ExtentShelf" : Cond) ∈ xp_NW := xw_n 290 rfl rfl
set_option maxRecDepth 100000 in
theorem xwn_301 : (.methodLinkNest "ExtentShelf$Disks" 28 ({ cls := "ExtentShelf$Table", name := "sumOf", desc := "([II)I" } : MethodName) "ExtentShelf" : Cond) ∈ xp_NW := xw_n 301 rfl rfl
set_option maxRecDepth 100000 in
theorem xwn_310 : (.methodLinkNest "ExtentShelf" 107 ({ cls := "ExtentShelf$Move", name := "end", desc := "()V" } : MethodName) "ExtentShelf" : Cond) ∈ xp_NW := xw_n 310 rfl rfl
set_option maxRecDepth 100000 in
theorem xwn_315 : (.methodLinkNest "ExtentShelf" 332 ({ cls := "ExtentShelf$Disks", name := "setSlotWord", desc := "(IIII)V" } : MethodName) "ExtentShelf" : Cond) ∈ xp_NW := xw_n 315 rfl rfl
set_option maxRecDepth 100000 in
theorem xwn_319 : (.methodLinkNest "ExtentShelf" 199 ({ cls := "ExtentShelf$Table", name := "spotOf", desc := "(I)I" } : MethodName) "ExtentShelf" : Cond) ∈ xp_NW := xw_n 319 rfl rfl
set_option maxRecDepth 100000 in
theorem xwn_323 : (.methodLinkNest "ExtentShelf" 326 ({ cls := "ExtentShelf$Move", name := "endCopy", desc := "()V" } : MethodName) "ExtentShelf" : Cond) ∈ xp_NW := xw_n 323 rfl rfl
set_option maxRecDepth 100000 in
theorem xwn_339 : (.methodLinkNest "ExtentShelf" 86 ({ cls := "ExtentShelf$Table", name := "legsOn", desc := "(I)I" } : MethodName) "ExtentShelf" : Cond) ∈ xp_NW := xw_n 339 rfl rfl
set_option maxRecDepth 100000 in
theorem xwn_344 : (.methodLinkNest "ExtentShelf$Table" 56 ({ cls := "ExtentShelf", name := "diskOf", desc := "(I)I" } : MethodName) "ExtentShelf" : Cond) ∈ xp_NW := xw_n 344 rfl rfl
set_option maxRecDepth 100000 in
theorem xwn_349 : (.methodLinkNest "ExtentShelf" 98 ({ cls := "ExtentShelf$Table", name := "countListed", desc := "()I" } : MethodName) "ExtentShelf" : Cond) ∈ xp_NW := xw_n 349 rfl rfl
set_option maxRecDepth 100000 in
theorem xwn_367 : (.methodLinkNest "ExtentShelf" 116 ({ cls := "ExtentShelf$Table", name := "loseLegsOn", desc := "(I)V" } : MethodName) "ExtentShelf" : Cond) ∈ xp_NW := xw_n 367 rfl rfl
set_option maxRecDepth 100000 in
theorem xwn_389 : (.methodLinkNest "ExtentShelf" 128 ({ cls := "ExtentShelf$Table", name := "leastUnusedVolume", desc := "()I" } : MethodName) "ExtentShelf" : Cond) ∈ xp_NW := xw_n 389 rfl rfl
set_option maxRecDepth 100000 in
theorem xwn_398 : (.methodLinkNest "ExtentShelf" 133 ({ cls := "ExtentShelf$Table", name := "describe", desc := "(IIII)V" } : MethodName) "ExtentShelf" : Cond) ∈ xp_NW := xw_n 398 rfl rfl
set_option maxRecDepth 100000 in
theorem xwn_406 : (.methodLinkNest "ExtentShelf" 151 ({ cls := "ExtentShelf$Table", name := "kindOf", desc := "(I)I" } : MethodName) "ExtentShelf" : Cond) ∈ xp_NW := xw_n 406 rfl rfl
set_option maxRecDepth 100000 in
theorem xwn_410 : (.methodLinkNest "ExtentShelf" 143 ({ cls := "ExtentShelf$Table", name := "elementsOf", desc := "(I)I" } : MethodName) "ExtentShelf" : Cond) ∈ xp_NW := xw_n 410 rfl rfl
set_option maxRecDepth 100000 in
theorem xwn_426 : (.methodLinkNest "ExtentShelf" 146 ({ cls := "ExtentShelf$Table", name := "columnsOf", desc := "(I)I" } : MethodName) "ExtentShelf" : Cond) ∈ xp_NW := xw_n 426 rfl rfl
set_option maxRecDepth 100000 in
theorem xwn_447 : (.methodLinkNest "ExtentShelf" 338 ({ cls := "ExtentShelf$Table", name := "extentsOf", desc := "(I)I" } : MethodName) "ExtentShelf" : Cond) ∈ xp_NW := xw_n 447 rfl rfl
set_option maxRecDepth 100000 in
theorem xwn_452 : (.methodLinkNest "ExtentShelf" 347 ({ cls := "ExtentShelf$Table", name := "isUsed", desc := "(I)Z" } : MethodName) "ExtentShelf" : Cond) ∈ xp_NW := xw_n 452 rfl rfl
set_option maxRecDepth 100000 in
theorem xwn_457 : (.methodLinkNest "ExtentShelf" 335 ({ cls := "ExtentShelf$Table", name := "setSpot", desc := "(II)V" } : MethodName) "ExtentShelf" : Cond) ∈ xp_NW := xw_n 457 rfl rfl
set_option maxRecDepth 100000 in
theorem xwn_466 : (.methodLinkNest "ExtentShelf" 306 ({ cls := "ExtentShelf$Disks", name := "setExtentWord", desc := "(III)V" } : MethodName) "ExtentShelf" : Cond) ∈ xp_NW := xw_n 466 rfl rfl
set_option maxRecDepth 100000 in
theorem xwn_482 : (.methodLinkNest "ExtentShelf" 295 ({ cls := "ExtentShelf$Table", name := "has", desc := "(I)Z" } : MethodName) "ExtentShelf" : Cond) ∈ xp_NW := xw_n 482 rfl rfl
set_option maxRecDepth 100000 in
theorem xwn_506 : (.methodLinkNest "ExtentShelf" 154 ({ cls := "ExtentShelf$Table", name := "loseElements", desc := "(II)V" } : MethodName) "ExtentShelf" : Cond) ∈ xp_NW := xw_n 506 rfl rfl
set_option maxRecDepth 100000 in
theorem xwn_510 : (.methodLinkNest "ExtentShelf$Table" 46 ({ cls := "ExtentShelf", name := "legOf", desc := "(III)I" } : MethodName) "ExtentShelf" : Cond) ∈ xp_NW := xw_n 510 rfl rfl
set_option maxRecDepth 100000 in
theorem xwn_518 : (.methodLinkNest "ExtentShelf" 157 ({ cls := "ExtentShelf$Table", name := "forget", desc := "(I)V" } : MethodName) "ExtentShelf" : Cond) ∈ xp_NW := xw_n 518 rfl rfl
set_option maxRecDepth 100000 in
theorem xwn_547 : (.methodLinkNest "ExtentShelf" 202 ({ cls := "ExtentShelf$Disks", name := "extentWord", desc := "(II)I" } : MethodName) "ExtentShelf" : Cond) ∈ xp_NW := xw_n 547 rfl rfl
set_option maxRecDepth 100000 in
theorem xwn_608 : (.methodLinkNest "ExtentShelf" 312 ({ cls := "ExtentShelf$Move", name := "hasCopied", desc := "(II)Z" } : MethodName) "ExtentShelf" : Cond) ∈ xp_NW := xw_n 608 rfl rfl
set_option maxRecDepth 100000 in
theorem xwn_628 : (.methodLinkNest "ExtentShelf" 207 ({ cls := "ExtentShelf$Move", name := "begin", desc := "(I)V" } : MethodName) "ExtentShelf" : Cond) ∈ xp_NW := xw_n 628 rfl rfl
set_option maxRecDepth 100000 in
theorem xwn_640 : (.methodLinkNest "ExtentShelf" 215 ({ cls := "ExtentShelf$Table", name := "firstLegOn", desc := "(I)I" } : MethodName) "ExtentShelf" : Cond) ∈ xp_NW := xw_n 640 rfl rfl
set_option maxRecDepth 100000 in
theorem xwn_648 : (.methodLinkNest "ExtentShelf" 221 ({ cls := "ExtentShelf$Move", name := "beginCopy", desc := "(II)V" } : MethodName) "ExtentShelf" : Cond) ∈ xp_NW := xw_n 648 rfl rfl
set_option maxRecDepth 100000 in
theorem xwn_705 : (.methodLinkNest "ExtentShelf" 244 ({ cls := "ExtentShelf$Disks", name := "setAbsent", desc := "(IZ)V" } : MethodName) "ExtentShelf" : Cond) ∈ xp_NW := xw_n 705 rfl rfl
set_option maxRecDepth 100000 in
theorem xwn_720 : (.methodLinkNest "ExtentShelf" 377 ({ cls := "ExtentShelf$Disks", name := "newestWholeSlot", desc := "()I" } : MethodName) "ExtentShelf" : Cond) ∈ xp_NW := xw_n 720 rfl rfl
set_option maxRecDepth 100000 in
theorem xwn_725 : (.methodLinkNest "ExtentShelf" 380 ({ cls := "ExtentShelf$Table", name := "clear", desc := "()V" } : MethodName) "ExtentShelf" : Cond) ∈ xp_NW := xw_n 725 rfl rfl
set_option maxRecDepth 100000 in
theorem xwn_729 : (.methodLinkNest "ExtentShelf" 258 ({ cls := "ExtentShelf$Disks", name := "hasWhole", desc := "(II)Z" } : MethodName) "ExtentShelf" : Cond) ∈ xp_NW := xw_n 729 rfl rfl
set_option maxRecDepth 100000 in
theorem xwn_744 : (.methodLinkNest "ExtentShelf" 276 ({ cls := "ExtentShelf$Disks", name := "slotWord", desc := "(III)I" } : MethodName) "ExtentShelf" : Cond) ∈ xp_NW := xw_n 744 rfl rfl
set_option maxRecDepth 100000 in
theorem xws_0 : (.selects "ExtentShelf$Table" ({ cls := "ExtentShelf$Table", name := "serial", desc := "()I" } : MethodName) ({ cls := "ExtentShelf$Table", name := "serial", desc := "()I" } : MethodName) : Cond) ∈ xp_BW := xw_s 0 rfl rfl
set_option maxRecDepth 100000 in
theorem xws_1 : (.selects "ExtentShelf" ({ cls := "ExtentShelf", name := "requirePower", desc := "()V" } : MethodName) ({ cls := "ExtentShelf", name := "requirePower", desc := "()V" } : MethodName) : Cond) ∈ xp_BW := xw_s 1 rfl rfl
set_option maxRecDepth 100000 in
theorem xws_3 : (.selects "ExtentShelf$Table" ({ cls := "ExtentShelf$Table", name := "lists", desc := "(I)Z" } : MethodName) ({ cls := "ExtentShelf$Table", name := "lists", desc := "(I)Z" } : MethodName) : Cond) ∈ xp_BW := xw_s 3 rfl rfl
set_option maxRecDepth 100000 in
theorem xws_4 : (.selects "ExtentShelf$Table" ({ cls := "ExtentShelf$Table", name := "extentsOf", desc := "(I)I" } : MethodName) ({ cls := "ExtentShelf$Table", name := "extentsOf", desc := "(I)I" } : MethodName) : Cond) ∈ xp_BW := xw_s 4 rfl rfl
set_option maxRecDepth 100000 in
theorem xws_5 : (.selects "ExtentShelf$Disks" ({ cls := "ExtentShelf$Disks", name := "isAbsent", desc := "(I)Z" } : MethodName) ({ cls := "ExtentShelf$Disks", name := "isAbsent", desc := "(I)Z" } : MethodName) : Cond) ∈ xp_BW := xw_s 5 rfl rfl
set_option maxRecDepth 100000 in
theorem xws_6 : (.selects "ExtentShelf" ({ cls := "ExtentShelf", name := "requireListedPresent", desc := "()V" } : MethodName) ({ cls := "ExtentShelf", name := "requireListedPresent", desc := "()V" } : MethodName) : Cond) ∈ xp_BW := xw_s 6 rfl rfl
set_option maxRecDepth 100000 in
theorem xws_7 : (.selects "ExtentShelf" ({ cls := "ExtentShelf", name := "isAnyListedAbsent", desc := "()Z" } : MethodName) ({ cls := "ExtentShelf", name := "isAnyListedAbsent", desc := "()Z" } : MethodName) : Cond) ∈ xp_BW := xw_s 7 rfl rfl
set_option maxRecDepth 100000 in
theorem xws_8 : (.selects "ExtentShelf$Disks" ({ cls := "ExtentShelf$Disks", name := "clearExtents", desc := "(I)V" } : MethodName) ({ cls := "ExtentShelf$Disks", name := "clearExtents", desc := "(I)V" } : MethodName) : Cond) ∈ xp_BW := xw_s 8 rfl rfl
set_option maxRecDepth 100000 in
theorem xws_9 : (.selects "ExtentShelf" ({ cls := "ExtentShelf", name := "beginDraft", desc := "()V" } : MethodName) ({ cls := "ExtentShelf", name := "beginDraft", desc := "()V" } : MethodName) : Cond) ∈ xp_BW := xw_s 9 rfl rfl
set_option maxRecDepth 100000 in
theorem xws_10 : (.selects "ExtentShelf$Table" ({ cls := "ExtentShelf$Table", name := "takeFrom", desc := "([II)V" } : MethodName) ({ cls := "ExtentShelf$Table", name := "takeFrom", desc := "([II)V" } : MethodName) : Cond) ∈ xp_BW := xw_s 10 rfl rfl
set_option maxRecDepth 100000 in
theorem xws_11 : (.selects "ExtentShelf$Table" ({ cls := "ExtentShelf$Table", name := "setExtents", desc := "(II)V" } : MethodName) ({ cls := "ExtentShelf$Table", name := "setExtents", desc := "(II)V" } : MethodName) : Cond) ∈ xp_BW := xw_s 11 rfl rfl
set_option maxRecDepth 100000 in
theorem xws_12 : (.selects "ExtentShelf" ({ cls := "ExtentShelf", name := "commitDraft", desc := "()V" } : MethodName) ({ cls := "ExtentShelf", name := "commitDraft", desc := "()V" } : MethodName) : Cond) ∈ xp_BW := xw_s 12 rfl rfl
set_option maxRecDepth 100000 in
theorem xws_13 : (.selects "ExtentShelf$Table" ({ cls := "ExtentShelf$Table", name := "seal", desc := "(I)V" } : MethodName) ({ cls := "ExtentShelf$Table", name := "seal", desc := "(I)V" } : MethodName) : Cond) ∈ xp_BW := xw_s 13 rfl rfl
set_option maxRecDepth 100000 in
theorem xws_14 : (.selects "ExtentShelf" ({ cls := "ExtentShelf", name := "isListedAndPresent", desc := "(LExtentShelf$Table;I)Z" } : MethodName) ({ cls := "ExtentShelf", name := "isListedAndPresent", desc := "(LExtentShelf$Table;I)Z" } : MethodName) : Cond) ∈ xp_BW := xw_s 14 rfl rfl
set_option maxRecDepth 100000 in
theorem xws_15 : (.selects "ExtentShelf" ({ cls := "ExtentShelf", name := "writeTable", desc := "(LExtentShelf$Table;I)V" } : MethodName) ({ cls := "ExtentShelf", name := "writeTable", desc := "(LExtentShelf$Table;I)V" } : MethodName) : Cond) ∈ xp_BW := xw_s 15 rfl rfl
set_option maxRecDepth 100000 in
theorem xws_16 : (.selects "ExtentShelf$Disks" ({ cls := "ExtentShelf$Disks", name := "slotToWrite", desc := "(I)I" } : MethodName) ({ cls := "ExtentShelf$Disks", name := "slotToWrite", desc := "(I)I" } : MethodName) : Cond) ∈ xp_BW := xw_s 16 rfl rfl
set_option maxRecDepth 100000 in
theorem xws_17 : (.selects "ExtentShelf$Disks" ({ cls := "ExtentShelf$Disks", name := "wholeSerial", desc := "(II)I" } : MethodName) ({ cls := "ExtentShelf$Disks", name := "wholeSerial", desc := "(II)I" } : MethodName) : Cond) ∈ xp_BW := xw_s 17 rfl rfl
set_option maxRecDepth 100000 in
theorem xws_18 : (.selects "ExtentShelf" ({ cls := "ExtentShelf", name := "spendWord", desc := "()V" } : MethodName) ({ cls := "ExtentShelf", name := "spendWord", desc := "()V" } : MethodName) : Cond) ∈ xp_BW := xw_s 18 rfl rfl
set_option maxRecDepth 100000 in
theorem xws_19 : (.selects "ExtentShelf" ({ cls := "ExtentShelf", name := "losePower", desc := "()V" } : MethodName) ({ cls := "ExtentShelf", name := "losePower", desc := "()V" } : MethodName) : Cond) ∈ xp_BW := xw_s 19 rfl rfl
set_option maxRecDepth 100000 in
theorem xws_20 : (.selects "ExtentShelf$Move" ({ cls := "ExtentShelf$Move", name := "end", desc := "()V" } : MethodName) ({ cls := "ExtentShelf$Move", name := "end", desc := "()V" } : MethodName) : Cond) ∈ xp_BW := xw_s 20 rfl rfl
set_option maxRecDepth 100000 in
theorem xws_21 : (.selects "ExtentShelf$Disks" ({ cls := "ExtentShelf$Disks", name := "setSlotWord", desc := "(IIII)V" } : MethodName) ({ cls := "ExtentShelf$Disks", name := "setSlotWord", desc := "(IIII)V" } : MethodName) : Cond) ∈ xp_BW := xw_s 21 rfl rfl
set_option maxRecDepth 100000 in
theorem xws_22 : (.selects "ExtentShelf$Table" ({ cls := "ExtentShelf$Table", name := "spotOf", desc := "(I)I" } : MethodName) ({ cls := "ExtentShelf$Table", name := "spotOf", desc := "(I)I" } : MethodName) : Cond) ∈ xp_BW := xw_s 22 rfl rfl
set_option maxRecDepth 100000 in
theorem xws_23 : (.selects "ExtentShelf$Move" ({ cls := "ExtentShelf$Move", name := "endCopy", desc := "()V" } : MethodName) ({ cls := "ExtentShelf$Move", name := "endCopy", desc := "()V" } : MethodName) : Cond) ∈ xp_BW := xw_s 23 rfl rfl
set_option maxRecDepth 100000 in
theorem xws_24 : (.selects "ExtentShelf" ({ cls := "ExtentShelf", name := "requireListed", desc := "(I)V" } : MethodName) ({ cls := "ExtentShelf", name := "requireListed", desc := "(I)V" } : MethodName) : Cond) ∈ xp_BW := xw_s 24 rfl rfl
set_option maxRecDepth 100000 in
theorem xws_25 : (.selects "ExtentShelf$Table" ({ cls := "ExtentShelf$Table", name := "legsOn", desc := "(I)I" } : MethodName) ({ cls := "ExtentShelf$Table", name := "legsOn", desc := "(I)I" } : MethodName) : Cond) ∈ xp_BW := xw_s 25 rfl rfl
set_option maxRecDepth 100000 in
theorem xws_26 : (.selects "ExtentShelf$Table" ({ cls := "ExtentShelf$Table", name := "countListed", desc := "()I" } : MethodName) ({ cls := "ExtentShelf$Table", name := "countListed", desc := "()I" } : MethodName) : Cond) ∈ xp_BW := xw_s 26 rfl rfl
set_option maxRecDepth 100000 in
theorem xws_27 : (.selects "ExtentShelf" ({ cls := "ExtentShelf", name := "isAnyListedPresent", desc := "()Z" } : MethodName) ({ cls := "ExtentShelf", name := "isAnyListedPresent", desc := "()Z" } : MethodName) : Cond) ∈ xp_BW := xw_s 27 rfl rfl
set_option maxRecDepth 100000 in
theorem xws_28 : (.selects "ExtentShelf$Table" ({ cls := "ExtentShelf$Table", name := "loseLegsOn", desc := "(I)V" } : MethodName) ({ cls := "ExtentShelf$Table", name := "loseLegsOn", desc := "(I)V" } : MethodName) : Cond) ∈ xp_BW := xw_s 28 rfl rfl
set_option maxRecDepth 100000 in
theorem xws_29 : (.selects "ExtentShelf$Table" ({ cls := "ExtentShelf$Table", name := "setSpot", desc := "(II)V" } : MethodName) ({ cls := "ExtentShelf$Table", name := "setSpot", desc := "(II)V" } : MethodName) : Cond) ∈ xp_BW := xw_s 29 rfl rfl
set_option maxRecDepth 100000 in
theorem xws_30 : (.selects "ExtentShelf$Table" ({ cls := "ExtentShelf$Table", name := "leastUnusedVolume", desc := "()I" } : MethodName) ({ cls := "ExtentShelf$Table", name := "leastUnusedVolume", desc := "()I" } : MethodName) : Cond) ∈ xp_BW := xw_s 30 rfl rfl
set_option maxRecDepth 100000 in
theorem xws_31 : (.selects "ExtentShelf$Table" ({ cls := "ExtentShelf$Table", name := "has", desc := "(I)Z" } : MethodName) ({ cls := "ExtentShelf$Table", name := "has", desc := "(I)Z" } : MethodName) : Cond) ∈ xp_BW := xw_s 31 rfl rfl
set_option maxRecDepth 100000 in
theorem xws_32 : (.selects "ExtentShelf$Table" ({ cls := "ExtentShelf$Table", name := "describe", desc := "(IIII)V" } : MethodName) ({ cls := "ExtentShelf$Table", name := "describe", desc := "(IIII)V" } : MethodName) : Cond) ∈ xp_BW := xw_s 32 rfl rfl
set_option maxRecDepth 100000 in
theorem xws_33 : (.selects "ExtentShelf" ({ cls := "ExtentShelf", name := "fillElements", desc := "(II)V" } : MethodName) ({ cls := "ExtentShelf", name := "fillElements", desc := "(II)V" } : MethodName) : Cond) ∈ xp_BW := xw_s 33 rfl rfl
set_option maxRecDepth 100000 in
theorem xws_34 : (.selects "ExtentShelf$Table" ({ cls := "ExtentShelf$Table", name := "kindOf", desc := "(I)I" } : MethodName) ({ cls := "ExtentShelf$Table", name := "kindOf", desc := "(I)I" } : MethodName) : Cond) ∈ xp_BW := xw_s 34 rfl rfl
set_option maxRecDepth 100000 in
theorem xws_35 : (.selects "ExtentShelf$Table" ({ cls := "ExtentShelf$Table", name := "elementsOf", desc := "(I)I" } : MethodName) ({ cls := "ExtentShelf$Table", name := "elementsOf", desc := "(I)I" } : MethodName) : Cond) ∈ xp_BW := xw_s 35 rfl rfl
set_option maxRecDepth 100000 in
theorem xws_36 : (.selects "ExtentShelf" ({ cls := "ExtentShelf", name := "giveRoom", desc := "(III)V" } : MethodName) ({ cls := "ExtentShelf", name := "giveRoom", desc := "(III)V" } : MethodName) : Cond) ∈ xp_BW := xw_s 36 rfl rfl
set_option maxRecDepth 100000 in
theorem xws_37 : (.selects "ExtentShelf" ({ cls := "ExtentShelf", name := "findRoom", desc := "(IIII)I" } : MethodName) ({ cls := "ExtentShelf", name := "findRoom", desc := "(IIII)I" } : MethodName) : Cond) ∈ xp_BW := xw_s 37 rfl rfl
set_option maxRecDepth 100000 in
theorem xws_38 : (.selects "ExtentShelf" ({ cls := "ExtentShelf", name := "groupDisks", desc := "(III)I" } : MethodName) ({ cls := "ExtentShelf", name := "groupDisks", desc := "(III)I" } : MethodName) : Cond) ∈ xp_BW := xw_s 38 rfl rfl
set_option maxRecDepth 100000 in
theorem xws_39 : (.selects "ExtentShelf$Table" ({ cls := "ExtentShelf$Table", name := "columnsOf", desc := "(I)I" } : MethodName) ({ cls := "ExtentShelf$Table", name := "columnsOf", desc := "(I)I" } : MethodName) : Cond) ∈ xp_BW := xw_s 39 rfl rfl
set_option maxRecDepth 100000 in
theorem xws_40 : (.selects "ExtentShelf" ({ cls := "ExtentShelf", name := "disksOfLeg", desc := "(I)I" } : MethodName) ({ cls := "ExtentShelf", name := "disksOfLeg", desc := "(I)I" } : MethodName) : Cond) ∈ xp_BW := xw_s 40 rfl rfl
set_option maxRecDepth 100000 in
theorem xws_41 : (.selects "ExtentShelf" ({ cls := "ExtentShelf", name := "countFree", desc := "(LExtentShelf$Table;I)I" } : MethodName) ({ cls := "ExtentShelf", name := "countFree", desc := "(LExtentShelf$Table;I)I" } : MethodName) : Cond) ∈ xp_BW := xw_s 41 rfl rfl
set_option maxRecDepth 100000 in
theorem xws_42 : (.selects "ExtentShelf" ({ cls := "ExtentShelf", name := "leastFreeSpot", desc := "(I)I" } : MethodName) ({ cls := "ExtentShelf", name := "leastFreeSpot", desc := "(I)I" } : MethodName) : Cond) ∈ xp_BW := xw_s 42 rfl rfl
set_option maxRecDepth 100000 in
theorem xws_43 : (.selects "ExtentShelf$Table" ({ cls := "ExtentShelf$Table", name := "isUsed", desc := "(I)Z" } : MethodName) ({ cls := "ExtentShelf$Table", name := "isUsed", desc := "(I)Z" } : MethodName) : Cond) ∈ xp_BW := xw_s 43 rfl rfl
set_option maxRecDepth 100000 in
theorem xws_44 : (.selects "ExtentShelf" ({ cls := "ExtentShelf", name := "clearLeg", desc := "(I)V" } : MethodName) ({ cls := "ExtentShelf", name := "clearLeg", desc := "(I)V" } : MethodName) : Cond) ∈ xp_BW := xw_s 44 rfl rfl
set_option maxRecDepth 100000 in
theorem xws_45 : (.selects "ExtentShelf" ({ cls := "ExtentShelf", name := "putWord", desc := "(III)V" } : MethodName) ({ cls := "ExtentShelf", name := "putWord", desc := "(III)V" } : MethodName) : Cond) ∈ xp_BW := xw_s 45 rfl rfl
set_option maxRecDepth 100000 in
theorem xws_46 : (.selects "ExtentShelf$Disks" ({ cls := "ExtentShelf$Disks", name := "setExtentWord", desc := "(III)V" } : MethodName) ({ cls := "ExtentShelf$Disks", name := "setExtentWord", desc := "(III)V" } : MethodName) : Cond) ∈ xp_BW := xw_s 46 rfl rfl
set_option maxRecDepth 100000 in
theorem xws_47 : (.selects "ExtentShelf" ({ cls := "ExtentShelf", name := "requireVolume", desc := "(I)V" } : MethodName) ({ cls := "ExtentShelf", name := "requireVolume", desc := "(I)V" } : MethodName) : Cond) ∈ xp_BW := xw_s 47 rfl rfl
set_option maxRecDepth 100000 in
theorem xws_48 : (.selects "ExtentShelf$Table" ({ cls := "ExtentShelf$Table", name := "loseElements", desc := "(II)V" } : MethodName) ({ cls := "ExtentShelf$Table", name := "loseElements", desc := "(II)V" } : MethodName) : Cond) ∈ xp_BW := xw_s 48 rfl rfl
set_option maxRecDepth 100000 in
theorem xws_49 : (.selects "ExtentShelf$Table" ({ cls := "ExtentShelf$Table", name := "forget", desc := "(I)V" } : MethodName) ({ cls := "ExtentShelf$Table", name := "forget", desc := "(I)V" } : MethodName) : Cond) ∈ xp_BW := xw_s 49 rfl rfl
set_option maxRecDepth 100000 in
theorem xws_50 : (.selects "ExtentShelf" ({ cls := "ExtentShelf", name := "findRoomForLostLegs", desc := "(I)I" } : MethodName) ({ cls := "ExtentShelf", name := "findRoomForLostLegs", desc := "(I)I" } : MethodName) : Cond) ∈ xp_BW := xw_s 50 rfl rfl
set_option maxRecDepth 100000 in
theorem xws_51 : (.selects "ExtentShelf" ({ cls := "ExtentShelf", name := "lostLeg", desc := "(II)I" } : MethodName) ({ cls := "ExtentShelf", name := "lostLeg", desc := "(II)I" } : MethodName) : Cond) ∈ xp_BW := xw_s 51 rfl rfl
set_option maxRecDepth 100000 in
theorem xws_52 : (.selects "ExtentShelf" ({ cls := "ExtentShelf", name := "copyToNewLegs", desc := "(I)V" } : MethodName) ({ cls := "ExtentShelf", name := "copyToNewLegs", desc := "(I)V" } : MethodName) : Cond) ∈ xp_BW := xw_s 52 rfl rfl
set_option maxRecDepth 100000 in
theorem xws_53 : (.selects "ExtentShelf" ({ cls := "ExtentShelf", name := "copyExtent", desc := "(II)V" } : MethodName) ({ cls := "ExtentShelf", name := "copyExtent", desc := "(II)V" } : MethodName) : Cond) ∈ xp_BW := xw_s 53 rfl rfl
set_option maxRecDepth 100000 in
theorem xws_54 : (.selects "ExtentShelf$Disks" ({ cls := "ExtentShelf$Disks", name := "extentWord", desc := "(II)I" } : MethodName) ({ cls := "ExtentShelf$Disks", name := "extentWord", desc := "(II)I" } : MethodName) : Cond) ∈ xp_BW := xw_s 54 rfl rfl
set_option maxRecDepth 100000 in
theorem xws_55 : (.selects "ExtentShelf" ({ cls := "ExtentShelf", name := "requireWord", desc := "(II)V" } : MethodName) ({ cls := "ExtentShelf", name := "requireWord", desc := "(II)V" } : MethodName) : Cond) ∈ xp_BW := xw_s 55 rfl rfl
set_option maxRecDepth 100000 in
theorem xws_56 : (.selects "ExtentShelf" ({ cls := "ExtentShelf", name := "countWords", desc := "(I)I" } : MethodName) ({ cls := "ExtentShelf", name := "countWords", desc := "(I)I" } : MethodName) : Cond) ∈ xp_BW := xw_s 56 rfl rfl
set_option maxRecDepth 100000 in
theorem xws_57 : (.selects "ExtentShelf" ({ cls := "ExtentShelf", name := "elementOfWord", desc := "(II)I" } : MethodName) ({ cls := "ExtentShelf", name := "elementOfWord", desc := "(II)I" } : MethodName) : Cond) ∈ xp_BW := xw_s 57 rfl rfl
set_option maxRecDepth 100000 in
theorem xws_58 : (.selects "ExtentShelf" ({ cls := "ExtentShelf", name := "leastReadableLeg", desc := "(II)I" } : MethodName) ({ cls := "ExtentShelf", name := "leastReadableLeg", desc := "(II)I" } : MethodName) : Cond) ∈ xp_BW := xw_s 58 rfl rfl
set_option maxRecDepth 100000 in
theorem xws_59 : (.selects "ExtentShelf" ({ cls := "ExtentShelf", name := "isReadable", desc := "(I)Z" } : MethodName) ({ cls := "ExtentShelf", name := "isReadable", desc := "(I)Z" } : MethodName) : Cond) ∈ xp_BW := xw_s 59 rfl rfl
set_option maxRecDepth 100000 in
theorem xws_60 : (.selects "ExtentShelf" ({ cls := "ExtentShelf", name := "loseAbsentLeg", desc := "(II)V" } : MethodName) ({ cls := "ExtentShelf", name := "loseAbsentLeg", desc := "(II)V" } : MethodName) : Cond) ∈ xp_BW := xw_s 60 rfl rfl
set_option maxRecDepth 100000 in
theorem xws_61 : (.selects "ExtentShelf" ({ cls := "ExtentShelf", name := "placeOfWord", desc := "(II)I" } : MethodName) ({ cls := "ExtentShelf", name := "placeOfWord", desc := "(II)I" } : MethodName) : Cond) ∈ xp_BW := xw_s 61 rfl rfl
set_option maxRecDepth 100000 in
theorem xws_62 : (.selects "ExtentShelf" ({ cls := "ExtentShelf", name := "putLegWord", desc := "(III)V" } : MethodName) ({ cls := "ExtentShelf", name := "putLegWord", desc := "(III)V" } : MethodName) : Cond) ∈ xp_BW := xw_s 62 rfl rfl
set_option maxRecDepth 100000 in
theorem xws_63 : (.selects "ExtentShelf$Move" ({ cls := "ExtentShelf$Move", name := "hasCopied", desc := "(II)Z" } : MethodName) ({ cls := "ExtentShelf$Move", name := "hasCopied", desc := "(II)Z" } : MethodName) : Cond) ∈ xp_BW := xw_s 63 rfl rfl
set_option maxRecDepth 100000 in
theorem xws_64 : (.selects "ExtentShelf$Move" ({ cls := "ExtentShelf$Move", name := "begin", desc := "(I)V" } : MethodName) ({ cls := "ExtentShelf$Move", name := "begin", desc := "(I)V" } : MethodName) : Cond) ∈ xp_BW := xw_s 64 rfl rfl
set_option maxRecDepth 100000 in
theorem xws_65 : (.selects "ExtentShelf$Table" ({ cls := "ExtentShelf$Table", name := "firstLegOn", desc := "(I)I" } : MethodName) ({ cls := "ExtentShelf$Table", name := "firstLegOn", desc := "(I)I" } : MethodName) : Cond) ∈ xp_BW := xw_s 65 rfl rfl
set_option maxRecDepth 100000 in
theorem xws_66 : (.selects "ExtentShelf" ({ cls := "ExtentShelf", name := "findRoomToMove", desc := "(I)I" } : MethodName) ({ cls := "ExtentShelf", name := "findRoomToMove", desc := "(I)I" } : MethodName) : Cond) ∈ xp_BW := xw_s 66 rfl rfl
set_option maxRecDepth 100000 in
theorem xws_67 : (.selects "ExtentShelf$Move" ({ cls := "ExtentShelf$Move", name := "beginCopy", desc := "(II)V" } : MethodName) ({ cls := "ExtentShelf$Move", name := "beginCopy", desc := "(II)V" } : MethodName) : Cond) ∈ xp_BW := xw_s 67 rfl rfl
set_option maxRecDepth 100000 in
theorem xws_68 : (.selects "ExtentShelf" ({ cls := "ExtentShelf", name := "copyNextWord", desc := "()V" } : MethodName) ({ cls := "ExtentShelf", name := "copyNextWord", desc := "()V" } : MethodName) : Cond) ∈ xp_BW := xw_s 68 rfl rfl
set_option maxRecDepth 100000 in
theorem xws_69 : (.selects "ExtentShelf" ({ cls := "ExtentShelf", name := "requireNoPower", desc := "()V" } : MethodName) ({ cls := "ExtentShelf", name := "requireNoPower", desc := "()V" } : MethodName) : Cond) ∈ xp_BW := xw_s 69 rfl rfl
set_option maxRecDepth 100000 in
theorem xws_70 : (.selects "ExtentShelf$Disks" ({ cls := "ExtentShelf$Disks", name := "setAbsent", desc := "(IZ)V" } : MethodName) ({ cls := "ExtentShelf$Disks", name := "setAbsent", desc := "(IZ)V" } : MethodName) : Cond) ∈ xp_BW := xw_s 70 rfl rfl
set_option maxRecDepth 100000 in
theorem xws_71 : (.selects "ExtentShelf" ({ cls := "ExtentShelf", name := "loadNewestTable", desc := "()V" } : MethodName) ({ cls := "ExtentShelf", name := "loadNewestTable", desc := "()V" } : MethodName) : Cond) ∈ xp_BW := xw_s 71 rfl rfl
set_option maxRecDepth 100000 in
theorem xws_72 : (.selects "ExtentShelf$Disks" ({ cls := "ExtentShelf$Disks", name := "newestWholeSlot", desc := "()I" } : MethodName) ({ cls := "ExtentShelf$Disks", name := "newestWholeSlot", desc := "()I" } : MethodName) : Cond) ∈ xp_BW := xw_s 72 rfl rfl
set_option maxRecDepth 100000 in
theorem xws_73 : (.selects "ExtentShelf$Table" ({ cls := "ExtentShelf$Table", name := "clear", desc := "()V" } : MethodName) ({ cls := "ExtentShelf$Table", name := "clear", desc := "()V" } : MethodName) : Cond) ∈ xp_BW := xw_s 73 rfl rfl
set_option maxRecDepth 100000 in
theorem xws_74 : (.selects "ExtentShelf$Disks" ({ cls := "ExtentShelf$Disks", name := "hasWhole", desc := "(II)Z" } : MethodName) ({ cls := "ExtentShelf$Disks", name := "hasWhole", desc := "(II)Z" } : MethodName) : Cond) ∈ xp_BW := xw_s 74 rfl rfl
set_option maxRecDepth 100000 in
theorem xws_75 : (.selects "ExtentShelf" ({ cls := "ExtentShelf", name := "alignTwins", desc := "(II)V" } : MethodName) ({ cls := "ExtentShelf", name := "alignTwins", desc := "(II)V" } : MethodName) : Cond) ∈ xp_BW := xw_s 75 rfl rfl
set_option maxRecDepth 100000 in
theorem xws_76 : (.selects "ExtentShelf$Disks" ({ cls := "ExtentShelf$Disks", name := "slotWord", desc := "(III)I" } : MethodName) ({ cls := "ExtentShelf$Disks", name := "slotWord", desc := "(III)I" } : MethodName) : Cond) ∈ xp_BW := xw_s 76 rfl rfl
set_option maxRecDepth 100000 in
theorem xws_77 : (.selects "ExtentShelfModel" ({ cls := "ExtentShelfModel", name := "isOneAbsent", desc := "()Z" } : MethodName) ({ cls := "ExtentShelfModel", name := "isOneAbsent", desc := "()Z" } : MethodName) : Cond) ∈ xp_BW := xw_s 77 rfl rfl
set_option maxRecDepth 100000 in
theorem xws_78 : (.selects "ExtentShelfModel" ({ cls := "ExtentShelfModel", name := "begin", desc := "()V" } : MethodName) ({ cls := "ExtentShelfModel", name := "begin", desc := "()V" } : MethodName) : Cond) ∈ xp_BW := xw_s 78 rfl rfl
set_option maxRecDepth 100000 in
theorem xws_79 : (.selects "ExtentShelfModel" ({ cls := "ExtentShelfModel", name := "change", desc := "()V" } : MethodName) ({ cls := "ExtentShelfModel", name := "change", desc := "()V" } : MethodName) : Cond) ∈ xp_BW := xw_s 79 rfl rfl
set_option maxRecDepth 100000 in
theorem xws_80 : (.selects "ExtentShelfModel" ({ cls := "ExtentShelfModel", name := "writeTo", desc := "(I[I)V" } : MethodName) ({ cls := "ExtentShelfModel", name := "writeTo", desc := "(I[I)V" } : MethodName) : Cond) ∈ xp_BW := xw_s 80 rfl rfl
set_option maxRecDepth 100000 in
theorem xws_81 : (.selects "ExtentShelfModel" ({ cls := "ExtentShelfModel", name := "slotToWrite", desc := "(I)I" } : MethodName) ({ cls := "ExtentShelfModel", name := "slotToWrite", desc := "(I)I" } : MethodName) : Cond) ∈ xp_BW := xw_s 81 rfl rfl
set_option maxRecDepth 100000 in
theorem xws_82 : (.selects "ExtentShelfModel" ({ cls := "ExtentShelfModel", name := "numberOf", desc := "(II)I" } : MethodName) ({ cls := "ExtentShelfModel", name := "numberOf", desc := "(II)I" } : MethodName) : Cond) ∈ xp_BW := xw_s 82 rfl rfl
set_option maxRecDepth 100000 in
theorem xws_83 : (.selects "ExtentShelfModel" ({ cls := "ExtentShelfModel", name := "mayWrite", desc := "()Z" } : MethodName) ({ cls := "ExtentShelfModel", name := "mayWrite", desc := "()Z" } : MethodName) : Cond) ∈ xp_BW := xw_s 83 rfl rfl
set_option maxRecDepth 100000 in
theorem xws_84 : (.selects "ExtentShelfModel" ({ cls := "ExtentShelfModel", name := "ended", desc := "(I)I" } : MethodName) ({ cls := "ExtentShelfModel", name := "ended", desc := "(I)I" } : MethodName) : Cond) ∈ xp_BW := xw_s 84 rfl rfl
set_option maxRecDepth 100000 in
theorem xws_85 : (.selects "ExtentShelfModel" ({ cls := "ExtentShelfModel", name := "legsOn", desc := "(I)I" } : MethodName) ({ cls := "ExtentShelfModel", name := "legsOn", desc := "(I)I" } : MethodName) : Cond) ∈ xp_BW := xw_s 85 rfl rfl
set_option maxRecDepth 100000 in
theorem xws_86 : (.selects "ExtentShelfModel" ({ cls := "ExtentShelfModel", name := "listed", desc := "()I" } : MethodName) ({ cls := "ExtentShelfModel", name := "listed", desc := "()I" } : MethodName) : Cond) ∈ xp_BW := xw_s 86 rfl rfl
set_option maxRecDepth 100000 in
theorem xws_87 : (.selects "ExtentShelfModel" ({ cls := "ExtentShelfModel", name := "find", desc := "(II)Z" } : MethodName) ({ cls := "ExtentShelfModel", name := "find", desc := "(II)Z" } : MethodName) : Cond) ∈ xp_BW := xw_s 87 rfl rfl
set_option maxRecDepth 100000 in
theorem xws_88 : (.selects "ExtentShelfModel" ({ cls := "ExtentShelfModel", name := "room", desc := "([IIII)I" } : MethodName) ({ cls := "ExtentShelfModel", name := "room", desc := "([IIII)I" } : MethodName) : Cond) ∈ xp_BW := xw_s 88 rfl rfl
set_option maxRecDepth 100000 in
theorem xws_89 : (.selects "ExtentShelfModel" ({ cls := "ExtentShelfModel", name := "meets", desc := "([IIII)Z" } : MethodName) ({ cls := "ExtentShelfModel", name := "meets", desc := "([IIII)Z" } : MethodName) : Cond) ∈ xp_BW := xw_s 89 rfl rfl
set_option maxRecDepth 100000 in
theorem xws_90 : (.selects "ExtentShelfModel" ({ cls := "ExtentShelfModel", name := "freeOn", desc := "([II)I" } : MethodName) ({ cls := "ExtentShelfModel", name := "freeOn", desc := "([II)I" } : MethodName) : Cond) ∈ xp_BW := xw_s 90 rfl rfl
set_option maxRecDepth 100000 in
theorem xws_91 : (.selects "ExtentShelfModel" ({ cls := "ExtentShelfModel", name := "isFree", desc := "([II)Z" } : MethodName) ({ cls := "ExtentShelfModel", name := "isFree", desc := "([II)Z" } : MethodName) : Cond) ∈ xp_BW := xw_s 91 rfl rfl
set_option maxRecDepth 100000 in
theorem xws_92 : (.selects "ExtentShelfModel" ({ cls := "ExtentShelfModel", name := "clear", desc := "(II)V" } : MethodName) ({ cls := "ExtentShelfModel", name := "clear", desc := "(II)V" } : MethodName) : Cond) ∈ xp_BW := xw_s 92 rfl rfl
set_option maxRecDepth 100000 in
theorem xws_93 : (.selects "ExtentShelfModel" ({ cls := "ExtentShelfModel", name := "put", desc := "(III)V" } : MethodName) ({ cls := "ExtentShelfModel", name := "put", desc := "(III)V" } : MethodName) : Cond) ∈ xp_BW := xw_s 93 rfl rfl
set_option maxRecDepth 100000 in
theorem xws_94 : (.selects "ExtentShelfModel" ({ cls := "ExtentShelfModel", name := "isVolume", desc := "(I)Z" } : MethodName) ({ cls := "ExtentShelfModel", name := "isVolume", desc := "(I)Z" } : MethodName) : Cond) ∈ xp_BW := xw_s 94 rfl rfl
set_option maxRecDepth 100000 in
theorem xws_95 : (.selects "ExtentShelfModel" ({ cls := "ExtentShelfModel", name := "get", desc := "(II)I" } : MethodName) ({ cls := "ExtentShelfModel", name := "get", desc := "(II)I" } : MethodName) : Cond) ∈ xp_BW := xw_s 95 rfl rfl
set_option maxRecDepth 100000 in
theorem xws_96 : (.selects "ExtentShelfModel" ({ cls := "ExtentShelfModel", name := "elementOf", desc := "(II)I" } : MethodName) ({ cls := "ExtentShelfModel", name := "elementOf", desc := "(II)I" } : MethodName) : Cond) ∈ xp_BW := xw_s 96 rfl rfl
set_option maxRecDepth 100000 in
theorem xws_97 : (.selects "ExtentShelfModel" ({ cls := "ExtentShelfModel", name := "isReadable", desc := "(I)Z" } : MethodName) ({ cls := "ExtentShelfModel", name := "isReadable", desc := "(I)Z" } : MethodName) : Cond) ∈ xp_BW := xw_s 97 rfl rfl
set_option maxRecDepth 100000 in
theorem xws_98 : (.selects "ExtentShelfModel" ({ cls := "ExtentShelfModel", name := "wordOf", desc := "(II)I" } : MethodName) ({ cls := "ExtentShelfModel", name := "wordOf", desc := "(II)I" } : MethodName) : Cond) ∈ xp_BW := xw_s 98 rfl rfl
set_option maxRecDepth 100000 in
theorem xwt_0 : (.initialized "ExtentShelfLaw" : Cond) ∈ xp_BW := xw_t 0 rfl rfl
set_option maxRecDepth 100000 in
theorem xwt_1 : (.initialized "ExtentShelf" : Cond) ∈ xp_BW := xw_t 1 rfl rfl
set_option maxRecDepth 100000 in
theorem xwt_2 : (.initialized "ExtentShelf$Disks" : Cond) ∈ xp_BW := xw_t 2 rfl rfl
set_option maxRecDepth 100000 in
theorem xwt_3 : (.initialized "ExtentShelf$Table" : Cond) ∈ xp_BW := xw_t 3 rfl rfl
set_option maxRecDepth 100000 in
theorem xwt_4 : (.initialized "ExtentShelf$Move" : Cond) ∈ xp_BW := xw_t 4 rfl rfl
set_option maxRecDepth 100000 in
theorem xwt_5 : (.initialized "ExtentShelfModel" : Cond) ∈ xp_BW := xw_t 5 rfl rfl
set_option maxRecDepth 100000 in
theorem xwt_9 : (.initialized "java/lang/IllegalStateException" : Cond) ∈ xp_BW := xw_t 9 rfl rfl
set_option maxRecDepth 100000 in
theorem xwt_10 : (.initialized "java/lang/IllegalArgumentException" : Cond) ∈ xp_BW := xw_t 10 rfl rfl
set_option maxRecDepth 100000 in
theorem xwt_11 : (.initialized "java/lang/UnsupportedOperationException" : Cond) ∈ xp_BW := xw_t 11 rfl rfl
set_option maxRecDepth 100000 in
theorem xwt_12 : (.initialized "java/lang/System" : Cond) ∈ xp_BW := xw_t 12 rfl rfl
set_option maxRecDepth 100000 in
theorem xwt_13 : (.initialized "java/lang/Math" : Cond) ∈ xp_BW := xw_t 13 rfl rfl
set_option maxRecDepth 100000 in
theorem xwt_14 : (.initialized "java/util/NoSuchElementException" : Cond) ∈ xp_BW := xw_t 14 rfl rfl
set_option maxRecDepth 100000 in
theorem xwt_15 : (.initialized "java/lang/IndexOutOfBoundsException" : Cond) ∈ xp_BW := xw_t 15 rfl rfl
set_option maxRecDepth 100000 in
theorem xwt_30 : (.fieldLink "ExtentShelf$Disks" 9 "ExtentShelf$Disks" "slots" "[I" : Cond) ∈ xp_BW := xw_t 30 rfl rfl
set_option maxRecDepth 100000 in
theorem xwt_32 : (.fieldLink "ExtentShelf$Disks" 15 "ExtentShelf$Disks" "extents" "[I" : Cond) ∈ xp_BW := xw_t 32 rfl rfl
set_option maxRecDepth 100000 in
theorem xwt_33 : (.fieldLink "ExtentShelf$Disks" 18 "ExtentShelf$Disks" "absent" "[Z" : Cond) ∈ xp_BW := xw_t 33 rfl rfl
set_option maxRecDepth 100000 in
theorem xwt_49 : (.fieldLink "ExtentShelf$Table" 9 "ExtentShelf$Table" "words" "[I" : Cond) ∈ xp_BW := xw_t 49 rfl rfl
set_option maxRecDepth 100000 in
theorem xwt_60 : (.fieldLink "ExtentShelf$Move" 9 "ExtentShelf$Move" "disk" "I" : Cond) ∈ xp_BW := xw_t 60 rfl rfl
set_option maxRecDepth 100000 in
theorem xwt_62 : (.fieldLink "ExtentShelf$Move" 15 "ExtentShelf$Move" "leg" "I" : Cond) ∈ xp_BW := xw_t 62 rfl rfl
set_option maxRecDepth 100000 in
theorem xwt_64 : (.fieldLink "ExtentShelf$Move" 18 "ExtentShelf$Move" "target" "I" : Cond) ∈ xp_BW := xw_t 64 rfl rfl
set_option maxRecDepth 100000 in
theorem xwt_66 : (.fieldLink "ExtentShelf$Move" 21 "ExtentShelf$Move" "copied" "I" : Cond) ∈ xp_BW := xw_t 66 rfl rfl
set_option maxRecDepth 100000 in
theorem xwt_77 : (.fieldLink "ExtentShelf" 12 "ExtentShelf" "disks" "LExtentShelf$Disks;" : Cond) ∈ xp_BW := xw_t 77 rfl rfl
set_option maxRecDepth 100000 in
theorem xwt_78 : (.fieldLink "ExtentShelf" 19 "ExtentShelf" "table" "LExtentShelf$Table;" : Cond) ∈ xp_BW := xw_t 78 rfl rfl
set_option maxRecDepth 100000 in
theorem xwt_79 : (.fieldLink "ExtentShelf" 23 "ExtentShelf" "draft" "LExtentShelf$Table;" : Cond) ∈ xp_BW := xw_t 79 rfl rfl
set_option maxRecDepth 100000 in
theorem xwt_80 : (.fieldLink "ExtentShelf" 29 "ExtentShelf" "move" "LExtentShelf$Move;" : Cond) ∈ xp_BW := xw_t 80 rfl rfl
set_option maxRecDepth 100000 in
theorem xwt_81 : (.fieldLink "ExtentShelf" 33 "ExtentShelf" "powerOn" "Z" : Cond) ∈ xp_BW := xw_t 81 rfl rfl
set_option maxRecDepth 100000 in
theorem xwt_82 : (.fieldLink "ExtentShelf" 37 "ExtentShelf" "wordsBeforeCut" "I" : Cond) ∈ xp_BW := xw_t 82 rfl rfl
set_option maxRecDepth 100000 in
theorem xwt_96 : (.methodLink "ExtentShelfLaw" 137 ({ cls := "ExtentShelf", name := "moving", desc := "()I" } : MethodName) : Cond) ∈ xp_BW := xw_t 96 rfl rfl
set_option maxRecDepth 100000 in
theorem xwt_97 : (.instanceMethod ({ cls := "ExtentShelf", name := "moving", desc := "()I" } : MethodName) : Cond) ∈ xp_BW := xw_t 97 rfl rfl
set_option maxRecDepth 100000 in
theorem xwt_98 : (.selects "ExtentShelf" ({ cls := "ExtentShelf", name := "moving", desc := "()I" } : MethodName) ({ cls := "ExtentShelf", name := "moving", desc := "()I" } : MethodName) : Cond) ∈ xp_BW := xw_t 98 rfl rfl
set_option maxRecDepth 100000 in
theorem xwt_99 : (.code ({ cls := "ExtentShelf", name := "moving", desc := "()I" } : MethodName) prog_1_method_14_code 1 (some .int) : Cond) ∈ xp_BW := xw_t 99 rfl rfl
set_option maxRecDepth 100000 in
theorem xwt_100 : (.methodLink "ExtentShelfLaw" 164 ({ cls := "ExtentShelf", name := "number", desc := "()I" } : MethodName) : Cond) ∈ xp_BW := xw_t 100 rfl rfl
set_option maxRecDepth 100000 in
theorem xwt_101 : (.instanceMethod ({ cls := "ExtentShelf", name := "number", desc := "()I" } : MethodName) : Cond) ∈ xp_BW := xw_t 101 rfl rfl
set_option maxRecDepth 100000 in
theorem xwt_102 : (.selects "ExtentShelf" ({ cls := "ExtentShelf", name := "number", desc := "()I" } : MethodName) ({ cls := "ExtentShelf", name := "number", desc := "()I" } : MethodName) : Cond) ∈ xp_BW := xw_t 102 rfl rfl
set_option maxRecDepth 100000 in
theorem xwt_103 : (.code ({ cls := "ExtentShelf", name := "number", desc := "()I" } : MethodName) prog_1_method_22_code 1 (some .int) : Cond) ∈ xp_BW := xw_t 103 rfl rfl
set_option maxRecDepth 100000 in
theorem xwt_106 : (.instanceMethod ({ cls := "ExtentShelf$Table", name := "serial", desc := "()I" } : MethodName) : Cond) ∈ xp_BW := xw_t 106 rfl rfl
set_option maxRecDepth 100000 in
theorem xwt_107 : (.code ({ cls := "ExtentShelf$Table", name := "serial", desc := "()I" } : MethodName) prog_4_method_6_code 1 (some .int) : Cond) ∈ xp_BW := xw_t 107 rfl rfl
set_option maxRecDepth 100000 in
theorem xwt_108 : (.methodLink "ExtentShelfLaw" 90 ({ cls := "ExtentShelfLaw", name := "add", desc := "(LExtentShelf;II)I" } : MethodName) : Cond) ∈ xp_BW := xw_t 108 rfl rfl
set_option maxRecDepth 100000 in
theorem xwt_109 : (.static ({ cls := "ExtentShelfLaw", name := "add", desc := "(LExtentShelf;II)I" } : MethodName) : Cond) ∈ xp_BW := xw_t 109 rfl rfl
set_option maxRecDepth 100000 in
theorem xwt_110 : (.codeWith ({ cls := "ExtentShelfLaw", name := "add", desc := "(LExtentShelf;II)I" } : MethodName) method_3_code 4 (some .int) [(0, 6, 9, 13), (0, 6, 12, 15), (0, 6, 15, 17)] : Cond) ∈ xp_BW := xw_t 110 rfl rfl
set_option maxRecDepth 100000 in
theorem xwt_114 : (.methodLink "ExtentShelfLaw" 7 ({ cls := "ExtentShelf", name := "add", desc := "(II)V" } : MethodName) : Cond) ∈ xp_BW := xw_t 114 rfl rfl
set_option maxRecDepth 100000 in
theorem xwt_115 : (.instanceMethod ({ cls := "ExtentShelf", name := "add", desc := "(II)V" } : MethodName) : Cond) ∈ xp_BW := xw_t 115 rfl rfl
set_option maxRecDepth 100000 in
theorem xwt_116 : (.selects "ExtentShelf" ({ cls := "ExtentShelf", name := "add", desc := "(II)V" } : MethodName) ({ cls := "ExtentShelf", name := "add", desc := "(II)V" } : MethodName) : Cond) ∈ xp_BW := xw_t 116 rfl rfl
set_option maxRecDepth 100000 in
theorem xwt_117 : (.code ({ cls := "ExtentShelf", name := "add", desc := "(II)V" } : MethodName) prog_1_method_2_code 3 none : Cond) ∈ xp_BW := xw_t 117 rfl rfl
set_option maxRecDepth 100000 in
theorem xwt_118 : (.methodLink "ExtentShelf" 41 ({ cls := "ExtentShelf", name := "requirePower", desc := "()V" } : MethodName) : Cond) ∈ xp_BW := xw_t 118 rfl rfl
set_option maxRecDepth 100000 in
theorem xwt_120 : (.instanceMethod ({ cls := "ExtentShelf", name := "requirePower", desc := "()V" } : MethodName) : Cond) ∈ xp_BW := xw_t 120 rfl rfl
set_option maxRecDepth 100000 in
theorem xwt_121 : (.code ({ cls := "ExtentShelf", name := "requirePower", desc := "()V" } : MethodName) prog_1_method_24_code 1 none : Cond) ∈ xp_BW := xw_t 121 rfl rfl
set_option maxRecDepth 100000 in
theorem xwt_122 : (.classLink "ExtentShelf" 279 "java/lang/IllegalStateException" : Cond) ∈ xp_BW := xw_t 122 rfl rfl
set_option maxRecDepth 100000 in
theorem xwt_192 : (.methodLink "ExtentShelf" 44 ({ cls := "ExtentShelf", name := "requireDisk", desc := "(I)V" } : MethodName) : Cond) ∈ xp_BW := xw_t 192 rfl rfl
set_option maxRecDepth 100000 in
theorem xwt_193 : (.static ({ cls := "ExtentShelf", name := "requireDisk", desc := "(I)V" } : MethodName) : Cond) ∈ xp_BW := xw_t 193 rfl rfl
set_option maxRecDepth 100000 in
theorem xwt_194 : (.code ({ cls := "ExtentShelf", name := "requireDisk", desc := "(I)V" } : MethodName) prog_1_method_27_code 1 none : Cond) ∈ xp_BW := xw_t 194 rfl rfl
set_option maxRecDepth 100000 in
theorem xwt_195 : (.methodLink "ExtentShelf" 268 ({ cls := "ExtentShelf", name := "isDisk", desc := "(I)Z" } : MethodName) : Cond) ∈ xp_BW := xw_t 195 rfl rfl
set_option maxRecDepth 100000 in
theorem xwt_196 : (.static ({ cls := "ExtentShelf", name := "isDisk", desc := "(I)Z" } : MethodName) : Cond) ∈ xp_BW := xw_t 196 rfl rfl
set_option maxRecDepth 100000 in
theorem xwt_197 : (.code ({ cls := "ExtentShelf", name := "isDisk", desc := "(I)Z" } : MethodName) prog_1_method_26_code 1 (some .boolean) : Cond) ∈ xp_BW := xw_t 197 rfl rfl
set_option maxRecDepth 100000 in
theorem xwt_198 : (.classLink "ExtentShelf" 48 "java/lang/IllegalArgumentException" : Cond) ∈ xp_BW := xw_t 198 rfl rfl
set_option maxRecDepth 100000 in
theorem xwt_217 : (.instanceMethod ({ cls := "ExtentShelf$Table", name := "lists", desc := "(I)Z" } : MethodName) : Cond) ∈ xp_BW := xw_t 217 rfl rfl
set_option maxRecDepth 100000 in
theorem xwt_218 : (.code ({ cls := "ExtentShelf$Table", name := "lists", desc := "(I)Z" } : MethodName) prog_4_method_7_code 2 (some .boolean) : Cond) ∈ xp_BW := xw_t 218 rfl rfl
set_option maxRecDepth 100000 in
theorem xwt_219 : (.methodLink "ExtentShelf$Table" 25 ({ cls := "ExtentShelf$Table", name := "extentsOf", desc := "(I)I" } : MethodName) : Cond) ∈ xp_BW := xw_t 219 rfl rfl
set_option maxRecDepth 100000 in
theorem xwt_221 : (.instanceMethod ({ cls := "ExtentShelf$Table", name := "extentsOf", desc := "(I)I" } : MethodName) : Cond) ∈ xp_BW := xw_t 221 rfl rfl
set_option maxRecDepth 100000 in
theorem xwt_222 : (.code ({ cls := "ExtentShelf$Table", name := "extentsOf", desc := "(I)I" } : MethodName) prog_4_method_8_code 2 (some .int) : Cond) ∈ xp_BW := xw_t 222 rfl rfl
set_option maxRecDepth 100000 in
theorem xwt_225 : (.instanceMethod ({ cls := "ExtentShelf$Disks", name := "isAbsent", desc := "(I)Z" } : MethodName) : Cond) ∈ xp_BW := xw_t 225 rfl rfl
set_option maxRecDepth 100000 in
theorem xwt_226 : (.code ({ cls := "ExtentShelf$Disks", name := "isAbsent", desc := "(I)Z" } : MethodName) prog_2_method_2_code 2 (some .boolean) : Cond) ∈ xp_BW := xw_t 226 rfl rfl
set_option maxRecDepth 100000 in
theorem xwt_227 : (.classLink "ExtentShelf" 62 "java/lang/UnsupportedOperationException" : Cond) ∈ xp_BW := xw_t 227 rfl rfl
set_option maxRecDepth 100000 in
theorem xwt_243 : (.methodLink "ExtentShelf" 67 ({ cls := "ExtentShelf", name := "requireListedPresent", desc := "()V" } : MethodName) : Cond) ∈ xp_BW := xw_t 243 rfl rfl
set_option maxRecDepth 100000 in
theorem xwt_245 : (.instanceMethod ({ cls := "ExtentShelf", name := "requireListedPresent", desc := "()V" } : MethodName) : Cond) ∈ xp_BW := xw_t 245 rfl rfl
set_option maxRecDepth 100000 in
theorem xwt_246 : (.code ({ cls := "ExtentShelf", name := "requireListedPresent", desc := "()V" } : MethodName) prog_1_method_29_code 1 none : Cond) ∈ xp_BW := xw_t 246 rfl rfl
set_option maxRecDepth 100000 in
theorem xwt_247 : (.methodLink "ExtentShelf" 290 ({ cls := "ExtentShelf", name := "isAnyListedAbsent", desc := "()Z" } : MethodName) : Cond) ∈ xp_BW := xw_t 247 rfl rfl
set_option maxRecDepth 100000 in
theorem xwt_249 : (.instanceMethod ({ cls := "ExtentShelf", name := "isAnyListedAbsent", desc := "()Z" } : MethodName) : Cond) ∈ xp_BW := xw_t 249 rfl rfl
set_option maxRecDepth 100000 in
theorem xwt_250 : (.code ({ cls := "ExtentShelf", name := "isAnyListedAbsent", desc := "()Z" } : MethodName) prog_1_method_32_code 2 (some .boolean) : Cond) ∈ xp_BW := xw_t 250 rfl rfl
set_option maxRecDepth 100000 in
theorem xwt_254 : (.instanceMethod ({ cls := "ExtentShelf$Disks", name := "clearExtents", desc := "(I)V" } : MethodName) : Cond) ∈ xp_BW := xw_t 254 rfl rfl
set_option maxRecDepth 100000 in
theorem xwt_255 : (.code ({ cls := "ExtentShelf$Disks", name := "clearExtents", desc := "(I)V" } : MethodName) prog_2_method_13_code 3 none : Cond) ∈ xp_BW := xw_t 255 rfl rfl
set_option maxRecDepth 100000 in
theorem xwt_256 : (.methodLink "ExtentShelf" 73 ({ cls := "ExtentShelf", name := "beginDraft", desc := "()V" } : MethodName) : Cond) ∈ xp_BW := xw_t 256 rfl rfl
set_option maxRecDepth 100000 in
theorem xwt_258 : (.instanceMethod ({ cls := "ExtentShelf", name := "beginDraft", desc := "()V" } : MethodName) : Cond) ∈ xp_BW := xw_t 258 rfl rfl
set_option maxRecDepth 100000 in
theorem xwt_259 : (.code ({ cls := "ExtentShelf", name := "beginDraft", desc := "()V" } : MethodName) prog_1_method_47_code 1 none : Cond) ∈ xp_BW := xw_t 259 rfl rfl
set_option maxRecDepth 100000 in
theorem xwt_262 : (.instanceMethod ({ cls := "ExtentShelf$Table", name := "takeFrom", desc := "([II)V" } : MethodName) : Cond) ∈ xp_BW := xw_t 262 rfl rfl
set_option maxRecDepth 100000 in
theorem xwt_263 : (.code ({ cls := "ExtentShelf$Table", name := "takeFrom", desc := "([II)V" } : MethodName) prog_4_method_2_code 3 none : Cond) ∈ xp_BW := xw_t 263 rfl rfl
set_option maxRecDepth 100000 in
theorem xwt_264 : (.methodLink "ExtentShelf$Table" 15 ({ cls := "java/lang/System", name := "arraycopy", desc := "(Ljava/lang/Object;ILjava/lang/Object;II)V" } : MethodName) : Cond) ∈ xp_BW := xw_t 264 rfl rfl
set_option maxRecDepth 100000 in
theorem xwt_265 : (.static ({ cls := "java/lang/System", name := "arraycopy", desc := "(Ljava/lang/Object;ILjava/lang/Object;II)V" } : MethodName) : Cond) ∈ xp_BW := xw_t 265 rfl rfl
set_option maxRecDepth 100000 in
theorem xwt_266 : (.native ({ cls := "java/lang/System", name := "arraycopy", desc := "(Ljava/lang/Object;ILjava/lang/Object;II)V" } : MethodName) : Cond) ∈ xp_BW := xw_t 266 rfl rfl
set_option maxRecDepth 100000 in
theorem xwt_269 : (.instanceMethod ({ cls := "ExtentShelf$Table", name := "setExtents", desc := "(II)V" } : MethodName) : Cond) ∈ xp_BW := xw_t 269 rfl rfl
set_option maxRecDepth 100000 in
theorem xwt_270 : (.code ({ cls := "ExtentShelf$Table", name := "setExtents", desc := "(II)V" } : MethodName) prog_4_method_9_code 3 none : Cond) ∈ xp_BW := xw_t 270 rfl rfl
set_option maxRecDepth 100000 in
theorem xwt_271 : (.methodLink "ExtentShelf" 80 ({ cls := "ExtentShelf", name := "commitDraft", desc := "()V" } : MethodName) : Cond) ∈ xp_BW := xw_t 271 rfl rfl
set_option maxRecDepth 100000 in
theorem xwt_273 : (.instanceMethod ({ cls := "ExtentShelf", name := "commitDraft", desc := "()V" } : MethodName) : Cond) ∈ xp_BW := xw_t 273 rfl rfl
set_option maxRecDepth 100000 in
theorem xwt_274 : (.code ({ cls := "ExtentShelf", name := "commitDraft", desc := "()V" } : MethodName) prog_1_method_48_code 2 none : Cond) ∈ xp_BW := xw_t 274 rfl rfl
set_option maxRecDepth 100000 in
theorem xwt_277 : (.instanceMethod ({ cls := "ExtentShelf$Table", name := "seal", desc := "(I)V" } : MethodName) : Cond) ∈ xp_BW := xw_t 277 rfl rfl
set_option maxRecDepth 100000 in
theorem xwt_278 : (.code ({ cls := "ExtentShelf$Table", name := "seal", desc := "(I)V" } : MethodName) prog_4_method_4_code 2 none : Cond) ∈ xp_BW := xw_t 278 rfl rfl
set_option maxRecDepth 100000 in
theorem xwt_279 : (.methodLink "ExtentShelf$Table" 21 ({ cls := "ExtentShelf$Table", name := "sumOf", desc := "([II)I" } : MethodName) : Cond) ∈ xp_BW := xw_t 279 rfl rfl
set_option maxRecDepth 100000 in
theorem xwt_280 : (.static ({ cls := "ExtentShelf$Table", name := "sumOf", desc := "([II)I" } : MethodName) : Cond) ∈ xp_BW := xw_t 280 rfl rfl
set_option maxRecDepth 100000 in
theorem xwt_281 : (.code ({ cls := "ExtentShelf$Table", name := "sumOf", desc := "([II)I" } : MethodName) prog_4_method_5_code 4 (some .int) : Cond) ∈ xp_BW := xw_t 281 rfl rfl
set_option maxRecDepth 100000 in
theorem xwt_282 : (.methodLink "ExtentShelf" 251 ({ cls := "ExtentShelf", name := "isListedAndPresent", desc := "(LExtentShelf$Table;I)Z" } : MethodName) : Cond) ∈ xp_BW := xw_t 282 rfl rfl
set_option maxRecDepth 100000 in
theorem xwt_284 : (.instanceMethod ({ cls := "ExtentShelf", name := "isListedAndPresent", desc := "(LExtentShelf$Table;I)Z" } : MethodName) : Cond) ∈ xp_BW := xw_t 284 rfl rfl
set_option maxRecDepth 100000 in
theorem xwt_285 : (.code ({ cls := "ExtentShelf", name := "isListedAndPresent", desc := "(LExtentShelf$Table;I)Z" } : MethodName) prog_1_method_49_code 3 (some .boolean) : Cond) ∈ xp_BW := xw_t 285 rfl rfl
set_option maxRecDepth 100000 in
theorem xwt_286 : (.methodLink "ExtentShelf" 261 ({ cls := "ExtentShelf", name := "writeTable", desc := "(LExtentShelf$Table;I)V" } : MethodName) : Cond) ∈ xp_BW := xw_t 286 rfl rfl
set_option maxRecDepth 100000 in
theorem xwt_288 : (.instanceMethod ({ cls := "ExtentShelf", name := "writeTable", desc := "(LExtentShelf$Table;I)V" } : MethodName) : Cond) ∈ xp_BW := xw_t 288 rfl rfl
set_option maxRecDepth 100000 in
theorem xwt_289 : (.code ({ cls := "ExtentShelf", name := "writeTable", desc := "(LExtentShelf$Table;I)V" } : MethodName) prog_1_method_50_code 5 none : Cond) ∈ xp_BW := xw_t 289 rfl rfl
set_option maxRecDepth 100000 in
theorem xwt_292 : (.instanceMethod ({ cls := "ExtentShelf$Disks", name := "slotToWrite", desc := "(I)I" } : MethodName) : Cond) ∈ xp_BW := xw_t 292 rfl rfl
set_option maxRecDepth 100000 in
theorem xwt_293 : (.code ({ cls := "ExtentShelf$Disks", name := "slotToWrite", desc := "(I)I" } : MethodName) prog_2_method_9_code 2 (some .int) : Cond) ∈ xp_BW := xw_t 293 rfl rfl
set_option maxRecDepth 100000 in
theorem xwt_294 : (.methodLink "ExtentShelf$Disks" 32 ({ cls := "ExtentShelf$Disks", name := "wholeSerial", desc := "(II)I" } : MethodName) : Cond) ∈ xp_BW := xw_t 294 rfl rfl
set_option maxRecDepth 100000 in
theorem xwt_296 : (.instanceMethod ({ cls := "ExtentShelf$Disks", name := "wholeSerial", desc := "(II)I" } : MethodName) : Cond) ∈ xp_BW := xw_t 296 rfl rfl
set_option maxRecDepth 100000 in
theorem xwt_297 : (.code ({ cls := "ExtentShelf$Disks", name := "wholeSerial", desc := "(II)I" } : MethodName) prog_2_method_7_code 6 (some .int) : Cond) ∈ xp_BW := xw_t 297 rfl rfl
set_option maxRecDepth 100000 in
theorem xwt_298 : (.methodLink "ExtentShelf$Disks" 22 ({ cls := "ExtentShelf$Disks", name := "startOfSlot", desc := "(II)I" } : MethodName) : Cond) ∈ xp_BW := xw_t 298 rfl rfl
set_option maxRecDepth 100000 in
theorem xwt_299 : (.static ({ cls := "ExtentShelf$Disks", name := "startOfSlot", desc := "(II)I" } : MethodName) : Cond) ∈ xp_BW := xw_t 299 rfl rfl
set_option maxRecDepth 100000 in
theorem xwt_300 : (.code ({ cls := "ExtentShelf$Disks", name := "startOfSlot", desc := "(II)I" } : MethodName) prog_2_method_4_code 2 (some .int) : Cond) ∈ xp_BW := xw_t 300 rfl rfl
set_option maxRecDepth 100000 in
theorem xwt_302 : (.methodLink "ExtentShelf" 303 ({ cls := "ExtentShelf", name := "spendWord", desc := "()V" } : MethodName) : Cond) ∈ xp_BW := xw_t 302 rfl rfl
set_option maxRecDepth 100000 in
theorem xwt_304 : (.instanceMethod ({ cls := "ExtentShelf", name := "spendWord", desc := "()V" } : MethodName) : Cond) ∈ xp_BW := xw_t 304 rfl rfl
set_option maxRecDepth 100000 in
theorem xwt_305 : (.code ({ cls := "ExtentShelf", name := "spendWord", desc := "()V" } : MethodName) prog_1_method_44_code 1 none : Cond) ∈ xp_BW := xw_t 305 rfl rfl
set_option maxRecDepth 100000 in
theorem xwt_306 : (.methodLink "ExtentShelf" 238 ({ cls := "ExtentShelf", name := "losePower", desc := "()V" } : MethodName) : Cond) ∈ xp_BW := xw_t 306 rfl rfl
set_option maxRecDepth 100000 in
theorem xwt_308 : (.instanceMethod ({ cls := "ExtentShelf", name := "losePower", desc := "()V" } : MethodName) : Cond) ∈ xp_BW := xw_t 308 rfl rfl
set_option maxRecDepth 100000 in
theorem xwt_309 : (.code ({ cls := "ExtentShelf", name := "losePower", desc := "()V" } : MethodName) prog_1_method_43_code 1 none : Cond) ∈ xp_BW := xw_t 309 rfl rfl
set_option maxRecDepth 100000 in
theorem xwt_312 : (.instanceMethod ({ cls := "ExtentShelf$Move", name := "end", desc := "()V" } : MethodName) : Cond) ∈ xp_BW := xw_t 312 rfl rfl
set_option maxRecDepth 100000 in
theorem xwt_313 : (.code ({ cls := "ExtentShelf$Move", name := "end", desc := "()V" } : MethodName) prog_3_method_3_code 1 none : Cond) ∈ xp_BW := xw_t 313 rfl rfl
set_option maxRecDepth 100000 in
theorem xwt_317 : (.instanceMethod ({ cls := "ExtentShelf$Disks", name := "setSlotWord", desc := "(IIII)V" } : MethodName) : Cond) ∈ xp_BW := xw_t 317 rfl rfl
set_option maxRecDepth 100000 in
theorem xwt_318 : (.code ({ cls := "ExtentShelf$Disks", name := "setSlotWord", desc := "(IIII)V" } : MethodName) prog_2_method_6_code 5 none : Cond) ∈ xp_BW := xw_t 318 rfl rfl
set_option maxRecDepth 100000 in
theorem xwt_321 : (.instanceMethod ({ cls := "ExtentShelf$Table", name := "spotOf", desc := "(I)I" } : MethodName) : Cond) ∈ xp_BW := xw_t 321 rfl rfl
set_option maxRecDepth 100000 in
theorem xwt_322 : (.code ({ cls := "ExtentShelf$Table", name := "spotOf", desc := "(I)I" } : MethodName) prog_4_method_19_code 2 (some .int) : Cond) ∈ xp_BW := xw_t 322 rfl rfl
set_option maxRecDepth 100000 in
theorem xwt_325 : (.instanceMethod ({ cls := "ExtentShelf$Move", name := "endCopy", desc := "()V" } : MethodName) : Cond) ∈ xp_BW := xw_t 325 rfl rfl
set_option maxRecDepth 100000 in
theorem xwt_326 : (.code ({ cls := "ExtentShelf$Move", name := "endCopy", desc := "()V" } : MethodName) prog_3_method_5_code 1 none : Cond) ∈ xp_BW := xw_t 326 rfl rfl
set_option maxRecDepth 100000 in
theorem xwt_327 : (.methodLink "ExtentShelfLaw" 99 ({ cls := "ExtentShelfLaw", name := "remove", desc := "(LExtentShelf;I)I" } : MethodName) : Cond) ∈ xp_BW := xw_t 327 rfl rfl
set_option maxRecDepth 100000 in
theorem xwt_328 : (.static ({ cls := "ExtentShelfLaw", name := "remove", desc := "(LExtentShelf;I)I" } : MethodName) : Cond) ∈ xp_BW := xw_t 328 rfl rfl
set_option maxRecDepth 100000 in
theorem xwt_329 : (.codeWith ({ cls := "ExtentShelfLaw", name := "remove", desc := "(LExtentShelf;I)I" } : MethodName) method_4_code 3 (some .int) [(0, 5, 8, 13), (0, 5, 11, 15), (0, 5, 14, 17)] : Cond) ∈ xp_BW := xw_t 329 rfl rfl
set_option maxRecDepth 100000 in
theorem xwt_330 : (.methodLink "ExtentShelfLaw" 19 ({ cls := "ExtentShelf", name := "remove", desc := "(I)V" } : MethodName) : Cond) ∈ xp_BW := xw_t 330 rfl rfl
set_option maxRecDepth 100000 in
theorem xwt_331 : (.instanceMethod ({ cls := "ExtentShelf", name := "remove", desc := "(I)V" } : MethodName) : Cond) ∈ xp_BW := xw_t 331 rfl rfl
set_option maxRecDepth 100000 in
theorem xwt_332 : (.selects "ExtentShelf" ({ cls := "ExtentShelf", name := "remove", desc := "(I)V" } : MethodName) ({ cls := "ExtentShelf", name := "remove", desc := "(I)V" } : MethodName) : Cond) ∈ xp_BW := xw_t 332 rfl rfl
set_option maxRecDepth 100000 in
theorem xwt_333 : (.code ({ cls := "ExtentShelf", name := "remove", desc := "(I)V" } : MethodName) prog_1_method_3_code 2 none : Cond) ∈ xp_BW := xw_t 333 rfl rfl
set_option maxRecDepth 100000 in
theorem xwt_334 : (.methodLink "ExtentShelf" 83 ({ cls := "ExtentShelf", name := "requireListed", desc := "(I)V" } : MethodName) : Cond) ∈ xp_BW := xw_t 334 rfl rfl
set_option maxRecDepth 100000 in
theorem xwt_336 : (.instanceMethod ({ cls := "ExtentShelf", name := "requireListed", desc := "(I)V" } : MethodName) : Cond) ∈ xp_BW := xw_t 336 rfl rfl
set_option maxRecDepth 100000 in
theorem xwt_337 : (.code ({ cls := "ExtentShelf", name := "requireListed", desc := "(I)V" } : MethodName) prog_1_method_28_code 2 none : Cond) ∈ xp_BW := xw_t 337 rfl rfl
set_option maxRecDepth 100000 in
theorem xwt_341 : (.instanceMethod ({ cls := "ExtentShelf$Table", name := "legsOn", desc := "(I)I" } : MethodName) : Cond) ∈ xp_BW := xw_t 341 rfl rfl
set_option maxRecDepth 100000 in
theorem xwt_342 : (.code ({ cls := "ExtentShelf$Table", name := "legsOn", desc := "(I)I" } : MethodName) prog_4_method_22_code 4 (some .int) : Cond) ∈ xp_BW := xw_t 342 rfl rfl
set_option maxRecDepth 100000 in
theorem xwt_343 : (.methodLink "ExtentShelf$Table" 53 ({ cls := "ExtentShelf$Table", name := "spotOf", desc := "(I)I" } : MethodName) : Cond) ∈ xp_BW := xw_t 343 rfl rfl
set_option maxRecDepth 100000 in
theorem xwt_345 : (.static ({ cls := "ExtentShelf", name := "diskOf", desc := "(I)I" } : MethodName) : Cond) ∈ xp_BW := xw_t 345 rfl rfl
set_option maxRecDepth 100000 in
theorem xwt_346 : (.code ({ cls := "ExtentShelf", name := "diskOf", desc := "(I)I" } : MethodName) prog_1_method_37_code 1 (some .int) : Cond) ∈ xp_BW := xw_t 346 rfl rfl
set_option maxRecDepth 100000 in
theorem xwt_347 : (.methodLink "ExtentShelf" 93 ({ cls := "ExtentShelf", name := "diskOf", desc := "(I)I" } : MethodName) : Cond) ∈ xp_BW := xw_t 347 rfl rfl
set_option maxRecDepth 100000 in
theorem xwt_351 : (.instanceMethod ({ cls := "ExtentShelf$Table", name := "countListed", desc := "()I" } : MethodName) : Cond) ∈ xp_BW := xw_t 351 rfl rfl
set_option maxRecDepth 100000 in
theorem xwt_352 : (.code ({ cls := "ExtentShelf$Table", name := "countListed", desc := "()I" } : MethodName) prog_4_method_10_code 3 (some .int) : Cond) ∈ xp_BW := xw_t 352 rfl rfl
set_option maxRecDepth 100000 in
theorem xwt_353 : (.methodLink "ExtentShelf$Table" 29 ({ cls := "ExtentShelf$Table", name := "lists", desc := "(I)Z" } : MethodName) : Cond) ∈ xp_BW := xw_t 353 rfl rfl
set_option maxRecDepth 100000 in
theorem xwt_355 : (.methodLink "ExtentShelfLaw" 103 ({ cls := "ExtentShelfLaw", name := "drop", desc := "(LExtentShelf;I[J)I" } : MethodName) : Cond) ∈ xp_BW := xw_t 355 rfl rfl
set_option maxRecDepth 100000 in
theorem xwt_356 : (.static ({ cls := "ExtentShelfLaw", name := "drop", desc := "(LExtentShelf;I[J)I" } : MethodName) : Cond) ∈ xp_BW := xw_t 356 rfl rfl
set_option maxRecDepth 100000 in
theorem xwt_357 : (.codeWith ({ cls := "ExtentShelfLaw", name := "drop", desc := "(LExtentShelf;I[J)I" } : MethodName) method_5_code 4 (some .int) [(0, 9, 12, 13), (0, 9, 15, 15), (0, 9, 18, 17)] : Cond) ∈ xp_BW := xw_t 357 rfl rfl
set_option maxRecDepth 100000 in
theorem xwt_358 : (.methodLink "ExtentShelfLaw" 23 ({ cls := "ExtentShelf", name := "drop", desc := "(I)I" } : MethodName) : Cond) ∈ xp_BW := xw_t 358 rfl rfl
set_option maxRecDepth 100000 in
theorem xwt_359 : (.instanceMethod ({ cls := "ExtentShelf", name := "drop", desc := "(I)I" } : MethodName) : Cond) ∈ xp_BW := xw_t 359 rfl rfl
set_option maxRecDepth 100000 in
theorem xwt_360 : (.selects "ExtentShelf" ({ cls := "ExtentShelf", name := "drop", desc := "(I)I" } : MethodName) ({ cls := "ExtentShelf", name := "drop", desc := "(I)I" } : MethodName) : Cond) ∈ xp_BW := xw_t 360 rfl rfl
set_option maxRecDepth 100000 in
theorem xwt_361 : (.code ({ cls := "ExtentShelf", name := "drop", desc := "(I)I" } : MethodName) prog_1_method_4_code 3 (some .int) : Cond) ∈ xp_BW := xw_t 361 rfl rfl
set_option maxRecDepth 100000 in
theorem xwt_362 : (.methodLink "ExtentShelf" 110 ({ cls := "ExtentShelf", name := "isAnyListedPresent", desc := "()Z" } : MethodName) : Cond) ∈ xp_BW := xw_t 362 rfl rfl
set_option maxRecDepth 100000 in
theorem xwt_364 : (.instanceMethod ({ cls := "ExtentShelf", name := "isAnyListedPresent", desc := "()Z" } : MethodName) : Cond) ∈ xp_BW := xw_t 364 rfl rfl
set_option maxRecDepth 100000 in
theorem xwt_365 : (.code ({ cls := "ExtentShelf", name := "isAnyListedPresent", desc := "()Z" } : MethodName) prog_1_method_33_code 2 (some .boolean) : Cond) ∈ xp_BW := xw_t 365 rfl rfl
set_option maxRecDepth 100000 in
theorem xwt_369 : (.instanceMethod ({ cls := "ExtentShelf$Table", name := "loseLegsOn", desc := "(I)V" } : MethodName) : Cond) ∈ xp_BW := xw_t 369 rfl rfl
set_option maxRecDepth 100000 in
theorem xwt_370 : (.code ({ cls := "ExtentShelf$Table", name := "loseLegsOn", desc := "(I)V" } : MethodName) prog_4_method_24_code 3 none : Cond) ∈ xp_BW := xw_t 370 rfl rfl
set_option maxRecDepth 100000 in
theorem xwt_371 : (.methodLink "ExtentShelf$Table" 50 ({ cls := "ExtentShelf$Table", name := "setSpot", desc := "(II)V" } : MethodName) : Cond) ∈ xp_BW := xw_t 371 rfl rfl
set_option maxRecDepth 100000 in
theorem xwt_373 : (.instanceMethod ({ cls := "ExtentShelf$Table", name := "setSpot", desc := "(II)V" } : MethodName) : Cond) ∈ xp_BW := xw_t 373 rfl rfl
set_option maxRecDepth 100000 in
theorem xwt_374 : (.code ({ cls := "ExtentShelf$Table", name := "setSpot", desc := "(II)V" } : MethodName) prog_4_method_20_code 3 none : Cond) ∈ xp_BW := xw_t 374 rfl rfl
set_option maxRecDepth 100000 in
theorem xwt_375 : (.methodLink "ExtentShelfLaw" 107 ({ cls := "ExtentShelfLaw", name := "make", desc := "(LExtentShelf;III[J)I" } : MethodName) : Cond) ∈ xp_BW := xw_t 375 rfl rfl
set_option maxRecDepth 100000 in
theorem xwt_376 : (.static ({ cls := "ExtentShelfLaw", name := "make", desc := "(LExtentShelf;III[J)I" } : MethodName) : Cond) ∈ xp_BW := xw_t 376 rfl rfl
set_option maxRecDepth 100000 in
theorem xwt_377 : (.codeWith ({ cls := "ExtentShelfLaw", name := "make", desc := "(LExtentShelf;III[J)I" } : MethodName) method_6_code 6 (some .int) [(0, 12, 15, 13), (0, 12, 19, 15), (0, 12, 23, 17)] : Cond) ∈ xp_BW := xw_t 377 rfl rfl
set_option maxRecDepth 100000 in
theorem xwt_378 : (.methodLink "ExtentShelfLaw" 27 ({ cls := "ExtentShelf", name := "make", desc := "(III)I" } : MethodName) : Cond) ∈ xp_BW := xw_t 378 rfl rfl
set_option maxRecDepth 100000 in
theorem xwt_379 : (.instanceMethod ({ cls := "ExtentShelf", name := "make", desc := "(III)I" } : MethodName) : Cond) ∈ xp_BW := xw_t 379 rfl rfl
set_option maxRecDepth 100000 in
theorem xwt_380 : (.selects "ExtentShelf" ({ cls := "ExtentShelf", name := "make", desc := "(III)I" } : MethodName) ({ cls := "ExtentShelf", name := "make", desc := "(III)I" } : MethodName) : Cond) ∈ xp_BW := xw_t 380 rfl rfl
set_option maxRecDepth 100000 in
theorem xwt_381 : (.code ({ cls := "ExtentShelf", name := "make", desc := "(III)I" } : MethodName) prog_1_method_5_code 5 (some .int) : Cond) ∈ xp_BW := xw_t 381 rfl rfl
set_option maxRecDepth 100000 in
theorem xwt_382 : (.methodLink "ExtentShelf" 119 ({ cls := "ExtentShelf", name := "isShape", desc := "(II)Z" } : MethodName) : Cond) ∈ xp_BW := xw_t 382 rfl rfl
set_option maxRecDepth 100000 in
theorem xwt_383 : (.static ({ cls := "ExtentShelf", name := "isShape", desc := "(II)Z" } : MethodName) : Cond) ∈ xp_BW := xw_t 383 rfl rfl
set_option maxRecDepth 100000 in
theorem xwt_384 : (.code ({ cls := "ExtentShelf", name := "isShape", desc := "(II)Z" } : MethodName) prog_1_method_34_code 2 (some .boolean) : Cond) ∈ xp_BW := xw_t 384 rfl rfl
set_option maxRecDepth 100000 in
theorem xwt_385 : (.methodLink "ExtentShelf" 123 ({ cls := "ExtentShelf", name := "mayHave", desc := "(II)Z" } : MethodName) : Cond) ∈ xp_BW := xw_t 385 rfl rfl
set_option maxRecDepth 100000 in
theorem xwt_386 : (.static ({ cls := "ExtentShelf", name := "mayHave", desc := "(II)Z" } : MethodName) : Cond) ∈ xp_BW := xw_t 386 rfl rfl
set_option maxRecDepth 100000 in
theorem xwt_387 : (.code ({ cls := "ExtentShelf", name := "mayHave", desc := "(II)Z" } : MethodName) prog_1_method_35_code 2 (some .boolean) : Cond) ∈ xp_BW := xw_t 387 rfl rfl
set_option maxRecDepth 100000 in
theorem xwt_391 : (.instanceMethod ({ cls := "ExtentShelf$Table", name := "leastUnusedVolume", desc := "()I" } : MethodName) : Cond) ∈ xp_BW := xw_t 391 rfl rfl
set_option maxRecDepth 100000 in
theorem xwt_392 : (.code ({ cls := "ExtentShelf$Table", name := "leastUnusedVolume", desc := "()I" } : MethodName) prog_4_method_12_code 2 (some .int) : Cond) ∈ xp_BW := xw_t 392 rfl rfl
set_option maxRecDepth 100000 in
theorem xwt_393 : (.methodLink "ExtentShelf$Table" 33 ({ cls := "ExtentShelf$Table", name := "has", desc := "(I)Z" } : MethodName) : Cond) ∈ xp_BW := xw_t 393 rfl rfl
set_option maxRecDepth 100000 in
theorem xwt_395 : (.instanceMethod ({ cls := "ExtentShelf$Table", name := "has", desc := "(I)Z" } : MethodName) : Cond) ∈ xp_BW := xw_t 395 rfl rfl
set_option maxRecDepth 100000 in
theorem xwt_396 : (.code ({ cls := "ExtentShelf$Table", name := "has", desc := "(I)Z" } : MethodName) prog_4_method_11_code 2 (some .boolean) : Cond) ∈ xp_BW := xw_t 396 rfl rfl
set_option maxRecDepth 100000 in
theorem xwt_400 : (.instanceMethod ({ cls := "ExtentShelf$Table", name := "describe", desc := "(IIII)V" } : MethodName) : Cond) ∈ xp_BW := xw_t 400 rfl rfl
set_option maxRecDepth 100000 in
theorem xwt_401 : (.code ({ cls := "ExtentShelf$Table", name := "describe", desc := "(IIII)V" } : MethodName) prog_4_method_13_code 5 none : Cond) ∈ xp_BW := xw_t 401 rfl rfl
set_option maxRecDepth 100000 in
theorem xwt_402 : (.methodLink "ExtentShelf" 137 ({ cls := "ExtentShelf", name := "fillElements", desc := "(II)V" } : MethodName) : Cond) ∈ xp_BW := xw_t 402 rfl rfl
set_option maxRecDepth 100000 in
theorem xwt_404 : (.instanceMethod ({ cls := "ExtentShelf", name := "fillElements", desc := "(II)V" } : MethodName) : Cond) ∈ xp_BW := xw_t 404 rfl rfl
set_option maxRecDepth 100000 in
theorem xwt_405 : (.code ({ cls := "ExtentShelf", name := "fillElements", desc := "(II)V" } : MethodName) prog_1_method_59_code 7 none : Cond) ∈ xp_BW := xw_t 405 rfl rfl
set_option maxRecDepth 100000 in
theorem xwt_408 : (.instanceMethod ({ cls := "ExtentShelf$Table", name := "kindOf", desc := "(I)I" } : MethodName) : Cond) ∈ xp_BW := xw_t 408 rfl rfl
set_option maxRecDepth 100000 in
theorem xwt_409 : (.code ({ cls := "ExtentShelf$Table", name := "kindOf", desc := "(I)I" } : MethodName) prog_4_method_14_code 2 (some .int) : Cond) ∈ xp_BW := xw_t 409 rfl rfl
set_option maxRecDepth 100000 in
theorem xwt_412 : (.instanceMethod ({ cls := "ExtentShelf$Table", name := "elementsOf", desc := "(I)I" } : MethodName) : Cond) ∈ xp_BW := xw_t 412 rfl rfl
set_option maxRecDepth 100000 in
theorem xwt_413 : (.code ({ cls := "ExtentShelf$Table", name := "elementsOf", desc := "(I)I" } : MethodName) prog_4_method_16_code 2 (some .int) : Cond) ∈ xp_BW := xw_t 413 rfl rfl
set_option maxRecDepth 100000 in
theorem xwt_414 : (.methodLink "ExtentShelf" 362 ({ cls := "ExtentShelf", name := "giveRoom", desc := "(III)V" } : MethodName) : Cond) ∈ xp_BW := xw_t 414 rfl rfl
set_option maxRecDepth 100000 in
theorem xwt_416 : (.instanceMethod ({ cls := "ExtentShelf", name := "giveRoom", desc := "(III)V" } : MethodName) : Cond) ∈ xp_BW := xw_t 416 rfl rfl
set_option maxRecDepth 100000 in
theorem xwt_417 : (.code ({ cls := "ExtentShelf", name := "giveRoom", desc := "(III)V" } : MethodName) prog_1_method_58_code 5 none : Cond) ∈ xp_BW := xw_t 417 rfl rfl
set_option maxRecDepth 100000 in
theorem xwt_418 : (.methodLink "ExtentShelf" 356 ({ cls := "ExtentShelf", name := "findRoom", desc := "(IIII)I" } : MethodName) : Cond) ∈ xp_BW := xw_t 418 rfl rfl
set_option maxRecDepth 100000 in
theorem xwt_420 : (.instanceMethod ({ cls := "ExtentShelf", name := "findRoom", desc := "(IIII)I" } : MethodName) : Cond) ∈ xp_BW := xw_t 420 rfl rfl
set_option maxRecDepth 100000 in
theorem xwt_421 : (.code ({ cls := "ExtentShelf", name := "findRoom", desc := "(IIII)I" } : MethodName) prog_1_method_53_code 10 (some .int) : Cond) ∈ xp_BW := xw_t 421 rfl rfl
set_option maxRecDepth 100000 in
theorem xwt_422 : (.methodLink "ExtentShelf" 341 ({ cls := "ExtentShelf", name := "groupDisks", desc := "(III)I" } : MethodName) : Cond) ∈ xp_BW := xw_t 422 rfl rfl
set_option maxRecDepth 100000 in
theorem xwt_424 : (.instanceMethod ({ cls := "ExtentShelf", name := "groupDisks", desc := "(III)I" } : MethodName) : Cond) ∈ xp_BW := xw_t 424 rfl rfl
set_option maxRecDepth 100000 in
theorem xwt_425 : (.code ({ cls := "ExtentShelf", name := "groupDisks", desc := "(III)I" } : MethodName) prog_1_method_55_code 9 (some .int) : Cond) ∈ xp_BW := xw_t 425 rfl rfl
set_option maxRecDepth 100000 in
theorem xwt_428 : (.instanceMethod ({ cls := "ExtentShelf$Table", name := "columnsOf", desc := "(I)I" } : MethodName) : Cond) ∈ xp_BW := xw_t 428 rfl rfl
set_option maxRecDepth 100000 in
theorem xwt_429 : (.code ({ cls := "ExtentShelf$Table", name := "columnsOf", desc := "(I)I" } : MethodName) prog_4_method_15_code 2 (some .int) : Cond) ∈ xp_BW := xw_t 429 rfl rfl
set_option maxRecDepth 100000 in
theorem xwt_430 : (.methodLink "ExtentShelf$Table" 36 ({ cls := "java/lang/Math", name := "max", desc := "(II)I" } : MethodName) : Cond) ∈ xp_BW := xw_t 430 rfl rfl
set_option maxRecDepth 100000 in
theorem xwt_431 : (.static ({ cls := "java/lang/Math", name := "max", desc := "(II)I" } : MethodName) : Cond) ∈ xp_BW := xw_t 431 rfl rfl
set_option maxRecDepth 100000 in
theorem xwt_432 : (.code ({ cls := "java/lang/Math", name := "max", desc := "(II)I" } : MethodName) prog_11_method_65_code 2 (some .int) : Cond) ∈ xp_BW := xw_t 432 rfl rfl
set_option maxRecDepth 100000 in
theorem xwt_433 : (.methodLink "ExtentShelf" 186 ({ cls := "ExtentShelf", name := "legOf", desc := "(III)I" } : MethodName) : Cond) ∈ xp_BW := xw_t 433 rfl rfl
set_option maxRecDepth 100000 in
theorem xwt_434 : (.static ({ cls := "ExtentShelf", name := "legOf", desc := "(III)I" } : MethodName) : Cond) ∈ xp_BW := xw_t 434 rfl rfl
set_option maxRecDepth 100000 in
theorem xwt_435 : (.code ({ cls := "ExtentShelf", name := "legOf", desc := "(III)I" } : MethodName) prog_1_method_36_code 3 (some .int) : Cond) ∈ xp_BW := xw_t 435 rfl rfl
set_option maxRecDepth 100000 in
theorem xwt_436 : (.methodLink "ExtentShelf" 350 ({ cls := "ExtentShelf", name := "disksOfLeg", desc := "(I)I" } : MethodName) : Cond) ∈ xp_BW := xw_t 436 rfl rfl
set_option maxRecDepth 100000 in
theorem xwt_438 : (.instanceMethod ({ cls := "ExtentShelf", name := "disksOfLeg", desc := "(I)I" } : MethodName) : Cond) ∈ xp_BW := xw_t 438 rfl rfl
set_option maxRecDepth 100000 in
theorem xwt_439 : (.code ({ cls := "ExtentShelf", name := "disksOfLeg", desc := "(I)I" } : MethodName) prog_1_method_56_code 3 (some .int) : Cond) ∈ xp_BW := xw_t 439 rfl rfl
set_option maxRecDepth 100000 in
theorem xwt_440 : (.methodLink "ExtentShelf" 353 ({ cls := "ExtentShelf", name := "bitOfDisk", desc := "(I)I" } : MethodName) : Cond) ∈ xp_BW := xw_t 440 rfl rfl
set_option maxRecDepth 100000 in
theorem xwt_441 : (.static ({ cls := "ExtentShelf", name := "bitOfDisk", desc := "(I)I" } : MethodName) : Cond) ∈ xp_BW := xw_t 441 rfl rfl
set_option maxRecDepth 100000 in
theorem xwt_442 : (.code ({ cls := "ExtentShelf", name := "bitOfDisk", desc := "(I)I" } : MethodName) prog_1_method_57_code 1 (some .int) : Cond) ∈ xp_BW := xw_t 442 rfl rfl
set_option maxRecDepth 100000 in
theorem xwt_443 : (.methodLink "ExtentShelf" 232 ({ cls := "ExtentShelf", name := "countFree", desc := "(LExtentShelf$Table;I)I" } : MethodName) : Cond) ∈ xp_BW := xw_t 443 rfl rfl
set_option maxRecDepth 100000 in
theorem xwt_445 : (.instanceMethod ({ cls := "ExtentShelf", name := "countFree", desc := "(LExtentShelf$Table;I)I" } : MethodName) : Cond) ∈ xp_BW := xw_t 445 rfl rfl
set_option maxRecDepth 100000 in
theorem xwt_446 : (.code ({ cls := "ExtentShelf", name := "countFree", desc := "(LExtentShelf$Table;I)I" } : MethodName) prog_1_method_52_code 3 (some .int) : Cond) ∈ xp_BW := xw_t 446 rfl rfl
set_option maxRecDepth 100000 in
theorem xwt_448 : (.methodLink "ExtentShelf" 344 ({ cls := "ExtentShelf", name := "leastFreeSpot", desc := "(I)I" } : MethodName) : Cond) ∈ xp_BW := xw_t 448 rfl rfl
set_option maxRecDepth 100000 in
theorem xwt_450 : (.instanceMethod ({ cls := "ExtentShelf", name := "leastFreeSpot", desc := "(I)I" } : MethodName) : Cond) ∈ xp_BW := xw_t 450 rfl rfl
set_option maxRecDepth 100000 in
theorem xwt_451 : (.code ({ cls := "ExtentShelf", name := "leastFreeSpot", desc := "(I)I" } : MethodName) prog_1_method_54_code 4 (some .int) : Cond) ∈ xp_BW := xw_t 451 rfl rfl
set_option maxRecDepth 100000 in
theorem xwt_454 : (.instanceMethod ({ cls := "ExtentShelf$Table", name := "isUsed", desc := "(I)Z" } : MethodName) : Cond) ∈ xp_BW := xw_t 454 rfl rfl
set_option maxRecDepth 100000 in
theorem xwt_455 : (.code ({ cls := "ExtentShelf$Table", name := "isUsed", desc := "(I)Z" } : MethodName) prog_4_method_21_code 3 (some .boolean) : Cond) ∈ xp_BW := xw_t 455 rfl rfl
set_option maxRecDepth 100000 in
theorem xwt_458 : (.methodLink "ExtentShelf" 365 ({ cls := "ExtentShelf", name := "clearLeg", desc := "(I)V" } : MethodName) : Cond) ∈ xp_BW := xw_t 458 rfl rfl
set_option maxRecDepth 100000 in
theorem xwt_460 : (.instanceMethod ({ cls := "ExtentShelf", name := "clearLeg", desc := "(I)V" } : MethodName) : Cond) ∈ xp_BW := xw_t 460 rfl rfl
set_option maxRecDepth 100000 in
theorem xwt_461 : (.code ({ cls := "ExtentShelf", name := "clearLeg", desc := "(I)V" } : MethodName) prog_1_method_60_code 3 none : Cond) ∈ xp_BW := xw_t 461 rfl rfl
set_option maxRecDepth 100000 in
theorem xwt_462 : (.methodLink "ExtentShelf" 309 ({ cls := "ExtentShelf", name := "putWord", desc := "(III)V" } : MethodName) : Cond) ∈ xp_BW := xw_t 462 rfl rfl
set_option maxRecDepth 100000 in
theorem xwt_464 : (.instanceMethod ({ cls := "ExtentShelf", name := "putWord", desc := "(III)V" } : MethodName) : Cond) ∈ xp_BW := xw_t 464 rfl rfl
set_option maxRecDepth 100000 in
theorem xwt_465 : (.code ({ cls := "ExtentShelf", name := "putWord", desc := "(III)V" } : MethodName) prog_1_method_45_code 4 none : Cond) ∈ xp_BW := xw_t 465 rfl rfl
set_option maxRecDepth 100000 in
theorem xwt_468 : (.instanceMethod ({ cls := "ExtentShelf$Disks", name := "setExtentWord", desc := "(III)V" } : MethodName) : Cond) ∈ xp_BW := xw_t 468 rfl rfl
set_option maxRecDepth 100000 in
theorem xwt_469 : (.code ({ cls := "ExtentShelf$Disks", name := "setExtentWord", desc := "(III)V" } : MethodName) prog_2_method_12_code 4 none : Cond) ∈ xp_BW := xw_t 469 rfl rfl
set_option maxRecDepth 100000 in
theorem xwt_470 : (.methodLink "ExtentShelfLaw" 111 ({ cls := "ExtentShelfLaw", name := "grow", desc := "(LExtentShelf;II[J)I" } : MethodName) : Cond) ∈ xp_BW := xw_t 470 rfl rfl
set_option maxRecDepth 100000 in
theorem xwt_471 : (.static ({ cls := "ExtentShelfLaw", name := "grow", desc := "(LExtentShelf;II[J)I" } : MethodName) : Cond) ∈ xp_BW := xw_t 471 rfl rfl
set_option maxRecDepth 100000 in
theorem xwt_472 : (.codeWith ({ cls := "ExtentShelfLaw", name := "grow", desc := "(LExtentShelf;II[J)I" } : MethodName) method_7_code 5 (some .int) [(0, 10, 13, 13), (0, 10, 17, 35), (0, 10, 21, 15), (0, 10, 25, 17)] : Cond) ∈ xp_BW := xw_t 472 rfl rfl
set_option maxRecDepth 100000 in
theorem xwt_474 : (.methodLink "ExtentShelfLaw" 31 ({ cls := "ExtentShelf", name := "grow", desc := "(II)I" } : MethodName) : Cond) ∈ xp_BW := xw_t 474 rfl rfl
set_option maxRecDepth 100000 in
theorem xwt_475 : (.instanceMethod ({ cls := "ExtentShelf", name := "grow", desc := "(II)I" } : MethodName) : Cond) ∈ xp_BW := xw_t 475 rfl rfl
set_option maxRecDepth 100000 in
theorem xwt_476 : (.selects "ExtentShelf" ({ cls := "ExtentShelf", name := "grow", desc := "(II)I" } : MethodName) ({ cls := "ExtentShelf", name := "grow", desc := "(II)I" } : MethodName) : Cond) ∈ xp_BW := xw_t 476 rfl rfl
set_option maxRecDepth 100000 in
theorem xwt_477 : (.code ({ cls := "ExtentShelf", name := "grow", desc := "(II)I" } : MethodName) prog_1_method_6_code 4 (some .int) : Cond) ∈ xp_BW := xw_t 477 rfl rfl
set_option maxRecDepth 100000 in
theorem xwt_478 : (.methodLink "ExtentShelf" 140 ({ cls := "ExtentShelf", name := "requireVolume", desc := "(I)V" } : MethodName) : Cond) ∈ xp_BW := xw_t 478 rfl rfl
set_option maxRecDepth 100000 in
theorem xwt_480 : (.instanceMethod ({ cls := "ExtentShelf", name := "requireVolume", desc := "(I)V" } : MethodName) : Cond) ∈ xp_BW := xw_t 480 rfl rfl
set_option maxRecDepth 100000 in
theorem xwt_481 : (.code ({ cls := "ExtentShelf", name := "requireVolume", desc := "(I)V" } : MethodName) prog_1_method_30_code 2 none : Cond) ∈ xp_BW := xw_t 481 rfl rfl
set_option maxRecDepth 100000 in
theorem xwt_483 : (.classLink "ExtentShelf" 298 "java/util/NoSuchElementException" : Cond) ∈ xp_BW := xw_t 483 rfl rfl
set_option maxRecDepth 100000 in
theorem xwt_499 : (.methodLink "ExtentShelfLaw" 115 ({ cls := "ExtentShelfLaw", name := "shrink", desc := "(LExtentShelf;II[J)I" } : MethodName) : Cond) ∈ xp_BW := xw_t 499 rfl rfl
set_option maxRecDepth 100000 in
theorem xwt_500 : (.static ({ cls := "ExtentShelfLaw", name := "shrink", desc := "(LExtentShelf;II[J)I" } : MethodName) : Cond) ∈ xp_BW := xw_t 500 rfl rfl
set_option maxRecDepth 100000 in
theorem xwt_501 : (.codeWith ({ cls := "ExtentShelfLaw", name := "shrink", desc := "(LExtentShelf;II[J)I" } : MethodName) method_8_code 5 (some .int) [(0, 10, 13, 13), (0, 10, 17, 35), (0, 10, 21, 15), (0, 10, 25, 17)] : Cond) ∈ xp_BW := xw_t 501 rfl rfl
set_option maxRecDepth 100000 in
theorem xwt_502 : (.methodLink "ExtentShelfLaw" 37 ({ cls := "ExtentShelf", name := "shrink", desc := "(II)I" } : MethodName) : Cond) ∈ xp_BW := xw_t 502 rfl rfl
set_option maxRecDepth 100000 in
theorem xwt_503 : (.instanceMethod ({ cls := "ExtentShelf", name := "shrink", desc := "(II)I" } : MethodName) : Cond) ∈ xp_BW := xw_t 503 rfl rfl
set_option maxRecDepth 100000 in
theorem xwt_504 : (.selects "ExtentShelf" ({ cls := "ExtentShelf", name := "shrink", desc := "(II)I" } : MethodName) ({ cls := "ExtentShelf", name := "shrink", desc := "(II)I" } : MethodName) : Cond) ∈ xp_BW := xw_t 504 rfl rfl
set_option maxRecDepth 100000 in
theorem xwt_505 : (.code ({ cls := "ExtentShelf", name := "shrink", desc := "(II)I" } : MethodName) prog_1_method_7_code 4 (some .int) : Cond) ∈ xp_BW := xw_t 505 rfl rfl
set_option maxRecDepth 100000 in
theorem xwt_508 : (.instanceMethod ({ cls := "ExtentShelf$Table", name := "loseElements", desc := "(II)V" } : MethodName) : Cond) ∈ xp_BW := xw_t 508 rfl rfl
set_option maxRecDepth 100000 in
theorem xwt_509 : (.code ({ cls := "ExtentShelf$Table", name := "loseElements", desc := "(II)V" } : MethodName) prog_4_method_18_code 4 none : Cond) ∈ xp_BW := xw_t 509 rfl rfl
set_option maxRecDepth 100000 in
theorem xwt_511 : (.methodLink "ExtentShelfLaw" 118 ({ cls := "ExtentShelfLaw", name := "delete", desc := "(LExtentShelf;I)I" } : MethodName) : Cond) ∈ xp_BW := xw_t 511 rfl rfl
set_option maxRecDepth 100000 in
theorem xwt_512 : (.static ({ cls := "ExtentShelfLaw", name := "delete", desc := "(LExtentShelf;I)I" } : MethodName) : Cond) ∈ xp_BW := xw_t 512 rfl rfl
set_option maxRecDepth 100000 in
theorem xwt_513 : (.codeWith ({ cls := "ExtentShelfLaw", name := "delete", desc := "(LExtentShelf;I)I" } : MethodName) method_9_code 3 (some .int) [(0, 5, 8, 13), (0, 5, 11, 35), (0, 5, 14, 17)] : Cond) ∈ xp_BW := xw_t 513 rfl rfl
set_option maxRecDepth 100000 in
theorem xwt_514 : (.methodLink "ExtentShelfLaw" 40 ({ cls := "ExtentShelf", name := "delete", desc := "(I)V" } : MethodName) : Cond) ∈ xp_BW := xw_t 514 rfl rfl
set_option maxRecDepth 100000 in
theorem xwt_515 : (.instanceMethod ({ cls := "ExtentShelf", name := "delete", desc := "(I)V" } : MethodName) : Cond) ∈ xp_BW := xw_t 515 rfl rfl
set_option maxRecDepth 100000 in
theorem xwt_516 : (.selects "ExtentShelf" ({ cls := "ExtentShelf", name := "delete", desc := "(I)V" } : MethodName) ({ cls := "ExtentShelf", name := "delete", desc := "(I)V" } : MethodName) : Cond) ∈ xp_BW := xw_t 516 rfl rfl
set_option maxRecDepth 100000 in
theorem xwt_517 : (.code ({ cls := "ExtentShelf", name := "delete", desc := "(I)V" } : MethodName) prog_1_method_8_code 2 none : Cond) ∈ xp_BW := xw_t 517 rfl rfl
set_option maxRecDepth 100000 in
theorem xwt_520 : (.instanceMethod ({ cls := "ExtentShelf$Table", name := "forget", desc := "(I)V" } : MethodName) : Cond) ∈ xp_BW := xw_t 520 rfl rfl
set_option maxRecDepth 100000 in
theorem xwt_521 : (.code ({ cls := "ExtentShelf$Table", name := "forget", desc := "(I)V" } : MethodName) prog_4_method_17_code 2 none : Cond) ∈ xp_BW := xw_t 521 rfl rfl
set_option maxRecDepth 100000 in
theorem xwt_522 : (.methodLink "ExtentShelf$Table" 42 ({ cls := "ExtentShelf$Table", name := "loseElements", desc := "(II)V" } : MethodName) : Cond) ∈ xp_BW := xw_t 522 rfl rfl
set_option maxRecDepth 100000 in
theorem xwt_523 : (.methodLink "ExtentShelfLaw" 121 ({ cls := "ExtentShelfLaw", name := "mend", desc := "(LExtentShelf;I[J)I" } : MethodName) : Cond) ∈ xp_BW := xw_t 523 rfl rfl
set_option maxRecDepth 100000 in
theorem xwt_524 : (.static ({ cls := "ExtentShelfLaw", name := "mend", desc := "(LExtentShelf;I[J)I" } : MethodName) : Cond) ∈ xp_BW := xw_t 524 rfl rfl
set_option maxRecDepth 100000 in
theorem xwt_525 : (.codeWith ({ cls := "ExtentShelfLaw", name := "mend", desc := "(LExtentShelf;I[J)I" } : MethodName) method_10_code 4 (some .int) [(0, 9, 12, 13), (0, 9, 15, 35), (0, 9, 18, 15), (0, 9, 21, 17)] : Cond) ∈ xp_BW := xw_t 525 rfl rfl
set_option maxRecDepth 100000 in
theorem xwt_526 : (.methodLink "ExtentShelfLaw" 43 ({ cls := "ExtentShelf", name := "mend", desc := "(I)I" } : MethodName) : Cond) ∈ xp_BW := xw_t 526 rfl rfl
set_option maxRecDepth 100000 in
theorem xwt_527 : (.instanceMethod ({ cls := "ExtentShelf", name := "mend", desc := "(I)I" } : MethodName) : Cond) ∈ xp_BW := xw_t 527 rfl rfl
set_option maxRecDepth 100000 in
theorem xwt_528 : (.selects "ExtentShelf" ({ cls := "ExtentShelf", name := "mend", desc := "(I)I" } : MethodName) ({ cls := "ExtentShelf", name := "mend", desc := "(I)I" } : MethodName) : Cond) ∈ xp_BW := xw_t 528 rfl rfl
set_option maxRecDepth 100000 in
theorem xwt_529 : (.code ({ cls := "ExtentShelf", name := "mend", desc := "(I)I" } : MethodName) prog_1_method_9_code 3 (some .int) : Cond) ∈ xp_BW := xw_t 529 rfl rfl
set_option maxRecDepth 100000 in
theorem xwt_531 : (.methodLink "ExtentShelf" 162 ({ cls := "ExtentShelf", name := "findRoomForLostLegs", desc := "(I)I" } : MethodName) : Cond) ∈ xp_BW := xw_t 531 rfl rfl
set_option maxRecDepth 100000 in
theorem xwt_533 : (.instanceMethod ({ cls := "ExtentShelf", name := "findRoomForLostLegs", desc := "(I)I" } : MethodName) : Cond) ∈ xp_BW := xw_t 533 rfl rfl
set_option maxRecDepth 100000 in
theorem xwt_534 : (.code ({ cls := "ExtentShelf", name := "findRoomForLostLegs", desc := "(I)I" } : MethodName) prog_1_method_61_code 5 (some .int) : Cond) ∈ xp_BW := xw_t 534 rfl rfl
set_option maxRecDepth 100000 in
theorem xwt_535 : (.methodLink "ExtentShelf" 368 ({ cls := "ExtentShelf", name := "lostLeg", desc := "(II)I" } : MethodName) : Cond) ∈ xp_BW := xw_t 535 rfl rfl
set_option maxRecDepth 100000 in
theorem xwt_537 : (.instanceMethod ({ cls := "ExtentShelf", name := "lostLeg", desc := "(II)I" } : MethodName) : Cond) ∈ xp_BW := xw_t 537 rfl rfl
set_option maxRecDepth 100000 in
theorem xwt_538 : (.code ({ cls := "ExtentShelf", name := "lostLeg", desc := "(II)I" } : MethodName) prog_1_method_62_code 5 (some .int) : Cond) ∈ xp_BW := xw_t 538 rfl rfl
set_option maxRecDepth 100000 in
theorem xwt_539 : (.methodLink "ExtentShelf" 165 ({ cls := "ExtentShelf", name := "copyToNewLegs", desc := "(I)V" } : MethodName) : Cond) ∈ xp_BW := xw_t 539 rfl rfl
set_option maxRecDepth 100000 in
theorem xwt_541 : (.instanceMethod ({ cls := "ExtentShelf", name := "copyToNewLegs", desc := "(I)V" } : MethodName) : Cond) ∈ xp_BW := xw_t 541 rfl rfl
set_option maxRecDepth 100000 in
theorem xwt_542 : (.code ({ cls := "ExtentShelf", name := "copyToNewLegs", desc := "(I)V" } : MethodName) prog_1_method_63_code 5 none : Cond) ∈ xp_BW := xw_t 542 rfl rfl
set_option maxRecDepth 100000 in
theorem xwt_543 : (.methodLink "ExtentShelf" 371 ({ cls := "ExtentShelf", name := "copyExtent", desc := "(II)V" } : MethodName) : Cond) ∈ xp_BW := xw_t 543 rfl rfl
set_option maxRecDepth 100000 in
theorem xwt_545 : (.instanceMethod ({ cls := "ExtentShelf", name := "copyExtent", desc := "(II)V" } : MethodName) : Cond) ∈ xp_BW := xw_t 545 rfl rfl
set_option maxRecDepth 100000 in
theorem xwt_546 : (.code ({ cls := "ExtentShelf", name := "copyExtent", desc := "(II)V" } : MethodName) prog_1_method_64_code 4 none : Cond) ∈ xp_BW := xw_t 546 rfl rfl
set_option maxRecDepth 100000 in
theorem xwt_549 : (.instanceMethod ({ cls := "ExtentShelf$Disks", name := "extentWord", desc := "(II)I" } : MethodName) : Cond) ∈ xp_BW := xw_t 549 rfl rfl
set_option maxRecDepth 100000 in
theorem xwt_550 : (.code ({ cls := "ExtentShelf$Disks", name := "extentWord", desc := "(II)I" } : MethodName) prog_2_method_11_code 3 (some .int) : Cond) ∈ xp_BW := xw_t 550 rfl rfl
set_option maxRecDepth 100000 in
theorem xwt_551 : (.methodLink "ExtentShelfLaw" 124 ({ cls := "ExtentShelfLaw", name := "write", desc := "(LExtentShelf;III[J)I" } : MethodName) : Cond) ∈ xp_BW := xw_t 551 rfl rfl
set_option maxRecDepth 100000 in
theorem xwt_552 : (.static ({ cls := "ExtentShelfLaw", name := "write", desc := "(LExtentShelf;III[J)I" } : MethodName) : Cond) ∈ xp_BW := xw_t 552 rfl rfl
set_option maxRecDepth 100000 in
theorem xwt_553 : (.codeWith ({ cls := "ExtentShelfLaw", name := "write", desc := "(LExtentShelf;III[J)I" } : MethodName) method_11_code 6 (some .int) [(0, 12, 15, 13), (0, 12, 19, 35), (0, 12, 23, 49), (0, 12, 27, 17)] : Cond) ∈ xp_BW := xw_t 553 rfl rfl
set_option maxRecDepth 100000 in
theorem xwt_555 : (.methodLink "ExtentShelfLaw" 46 ({ cls := "ExtentShelf", name := "write", desc := "(III)I" } : MethodName) : Cond) ∈ xp_BW := xw_t 555 rfl rfl
set_option maxRecDepth 100000 in
theorem xwt_556 : (.instanceMethod ({ cls := "ExtentShelf", name := "write", desc := "(III)I" } : MethodName) : Cond) ∈ xp_BW := xw_t 556 rfl rfl
set_option maxRecDepth 100000 in
theorem xwt_557 : (.selects "ExtentShelf" ({ cls := "ExtentShelf", name := "write", desc := "(III)I" } : MethodName) ({ cls := "ExtentShelf", name := "write", desc := "(III)I" } : MethodName) : Cond) ∈ xp_BW := xw_t 557 rfl rfl
set_option maxRecDepth 100000 in
theorem xwt_558 : (.code ({ cls := "ExtentShelf", name := "write", desc := "(III)I" } : MethodName) prog_1_method_10_code 9 (some .int) : Cond) ∈ xp_BW := xw_t 558 rfl rfl
set_option maxRecDepth 100000 in
theorem xwt_559 : (.methodLink "ExtentShelf" 168 ({ cls := "ExtentShelf", name := "requireWord", desc := "(II)V" } : MethodName) : Cond) ∈ xp_BW := xw_t 559 rfl rfl
set_option maxRecDepth 100000 in
theorem xwt_561 : (.instanceMethod ({ cls := "ExtentShelf", name := "requireWord", desc := "(II)V" } : MethodName) : Cond) ∈ xp_BW := xw_t 561 rfl rfl
set_option maxRecDepth 100000 in
theorem xwt_562 : (.code ({ cls := "ExtentShelf", name := "requireWord", desc := "(II)V" } : MethodName) prog_1_method_31_code 3 none : Cond) ∈ xp_BW := xw_t 562 rfl rfl
set_option maxRecDepth 100000 in
theorem xwt_563 : (.methodLink "ExtentShelf" 227 ({ cls := "ExtentShelf", name := "countWords", desc := "(I)I" } : MethodName) : Cond) ∈ xp_BW := xw_t 563 rfl rfl
set_option maxRecDepth 100000 in
theorem xwt_565 : (.instanceMethod ({ cls := "ExtentShelf", name := "countWords", desc := "(I)I" } : MethodName) : Cond) ∈ xp_BW := xw_t 565 rfl rfl
set_option maxRecDepth 100000 in
theorem xwt_566 : (.code ({ cls := "ExtentShelf", name := "countWords", desc := "(I)I" } : MethodName) prog_1_method_38_code 2 (some .int) : Cond) ∈ xp_BW := xw_t 566 rfl rfl
set_option maxRecDepth 100000 in
theorem xwt_567 : (.classLink "ExtentShelf" 271 "java/lang/IndexOutOfBoundsException" : Cond) ∈ xp_BW := xw_t 567 rfl rfl
set_option maxRecDepth 100000 in
theorem xwt_583 : (.methodLink "ExtentShelf" 171 ({ cls := "ExtentShelf", name := "elementOfWord", desc := "(II)I" } : MethodName) : Cond) ∈ xp_BW := xw_t 583 rfl rfl
set_option maxRecDepth 100000 in
theorem xwt_585 : (.instanceMethod ({ cls := "ExtentShelf", name := "elementOfWord", desc := "(II)I" } : MethodName) : Cond) ∈ xp_BW := xw_t 585 rfl rfl
set_option maxRecDepth 100000 in
theorem xwt_586 : (.code ({ cls := "ExtentShelf", name := "elementOfWord", desc := "(II)I" } : MethodName) prog_1_method_39_code 4 (some .int) : Cond) ∈ xp_BW := xw_t 586 rfl rfl
set_option maxRecDepth 100000 in
theorem xwt_587 : (.methodLink "ExtentShelf" 175 ({ cls := "ExtentShelf", name := "leastReadableLeg", desc := "(II)I" } : MethodName) : Cond) ∈ xp_BW := xw_t 587 rfl rfl
set_option maxRecDepth 100000 in
theorem xwt_589 : (.instanceMethod ({ cls := "ExtentShelf", name := "leastReadableLeg", desc := "(II)I" } : MethodName) : Cond) ∈ xp_BW := xw_t 589 rfl rfl
set_option maxRecDepth 100000 in
theorem xwt_590 : (.code ({ cls := "ExtentShelf", name := "leastReadableLeg", desc := "(II)I" } : MethodName) prog_1_method_42_code 5 (some .int) : Cond) ∈ xp_BW := xw_t 590 rfl rfl
set_option maxRecDepth 100000 in
theorem xwt_591 : (.methodLink "ExtentShelf" 190 ({ cls := "ExtentShelf", name := "isReadable", desc := "(I)Z" } : MethodName) : Cond) ∈ xp_BW := xw_t 591 rfl rfl
set_option maxRecDepth 100000 in
theorem xwt_593 : (.instanceMethod ({ cls := "ExtentShelf", name := "isReadable", desc := "(I)Z" } : MethodName) : Cond) ∈ xp_BW := xw_t 593 rfl rfl
set_option maxRecDepth 100000 in
theorem xwt_594 : (.code ({ cls := "ExtentShelf", name := "isReadable", desc := "(I)Z" } : MethodName) prog_1_method_41_code 3 (some .boolean) : Cond) ∈ xp_BW := xw_t 594 rfl rfl
set_option maxRecDepth 100000 in
theorem xwt_596 : (.methodLink "ExtentShelf" 180 ({ cls := "ExtentShelf", name := "loseAbsentLeg", desc := "(II)V" } : MethodName) : Cond) ∈ xp_BW := xw_t 596 rfl rfl
set_option maxRecDepth 100000 in
theorem xwt_598 : (.instanceMethod ({ cls := "ExtentShelf", name := "loseAbsentLeg", desc := "(II)V" } : MethodName) : Cond) ∈ xp_BW := xw_t 598 rfl rfl
set_option maxRecDepth 100000 in
theorem xwt_599 : (.code ({ cls := "ExtentShelf", name := "loseAbsentLeg", desc := "(II)V" } : MethodName) prog_1_method_51_code 5 none : Cond) ∈ xp_BW := xw_t 599 rfl rfl
set_option maxRecDepth 100000 in
theorem xwt_600 : (.methodLink "ExtentShelf" 183 ({ cls := "ExtentShelf", name := "placeOfWord", desc := "(II)I" } : MethodName) : Cond) ∈ xp_BW := xw_t 600 rfl rfl
set_option maxRecDepth 100000 in
theorem xwt_602 : (.instanceMethod ({ cls := "ExtentShelf", name := "placeOfWord", desc := "(II)I" } : MethodName) : Cond) ∈ xp_BW := xw_t 602 rfl rfl
set_option maxRecDepth 100000 in
theorem xwt_603 : (.code ({ cls := "ExtentShelf", name := "placeOfWord", desc := "(II)I" } : MethodName) prog_1_method_40_code 4 (some .int) : Cond) ∈ xp_BW := xw_t 603 rfl rfl
set_option maxRecDepth 100000 in
theorem xwt_604 : (.methodLink "ExtentShelf" 193 ({ cls := "ExtentShelf", name := "putLegWord", desc := "(III)V" } : MethodName) : Cond) ∈ xp_BW := xw_t 604 rfl rfl
set_option maxRecDepth 100000 in
theorem xwt_606 : (.instanceMethod ({ cls := "ExtentShelf", name := "putLegWord", desc := "(III)V" } : MethodName) : Cond) ∈ xp_BW := xw_t 606 rfl rfl
set_option maxRecDepth 100000 in
theorem xwt_607 : (.code ({ cls := "ExtentShelf", name := "putLegWord", desc := "(III)V" } : MethodName) prog_1_method_46_code 4 none : Cond) ∈ xp_BW := xw_t 607 rfl rfl
set_option maxRecDepth 100000 in
theorem xwt_610 : (.instanceMethod ({ cls := "ExtentShelf$Move", name := "hasCopied", desc := "(II)Z" } : MethodName) : Cond) ∈ xp_BW := xw_t 610 rfl rfl
set_option maxRecDepth 100000 in
theorem xwt_611 : (.code ({ cls := "ExtentShelf$Move", name := "hasCopied", desc := "(II)Z" } : MethodName) prog_3_method_6_code 3 (some .boolean) : Cond) ∈ xp_BW := xw_t 611 rfl rfl
set_option maxRecDepth 100000 in
theorem xwt_612 : (.methodLink "ExtentShelfLaw" 127 ({ cls := "ExtentShelfLaw", name := "read", desc := "(LExtentShelf;II[J)I" } : MethodName) : Cond) ∈ xp_BW := xw_t 612 rfl rfl
set_option maxRecDepth 100000 in
theorem xwt_613 : (.static ({ cls := "ExtentShelfLaw", name := "read", desc := "(LExtentShelf;II[J)I" } : MethodName) : Cond) ∈ xp_BW := xw_t 613 rfl rfl
set_option maxRecDepth 100000 in
theorem xwt_614 : (.codeWith ({ cls := "ExtentShelfLaw", name := "read", desc := "(LExtentShelf;II[J)I" } : MethodName) method_12_code 5 (some .int) [(0, 10, 13, 13), (0, 10, 17, 35), (0, 10, 21, 49), (0, 10, 25, 17)] : Cond) ∈ xp_BW := xw_t 614 rfl rfl
set_option maxRecDepth 100000 in
theorem xwt_615 : (.methodLink "ExtentShelfLaw" 51 ({ cls := "ExtentShelf", name := "read", desc := "(II)I" } : MethodName) : Cond) ∈ xp_BW := xw_t 615 rfl rfl
set_option maxRecDepth 100000 in
theorem xwt_616 : (.instanceMethod ({ cls := "ExtentShelf", name := "read", desc := "(II)I" } : MethodName) : Cond) ∈ xp_BW := xw_t 616 rfl rfl
set_option maxRecDepth 100000 in
theorem xwt_617 : (.selects "ExtentShelf" ({ cls := "ExtentShelf", name := "read", desc := "(II)I" } : MethodName) ({ cls := "ExtentShelf", name := "read", desc := "(II)I" } : MethodName) : Cond) ∈ xp_BW := xw_t 617 rfl rfl
set_option maxRecDepth 100000 in
theorem xwt_618 : (.code ({ cls := "ExtentShelf", name := "read", desc := "(II)I" } : MethodName) prog_1_method_11_code 4 (some .int) : Cond) ∈ xp_BW := xw_t 618 rfl rfl
set_option maxRecDepth 100000 in
theorem xwt_620 : (.methodLink "ExtentShelfLaw" 130 ({ cls := "ExtentShelfLaw", name := "empty", desc := "(LExtentShelf;I[J)I" } : MethodName) : Cond) ∈ xp_BW := xw_t 620 rfl rfl
set_option maxRecDepth 100000 in
theorem xwt_621 : (.static ({ cls := "ExtentShelfLaw", name := "empty", desc := "(LExtentShelf;I[J)I" } : MethodName) : Cond) ∈ xp_BW := xw_t 621 rfl rfl
set_option maxRecDepth 100000 in
theorem xwt_622 : (.codeWith ({ cls := "ExtentShelfLaw", name := "empty", desc := "(LExtentShelf;I[J)I" } : MethodName) method_13_code 4 (some .int) [(0, 9, 12, 13), (0, 9, 15, 15), (0, 9, 18, 17)] : Cond) ∈ xp_BW := xw_t 622 rfl rfl
set_option maxRecDepth 100000 in
theorem xwt_623 : (.methodLink "ExtentShelfLaw" 54 ({ cls := "ExtentShelf", name := "empty", desc := "(I)I" } : MethodName) : Cond) ∈ xp_BW := xw_t 623 rfl rfl
set_option maxRecDepth 100000 in
theorem xwt_624 : (.instanceMethod ({ cls := "ExtentShelf", name := "empty", desc := "(I)I" } : MethodName) : Cond) ∈ xp_BW := xw_t 624 rfl rfl
set_option maxRecDepth 100000 in
theorem xwt_625 : (.selects "ExtentShelf" ({ cls := "ExtentShelf", name := "empty", desc := "(I)I" } : MethodName) ({ cls := "ExtentShelf", name := "empty", desc := "(I)I" } : MethodName) : Cond) ∈ xp_BW := xw_t 625 rfl rfl
set_option maxRecDepth 100000 in
theorem xwt_626 : (.code ({ cls := "ExtentShelf", name := "empty", desc := "(I)I" } : MethodName) prog_1_method_12_code 2 (some .int) : Cond) ∈ xp_BW := xw_t 626 rfl rfl
set_option maxRecDepth 100000 in
theorem xwt_630 : (.instanceMethod ({ cls := "ExtentShelf$Move", name := "begin", desc := "(I)V" } : MethodName) : Cond) ∈ xp_BW := xw_t 630 rfl rfl
set_option maxRecDepth 100000 in
theorem xwt_631 : (.code ({ cls := "ExtentShelf$Move", name := "begin", desc := "(I)V" } : MethodName) prog_3_method_2_code 2 none : Cond) ∈ xp_BW := xw_t 631 rfl rfl
set_option maxRecDepth 100000 in
theorem xwt_632 : (.methodLink "ExtentShelfLaw" 133 ({ cls := "ExtentShelfLaw", name := "step", desc := "(LExtentShelf;[J)I" } : MethodName) : Cond) ∈ xp_BW := xw_t 632 rfl rfl
set_option maxRecDepth 100000 in
theorem xwt_633 : (.static ({ cls := "ExtentShelfLaw", name := "step", desc := "(LExtentShelf;[J)I" } : MethodName) : Cond) ∈ xp_BW := xw_t 633 rfl rfl
set_option maxRecDepth 100000 in
theorem xwt_634 : (.codeWith ({ cls := "ExtentShelfLaw", name := "step", desc := "(LExtentShelf;[J)I" } : MethodName) method_14_code 3 (some .int) [(0, 8, 11, 13), (0, 8, 14, 17)] : Cond) ∈ xp_BW := xw_t 634 rfl rfl
set_option maxRecDepth 100000 in
theorem xwt_635 : (.methodLink "ExtentShelfLaw" 57 ({ cls := "ExtentShelf", name := "step", desc := "()I" } : MethodName) : Cond) ∈ xp_BW := xw_t 635 rfl rfl
set_option maxRecDepth 100000 in
theorem xwt_636 : (.instanceMethod ({ cls := "ExtentShelf", name := "step", desc := "()I" } : MethodName) : Cond) ∈ xp_BW := xw_t 636 rfl rfl
set_option maxRecDepth 100000 in
theorem xwt_637 : (.selects "ExtentShelf" ({ cls := "ExtentShelf", name := "step", desc := "()I" } : MethodName) ({ cls := "ExtentShelf", name := "step", desc := "()I" } : MethodName) : Cond) ∈ xp_BW := xw_t 637 rfl rfl
set_option maxRecDepth 100000 in
theorem xwt_638 : (.code ({ cls := "ExtentShelf", name := "step", desc := "()I" } : MethodName) prog_1_method_13_code 3 (some .int) : Cond) ∈ xp_BW := xw_t 638 rfl rfl
set_option maxRecDepth 100000 in
theorem xwt_642 : (.instanceMethod ({ cls := "ExtentShelf$Table", name := "firstLegOn", desc := "(I)I" } : MethodName) : Cond) ∈ xp_BW := xw_t 642 rfl rfl
set_option maxRecDepth 100000 in
theorem xwt_643 : (.code ({ cls := "ExtentShelf$Table", name := "firstLegOn", desc := "(I)I" } : MethodName) prog_4_method_23_code 3 (some .int) : Cond) ∈ xp_BW := xw_t 643 rfl rfl
set_option maxRecDepth 100000 in
theorem xwt_644 : (.methodLink "ExtentShelf" 218 ({ cls := "ExtentShelf", name := "findRoomToMove", desc := "(I)I" } : MethodName) : Cond) ∈ xp_BW := xw_t 644 rfl rfl
set_option maxRecDepth 100000 in
theorem xwt_646 : (.instanceMethod ({ cls := "ExtentShelf", name := "findRoomToMove", desc := "(I)I" } : MethodName) : Cond) ∈ xp_BW := xw_t 646 rfl rfl
set_option maxRecDepth 100000 in
theorem xwt_647 : (.code ({ cls := "ExtentShelf", name := "findRoomToMove", desc := "(I)I" } : MethodName) prog_1_method_65_code 4 (some .int) : Cond) ∈ xp_BW := xw_t 647 rfl rfl
set_option maxRecDepth 100000 in
theorem xwt_650 : (.instanceMethod ({ cls := "ExtentShelf$Move", name := "beginCopy", desc := "(II)V" } : MethodName) : Cond) ∈ xp_BW := xw_t 650 rfl rfl
set_option maxRecDepth 100000 in
theorem xwt_651 : (.code ({ cls := "ExtentShelf$Move", name := "beginCopy", desc := "(II)V" } : MethodName) prog_3_method_4_code 3 none : Cond) ∈ xp_BW := xw_t 651 rfl rfl
set_option maxRecDepth 100000 in
theorem xwt_652 : (.methodLink "ExtentShelf" 224 ({ cls := "ExtentShelf", name := "copyNextWord", desc := "()V" } : MethodName) : Cond) ∈ xp_BW := xw_t 652 rfl rfl
set_option maxRecDepth 100000 in
theorem xwt_654 : (.instanceMethod ({ cls := "ExtentShelf", name := "copyNextWord", desc := "()V" } : MethodName) : Cond) ∈ xp_BW := xw_t 654 rfl rfl
set_option maxRecDepth 100000 in
theorem xwt_655 : (.code ({ cls := "ExtentShelf", name := "copyNextWord", desc := "()V" } : MethodName) prog_1_method_66_code 2 none : Cond) ∈ xp_BW := xw_t 655 rfl rfl
set_option maxRecDepth 100000 in
theorem xwt_656 : (.methodLink "ExtentShelfLaw" 141 ({ cls := "ExtentShelfLaw", name := "volume", desc := "(LExtentShelf;II[J)I" } : MethodName) : Cond) ∈ xp_BW := xw_t 656 rfl rfl
set_option maxRecDepth 100000 in
theorem xwt_657 : (.static ({ cls := "ExtentShelfLaw", name := "volume", desc := "(LExtentShelf;II[J)I" } : MethodName) : Cond) ∈ xp_BW := xw_t 657 rfl rfl
set_option maxRecDepth 100000 in
theorem xwt_658 : (.codeWith ({ cls := "ExtentShelfLaw", name := "volume", desc := "(LExtentShelf;II[J)I" } : MethodName) method_15_code 5 (some .int) [(0, 10, 13, 13), (0, 10, 17, 35), (0, 10, 21, 15)] : Cond) ∈ xp_BW := xw_t 658 rfl rfl
set_option maxRecDepth 100000 in
theorem xwt_659 : (.methodLink "ExtentShelfLaw" 61 ({ cls := "ExtentShelf", name := "volume", desc := "(II)I" } : MethodName) : Cond) ∈ xp_BW := xw_t 659 rfl rfl
set_option maxRecDepth 100000 in
theorem xwt_660 : (.instanceMethod ({ cls := "ExtentShelf", name := "volume", desc := "(II)I" } : MethodName) : Cond) ∈ xp_BW := xw_t 660 rfl rfl
set_option maxRecDepth 100000 in
theorem xwt_661 : (.selects "ExtentShelf" ({ cls := "ExtentShelf", name := "volume", desc := "(II)I" } : MethodName) ({ cls := "ExtentShelf", name := "volume", desc := "(II)I" } : MethodName) : Cond) ∈ xp_BW := xw_t 661 rfl rfl
set_option maxRecDepth 100000 in
theorem xwt_662 : (.code ({ cls := "ExtentShelf", name := "volume", desc := "(II)I" } : MethodName) prog_1_method_15_code 3 (some .int) : Cond) ∈ xp_BW := xw_t 662 rfl rfl
set_option maxRecDepth 100000 in
theorem xwt_664 : (.methodLink "ExtentShelfLaw" 144 ({ cls := "ExtentShelfLaw", name := "where", desc := "(LExtentShelf;III[J)I" } : MethodName) : Cond) ∈ xp_BW := xw_t 664 rfl rfl
set_option maxRecDepth 100000 in
theorem xwt_665 : (.static ({ cls := "ExtentShelfLaw", name := "where", desc := "(LExtentShelf;III[J)I" } : MethodName) : Cond) ∈ xp_BW := xw_t 665 rfl rfl
set_option maxRecDepth 100000 in
theorem xwt_666 : (.codeWith ({ cls := "ExtentShelfLaw", name := "where", desc := "(LExtentShelf;III[J)I" } : MethodName) method_16_code 6 (some .int) [(0, 12, 15, 13), (0, 12, 19, 35)] : Cond) ∈ xp_BW := xw_t 666 rfl rfl
set_option maxRecDepth 100000 in
theorem xwt_667 : (.methodLink "ExtentShelfLaw" 64 ({ cls := "ExtentShelf", name := "where", desc := "(III)I" } : MethodName) : Cond) ∈ xp_BW := xw_t 667 rfl rfl
set_option maxRecDepth 100000 in
theorem xwt_668 : (.instanceMethod ({ cls := "ExtentShelf", name := "where", desc := "(III)I" } : MethodName) : Cond) ∈ xp_BW := xw_t 668 rfl rfl
set_option maxRecDepth 100000 in
theorem xwt_669 : (.selects "ExtentShelf" ({ cls := "ExtentShelf", name := "where", desc := "(III)I" } : MethodName) ({ cls := "ExtentShelf", name := "where", desc := "(III)I" } : MethodName) : Cond) ∈ xp_BW := xw_t 669 rfl rfl
set_option maxRecDepth 100000 in
theorem xwt_670 : (.code ({ cls := "ExtentShelf", name := "where", desc := "(III)I" } : MethodName) prog_1_method_16_code 4 (some .int) : Cond) ∈ xp_BW := xw_t 670 rfl rfl
set_option maxRecDepth 100000 in
theorem xwt_671 : (.methodLink "ExtentShelfLaw" 147 ({ cls := "ExtentShelfLaw", name := "free", desc := "(LExtentShelf;I[J)I" } : MethodName) : Cond) ∈ xp_BW := xw_t 671 rfl rfl
set_option maxRecDepth 100000 in
theorem xwt_672 : (.static ({ cls := "ExtentShelfLaw", name := "free", desc := "(LExtentShelf;I[J)I" } : MethodName) : Cond) ∈ xp_BW := xw_t 672 rfl rfl
set_option maxRecDepth 100000 in
theorem xwt_673 : (.codeWith ({ cls := "ExtentShelfLaw", name := "free", desc := "(LExtentShelf;I[J)I" } : MethodName) method_17_code 4 (some .int) [(0, 9, 12, 13), (0, 9, 15, 15)] : Cond) ∈ xp_BW := xw_t 673 rfl rfl
set_option maxRecDepth 100000 in
theorem xwt_674 : (.methodLink "ExtentShelfLaw" 67 ({ cls := "ExtentShelf", name := "free", desc := "(I)I" } : MethodName) : Cond) ∈ xp_BW := xw_t 674 rfl rfl
set_option maxRecDepth 100000 in
theorem xwt_675 : (.instanceMethod ({ cls := "ExtentShelf", name := "free", desc := "(I)I" } : MethodName) : Cond) ∈ xp_BW := xw_t 675 rfl rfl
set_option maxRecDepth 100000 in
theorem xwt_676 : (.selects "ExtentShelf" ({ cls := "ExtentShelf", name := "free", desc := "(I)I" } : MethodName) ({ cls := "ExtentShelf", name := "free", desc := "(I)I" } : MethodName) : Cond) ∈ xp_BW := xw_t 676 rfl rfl
set_option maxRecDepth 100000 in
theorem xwt_677 : (.code ({ cls := "ExtentShelf", name := "free", desc := "(I)I" } : MethodName) prog_1_method_17_code 2 (some .int) : Cond) ∈ xp_BW := xw_t 677 rfl rfl
set_option maxRecDepth 100000 in
theorem xwt_678 : (.methodLink "ExtentShelfLaw" 150 ({ cls := "ExtentShelfLaw", name := "cut", desc := "(LExtentShelf;I)I" } : MethodName) : Cond) ∈ xp_BW := xw_t 678 rfl rfl
set_option maxRecDepth 100000 in
theorem xwt_679 : (.static ({ cls := "ExtentShelfLaw", name := "cut", desc := "(LExtentShelf;I)I" } : MethodName) : Cond) ∈ xp_BW := xw_t 679 rfl rfl
set_option maxRecDepth 100000 in
theorem xwt_680 : (.codeWith ({ cls := "ExtentShelfLaw", name := "cut", desc := "(LExtentShelf;I)I" } : MethodName) method_18_code 3 (some .int) [(0, 5, 8, 13), (0, 5, 11, 15)] : Cond) ∈ xp_BW := xw_t 680 rfl rfl
set_option maxRecDepth 100000 in
theorem xwt_681 : (.methodLink "ExtentShelfLaw" 70 ({ cls := "ExtentShelf", name := "cut", desc := "(I)V" } : MethodName) : Cond) ∈ xp_BW := xw_t 681 rfl rfl
set_option maxRecDepth 100000 in
theorem xwt_682 : (.instanceMethod ({ cls := "ExtentShelf", name := "cut", desc := "(I)V" } : MethodName) : Cond) ∈ xp_BW := xw_t 682 rfl rfl
set_option maxRecDepth 100000 in
theorem xwt_683 : (.selects "ExtentShelf" ({ cls := "ExtentShelf", name := "cut", desc := "(I)V" } : MethodName) ({ cls := "ExtentShelf", name := "cut", desc := "(I)V" } : MethodName) : Cond) ∈ xp_BW := xw_t 683 rfl rfl
set_option maxRecDepth 100000 in
theorem xwt_684 : (.code ({ cls := "ExtentShelf", name := "cut", desc := "(I)V" } : MethodName) prog_1_method_18_code 2 none : Cond) ∈ xp_BW := xw_t 684 rfl rfl
set_option maxRecDepth 100000 in
theorem xwt_686 : (.methodLink "ExtentShelfLaw" 153 ({ cls := "ExtentShelfLaw", name := "off", desc := "(LExtentShelf;)I" } : MethodName) : Cond) ∈ xp_BW := xw_t 686 rfl rfl
set_option maxRecDepth 100000 in
theorem xwt_687 : (.static ({ cls := "ExtentShelfLaw", name := "off", desc := "(LExtentShelf;)I" } : MethodName) : Cond) ∈ xp_BW := xw_t 687 rfl rfl
set_option maxRecDepth 100000 in
theorem xwt_688 : (.codeWith ({ cls := "ExtentShelfLaw", name := "off", desc := "(LExtentShelf;)I" } : MethodName) method_19_code 2 (some .int) [(0, 4, 7, 13)] : Cond) ∈ xp_BW := xw_t 688 rfl rfl
set_option maxRecDepth 100000 in
theorem xwt_689 : (.methodLink "ExtentShelfLaw" 73 ({ cls := "ExtentShelf", name := "off", desc := "()V" } : MethodName) : Cond) ∈ xp_BW := xw_t 689 rfl rfl
set_option maxRecDepth 100000 in
theorem xwt_690 : (.instanceMethod ({ cls := "ExtentShelf", name := "off", desc := "()V" } : MethodName) : Cond) ∈ xp_BW := xw_t 690 rfl rfl
set_option maxRecDepth 100000 in
theorem xwt_691 : (.selects "ExtentShelf" ({ cls := "ExtentShelf", name := "off", desc := "()V" } : MethodName) ({ cls := "ExtentShelf", name := "off", desc := "()V" } : MethodName) : Cond) ∈ xp_BW := xw_t 691 rfl rfl
set_option maxRecDepth 100000 in
theorem xwt_692 : (.code ({ cls := "ExtentShelf", name := "off", desc := "()V" } : MethodName) prog_1_method_19_code 1 none : Cond) ∈ xp_BW := xw_t 692 rfl rfl
set_option maxRecDepth 100000 in
theorem xwt_693 : (.methodLink "ExtentShelfLaw" 157 ({ cls := "ExtentShelfLaw", name := "plug", desc := "(LExtentShelf;IZ[J)I" } : MethodName) : Cond) ∈ xp_BW := xw_t 693 rfl rfl
set_option maxRecDepth 100000 in
theorem xwt_694 : (.static ({ cls := "ExtentShelfLaw", name := "plug", desc := "(LExtentShelf;IZ[J)I" } : MethodName) : Cond) ∈ xp_BW := xw_t 694 rfl rfl
set_option maxRecDepth 100000 in
theorem xwt_695 : (.codeWith ({ cls := "ExtentShelfLaw", name := "plug", desc := "(LExtentShelf;IZ[J)I" } : MethodName) method_20_code 5 (some .int) [(0, 17, 20, 13), (0, 17, 24, 15)] : Cond) ∈ xp_BW := xw_t 695 rfl rfl
set_option maxRecDepth 100000 in
theorem xwt_696 : (.methodLink "ExtentShelfLaw" 76 ({ cls := "ExtentShelf", name := "plug", desc := "(IZ)Z" } : MethodName) : Cond) ∈ xp_BW := xw_t 696 rfl rfl
set_option maxRecDepth 100000 in
theorem xwt_697 : (.instanceMethod ({ cls := "ExtentShelf", name := "plug", desc := "(IZ)Z" } : MethodName) : Cond) ∈ xp_BW := xw_t 697 rfl rfl
set_option maxRecDepth 100000 in
theorem xwt_698 : (.selects "ExtentShelf" ({ cls := "ExtentShelf", name := "plug", desc := "(IZ)Z" } : MethodName) ({ cls := "ExtentShelf", name := "plug", desc := "(IZ)Z" } : MethodName) : Cond) ∈ xp_BW := xw_t 698 rfl rfl
set_option maxRecDepth 100000 in
theorem xwt_699 : (.code ({ cls := "ExtentShelf", name := "plug", desc := "(IZ)Z" } : MethodName) prog_1_method_20_code 4 (some .boolean) : Cond) ∈ xp_BW := xw_t 699 rfl rfl
set_option maxRecDepth 100000 in
theorem xwt_700 : (.methodLink "ExtentShelf" 241 ({ cls := "ExtentShelf", name := "requireNoPower", desc := "()V" } : MethodName) : Cond) ∈ xp_BW := xw_t 700 rfl rfl
set_option maxRecDepth 100000 in
theorem xwt_702 : (.instanceMethod ({ cls := "ExtentShelf", name := "requireNoPower", desc := "()V" } : MethodName) : Cond) ∈ xp_BW := xw_t 702 rfl rfl
set_option maxRecDepth 100000 in
theorem xwt_703 : (.code ({ cls := "ExtentShelf", name := "requireNoPower", desc := "()V" } : MethodName) prog_1_method_25_code 1 none : Cond) ∈ xp_BW := xw_t 703 rfl rfl
set_option maxRecDepth 100000 in
theorem xwt_707 : (.instanceMethod ({ cls := "ExtentShelf$Disks", name := "setAbsent", desc := "(IZ)V" } : MethodName) : Cond) ∈ xp_BW := xw_t 707 rfl rfl
set_option maxRecDepth 100000 in
theorem xwt_708 : (.code ({ cls := "ExtentShelf$Disks", name := "setAbsent", desc := "(IZ)V" } : MethodName) prog_2_method_3_code 3 none : Cond) ∈ xp_BW := xw_t 708 rfl rfl
set_option maxRecDepth 100000 in
theorem xwt_709 : (.methodLink "ExtentShelfLaw" 161 ({ cls := "ExtentShelfLaw", name := "start", desc := "(LExtentShelf;[J)I" } : MethodName) : Cond) ∈ xp_BW := xw_t 709 rfl rfl
set_option maxRecDepth 100000 in
theorem xwt_710 : (.static ({ cls := "ExtentShelfLaw", name := "start", desc := "(LExtentShelf;[J)I" } : MethodName) : Cond) ∈ xp_BW := xw_t 710 rfl rfl
set_option maxRecDepth 100000 in
theorem xwt_711 : (.codeWith ({ cls := "ExtentShelfLaw", name := "start", desc := "(LExtentShelf;[J)I" } : MethodName) method_21_code 3 (some .int) [(0, 8, 11, 13)] : Cond) ∈ xp_BW := xw_t 711 rfl rfl
set_option maxRecDepth 100000 in
theorem xwt_712 : (.methodLink "ExtentShelfLaw" 80 ({ cls := "ExtentShelf", name := "start", desc := "()I" } : MethodName) : Cond) ∈ xp_BW := xw_t 712 rfl rfl
set_option maxRecDepth 100000 in
theorem xwt_713 : (.instanceMethod ({ cls := "ExtentShelf", name := "start", desc := "()I" } : MethodName) : Cond) ∈ xp_BW := xw_t 713 rfl rfl
set_option maxRecDepth 100000 in
theorem xwt_714 : (.selects "ExtentShelf" ({ cls := "ExtentShelf", name := "start", desc := "()I" } : MethodName) ({ cls := "ExtentShelf", name := "start", desc := "()I" } : MethodName) : Cond) ∈ xp_BW := xw_t 714 rfl rfl
set_option maxRecDepth 100000 in
theorem xwt_715 : (.code ({ cls := "ExtentShelf", name := "start", desc := "()I" } : MethodName) prog_1_method_21_code 2 (some .int) : Cond) ∈ xp_BW := xw_t 715 rfl rfl
set_option maxRecDepth 100000 in
theorem xwt_716 : (.methodLink "ExtentShelf" 248 ({ cls := "ExtentShelf", name := "loadNewestTable", desc := "()V" } : MethodName) : Cond) ∈ xp_BW := xw_t 716 rfl rfl
set_option maxRecDepth 100000 in
theorem xwt_718 : (.instanceMethod ({ cls := "ExtentShelf", name := "loadNewestTable", desc := "()V" } : MethodName) : Cond) ∈ xp_BW := xw_t 718 rfl rfl
set_option maxRecDepth 100000 in
theorem xwt_719 : (.code ({ cls := "ExtentShelf", name := "loadNewestTable", desc := "()V" } : MethodName) prog_1_method_67_code 2 none : Cond) ∈ xp_BW := xw_t 719 rfl rfl
set_option maxRecDepth 100000 in
theorem xwt_722 : (.instanceMethod ({ cls := "ExtentShelf$Disks", name := "newestWholeSlot", desc := "()I" } : MethodName) : Cond) ∈ xp_BW := xw_t 722 rfl rfl
set_option maxRecDepth 100000 in
theorem xwt_723 : (.code ({ cls := "ExtentShelf$Disks", name := "newestWholeSlot", desc := "()I" } : MethodName) prog_2_method_10_code 6 (some .int) : Cond) ∈ xp_BW := xw_t 723 rfl rfl
set_option maxRecDepth 100000 in
theorem xwt_724 : (.methodLink "ExtentShelf$Disks" 35 ({ cls := "ExtentShelf$Disks", name := "isAbsent", desc := "(I)Z" } : MethodName) : Cond) ∈ xp_BW := xw_t 724 rfl rfl
set_option maxRecDepth 100000 in
theorem xwt_727 : (.instanceMethod ({ cls := "ExtentShelf$Table", name := "clear", desc := "()V" } : MethodName) : Cond) ∈ xp_BW := xw_t 727 rfl rfl
set_option maxRecDepth 100000 in
theorem xwt_728 : (.code ({ cls := "ExtentShelf$Table", name := "clear", desc := "()V" } : MethodName) prog_4_method_3_code 2 none : Cond) ∈ xp_BW := xw_t 728 rfl rfl
set_option maxRecDepth 100000 in
theorem xwt_731 : (.instanceMethod ({ cls := "ExtentShelf$Disks", name := "hasWhole", desc := "(II)Z" } : MethodName) : Cond) ∈ xp_BW := xw_t 731 rfl rfl
set_option maxRecDepth 100000 in
theorem xwt_732 : (.code ({ cls := "ExtentShelf$Disks", name := "hasWhole", desc := "(II)Z" } : MethodName) prog_2_method_8_code 3 (some .boolean) : Cond) ∈ xp_BW := xw_t 732 rfl rfl
set_option maxRecDepth 100000 in
theorem xwt_733 : (.methodLink "ExtentShelf" 265 ({ cls := "ExtentShelf", name := "alignTwins", desc := "(II)V" } : MethodName) : Cond) ∈ xp_BW := xw_t 733 rfl rfl
set_option maxRecDepth 100000 in
theorem xwt_735 : (.instanceMethod ({ cls := "ExtentShelf", name := "alignTwins", desc := "(II)V" } : MethodName) : Cond) ∈ xp_BW := xw_t 735 rfl rfl
set_option maxRecDepth 100000 in
theorem xwt_736 : (.code ({ cls := "ExtentShelf", name := "alignTwins", desc := "(II)V" } : MethodName) prog_1_method_68_code 3 none : Cond) ∈ xp_BW := xw_t 736 rfl rfl
set_option maxRecDepth 100000 in
theorem xwt_737 : (.methodLink "ExtentShelfLaw" 168 ({ cls := "ExtentShelfLaw", name := "look", desc := "(LExtentShelf;III[J)I" } : MethodName) : Cond) ∈ xp_BW := xw_t 737 rfl rfl
set_option maxRecDepth 100000 in
theorem xwt_738 : (.static ({ cls := "ExtentShelfLaw", name := "look", desc := "(LExtentShelf;III[J)I" } : MethodName) : Cond) ∈ xp_BW := xw_t 738 rfl rfl
set_option maxRecDepth 100000 in
theorem xwt_739 : (.codeWith ({ cls := "ExtentShelfLaw", name := "look", desc := "(LExtentShelf;III[J)I" } : MethodName) method_22_code 6 (some .int) [(0, 12, 15, 49)] : Cond) ∈ xp_BW := xw_t 739 rfl rfl
set_option maxRecDepth 100000 in
theorem xwt_740 : (.methodLink "ExtentShelfLaw" 83 ({ cls := "ExtentShelf", name := "look", desc := "(III)I" } : MethodName) : Cond) ∈ xp_BW := xw_t 740 rfl rfl
set_option maxRecDepth 100000 in
theorem xwt_741 : (.instanceMethod ({ cls := "ExtentShelf", name := "look", desc := "(III)I" } : MethodName) : Cond) ∈ xp_BW := xw_t 741 rfl rfl
set_option maxRecDepth 100000 in
theorem xwt_742 : (.selects "ExtentShelf" ({ cls := "ExtentShelf", name := "look", desc := "(III)I" } : MethodName) ({ cls := "ExtentShelf", name := "look", desc := "(III)I" } : MethodName) : Cond) ∈ xp_BW := xw_t 742 rfl rfl
set_option maxRecDepth 100000 in
theorem xwt_743 : (.code ({ cls := "ExtentShelf", name := "look", desc := "(III)I" } : MethodName) prog_1_method_23_code 6 (some .int) : Cond) ∈ xp_BW := xw_t 743 rfl rfl
set_option maxRecDepth 100000 in
theorem xwt_746 : (.instanceMethod ({ cls := "ExtentShelf$Disks", name := "slotWord", desc := "(III)I" } : MethodName) : Cond) ∈ xp_BW := xw_t 746 rfl rfl
set_option maxRecDepth 100000 in
theorem xwt_747 : (.code ({ cls := "ExtentShelf$Disks", name := "slotWord", desc := "(III)I" } : MethodName) prog_2_method_5_code 4 (some .int) : Cond) ∈ xp_BW := xw_t 747 rfl rfl
set_option maxRecDepth 100000 in
theorem xwt_754 : (.fieldLink "ExtentShelfModel" 37 "ExtentShelfModel" "thrown" "I" : Cond) ∈ xp_BW := xw_t 754 rfl rfl
set_option maxRecDepth 100000 in
theorem xwt_755 : (.fieldLink "ExtentShelfModel" 7 "ExtentShelfModel" "present" "[Z" : Cond) ∈ xp_BW := xw_t 755 rfl rfl
set_option maxRecDepth 100000 in
theorem xwt_756 : (.fieldLink "ExtentShelfModel" 13 "ExtentShelfModel" "slots" "[I" : Cond) ∈ xp_BW := xw_t 756 rfl rfl
set_option maxRecDepth 100000 in
theorem xwt_757 : (.fieldLink "ExtentShelfModel" 17 "ExtentShelfModel" "data" "[I" : Cond) ∈ xp_BW := xw_t 757 rfl rfl
set_option maxRecDepth 100000 in
theorem xwt_758 : (.fieldLink "ExtentShelfModel" 20 "ExtentShelfModel" "on" "Z" : Cond) ∈ xp_BW := xw_t 758 rfl rfl
set_option maxRecDepth 100000 in
theorem xwt_759 : (.fieldLink "ExtentShelfModel" 24 "ExtentShelfModel" "left" "I" : Cond) ∈ xp_BW := xw_t 759 rfl rfl
set_option maxRecDepth 100000 in
theorem xwt_760 : (.fieldLink "ExtentShelfModel" 28 "ExtentShelfModel" "table" "[I" : Cond) ∈ xp_BW := xw_t 760 rfl rfl
set_option maxRecDepth 100000 in
theorem xwt_761 : (.fieldLink "ExtentShelfModel" 31 "ExtentShelfModel" "next" "[I" : Cond) ∈ xp_BW := xw_t 761 rfl rfl
set_option maxRecDepth 100000 in
theorem xwt_762 : (.fieldLink "ExtentShelfModel" 34 "ExtentShelfModel" "moved" "I" : Cond) ∈ xp_BW := xw_t 762 rfl rfl
set_option maxRecDepth 100000 in
theorem xwt_763 : (.fieldLink "ExtentShelfModel" 59 "ExtentShelfModel" "copyVolume" "I" : Cond) ∈ xp_BW := xw_t 763 rfl rfl
set_option maxRecDepth 100000 in
theorem xwt_764 : (.fieldLink "ExtentShelfModel" 62 "ExtentShelfModel" "copyLeg" "I" : Cond) ∈ xp_BW := xw_t 764 rfl rfl
set_option maxRecDepth 100000 in
theorem xwt_765 : (.fieldLink "ExtentShelfModel" 65 "ExtentShelfModel" "copyTo" "I" : Cond) ∈ xp_BW := xw_t 765 rfl rfl
set_option maxRecDepth 100000 in
theorem xwt_766 : (.fieldLink "ExtentShelfModel" 152 "ExtentShelfModel" "copied" "I" : Cond) ∈ xp_BW := xw_t 766 rfl rfl
set_option maxRecDepth 100000 in
theorem xwt_794 : (.methodLink "ExtentShelfLaw" 96 ({ cls := "ExtentShelfModel", name := "thrown", desc := "()I" } : MethodName) : Cond) ∈ xp_BW := xw_t 794 rfl rfl
set_option maxRecDepth 100000 in
theorem xwt_795 : (.instanceMethod ({ cls := "ExtentShelfModel", name := "thrown", desc := "()I" } : MethodName) : Cond) ∈ xp_BW := xw_t 795 rfl rfl
set_option maxRecDepth 100000 in
theorem xwt_796 : (.selects "ExtentShelfModel" ({ cls := "ExtentShelfModel", name := "thrown", desc := "()I" } : MethodName) ({ cls := "ExtentShelfModel", name := "thrown", desc := "()I" } : MethodName) : Cond) ∈ xp_BW := xw_t 796 rfl rfl
set_option maxRecDepth 100000 in
theorem xwt_797 : (.code ({ cls := "ExtentShelfModel", name := "thrown", desc := "()I" } : MethodName) prog_6_method_2_code 1 (some .int) : Cond) ∈ xp_BW := xw_t 797 rfl rfl
set_option maxRecDepth 100000 in
theorem xwt_798 : (.methodLink "ExtentShelfLaw" 95 ({ cls := "ExtentShelfModel", name := "add", desc := "(II)V" } : MethodName) : Cond) ∈ xp_BW := xw_t 798 rfl rfl
set_option maxRecDepth 100000 in
theorem xwt_799 : (.instanceMethod ({ cls := "ExtentShelfModel", name := "add", desc := "(II)V" } : MethodName) : Cond) ∈ xp_BW := xw_t 799 rfl rfl
set_option maxRecDepth 100000 in
theorem xwt_800 : (.selects "ExtentShelfModel" ({ cls := "ExtentShelfModel", name := "add", desc := "(II)V" } : MethodName) ({ cls := "ExtentShelfModel", name := "add", desc := "(II)V" } : MethodName) : Cond) ∈ xp_BW := xw_t 800 rfl rfl
set_option maxRecDepth 100000 in
theorem xwt_801 : (.code ({ cls := "ExtentShelfModel", name := "add", desc := "(II)V" } : MethodName) prog_6_method_28_code 4 none : Cond) ∈ xp_BW := xw_t 801 rfl rfl
set_option maxRecDepth 100000 in
theorem xwt_802 : (.methodLink "ExtentShelfModel" 103 ({ cls := "ExtentShelfModel", name := "isDisk", desc := "(I)Z" } : MethodName) : Cond) ∈ xp_BW := xw_t 802 rfl rfl
set_option maxRecDepth 100000 in
theorem xwt_803 : (.static ({ cls := "ExtentShelfModel", name := "isDisk", desc := "(I)Z" } : MethodName) : Cond) ∈ xp_BW := xw_t 803 rfl rfl
set_option maxRecDepth 100000 in
theorem xwt_804 : (.code ({ cls := "ExtentShelfModel", name := "isDisk", desc := "(I)Z" } : MethodName) prog_6_method_3_code 1 (some .boolean) : Cond) ∈ xp_BW := xw_t 804 rfl rfl
set_option maxRecDepth 100000 in
theorem xwt_805 : (.methodLink "ExtentShelfModel" 52 ({ cls := "ExtentShelfModel", name := "isOneAbsent", desc := "()Z" } : MethodName) : Cond) ∈ xp_BW := xw_t 805 rfl rfl
set_option maxRecDepth 100000 in
theorem xwt_807 : (.instanceMethod ({ cls := "ExtentShelfModel", name := "isOneAbsent", desc := "()Z" } : MethodName) : Cond) ∈ xp_BW := xw_t 807 rfl rfl
set_option maxRecDepth 100000 in
theorem xwt_808 : (.code ({ cls := "ExtentShelfModel", name := "isOneAbsent", desc := "()Z" } : MethodName) prog_6_method_13_code 3 (some .boolean) : Cond) ∈ xp_BW := xw_t 808 rfl rfl
set_option maxRecDepth 100000 in
theorem xwt_809 : (.methodLink "ExtentShelfModel" 107 ({ cls := "ExtentShelfModel", name := "begin", desc := "()V" } : MethodName) : Cond) ∈ xp_BW := xw_t 809 rfl rfl
set_option maxRecDepth 100000 in
theorem xwt_811 : (.instanceMethod ({ cls := "ExtentShelfModel", name := "begin", desc := "()V" } : MethodName) : Cond) ∈ xp_BW := xw_t 811 rfl rfl
set_option maxRecDepth 100000 in
theorem xwt_812 : (.code ({ cls := "ExtentShelfModel", name := "begin", desc := "()V" } : MethodName) prog_6_method_14_code 2 none : Cond) ∈ xp_BW := xw_t 812 rfl rfl
set_option maxRecDepth 100000 in
theorem xwt_813 : (.methodLink "ExtentShelfModel" 110 ({ cls := "ExtentShelfModel", name := "change", desc := "()V" } : MethodName) : Cond) ∈ xp_BW := xw_t 813 rfl rfl
set_option maxRecDepth 100000 in
theorem xwt_815 : (.instanceMethod ({ cls := "ExtentShelfModel", name := "change", desc := "()V" } : MethodName) : Cond) ∈ xp_BW := xw_t 815 rfl rfl
set_option maxRecDepth 100000 in
theorem xwt_816 : (.code ({ cls := "ExtentShelfModel", name := "change", desc := "()V" } : MethodName) prog_6_method_18_code 3 none : Cond) ∈ xp_BW := xw_t 816 rfl rfl
set_option maxRecDepth 100000 in
theorem xwt_817 : (.methodLink "ExtentShelfModel" 55 ({ cls := "ExtentShelfModel", name := "writeTo", desc := "(I[I)V" } : MethodName) : Cond) ∈ xp_BW := xw_t 817 rfl rfl
set_option maxRecDepth 100000 in
theorem xwt_819 : (.instanceMethod ({ cls := "ExtentShelfModel", name := "writeTo", desc := "(I[I)V" } : MethodName) : Cond) ∈ xp_BW := xw_t 819 rfl rfl
set_option maxRecDepth 100000 in
theorem xwt_820 : (.code ({ cls := "ExtentShelfModel", name := "writeTo", desc := "(I[I)V" } : MethodName) prog_6_method_17_code 5 none : Cond) ∈ xp_BW := xw_t 820 rfl rfl
set_option maxRecDepth 100000 in
theorem xwt_821 : (.methodLink "ExtentShelfModel" 48 ({ cls := "ExtentShelfModel", name := "slotToWrite", desc := "(I)I" } : MethodName) : Cond) ∈ xp_BW := xw_t 821 rfl rfl
set_option maxRecDepth 100000 in
theorem xwt_823 : (.instanceMethod ({ cls := "ExtentShelfModel", name := "slotToWrite", desc := "(I)I" } : MethodName) : Cond) ∈ xp_BW := xw_t 823 rfl rfl
set_option maxRecDepth 100000 in
theorem xwt_824 : (.code ({ cls := "ExtentShelfModel", name := "slotToWrite", desc := "(I)I" } : MethodName) prog_6_method_16_code 4 (some .int) : Cond) ∈ xp_BW := xw_t 824 rfl rfl
set_option maxRecDepth 100000 in
theorem xwt_825 : (.methodLink "ExtentShelfModel" 44 ({ cls := "ExtentShelfModel", name := "numberOf", desc := "(II)I" } : MethodName) : Cond) ∈ xp_BW := xw_t 825 rfl rfl
set_option maxRecDepth 100000 in
theorem xwt_827 : (.instanceMethod ({ cls := "ExtentShelfModel", name := "numberOf", desc := "(II)I" } : MethodName) : Cond) ∈ xp_BW := xw_t 827 rfl rfl
set_option maxRecDepth 100000 in
theorem xwt_828 : (.code ({ cls := "ExtentShelfModel", name := "numberOf", desc := "(II)I" } : MethodName) prog_6_method_15_code 6 (some .int) : Cond) ∈ xp_BW := xw_t 828 rfl rfl
set_option maxRecDepth 100000 in
theorem xwt_829 : (.methodLink "ExtentShelfModel" 40 ({ cls := "ExtentShelfModel", name := "mayWrite", desc := "()Z" } : MethodName) : Cond) ∈ xp_BW := xw_t 829 rfl rfl
set_option maxRecDepth 100000 in
theorem xwt_831 : (.instanceMethod ({ cls := "ExtentShelfModel", name := "mayWrite", desc := "()Z" } : MethodName) : Cond) ∈ xp_BW := xw_t 831 rfl rfl
set_option maxRecDepth 100000 in
theorem xwt_832 : (.code ({ cls := "ExtentShelfModel", name := "mayWrite", desc := "()Z" } : MethodName) prog_6_method_4_code 1 (some .boolean) : Cond) ∈ xp_BW := xw_t 832 rfl rfl
set_option maxRecDepth 100000 in
theorem xwt_833 : (.methodLink "ExtentShelfModel" 113 ({ cls := "ExtentShelfModel", name := "ended", desc := "(I)I" } : MethodName) : Cond) ∈ xp_BW := xw_t 833 rfl rfl
set_option maxRecDepth 100000 in
theorem xwt_835 : (.instanceMethod ({ cls := "ExtentShelfModel", name := "ended", desc := "(I)I" } : MethodName) : Cond) ∈ xp_BW := xw_t 835 rfl rfl
set_option maxRecDepth 100000 in
theorem xwt_836 : (.code ({ cls := "ExtentShelfModel", name := "ended", desc := "(I)I" } : MethodName) prog_6_method_19_code 2 (some .int) : Cond) ∈ xp_BW := xw_t 836 rfl rfl
set_option maxRecDepth 100000 in
theorem xwt_837 : (.methodLink "ExtentShelfLaw" 102 ({ cls := "ExtentShelfModel", name := "remove", desc := "(I)V" } : MethodName) : Cond) ∈ xp_BW := xw_t 837 rfl rfl
set_option maxRecDepth 100000 in
theorem xwt_838 : (.instanceMethod ({ cls := "ExtentShelfModel", name := "remove", desc := "(I)V" } : MethodName) : Cond) ∈ xp_BW := xw_t 838 rfl rfl
set_option maxRecDepth 100000 in
theorem xwt_839 : (.selects "ExtentShelfModel" ({ cls := "ExtentShelfModel", name := "remove", desc := "(I)V" } : MethodName) ({ cls := "ExtentShelfModel", name := "remove", desc := "(I)V" } : MethodName) : Cond) ∈ xp_BW := xw_t 839 rfl rfl
set_option maxRecDepth 100000 in
theorem xwt_840 : (.code ({ cls := "ExtentShelfModel", name := "remove", desc := "(I)V" } : MethodName) prog_6_method_29_code 3 none : Cond) ∈ xp_BW := xw_t 840 rfl rfl
set_option maxRecDepth 100000 in
theorem xwt_841 : (.methodLink "ExtentShelfModel" 116 ({ cls := "ExtentShelfModel", name := "legsOn", desc := "(I)I" } : MethodName) : Cond) ∈ xp_BW := xw_t 841 rfl rfl
set_option maxRecDepth 100000 in
theorem xwt_843 : (.instanceMethod ({ cls := "ExtentShelfModel", name := "legsOn", desc := "(I)I" } : MethodName) : Cond) ∈ xp_BW := xw_t 843 rfl rfl
set_option maxRecDepth 100000 in
theorem xwt_844 : (.code ({ cls := "ExtentShelfModel", name := "legsOn", desc := "(I)I" } : MethodName) prog_6_method_12_code 4 (some .int) : Cond) ∈ xp_BW := xw_t 844 rfl rfl
set_option maxRecDepth 100000 in
theorem xwt_845 : (.methodLink "ExtentShelfModel" 119 ({ cls := "ExtentShelfModel", name := "listed", desc := "()I" } : MethodName) : Cond) ∈ xp_BW := xw_t 845 rfl rfl
set_option maxRecDepth 100000 in
theorem xwt_847 : (.instanceMethod ({ cls := "ExtentShelfModel", name := "listed", desc := "()I" } : MethodName) : Cond) ∈ xp_BW := xw_t 847 rfl rfl
set_option maxRecDepth 100000 in
theorem xwt_848 : (.code ({ cls := "ExtentShelfModel", name := "listed", desc := "()I" } : MethodName) prog_6_method_27_code 3 (some .int) : Cond) ∈ xp_BW := xw_t 848 rfl rfl
set_option maxRecDepth 100000 in
theorem xwt_849 : (.methodLink "ExtentShelfLaw" 106 ({ cls := "ExtentShelfModel", name := "drop", desc := "(I)I" } : MethodName) : Cond) ∈ xp_BW := xw_t 849 rfl rfl
set_option maxRecDepth 100000 in
theorem xwt_850 : (.instanceMethod ({ cls := "ExtentShelfModel", name := "drop", desc := "(I)I" } : MethodName) : Cond) ∈ xp_BW := xw_t 850 rfl rfl
set_option maxRecDepth 100000 in
theorem xwt_851 : (.selects "ExtentShelfModel" ({ cls := "ExtentShelfModel", name := "drop", desc := "(I)I" } : MethodName) ({ cls := "ExtentShelfModel", name := "drop", desc := "(I)I" } : MethodName) : Cond) ∈ xp_BW := xw_t 851 rfl rfl
set_option maxRecDepth 100000 in
theorem xwt_852 : (.code ({ cls := "ExtentShelfModel", name := "drop", desc := "(I)I" } : MethodName) prog_6_method_30_code 5 (some .int) : Cond) ∈ xp_BW := xw_t 852 rfl rfl
set_option maxRecDepth 100000 in
theorem xwt_853 : (.methodLink "ExtentShelfLaw" 110 ({ cls := "ExtentShelfModel", name := "make", desc := "(III)I" } : MethodName) : Cond) ∈ xp_BW := xw_t 853 rfl rfl
set_option maxRecDepth 100000 in
theorem xwt_854 : (.instanceMethod ({ cls := "ExtentShelfModel", name := "make", desc := "(III)I" } : MethodName) : Cond) ∈ xp_BW := xw_t 854 rfl rfl
set_option maxRecDepth 100000 in
theorem xwt_855 : (.selects "ExtentShelfModel" ({ cls := "ExtentShelfModel", name := "make", desc := "(III)I" } : MethodName) ({ cls := "ExtentShelfModel", name := "make", desc := "(III)I" } : MethodName) : Cond) ∈ xp_BW := xw_t 855 rfl rfl
set_option maxRecDepth 100000 in
theorem xwt_856 : (.code ({ cls := "ExtentShelfModel", name := "make", desc := "(III)I" } : MethodName) prog_6_method_32_code 6 (some .int) : Cond) ∈ xp_BW := xw_t 856 rfl rfl
set_option maxRecDepth 100000 in
theorem xwt_857 : (.methodLink "ExtentShelfModel" 123 ({ cls := "ExtentShelfModel", name := "fits", desc := "(II)Z" } : MethodName) : Cond) ∈ xp_BW := xw_t 857 rfl rfl
set_option maxRecDepth 100000 in
theorem xwt_858 : (.static ({ cls := "ExtentShelfModel", name := "fits", desc := "(II)Z" } : MethodName) : Cond) ∈ xp_BW := xw_t 858 rfl rfl
set_option maxRecDepth 100000 in
theorem xwt_859 : (.code ({ cls := "ExtentShelfModel", name := "fits", desc := "(II)Z" } : MethodName) prog_6_method_31_code 2 (some .boolean) : Cond) ∈ xp_BW := xw_t 859 rfl rfl
set_option maxRecDepth 100000 in
theorem xwt_860 : (.methodLink "ExtentShelfModel" 127 ({ cls := "ExtentShelfModel", name := "find", desc := "(II)Z" } : MethodName) : Cond) ∈ xp_BW := xw_t 860 rfl rfl
set_option maxRecDepth 100000 in
theorem xwt_862 : (.instanceMethod ({ cls := "ExtentShelfModel", name := "find", desc := "(II)Z" } : MethodName) : Cond) ∈ xp_BW := xw_t 862 rfl rfl
set_option maxRecDepth 100000 in
theorem xwt_863 : (.code ({ cls := "ExtentShelfModel", name := "find", desc := "(II)Z" } : MethodName) prog_6_method_25_code 5 (some .boolean) : Cond) ∈ xp_BW := xw_t 863 rfl rfl
set_option maxRecDepth 100000 in
theorem xwt_864 : (.methodLink "ExtentShelfModel" 86 ({ cls := "ExtentShelfModel", name := "elementsOf", desc := "([II)I" } : MethodName) : Cond) ∈ xp_BW := xw_t 864 rfl rfl
set_option maxRecDepth 100000 in
theorem xwt_865 : (.static ({ cls := "ExtentShelfModel", name := "elementsOf", desc := "([II)I" } : MethodName) : Cond) ∈ xp_BW := xw_t 865 rfl rfl
set_option maxRecDepth 100000 in
theorem xwt_866 : (.code ({ cls := "ExtentShelfModel", name := "elementsOf", desc := "([II)I" } : MethodName) prog_6_method_9_code 2 (some .int) : Cond) ∈ xp_BW := xw_t 866 rfl rfl
set_option maxRecDepth 100000 in
theorem xwt_867 : (.methodLink "ExtentShelfModel" 75 ({ cls := "ExtentShelfModel", name := "kindOf", desc := "([II)I" } : MethodName) : Cond) ∈ xp_BW := xw_t 867 rfl rfl
set_option maxRecDepth 100000 in
theorem xwt_868 : (.static ({ cls := "ExtentShelfModel", name := "kindOf", desc := "([II)I" } : MethodName) : Cond) ∈ xp_BW := xw_t 868 rfl rfl
set_option maxRecDepth 100000 in
theorem xwt_869 : (.code ({ cls := "ExtentShelfModel", name := "kindOf", desc := "([II)I" } : MethodName) prog_6_method_7_code 2 (some .int) : Cond) ∈ xp_BW := xw_t 869 rfl rfl
set_option maxRecDepth 100000 in
theorem xwt_870 : (.methodLink "ExtentShelfModel" 95 ({ cls := "ExtentShelfModel", name := "room", desc := "([IIII)I" } : MethodName) : Cond) ∈ xp_BW := xw_t 870 rfl rfl
set_option maxRecDepth 100000 in
theorem xwt_872 : (.instanceMethod ({ cls := "ExtentShelfModel", name := "room", desc := "([IIII)I" } : MethodName) : Cond) ∈ xp_BW := xw_t 872 rfl rfl
set_option maxRecDepth 100000 in
theorem xwt_873 : (.code ({ cls := "ExtentShelfModel", name := "room", desc := "([IIII)I" } : MethodName) prog_6_method_24_code 9 (some .int) : Cond) ∈ xp_BW := xw_t 873 rfl rfl
set_option maxRecDepth 100000 in
theorem xwt_874 : (.methodLink "ExtentShelfModel" 89 ({ cls := "ExtentShelfModel", name := "meets", desc := "([IIII)Z" } : MethodName) : Cond) ∈ xp_BW := xw_t 874 rfl rfl
set_option maxRecDepth 100000 in
theorem xwt_876 : (.instanceMethod ({ cls := "ExtentShelfModel", name := "meets", desc := "([IIII)Z" } : MethodName) : Cond) ∈ xp_BW := xw_t 876 rfl rfl
set_option maxRecDepth 100000 in
theorem xwt_877 : (.code ({ cls := "ExtentShelfModel", name := "meets", desc := "([IIII)Z" } : MethodName) prog_6_method_23_code 8 (some .boolean) : Cond) ∈ xp_BW := xw_t 877 rfl rfl
set_option maxRecDepth 100000 in
theorem xwt_878 : (.methodLink "ExtentShelfModel" 82 ({ cls := "ExtentShelfModel", name := "isBeside", desc := "([IIII)Z" } : MethodName) : Cond) ∈ xp_BW := xw_t 878 rfl rfl
set_option maxRecDepth 100000 in
theorem xwt_879 : (.static ({ cls := "ExtentShelfModel", name := "isBeside", desc := "([IIII)Z" } : MethodName) : Cond) ∈ xp_BW := xw_t 879 rfl rfl
set_option maxRecDepth 100000 in
theorem xwt_880 : (.code ({ cls := "ExtentShelfModel", name := "isBeside", desc := "([IIII)Z" } : MethodName) prog_6_method_22_code 5 (some .boolean) : Cond) ∈ xp_BW := xw_t 880 rfl rfl
set_option maxRecDepth 100000 in
theorem xwt_881 : (.methodLink "ExtentShelfModel" 79 ({ cls := "ExtentShelfModel", name := "columnsOf", desc := "([II)I" } : MethodName) : Cond) ∈ xp_BW := xw_t 881 rfl rfl
set_option maxRecDepth 100000 in
theorem xwt_882 : (.static ({ cls := "ExtentShelfModel", name := "columnsOf", desc := "([II)I" } : MethodName) : Cond) ∈ xp_BW := xw_t 882 rfl rfl
set_option maxRecDepth 100000 in
theorem xwt_883 : (.code ({ cls := "ExtentShelfModel", name := "columnsOf", desc := "([II)I" } : MethodName) prog_6_method_8_code 2 (some .int) : Cond) ∈ xp_BW := xw_t 883 rfl rfl
set_option maxRecDepth 100000 in
theorem xwt_884 : (.methodLink "ExtentShelfModel" 92 ({ cls := "ExtentShelfModel", name := "freeOn", desc := "([II)I" } : MethodName) : Cond) ∈ xp_BW := xw_t 884 rfl rfl
set_option maxRecDepth 100000 in
theorem xwt_886 : (.instanceMethod ({ cls := "ExtentShelfModel", name := "freeOn", desc := "([II)I" } : MethodName) : Cond) ∈ xp_BW := xw_t 886 rfl rfl
set_option maxRecDepth 100000 in
theorem xwt_887 : (.code ({ cls := "ExtentShelfModel", name := "freeOn", desc := "([II)I" } : MethodName) prog_6_method_21_code 5 (some .int) : Cond) ∈ xp_BW := xw_t 887 rfl rfl
set_option maxRecDepth 100000 in
theorem xwt_888 : (.methodLink "ExtentShelfModel" 72 ({ cls := "ExtentShelfModel", name := "isFree", desc := "([II)Z" } : MethodName) : Cond) ∈ xp_BW := xw_t 888 rfl rfl
set_option maxRecDepth 100000 in
theorem xwt_890 : (.instanceMethod ({ cls := "ExtentShelfModel", name := "isFree", desc := "([II)Z" } : MethodName) : Cond) ∈ xp_BW := xw_t 890 rfl rfl
set_option maxRecDepth 100000 in
theorem xwt_891 : (.code ({ cls := "ExtentShelfModel", name := "isFree", desc := "([II)Z" } : MethodName) prog_6_method_20_code 3 (some .boolean) : Cond) ∈ xp_BW := xw_t 891 rfl rfl
set_option maxRecDepth 100000 in
theorem xwt_892 : (.methodLink "ExtentShelfModel" 68 ({ cls := "ExtentShelfModel", name := "holds", desc := "([II)Z" } : MethodName) : Cond) ∈ xp_BW := xw_t 892 rfl rfl
set_option maxRecDepth 100000 in
theorem xwt_893 : (.static ({ cls := "ExtentShelfModel", name := "holds", desc := "([II)Z" } : MethodName) : Cond) ∈ xp_BW := xw_t 893 rfl rfl
set_option maxRecDepth 100000 in
theorem xwt_894 : (.code ({ cls := "ExtentShelfModel", name := "holds", desc := "([II)Z" } : MethodName) prog_6_method_11_code 4 (some .boolean) : Cond) ∈ xp_BW := xw_t 894 rfl rfl
set_option maxRecDepth 100000 in
theorem xwt_895 : (.methodLink "ExtentShelfModel" 130 ({ cls := "ExtentShelfModel", name := "clear", desc := "(II)V" } : MethodName) : Cond) ∈ xp_BW := xw_t 895 rfl rfl
set_option maxRecDepth 100000 in
theorem xwt_897 : (.instanceMethod ({ cls := "ExtentShelfModel", name := "clear", desc := "(II)V" } : MethodName) : Cond) ∈ xp_BW := xw_t 897 rfl rfl
set_option maxRecDepth 100000 in
theorem xwt_898 : (.code ({ cls := "ExtentShelfModel", name := "clear", desc := "(II)V" } : MethodName) prog_6_method_26_code 5 none : Cond) ∈ xp_BW := xw_t 898 rfl rfl
set_option maxRecDepth 100000 in
theorem xwt_899 : (.methodLink "ExtentShelfModel" 99 ({ cls := "ExtentShelfModel", name := "put", desc := "(III)V" } : MethodName) : Cond) ∈ xp_BW := xw_t 899 rfl rfl
set_option maxRecDepth 100000 in
theorem xwt_901 : (.instanceMethod ({ cls := "ExtentShelfModel", name := "put", desc := "(III)V" } : MethodName) : Cond) ∈ xp_BW := xw_t 901 rfl rfl
set_option maxRecDepth 100000 in
theorem xwt_902 : (.code ({ cls := "ExtentShelfModel", name := "put", desc := "(III)V" } : MethodName) prog_6_method_5_code 4 none : Cond) ∈ xp_BW := xw_t 902 rfl rfl
set_option maxRecDepth 100000 in
theorem xwt_903 : (.methodLink "ExtentShelfLaw" 114 ({ cls := "ExtentShelfModel", name := "grow", desc := "(II)I" } : MethodName) : Cond) ∈ xp_BW := xw_t 903 rfl rfl
set_option maxRecDepth 100000 in
theorem xwt_904 : (.instanceMethod ({ cls := "ExtentShelfModel", name := "grow", desc := "(II)I" } : MethodName) : Cond) ∈ xp_BW := xw_t 904 rfl rfl
set_option maxRecDepth 100000 in
theorem xwt_905 : (.selects "ExtentShelfModel" ({ cls := "ExtentShelfModel", name := "grow", desc := "(II)I" } : MethodName) ({ cls := "ExtentShelfModel", name := "grow", desc := "(II)I" } : MethodName) : Cond) ∈ xp_BW := xw_t 905 rfl rfl
set_option maxRecDepth 100000 in
theorem xwt_906 : (.code ({ cls := "ExtentShelfModel", name := "grow", desc := "(II)I" } : MethodName) prog_6_method_33_code 4 (some .int) : Cond) ∈ xp_BW := xw_t 906 rfl rfl
set_option maxRecDepth 100000 in
theorem xwt_907 : (.methodLink "ExtentShelfModel" 134 ({ cls := "ExtentShelfModel", name := "isVolume", desc := "(I)Z" } : MethodName) : Cond) ∈ xp_BW := xw_t 907 rfl rfl
set_option maxRecDepth 100000 in
theorem xwt_909 : (.instanceMethod ({ cls := "ExtentShelfModel", name := "isVolume", desc := "(I)Z" } : MethodName) : Cond) ∈ xp_BW := xw_t 909 rfl rfl
set_option maxRecDepth 100000 in
theorem xwt_910 : (.code ({ cls := "ExtentShelfModel", name := "isVolume", desc := "(I)Z" } : MethodName) prog_6_method_10_code 2 (some .boolean) : Cond) ∈ xp_BW := xw_t 910 rfl rfl
set_option maxRecDepth 100000 in
theorem xwt_911 : (.methodLink "ExtentShelfLaw" 117 ({ cls := "ExtentShelfModel", name := "shrink", desc := "(II)I" } : MethodName) : Cond) ∈ xp_BW := xw_t 911 rfl rfl
set_option maxRecDepth 100000 in
theorem xwt_912 : (.instanceMethod ({ cls := "ExtentShelfModel", name := "shrink", desc := "(II)I" } : MethodName) : Cond) ∈ xp_BW := xw_t 912 rfl rfl
set_option maxRecDepth 100000 in
theorem xwt_913 : (.selects "ExtentShelfModel" ({ cls := "ExtentShelfModel", name := "shrink", desc := "(II)I" } : MethodName) ({ cls := "ExtentShelfModel", name := "shrink", desc := "(II)I" } : MethodName) : Cond) ∈ xp_BW := xw_t 913 rfl rfl
set_option maxRecDepth 100000 in
theorem xwt_914 : (.code ({ cls := "ExtentShelfModel", name := "shrink", desc := "(II)I" } : MethodName) prog_6_method_34_code 5 (some .int) : Cond) ∈ xp_BW := xw_t 914 rfl rfl
set_option maxRecDepth 100000 in
theorem xwt_915 : (.methodLink "ExtentShelfLaw" 120 ({ cls := "ExtentShelfModel", name := "delete", desc := "(I)V" } : MethodName) : Cond) ∈ xp_BW := xw_t 915 rfl rfl
set_option maxRecDepth 100000 in
theorem xwt_916 : (.instanceMethod ({ cls := "ExtentShelfModel", name := "delete", desc := "(I)V" } : MethodName) : Cond) ∈ xp_BW := xw_t 916 rfl rfl
set_option maxRecDepth 100000 in
theorem xwt_917 : (.selects "ExtentShelfModel" ({ cls := "ExtentShelfModel", name := "delete", desc := "(I)V" } : MethodName) ({ cls := "ExtentShelfModel", name := "delete", desc := "(I)V" } : MethodName) : Cond) ∈ xp_BW := xw_t 917 rfl rfl
set_option maxRecDepth 100000 in
theorem xwt_918 : (.code ({ cls := "ExtentShelfModel", name := "delete", desc := "(I)V" } : MethodName) prog_6_method_35_code 3 none : Cond) ∈ xp_BW := xw_t 918 rfl rfl
set_option maxRecDepth 100000 in
theorem xwt_919 : (.methodLink "ExtentShelfLaw" 123 ({ cls := "ExtentShelfModel", name := "mend", desc := "(I)I" } : MethodName) : Cond) ∈ xp_BW := xw_t 919 rfl rfl
set_option maxRecDepth 100000 in
theorem xwt_920 : (.instanceMethod ({ cls := "ExtentShelfModel", name := "mend", desc := "(I)I" } : MethodName) : Cond) ∈ xp_BW := xw_t 920 rfl rfl
set_option maxRecDepth 100000 in
theorem xwt_921 : (.selects "ExtentShelfModel" ({ cls := "ExtentShelfModel", name := "mend", desc := "(I)I" } : MethodName) ({ cls := "ExtentShelfModel", name := "mend", desc := "(I)I" } : MethodName) : Cond) ∈ xp_BW := xw_t 921 rfl rfl
set_option maxRecDepth 100000 in
theorem xwt_922 : (.code ({ cls := "ExtentShelfModel", name := "mend", desc := "(I)I" } : MethodName) prog_6_method_37_code 6 (some .int) : Cond) ∈ xp_BW := xw_t 922 rfl rfl
set_option maxRecDepth 100000 in
theorem xwt_923 : (.methodLink "ExtentShelfModel" 137 ({ cls := "ExtentShelfModel", name := "twin", desc := "(I)I" } : MethodName) : Cond) ∈ xp_BW := xw_t 923 rfl rfl
set_option maxRecDepth 100000 in
theorem xwt_924 : (.static ({ cls := "ExtentShelfModel", name := "twin", desc := "(I)I" } : MethodName) : Cond) ∈ xp_BW := xw_t 924 rfl rfl
set_option maxRecDepth 100000 in
theorem xwt_925 : (.code ({ cls := "ExtentShelfModel", name := "twin", desc := "(I)I" } : MethodName) prog_6_method_36_code 1 (some .int) : Cond) ∈ xp_BW := xw_t 925 rfl rfl
set_option maxRecDepth 100000 in
theorem xwt_926 : (.methodLink "ExtentShelfModel" 140 ({ cls := "ExtentShelfModel", name := "get", desc := "(II)I" } : MethodName) : Cond) ∈ xp_BW := xw_t 926 rfl rfl
set_option maxRecDepth 100000 in
theorem xwt_928 : (.instanceMethod ({ cls := "ExtentShelfModel", name := "get", desc := "(II)I" } : MethodName) : Cond) ∈ xp_BW := xw_t 928 rfl rfl
set_option maxRecDepth 100000 in
theorem xwt_929 : (.code ({ cls := "ExtentShelfModel", name := "get", desc := "(II)I" } : MethodName) prog_6_method_6_code 3 (some .int) : Cond) ∈ xp_BW := xw_t 929 rfl rfl
set_option maxRecDepth 100000 in
theorem xwt_930 : (.methodLink "ExtentShelfLaw" 126 ({ cls := "ExtentShelfModel", name := "write", desc := "(III)I" } : MethodName) : Cond) ∈ xp_BW := xw_t 930 rfl rfl
set_option maxRecDepth 100000 in
theorem xwt_931 : (.instanceMethod ({ cls := "ExtentShelfModel", name := "write", desc := "(III)I" } : MethodName) : Cond) ∈ xp_BW := xw_t 931 rfl rfl
set_option maxRecDepth 100000 in
theorem xwt_932 : (.selects "ExtentShelfModel" ({ cls := "ExtentShelfModel", name := "write", desc := "(III)I" } : MethodName) ({ cls := "ExtentShelfModel", name := "write", desc := "(III)I" } : MethodName) : Cond) ∈ xp_BW := xw_t 932 rfl rfl
set_option maxRecDepth 100000 in
theorem xwt_933 : (.code ({ cls := "ExtentShelfModel", name := "write", desc := "(III)I" } : MethodName) prog_6_method_41_code 10 (some .int) : Cond) ∈ xp_BW := xw_t 933 rfl rfl
set_option maxRecDepth 100000 in
theorem xwt_934 : (.methodLink "ExtentShelfModel" 143 ({ cls := "ExtentShelfModel", name := "elementOf", desc := "(II)I" } : MethodName) : Cond) ∈ xp_BW := xw_t 934 rfl rfl
set_option maxRecDepth 100000 in
theorem xwt_936 : (.instanceMethod ({ cls := "ExtentShelfModel", name := "elementOf", desc := "(II)I" } : MethodName) : Cond) ∈ xp_BW := xw_t 936 rfl rfl
set_option maxRecDepth 100000 in
theorem xwt_937 : (.code ({ cls := "ExtentShelfModel", name := "elementOf", desc := "(II)I" } : MethodName) prog_6_method_39_code 4 (some .int) : Cond) ∈ xp_BW := xw_t 937 rfl rfl
set_option maxRecDepth 100000 in
theorem xwt_938 : (.methodLink "ExtentShelfModel" 146 ({ cls := "ExtentShelfModel", name := "isReadable", desc := "(I)Z" } : MethodName) : Cond) ∈ xp_BW := xw_t 938 rfl rfl
set_option maxRecDepth 100000 in
theorem xwt_940 : (.instanceMethod ({ cls := "ExtentShelfModel", name := "isReadable", desc := "(I)Z" } : MethodName) : Cond) ∈ xp_BW := xw_t 940 rfl rfl
set_option maxRecDepth 100000 in
theorem xwt_941 : (.code ({ cls := "ExtentShelfModel", name := "isReadable", desc := "(I)Z" } : MethodName) prog_6_method_38_code 2 (some .boolean) : Cond) ∈ xp_BW := xw_t 941 rfl rfl
set_option maxRecDepth 100000 in
theorem xwt_942 : (.methodLink "ExtentShelfModel" 149 ({ cls := "ExtentShelfModel", name := "wordOf", desc := "(II)I" } : MethodName) : Cond) ∈ xp_BW := xw_t 942 rfl rfl
set_option maxRecDepth 100000 in
theorem xwt_944 : (.instanceMethod ({ cls := "ExtentShelfModel", name := "wordOf", desc := "(II)I" } : MethodName) : Cond) ∈ xp_BW := xw_t 944 rfl rfl
set_option maxRecDepth 100000 in
theorem xwt_945 : (.code ({ cls := "ExtentShelfModel", name := "wordOf", desc := "(II)I" } : MethodName) prog_6_method_40_code 4 (some .int) : Cond) ∈ xp_BW := xw_t 945 rfl rfl
set_option maxRecDepth 100000 in
theorem xwt_946 : (.methodLink "ExtentShelfLaw" 129 ({ cls := "ExtentShelfModel", name := "read", desc := "(II)I" } : MethodName) : Cond) ∈ xp_BW := xw_t 946 rfl rfl
set_option maxRecDepth 100000 in
theorem xwt_947 : (.instanceMethod ({ cls := "ExtentShelfModel", name := "read", desc := "(II)I" } : MethodName) : Cond) ∈ xp_BW := xw_t 947 rfl rfl
set_option maxRecDepth 100000 in
theorem xwt_948 : (.selects "ExtentShelfModel" ({ cls := "ExtentShelfModel", name := "read", desc := "(II)I" } : MethodName) ({ cls := "ExtentShelfModel", name := "read", desc := "(II)I" } : MethodName) : Cond) ∈ xp_BW := xw_t 948 rfl rfl
set_option maxRecDepth 100000 in
theorem xwt_949 : (.code ({ cls := "ExtentShelfModel", name := "read", desc := "(II)I" } : MethodName) prog_6_method_42_code 5 (some .int) : Cond) ∈ xp_BW := xw_t 949 rfl rfl
set_option maxRecDepth 100000 in
theorem xwt_950 : (.methodLink "ExtentShelfLaw" 132 ({ cls := "ExtentShelfModel", name := "empty", desc := "(I)I" } : MethodName) : Cond) ∈ xp_BW := xw_t 950 rfl rfl
set_option maxRecDepth 100000 in
theorem xwt_951 : (.instanceMethod ({ cls := "ExtentShelfModel", name := "empty", desc := "(I)I" } : MethodName) : Cond) ∈ xp_BW := xw_t 951 rfl rfl
set_option maxRecDepth 100000 in
theorem xwt_952 : (.selects "ExtentShelfModel" ({ cls := "ExtentShelfModel", name := "empty", desc := "(I)I" } : MethodName) ({ cls := "ExtentShelfModel", name := "empty", desc := "(I)I" } : MethodName) : Cond) ∈ xp_BW := xw_t 952 rfl rfl
set_option maxRecDepth 100000 in
theorem xwt_953 : (.code ({ cls := "ExtentShelfModel", name := "empty", desc := "(I)I" } : MethodName) prog_6_method_43_code 2 (some .int) : Cond) ∈ xp_BW := xw_t 953 rfl rfl
set_option maxRecDepth 100000 in
theorem xwt_954 : (.methodLink "ExtentShelfLaw" 136 ({ cls := "ExtentShelfModel", name := "step", desc := "()I" } : MethodName) : Cond) ∈ xp_BW := xw_t 954 rfl rfl
set_option maxRecDepth 100000 in
theorem xwt_955 : (.instanceMethod ({ cls := "ExtentShelfModel", name := "step", desc := "()I" } : MethodName) : Cond) ∈ xp_BW := xw_t 955 rfl rfl
set_option maxRecDepth 100000 in
theorem xwt_956 : (.selects "ExtentShelfModel" ({ cls := "ExtentShelfModel", name := "step", desc := "()I" } : MethodName) ({ cls := "ExtentShelfModel", name := "step", desc := "()I" } : MethodName) : Cond) ∈ xp_BW := xw_t 956 rfl rfl
set_option maxRecDepth 100000 in
theorem xwt_957 : (.code ({ cls := "ExtentShelfModel", name := "step", desc := "()I" } : MethodName) prog_6_method_44_code 3 (some .int) : Cond) ∈ xp_BW := xw_t 957 rfl rfl
set_option maxRecDepth 100000 in
theorem xwt_958 : (.methodLink "ExtentShelfLaw" 140 ({ cls := "ExtentShelfModel", name := "moving", desc := "()I" } : MethodName) : Cond) ∈ xp_BW := xw_t 958 rfl rfl
set_option maxRecDepth 100000 in
theorem xwt_959 : (.instanceMethod ({ cls := "ExtentShelfModel", name := "moving", desc := "()I" } : MethodName) : Cond) ∈ xp_BW := xw_t 959 rfl rfl
set_option maxRecDepth 100000 in
theorem xwt_960 : (.selects "ExtentShelfModel" ({ cls := "ExtentShelfModel", name := "moving", desc := "()I" } : MethodName) ({ cls := "ExtentShelfModel", name := "moving", desc := "()I" } : MethodName) : Cond) ∈ xp_BW := xw_t 960 rfl rfl
set_option maxRecDepth 100000 in
theorem xwt_961 : (.code ({ cls := "ExtentShelfModel", name := "moving", desc := "()I" } : MethodName) prog_6_method_45_code 1 (some .int) : Cond) ∈ xp_BW := xw_t 961 rfl rfl
set_option maxRecDepth 100000 in
theorem xwt_962 : (.methodLink "ExtentShelfLaw" 143 ({ cls := "ExtentShelfModel", name := "volume", desc := "(II)I" } : MethodName) : Cond) ∈ xp_BW := xw_t 962 rfl rfl
set_option maxRecDepth 100000 in
theorem xwt_963 : (.instanceMethod ({ cls := "ExtentShelfModel", name := "volume", desc := "(II)I" } : MethodName) : Cond) ∈ xp_BW := xw_t 963 rfl rfl
set_option maxRecDepth 100000 in
theorem xwt_964 : (.selects "ExtentShelfModel" ({ cls := "ExtentShelfModel", name := "volume", desc := "(II)I" } : MethodName) ({ cls := "ExtentShelfModel", name := "volume", desc := "(II)I" } : MethodName) : Cond) ∈ xp_BW := xw_t 964 rfl rfl
set_option maxRecDepth 100000 in
theorem xwt_965 : (.code ({ cls := "ExtentShelfModel", name := "volume", desc := "(II)I" } : MethodName) prog_6_method_46_code 4 (some .int) : Cond) ∈ xp_BW := xw_t 965 rfl rfl
set_option maxRecDepth 100000 in
theorem xwt_966 : (.methodLink "ExtentShelfLaw" 146 ({ cls := "ExtentShelfModel", name := "where", desc := "(III)I" } : MethodName) : Cond) ∈ xp_BW := xw_t 966 rfl rfl
set_option maxRecDepth 100000 in
theorem xwt_967 : (.instanceMethod ({ cls := "ExtentShelfModel", name := "where", desc := "(III)I" } : MethodName) : Cond) ∈ xp_BW := xw_t 967 rfl rfl
set_option maxRecDepth 100000 in
theorem xwt_968 : (.selects "ExtentShelfModel" ({ cls := "ExtentShelfModel", name := "where", desc := "(III)I" } : MethodName) ({ cls := "ExtentShelfModel", name := "where", desc := "(III)I" } : MethodName) : Cond) ∈ xp_BW := xw_t 968 rfl rfl
set_option maxRecDepth 100000 in
theorem xwt_969 : (.code ({ cls := "ExtentShelfModel", name := "where", desc := "(III)I" } : MethodName) prog_6_method_47_code 4 (some .int) : Cond) ∈ xp_BW := xw_t 969 rfl rfl
set_option maxRecDepth 100000 in
theorem xwt_970 : (.methodLink "ExtentShelfLaw" 149 ({ cls := "ExtentShelfModel", name := "free", desc := "(I)I" } : MethodName) : Cond) ∈ xp_BW := xw_t 970 rfl rfl
set_option maxRecDepth 100000 in
theorem xwt_971 : (.instanceMethod ({ cls := "ExtentShelfModel", name := "free", desc := "(I)I" } : MethodName) : Cond) ∈ xp_BW := xw_t 971 rfl rfl
set_option maxRecDepth 100000 in
theorem xwt_972 : (.selects "ExtentShelfModel" ({ cls := "ExtentShelfModel", name := "free", desc := "(I)I" } : MethodName) ({ cls := "ExtentShelfModel", name := "free", desc := "(I)I" } : MethodName) : Cond) ∈ xp_BW := xw_t 972 rfl rfl
set_option maxRecDepth 100000 in
theorem xwt_973 : (.code ({ cls := "ExtentShelfModel", name := "free", desc := "(I)I" } : MethodName) prog_6_method_48_code 2 (some .int) : Cond) ∈ xp_BW := xw_t 973 rfl rfl
set_option maxRecDepth 100000 in
theorem xwt_974 : (.methodLink "ExtentShelfLaw" 167 ({ cls := "ExtentShelfModel", name := "number", desc := "()I" } : MethodName) : Cond) ∈ xp_BW := xw_t 974 rfl rfl
set_option maxRecDepth 100000 in
theorem xwt_975 : (.instanceMethod ({ cls := "ExtentShelfModel", name := "number", desc := "()I" } : MethodName) : Cond) ∈ xp_BW := xw_t 975 rfl rfl
set_option maxRecDepth 100000 in
theorem xwt_976 : (.selects "ExtentShelfModel" ({ cls := "ExtentShelfModel", name := "number", desc := "()I" } : MethodName) ({ cls := "ExtentShelfModel", name := "number", desc := "()I" } : MethodName) : Cond) ∈ xp_BW := xw_t 976 rfl rfl
set_option maxRecDepth 100000 in
theorem xwt_977 : (.code ({ cls := "ExtentShelfModel", name := "number", desc := "()I" } : MethodName) prog_6_method_49_code 1 (some .int) : Cond) ∈ xp_BW := xw_t 977 rfl rfl
set_option maxRecDepth 100000 in
theorem xwt_978 : (.methodLink "ExtentShelfLaw" 170 ({ cls := "ExtentShelfModel", name := "look", desc := "(III)I" } : MethodName) : Cond) ∈ xp_BW := xw_t 978 rfl rfl
set_option maxRecDepth 100000 in
theorem xwt_979 : (.instanceMethod ({ cls := "ExtentShelfModel", name := "look", desc := "(III)I" } : MethodName) : Cond) ∈ xp_BW := xw_t 979 rfl rfl
set_option maxRecDepth 100000 in
theorem xwt_980 : (.selects "ExtentShelfModel" ({ cls := "ExtentShelfModel", name := "look", desc := "(III)I" } : MethodName) ({ cls := "ExtentShelfModel", name := "look", desc := "(III)I" } : MethodName) : Cond) ∈ xp_BW := xw_t 980 rfl rfl
set_option maxRecDepth 100000 in
theorem xwt_981 : (.code ({ cls := "ExtentShelfModel", name := "look", desc := "(III)I" } : MethodName) prog_6_method_50_code 5 (some .int) : Cond) ∈ xp_BW := xw_t 981 rfl rfl
set_option maxRecDepth 100000 in
theorem xwt_982 : (.methodLink "ExtentShelfLaw" 152 ({ cls := "ExtentShelfModel", name := "cut", desc := "(I)V" } : MethodName) : Cond) ∈ xp_BW := xw_t 982 rfl rfl
set_option maxRecDepth 100000 in
theorem xwt_983 : (.instanceMethod ({ cls := "ExtentShelfModel", name := "cut", desc := "(I)V" } : MethodName) : Cond) ∈ xp_BW := xw_t 983 rfl rfl
set_option maxRecDepth 100000 in
theorem xwt_984 : (.selects "ExtentShelfModel" ({ cls := "ExtentShelfModel", name := "cut", desc := "(I)V" } : MethodName) ({ cls := "ExtentShelfModel", name := "cut", desc := "(I)V" } : MethodName) : Cond) ∈ xp_BW := xw_t 984 rfl rfl
set_option maxRecDepth 100000 in
theorem xwt_985 : (.code ({ cls := "ExtentShelfModel", name := "cut", desc := "(I)V" } : MethodName) prog_6_method_51_code 2 none : Cond) ∈ xp_BW := xw_t 985 rfl rfl
set_option maxRecDepth 100000 in
theorem xwt_986 : (.methodLink "ExtentShelfLaw" 156 ({ cls := "ExtentShelfModel", name := "off", desc := "()V" } : MethodName) : Cond) ∈ xp_BW := xw_t 986 rfl rfl
set_option maxRecDepth 100000 in
theorem xwt_987 : (.instanceMethod ({ cls := "ExtentShelfModel", name := "off", desc := "()V" } : MethodName) : Cond) ∈ xp_BW := xw_t 987 rfl rfl
set_option maxRecDepth 100000 in
theorem xwt_988 : (.selects "ExtentShelfModel" ({ cls := "ExtentShelfModel", name := "off", desc := "()V" } : MethodName) ({ cls := "ExtentShelfModel", name := "off", desc := "()V" } : MethodName) : Cond) ∈ xp_BW := xw_t 988 rfl rfl
set_option maxRecDepth 100000 in
theorem xwt_989 : (.code ({ cls := "ExtentShelfModel", name := "off", desc := "()V" } : MethodName) prog_6_method_52_code 1 none : Cond) ∈ xp_BW := xw_t 989 rfl rfl
set_option maxRecDepth 100000 in
theorem xwt_990 : (.methodLink "ExtentShelfLaw" 160 ({ cls := "ExtentShelfModel", name := "plug", desc := "(IZ)Z" } : MethodName) : Cond) ∈ xp_BW := xw_t 990 rfl rfl
set_option maxRecDepth 100000 in
theorem xwt_991 : (.instanceMethod ({ cls := "ExtentShelfModel", name := "plug", desc := "(IZ)Z" } : MethodName) : Cond) ∈ xp_BW := xw_t 991 rfl rfl
set_option maxRecDepth 100000 in
theorem xwt_992 : (.selects "ExtentShelfModel" ({ cls := "ExtentShelfModel", name := "plug", desc := "(IZ)Z" } : MethodName) ({ cls := "ExtentShelfModel", name := "plug", desc := "(IZ)Z" } : MethodName) : Cond) ∈ xp_BW := xw_t 992 rfl rfl
set_option maxRecDepth 100000 in
theorem xwt_993 : (.code ({ cls := "ExtentShelfModel", name := "plug", desc := "(IZ)Z" } : MethodName) prog_6_method_53_code 4 (some .boolean) : Cond) ∈ xp_BW := xw_t 993 rfl rfl
set_option maxRecDepth 100000 in
theorem xwt_994 : (.methodLink "ExtentShelfLaw" 163 ({ cls := "ExtentShelfModel", name := "start", desc := "()I" } : MethodName) : Cond) ∈ xp_BW := xw_t 994 rfl rfl
set_option maxRecDepth 100000 in
theorem xwt_995 : (.instanceMethod ({ cls := "ExtentShelfModel", name := "start", desc := "()I" } : MethodName) : Cond) ∈ xp_BW := xw_t 995 rfl rfl
set_option maxRecDepth 100000 in
theorem xwt_996 : (.selects "ExtentShelfModel" ({ cls := "ExtentShelfModel", name := "start", desc := "()I" } : MethodName) ({ cls := "ExtentShelfModel", name := "start", desc := "()I" } : MethodName) : Cond) ∈ xp_BW := xw_t 996 rfl rfl
set_option maxRecDepth 100000 in
theorem xwt_997 : (.code ({ cls := "ExtentShelfModel", name := "start", desc := "()I" } : MethodName) prog_6_method_54_code 5 (some .int) : Cond) ∈ xp_BW := xw_t 997 rfl rfl
end XkWords
