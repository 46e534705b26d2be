/-! 'throw new E("text")' where E's own constructor passes the text on by another entry of its pool than the library's law has it (NoSuchElementException: 13, not 7). The proof goes as that of JvmDerived/BundleOwnThrow.lean (ctorThrowS), with its first link free, and with nothing written before. -/
section XgThrow
def xg_tail (own : String) (ic : Nat) (X : String) : List Cond :=
  [.methodLink own ic (Bundle.initS X), .instantiable X 6, .castable X X, .selects X Bundle.tFill0 Bundle.tFill0, .selects X Bundle.tFill Bundle.tFill, .lays X Bundle.tN "cause" "Ljava/lang/Throwable;", .lays X Bundle.tN "stackTrace" Bundle.steD, .lays X Bundle.tN "suppressedExceptions" Bundle.listD, .lays X Bundle.tN "detailMessage" "Ljava/lang/String;",
   .fieldLink Bundle.tN 198 Bundle.tN "backtrace" "Ljava/lang/Object;", .lays Bundle.tN Bundle.tN "backtrace" "Ljava/lang/Object;", .lays X Bundle.tN "backtrace" "Ljava/lang/Object;"]
def xg_atoms (own : String) (ic : Nat) (X Y : String) (ip : Nat) (bytes : ByteArray) (names : List String) : List Cond :=
  (Bundle.throwableAtoms ++ Bundle.throwableSAtoms ++ Bundle.passSAtoms X Y ip bytes ++ Bundle.chainSAtoms Y names ++ xg_tail own ic X).filter vx_no
variable {p : Program} {l : Launch} {e : Env} {R : Room} {s : State} {m : MethodId} {args : Array Value} {below : List Frame} {meth : Method} {c : Code} {cells slots : Nat}
set_option maxHeartbeats 4000000 in
theorem xg_ctor {V : State} (X : Stand p l e R s m args below meth c V [] cells slots) (hexec : p.tables.exec = Jvm.exec) (htr : e.platform.stackTraces = false) {own cls Y : String} {names : List String} {ic ip : Nat} {bytes : ByteArray}
    (hown : s.vm.findClass own = some m.cls) (hcls : Bundle.fit cls = true) (hY : Bundle.fit Y = true) (hnames : ∀ n ∈ names, Bundle.fit n = true)
    (b0 : decode bytes 0 = .ok (.aload_n 0, 1)) (b1 : decode bytes 1 = .ok (.aload_n 1, 1)) (b2 : decode bytes 2 = .ok (.invokespecial ip, 3)) (b5 : decode bytes 5 = .ok (.return_, 1))
    (hT : ∀ q ∈ Bundle.throwableAtoms, q.before args s = true) (hTS : ∀ q ∈ Bundle.throwableSAtoms, q.before args s = true) (hPa : ∀ q ∈ Bundle.passSAtoms cls Y ip bytes, q.before args s = true) (hCh : ∀ q ∈ Bundle.chainSAtoms Y names, q.before args s = true) (hTl : ∀ q ∈ xg_tail own ic cls, q.before args s = true)
    (hUn : (Cond.isRef (.static Bundle.tN "UNASSIGNED_STACK" Bundle.steD)).before args s = true) (hSe : (Cond.isRef (.static Bundle.tN "SUPPRESSED_SENTINEL" Bundle.listD)).before args s = true)
    {a : Addr} {cX : ClassId} {kX : Class} (hfoundX : s.vm.findClass cls = some cX) (hkX : s.vm.classes[cX]? = some kX) (hcell : V.heap[a]? = some (freshCell cX kX)) (hnew : s.heap.size ≤ a) {msg : Value} (hmsg : msg.isRef = true)
    {g : JFrame} (hg : g.method = m) (hsize : g.locals.size = c.maxLocals) (hlocked : g.locked = none) (hentered : g.entered = []) {rest : List Value} (hstack : g.stack = msg :: .ref a :: .ref a :: rest)
    (hd6 : decode c.code g.pc = .ok (.invokespecial ic, 3)) (hd9 : decode c.code (g.pc + 3) = .ok (.athrow, 1)) (hout : ∀ x ∈ c.exceptionTable.toList, covers x (g.pc + 3) = false)
    (hRf : names.length + 4 < R.frames) (hRl : 2 * g.monitorRoom + ((Value.ref a :: rest).map fun v => v.category).sum + (13 * (names.length + 2) + 42) ≤ R.locals) (hlocks : meth.locks = false) :
    ∃ U : State, Steps p.tables e below (V.setTop g) U ∧ U.status = .running ∧ Ended U below (.threw a) ∧ s.WarmedH U.vm ∧ s.sameButNew ({ U with vm := s.vm } : State) [] cells slots ∧ ∃ ce : Cell, U.heap[a]? = some ce ∧ ce.vm = .none ∧ s.vm.findClass cls = some ce.cls := by
  have howns : e.platform.frameOwnsMonitors = true := by rw [X.admits.platform]
  have hfin : e.platform.finalization = false := by rw [X.admits.platform]
  have hpl : e.platform.magicAccessors = ({} : Platform).magicAccessors := by rw [X.admits.platform]
  have tl : ∀ q, q ∈ xg_tail own ic cls → q.holds args s none s [] = true := fun q hq => hTl q hq
  obtain ⟨T, Z0, L, -, K⟩ := ThrowableC.of_atoms (args := args) howns hfin hpl hT
  obtain ⟨Z, M, LZ, LM, hnZ⟩ := Init0T.ofS_atoms (args := args) hpl L K hTS
  obtain ⟨P2, Ps, hlen, L2, hL, hP2m, hlink2, hlink⟩ := Bundle.chainS (args := args) hpl hnZ names Y hY hnames hCh
  obtain ⟨P1, L1, hP1m, hP1s⟩ := PassC.ofS_atoms (args := args) hpl (X := cls) (Y := Y) (index := ip) (bytes := bytes) (Bundle.fit_spec hcls).1 (Bundle.fit_spec hY).2 b0 b1 b2 b5 hPa
  have hsup : P1.sup = P2.m := Option.some.inj (hP1s.symm.trans hP2m)
  have hfound : s.vm.findClass cls = some P1.m.cls := findClass_of_methodNamed hP1m
  cases Option.some.inj (hfoundX.symm.trans hfound)
  obtain ⟨c1, kX', hc1, hk, hord, -, -, hn6⟩ := Cond.instantiable_spec (tl (.instantiable cls 6) (by simp [xg_tail]))
  cases Option.some.inj (hc1.symm.trans hfound)
  cases Option.some.inj (hkX.symm.trans hk)
  have hsel0 : selectMethod e.platform s.vm P1.m.cls T.fill0 = .method T.fill0 := by
    obtain ⟨c2, r2, m2, q1, q2, q3, q4, -⟩ := Cond.selects_spec (tl (.selects cls Bundle.tFill0 Bundle.tFill0) (by simp [xg_tail]))
    cases Option.some.inj (q1.symm.trans hfound)
    cases Option.some.inj (q2.symm.trans (State.methodFound?_of_named K.fill0 (by decide)))
    cases Option.some.inj (q3.symm.trans K.fill0)
    rw [Launch.admits_selectMethod X.admits]; exact q4
  have hselF : selectMethod e.platform s.vm P1.m.cls T.fill = .method T.fill := by
    obtain ⟨c2, r2, m2, q1, q2, q3, q4, -⟩ := Cond.selects_spec (tl (.selects cls Bundle.tFill Bundle.tFill) (by simp [xg_tail]))
    cases Option.some.inj (q1.symm.trans hfound)
    cases Option.some.inj (q2.symm.trans (State.methodFound?_of_named K.fill (by decide)))
    cases Option.some.inj (q3.symm.trans K.fill)
    rw [Launch.admits_selectMethod X.admits]; exact q4
  obtain ⟨cellS0, hcS0, hiss⟩ := K.statics
  obtain ⟨u0, hu0⟩ := Cond.staticRefV K.unassigned L.unassignedStatic L.statics hcS0 hiss hUn
  obtain ⟨sen, hsen⟩ := Cond.staticRefV K.sentinel L.sentinelStatic L.statics hcS0 hiss hSe
  obtain ⟨ci198, i198, fB, hk198, hg198, ha198, hsB, -, hnB, htB, hffB⟩ := Cond.ownField (t := .object "java/lang/Object") K.found L.cls (by decide +kernel) (tl (.fieldLink Bundle.tN 198 Bundle.tN "backtrace" "Ljava/lang/Object;") (by simp [xg_tail])) (tl (.lays Bundle.tN Bundle.tN "backtrace" "Ljava/lang/Object;") (by simp [xg_tail])) e.platform hpl
  obtain ⟨cellS, hcS', heS, -, hkeep⟩ := X.same.2.2.2.2.2 T.aS cellS0 hcS0
  have hcellS : V.heap[T.aS]? = some cellS := hcS'
  have hknownS : cellS.vm ≠ .unknown := by
    rw [heS]; intro hu
    rw [show cellS0.vm = .unknown from hu] at hiss
    cases hiss
  have hneS : T.aS ≠ a := Nat.ne_of_lt (Nat.lt_of_lt_of_le (Array.getElem?_eq_some_iff.mp hcS0).1 hnew)
  obtain ⟨iM, hffM⟩ := K.msg
  obtain ⟨tyC, dC, hdC, hdnC⟩ := Cond.laysAt hfound hk K.cause (tl (.lays cls Bundle.tN "cause" "Ljava/lang/Throwable;") (by simp [xg_tail]))
  obtain ⟨tyS, dS, hdS, hdnS⟩ := Cond.laysAt hfound hk K.stack (tl (.lays cls Bundle.tN "stackTrace" Bundle.steD) (by simp [xg_tail]))
  obtain ⟨tyP, dP, hdP, hdnP⟩ := Cond.laysAt hfound hk K.supp (tl (.lays cls Bundle.tN "suppressedExceptions" Bundle.listD) (by simp [xg_tail]))
  obtain ⟨tyM, dM, hdM, hdnM⟩ := Cond.laysAt hfound hk hffM (tl (.lays cls Bundle.tN "detailMessage" "Ljava/lang/String;") (by simp [xg_tail]))
  obtain ⟨tyB, dB, hdB, hdnB⟩ := Cond.laysAt hfound hk hffB (tl (.lays cls Bundle.tN "backtrace" "Ljava/lang/Object;") (by simp [xg_tail]))
  have bC := Cond.laysApart hdB hdC hdnB hdnC (by rw [hnB, K.causeName]; decide)
  have bS := Cond.laysApart hdB hdS hdnB hdnS (by rw [hnB, K.stackName]; decide)
  have bP := Cond.laysApart hdB hdP hdnB hdnP (by rw [hnB, K.suppName]; decide)
  have hskip : SkipFacts T e.platform s (fun u => u) u0 ((preparedCellV T.toThrowableT (freshCell P1.m.cls kX) a u0 sen).withEntry V.cur) :=
    ⟨{ ci198 := ci198, i198 := i198, fBack := fB }, ⟨hk198, hg198, ha198, hsB⟩, by
      have h9 := fresh_default (c := P1.m.cls) tyB
      rw [htB] at h9
      simpa [preparedCellV, Cell.setSlot, Cell.withEntry, Array.getElem?_setIfInBounds, bC, bS, bP, bC.symm, bS.symm, bP.symm, defaultValue] using h9, fun _ _ => rfl⟩
  obtain ⟨tm, methC, cdC, kC, vm₁, hnC, -, -, -, -, -, -, -, hW₁, st1⟩ := Steps.initColdS (tb := p.tables) (e := e) (below := below) (s := s) (U := V) X.here hexec X.warmed hpl hown (t := Bundle.initS cls) rfl rfl (Bundle.fit_spec hcls).2
    (tl (.methodLink own ic (Bundle.initS cls)) (by simp [xg_tail])) (hPa (.instanceMethod (Bundle.initS cls)) (by simp [Bundle.passSAtoms])) (bytes := bytes) (maxL := 2) (hPa (.code (Bundle.initS cls) bytes 2 none) (by simp [Bundle.passSAtoms]))
    (f := g) hg (a := a) (msg := msg) (rest := .ref a :: rest) hstack hd6
  cases Option.some.inj (hnC.symm.trans hP1m)
  have X₁ := X.noted hW₁
  obtain ⟨vm₂, X₂, st2⟩ := X₁.ctorMessageOffV hexec (g := { g with stack := .ref a :: rest }) hg hsize T L Z LZ M LM (P1 :: P2 :: Ps)
    (fun P hP => by
      rcases List.mem_cons.mp hP with rfl | hP
      · exact L1
      · rcases List.mem_cons.mp hP with rfl | hP
        · exact L2
        · exact hL P hP) ⟨hsup, hlink2, hlink⟩ (u0 := u0) (sen := sen) (self := a) hmsg (cell := freshCell P1.m.cls kX) (cellS := cellS)
    hcell (fun _ => by simp) (by simp) rfl rfl hsel0 hselF hcellS hneS hknownS (by rw [hkeep _ (by simp)]; exact hu0) (by rw [hkeep _ (by simp)]; exact hsen)
    (Takes.of_laid hk hord tyC (by rw [K.causeType]; rfl)) (Takes.of_laid hk hord tyS (by rw [K.stackType]; exact fits_refV_array _ u0)) (Takes.of_laid hk hord tyP (by rw [K.suppType]; exact fits_refV_object _ sen))
    (Takes.of_laid hk hord tyM (by rw [K.msgType]; exact fits_refV_object _ ⟨msg, hmsg⟩)) K.objLocals hskip htr [] hd6
    (by simp only [List.length_cons, hlen]; omega) (by simp only [List.length_cons, hlen]; exact hRl)
  obtain ⟨hwalk, hrun, hended, hWU, hsame⟩ := X₂.athrowLeaves hexec (g := { g with stack := .ref a :: rest, pc := g.pc + 3 }) hg hlocked hentered hout (a := a) (rest := rest) rfl hd9 hlocks
  have hlt : a < ((V.setVm vm₁).setVm vm₂).heap.size := (Array.getElem?_eq_some_iff.mp hcell).1
  have hU := heapAt_setCell_self (s := (V.setVm vm₁).setVm vm₂) (plainBareV T.toThrowableT (freshCell P1.m.cls kX) a u0 sen msg) hlt
  refine ⟨_, st1 _ (fun acts => ?_), hrun, hended, hWU, hsame.weaken (fun y hy hlt' => ?_) (Nat.le_refl _) (Nat.le_refl _), _, hU, rfl, hfound⟩
  · rw [doInvoke_state]
    exact st2 _ hwalk
  · exfalso
    have hb : y.base = a := by
      simp only [List.nil_append, List.mem_cons, List.not_mem_nil, or_false] at hy
      rcases hy with rfl | rfl | rfl | rfl | rfl <;> rfl
    rw [hb] at hlt'
    exact Nat.not_lt.mpr hnew hlt'
/-- the words of such a throw, before the four that speak of the heap are taken away -/
def xg_all (own : String) (ic : Nat) (X Y : String) (ip : Nat) (bytes : ByteArray) (names : List String) : List Cond := Bundle.throwableAtoms ++ Bundle.throwableSAtoms ++ Bundle.passSAtoms X Y ip bytes ++ Bundle.chainSAtoms Y names ++ xg_tail own ic X
set_option maxHeartbeats 4000000 in
theorem xg_throwS {cc : ByteArray} {pc : Nat} {H : Heap} {locs : List Loc} {ls : Array Slot} (hexec : p.tables.exec = Jvm.exec) (hb : c.code = cc) (hl : l.stackTraces = false) {own cls Y text : String} {names : List String} {ik is ic ip sa : Nat} {bytes : ByteArray} {A : Nat → Prop}
    (hown : s.vm.findClass own = some m.cls) (hcls : Bundle.fit cls = true) (hY : Bundle.fit Y = true) (hnames : ∀ n ∈ names, Bundle.fit n = true)
    (b0 : decode bytes 0 = .ok (.aload_n 0, 1)) (b1 : decode bytes 1 = .ok (.aload_n 1, 1)) (b2 : decode bytes 2 = .ok (.invokespecial ip, 3)) (b5 : decode bytes 5 = .ok (.return_, 1))
    (hk : (Cond.classLink own ik cls).before args s = true) (hini : (Cond.initialized cls).before args s = true) (hstr : vk_R own is text sa s) (hat : ∀ w ∈ xg_atoms own ic cls Y ip bytes names, w.before args s = true)
    (hgood : ∀ w ∈ Cond.classLink own ik cls :: Cond.initialized cls :: xg_atoms own ic cls Y ip bytes names, vx_ot w = true)
    (hU : vx_Zq Bundle.tN "UNASSIGNED_STACK" Bundle.steD A s s.heap) (hN : vx_Zq Bundle.tN "SUPPRESSED_SENTINEL" Bundle.listD A s s.heap) (hS : va_S A s.heap H locs) (hsize : ls.size = c.maxLocals)
    (d0 : decode cc pc = .ok (.new ik, 3)) (d3 : decode cc (pc + 3) = .ok (.dup, 1)) (d4 : decode cc (pc + 4) = .ok (.ldc is, 2)) (d6 : decode cc (pc + 6) = .ok (.invokespecial ic, 3)) (d9 : decode cc (pc + 9) = .ok (.athrow, 1))
    (hout : ∀ x ∈ c.exceptionTable.toList, covers x (pc + 9) = false) (hRf : names.length + 4 < R.frames) (hRl : 13 * (names.length + 2) + 43 ≤ R.locals) (hRcells : cells + 1 ≤ R.cells) (hRslots : slots + 6 ≤ R.slots) (hlocks : meth.locks = false) :
    W p l e R s m args below meth c H locs cells slots (fun U => ∃ (a : Nat) (ce : Cell), U.status = .running ∧ Ended U below (.threw a) ∧ s.WarmedH U.vm ∧ s.sameButNew ({ U with vm := s.vm } : State) locs (cells + 1) (slots + 6) ∧ H.size ≤ U.heap.size ∧ (∀ q : Nat, q < H.size → U.heap[q]? = H[q]?) ∧ U.heap[a]? = some ce ∧ ce.vm = .none ∧ s.vm.findClass cls = some ce.cls) (F0 m pc ls []) := by
  intro T hT X
  have htr : e.platform.stackTraces = false := (show e.platform.stackTraces = l.stackTraces by rw [X.admits.platform]).trans hl
  have Z := vx_rebase X (R' := { frames := R.frames, locals := R.locals, cells := 1, slots := 6 }) (Nat.le_refl _) (Nat.le_refl _) hRcells hRslots
  generalize hA : (T.setVm s.vm).setFrames (.invoking m args :: below) = s' at Z
  have hvm : s'.vm = s.vm := by rw [← hA]; rfl
  have hhp : s'.heap = H := by rw [← hA]; exact hT
  have hW0 : s.WarmedH s'.vm := by rw [hvm]; exact State.WarmedH.refl s
  have at1 : ∀ w ∈ xg_atoms own ic cls Y ip bytes names, w.before args s' = true := fun w hw => vx_ot_at hW0 hvm.symm (hgood w (List.mem_cons_of_mem _ (List.mem_cons_of_mem _ hw))) (hat w hw)
  have hk' : (Cond.classLink own ik cls).before args s' = true := vx_ot_at hW0 hvm.symm (hgood _ List.mem_cons_self) hk
  have hini' : (Cond.initialized cls).before args s' = true := vx_ot_at hW0 hvm.symm (hgood _ (List.mem_cons_of_mem _ List.mem_cons_self)) hini
  have hU' : vx_Zq Bundle.tN "UNASSIGNED_STACK" Bundle.steD A s' s'.heap := by rw [hhp]; exact vx_Zq.moved hW0.alike (hU.kept hS.2.1)
  have hN' : vx_Zq Bundle.tN "SUPPRESSED_SENTINEL" Bundle.listD A s' s'.heap := by rw [hhp]; exact vx_Zq.moved hW0.alike (hN.kept hS.2.1)
  have full : ∀ w ∈ xg_all own ic cls Y ip bytes names, w.before args s' = true := vx_own at1 (vx_isRefq hU'.1) (vx_isRefq hN'.1) hU'.2.word hN'.2.word
  have hown' : s'.vm.findClass own = some m.cls := by rw [hvm]; exact hown
  have hstr' : vk_R own is text sa s' := vk_R.warm hW0 hstr
  have hins : (Cond.instantiable cls 6).before args s' = true := full _ (by simp [xg_all, xg_tail])
  have key : W p l e { frames := R.frames, locals := R.locals, cells := 1, slots := 6 } s' m args below meth c T.heap [] 0 0
      (fun U => U.status = .running ∧ Ended U below (.threw T.heap.size) ∧ s'.WarmedH U.vm ∧ s'.sameButNew ({ U with vm := s'.vm } : State) [] 1 6 ∧ ∃ ce : Cell, U.heap[T.heap.size]? = some ce ∧ ce.vm = .none ∧ s'.vm.findClass cls = some ce.cls) (F0 m pc ls []) := by
    refine W.newc hexec hb hown' hk' hins hini' (g := F0 m pc ls []) rfl d0 (Nat.le_refl _) (Nat.le_refl _) (fun cX kX hfX hkX hkd hsz => ?_)
    refine lv_dup hexec hb d3 rfl ?_
    refine va_ldcS hexec hb hown' hstr' d4 ?_
    intro T2 hT2 X2
    obtain ⟨U, st1, u1, u2, u3, u4, ce, u5, u6, u7⟩ := xg_ctor X2 hexec htr hown' hcls hY hnames b0 b1 b2 b5 (fun q hq => full q (by simp [xg_all, hq])) (fun q hq => full q (by simp [xg_all, hq])) (fun q hq => full q (by simp [xg_all, hq])) (fun q hq => full q (by simp [xg_all, hq])) (fun q hq => full q (by simp [xg_all, hq]))
      (vx_isRefq hU'.1) (vx_isRefq hN'.1) (ic := ic) (a := T.heap.size) hfX hkX (by rw [hT2]; simp [freshCell]) (by rw [hhp, hT]; exact Nat.le_refl _) (msg := .ref sa) rfl
      (g := F0 m (pc + 3 + 1 + 2) ls [.ref sa, .ref T.heap.size, .ref T.heap.size]) rfl hsize rfl rfl rfl (by rw [hb]; exact d6) (by rw [hb]; exact d9) hout
      (by show names.length + 4 < R.frames; exact hRf) (by show 2 * 0 + (1 + 0) + _ ≤ R.locals; omega) hlocks
    exact ⟨U, st1, u1, u2, u3, u4, ce, u5, u6, u7⟩
  obtain ⟨U, st1, u1, u2, u3, u4, ce, u5, u6, u7⟩ := key T rfl Z
  obtain ⟨f1, f2⟩ := vx_frame u4
  rw [hhp] at f1 f2
  have hall : s.sameButNew ({ U with vm := s.vm } : State) locs (cells + 1) (slots + 6) := by
    subst hA
    obtain ⟨e1, e2⟩ := u4
    rw [State.setFrames_setFrames] at e1
    have h2 : (T.setVm s.vm).sameButNew ({ U with vm := s.vm } : State) [] 1 6 := ⟨e1, e2⟩
    have h3 := X.same.trans h2
    rw [List.append_nil] at h3
    exact h3
  refine ⟨U, st1, T.heap.size, ce, u1, u2, State.WarmedH.trans hW0 u3, hall, f1, fun q hq => f2 q hq (fun z hz => nomatch hz), u5, u6, ?_⟩
  rw [← hvm]
  exact u7
end XgThrow
