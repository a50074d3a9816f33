section EVN
def ea_nse : String := "java/util/NoSuchElementException"
def ea_rte : String := "java/lang/RuntimeException"
def ea_nP : List Cond := Jvm.Bundle.throwableAtoms ++ (Jvm.Bundle.throwableSAtoms ++ (Jvm.Bundle.passSAtoms ea_nse ea_rte 13 prog_34_method_4_code ++ Jvm.Bundle.chainSAtoms ea_rte ["java/lang/Exception"]))
def ea_nQ : List Cond := ea_tQ ea_nse
def ea_nW (own : String) (ic : Nat) : List Cond := ea_nP ++ (Cond.methodLink own ic (Jvm.Bundle.initS ea_nse) :: ea_nQ)
theorem ea_n0d : decode prog_34_method_4_code 0 = .ok (.aload_n 0, 1) := by decide +kernel
theorem ea_n1d : decode prog_34_method_4_code 1 = .ok (.aload_n 1, 1) := by decide +kernel
theorem ea_n2d : decode prog_34_method_4_code 2 = .ok (.invokespecial 13, 3) := by decide +kernel
theorem ea_n5d : decode prog_34_method_4_code 5 = .ok (.return_, 1) := by decide +kernel
variable {p : Program} {l : Launch} {e : Env} {R : Room} {s : State} {m₀ : MethodId} {args : Array Value} {below : List Frame} {meth : Method} {c : Code} {T W : State} {locs : List Loc} {cells slots : Nat}
set_option maxHeartbeats 2000000 in
/-- what Stand.ctorThrowS says, of a class whose constructor hands on by another entry of its pool (follows its proof) -/
theorem ea_ctorN (X : Stand p l e R s m₀ args below meth c W locs cells slots) (hexec : p.tables.exec = Jvm.exec) (htr : e.platform.stackTraces = false) {own : String} {ic : Nat}
    (hown : s.vm.findClass own = some m₀.cls) (h : ∀ a ∈ ea_nW own ic, a.before args s = true)
    (hlocs : ∀ x ∈ locs, ∀ cell, s.heap[x.base]? = some cell → cell.vm.isStatics = false)
    {a : Addr} {cX : ClassId} {kX : Class} (hfoundX : s.vm.findClass ea_nse = some cX) (hkX : s.vm.classes[cX]? = some kX) (hcell : W.heap[a]? = some (freshCell cX kX)) (hnew : s.heap.size ≤ a)
    {msg : Value} (hmsg : msg.isRef = true)
    {g : JFrame} (hg : g.method = m₀) (hsize : g.locals.size = c.maxLocals) (hlocked : g.locked = none) (hentered : g.entered = []) {rest : List Value} (hstack : g.stack = msg :: .ref a :: .ref a :: rest)
    (hd6 : decode c.code g.pc = .ok (.invokespecial ic, 3)) (hd9 : decode c.code (g.pc + 3) = .ok (.athrow, 1)) (hout : ∀ x ∈ c.exceptionTable.toList, covers x (g.pc + 3) = false)
    (hRframes : 5 < R.frames) (hRlocals : 2 * g.monitorRoom + ((Value.ref a :: rest).map fun v => v.category).sum + 81 ≤ R.locals) (hlocks : meth.locks = false) :
    ∃ U : State, Steps p.tables e below (W.setTop g) U ∧ U.status = .running ∧ Ended U below (.threw a) ∧ s.WarmedH U.vm ∧ s.sameButNew ({ U with vm := s.vm } : State) locs cells slots ∧
      ∃ ce, U.heap[a]? = some ce ∧ ce.vm = .none ∧ s.vm.findClass ea_nse = some ce.cls := by
  have howns : e.platform.frameOwnsMonitors = true := by rw [X.admits.platform]
  have hfin : e.platform.finalization = false := by rw [X.admits.platform]
  have hpl : e.platform.magicAccessors = ({} : Platform).magicAccessors := by rw [X.admits.platform]
  have hPin : ∀ x ∈ ea_nP, x.before args s = true := fun x hx => h x (List.mem_append_left _ hx)
  have hQin : ∀ x ∈ ea_nQ, x.holds args s none s [] = true := fun x hx => h x (List.mem_append_right _ (List.mem_cons_of_mem _ hx))
  have hml : (Cond.methodLink own ic (Jvm.Bundle.initS ea_nse)).before args s = true := h _ (List.mem_append_right _ List.mem_cons_self)
  obtain ⟨T, Z0, L, -, Y⟩ := ThrowableC.of_atoms (args := args) howns hfin hpl (fun x hx => hPin x (List.mem_append_left _ hx))
  obtain ⟨Z, M, LZ, LM, hnZ⟩ := Init0T.ofS_atoms (args := args) hpl L Y (fun x hx => hPin x (List.mem_append_right _ (List.mem_append_left _ hx)))
  obtain ⟨P1, L1, hP1m, hP1s⟩ := PassC.ofS_atoms (args := args) (s := s) hpl (X := ea_nse) (Y := ea_rte) (by decide +kernel) (by decide +kernel) ea_n0d ea_n1d ea_n2d ea_n5d (fun x hx => hPin x (List.mem_append_right _ (List.mem_append_right _ (List.mem_append_left _ hx))))
  obtain ⟨P2, Ps, hlen, L2, hL, hP2m, hlink2, hlink⟩ := Jvm.Bundle.chainS (args := args) hpl hnZ ["java/lang/Exception"] ea_rte (by decide +kernel) (by decide +kernel) (fun x hx => hPin x (List.mem_append_right _ (List.mem_append_right _ (List.mem_append_right _ hx))))
  have hlink1 : P1.sup = P2.m := Option.some.inj (hP1s.symm.trans hP2m)
  have hfound : s.vm.findClass ea_nse = some P1.m.cls := findClass_of_methodNamed hP1m
  cases Option.some.inj (hfoundX.symm.trans hfound)
  obtain ⟨c1, kX', hc1, hk, hord, -, -, hn6⟩ := Cond.instantiable_spec (hQin (.instantiable ea_nse 6) (by decide +kernel))
  cases Option.some.inj (hc1.symm.trans hfound)
  cases Option.some.inj (hkX.symm.trans hk)
  have hsel0 : selectMethod e.platform s.vm P1.m.cls T.fill0 = .method T.fill0 := by
    obtain ⟨c2, r2, m2, q1, q2, q3, q4, -⟩ := Cond.selects_spec (hQin (.selects ea_nse Jvm.Bundle.tFill0 Jvm.Bundle.tFill0) (by decide +kernel))
    cases Option.some.inj (q1.symm.trans hfound)
    cases Option.some.inj (q2.symm.trans (State.methodFound?_of_named Y.fill0 (by decide)))
    cases Option.some.inj (q3.symm.trans Y.fill0)
    rw [Launch.admits_selectMethod X.admits]; exact q4
  have hselF : selectMethod e.platform s.vm P1.m.cls T.fill = .method T.fill := by
    obtain ⟨c2, r2, m2, q1, q2, q3, q4, -⟩ := Cond.selects_spec (hQin (.selects ea_nse Jvm.Bundle.tFill Jvm.Bundle.tFill) (by decide +kernel))
    cases Option.some.inj (q1.symm.trans hfound)
    cases Option.some.inj (q2.symm.trans (State.methodFound?_of_named Y.fill (by decide)))
    cases Option.some.inj (q3.symm.trans Y.fill)
    rw [Launch.admits_selectMethod X.admits]; exact q4
  obtain ⟨cellS0, hcS0, hiss⟩ := Y.statics
  obtain ⟨u0, hu0⟩ := Cond.staticRefV Y.unassigned L.unassignedStatic L.statics hcS0 hiss (hQin (.isRef (.static Jvm.Bundle.tN "UNASSIGNED_STACK" Jvm.Bundle.steD)) (by decide +kernel))
  obtain ⟨sen, hsen⟩ := Cond.staticRefV Y.sentinel L.sentinelStatic L.statics hcS0 hiss (hQin (.isRef (.static Jvm.Bundle.tN "SUPPRESSED_SENTINEL" Jvm.Bundle.listD)) (by decide +kernel))
  obtain ⟨ci198, i198, fB, hk198, hg198, ha198, hsB, -, hnB, htB, hffB⟩ := Cond.ownField (t := .object "java/lang/Object") Y.found L.cls (by decide +kernel) (hQin (.fieldLink Jvm.Bundle.tN 198 Jvm.Bundle.tN "backtrace" "Ljava/lang/Object;") (by decide +kernel)) (hQin (.lays Jvm.Bundle.tN Jvm.Bundle.tN "backtrace" "Ljava/lang/Object;") (by decide +kernel)) e.platform hpl
  obtain ⟨cellS, hcS', heS, -, hkeep⟩ := X.same.2.2.2.2.2 T.aS cellS0 hcS0
  have hcellS : W.heap[T.aS]? = some cellS := hcS'
  have hout' : ∀ i, (⟨T.aS, i⟩ : Loc) ∉ locs := fun i hmem => by
    have := hlocs _ hmem cellS0 hcS0
    rw [hiss] at this; cases this
  have hknownS : cellS.vm ≠ .unknown := by
    rw [heS]; intro hu
    rw [show cellS0.vm = .unknown from hu] at hiss
    cases hiss
  have hneS : T.aS ≠ a := Nat.ne_of_lt (Nat.lt_of_lt_of_le (Array.getElem?_eq_some_iff.mp hcS0).1 hnew)
  obtain ⟨iM, hffM⟩ := Y.msg
  obtain ⟨tyC, dC, hdC, hdnC⟩ := Cond.laysAt hfound hk Y.cause (hQin (.lays ea_nse Jvm.Bundle.tN "cause" "Ljava/lang/Throwable;") (by decide +kernel))
  obtain ⟨tyS, dS, hdS, hdnS⟩ := Cond.laysAt hfound hk Y.stack (hQin (.lays ea_nse Jvm.Bundle.tN "stackTrace" Jvm.Bundle.steD) (by decide +kernel))
  obtain ⟨tyP, dP, hdP, hdnP⟩ := Cond.laysAt hfound hk Y.supp (hQin (.lays ea_nse Jvm.Bundle.tN "suppressedExceptions" Jvm.Bundle.listD) (by decide +kernel))
  obtain ⟨tyM, dM, hdM, hdnM⟩ := Cond.laysAt hfound hk hffM (hQin (.lays ea_nse Jvm.Bundle.tN "detailMessage" "Ljava/lang/String;") (by decide +kernel))
  obtain ⟨tyB, dB, hdB, hdnB⟩ := Cond.laysAt hfound hk hffB (hQin (.lays ea_nse Jvm.Bundle.tN "backtrace" "Ljava/lang/Object;") (by decide +kernel))
  have bC := Cond.laysApart hdB hdC hdnB hdnC (by rw [hnB, Y.causeName]; decide)
  have bS := Cond.laysApart hdB hdS hdnB hdnS (by rw [hnB, Y.stackName]; decide)
  have bP := Cond.laysApart hdB hdP hdnB hdnP (by rw [hnB, Y.suppName]; decide)
  have hskip : SkipFacts T e.platform s (fun u => u) u0 ((preparedCellV T.toThrowableT (freshCell P1.m.cls kX) a u0 sen).withEntry W.cur) :=
    ⟨{ ci198 := ci198, i198 := i198, fBack := fB }, ⟨hk198, hg198, ha198, hsB⟩, by
      have := fresh_default (c := P1.m.cls) tyB
      rw [htB] at this
      simpa [preparedCellV, Cell.setSlot, Cell.withEntry, Array.getElem?_setIfInBounds, bC, bS, bP, bC.symm, bS.symm, bP.symm, defaultValue] using this, fun _ _ => rfl⟩
  obtain ⟨tm, methC, cdC, kC, vm₁, hnC, -, -, -, -, -, -, -, hW₁, st1⟩ := Steps.initColdS (tb := p.tables) (e := e) (below := below) (s := s) (U := W) X.here hexec X.warmed hpl hown (t := Jvm.Bundle.initS ea_nse) rfl rfl (by decide +kernel)
    hml (hPin (.instanceMethod (Jvm.Bundle.initS ea_nse)) (by decide +kernel)) (bytes := prog_34_method_4_code) (maxL := 2) (hPin (.code (Jvm.Bundle.initS ea_nse) prog_34_method_4_code 2 none) (by decide +kernel))
    (f := g) hg (a := a) (msg := msg) (rest := .ref a :: rest) hstack hd6
  cases Option.some.inj (hnC.symm.trans hP1m)
  have X₁ := X.noted hW₁
  obtain ⟨vm₂, X₂, st2⟩ := X₁.ctorMessageOffV hexec (g := { g with stack := .ref a :: rest }) hg hsize T L Z LZ M LM (P1 :: P2 :: Ps)
    (fun P hP => by rcases List.mem_cons.mp hP with rfl | hP; exact L1; rcases List.mem_cons.mp hP with rfl | hP; exact L2; exact hL P hP) ⟨hlink1, hlink2, hlink⟩ (u0 := u0) (sen := sen) (self := a) hmsg (cell := freshCell P1.m.cls kX) (cellS := cellS)
    hcell (fun _ => by simp) (by simp) rfl rfl hsel0 hselF hcellS hneS hknownS (by rw [hkeep _ (hout' _)]; exact hu0) (by rw [hkeep _ (hout' _)]; exact hsen)
    (Takes.of_laid hk hord tyC (by rw [Y.causeType]; rfl)) (Takes.of_laid hk hord tyS (by rw [Y.stackType]; exact fits_refV_array _ u0)) (Takes.of_laid hk hord tyP (by rw [Y.suppType]; exact fits_refV_object _ sen))
    (Takes.of_laid hk hord tyM (by rw [Y.msgType]; exact fits_refV_object _ ⟨msg, hmsg⟩)) Y.objLocals hskip htr [] hd6
    (by simp only [List.length_cons, hlen]; show _ < _; simp; omega) (by simp only [List.length_cons, hlen]; simp at hRlocals ⊢; omega)
  obtain ⟨hwalk, hrun, hended, hWU, hsame⟩ := X₂.athrowLeaves hexec (g := { g with stack := .ref a :: rest, pc := g.pc + 3 }) hg hlocked hentered hout (a := a) (rest := rest) rfl hd9 hlocks
  have hlt : a < ((W.setVm vm₁).setVm vm₂).heap.size := (Array.getElem?_eq_some_iff.mp hcell).1
  have hU := heapAt_setCell_self (s := (W.setVm vm₁).setVm vm₂) (plainBareV T.toThrowableT (freshCell P1.m.cls kX) a u0 sen msg) hlt
  refine ⟨_, st1 _ (fun acts => ?_), hrun, hended, hWU, hsame.weaken (fun y hy hlt' => ?_) (Nat.le_refl _) (Nat.le_refl _), _, hU, rfl, hfound⟩
  · rw [doInvoke_state]
    exact st2 _ hwalk
  · rcases List.mem_append.mp hy with h1 | h1
    · exact h1
    · exfalso
      have hb : y.base = a := by
        simp only [List.mem_cons, List.not_mem_nil, or_false] at h1
        rcases h1 with rfl | rfl | rfl | rfl | rfl <;> rfl
      rw [hb] at hlt'
      exact Nat.not_lt.mpr hnew hlt'
end EVN

section EVN2
variable {p : Program} {l : Launch} {e : Env} {R : Room} {s : State} {m : MethodId} {args : Array Value} {below : List Frame} {meth : Method} {c : Code} {H : Heap} {locs : List Loc} {cells slots : Nat} {Q : State → Prop}
variable {mc ms : Nat} {free : Addr → Prop} {ls : Array Slot} {rest : List Value}
variable {Qc : Array Value → State → Outcome → State → Prop} {XC : String → State → State → Prop}
def ea_heapW (w : Cond) : Bool := !(vx_no w)
theorem ea_nW_ok : ∀ w ∈ ea_nP ++ ea_nQ, vx_no w = true → (w ∈ lw_tbl ∧ ea_gw w = true ∧ w.onTables = true) := by decide +kernel
theorem ea_nW_no : ∀ w ∈ ea_nP ++ ea_nQ, vx_no w = false → (w = .isRef (.static Jvm.Bundle.tN "UNASSIGNED_STACK" Jvm.Bundle.steD) ∨ w = .isRef (.static Jvm.Bundle.tN "SUPPRESSED_SENTINEL" Jvm.Bundle.listD) ∨ w = .laysStatic Jvm.Bundle.tN "UNASSIGNED_STACK" Jvm.Bundle.steD ∨ w = .laysStatic Jvm.Bundle.tN "SUPPRESSED_SENTINEL" Jvm.Bundle.listD) := by decide +kernel
set_option maxHeartbeats 2000000 in
/-- 'throw new NoSuchElementException("text")': pc6 is where the constructor is called, wide says which ldc it is -/
theorem ea_throwN {cc : ByteArray} {pc pc6 : Nat} (hexec : p.tables.exec = Jvm.exec) (hb : c.code = cc) (hl : l.stackTraces = false) {own text : String} {ik is ic sa : Nat} {A : Nat → Prop}
    (hown : s.vm.findClass own = some m.cls)
    (hwords : ∀ w ∈ lw_tbl, ea_gw w = true → ∀ a : Array Value, w.before a s = true) (hk : Cond.classLink own ik ea_nse ∈ lw_tbl) (hini : Cond.initialized ea_nse ∈ lw_tbl) (hstr : vk_R own is text sa s) (hml : Cond.methodLink own ic (Jvm.Bundle.initS ea_nse) ∈ lw_tbl)
    (hU : vx_Zq Jvm.Bundle.tN "UNASSIGNED_STACK" Jvm.Bundle.steD A s s.heap) (hN : vx_Zq Jvm.Bundle.tN "SUPPRESSED_SENTINEL" Jvm.Bundle.listD A s s.heap) (hS : va_S A s.heap H locs) (hsize : ls.size = c.maxLocals)
    (d0 : decode cc pc = .ok (.new ik, 3)) (d3 : decode cc (pc + 3) = .ok (.dup, 1)) (d4 : (decode cc (pc + 4) = .ok (.ldc is, 2) ∧ pc6 = pc + 6) ∨ (decode cc (pc + 4) = .ok (.ldc_w is, 3) ∧ pc6 = pc + 7)) (d6 : decode cc pc6 = .ok (.invokespecial ic, 3)) (d9 : decode cc (pc6 + 3) = .ok (.athrow, 1))
    (hout : ∀ x ∈ c.exceptionTable.toList, covers x (pc6 + 3) = false)
    (hRframes : 5 < R.frames) (hRlocals : (rest.map fun v => v.category).sum + 82 ≤ R.locals) (hRcells : cells + 1 ≤ R.cells) (hRslots : slots + 6 ≤ R.slots) (hlocks : meth.locks = false)
    (hx : ∀ t : State, s.vm.Alike t.vm → H.size ≤ t.heap.size → (∀ q : Nat, q < H.size → t.heap[q]? = H[q]?) → XC ea_nse s t)
    (hf : ∀ z ∈ locs, free z.base) (hc : cells + 1 ≤ mc) (hs : slots + 6 ≤ ms) :
    W p l e R s m args below meth c H locs cells slots (vx_MQ below Qc XC args s mc ms free) (F0 m pc ls rest) := by
  intro T hT X
  have htr : e.platform.stackTraces = false := (show e.platform.stackTraces = l.stackTraces by rw [X.admits.platform]).trans hl
  have Y := vx_rebase X (R' := { frames := R.frames, locals := R.locals, cells := 1, slots := 6 }) (Nat.le_refl _) (Nat.le_refl _) hRcells hRslots
  obtain ⟨s', hA⟩ : ∃ z, z = (T.setVm s.vm).setFrames (.invoking m args :: below) := ⟨_, rfl⟩
  rw [← hA] at Y
  have hvm : s'.vm = s.vm := by rw [hA]; rfl
  have hhp : s'.heap = H := by rw [hA]; exact hT
  have hW0 : s.WarmedH s'.vm := by rw [hvm]; exact State.WarmedH.refl s
  have hwords' : ∀ w ∈ lw_tbl, ea_gw w = true → w.before args s' = true := fun w hw hg => ea_word hW0 hg (hwords w hw hg args)
  have hU' : vx_Zq Jvm.Bundle.tN "UNASSIGNED_STACK" Jvm.Bundle.steD A s' s'.heap := by rw [hhp]; exact vx_Zq.moved hW0.alike (hU.kept hS.2.1)
  have hN' : vx_Zq Jvm.Bundle.tN "SUPPRESSED_SENTINEL" Jvm.Bundle.listD A s' s'.heap := by rw [hhp]; exact vx_Zq.moved hW0.alike (hN.kept hS.2.1)
  have hPQ : ∀ w ∈ ea_nP ++ ea_nQ, w.before args s' = true := fun w hw => by
    cases hn : vx_no w with
    | true => exact hwords' w (ea_nW_ok w hw hn).1 (ea_nW_ok w hw hn).2.1
    | false =>
      rcases ea_nW_no w hw hn with rfl | rfl | rfl | rfl
      · exact vx_isRefq hU'.1
      · exact vx_isRefq hN'.1
      · exact hU'.2.word
      · exact hN'.2.word
  have h : ∀ w ∈ ea_nW own ic, w.before args s' = true := fun w hw => by
    rcases List.mem_append.mp hw with hw | hw
    · exact hPQ w (List.mem_append_left _ hw)
    · rcases List.mem_cons.mp hw with rfl | hw
      · exact hwords' _ hml rfl
      · exact hPQ w (List.mem_append_right _ hw)
  have hown' : s'.vm.findClass own = some m.cls := by rw [hvm]; exact hown
  have hins : (Cond.instantiable ea_nse 6).before args s' = true := hPQ _ (by decide +kernel)
  obtain ⟨vm₁, cX, kX, hfX, hkX, -, -, X₁, st1⟩ := Y.newCold hexec (own := own) (C := ea_nse) (index := ik) (n := 6) hown' (hwords' _ hk rfl) hins (hwords' _ hini rfl)
    (g := F0 m pc ls rest) rfl (by rw [hb]; exact d0) (Nat.le_refl _) (Nat.le_refl _)
  generalize hT1 : (T.setVm vm₁).pushCell { cls := cX, slots := kX.instanceTypes.map defaultValue, vm := .none } = T1 at X₁ st1
  have hcat : (Value.ref T.heap.size).category = 1 := rfl
  have hcellA : T1.heap[T.heap.size]? = some (freshCell cX kX) := by rw [← hT1]; exact State.heap_pushCell_size _ _
  have d3' : decode c.code (pc + 3) = .ok (.dup, 1) := by rw [hb]; exact d3
  have hstr' : vk_R own is text sa s' := vk_R.warm hW0 hstr
  obtain ⟨U, hsteps, hrun, hend, hW, hsame, ce, hce, hcv, hcn⟩ := ea_ctorN X₁ hexec htr (own := own) (ic := ic) hown' h (fun x hx => nomatch hx) hfX hkX hcellA (by rw [hhp, hT]; exact Nat.le_refl _) (msg := .ref sa) rfl
    (g := { method := m, pc := pc6, locals := ls, stack := .ref sa :: .ref T.heap.size :: .ref T.heap.size :: rest, locked := none }) rfl hsize rfl rfl (rest := rest) rfl
    (by rw [hb]; exact d6) (by rw [hb]; exact d9) hout hRframes (by simp only [List.map_cons, List.sum_cons, hcat]; show 2 * 0 + _ + _ ≤ _; omega) hlocks
  obtain ⟨f1, f2⟩ := vx_frame hsame
  rw [hhp] at f1 f2
  have hWs : s.WarmedH U.vm := State.WarmedH.trans hW0 hW
  have hcl : s.vm.findClass ea_nse = some ce.cls := by rw [← hvm]; exact hcn
  have hall : s.sameButNew ({ U with vm := s.vm } : State) locs mc ms := by
    subst hA
    obtain ⟨e1, e2⟩ := hsame
    rw [State.setFrames_setFrames] at e1
    have h2 : (T.setVm s.vm).sameButNew ({ U with vm := s.vm } : State) [] (0 + 1) (0 + 6) := ⟨e1, e2⟩
    have h3 := X.same.trans h2
    rw [List.append_nil] at h3
    exact h3.mono hc hs
  refine ⟨U, ?_, .threw T.heap.size, hrun, hend, Or.inr ⟨T.heap.size, rfl, ea_nse, ce, locs, hx U hWs.alike f1 (fun q hq => f2 q hq (fun z hz => nomatch hz)), hce, hcv, hcl, hWs, hall, hf⟩⟩
  refine st1 _ ?_
  show Steps p.tables e below (T1.setTop { method := m, pc := pc + 3, locals := ls, stack := .ref T.heap.size :: rest, locked := none }) _
  jvm_step X₁.here [X₁.here.top, hexec, d3', Value.category]
  rcases d4 with ⟨d4, rfl⟩ | ⟨d4, rfl⟩
  · have d4' : decode c.code (pc + 4) = .ok (.ldc is, 2) := by rw [hb]; exact d4
    exact X₁.ldcString hexec (own := own) (text := text) (index := is) (a := sa) hown' hstr'.1 hstr'.2
      (g := { method := m, pc := pc + 4, locals := ls, stack := .ref T.heap.size :: .ref T.heap.size :: rest, locked := none }) rfl d4' _ hsteps
  · have d4' : decode c.code (pc + 4) = .ok (.ldc_w is, 3) := by rw [hb]; exact d4
    exact X₁.ldcStringW hexec (own := own) (text := text) (index := is) (a := sa) hown' hstr'.1 hstr'.2
      (g := { method := m, pc := pc + 4, locals := ls, stack := .ref T.heap.size :: .ref T.heap.size :: rest, locked := none }) rfl d4' _ hsteps
end EVN2

section EVT
variable {τ : Type} {G : ea_G} {F : ea_F} {res : ea_O} {pc : Nat} {ls : List (Option Value)} {st : List Value} {m : ea_M} {k n : Nat} {x : Option τ} {Φ : τ → Prop}
def ea_tl (j : Nat) : Nat := (ea_str.getD j ("", 0, "")).2.2.length
def ea_tc (j i : Nat) : Int32 := nI ((ea_str.getD j ("", 0, "")).2.2.toList.getD i ' ').toNat
def ea_gc {τ : Type} (v : Int32) (x : Option τ) : Option τ := if 0 ≤ v ∧ v ≤ 65535 then x else none
theorem ea_fm_cat (G : ea_G) : (ea_fm G).category = 1 := by unfold ea_fm; split <;> rfl
theorem ev_sval {idx j : Nat} (d : decode (ea_cc F) pc = .ok (.getfield idx, 3)) (hw : Cond.fieldLink (ea_own F) idx "java/lang/String" "value" "[B" ∈ lw_tbl) (hj : j < ea_str.length) (h : ea_E G F res (pc + 3) ls (.ref (3000 + j) :: st) m k n x Φ) : ea_E G F res pc ls (.ref (1000 + j) :: st) m k n x Φ :=
  fun t e q p e' s mi args below meth c H locs lsA hh hl => vk_getf hh.1 hh.2.1 (hh.2.2.2.1.2.2.2.1 j hj).2.2.2.1 hh.2.2.2.2.1 hh.2.2.1.2.2.1 (hh.2.2.2.1.1 _ hw rfl args) (fun _ z => z) d (h t e q p e' s mi args below meth c H locs lsA hh hl)
theorem ev_scod {idx j : Nat} (d : decode (ea_cc F) pc = .ok (.getfield idx, 3)) (hw : Cond.fieldLink (ea_own F) idx "java/lang/String" "coder" "B" ∈ lw_tbl) (hj : j < ea_str.length) (h : ea_E G F res (pc + 3) ls (.int 0 :: st) m k n x Φ) : ea_E G F res pc ls (.ref (1000 + j) :: st) m k n x Φ :=
  fun t e q p e' s mi args below meth c H locs lsA hh hl => vk_getf hh.1 hh.2.1 (hh.2.2.2.1.2.2.2.1 j hj).2.2.1 hh.2.2.2.2.1 hh.2.2.1.2.2.1 (hh.2.2.2.1.1 _ hw rfl args) (fun _ z => z) d (h t e q p e' s mi args below meth c H locs lsA hh hl)
theorem ev_scomp {idx : Nat} (d : decode (ea_cc F) pc = .ok (.getstatic idx, 3)) (hw : Cond.fieldLink (ea_own F) idx "java/lang/String" "COMPACT_STRINGS" "Z" ∈ lw_tbl) (h : ea_E G F res (pc + 3) ls (.int 1 :: st) m k n x Φ) : ea_E G F res pc ls st m k n x Φ :=
  fun t e q p e' s mi args below meth c H locs lsA hh hl => va_gets hh.1 hh.2.1 hh.2.2.2.1.2.2.2.2.1.1 hh.2.2.2.2.1 hh.2.2.1.2.2.1 (hh.2.2.2.1.1 _ hw rfl args) (fun _ z => z) d (h t e q p e' s mi args below meth c H locs lsA hh hl)
theorem ev_sfm {idx : Nat} (d : decode (ea_cc F) pc = .ok (.getstatic idx, 3)) (hw : Cond.fieldLink (ea_own F) idx "jdk/internal/util/Preconditions" "SIOOBE_FORMATTER" "Ljava/util/function/BiFunction;" ∈ lw_tbl) (h : ea_E G F res (pc + 3) ls (ea_fm G :: st) m k n x Φ) : ea_E G F res pc ls st m k n x Φ :=
  fun t e q p e' s mi args below meth c H locs lsA hh hl => va_gets hh.1 hh.2.1 hh.2.2.2.1.2.2.2.2.1.2.2.2 hh.2.2.2.2.1 hh.2.2.1.2.2.1 (hh.2.2.2.1.1 _ hw rfl args) (fun _ z => z) d (h t e q p e' s mi args below meth c H locs lsA hh hl)
theorem ev_salen {j : Nat} (d : decode (ea_cc F) pc = .ok (.arraylength, 1)) (hj : j < ea_str.length) (h : ea_E G F res (pc + 1) ls (.int (nI (ea_tl j)) :: st) m k n x Φ) : ea_E G F res pc ls (.ref (3000 + j) :: st) m k n x Φ :=
  fun t e q p e' s mi args below meth c H locs lsA hh hl => va_tlen hh.1 hh.2.1 (hh.2.2.2.1.2.2.2.1 j hj).2.2.2.2 hh.2.2.2.2.1 rfl d (h t e q p e' s mi args below meth c H locs lsA hh hl)
theorem ev_sbal {j : Nat} {i : Int32} (d : decode (ea_cc F) pc = .ok (.baload, 1)) (hj : j < ea_str.length) (h : ea_E G F res (pc + 1) ls (.int (ea_tc j i.toNatClampNeg) :: st) m k n x Φ) : ea_E G F res pc ls (.int i :: .ref (3000 + j) :: st) m k n (ea_g i (ea_tl j) x) Φ :=
  fun t e q p e' s mi args below meth c H locs lsA hh hl => va_tb hh.1 hh.2.1 (hh.2.2.2.1.2.2.2.1 j hj).2.2.2.2 hh.2.2.2.2.1 (ea_g_some e).1 rfl d (h t (ea_g_some e).2 q p e' s mi args below meth c H locs lsA hh hl)
theorem ev_i2c {a : Int32} (d : decode (ea_cc F) pc = .ok (.i2c, 1)) (h : ea_E G F res (pc + 1) ls (.int (a.toUInt32 % 65536).toInt32 :: st) m k n x Φ) : ea_E G F res pc ls (.int a :: st) m k n x Φ :=
  fun t e q p e' s mi args below meth c H locs lsA hh hl => lv_i2c hh.1 hh.2.1 d rfl (h t e q p e' s mi args below meth c H locs lsA hh hl)
theorem ev_nret {t0 : τ} {v : Int32} {ty : FieldType} (hn : narrow ty (.int v) = .int v) (d : decode (ea_cc F) pc = .ok (.ireturn, 1)) (hr : ea_ret F = some ty) (hk : k ≤ ea_mc F ∧ n ≤ ea_ms F) (hq : Φ t0 → res = (0, v, m)) : ea_E G F res pc ls [.int v] m k n (some t0) Φ := by
  intro t e q p e' s mi args below meth c H locs lsA hh hl
  cases e
  have e1 := hq q
  subst e1
  refine W.widen hk.1 hk.2 (vx_ret (W.zret hh.1 hh.2.1 (hh.2.2.1.1.trans hr) hn (fun t ht hW => ⟨rfl, by rw [hr], by rw [ht]; exact hh.2.2.2.2.2, hh.2.2.2.2.1.F ht⟩) (fun z hz => hh.2.2.2.2.1.2.2 z hz) d hh.2.2.1.2.2.2.1))
theorem ea_narc {v : Int32} (h : 0 ≤ v ∧ v ≤ 65535) : narrow .char (.int v) = .int v := by
  have h0 : ¬ v < 0 := Int32.not_lt.mpr h.1
  obtain ⟨j, hj, rfl⟩ := nI_of h0
  have h1 : j ≤ 65535 := (nI_leI (a := j) (b := 65535) hj (by decide)).mp h.2
  exact (pk_charN (by omega)).1
theorem ev_cretG {t0 : τ} {v : Int32} (d : decode (ea_cc F) pc = .ok (.ireturn, 1)) (hr : ea_ret F = some .char) (hk : k ≤ ea_mc F ∧ n ≤ ea_ms F) (hq : Φ t0 → res = (0, v, m)) : ea_E G F res pc ls [.int v] m k n (ea_gc v (some t0)) Φ := by
  intro t e q
  unfold ea_gc at e
  split at e
  · rename_i hv
    exact ev_nret (ea_narc hv) d hr hk hq t e q
  · cases e
theorem ev_throwN {t0 : τ} {cls tx : String} {kx ik is ic j : Nat} (d0 : decode (ea_cc F) pc = .ok (.new ik, 3)) (d3 : decode (ea_cc F) (pc + 3) = .ok (.dup, 1)) (d4 : decode (ea_cc F) (pc + 4) = .ok (.ldc is, 2)) (d6 : decode (ea_cc F) (pc + 6) = .ok (.invokespecial ic, 3)) (d9 : decode (ea_cc F) (pc + 9) = .ok (.athrow, 1))
    (htb : ea_tb F = []) (hkx : 0 < kx) (hcls : ea_exn kx = cls) (hw1 : Cond.classLink (ea_own F) ik cls ∈ lw_tbl) (hw2 : Cond.initialized cls ∈ lw_tbl) (hw3 : Cond.methodLink (ea_own F) ic (Jvm.Bundle.initS cls) ∈ lw_tbl) (hj : ea_str[j]? = some (ea_own F, is, tx))
    (hr : 5 < (ea_R F).frames ∧ (st.map fun v => v.category).sum + 82 ≤ (ea_R F).locals ∧ k + 1 ≤ (ea_R F).cells ∧ n + 6 ≤ (ea_R F).slots ∧ k + 1 ≤ ea_mc F ∧ n + 6 ≤ ea_ms F) (hq : Φ t0 → ∃ v, res = (kx, v, m)) (h4 : kx = 4 := by rfl) : ea_E G F res pc ls st m k n (some t0) Φ  := by
  intro t e q p e' s mi args below meth c H locs lsA hh hl
  cases e
  obtain ⟨v, e1⟩ := hq q
  subst e1
  have hC := hh.2.2.2.1
  have h1 := (hC.2.2.2.1 j (List.getElem?_eq_some_iff.mp hj).1).1
  rw [List.getD_eq_getElem?_getD, hj] at h1
  obtain ⟨r1, r2, r3, r4, r5, r6⟩ := hr
  subst h4
  have hcls' : cls = ea_nse := by rw [← hcls]; rfl
  subst hcls'
  refine ea_throwN (pc6 := pc + 6) (A := ea_A G) hh.1 hh.2.1 hC.2.2.2.2.2.2.2.2 hh.2.2.1.2.2.1 hC.1 hw1 hw2 h1 hw3 hC.2.2.2.2.2.1.1 hC.2.2.2.2.2.1.2 hh.2.2.2.2.1 (hl.1.trans hh.2.2.1.2.1.symm) d0 d3 (Or.inl ⟨d4, rfl⟩) d6 d9 (fun z hz => by rw [hh.2.2.1.2.2.2.2, htb] at hz; cases hz)
    r1 (by rw [ea_catsum]; exact r2) r3 r4 hh.2.2.1.2.2.2.1 (fun t hv hz hk => ⟨hkx, hcls.symm, ?_, ?_⟩) (fun z hz => hh.2.2.2.2.1.2.2 z hz) r5 r6
  · exact fun j q hq => (hh.2.2.2.2.2 j q hq).kept (hk q.1 (hh.2.2.2.2.2 j q hq).lt)
  · exact ⟨Nat.le_trans hh.2.2.2.2.1.1 hz, fun q h1 h2 => (hk q (Nat.lt_of_lt_of_le h1 hh.2.2.2.2.1.1)).trans (hh.2.2.2.2.1.2.1 q h1 h2)⟩
theorem ev_throwNW {t0 : τ} {cls tx : String} {kx ik is ic j : Nat} (d0 : decode (ea_cc F) pc = .ok (.new ik, 3)) (d3 : decode (ea_cc F) (pc + 3) = .ok (.dup, 1)) (d4 : decode (ea_cc F) (pc + 4) = .ok (.ldc_w is, 3)) (d6 : decode (ea_cc F) (pc + 7) = .ok (.invokespecial ic, 3)) (d9 : decode (ea_cc F) (pc + 10) = .ok (.athrow, 1))
    (htb : ea_tb F = []) (hkx : 0 < kx) (hcls : ea_exn kx = cls) (hw1 : Cond.classLink (ea_own F) ik cls ∈ lw_tbl) (hw2 : Cond.initialized cls ∈ lw_tbl) (hw3 : Cond.methodLink (ea_own F) ic (Jvm.Bundle.initS cls) ∈ lw_tbl) (hj : ea_str[j]? = some (ea_own F, is, tx))
    (hr : 5 < (ea_R F).frames ∧ (st.map fun v => v.category).sum + 82 ≤ (ea_R F).locals ∧ k + 1 ≤ (ea_R F).cells ∧ n + 6 ≤ (ea_R F).slots ∧ k + 1 ≤ ea_mc F ∧ n + 6 ≤ ea_ms F) (hq : Φ t0 → ∃ v, res = (kx, v, m)) (h4 : kx = 4 := by rfl) : ea_E G F res pc ls st m k n (some t0) Φ  := by
  intro t e q p e' s mi args below meth c H locs lsA hh hl
  cases e
  obtain ⟨v, e1⟩ := hq q
  subst e1
  have hC := hh.2.2.2.1
  have h1 := (hC.2.2.2.1 j (List.getElem?_eq_some_iff.mp hj).1).1
  rw [List.getD_eq_getElem?_getD, hj] at h1
  obtain ⟨r1, r2, r3, r4, r5, r6⟩ := hr
  subst h4
  have hcls' : cls = ea_nse := by rw [← hcls]; rfl
  subst hcls'
  refine ea_throwN (pc6 := pc + 7) (A := ea_A G) hh.1 hh.2.1 hC.2.2.2.2.2.2.2.2 hh.2.2.1.2.2.1 hC.1 hw1 hw2 h1 hw3 hC.2.2.2.2.2.1.1 hC.2.2.2.2.2.1.2 hh.2.2.2.2.1 (hl.1.trans hh.2.2.1.2.1.symm) d0 d3 (Or.inr ⟨d4, rfl⟩) d6 d9 (fun z hz => by rw [hh.2.2.1.2.2.2.2, htb] at hz; cases hz)
    r1 (by rw [ea_catsum]; exact r2) r3 r4 hh.2.2.1.2.2.2.1 (fun t hv hz hk => ⟨hkx, hcls.symm, ?_, ?_⟩) (fun z hz => hh.2.2.2.2.1.2.2 z hz) r5 r6
  · exact fun j q hq => (hh.2.2.2.2.2 j q hq).kept (hk q.1 (hh.2.2.2.2.2 j q hq).lt)
  · exact ⟨Nat.le_trans hh.2.2.2.2.1.1 hz, fun q h1 h2 => (hk q (Nat.lt_of_lt_of_le h1 hh.2.2.2.2.1.1)).trans (hh.2.2.2.2.1.2.1 q h1 h2)⟩
end EVT

theorem fs_J0_1053 : Cond.fieldLink RJ0 1053 "jdk/internal/util/Preconditions" "SIOOBE_FORMATTER" "Ljava/util/function/BiFunction;" ∈ lw_tbl := List.mem_append_right _ (List.mem_of_getElem? (i := 698) (by decide +kernel))
theorem fs_J0_15 : Cond.fieldLink RJ0 15 "java/lang/String" "coder" "B" ∈ lw_tbl := List.mem_append_right _ (List.mem_of_getElem? (i := 2078) (by decide +kernel))
theorem fs_J0_38 : Cond.fieldLink RJ0 38 "java/lang/String" "COMPACT_STRINGS" "Z" ∈ lw_tbl := List.mem_append_right _ (List.mem_of_getElem? (i := 682) (by decide +kernel))
theorem fs_J0_9 : Cond.fieldLink RJ0 9 "java/lang/String" "value" "[B" ∈ lw_tbl := List.mem_append_right _ (List.mem_of_getElem? (i := 2077) (by decide +kernel))
theorem ml_J0_1059 : Cond.methodLink RJ0 1059 yJ3_checkIndex_8e157 ∈ lw_tbl := List.mem_append_right _ (List.mem_of_getElem? (i := 700) (by decide +kernel))
theorem ml_J0_335 : Cond.methodLink RJ0 335 yJ0_coder_7d493 ∈ lw_tbl := List.mem_append_right _ (List.mem_of_getElem? (i := 678) (by decide +kernel))
theorem ml_J0_492 : Cond.methodLink RJ0 492 yJ0_isLatin1_aae02 ∈ lw_tbl := List.mem_append_right _ (List.mem_of_getElem? (i := 688) (by decide +kernel))
theorem ml_J0_495 : Cond.methodLink RJ0 495 yJ1_charAt_3b067 ∈ lw_tbl := List.mem_append_right _ (List.mem_of_getElem? (i := 692) (by decide +kernel))
theorem ml_J1_9 : Cond.methodLink RJ1 9 yJ0_checkIndex_df160 ∈ lw_tbl := List.mem_append_right _ (List.mem_of_getElem? (i := 695) (by decide +kernel))
def F_J0_coder_7d493 : ea_F := (ea_rm 8 0 0, cJ0_coder_7d493, RJ0, some .byte, 1, [], 0, 0)
def D_J0_coder_7d493 : List (Nat × Instr × Nat) := [(0, .getstatic 38, 3), (3, .ifCond .eq 10, 3), (6, .aload_n 0, 1), (7, .getfield 15, 3), (10, .goto 4, 3), (13, .iconst 1, 1), (14, .ireturn, 1)]
theorem dt_J0_coder_7d493 : ∀ q ∈ D_J0_coder_7d493, decode cJ0_coder_7d493 q.1 = .ok q.2 := by decide +kernel
theorem mv_J0_coder_7d493 : ea_MV yJ0_coder_7d493 F_J0_coder_7d493 0 := ⟨⟨List.mem_append_right _ (List.mem_of_getElem? (i := 16) (by decide +kernel)), List.mem_append_right _ (List.mem_of_getElem? (i := 681) (by decide +kernel)), ⟨by decide, by decide⟩, by decide +kernel⟩, List.mem_append_right _ (List.mem_of_getElem? (i := 679) (by decide +kernel)), List.mem_append_right _ (List.mem_of_getElem? (i := 680) (by decide +kernel))⟩
def f_J0_coder_7d493 (j : Nat) (m : ea_M) : Option (Int32 × ea_M) :=
  if (1 : Int32) = 0 then
  some (1, m)
  else
  some (0, m)
set_option maxHeartbeats 300000 in
theorem ok_J0_coder_7d493 (G : ea_G) (j : Nat) (m : ea_M) (hj : j < ea_str.length) (rZ : Int32) (mZ : ea_M) (hZ : f_J0_coder_7d493 j m = some (rZ, mZ)) : ea_Met G yJ0_coder_7d493 F_J0_coder_7d493 [.ref (1000 + j)] m (0, rZ, mZ) := by
  refine ea_met (F := F_J0_coder_7d493) (by decide +kernel) rfl rfl (Nat.le_of_ble_eq_true rfl) (by simp only [List.mem_cons, List.not_mem_nil, or_false]; intro v hv; rcases hv with rfl <;> first | rfl | exact ea_fm_cat G) ((?_ : ea_E G F_J0_coder_7d493 (0, rZ, mZ) 0 [some (.ref (1000 + j))] [] m 0 0 (f_J0_coder_7d493 j m) (fun t => t = (rZ, mZ))) (rZ, mZ) hZ rfl)
  have hR : ∀ t : Int32 × ea_M, t = (rZ, mZ) → ((0, rZ, mZ) : ea_O) = (0, t) := fun t h => by rw [h]
  unfold f_J0_coder_7d493
  refine ev_scomp (ea_at dt_J0_coder_7d493 0 rfl) fs_J0_38 ?_
  refine ev_if_eq (tgt := 13) (ea_at dt_J0_coder_7d493 1 rfl) rfl (fun _ => ?_) (fun _ => ?_)
  · refine ev_iconst (ea_at dt_J0_coder_7d493 5 rfl) ic_1 ?_
    exact ev_nret (by decide) (ea_at dt_J0_coder_7d493 6 rfl) rfl ⟨by decide, by decide⟩ (fun h => hR _ h)
  · refine ev_aload_n (ea_at dt_J0_coder_7d493 2 rfl) rfl ?_
    refine ev_scod (ea_at dt_J0_coder_7d493 3 rfl) fs_J0_15 hj ?_
    refine ev_goto (tgt := 14) (ea_at dt_J0_coder_7d493 4 rfl) rfl ?_
    exact ev_nret (by decide) (ea_at dt_J0_coder_7d493 6 rfl) rfl ⟨by decide, by decide⟩ (fun h => hR _ h)
def F_J0_length_8abf5 : ea_F := (ea_rm 9 0 0, cJ0_length_8abf5, RJ0, some .int, 1, [], 0, 0)
def D_J0_length_8abf5 : List (Nat × Instr × Nat) := [(0, .aload_n 0, 1), (1, .getfield 9, 3), (4, .arraylength, 1), (5, .aload_n 0, 1), (6, .invokevirtual 335, 3), (9, .ishr, 1), (10, .ireturn, 1)]
theorem dt_J0_length_8abf5 : ∀ q ∈ D_J0_length_8abf5, decode cJ0_length_8abf5 q.1 = .ok q.2 := by decide +kernel
theorem mv_J0_length_8abf5 : ea_MV yJ0_length_8abf5 F_J0_length_8abf5 0 := ⟨⟨List.mem_append_right _ (List.mem_of_getElem? (i := 16) (by decide +kernel)), List.mem_append_right _ (List.mem_of_getElem? (i := 677) (by decide +kernel)), ⟨by decide, by decide⟩, by decide +kernel⟩, List.mem_append_right _ (List.mem_of_getElem? (i := 675) (by decide +kernel)), List.mem_append_right _ (List.mem_of_getElem? (i := 676) (by decide +kernel))⟩
def f_J0_length_8abf5 (j : Nat) (m : ea_M) : Option (Int32 × ea_M) :=
  ea_cl (f_J0_coder_7d493 j m) fun r2 m1 =>
  some ((nI (ea_tl j)) >>> (r2 &&& 31), m1)
set_option maxHeartbeats 300000 in
theorem ok_J0_length_8abf5 (G : ea_G) (j : Nat) (m : ea_M) (hj : j < ea_str.length) (rZ : Int32) (mZ : ea_M) (hZ : f_J0_length_8abf5 j m = some (rZ, mZ)) : ea_Met G yJ0_length_8abf5 F_J0_length_8abf5 [.ref (1000 + j)] m (0, rZ, mZ) := by
  refine ea_met (F := F_J0_length_8abf5) (by decide +kernel) rfl rfl (Nat.le_of_ble_eq_true rfl) (by simp only [List.mem_cons, List.not_mem_nil, or_false]; intro v hv; rcases hv with rfl <;> first | rfl | exact ea_fm_cat G) ((?_ : ea_E G F_J0_length_8abf5 (0, rZ, mZ) 0 [some (.ref (1000 + j))] [] m 0 0 (f_J0_length_8abf5 j m) (fun t => t = (rZ, mZ))) (rZ, mZ) hZ rfl)
  have hR : ∀ t : Int32 × ea_M, t = (rZ, mZ) → ((0, rZ, mZ) : ea_O) = (0, t) := fun t h => by rw [h]
  unfold f_J0_length_8abf5
  refine ev_aload_n (ea_at dt_J0_length_8abf5 0 rfl) rfl ?_
  refine ev_sval (ea_at dt_J0_length_8abf5 1 rfl) fs_J0_9 hj ?_
  refine ev_salen (ea_at dt_J0_length_8abf5 2 rfl) hj ?_
  refine ev_aload_n (ea_at dt_J0_length_8abf5 3 rfl) rfl ?_
  refine ev_clI (F1 := F_J0_coder_7d493) (fun rY mY hY => ea_runVS (As := []) (ea_at dt_J0_length_8abf5 4 rfl) ml_J0_335 mv_J0_coder_7d493 (ok_J0_coder_7d493 G j m hj rY mY hY) hj rfl rfl (Nat.le_of_ble_eq_true rfl) rfl) rfl (fun r2 m1 => ?_)
  refine ev_ishr (ea_at dt_J0_length_8abf5 5 rfl) ?_
  exact ev_iret (ea_at dt_J0_length_8abf5 6 rfl) rfl ⟨by decide, by decide⟩ (fun h => hR _ h)
def F_J0_isLatin1_aae02 : ea_F := (ea_rm 8 0 0, cJ0_isLatin1_aae02, RJ0, some .boolean, 1, [], 0, 0)
def D_J0_isLatin1_aae02 : List (Nat × Instr × Nat) := [(0, .getstatic 38, 3), (3, .ifCond .eq 14, 3), (6, .aload_n 0, 1), (7, .getfield 15, 3), (10, .ifCond .ne 7, 3), (13, .iconst 1, 1), (14, .goto 4, 3), (17, .iconst 0, 1), (18, .ireturn, 1)]
theorem dt_J0_isLatin1_aae02 : ∀ q ∈ D_J0_isLatin1_aae02, decode cJ0_isLatin1_aae02 q.1 = .ok q.2 := by decide +kernel
theorem mv_J0_isLatin1_aae02 : ea_MV yJ0_isLatin1_aae02 F_J0_isLatin1_aae02 0 := ⟨⟨List.mem_append_right _ (List.mem_of_getElem? (i := 16) (by decide +kernel)), List.mem_append_right _ (List.mem_of_getElem? (i := 691) (by decide +kernel)), ⟨by decide, by decide⟩, by decide +kernel⟩, List.mem_append_right _ (List.mem_of_getElem? (i := 689) (by decide +kernel)), List.mem_append_right _ (List.mem_of_getElem? (i := 690) (by decide +kernel))⟩
def f_J0_isLatin1_aae02 (j : Nat) (m : ea_M) : Option (Int32 × ea_M) :=
  if (1 : Int32) = 0 then
  some (0, m)
  else
  if (0 : Int32) = 0 then
  some (1, m)
  else
  some (0, m)
set_option maxHeartbeats 300000 in
theorem ok_J0_isLatin1_aae02 (G : ea_G) (j : Nat) (m : ea_M) (hj : j < ea_str.length) (rZ : Int32) (mZ : ea_M) (hZ : f_J0_isLatin1_aae02 j m = some (rZ, mZ)) : ea_Met G yJ0_isLatin1_aae02 F_J0_isLatin1_aae02 [.ref (1000 + j)] m (0, rZ, mZ) := by
  refine ea_met (F := F_J0_isLatin1_aae02) (by decide +kernel) rfl rfl (Nat.le_of_ble_eq_true rfl) (by simp only [List.mem_cons, List.not_mem_nil, or_false]; intro v hv; rcases hv with rfl <;> first | rfl | exact ea_fm_cat G) ((?_ : ea_E G F_J0_isLatin1_aae02 (0, rZ, mZ) 0 [some (.ref (1000 + j))] [] m 0 0 (f_J0_isLatin1_aae02 j m) (fun t => t = (rZ, mZ))) (rZ, mZ) hZ rfl)
  have hR : ∀ t : Int32 × ea_M, t = (rZ, mZ) → ((0, rZ, mZ) : ea_O) = (0, t) := fun t h => by rw [h]
  unfold f_J0_isLatin1_aae02
  refine ev_scomp (ea_at dt_J0_isLatin1_aae02 0 rfl) fs_J0_38 ?_
  refine ev_if_eq (tgt := 17) (ea_at dt_J0_isLatin1_aae02 1 rfl) rfl (fun _ => ?_) (fun _ => ?_)
  · refine ev_iconst (ea_at dt_J0_isLatin1_aae02 7 rfl) ic_0 ?_
    exact ev_zret (by decide) (ea_at dt_J0_isLatin1_aae02 8 rfl) rfl ⟨by decide, by decide⟩ (fun h => hR _ h)
  · refine ev_aload_n (ea_at dt_J0_isLatin1_aae02 2 rfl) rfl ?_
    refine ev_scod (ea_at dt_J0_isLatin1_aae02 3 rfl) fs_J0_15 hj ?_
    refine ev_if_ne (tgt := 17) (ea_at dt_J0_isLatin1_aae02 4 rfl) rfl (fun _ => ?_) (fun _ => ?_)
    · refine ev_iconst (ea_at dt_J0_isLatin1_aae02 5 rfl) ic_1 ?_
      refine ev_goto (tgt := 18) (ea_at dt_J0_isLatin1_aae02 6 rfl) rfl ?_
      exact ev_zret (by decide) (ea_at dt_J0_isLatin1_aae02 8 rfl) rfl ⟨by decide, by decide⟩ (fun h => hR _ h)
    · refine ev_iconst (ea_at dt_J0_isLatin1_aae02 7 rfl) ic_0 ?_
      exact ev_zret (by decide) (ea_at dt_J0_isLatin1_aae02 8 rfl) rfl ⟨by decide, by decide⟩ (fun h => hR _ h)
def F_J3_checkIndex_8e157 : ea_F := (ea_rm 8 0 0, cJ3_checkIndex_8e157, RJ3, some .int, 3, [], 0, 0)
def D_J3_checkIndex_8e157 : List (Nat × Instr × Nat) := [(0, .iload_n 0, 1), (1, .ifCond .lt 8, 3), (4, .iload_n 0, 1), (5, .iload_n 1, 1), (6, .if_icmp .lt 10, 3), (9, .aload_n 2, 1), (10, .iload_n 0, 1), (11, .iload_n 1, 1), (12, .invokestatic 95, 3), (15, .athrow, 1), (16, .iload_n 0, 1), (17, .ireturn, 1)]
theorem dt_J3_checkIndex_8e157 : ∀ q ∈ D_J3_checkIndex_8e157, decode cJ3_checkIndex_8e157 q.1 = .ok q.2 := by decide +kernel
theorem mv_J3_checkIndex_8e157 : ea_MS yJ3_checkIndex_8e157 F_J3_checkIndex_8e157 3 := ⟨⟨List.mem_append_right _ (List.mem_of_getElem? (i := 18) (by decide +kernel)), List.mem_append_right _ (List.mem_of_getElem? (i := 702) (by decide +kernel)), ⟨by decide, by decide⟩, by decide +kernel⟩, List.mem_append_right _ (List.mem_of_getElem? (i := 701) (by decide +kernel))⟩
def f_J3_checkIndex_8e157 (p1 : Int32) (p2 : Int32) (m : ea_M) : Option (Int32 × ea_M) :=
  if p1 < 0 then
  none
  else
  if p1 < p2 then
  some (p1, m)
  else
  none
set_option maxHeartbeats 300000 in
theorem ok_J3_checkIndex_8e157 (G : ea_G) (p1 : Int32) (p2 : Int32) (m : ea_M)  (rZ : Int32) (mZ : ea_M) (hZ : f_J3_checkIndex_8e157 p1 p2 m = some (rZ, mZ)) : ea_Met G yJ3_checkIndex_8e157 F_J3_checkIndex_8e157 [.int p1, .int p2, ea_fm G] m (0, rZ, mZ) := by
  refine ea_met (F := F_J3_checkIndex_8e157) (by decide +kernel) rfl rfl (Nat.le_of_ble_eq_true rfl) (by simp only [List.mem_cons, List.not_mem_nil, or_false]; intro v hv; rcases hv with rfl | rfl | rfl <;> first | rfl | exact ea_fm_cat G) ((?_ : ea_E G F_J3_checkIndex_8e157 (0, rZ, mZ) 0 [some (.int p1), some (.int p2), some (ea_fm G)] [] m 0 0 (f_J3_checkIndex_8e157 p1 p2 m) (fun t => t = (rZ, mZ))) (rZ, mZ) hZ rfl)
  have hR : ∀ t : Int32 × ea_M, t = (rZ, mZ) → ((0, rZ, mZ) : ea_O) = (0, t) := fun t h => by rw [h]
  unfold f_J3_checkIndex_8e157
  refine ev_iload_n (ea_at dt_J3_checkIndex_8e157 0 rfl) rfl ?_
  refine ev_if_lt (tgt := 9) (ea_at dt_J3_checkIndex_8e157 1 rfl) rfl (fun _ => ?_) (fun _ => ?_)
  · exact ev_none
  · refine ev_iload_n (ea_at dt_J3_checkIndex_8e157 2 rfl) rfl ?_
    refine ev_iload_n (ea_at dt_J3_checkIndex_8e157 3 rfl) rfl ?_
    refine ev_icmp_lt (tgt := 16) (ea_at dt_J3_checkIndex_8e157 4 rfl) rfl (fun _ => ?_) (fun _ => ?_)
    · refine ev_iload_n (ea_at dt_J3_checkIndex_8e157 10 rfl) rfl ?_
      exact ev_iret (ea_at dt_J3_checkIndex_8e157 11 rfl) rfl ⟨by decide, by decide⟩ (fun h => hR _ h)
    · exact ev_none
def F_J0_checkIndex_df160 : ea_F := (ea_rm 9 0 0, cJ0_checkIndex_df160, RJ0, none, 2, [], 0, 0)
def D_J0_checkIndex_df160 : List (Nat × Instr × Nat) := [(0, .iload_n 0, 1), (1, .iload_n 1, 1), (2, .getstatic 1053, 3), (5, .invokestatic 1059, 3), (8, .pop, 1), (9, .return_, 1)]
theorem dt_J0_checkIndex_df160 : ∀ q ∈ D_J0_checkIndex_df160, decode cJ0_checkIndex_df160 q.1 = .ok q.2 := by decide +kernel
theorem mv_J0_checkIndex_df160 : ea_MS yJ0_checkIndex_df160 F_J0_checkIndex_df160 2 := ⟨⟨List.mem_append_right _ (List.mem_of_getElem? (i := 16) (by decide +kernel)), List.mem_append_right _ (List.mem_of_getElem? (i := 697) (by decide +kernel)), ⟨by decide, by decide⟩, by decide +kernel⟩, List.mem_append_right _ (List.mem_of_getElem? (i := 696) (by decide +kernel))⟩
def f_J0_checkIndex_df160 (p1 : Int32) (p2 : Int32) (m : ea_M) : Option (Int32 × ea_M) :=
  ea_cl (f_J3_checkIndex_8e157 p1 p2 m) fun r2 m1 =>
  some (0, m1)
set_option maxHeartbeats 300000 in
theorem ok_J0_checkIndex_df160 (G : ea_G) (p1 : Int32) (p2 : Int32) (m : ea_M)  (rZ : Int32) (mZ : ea_M) (hZ : f_J0_checkIndex_df160 p1 p2 m = some (rZ, mZ)) : ea_Met G yJ0_checkIndex_df160 F_J0_checkIndex_df160 [.int p1, .int p2] m (0, rZ, mZ) := by
  refine ea_met (F := F_J0_checkIndex_df160) (by decide +kernel) rfl rfl (Nat.le_of_ble_eq_true rfl) (by simp only [List.mem_cons, List.not_mem_nil, or_false]; intro v hv; rcases hv with rfl | rfl <;> first | rfl | exact ea_fm_cat G) ((?_ : ea_E G F_J0_checkIndex_df160 (0, rZ, mZ) 0 [some (.int p1), some (.int p2)] [] m 0 0 (f_J0_checkIndex_df160 p1 p2 m) (fun t => t = (rZ, mZ))) (rZ, mZ) hZ rfl)
  have hR : ∀ t : Int32 × ea_M, t = (rZ, mZ) → ((0, rZ, mZ) : ea_O) = (0, t) := fun t h => by rw [h]
  unfold f_J0_checkIndex_df160
  refine ev_iload_n (ea_at dt_J0_checkIndex_df160 0 rfl) rfl ?_
  refine ev_iload_n (ea_at dt_J0_checkIndex_df160 1 rfl) rfl ?_
  refine ev_sfm (ea_at dt_J0_checkIndex_df160 2 rfl) fs_J0_1053 ?_
  refine ev_clI (F1 := F_J3_checkIndex_8e157) (fun rY mY hY => ea_runS (As := [.int p1, .int p2, ea_fm G]) (ea_at dt_J0_checkIndex_df160 3 rfl) ml_J0_1059 mv_J3_checkIndex_8e157 (ok_J3_checkIndex_8e157 G p1 p2 m  rY mY hY) rfl rfl (Nat.le_of_ble_eq_true rfl) rfl) rfl (fun r2 m1 => ?_)
  refine ev_pop (ea_at dt_J0_checkIndex_df160 4 rfl) rfl ?_
  exact ev_vret (ea_at dt_J0_checkIndex_df160 5 rfl) rfl ⟨by decide, by decide⟩ (fun h => ⟨0, hR _ h⟩)
def F_J1_charAt_3b067 : ea_F := (ea_rm 10 0 0, cJ1_charAt_3b067, RJ1, some .char, 2, [], 0, 0)
def D_J1_charAt_3b067 : List (Nat × Instr × Nat) := [(0, .iload_n 1, 1), (1, .aload_n 0, 1), (2, .arraylength, 1), (3, .invokestatic 9, 3), (6, .aload_n 0, 1), (7, .iload_n 1, 1), (8, .baload, 1), (9, .sipush 255, 3), (12, .iand, 1), (13, .i2c, 1), (14, .ireturn, 1)]
theorem dt_J1_charAt_3b067 : ∀ q ∈ D_J1_charAt_3b067, decode cJ1_charAt_3b067 q.1 = .ok q.2 := by decide +kernel
theorem mv_J1_charAt_3b067 : ea_MS yJ1_charAt_3b067 F_J1_charAt_3b067 2 := ⟨⟨List.mem_append_right _ (List.mem_of_getElem? (i := 17) (by decide +kernel)), List.mem_append_right _ (List.mem_of_getElem? (i := 694) (by decide +kernel)), ⟨by decide, by decide⟩, by decide +kernel⟩, List.mem_append_right _ (List.mem_of_getElem? (i := 693) (by decide +kernel))⟩
def f_J1_charAt_3b067 (j : Nat) (p2 : Int32) (m : ea_M) : Option (Int32 × ea_M) :=
  ea_cl (f_J0_checkIndex_df160 p2 (nI (ea_tl j)) m) fun r2 m1 =>
  ea_g p2 (ea_tl j) (ea_bd (ea_tc j (Int32.toNatClampNeg p2)) fun x3 =>
  ea_bd ((Int32.toUInt32 (x3 &&& 255) % 65536).toInt32) fun x4 =>
  ea_gc x4 (some (x4, m1)))
set_option maxHeartbeats 300000 in
theorem ok_J1_charAt_3b067 (G : ea_G) (j : Nat) (p2 : Int32) (m : ea_M) (hj : j < ea_str.length) (rZ : Int32) (mZ : ea_M) (hZ : f_J1_charAt_3b067 j p2 m = some (rZ, mZ)) : ea_Met G yJ1_charAt_3b067 F_J1_charAt_3b067 [.ref (3000 + j), .int p2] m (0, rZ, mZ) := by
  refine ea_met (F := F_J1_charAt_3b067) (by decide +kernel) rfl rfl (Nat.le_of_ble_eq_true rfl) (by simp only [List.mem_cons, List.not_mem_nil, or_false]; intro v hv; rcases hv with rfl | rfl <;> first | rfl | exact ea_fm_cat G) ((?_ : ea_E G F_J1_charAt_3b067 (0, rZ, mZ) 0 [some (.ref (3000 + j)), some (.int p2)] [] m 0 0 (f_J1_charAt_3b067 j p2 m) (fun t => t = (rZ, mZ))) (rZ, mZ) hZ rfl)
  have hR : ∀ t : Int32 × ea_M, t = (rZ, mZ) → ((0, rZ, mZ) : ea_O) = (0, t) := fun t h => by rw [h]
  unfold f_J1_charAt_3b067
  refine ev_iload_n (ea_at dt_J1_charAt_3b067 0 rfl) rfl ?_
  refine ev_aload_n (ea_at dt_J1_charAt_3b067 1 rfl) rfl ?_
  refine ev_salen (ea_at dt_J1_charAt_3b067 2 rfl) hj ?_
  refine ev_clU (F1 := F_J0_checkIndex_df160) (fun rY mY hY => ea_runS (As := [.int p2, .int (nI (ea_tl j))]) (ea_at dt_J1_charAt_3b067 3 rfl) ml_J1_9 mv_J0_checkIndex_df160 (ok_J0_checkIndex_df160 G p2 (nI (ea_tl j)) m  rY mY hY) rfl rfl (Nat.le_of_ble_eq_true rfl) rfl) rfl (fun r2 m1 => ?_)
  refine ev_aload_n (ea_at dt_J1_charAt_3b067 4 rfl) rfl ?_
  refine ev_iload_n (ea_at dt_J1_charAt_3b067 5 rfl) rfl ?_
  refine ev_sbal (ea_at dt_J1_charAt_3b067 6 rfl) hj ?_
  refine ev_i (fun x3 => ?_)
  refine ev_sipush (ea_at dt_J1_charAt_3b067 7 rfl) sp_255 ?_
  refine ev_iand (ea_at dt_J1_charAt_3b067 8 rfl) ?_
  refine ev_i2c (ea_at dt_J1_charAt_3b067 9 rfl) ?_
  refine ev_i (fun x4 => ?_)
  exact ev_cretG (ea_at dt_J1_charAt_3b067 10 rfl) rfl ⟨by decide, by decide⟩ (fun h => hR _ h)
def F_J0_charAt_5068e : ea_F := (ea_rm 12 0 0, cJ0_charAt_5068e, RJ0, some .char, 2, [], 0, 0)
def D_J0_charAt_5068e : List (Nat × Instr × Nat) := [(0, .aload_n 0, 1), (1, .invokevirtual 492, 3), (4, .ifCond .eq 12, 3), (7, .aload_n 0, 1), (8, .getfield 9, 3), (11, .iload_n 1, 1), (12, .invokestatic 495, 3), (15, .ireturn, 1), (16, .aload_n 0, 1), (17, .getfield 9, 3), (20, .iload_n 1, 1), (21, .invokestatic 498, 3), (24, .ireturn, 1)]
theorem dt_J0_charAt_5068e : ∀ q ∈ D_J0_charAt_5068e, decode cJ0_charAt_5068e q.1 = .ok q.2 := by decide +kernel
theorem mv_J0_charAt_5068e : ea_MV yJ0_charAt_5068e F_J0_charAt_5068e 1 := ⟨⟨List.mem_append_right _ (List.mem_of_getElem? (i := 16) (by decide +kernel)), List.mem_append_right _ (List.mem_of_getElem? (i := 687) (by decide +kernel)), ⟨by decide, by decide⟩, by decide +kernel⟩, List.mem_append_right _ (List.mem_of_getElem? (i := 685) (by decide +kernel)), List.mem_append_right _ (List.mem_of_getElem? (i := 686) (by decide +kernel))⟩
def f_J0_charAt_5068e (j : Nat) (p1 : Int32) (m : ea_M) : Option (Int32 × ea_M) :=
  ea_cl (f_J0_isLatin1_aae02 j m) fun r2 m1 =>
  if r2 = 0 then
  none
  else
  ea_cl (f_J1_charAt_3b067 j p1 m1) fun r4 m3 =>
  ea_gc r4 (some (r4, m3))
set_option maxHeartbeats 300000 in
theorem ok_J0_charAt_5068e (G : ea_G) (j : Nat) (p1 : Int32) (m : ea_M) (hj : j < ea_str.length) (rZ : Int32) (mZ : ea_M) (hZ : f_J0_charAt_5068e j p1 m = some (rZ, mZ)) : ea_Met G yJ0_charAt_5068e F_J0_charAt_5068e [.ref (1000 + j), .int p1] m (0, rZ, mZ) := by
  refine ea_met (F := F_J0_charAt_5068e) (by decide +kernel) rfl rfl (Nat.le_of_ble_eq_true rfl) (by simp only [List.mem_cons, List.not_mem_nil, or_false]; intro v hv; rcases hv with rfl | rfl <;> first | rfl | exact ea_fm_cat G) ((?_ : ea_E G F_J0_charAt_5068e (0, rZ, mZ) 0 [some (.ref (1000 + j)), some (.int p1)] [] m 0 0 (f_J0_charAt_5068e j p1 m) (fun t => t = (rZ, mZ))) (rZ, mZ) hZ rfl)
  have hR : ∀ t : Int32 × ea_M, t = (rZ, mZ) → ((0, rZ, mZ) : ea_O) = (0, t) := fun t h => by rw [h]
  unfold f_J0_charAt_5068e
  refine ev_aload_n (ea_at dt_J0_charAt_5068e 0 rfl) rfl ?_
  refine ev_clI (F1 := F_J0_isLatin1_aae02) (fun rY mY hY => ea_runVS (As := []) (ea_at dt_J0_charAt_5068e 1 rfl) ml_J0_492 mv_J0_isLatin1_aae02 (ok_J0_isLatin1_aae02 G j m hj rY mY hY) hj rfl rfl (Nat.le_of_ble_eq_true rfl) rfl) rfl (fun r2 m1 => ?_)
  refine ev_if_eq (tgt := 16) (ea_at dt_J0_charAt_5068e 2 rfl) rfl (fun _ => ?_) (fun _ => ?_)
  · exact ev_none
  · refine ev_aload_n (ea_at dt_J0_charAt_5068e 3 rfl) rfl ?_
    refine ev_sval (ea_at dt_J0_charAt_5068e 4 rfl) fs_J0_9 hj ?_
    refine ev_iload_n (ea_at dt_J0_charAt_5068e 5 rfl) rfl ?_
    refine ev_clI (F1 := F_J1_charAt_3b067) (fun rY mY hY => ea_runS (As := [.ref (3000 + j), .int p1]) (ea_at dt_J0_charAt_5068e 6 rfl) ml_J0_495 mv_J1_charAt_3b067 (ok_J1_charAt_3b067 G j p1 m1 hj rY mY hY) rfl rfl (Nat.le_of_ble_eq_true rfl) rfl) rfl (fun r4 m3 => ?_)
    exact ev_cretG (ea_at dt_J0_charAt_5068e 7 rfl) rfl ⟨by decide, by decide⟩ (fun h => hR _ h)
theorem ea_tl_small : ∀ q ∈ ea_str, q.2.2.length < 100 ∧ ∀ c ∈ q.2.2.toList, c.toNat < 128 := by decide +kernel
theorem ea_tl_lt {j : Nat} (hj : j < ea_str.length) : ea_tl j < 100 := by
  unfold ea_tl
  rw [List.getD_eq_getElem?_getD, List.getElem?_eq_getElem hj]
  exact (ea_tl_small _ (List.getElem_mem hj)).1
theorem ea_tc_of {j : Nat} (hj : j < ea_str.length) (i : Nat) : ∃ c : Nat, c < 128 ∧ ea_tc j i = nI c := by
  unfold ea_tc
  have e1 : ea_str.getD j ("", 0, "") = ea_str[j] := by rw [List.getD_eq_getElem?_getD, List.getElem?_eq_getElem hj]; rfl
  rw [e1]
  refine ⟨_, ?_, rfl⟩
  rw [List.getD_eq_getElem?_getD]
  cases hc : (ea_str[j]).2.2.toList[i]? with
  | none => exact (by decide : (' ' : Char).toNat < 128)
  | some c => exact (ea_tl_small _ (List.getElem_mem hj)).2 c (List.mem_of_getElem? hc)
theorem ea_coder_eq (j : Nat) (m : ea_M) : f_J0_coder_7d493 j m = some (0, m) := if_neg (by decide)
theorem ea_latin_eq (j : Nat) (m : ea_M) : f_J0_isLatin1_aae02 j m = some (1, m) := by
  unfold f_J0_isLatin1_aae02
  rw [if_neg (by decide), if_pos rfl]
theorem ea_len_eq (j : Nat) (m : ea_M) : f_J0_length_8abf5 j m = ea_slen j m := by
  unfold f_J0_length_8abf5 ea_cl
  rw [ea_coder_eq]
  show some (nI (ea_tl j) >>> ((0 : Int32) &&& 31), m) = _
  rw [sb_shr0]
  rfl
theorem ok_ea_slen (G : ea_G) (j : Nat) (m : ea_M) (hj : j < ea_str.length) (r : Int32) (m1 : ea_M) (h : ea_slen j m = some (r, m1)) : ea_Met G yJ0_length_8abf5 F_J0_length_8abf5 [.ref (1000 + j)] m (0, r, m1) :=
  ok_J0_length_8abf5 G j m hj r m1 (by rw [ea_len_eq]; exact h)
theorem ea_g_in {β : Type} {i : Int32} {nn : Nat} {x : Option β} (h : vp_in i nn) : ea_g i nn x = x := by
  unfold ea_g; rw [if_neg h]
theorem ea_latchr_eq {j n : Nat} (hj : j < ea_str.length) (hn : n < ea_tl j) (m : ea_M) : f_J1_charAt_3b067 j (nI n) m = some (ea_tc j n, m) := by
  have hl := ea_tl_lt hj
  unfold f_J1_charAt_3b067 f_J0_checkIndex_df160 f_J3_checkIndex_8e157
  rw [if_neg (nI_pos (by omega)), if_pos (nI_lt hn (by omega))]
  show ea_g (nI n) (ea_tl j) _ = _
  rw [ea_g_in (vp_in_nI hn (by omega)), nI_clamp (by omega)]
  obtain ⟨c, hc, e⟩ := ea_tc_of hj n
  rw [e]
  show ea_gc ((nI c &&& 255).toUInt32 % 65536).toInt32 _ = _
  rw [pk_andN (by omega) 8 (by decide), Nat.mod_eq_of_lt (by omega)]
  rw [pk_char, pk_tn (by omega), Nat.mod_eq_of_lt (by omega)]
  unfold ea_gc
  rw [if_pos ⟨nI_pos' (by omega), (nI_leI (b := 65535) (by omega) (by decide)).mpr (by omega)⟩]
theorem ea_chr_eq {j n : Nat} (hj : j < ea_str.length) (hn : n < ea_tl j) (m : ea_M) : f_J0_charAt_5068e j (nI n) m = some (ea_tc j n, m) := by
  unfold f_J0_charAt_5068e ea_cl
  rw [ea_latin_eq]
  show (if (1 : Int32) = 0 then none else _) = _
  rw [if_neg (by decide), ea_latchr_eq hj hn]
  obtain ⟨c, hc, e⟩ := ea_tc_of hj n
  rw [e]
  show ea_gc (nI c) _ = _
  unfold ea_gc
  rw [if_pos ⟨nI_pos' (by omega), (nI_leI (b := 65535) (by omega) (by decide)).mpr (by omega)⟩]
theorem ok_ea_schr (G : ea_G) (j : Nat) (i : Int32) (m : ea_M) (hj : j < ea_str.length) (r : Int32) (m1 : ea_M) (h : ea_schr j i m = some (r, m1)) : ea_Met G yJ0_charAt_5068e F_J0_charAt_5068e [.ref (1000 + j), .int i] m (0, r, m1) := by
  obtain ⟨h1, h2⟩ := ea_g_some h
  obtain ⟨n, hn, rfl⟩ := vp_in_of h1 (by have := ea_tl_lt hj; unfold ea_tl at this; omega)
  rw [nI_clamp (by have := ea_tl_lt hj; unfold ea_tl at this; omega)] at h2
  refine ok_J0_charAt_5068e G j (nI n) m hj r m1 ?_
  rw [ea_chr_eq hj hn]
  exact h2

