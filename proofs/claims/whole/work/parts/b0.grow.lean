section GROW
/-! constructors: the cells that they make, at addresses that are variables -/
def eg_nl : List (String × Nat × MethodName × String) := [("FeatherYard$Air", 11, yX5_init, "FeatherYard"), ("FeatherYard$Court", 57, yX1_init, "FeatherYard"), ("FeatherYard$Court", 64, yX6_init, "FeatherYard"), ("FeatherYard", 22, yX2_init, "FeatherYard"), ("FeatherYard", 29, yX7_init, "FeatherYard"), ("FeatherYard", 105, yX4_init, "FeatherYard")]
def eg_Cx (G : ea_G) (U : State) : Prop := ea_Cx G U ∧ (∀ q ∈ eg_nl, va_Nw (.methodLinkNest q.1 q.2.1 q.2.2.1 q.2.2.2) U) ∧ va_AO "FeatherYard$Court" U ∧ va_AO "FeatherYard$Fates" U
theorem eg_Cx.go {G : ea_G} {s U : State} (h : eg_Cx G s) (hW : s.WarmedH U.vm) (hz : s.heap.size ≤ U.heap.size) (hq : ∀ q : Nat, q < s.heap.size → ¬ ea_A G q → U.heap[q]? = s.heap[q]?) : eg_Cx G U :=
  ⟨h.1.go hW hz hq, fun q hq => va_Nw.warmM hW (h.2.1 q hq), va_AO.moved hW.alike h.2.2.1, va_AO.moved hW.alike h.2.2.2⟩
def eg_H (G : ea_G) (F : ea_F) (w0 : va_W) (p : Program) (s : State) (mi : MethodId) (meth : Method) (c : Code) (H : Heap) (locs : List Loc) (ws : va_W) : Prop :=
  p.tables.exec = Jvm.exec ∧ c.code = ea_cc F ∧ (meth.sig.returnType = none ∧ c.maxLocals = ea_nL F ∧ s.vm.findClass (ea_own F) = some mi.cls ∧ meth.locks = false ∧ meth.name = "<init>") ∧ eg_Cx G s ∧ va_S (va_A w0 s.heap.size) s.heap H locs ∧ va_P (ea_D G) vwCl ws H ∧ va_D (va_A w0 s.heap.size) ws ∧ ∀ q, va_A w0 s.heap.size q → ea_A G q
def eg_B (G : ea_G) (w0 : va_W) (sz : Nat) (u : va_W) (t : State) : Prop := va_P (ea_D G) vwCl u t.heap ∧ va_D (va_A w0 sz) u
def eg_Ev (G : ea_G) (F : ea_F) (w0 : va_W) (Z : va_W → Prop) (pc : Nat) (lv : List (Nat × Value)) (st : List Value) (ws : va_W) (k n : Nat) : Prop :=
  ∀ (p : Program) (e : Env) (s : State) (mi : MethodId) (args : Array Value) (below : List Frame) (meth : Method) (c : Code) (H : Heap) (locs : List Loc) (lsA : Array Slot), eg_H G F w0 p s mi meth c H locs ws → lv_has lsA (ea_nL F) lv →
    W p (ea_l G) e (ea_R F) s mi args below meth c H locs k n (MQ below (va_Qv Z (eg_B G w0 s.heap.size) (va_A w0 s.heap.size)) args s (ea_mc F) (ea_ms F) (va_A w0 s.heap.size)) (F0 mi pc lsA st)
def eg_Pc (G : ea_G) (as : List Value) (w0 : va_W) (sz : Nat) : Array Value → State → Prop := va_Pc as (fun U => U.heap.size = sz ∧ eg_Cx G U ∧ va_P (ea_D G) vwCl w0 U.heap ∧ va_D (fun _ => True) w0 ∧ ∀ q, va_A w0 sz q → ea_A G q)
def eg_Met (G : ea_G) (y : MethodName) (F : ea_F) (as : List Value) (w0 : va_W) (Z : va_W → Prop) : Prop :=
  ∀ sz : Nat, Met (ea_l G) y [.code y (ea_cc F) (ea_nL F) none] (ea_R F) (eg_Pc G as w0 sz) (va_Qv Z (eg_B G w0 sz) (va_A w0 sz)) (ea_mc F) (ea_ms F) (va_A w0 sz)
variable {G : ea_G} {F F1 : ea_F} {w0 ws pre : va_W} {Z Z1 : va_W → Prop} {pc : Nat} {lv lv' : List (Nat × Value)} {st st0 As : List Value} {k n : Nat} {y : MethodName}
theorem eg_blind (G : ea_G) (as : List Value) (w0 : va_W) (sz : Nat) : FrameBlind (eg_Pc G as w0 sz) := by
  intro a U g mk h
  obtain ⟨h1, h2, h3, h4, h5, h6⟩ := h
  exact ⟨h1, h2, h3.go (U := U.calling g mk a) (State.WarmedH.refl U) (Nat.le_refl _) (fun _ _ _ => rfl), h4, h5, h6⟩
theorem eg_met {as : List Value} (hy : plainName y.cls = true) (ho : y.cls = ea_own F) (hyn : y.name = "<init>") (hn : (lg_sl as).length ≤ ea_nL F) (h : eg_Ev G F w0 Z 0 (lv_args 0 as) [] w0 0 0) : eg_Met G y F as w0 Z := by
  intro sz
  refine Met.ofW (cc := ea_cc F) (maxL := ea_nL F) (ret := none) hy rfl ?_
  intro p e s mi args below meth c s1 B hml hv
  obtain ⟨rfl, hsz, hC, hP, hD, hA⟩ := hv
  subst hsz
  rw [lg_entry_eq]
  refine h p e s mi _ below meth c s.heap [] _ ⟨B.exec, B.bytes, ⟨B.returns, hml, ?_, B.notSynchronized, ?_⟩, hC, va_S.rf, hP, hD.self, hA⟩ (lv_entry as hn)
  · rw [← ho]; exact findClass_of_methodNamed B.named
  · rw [← hyn]; exact (name_of_methodNamed B.named B.method).1
theorem eg_aload {j : Fin 4} {v : Nat} (i : Nat) (d : decode (ea_cc F) pc = .ok (.aload_n j, 1)) (hv : lv[i]? = some ((j : Nat), .ref v)) (h : eg_Ev G F w0 Z (pc + 1) lv (.ref v :: st) ws k n) : eg_Ev G F w0 Z pc lv st ws k n :=
  fun p e s mi args below meth c H locs lsA hh hl => lv_aload_n hh.1 hh.2.1 d rfl (lv_at hl i hv) (h p e s mi args below meth c H locs lsA hh hl)
theorem eg_iload {j : Fin 4} {v : Int32} (i : Nat) (d : decode (ea_cc F) pc = .ok (.iload_n j, 1)) (hv : lv[i]? = some ((j : Nat), .int v)) (h : eg_Ev G F w0 Z (pc + 1) lv (.int v :: st) ws k n) : eg_Ev G F w0 Z pc lv st ws k n :=
  fun p e s mi args below meth c H locs lsA hh hl => lv_iload_n hh.1 hh.2.1 d rfl (lv_at hl i hv) (h p e s mi args below meth c H locs lsA hh hl)
theorem eg_iconst {i : Int} {v : Int32} (d : decode (ea_cc F) pc = .ok (.iconst i, 1)) (hv : Int32.ofInt i = v) (h : eg_Ev G F w0 Z (pc + 1) lv (.int v :: st) ws k n) : eg_Ev G F w0 Z pc lv st ws k n :=
  fun p e s mi args below meth c H locs lsA hh hl => lv_iconst hh.1 hh.2.1 d hv (h p e s mi args below meth c H locs lsA hh hl)
theorem eg_bipush {i : Int} {v : Int32} (d : decode (ea_cc F) pc = .ok (.bipush i, 2)) (hv : (Int8.ofInt i).toInt32 = v) (h : eg_Ev G F w0 Z (pc + 2) lv (.int v :: st) ws k n) : eg_Ev G F w0 Z pc lv st ws k n :=
  fun p e s mi args below meth c H locs lsA hh hl => lv_bipush hh.1 hh.2.1 d hv (h p e s mi args below meth c H locs lsA hh hl)
theorem eg_sipush {i : Int} {v : Int32} (d : decode (ea_cc F) pc = .ok (.sipush i, 3)) (hv : (Int16.ofInt i).toInt32 = v) (h : eg_Ev G F w0 Z (pc + 3) lv (.int v :: st) ws k n) : eg_Ev G F w0 Z pc lv st ws k n :=
  fun p e s mi args below meth c H locs lsA hh hl => lv_sipush hh.1 hh.2.1 d hv (h p e s mi args below meth c H locs lsA hh hl)
theorem eg_dup {v : Value} (d : decode (ea_cc F) pc = .ok (.dup, 1)) (hv : v.category = 1) (h : eg_Ev G F w0 Z (pc + 1) lv (v :: v :: st) ws k n) : eg_Ev G F w0 Z pc lv (v :: st) ws k n :=
  fun p e s mi args below meth c H locs lsA hh hl => lv_dup hh.1 hh.2.1 d hv (h p e s mi args below meth c H locs lsA hh hl)
theorem eg_istore {j : Fin 4} {v : Int32} (d : decode (ea_cc F) pc = .ok (.istore_n j, 1)) (hi : (j : Nat) < ea_nL F) (hs : ((j : Nat), Value.int v) :: lv.filter (fun q => !(q.1 == (j : Nat)) && !(q.1 + 1 == (j : Nat) && q.2.category == 2)) = lv') (h : eg_Ev G F w0 Z (pc + 1) lv' st ws k n) : eg_Ev G F w0 Z pc lv (.int v :: st) ws k n :=
  fun p e s mi args below meth c H locs lsA hh hl => lv_istore_n hh.1 hh.2.1 d rfl hl hi hs (fun lsB hB => h p e s mi args below meth c H locs lsB hh hB)
theorem eg_iinc {i : Nat} {z : Int} {v w : Int32} (q : Nat) (d : decode (ea_cc F) pc = .ok (.iinc i z, 3)) (hv : lv[q]? = some (i, .int v)) (hw : v + Int32.ofInt z = w) (hi : i < ea_nL F) (hs : (i, Value.int w) :: lv.filter (fun q => !(q.1 == i) && !(q.1 + 1 == i && q.2.category == 2)) = lv') (h : eg_Ev G F w0 Z (pc + 3) lv' st ws k n) : eg_Ev G F w0 Z pc lv st ws k n :=
  fun p e s mi args below meth c H locs lsA hh hl => lv_iinc hh.1 hh.2.1 d hl hv hw hi hs (fun lsB hB => h p e s mi args below meth c H locs lsB hh hB)
theorem eg_goto {off : Int} {tgt : Nat} (d : decode (ea_cc F) pc = .ok (.goto off, 3)) (ht : (pc : Int) + off = (tgt : Int)) (h : eg_Ev G F w0 Z tgt lv st ws k n) : eg_Ev G F w0 Z pc lv st ws k n :=
  fun p e s mi args below meth c H locs lsA hh hl => lv_goto hh.1 hh.2.1 d ht (h p e s mi args below meth c H locs lsA hh hl)
theorem eg_geT {a b : Int32} {off : Int} {tgt : Nat} (d : decode (ea_cc F) pc = .ok (.if_icmp .ge off, 3)) (ht : (pc : Int) + off = (tgt : Int)) (hc : b ≤ a) (h : eg_Ev G F w0 Z tgt lv st ws k n) : eg_Ev G F w0 Z pc lv (.int b :: .int a :: st) ws k n :=
  fun p e s mi args below meth c H locs lsA hh hl => lv_icmp_ge hh.1 hh.2.1 d ht (fun _ => h p e s mi args below meth c H locs lsA hh hl) (fun z => absurd hc z)
theorem eg_geF {a b : Int32} {off : Int} {tgt : Nat} (d : decode (ea_cc F) pc = .ok (.if_icmp .ge off, 3)) (ht : (pc : Int) + off = (tgt : Int)) (hc : ¬ b ≤ a) (h : eg_Ev G F w0 Z (pc + 3) lv st ws k n) : eg_Ev G F w0 Z pc lv (.int b :: .int a :: st) ws k n :=
  fun p e s mi args below meth c H locs lsA hh hl => lv_icmp_ge hh.1 hh.2.1 d ht (fun z => absurd z hc) (fun _ => h p e s mi args below meth c H locs lsA hh hl)
theorem eg_get {idx ci fi a q0 N : Nat} {C : String} {T : u_T} {fs : List Value} {v : Value} (d : decode (ea_cc F) pc = .ok (.getfield idx, 3)) (he : ws[q0]? = some (a, .inr (ci, fs))) (hc : vwCl[ci]? = some (C, T, N)) (hN : fi < N) (hw : Cond.fieldLink (ea_own F) idx (T fi).1 (T fi).2.1 (T fi).2.2.1 ∈ lw_tbl) (hv : fs[fi]? = some v)
    (h : eg_Ev G F w0 Z (pc + 3) lv (v :: st) ws k n) : eg_Ev G F w0 Z pc lv (.ref a :: st) ws k n := by
  intro p e s mi args below meth c H locs lsA hh hl
  have hC := hh.2.2.2.1.1
  have hcw := ea_cw_in (C, T, N) (List.mem_of_getElem? hc)
  exact va_get (Ts := u_ws C T N) hh.1 hh.2.1 (fun w hw => hC.1 w (hcw w hw).1 (hcw w hw).2 args) (fun w hw => hw) hh.2.2.1.2.2.1 hC.2.1 hh.2.2.2.2.2.1 q0 he hc fi hN (hC.1 _ hw rfl args) (fun _ z => z) hv d (h p e s mi args below meth c H locs lsA hh hl)
theorem eg_put {idx ci fi a N : Nat} (q0 : Nat) {C : String} {T : u_T} {fs : List Value} {v : Value} {ty : FieldType} (d : decode (ea_cc F) pc = .ok (.putfield idx, 3)) (he : ws[q0]? = some (a, .inr (ci, fs))) (hc : vwCl[ci]? = some (C, T, N)) (hN : fi < N) (hw : Cond.fieldLink (ea_own F) idx (T fi).1 (T fi).2.1 (T fi).2.2.1 ∈ lw_tbl) (hfin : (T fi).2.2.2 = false) (hty : parseFieldDescriptor (T fi).2.2.1 = some ty) (hn : narrow ty v = v) (hfit : fits ty v = true) (hl0 : fi < fs.length)
    (h : eg_Ev G F w0 Z (pc + 3) lv st (ws.set q0 (a, .inr (ci, fs.set fi v))) k n) : eg_Ev G F w0 Z pc lv (v :: .ref a :: st) ws k n := by
  intro p e s mi args below meth c H locs lsA hh hl
  obtain ⟨x1, x2, x3, x4, x5, x6, x7, x8⟩ := hh
  have hC := x4.1
  have hcw := ea_cw_in (C, T, N) (List.mem_of_getElem? hc)
  obtain ⟨ty0, hty0, hnm⟩ := ea_ct ci (C, T, N) hc
  exact va_put (Ts := u_ws C T N) x1 x2 (fun w hw => hC.1 w (hcw w hw).1 (hcw w hw).2 args) (fun w hw => hw) ty0 hty0 hnm x3.2.2.1 hC.2.1 x6 x7 x5 q0 he hc fi hN (hC.1 _ hw rfl args) (fun _ z => z) hfin hty hn hfit hl0 d (fun H1 locs1 hP1 hD1 hS1 => h p e s mi args below meth c H1 locs1 lsA ⟨x1, x2, x3, x4, hS1, hP1, hD1, x8⟩ hl)
theorem eg_putF {idx ci fi a N : Nat} (q0 : Nat) {C : String} {T : u_T} {fs : List Value} {v : Value} {ty : FieldType} (d : decode (ea_cc F) pc = .ok (.putfield idx, 3)) (he : ws[q0]? = some (a, .inr (ci, fs))) (hc : vwCl[ci]? = some (C, T, N)) (hN : fi < N) (hw : Cond.fieldLink (ea_own F) idx (T fi).1 (T fi).2.1 (T fi).2.2.1 ∈ lw_tbl) (hfin : (T fi).2.2.2 = true) (hdecl : (T fi).1 = ea_own F) (hty : parseFieldDescriptor (T fi).2.2.1 = some ty) (hn : narrow ty v = v) (hfit : fits ty v = true) (hl0 : fi < fs.length)
    (h : eg_Ev G F w0 Z (pc + 3) lv st (ws.set q0 (a, .inr (ci, fs.set fi v))) k n) : eg_Ev G F w0 Z pc lv (v :: .ref a :: st) ws k n := by
  intro p e s mi args below meth c H locs lsA hh hl
  obtain ⟨x1, x2, x3, x4, x5, x6, x7, x8⟩ := hh
  have hC := x4.1
  have hcw := ea_cw_in (C, T, N) (List.mem_of_getElem? hc)
  obtain ⟨ty0, hty0, hnm⟩ := ea_ct ci (C, T, N) hc
  exact va_putF (Ts := u_ws C T N) x1 x2 (fun w hw => hC.1 w (hcw w hw).1 (hcw w hw).2 args) (fun w hw => hw) ty0 hty0 hnm x3.2.2.1 hC.2.1 x6 x7 x5 q0 he hc fi hN (hC.1 _ hw rfl args) (fun _ z => z) hfin x3.2.2.2.2 hdecl hty hn hfit hl0 d (fun H1 locs1 hP1 hD1 hS1 => h p e s mi args below meth c H1 locs1 lsA ⟨x1, x2, x3, x4, hS1, hP1, hD1, x8⟩ hl)
theorem eg_new {idx ci N : Nat} {C : String} {T : u_T} {ty : Nat → FieldType} {fs : List Value} (d : decode (ea_cc F) pc = .ok (.new idx, 3)) (hc : vwCl[ci]? = some (C, T, N)) (hty : ∀ j, j < N → parseFieldDescriptor (T j).2.2.1 = some (ty j)) (hfs : ∀ j, j < N → defaultValue (ty j) = vp_V fs j) (w1 : Cond.classLink (ea_own F) idx C ∈ lw_tbl) (w2 : Cond.instantiable C N ∈ lw_tbl) (w3 : Cond.initialized C ∈ lw_tbl) (hk : k + 1 ≤ (ea_R F).cells) (hn : n + N ≤ (ea_R F).slots)
    (h : ∀ q : Nat, eg_Ev G F w0 Z (pc + 3) lv (.ref q :: st) (ws ++ [(q, .inr (ci, fs))]) (k + 1) (n + N)) : eg_Ev G F w0 Z pc lv st ws k n := by
  intro p e s mi args below meth c H locs lsA hh hl
  obtain ⟨x1, x2, x3, x4, x5, x6, x7, x8⟩ := hh
  have hC := x4.1
  have hcw := ea_cw_in (C, T, N) (List.mem_of_getElem? hc)
  exact va_new (Ts := u_ws C T N) x1 x2 (fun w hw => hC.1 w (hcw w hw).1 (hcw w hw).2 args) (fun w hw => hw) ty hty x3.2.2.1 (hC.1 _ w1 rfl args) (hC.1 _ w2 rfl args) (hC.1 _ w3 rfl args) hC.2.1 x6 x7 x5 (fun q hq => Or.inr hq) hc hfs hk hn d (fun q H1 hP1 hD1 hS1 => h q p e s mi args below meth c H1 locs lsA ⟨x1, x2, x3, x4, hS1, hP1, hD1, x8⟩ hl)
theorem eg_newa {atype : ArrayType} {ty : FieldType} {v : Int32} {N : Nat} {f : (Nat → Int32) ⊕ (Nat → Int64) ⊕ (Nat → UInt32) ⊕ (Nat → UInt64) ⊕ (Nat → Option Nat)} (kd : Nat) (d : decode (ea_cc F) pc = .ok (.newarray atype, 2)) (hat : newarray.typeOf atype = ty) (hw : Cond.arrayClass (newarray.typeOf atype) ∈ lw_tbl) (hra : ∀ U c, va_RA U c ty = (U.vm.findClass ("[" ++ ty.toString) = some c)) (hkd : (ea_tys G)[kd]? = some (ea_cA G kd, ty)) (ha : ∀ cA : ClassId, vp_cell cA (N, f) = arrV cA N (fun _ => defaultValue ty)) (hv : ¬ v < 0) (hN : v.toNatClampNeg = N) (hby : N * componentBytes ty ≤ 536870912) (hk : k + 1 ≤ (ea_R F).cells) (hn : n + N ≤ (ea_R F).slots)
    (h : ∀ q : Nat, eg_Ev G F w0 Z (pc + 2) lv (.ref q :: st) (ws ++ [(q, .inl (ea_cA G kd, N, f))]) (k + 1) (n + N)) : eg_Ev G F w0 Z pc lv (.int v :: st) ws k n := by
  intro p e s mi args below meth c H locs lsA hh hl
  obtain ⟨x1, x2, x3, x4, x5, x6, x7, x8⟩ := hh
  have hC := x4.1
  refine va_newa (a0 := (N, f)) x1 x2 (hC.1 _ hw rfl args) hat hC.2.1 x6 x7 x5 (fun q hq => Or.inr hq) ha hv hN hby hk hn d (fun q cA H1 hK1 hP1 hD1 hS1 => ?_)
  have e1 : cA = ea_cA G kd := by
    have h1 := (hC.2.1.2 kd _ hkd).2
    have h2 := (hK1.2 5 (cA, ty) rfl).2
    rw [hra] at h1 h2
    exact Option.some.inj (h2.symm.trans h1)
  subst e1
  exact h q p e s mi args below meth c H1 locs lsA ⟨x1, x2, x3, x4, hS1, hP1, hD1, x8⟩ hl
theorem eg_newq {C : String} {idx : Nat} {v : Int32} {N : Nat} (kd : Nat) (d : decode (ea_cc F) pc = .ok (.anewarray idx, 3)) (hw : Cond.classLink (ea_own F) idx C ∈ lw_tbl) (hover : ∀ U, eg_Cx G U → va_AO C U) (hkd : (ea_tys G)[kd]? = some (ea_cA G kd, .object C)) (hv : ¬ v < 0) (hN : v.toNatClampNeg = N) (hby : N * 4 ≤ 536870912) (hk : k + 1 ≤ (ea_R F).cells) (hn : n + N ≤ (ea_R F).slots)
    (h : ∀ q : Nat, eg_Ev G F w0 Z (pc + 3) lv (.ref q :: st) (ws ++ [(q, .inl (ea_cA G kd, N, .inr (.inr (.inr (.inr (fun _ => none))))))]) (k + 1) (n + N)) : eg_Ev G F w0 Z pc lv (.int v :: st) ws k n := by
  intro p e s mi args below meth c H locs lsA hh hl
  obtain ⟨x1, x2, x3, x4, x5, x6, x7, x8⟩ := hh
  have hC := x4.1
  refine va_newq x1 x2 x3.2.2.1 (hC.1 _ hw rfl args) (hover _ x4) hC.2.1 x6 x7 x5 (fun q hq => Or.inr hq) hv hN hby hk hn d (fun q cA H1 hK1 hP1 hD1 hS1 => ?_)
  have e1 : cA = ea_cA G kd := by
    obtain ⟨_, _, _, _, _, h1⟩ := (hC.2.1.2 kd _ hkd).2
    obtain ⟨_, _, _, _, _, h2⟩ := (hK1.2 5 (cA, .object C) rfl).2
    exact Option.some.inj (h2.symm.trans h1)
  subst e1
  exact h q p e s mi args below meth c H1 locs lsA ⟨x1, x2, x3, x4, hS1, hP1, hD1, x8⟩ hl
theorem eg_alen {a q0 kd : Nat} {x : vp_A} {ty : FieldType} {v : Int32} (d : decode (ea_cc F) pc = .ok (.arraylength, 1)) (he : ws[q0]? = some (a, .inl (ea_cA G kd, x))) (hkd : (ea_tys G)[kd]? = some (ea_cA G kd, ty)) (hv : Int32.ofNat x.1 = v) (h : eg_Ev G F w0 Z (pc + 1) lv (.int v :: st) ws k n) : eg_Ev G F w0 Z pc lv (.ref a :: st) ws k n :=
  fun p e s mi args below meth c H locs lsA hh hl => va_alen hh.1 hh.2.1 hh.2.2.2.1.1.2.1 hh.2.2.2.2.2.1 q0 kd he hkd hv d (h p e s mi args below meth c H locs lsA hh hl)
theorem eg_aast {a q0 kd qk ci N v : Nat} {r : vw_C} {vs : List Value} {f : Nat → Option Nat} {i : Int32} (d : decode (ea_cc F) pc = .ok (.aastore, 1)) (he : ws[q0]? = some (a, .inl (ea_cA G kd, N, .inr (.inr (.inr (.inr f)))))) (hkd : (ea_tys G)[kd]? = some (ea_cA G kd, .object r.1)) (hv : ws[qk]? = some (v, .inr (ci, vs))) (hc : vwCl[ci]? = some r) (hi : vp_in i N)
    (h : eg_Ev G F w0 Z (pc + 1) lv st (ws.set q0 (a, .inl (ea_cA G kd, N, .inr (.inr (.inr (.inr (va_up f i.toNatClampNeg (some v)))))))) k n) : eg_Ev G F w0 Z pc lv (.ref v :: .int i :: .ref a :: st) ws k n := by
  intro p e s mi args below meth c H locs lsA hh hl
  obtain ⟨x1, x2, x3, x4, x5, x6, x7, x8⟩ := hh
  exact va_astq x1 x2 x4.1.2.1 x6 x7 x5 q0 kd qk ci he hkd hv hc hi d (fun H1 locs1 hP1 hD1 hS1 => h p e s mi args below meth c H1 locs1 lsA ⟨x1, x2, x3, x4, hS1, hP1, hD1, x8⟩ hl)
theorem eg_iast {a q0 N : Nat} {f : Nat → Int32} {i x : Int32} (d : decode (ea_cc F) pc = .ok (.iastore, 1)) (he : ws[q0]? = some (a, .inl (ea_cA G 0, N, .inl f))) (hi : vp_in i N)
    (h : eg_Ev G F w0 Z (pc + 1) lv st (ws.set q0 (a, .inl (ea_cA G 0, N, .inl (upd f i.toNatClampNeg x)))) k n) : eg_Ev G F w0 Z pc lv (.int x :: .int i :: .ref a :: st) ws k n := by
  intro p e s mi args below meth c H locs lsA hh hl
  obtain ⟨x1, x2, x3, x4, x5, x6, x7, x8⟩ := hh
  exact va_iast x1 x2 x4.1.2.1 x6 x7 x5 q0 0 he rfl hi d (fun H1 locs1 hP1 hD1 hS1 => h p e s mi args below meth c H1 locs1 lsA ⟨x1, x2, x3, x4, hS1, hP1, hD1, x8⟩ hl)
theorem eg_obj {idx a : Nat} (d : decode (ea_cc F) pc = .ok (.invokespecial idx, 3)) (w1 : Cond.methodLink (ea_own F) idx Lib.objectInit ∈ lw_tbl) (w2 : Cond.instanceMethod Lib.objectInit ∈ lw_tbl) (w3 : Cond.code Lib.objectInit ⟨#[0xb1]⟩ 1 none ∈ lw_tbl) (hf : 1 ≤ (ea_R F).frames) (hlo : (st.map fun v => v.category).sum + 12 ≤ (ea_R F).locals)
    (h : eg_Ev G F w0 Z (pc + 3) lv st ws k n) : eg_Ev G F w0 Z pc lv (.ref a :: st) ws k n := by
  intro p e s mi args below meth c H locs lsA hh hl
  have hC := hh.2.2.2.1.1
  exact W.objInit hh.1 hh.2.1 hh.2.2.1.2.2.1 (hC.1 _ w1 rfl args) (hC.1 _ w2 rfl args) (hC.1 _ w3 rfl args) rfl (by rw [hh.2.2.1.2.1]; exact hl.1) rfl d hf (by show 2 * 0 + _ + 12 ≤ _; omega) (h p e s mi args below meth c H locs lsA hh hl)
theorem eg_ret (d : decode (ea_cc F) pc = .ok (.return_, 1)) (hk : k ≤ ea_mc F) (hn : n ≤ ea_ms F) (hZ : Z ws) : eg_Ev G F w0 Z pc lv [] ws k n := by
  intro p e s mi args below meth c H locs lsA hh hl
  obtain ⟨x1, x2, x3, x4, x5, x6, x7, x8⟩ := hh
  refine W.widen hk hn ?_
  exact W.vret x1 x2 x3.1 (fun t ht hW => ⟨⟨ws, rfl, hZ, by rw [ht]; exact x6, x7⟩, x5.F ht⟩) x5.2.2 d x3.2.2.2.1
/-- behind a call of a constructor: its cells beside the rest -/
theorem eg_join {D : va_G} {A0 : Nat → Prop} {H H1 : Heap} {b : Nat} {e1 : va_E} {w1 : va_W} (hP : va_P D vwCl (pre ++ [(b, e1)]) H) (hD : va_D A0 (pre ++ [(b, e1)])) (hk : ∀ q : Nat, q < H.size → ¬ va_A [(b, e1)] H.size q → H1[q]? = H[q]?) (hF : ∀ q, va_A [(b, e1)] H.size q → A0 q) (hP1 : va_P D vwCl w1 H1) (hD1 : va_D (va_A [(b, e1)] H.size) w1) : va_P D vwCl (pre ++ w1) H1 ∧ va_D A0 (pre ++ w1) := by
  have hb : (pre ++ [(b, e1)])[pre.length]? = some (b, e1) := by rw [List.getElem?_append_right (Nat.le_refl _), Nat.sub_self]; rfl
  have hpre : ∀ (i : Nat) (q : Nat × va_E), pre[i]? = some q → (pre ++ [(b, e1)])[i]? = some q := fun i q h => by rw [List.getElem?_append_left (List.getElem?_eq_some_iff.mp h).1]; exact h
  have apart : ∀ (i : Nat) (q : Nat × va_E), pre[i]? = some q → q.1 < H.size ∧ ¬ va_A [(b, e1)] H.size q.1 := fun i q h => by
    have h1 := hpre i q h
    have hl := (hP i q h1).lt
    refine ⟨hl, fun z => ?_⟩
    rcases z with ⟨k2, e, z⟩ | z
    · have hz : k2 < 1 := (List.getElem?_eq_some_iff.mp z).1
      rw [show k2 = 0 by omega] at z
      have hqb : b = q.1 := by
        have : some (b, e1) = some (q.1, e) := z
        cases this; rfl
      have := hD.1 i pre.length q (b, e1) h1 hb hqb.symm
      have := (List.getElem?_eq_some_iff.mp h).1
      omega
    · omega
  refine ⟨va_P.app (fun i q h => ((hP i q (hpre i q h)).kept (hk q.1 (apart i q h).1 (apart i q h).2))) hP1, va_D.app ⟨fun i j x y hx hy hxy => hD.1 i j x y (hpre i x hx) (hpre j y hy) hxy, fun i q h => hD.2 i q (hpre i q h)⟩ (hD1.weaken (fun _ q _ h => hF q.1 h)) (fun i j x y hx hy hxy => ?_)⟩
  exact (apart i x hx).2 (by rw [hxy]; exact hD1.2 j y hy)
theorem eg_callA {b : Nat} {e1 : va_E} {idx : Nat} (hM : eg_Met G y F1 (.ref b :: As) [(b, e1)] Z1) (hs : st0 = As.reverse ++ .ref b :: st)
    (hr : ∀ (p : Program) (e : Env) (s : State) (mi : MethodId) (args : Array Value) (below : List Frame) (meth : Method) (c : Code) (H : Heap) (locs : List Loc) (lsA : Array Slot), eg_H G F w0 p s mi meth c H locs (pre ++ [(b, e1)]) → lv_has lsA (ea_nL F) lv → PreS s H (eg_Pc G (.ref b :: As) [(b, e1)] H.size) (.ref b :: As) → va_Run p (ea_l G) e (ea_R F) s mi args below meth c H locs k n (ea_mc F1) (ea_ms F1) (F0 mi pc lsA st0) st (va_Qv Z1 (eg_B G [(b, e1)] H.size) (va_A [(b, e1)] H.size) (Value.ref b :: As).toArray) (va_A [(b, e1)] H.size))
    (h : ∀ w1 : va_W, Z1 w1 → eg_Ev G F w0 Z (pc + 3) lv st (pre ++ w1) (k + ea_mc F1) (n + ea_ms F1)) : eg_Ev G F w0 Z pc lv st0 (pre ++ [(b, e1)]) k n := by
  intro p e s mi args below meth c H locs lsA hh hl
  obtain ⟨x1, x2, x3, x4, x5, x6, x7, x8⟩ := id hh
  have hb : (pre ++ [(b, e1)])[pre.length]? = some (b, e1) := by rw [List.getElem?_append_right (Nat.le_refl _), Nat.sub_self]; rfl
  have hF : ∀ q, va_A [(b, e1)] H.size q → va_A w0 s.heap.size q := fun q z => by
    rcases z with ⟨k2, e, z⟩ | z
    · have hz : k2 < 1 := (List.getElem?_eq_some_iff.mp z).1
      rw [show k2 = 0 by omega] at z
      have hqb : q = b := by
        have : some (b, e1) = some (q, e) := z
        cases this; rfl
      rw [hqb]
      exact x7.2 _ _ hb
    · exact Or.inr (Nat.le_trans x5.1 z)
  have hP0 : va_P (ea_D G) vwCl [(b, e1)] H := fun i q hq => by
    have hz : i < 1 := (List.getElem?_eq_some_iff.mp hq).1
    rw [show i = 0 by omega] at hq
    cases hq
    exact x6 _ _ hb
  have hD0 : va_D (fun _ => True) [(b, e1)] := ⟨fun i j x y hx hy _ => by
    have hz : i < 1 := (List.getElem?_eq_some_iff.mp hx).1
    have hz' : j < 1 := (List.getElem?_eq_some_iff.mp hy).1
    omega, fun _ _ _ => trivial⟩
  refine va_callv (hr p e s mi args below meth c H locs lsA hh hl ⟨eg_blind _ _ _ _, fun U hU hW => ⟨rfl, by rw [hU], ?_, by rw [hU]; exact hP0, hD0, fun q hq => x8 q (hF q hq)⟩⟩) x5 (fun q _ hq => hF q hq) hF (fun u t H1 locs1 ht hvm hZ hB hz hkk hS1 => ?_)
  · exact x4.go hW (by rw [hU]; exact x5.1) (fun q h1 h2 => by rw [hU]; exact x5.2.1 q h1 (fun z => h2 (x8 q z)))
  · obtain ⟨hP1, hD1⟩ := hB
    rw [ht] at hP1
    obtain ⟨hP2, hD2⟩ := eg_join x6 x7 hkk hF hP1 hD1
    exact h u hZ p e s mi args below meth c H1 locs1 lsA ⟨x1, x2, x3, x4, hS1, hP2, hD2, x8⟩ hl
theorem eg_callI {b : Nat} {e1 : va_E} {idx np : Nat} (d : decode (ea_cc F) pc = .ok (.invokespecial idx, 3)) (hl : Cond.methodLink (ea_own F) idx y ∈ lw_tbl) (hm : ea_MB y F1 np) (hi : Cond.instanceMethod y ∈ lw_tbl) (hnm : y.name = "<init>") (hret : ea_ret F1 = none) (hM : eg_Met G y F1 (.ref b :: As) [(b, e1)] Z1) (hs : st0 = As.reverse ++ .ref b :: st) (hn : As.length = np) (hw : (st.map fun v => v.category).sum ≤ 8) (hk : ea_ok F F1 k n = true)
    (h : ∀ w1 : va_W, Z1 w1 → eg_Ev G F w0 Z (pc + 3) lv st (pre ++ w1) (k + ea_mc F1) (n + ea_ms F1)) : eg_Ev G F w0 Z pc lv st0 (pre ++ [(b, e1)]) k n := by
  obtain ⟨k1, k2, k3, k4, k5, k6⟩ := ea_ok_of hk
  refine eg_callA (idx := idx) hM hs (fun p e s mi args below meth c H locs lsA hh hl' hp => ?_) h
  have hC := hh.2.2.2.1.1
  have hB := ea_CallB (args := args) hC hl hm k1 k2 k5 k6
  rw [hret] at hB
  exact va_runI (Ts := []) ⟨hh.1, hh.2.1, hh.2.2.1.2.1, hh.2.2.1.2.2.1, fun _ h => by cases h⟩ (hM H.size) ⟨hB, hnm, hC.1 _ hi rfl args⟩ hp rfl hn hl'.1 hs (lv_room hw) d ⟨k3, k4⟩
theorem eg_callN {b : Nat} {e1 : va_E} {idx np : Nat} {host : String} (d : decode (ea_cc F) pc = .ok (.invokespecial idx, 3)) (hl : (ea_own F, idx, y, host) ∈ eg_nl) (hm : ea_MB y F1 np) (hi : Cond.instanceMethod y ∈ lw_tbl) (hnm : y.name = "<init>") (hret : ea_ret F1 = none) (hM : eg_Met G y F1 (.ref b :: As) [(b, e1)] Z1) (hs : st0 = As.reverse ++ .ref b :: st) (hn : As.length = np) (hw : (st.map fun v => v.category).sum ≤ 8) (hk : ea_ok F F1 k n = true)
    (h : ∀ w1 : va_W, Z1 w1 → eg_Ev G F w0 Z (pc + 3) lv st (pre ++ w1) (k + ea_mc F1) (n + ea_ms F1)) : eg_Ev G F w0 Z pc lv st0 (pre ++ [(b, e1)]) k n := by
  obtain ⟨k1, k2, k3, k4, k5, k6⟩ := ea_ok_of hk
  refine eg_callA (idx := idx) hM hs (fun p e s mi args below meth c H locs lsA hh hl' hp => ?_) h
  have hC := hh.2.2.2.1.1
  obtain ⟨b1, b2, b3, b4⟩ := hm
  rw [hret] at b2
  refine va_runIN (Ts := []) ⟨hh.1, hh.2.1, hh.2.2.1.2.1, hh.2.2.1.2.2.1, fun _ h => by cases h⟩ (hM H.size) ⟨⟨⟨k5, k6, k1, k2, fun w hw a' U hW => ?_, List.mem_cons_self⟩, hC.1 _ b2 rfl args, hC.1 _ b1 rfl args, b3, fun sig h => ?_, va_Nw.use rfl (hh.2.2.2.1.2.1 _ hl)⟩, hnm, hC.1 _ hi rfl args⟩ hp rfl hn hl'.1 hs (lv_room hw) d ⟨k3, k4⟩
  · rw [List.mem_singleton.mp hw]
    exact word_at hW (good_of_word (w := .code y (ea_cc F1) (ea_nL F1) none) rfl) (hC.1 _ b2 rfl args)
  · rw [h] at b4
    exact (Option.some.inj b4).symm
end GROW
