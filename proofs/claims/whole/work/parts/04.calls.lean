section EVC
variable {τ : Type} {G : ea_G} {F F1 : ea_F} {res r1 : ea_O} {pc : Nat} {ls : List (Option Value)} {st st0 As : List Value} {m : ea_M} {k n : Nat} {x : Option τ} {Φ : τ → Prop} {y : MethodName}
/-- a method's contract: from every state that holds m, called with as, it comes to r1 -/
def ea_Pc (G : ea_G) (as : List Value) (m : ea_M) : Array Value → State → Prop := fun v U => v = (as.map (ea_tv G)).toArray ∧ ea_Cx G U ∧ va_P (ea_D G) vwCl (ea_ws G m) U.heap
def ea_Met (G : ea_G) (y : MethodName) (F : ea_F) (as : List Value) (m : ea_M) (r : ea_O) : Prop :=
  vx_Met (ea_l G) y [.code y (ea_cc F) (ea_nL F) (ea_ret F)] (ea_R F) (ea_Pc G as m) (ea_Q G F r) (ea_X G r) (ea_mc F) (ea_ms F) (ea_A G)
/-- ... of a method with a table -/
def ea_MetH (G : ea_G) (y : MethodName) (F : ea_F) (as : List Value) (m : ea_M) (r : ea_O) : Prop :=
  vx_Met (ea_l G) y [.codeWith y (ea_cc F) (ea_nL F) (ea_ret F) (ea_tb F)] (ea_R F) (ea_Pc G as m) (ea_Q G F r) (ea_X G r) (ea_mc F) (ea_ms F) (ea_A G)
theorem ea_Pc_blind (G : ea_G) (as : List Value) (m : ea_M) : FrameBlind (ea_Pc G as m) := by
  intro a U g mk h
  obtain ⟨h1, h2, h3⟩ := h
  exact ⟨h1, h2.go (U := U.calling g mk a) (State.WarmedH.refl U) (Nat.le_refl _) (fun _ _ _ => rfl), h3⟩
theorem ea_args (i : Nat) : ∀ (vs : List Value), (∀ v ∈ vs, v.category = 1) → ∀ (j : Nat) (v : Value), vs[j]? = some v → (i + j, v) ∈ lv_args i vs := by
  intro vs
  induction vs generalizing i with
  | nil => intro _ j v h; simp at h
  | cons u us ih =>
    intro hc j v h
    have hu : ¬ u.category = 2 := by rw [hc u List.mem_cons_self]; decide
    rw [lv_args, if_neg hu]
    cases j with
    | zero => simp at h; subst h; exact List.mem_cons_self
    | succ j =>
      have := ih (i + 1) (fun v hv => hc v (List.mem_cons_of_mem _ hv)) j v (by simpa using h)
      exact List.mem_cons_of_mem _ (by rw [show i + (j + 1) = i + 1 + j by omega]; exact this)
theorem ea_lsl : ∀ (vs : List Value), (∀ v ∈ vs, v.category = 1) → (lg_sl vs).length = vs.length := by
  intro vs
  induction vs with
  | nil => intro _; rfl
  | cons u us ih =>
    intro hc
    have hu : ¬ u.category = 2 := by rw [hc u List.mem_cons_self]; decide
    have h1 := ih (fun v hv => hc v (List.mem_cons_of_mem _ hv))
    simp only [lg_sl, List.flatMap_cons] at h1 ⊢
    rw [if_neg hu, List.length_append, h1]
    simp; omega
theorem ea_entry {as : List Value} (hn : as.length ≤ ea_nL F) (hc : ∀ v ∈ as, v.category = 1) : ea_lh G ((lg_sl (as.map (ea_tv G)) ++ List.replicate (ea_nL F - (lg_sl (as.map (ea_tv G))).length) Slot.unset).toArray) (ea_nL F) (as.map some ++ List.replicate (ea_nL F - as.length) none) := by
  have hc' : ∀ v ∈ as.map (ea_tv G), v.category = 1 := by
    intro v hv
    obtain ⟨u, hu, rfl⟩ := List.mem_map.mp hv
    rw [ea_tv_cat]; exact hc u hu
  have hl := lv_entry (as.map (ea_tv G)) (n := ea_nL F) (by rw [ea_lsl _ hc', List.length_map]; exact hn)
  refine ⟨hl.1, hl.2.1, fun j v hj => ?_⟩
  rw [List.getElem?_append] at hj
  split at hj
  · rename_i q
    rw [List.getElem?_map] at hj
    cases h1 : as[j]? with
    | none => rw [h1] at hj; cases hj
    | some u =>
      rw [h1] at hj
      cases hj
      refine ⟨hc v (List.mem_of_getElem? h1), hl.2.2 (j, ea_tv G v) ?_⟩
      have h2 := ea_args 0 (as.map (ea_tv G)) hc' j (ea_tv G v) (by rw [List.getElem?_map, h1]; rfl)
      rwa [Nat.zero_add] at h2
  · rw [List.getElem?_replicate] at hj
    split at hj <;> cases hj
theorem ea_ofWF {l : Launch} {ws ws' : List Cond} {rm : Room} {Pc : Array Value → State → Prop} {Qc : Array Value → State → Outcome → State → Prop} {XC : String → State → State → Prop} {mc ms : Nat} {free : Addr → Prop} {cc : ByteArray} {maxL : Nat} {ret : Option FieldType}
    (hy : plainFor y = true) (hw : ws = Cond.code y cc maxL ret :: ws')
    (body : ∀ p e s m args below meth c s₁, BodyLoose p l y (headSpec ws rm) cc maxL ret e s m args below meth c s₁ → c.maxLocals = maxL → (∀ x ∈ c.exceptionTable.toList, False) → Pc args s →
      W p l e (headSpec ws rm).room s m args below meth c s.heap [] 0 0 (vx_MQ below Qc XC args s mc ms free) (entryFrame m args maxL)) : vx_Met l y ws rm Pc Qc XC mc ms free := by
  refine MetFree.of_bodySF (code := cc) (maxLocals := maxL) (ret := ret) hy ?_ ?_
  · intro args s m h hn
    obtain ⟨meth, c, h1, h2, h3, h4, h5, h6, -, -⟩ := Cond.code_spec hn (atoms_spec (ws := ws) h _ (by rw [hw]; exact List.mem_cons_self))
    exact ⟨meth, c, h1, h2, h3, h4, h5, h6⟩
  · intro p e s m args below meth c s₁ B hml hP _
    have hh0 : s₁.heap = s.heap := by rw [B.state]; rfl
    have ht : ∀ x ∈ c.exceptionTable.toList, False := by
      obtain ⟨meth9, c9, h1, h2, -, -, -, -, h7, -⟩ := Cond.code_spec B.named (atoms_spec (ws := ws) B.pre _ (by rw [hw]; exact List.mem_cons_self))
      cases Option.some.inj (h1.symm.trans B.method)
      cases Option.some.inj (h2.symm.trans (Stand.of_body B).code)
      intro x hx
      rw [Array.isEmpty_iff.mp h7] at hx
      cases hx
    obtain ⟨t, a1, o, b1, b2, b3⟩ := body p e s m args below meth c s₁ B hml ht hP s₁ hh0 (Stand.of_body B)
    exact ⟨t, o, a1, b1, b2, b3⟩
theorem ea_met {as : List Value} (hy : plainFor y = true) (ho : y.cls = ea_own F) (hb : ea_tb F = []) (hn : as.length ≤ ea_nL F) (hc : ∀ v ∈ as, v.category = 1)
    (h : ea_Ev G F res 0 (as.map some ++ List.replicate (ea_nL F - as.length) none) [] m 0 0) : ea_Met G y F as m res := by
  refine ea_ofWF (cc := ea_cc F) (maxL := ea_nL F) (ret := ea_ret F) hy rfl ?_
  intro p e s mi args below meth c s1 B hml ht hP
  obtain ⟨rfl, hC, hP⟩ := hP
  rw [lg_entry_eq]
  refine h p e s mi _ below meth c s.heap [] _ ⟨B.exec, B.bytes, ⟨B.returns, hml, ?_, B.notSynchronized, ?_⟩, hC, va_S.rf, hP⟩ (ea_entry hn hc)
  · rw [← ho]; exact findClass_of_methodNamed B.named
  · rw [hb]
    show _ = []
    exact List.eq_nil_iff_forall_not_mem.mpr fun z hz => ht z hz
theorem ea_metH {as : List Value} (hy : plainName y.cls = true) (ho : y.cls = ea_own F) (hn : as.length ≤ ea_nL F) (hc : ∀ v ∈ as, v.category = 1)
    (h : ea_Ev G F res 0 (as.map some ++ List.replicate (ea_nL F - as.length) none) [] m 0 0) : ea_MetH G y F as m res := by
  refine vx_ofWH (cc := ea_cc F) (maxL := ea_nL F) (ret := ea_ret F) (hh := ea_tb F) hy rfl ?_
  intro p e s mi args below meth c s1 B hml hP
  obtain ⟨rfl, hC, hP⟩ := hP
  have ht := vx_table (x := y) B (atoms_spec (ws := [.codeWith y (ea_cc F) (ea_nL F) (ea_ret F) (ea_tb F)]) B.pre _ List.mem_cons_self)
  rw [lg_entry_eq]
  refine h p e s mi _ below meth c s.heap [] _ ⟨B.exec, B.bytes, ⟨B.returns, hml, ?_, B.notSynchronized, ht⟩, hC, va_S.rf, hP⟩ (ea_entry hn hc)
  rw [← ho]; exact findClass_of_methodNamed B.named
/-- a call from here: it runs to r1 -/
def ea_Rn (G : ea_G) (F F1 : ea_F) (r1 : ea_O) (pc : Nat) (ls : List (Option Value)) (st0 st : List Value) (m : ea_M) (k n : Nat) : Prop :=
  ∀ (p : Program) (e : Env) (s : State) (mi : MethodId) (args : Array Value) (below : List Frame) (meth : Method) (c : Code) (H : Heap) (locs : List Loc) (lsA : Array Slot), ea_H G F p s mi meth c H locs m → ea_lh G lsA (ea_nL F) ls →
    ∃ a : Array Value, vx_Run p (ea_l G) e (ea_R F) s mi args below meth c H locs k n (ea_mc F1) (ea_ms F1) (F0 mi pc lsA (st0.map (ea_tv G))) (st.map (ea_tv G)) (ea_Q G F1 r1 a) (ea_X G r1) (ea_A G)
def ea_ok (F F1 : ea_F) (k n : Nat) : Bool := decide ((ea_R F1).frames + 1 ≤ (ea_R F).frames) && decide (8 + (ea_nL F1 + 11) + (ea_R F1).locals ≤ (ea_R F).locals) && decide (k + ea_mc F1 ≤ (ea_R F).cells) && decide (n + ea_ms F1 ≤ (ea_R F).slots) && decide ((ea_R F1).cells = ea_mc F1) && decide ((ea_R F1).slots = ea_ms F1)
theorem ea_ok_of (h : ea_ok F F1 k n = true) : (ea_R F1).frames + 1 ≤ (ea_R F).frames ∧ 8 + (ea_nL F1 + 11) + (ea_R F1).locals ≤ (ea_R F).locals ∧ k + ea_mc F1 ≤ (ea_R F).cells ∧ n + ea_ms F1 ≤ (ea_R F).slots ∧ (ea_R F1).cells = ea_mc F1 ∧ (ea_R F1).slots = ea_ms F1 := by
  simp only [ea_ok, Bool.and_eq_true, decide_eq_true_eq] at h
  obtain ⟨⟨⟨⟨⟨h1, h2⟩, h3⟩, h4⟩, h5⟩, h6⟩ := h
  exact ⟨h1, h2, h3, h4, h5, h6⟩
/-- what is known of a method that is called -/
def ea_MB (y : MethodName) (F1 : ea_F) (np : Nat) : Prop := Cond.initialized y.cls ∈ lw_tbl ∧ Cond.code y (ea_cc F1) (ea_nL F1) (ea_ret F1) ∈ lw_tbl ∧ (y.cls ≠ "java/lang/invoke/MethodHandle" ∧ y.cls ≠ "java/lang/invoke/VarHandle") ∧ (parseMethodDescriptor y.desc).map (fun d => d.parameters.length) = some np
def ea_MV (y : MethodName) (F1 : ea_F) (np : Nat) : Prop := ea_MB y F1 np ∧ Cond.instanceMethod y ∈ lw_tbl ∧ Cond.selects y.cls y y ∈ lw_tbl
def ea_MS (y : MethodName) (F1 : ea_F) (np : Nat) : Prop := ea_MB y F1 np ∧ Cond.static y ∈ lw_tbl
def ea_MSH (y : MethodName) (F1 : ea_F) (np : Nat) : Prop := (Cond.initialized y.cls ∈ lw_tbl ∧ Cond.codeWith y (ea_cc F1) (ea_nL F1) (ea_ret F1) (ea_tb F1) ∈ lw_tbl ∧ (y.cls ≠ "java/lang/invoke/MethodHandle" ∧ y.cls ≠ "java/lang/invoke/VarHandle") ∧ (parseMethodDescriptor y.desc).map (fun d => d.parameters.length) = some np) ∧ Cond.static y ∈ lw_tbl
theorem ea_CallB {R : Room} {s : State} {args : Array Value} {own : String} {idx np mc ms : Nat} (hC : ea_Cx G s) (hl : Cond.methodLink own idx y ∈ lw_tbl) (hb : ea_MB y F1 np) (h1 : (ea_R F1).frames + 1 ≤ R.frames) (h2 : 8 + (ea_nL F1 + 11) + (ea_R F1).locals ≤ R.locals) (h3 : (ea_R F1).cells = mc) (h4 : (ea_R F1).slots = ms) :
    CallB R s args own idx y (ea_cc F1) (ea_nL F1) (ea_ret F1) [.code y (ea_cc F1) (ea_nL F1) (ea_ret F1)] (ea_R F1) mc ms np := by
  obtain ⟨b1, b2, b3, b4⟩ := hb
  refine ⟨h3, h4, h1, h2, fun w hw a' U hW => ?_, List.mem_cons_self, hC.1 _ b2 rfl args, hC.1 _ b1 rfl args, b3, fun sig h => ?_, hC.1 _ hl rfl args⟩
  · rw [List.mem_singleton.mp hw]
    exact word_at hW (good_of_word (w := .code y (ea_cc F1) (ea_nL F1) (ea_ret F1)) rfl) (hC.1 _ b2 rfl args)
  · rw [h] at b4
    exact (Option.some.inj b4).symm
theorem ea_catsum (G : ea_G) (st : List Value) : ((st.map (ea_tv G)).map fun v => v.category).sum = (st.map fun v => v.category).sum := by
  rw [List.map_map]
  congr 1
  apply List.map_congr_left
  intro v _
  exact ea_tv_cat G v
theorem ea_runV {idx np ci a : Nat} {fds : List (Option Nat)} (d : decode (ea_cc F) pc = .ok (.invokevirtual idx, 3)) (hl : Cond.methodLink (ea_own F) idx y ∈ lw_tbl) (hm : ea_MV y F1 np) (hM : ea_Met G y F1 (.ref a :: As) m r1)
    (ha : ea_sh a = .inr (.inl (ci, fds))) (hci : (vwCl[ci]?).map (fun q => q.1) = some y.cls) (hs : st0 = As.reverse ++ .ref a :: st) (hn : As.length = np) (hw : (st.map fun v => v.category).sum ≤ 8) (hk : ea_ok F F1 k n = true) : ea_Rn G F F1 r1 pc ls st0 st m k n := by
  intro p e s mi args below meth c H locs lsA hh hl'
  obtain ⟨k1, k2, k3, k4, k5, k6⟩ := ea_ok_of hk
  have hC := hh.2.2.2.1
  have hS := hh.2.2.2.2.1
  have hP := hh.2.2.2.2.2
  refine ⟨_, vx_runV (C := y.cls) (b := ea_ad G a) (As := As.map (ea_tv G)) (Ts := []) ⟨hh.1, hh.2.1, hh.2.2.1.2.1, hh.2.2.1.2.2.1, fun _ h => by cases h⟩ hM ⟨ea_CallB hC hl hm.1 k1 k2 k5 k6, hC.1 _ hm.2.1 rfl args, hC.1 _ hm.2.2 rfl args⟩ ⟨ea_Pc_blind G _ m, ?_, fun U hU hW => ?_⟩ rfl (by rw [List.length_map]; exact hn) hl'.1 ?_ (lv_room (by rw [ea_catsum]; exact hw)) d ⟨k3, k4⟩⟩
  · cases hq : vwCl[ci]? with
    | none => rw [hq] at hci; cases hci
    | some q =>
      rw [hq] at hci
      have e1 : q.1 = y.cls := Option.some.inj hci
      have h1 := va_recv (ci := ci) (q0 := a) hC.2.1 hP hq (ea_cell_at hh ha (fun z => by cases z))
      rw [e1] at h1
      exact h1
  · exact ⟨rfl, hC.go hW (by rw [hU]; exact hS.1) (fun q h1 h2 => by rw [hU]; exact hS.2.1 q h1 h2), by rw [hU]; exact hP⟩
  · show st0.map (ea_tv G) = _
    rw [hs]
    simp [ea_tv]
theorem ea_runS {idx np : Nat} (d : decode (ea_cc F) pc = .ok (.invokestatic idx, 3)) (hl : Cond.methodLink (ea_own F) idx y ∈ lw_tbl) (hm : ea_MS y F1 np) (hM : ea_Met G y F1 As m r1)
    (hs : st0 = As.reverse ++ st) (hn : As.length = np) (hw : (st.map fun v => v.category).sum ≤ 8) (hk : ea_ok F F1 k n = true) : ea_Rn G F F1 r1 pc ls st0 st m k n := by
  intro p e s mi args below meth c H locs lsA hh hl'
  obtain ⟨k1, k2, k3, k4, k5, k6⟩ := ea_ok_of hk
  have hC := hh.2.2.2.1
  have hS := hh.2.2.2.2.1
  have hP := hh.2.2.2.2.2
  refine ⟨_, vx_runS (As := As.map (ea_tv G)) (Ts := []) ⟨hh.1, hh.2.1, hh.2.2.1.2.1, hh.2.2.1.2.2.1, fun _ h => by cases h⟩ hM ⟨ea_CallB hC hl hm.1 k1 k2 k5 k6, hC.1 _ hm.2 rfl args⟩ ⟨ea_Pc_blind G _ m, fun U hU hW => ?_⟩ rfl (by rw [List.length_map]; exact hn) hl'.1 ?_ (lv_room (by rw [ea_catsum]; exact hw)) d ⟨k3, k4⟩⟩
  · exact ⟨rfl, hC.go hW (by rw [hU]; exact hS.1) (fun q h1 h2 => by rw [hU]; exact hS.2.1 q h1 h2), by rw [hU]; exact hP⟩
  · show st0.map (ea_tv G) = _
    rw [hs]
    simp
theorem ea_runSH {idx np : Nat} (d : decode (ea_cc F) pc = .ok (.invokestatic idx, 3)) (hl : Cond.methodLink (ea_own F) idx y ∈ lw_tbl) (hm : ea_MSH y F1 np) (hM : ea_MetH G y F1 As m r1)
    (hs : st0 = As.reverse ++ st) (hn : As.length = np) (hw : (st.map fun v => v.category).sum ≤ 8) (hk : ea_ok F F1 k n = true) : ea_Rn G F F1 r1 pc ls st0 st m k n := by
  intro p e s mi args below meth c H locs lsA hh hl'
  obtain ⟨k1, k2, k3, k4, k5, k6⟩ := ea_ok_of hk
  obtain ⟨⟨b1, b2, b3, b4⟩, b5⟩ := hm
  have hC := hh.2.2.2.1
  have hS := hh.2.2.2.2.1
  have hP := hh.2.2.2.2.2
  refine ⟨_, vx_runSX (n := np) (As := As.map (ea_tv G)) (Ts := []) (hh := ea_tb F1) ⟨hh.1, hh.2.1, hh.2.2.1.2.1, hh.2.2.1.2.2.1, fun _ h => by cases h⟩ hM ⟨⟨k5, k6, k1, k2, fun w hw a' U hW => ?_, List.mem_cons_self⟩, hC.1 _ b2 rfl args, hC.1 _ b1 rfl args, b3, fun sig h => ?_, hC.1 _ hl rfl args, hC.1 _ b5 rfl args⟩ ⟨ea_Pc_blind G _ m, fun U hU hW => ?_⟩ rfl (by rw [List.length_map]; exact hn) hl'.1 ?_ (lv_room (by rw [ea_catsum]; exact hw)) d ⟨k3, k4⟩⟩
  · rw [List.mem_singleton.mp hw]
    exact word_at hW (good_of_word (w := .codeWith y (ea_cc F1) (ea_nL F1) (ea_ret F1) (ea_tb F1)) rfl) (hC.1 _ b2 rfl args)
  · rw [h] at b4
    exact (Option.some.inj b4).symm
  · exact ⟨rfl, hC.go hW (by rw [hU]; exact hS.1) (fun q h1 h2 => by rw [hU]; exact hS.2.1 q h1 h2), by rw [hU]; exact hP⟩
  · show st0.map (ea_tv G) = _
    rw [hs]
    simp
/-- behind a call that returned -/
theorem ea_ret_go {r : Int32} {m1 : ea_M} (hr : ea_Rn G F F1 (0, r, m1) pc ls st0 st m k n) (h : ea_Ev G F res (pc + 3) ls ((match ea_ret F1 with | none => [] | some _ => [.int r]) ++ st) m1 (k + ea_mc F1) (n + ea_ms F1)) : ea_Ev G F res pc ls st0 m k n := by
  intro p e s mi args below meth c H locs lsA hh hl T hT X
  obtain ⟨a, hrun⟩ := hr p e s mi args below meth c H locs lsA hh hl
  rcases hrun T hT X with ⟨v, st₀, t, T', L, h0, X', hL, e1, e2, ⟨-, hv, hP1, hF⟩, go⟩ | ⟨q, st₀, t, T', L, E, ce, h0, X', hL, e1, e2, ⟨hpos, -⟩, -⟩
  · obtain ⟨-, -, k3⟩ := vx_keep (A1 := ea_A G) h0 e1 hh.2.2.2.2.1 (fun _ _ z => z) (fun _ z => z) hL hF
    obtain ⟨t2, a1, b1⟩ := h p e s mi args below meth c T'.heap (locs ++ L) lsA ⟨hh.1, hh.2.1, hh.2.2.1, hh.2.2.2.1, k3, by rw [e1]; exact hP1⟩ hl T' rfl X'
    refine ⟨t2, go t2 ?_, b1⟩
    cases hv
    cases hq : ea_ret F1 with
    | none => rw [hq] at a1; exact a1
    | some ty => rw [hq] at a1; exact a1
  · exact absurd hpos (Nat.lt_irrefl 0)
/-- behind a call that threw, not caught here -/
theorem ea_out_go {kx : Nat} {r : Int32} {m1 : ea_M} (hkx : 0 < kx) (htb : ea_tb F = []) (hr : ea_Rn G F F1 (kx, r, m1) pc ls st0 st m k n) (hk : k + ea_mc F1 ≤ ea_mc F ∧ n + ea_ms F1 ≤ ea_ms F) : ea_Ev G F (kx, r, m1) pc ls st0 m k n := by
  intro p e s mi args below meth c H locs lsA hh hl T hT X
  obtain ⟨a, hrun⟩ := hr p e s mi args below meth c H locs lsA hh hl
  rcases hrun T hT X with ⟨v, st₀, t, T', L, h0, X', hL, e1, e2, ⟨hz, -⟩, go⟩ | ⟨q, st₀, t, T', L, E, ce, h0, X', hL, e1, e2, ⟨-, hE, hP1, hF⟩, hce, hcv, hcl, go⟩
  · exact absurd hz (Nat.pos_iff_ne_zero.mp hkx)
  · obtain ⟨-, -, k3⟩ := vx_keep (A1 := ea_A G) h0 e1 hh.2.2.2.2.1 (fun _ _ z => z) (fun _ z => z) hL hF
    have hW := vx_out (p := p) (l := ea_l G) (e := e) (R := ea_R F) (s := s) (m := mi) (args := args) (below := below) (meth := meth) (c := c) (H := T'.heap) (locs := locs ++ L) (cells := k + ea_mc F1) (slots := n + ea_ms F1) (ls := lsA) (rest := st.map (ea_tv G)) (pc := pc) (E := E) (ce := ce) (q := q) (Qc := ea_Q G F (kx, r, m1)) (XC := ea_X G (kx, r, m1)) (free := ea_A G) (mc := ea_mc F) (ms := ea_ms F)
      (fun z hz => by rw [hh.2.2.1.2.2.2.2, htb] at hz; cases hz) hh.2.2.1.2.2.2.1 (by rw [e1]; exact hce) hcv hcl (fun t' ht' hv' => ⟨hkx, hE, by rw [ht', e1]; exact hP1, k3.F ht'⟩) (fun z hz => k3.2.2 z hz) hk.1 hk.2
    obtain ⟨t2, a1, b1⟩ := hW T' rfl X'
    exact ⟨t2, go.trans a1, b1⟩
theorem ev_callI {ty : FieldType} {y1 : Option (Int32 × ea_M)} {f : Int32 × ea_M → Option τ} (hr : ∀ r m1, y1 = some (r, m1) → ea_Rn G F F1 (0, r, m1) pc ls st0 st m k n) (ht : ea_ret F1 = some ty) (h : ∀ r m1, ea_E G F res (pc + 3) ls (.int r :: st) m1 (k + ea_mc F1) (n + ea_ms F1) (f (r, m1)) Φ) : ea_E G F res pc ls st0 m k n (y1.bind f) Φ := by
  intro t e q
  cases hy : y1 with
  | none => rw [hy] at e; cases e
  | some z =>
    obtain ⟨r, m1⟩ := z
    rw [hy] at e
    refine ea_ret_go (hr r m1 hy) ?_
    rw [ht]
    exact h r m1 t e q
theorem ev_callU {y1 : Option (Int32 × ea_M)} {f : Int32 × ea_M → Option τ} (hr : ∀ r m1, y1 = some (r, m1) → ea_Rn G F F1 (0, r, m1) pc ls st0 st m k n) (ht : ea_ret F1 = none) (h : ∀ r m1, ea_E G F res (pc + 3) ls st m1 (k + ea_mc F1) (n + ea_ms F1) (f (r, m1)) Φ) : ea_E G F res pc ls st0 m k n (y1.bind f) Φ := by
  intro t e q
  cases hy : y1 with
  | none => rw [hy] at e; cases e
  | some z =>
    obtain ⟨r, m1⟩ := z
    rw [hy] at e
    refine ea_ret_go (hr r m1 hy) ?_
    rw [ht]
    exact h r m1 t e q
/-- calls that may throw: on to the caller -/
def ea_thr {β : Type} (f : Int32 × ea_M → Option β) (g : Nat → ea_M → Option β) (z : ea_O) : Option β := if z.1 = 0 then f z.2 else g z.1 z.2.2
theorem ev_callXI {ty : FieldType} {y1 : Option ea_O} {f : Int32 × ea_M → Option τ} {g : Nat → ea_M → Option τ} (htb : ea_tb F = []) (hr : ∀ z, y1 = some z → ea_Rn G F F1 z pc ls st0 st m k n) (ht : ea_ret F1 = some ty) (hk : k + ea_mc F1 ≤ ea_mc F ∧ n + ea_ms F1 ≤ ea_ms F)
    (hg : ∀ kx m1 t, g kx m1 = some t → Φ t → ∃ v, res = (kx, v, m1)) (h : ∀ r m1, ea_E G F res (pc + 3) ls (.int r :: st) m1 (k + ea_mc F1) (n + ea_ms F1) (f (r, m1)) Φ) : ea_E G F res pc ls st0 m k n (y1.bind (ea_thr f g)) Φ := by
  intro t e q
  cases hy : y1 with
  | none => rw [hy] at e; cases e
  | some z =>
    obtain ⟨kx, r, m1⟩ := z
    rw [hy] at e
    have e : ea_thr f g (kx, r, m1) = some t := e
    unfold ea_thr at e
    have hz := hr _ hy
    by_cases hx : kx = 0
    · subst hx
      rw [if_pos rfl] at e
      refine ea_ret_go hz ?_
      rw [ht]
      exact h r m1 t e q
    · rw [if_neg hx] at e
      obtain ⟨v, hv⟩ := hg kx m1 t e q
      subst hv
      intro p e' s mi args below meth c H locs lsA hh hl T hT X
      have h9 := ea_out_go (k := k) (n := n) (Nat.pos_of_ne_zero hx) htb hz hk p e' s mi args below meth c H locs lsA hh hl T hT X
      obtain ⟨t2, a1, o, b1, b2, b3⟩ := h9
      refine ⟨t2, a1, o, b1, b2, ?_⟩
      rcases b3 with ⟨⟨w, -⟩, -⟩ | ⟨q9, w1, E, ce, L, w2, w3⟩
      · exact absurd w hx
      · exact Or.inr ⟨q9, w1, E, ce, L, ⟨w2.1, w2.2.1, w2.2.2.1, w2.2.2.2⟩, w3⟩
theorem ev_callXU {y1 : Option ea_O} {f : Int32 × ea_M → Option τ} {g : Nat → ea_M → Option τ} (htb : ea_tb F = []) (hr : ∀ z, y1 = some z → ea_Rn G F F1 z pc ls st0 st m k n) (ht : ea_ret F1 = none) (hk : k + ea_mc F1 ≤ ea_mc F ∧ n + ea_ms F1 ≤ ea_ms F)
    (hg : ∀ kx m1 t, g kx m1 = some t → Φ t → ∃ v, res = (kx, v, m1)) (h : ∀ r m1, ea_E G F res (pc + 3) ls st m1 (k + ea_mc F1) (n + ea_ms F1) (f (r, m1)) Φ) : ea_E G F res pc ls st0 m k n (y1.bind (ea_thr f g)) Φ := by
  intro t e q
  cases hy : y1 with
  | none => rw [hy] at e; cases e
  | some z =>
    obtain ⟨kx, r, m1⟩ := z
    rw [hy] at e
    have e : ea_thr f g (kx, r, m1) = some t := e
    unfold ea_thr at e
    have hz := hr _ hy
    by_cases hx : kx = 0
    · subst hx
      rw [if_pos rfl] at e
      refine ea_ret_go hz ?_
      rw [ht]
      exact h r m1 t e q
    · rw [if_neg hx] at e
      obtain ⟨v, hv⟩ := hg kx m1 t e q
      subst hv
      intro p e' s mi args below meth c H locs lsA hh hl T hT X
      have h9 := ea_out_go (k := k) (n := n) (Nat.pos_of_ne_zero hx) htb hz hk p e' s mi args below meth c H locs lsA hh hl T hT X
      obtain ⟨t2, a1, o, b1, b2, b3⟩ := h9
      refine ⟨t2, a1, o, b1, b2, ?_⟩
      rcases b3 with ⟨⟨w, -⟩, -⟩ | ⟨q9, w1, E, ce, L, w2, w3⟩
      · exact absurd w hx
      · exact Or.inr ⟨q9, w1, E, ce, L, ⟨w2.1, w2.2.1, w2.2.2.1, w2.2.2.2⟩, w3⟩
end EVC
