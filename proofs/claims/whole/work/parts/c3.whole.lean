/-! THE CLAIM OUT OF ONE WALK OF THE LAW'S BODY. Your part is whole_start (and what it stands on); all else here is the same for every law, but numbers. -/
def R_law : String := "FeatherYardLaw"
def lw_P (b : Addr) (xs : List Int32) (args : Array Value) (s : State) : Prop := args = #[.ref b] ∧ s.IntsAt b xs ∧ xs.length ≤ 3072 ∧ (Jvm.Cond.and given_1 narrow_1).before args s = true
def lw_Q (_ : Array Value) (s : State) (o : Outcome) (t : State) : Prop := o = .returned (some (.int 1)) ∧ Framed s o t [] 601024 7293034
def lw_Z (below : List Frame) (a : Array Value) (s : State) : State → Prop := fun t => ∃ o, t.status = .running ∧ Ended t below o ∧ lw_Q a s o t
/-- the law's own end, with 1 on the stack, nothing written that was there before, its room as the claim has it -/
theorem lw_ret {p : Program} {l : Launch} {e : Env} {s : State} {m : MethodId} {below : List Frame} {meth : Method} {c : Code} {b : Nat} (hx : p.tables.exec = Jvm.exec) (hb : c.code = code) (hr : meth.sig.returnType = ret) (hlocks : meth.locks = false) {pc : Nat} {H : Heap} {ls : Array Slot} (hdg : decode code pc = .ok (.ireturn, 1)) : W p l e room_1 s m #[Value.ref b] below meth c H [] 601024 7293034 (lw_Z below #[Value.ref b] s) (F0 m pc ls [.int 1]) := by
  intro T hT X
  obtain ⟨fs, hret, hrun, hended, hW, hframe⟩ := X.leave (v := some (.int 1)) (hlocks := hlocks) (fun h => by rw [hr] at h; cases h)
  have hmeth' : T.vm.method? m = some meth := X.method'
  refine ⟨T.setFrames fs, ?_, .returned (some (.int 1)), hrun, hended, rfl, ⟨_, rfl⟩, hW, hframe⟩
  jvm_step X.here [X.here.top, hx, hb, hdg, hmeth', hr, ret, narrow_b1]
  (try refine ⟨rfl, ?_⟩); (try refine ⟨rfl, ?_⟩)
  first | (intro acts; rw [hret _ acts rfl rfl rfl]) | rw [hret _ _ rfl rfl rfl]
  exact Steps.refl _
/-- what holds at the law's entry: the machine, the code, the tables' words (any of lw_tbl by 'hts w (by decide +kernel)'), the script of L ints xs at the cell b, what the Statement gives of the start (any of its parts by flat_of_before) -/
def lw_At (p : Program) (s : State) (m : MethodId) (meth : Method) (c : Code) (b L : Nat) (xs : Nat → Int32) : Prop :=
  p.tables.exec = Jvm.exec ∧ c.code = code ∧ meth.sig.returnType = ret ∧ c.maxLocals = 7 ∧ s.vm.findClass R_law = some m.cls ∧ (∀ w ∈ lw_tbl, w.before #[Value.ref b] s = true) ∧ va_X b L xs s s.heap ∧ b < s.heap.size ∧ meth.locks = false ∧ (Jvm.Cond.and given_1 narrow_1).before #[Value.ref b] s = true
theorem ez_lng (cA : ClassId) : vp_cell cA (1, .inr (.inl (fun _ => 0))) = arrV cA 1 (fun _ => defaultValue .long) := rfl
theorem ez_in1 : Cond.arrayClass (newarray.typeOf .long) ∈ lw_tbl := by decide +kernel
theorem ez_d9 : decode cL_law_ 17 = .ok (.newarray .long, 2) := ea_at dt_L_law__0 9 rfl
theorem ez_rf3 : ∀ k : Nat, k < 288 → ∀ r ∈ ez_rs (ea_sh k), r < 288 := by decide +kernel
set_option maxHeartbeats 4000000 in
set_option maxRecDepth 100000 in
theorem ez_end {p : Program} {e : Env} {s : State} {m : MethodId} {below : List Frame} {meth : Method} {c : Code} {l : Launch} {b L : Nat} {xs : Nat → Int32} {Y : Nat → Nat} {D : va_G} {cA : Nat → ClassId} {fl : Nat → Nat} {G0 : ea_G} {aY aM : Nat → Nat} {q0 q1 q2 : Nat} {H : Heap} {locs : List Loc} {ls : Array Slot} {k n : Nat}
    (hL : L ≤ 3072) (hx : p.tables.exec = Jvm.exec) (hb : c.code = cL_law_) (hr : meth.sig.returnType = ret) (hml : c.maxLocals = 7) (hown : s.vm.findClass RL = some m.cls) (hlocks : meth.locks = false) (htab : c.exceptionTable.toList = []) (hY : Y 2000 = b)
    (hC : ∀ a : Nat → Nat, (∀ i j : Nat, i < 288 → j < 288 → a i = a j → i = j) → (∀ k : Nat, k < 288 → s.heap.size ≤ a k) → eg_Cx (l, ez_ad a Y, D, cA, s.heap.size, fl, L, xs) s)
    (gl : ea_l G0 = l) (gD : ea_D G0 = D) (gA : ea_cA G0 = cA) (hn0 : ea_n0 G0 = s.heap.size) (haY : aY 0 = q0) (haM : aM 272 = q1)
    (hP : va_P (ea_D G0) vwCl ((eg_blk (ea_cA G0) aY 272 0 ++ eg_blk (ea_cA G0) aM 15 272) ++ [(q2, .inl (ea_cA G0 2, 1, .inr (.inl (fun _ => 0))))]) H) (hD : va_D (ea_A G0) ((eg_blk (ea_cA G0) aY 272 0 ++ eg_blk (ea_cA G0) aM 15 272) ++ [(q2, .inl (ea_cA G0 2, 1, .inr (.inl (fun _ => 0))))])) (hS : va_S (ea_A G0) s.heap H locs)
    (hls : lv_has ls 7 [(4, .int 0), (3, .ref q2), (2, .ref q1), (1, .ref q0), (0, .ref b)]) (hk : k ≤ 400) (hn : n ≤ 30000) : W p (ea_l G0) e room_1 s m #[Value.ref b] below meth c H locs k n (lw_Z below #[Value.ref b] s) (F0 m 23 ls []) := by
  rw [ez_cells] at hP hD
  obtain ⟨a, ea⟩ : ∃ a : Nat → Nat, a = fun k => if k < 272 then aY k else if k < 287 then aM k else q2 := ⟨_, rfl⟩
  rw [← ea] at hP hD
  have a0 : a 0 = q0 := by rw [ea]; exact haY
  have a1 : a 272 = q1 := by rw [ea]; exact haM
  have a2 : a 287 = q2 := by rw [ea]; exact rfl
  have h1 : ∀ i j : Nat, i < 288 → j < 288 → a i = a j → i = j := fun i j hi hj h => hD.1 i j _ _ (ez_blk_get _ _ 288 0 i hi) (ez_blk_get _ _ 288 0 j hj) (by
    show a (0 + i) = a (0 + j)
    rw [Nat.zero_add, Nat.zero_add]
    exact h)
  have h2 : ∀ k : Nat, k < 288 → s.heap.size ≤ a k := fun k hk => by
    have h : ea_n0 G0 ≤ a (0 + k) := hD.2 k _ (ez_blk_get _ _ 288 0 k hk)
    rw [Nat.zero_add, hn0] at h
    exact h
  have hC1 := hC a h1 h2
  obtain ⟨G, eG⟩ : ∃ G : ea_G, G = (l, ez_ad a Y, D, cA, s.heap.size, fl, L, xs) := ⟨_, rfl⟩
  rw [← eG] at hC1
  have kl : ea_l G = ea_l G0 := (congrArg ea_l eG).trans gl.symm
  have kD : ea_D G0 = ea_D G := gD.trans (congrArg ea_D eG).symm
  have kA : ea_cA G0 = ea_cA G := gA.trans (congrArg ea_cA eG).symm
  have kn : ea_n0 G = s.heap.size := congrArg ea_n0 eG
  have kad : ∀ k : Nat, ea_ad G k = ez_ad a Y k := fun k => congrFun (congrArg ea_ad eG) k
  have kS : ea_A G0 = ea_A G := by
    funext q
    show (ea_n0 G0 ≤ q) = (ea_n0 G ≤ q)
    rw [hn0, kn]
  have k1 : ∀ k : Nat, k < 288 → a k = ea_ad G k := fun k hk => by rw [kad, ez_ad, if_pos hk]
  have hws : eg_blk (ea_cA G0) a 288 0 = ea_ws G ez_m0 := by
    rw [kA, ← ez_ws_eq G]
    exact ez_blk_cg 0 288 (fun k _ h => k1 k h) 288 0 (fun k _ h => ⟨⟨Nat.zero_le _, by omega⟩, fun r hr => ⟨Nat.zero_le _, ez_rf3 k (by omega) r hr⟩⟩)
  rw [hws, kD] at hP
  rw [kS] at hS
  obtain ⟨mZ, hZ⟩ := ez_all (G := G) (m := ez_m0) (by rw [show ea_L G = L from congrArg ea_L eG]; exact hL) ez_I
  have t0 : ea_ad G 2000 = b := by rw [kad, ez_ad, if_neg (by decide)]; exact hY
  have hlh : ea_lh G ls 7 [some (.ref 2000), some (.ref 0), some (.ref 272), some (.ref 287), some (.int 0), none, none] := by
    refine ⟨hls.1, hls.2.1, fun j v hj => ?_⟩
    match j, hj with
    | 0, hj =>
      cases hj
      refine ⟨rfl, ?_⟩
      show _ = some (Slot.val (.ref (ea_ad G 2000)))
      rw [t0]
      exact lv_at hls 4 rfl
    | 1, hj =>
      cases hj
      refine ⟨rfl, ?_⟩
      show _ = some (Slot.val (.ref (ea_ad G 0)))
      rw [← k1 0 (by decide), a0]
      exact lv_at hls 3 rfl
    | 2, hj =>
      cases hj
      refine ⟨rfl, ?_⟩
      show _ = some (Slot.val (.ref (ea_ad G 272)))
      rw [← k1 272 (by decide), a1]
      exact lv_at hls 2 rfl
    | 3, hj =>
      cases hj
      refine ⟨rfl, ?_⟩
      show _ = some (Slot.val (.ref (ea_ad G 287)))
      rw [← k1 287 (by decide), a2]
      exact lv_at hls 1 rfl
    | 4, hj =>
      cases hj
      exact ⟨rfl, lv_at hls 0 rfl⟩
    | 5, hj => simp at hj
    | 6, hj => simp at hj
    | j + 7, hj => simp at hj
  rw [← kl]
  refine W.widen (k := 400) (n := 30000) hk hn ?_
  have K := ok_L_law_ G ez_m0 mZ hZ p e s m #[Value.ref b] below meth c _ _ ls ⟨hx, hb, ⟨hr, hml, hown, hlocks, htab⟩, hC1.1, hS, hP⟩ hlh
  intro T hT X
  obtain ⟨t, c1, o, c2, c3, c4⟩ := K T hT X
  refine ⟨t, c1, o, c2, c3, ?_⟩
  rcases c4 with ⟨⟨-, ho, -, -⟩, Lc, hF, hfree⟩ | ⟨q, -, E, ce, Lc, hq, -⟩
  · refine ⟨ho, hF.1, hF.2.1, hF.2.2.weaken (fun y hy hlt => absurd hlt (Nat.not_lt.mpr ?_)) (Nat.le_refl _) (Nat.le_refl _)⟩
    have h : ea_n0 G ≤ y.base := hfree y hy
    rw [kn] at h
    exact h
  · exact absurd hq.1 (Nat.lt_irrefl 0)
set_option maxHeartbeats 4000000 in
set_option maxRecDepth 100000 in
/-- the law from its entry: the two objects and the row for answers are made, then the loop -/
theorem whole_start {p : Program} {e : Env} {s : State} {m : MethodId} {below : List Frame} {meth : Method} {c : Code} (l : Launch) (hl : l.stackTraces = false) {b L : Nat} {xs : Nat → Int32} (hL : L ≤ 3072) (C0 : lw_At p s m meth c b L xs) (htab : c.exceptionTable.toList = []) : W p l e room_1 s m #[Value.ref b] below meth c s.heap [] 0 0 (lw_Z below #[Value.ref b] s) (entryFrame m ([Value.ref b] : List Value).toArray 7) := by
  obtain ⟨hx, hb, hr, hml, hown, hts, hX, hbl, hlocks, hgv⟩ := id C0
  have hb : c.code = cL_law_ := hb
  have hown : s.vm.findClass RL = some m.cls := hown
  obtain ⟨Y, D, cA, fl, hY, hC⟩ := ez_cx l hl hts hX hbl hgv
  have hC0 := hC (fun k => s.heap.size + k) (fun i j _ _ h => Nat.add_left_cancel h) (fun k _ => Nat.le_add_right _ k)
  obtain ⟨G0, eG0⟩ : ∃ G : ea_G, G = (l, ez_ad (fun k => s.heap.size + k) Y, D, cA, s.heap.size, fl, L, xs) := ⟨_, rfl⟩
  rw [← eG0] at hC0
  have gl : ea_l G0 = l := congrArg ea_l eG0
  have gD : ea_D G0 = D := congrArg ea_D eG0
  have gA : ea_cA G0 = cA := congrArg ea_cA eG0
  have hn0 : ea_n0 G0 = s.heap.size := congrArg ea_n0 eG0
  have hA : ∀ q : Nat, s.heap.size ≤ q → ea_A G0 q := fun q h => by
    show ea_n0 G0 ≤ q
    rw [hn0]
    exact h
  have hP0 : va_P (ea_D G0) vwCl [] s.heap := fun k q h => by simp at h
  have hD0 : va_D (ea_A G0) [] := ⟨fun i j p q h => by simp at h, fun k q h => by simp at h⟩
  have hS0 : va_S (ea_A G0) s.heap s.heap [] := va_S.rf
  have hK := hC0.1.2.1
  have hls := lv_entry ([.ref b]) (n := 7) (Nat.le_of_ble_eq_true rfl)
  rw [lg_entry_eq]
  generalize (lg_sl ([.ref b]) ++ List.replicate (7 - (lg_sl ([.ref b])).length) Slot.unset).toArray = ls at hls ⊢
  have hls : lv_has ls 7 [(0, .ref b)] := hls
  rw [← gl]
  refine va_new (Ts := u_ws RX11 TX11 21) (ci := 11) (fs := [.null, .int 0, .int 0, .null, .null, .null, .null, .null, .null, .int 0, .null, .null, .null, .int 0, .int 0, .null, .null, .null, .int 0, .null, .null]) (C := RX11) (T := TX11) (N := 21) hx hb (fun w hw => hts w (ea_cw_in (RX11, TX11, 21) (List.mem_of_getElem? (i := 11) rfl) w hw).1) (fun w hw => hw) tyX11 tyX11_ok hown (hts (.classLink RL 8 RX11) (by decide +kernel)) (hts (.instantiable RX11 21) (by decide +kernel)) (hts (.initialized RX11) (by decide +kernel)) hK hP0 hD0 hS0 hA rfl (by decide) (Nat.le_of_ble_eq_true rfl) (Nat.le_of_ble_eq_true rfl) (ea_at dt_L_law__0 0 rfl) (fun q0 H hP hD hS => ?_)
  refine lv_dup hx hb (ea_at dt_L_law__0 1 rfl) rfl ?_
  refine ez_callI (pre := []) (y := yX11_init) (F1 := FX11_init) (idx := 128) hx hb hml hown hn0 hC0 hP hD hS (ea_at dt_L_law__0 2 rfl) (by decide +kernel) eMBX11_init eMIX11_init rfl rfl (eg_cX11_init G0 q0) hls.1 (Nat.le_of_ble_eq_true rfl) (by decide) (fun w1 H1 locs1 hZ hP hD hS => ?_)
  obtain ⟨aY, haY, rfl⟩ := hZ
  rw [List.nil_append] at hP hD
  refine lv_astore_n (lv' := [(1, .ref q0), (0, .ref b)]) hx hb (ea_at dt_L_law__0 3 rfl) rfl hls (by decide) rfl (fun ls hls => ?_)
  refine va_new (Ts := u_ws RX12 TX12 30) (ci := 12) (fs := [.int 0, .null, .null, .null, .null, .null, .int 0, .int 0, .null, .int 0, .int 0, .int 0, .int 0, .int 0, .int 0, .null, .int 0, .null, .int 0, .int 0, .int 0, .int 0, .null, .null, .null, .int 0, .int 0, .null, .null, .null]) (C := RX12) (T := TX12) (N := 30) hx hb (fun w hw => hts w (ea_cw_in (RX12, TX12, 30) (List.mem_of_getElem? (i := 12) rfl) w hw).1) (fun w hw => hw) tyX12 tyX12_ok hown (hts (.classLink RL 129 RX12) (by decide +kernel)) (hts (.instantiable RX12 30) (by decide +kernel)) (hts (.initialized RX12) (by decide +kernel)) hK hP hD hS hA rfl (by decide) (Nat.le_of_ble_eq_true rfl) (Nat.le_of_ble_eq_true rfl) (ea_at dt_L_law__0 4 rfl) (fun q1 H hP hD hS => ?_)
  refine lv_dup hx hb (ea_at dt_L_law__0 5 rfl) rfl ?_
  refine ez_callI (pre := eg_blk (ea_cA G0) aY 272 0) (y := yX12_init) (F1 := FX12_init) (idx := 131) hx hb hml hown hn0 hC0 hP hD hS (ea_at dt_L_law__0 6 rfl) (by decide +kernel) eMBX12_init eMIX12_init rfl rfl (eg_cX12_init G0 q1) hls.1 (Nat.le_of_ble_eq_true rfl) (by decide) (fun w1 H1 locs1 hZ hP hD hS => ?_)
  obtain ⟨aM, haM, rfl⟩ := hZ
  refine W.widen (k := 287) (n := 23512) (Nat.le_of_ble_eq_true rfl) (Nat.le_of_ble_eq_true rfl) ?_
  obtain ⟨w2, ew⟩ : ∃ w : va_W, w = eg_blk (ea_cA G0) aY 272 0 ++ eg_blk (ea_cA G0) aM 15 272 := ⟨_, rfl⟩
  rw [← ew] at hP hD
  refine lv_astore_n (lv' := [(2, .ref q1), (1, .ref q0), (0, .ref b)]) hx hb (ea_at dt_L_law__0 7 rfl) rfl hls (by decide) rfl (fun ls hls => ?_)
  refine lv_iconst (v := 1) hx hb (ea_at dt_L_law__0 8 rfl) (by decide) ?_
  refine va_newa (ty := .long) (a0 := (1, .inr (.inl (fun _ => 0)))) (N' := 1) hx hb (hts _ ez_in1) rfl hK hP hD hS hA ez_lng (by decide) (by decide) (by decide) (Nat.le_of_ble_eq_true rfl) (Nat.le_of_ble_eq_true rfl) ez_d9 (fun q2 cL H hK3 hP hD hS => ?_)
  have ecL : cL = ea_cA G0 2 := by
    have h1 : s.vm.findClass ("[" ++ FieldType.long.toString) = some (ea_cA G0 2) := (hK.2 2 (ea_cA G0 2, .long) rfl).2
    have h2 : s.vm.findClass ("[" ++ FieldType.long.toString) = some cL := (hK3.2 5 (cL, .long) rfl).2
    exact Option.some.inj (h2.symm.trans h1)
  subst ecL
  refine lv_astore_n (lv' := [(3, .ref q2), (2, .ref q1), (1, .ref q0), (0, .ref b)]) hx hb (ea_at dt_L_law__0 10 rfl) rfl hls (by decide) rfl (fun ls hls => ?_)
  refine lv_iconst (v := 0) hx hb (ea_at dt_L_law__0 11 rfl) (by decide) ?_
  refine lv_istore (lv' := [(4, .int 0), (3, .ref q2), (2, .ref q1), (1, .ref q0), (0, .ref b)]) hx hb (ea_at dt_L_law__0 12 rfl) hls (by decide) rfl (fun ls hls => ?_)
  rw [ew] at hP hD
  exact ez_end hL hx hb hr hml hown hlocks htab hY hC gl gD gA hn0 haY haM hP hD hS hls (Nat.le_of_ble_eq_true rfl) (Nat.le_of_ble_eq_true rfl)
set_option maxHeartbeats 4000000 in
theorem lw_walk (l : Launch) (hl : l.stackTraces = false) (b : Addr) (xs : List Int32) : MetFree l x (headSpec (Jvm.Cond.code x code maxLocals ret :: tables_1) room_1) (lw_P b xs) (fun _ _ _ _ _ => True) lw_Q := by
  refine MetFree.of_bodyS (code := code) (maxLocals := maxLocals) (ret := ret) (by decide) ?_ ?_
  · intro args s m h hn
    obtain ⟨meth, c, h1, h2, h3, h4, h5, h6, -, -⟩ := Cond.code_spec hn (atoms_spec (ws := Jvm.Cond.code x code maxLocals ret :: tables_1) h _ List.mem_cons_self)
    exact ⟨meth, c, h1, h2, h3, h4, h5, h6⟩
  · intro p e s m args below meth c s₁ B hml0 hP _
    obtain ⟨rfl, hx, hbd, hgv⟩ := hP
    obtain ⟨scr, harrAt, hlist, hof, hsmall⟩ := hx
    obtain ⟨hcb, hkn, -, -⟩ := State.arrayAt?_spec harrAt
    have hown : s.vm.findClass R_law = some m.cls := findClass_of_methodNamed B.named
    have hts0 : ∀ c ∈ (Jvm.Cond.code x code maxLocals ret :: tables_1), c.before #[Value.ref b] s = true := atoms_spec (ws := Jvm.Cond.code x code maxLocals ret :: tables_1) B.pre
    have hts : ∀ w ∈ lw_tbl, w.before #[Value.ref b] s = true := k2_hts_sels lw_privs (fun w hw => hts0 w (List.mem_cons_of_mem _ hw)) lw_privs_ok
    have hml : c.maxLocals = 7 := B.maxLocals_eq (hts0 _ List.mem_cons_self)
    have htab : c.exceptionTable.toList = [] := by
      obtain ⟨meth9, c9, h1, h2, -, -, -, -, h7, -⟩ := Cond.code_spec B.named (hts0 _ List.mem_cons_self)
      cases Option.some.inj (h1.symm.trans B.method)
      cases Option.some.inj (h2.symm.trans (Stand.of_body B).code)
      rw [Array.isEmpty_iff.mp h7]
    have X₀ : Stand p l e room_1 s m #[Value.ref b] below meth c s₁ [] 0 0 := Stand.of_body B
    have hh0 : s₁.heap = s.heap := by rw [B.state]; rfl
    have hsz : scr.slots.size = xs.length := by rw [← Array.length_toList, hlist, List.length_map]
    have hval : ∀ j : Nat, j < xs.length → scr.slots[j]? = some (.int (xs.getD j 0)) := fun j hj => by
      rw [← Array.getElem?_toList, hlist]
      simp [hj]
    have hbl : b < s.heap.size := (Array.getElem?_eq_some_iff.mp hcb).1
    have hX : va_X b xs.length (fun j => xs.getD j 0) s s.heap := ⟨scr, hcb, hof, hkn, hsz, hval⟩
    have K : W p l e room_1 s m #[Value.ref b] below meth c s₁.heap [] 0 0 (lw_Z below #[Value.ref b] s) (entryFrame m ([Value.ref b] : List Value).toArray 7) := by
      rw [hh0]
      exact whole_start l hl hbd ⟨B.exec, B.bytes, B.returns, hml, hown, hts, hX, hbl, B.notSynchronized, hgv⟩ htab
    obtain ⟨t, a1, o, b1, b2, b3⟩ := K s₁ rfl X₀
    exact ⟨t, o, a1, b1, b2, b3⟩
theorem lw_pre_spec {args : Array Value} {s : State} (h : (Jvm.Cond.and given_1 narrow_1).before args s = true) (hr : rest_1_c.before args s = true) : ∃ (b : Addr) (xs : List Int32), lw_P b xs args s := by
  have hs := flat_of_before _ h
  have hq := flat_of_before _ hr
  have hc : (Cond.count 1).before args s = true := hs _ (by decide +kernel)
  have harr : (Cond.arrayOf (.arg 0) .int).before args s = true := hs _ (by decide +kernel)
  have hle : (Cond.le (.length (.arg 0)) (.int 3072)).before args s = true := hs _ (by decide +kernel)
  have hlen : (Cond.isInt (.length (.arg 0))).before args s = true := hq _ (by decide +kernel)
  have hall : (Cond.all (.arg 0) (.isInt (.elem (.arg 0) (.index 0)))).before args s = true := hq _ (by decide +kernel)
  obtain ⟨b, xs, hb, hx⟩ := State.ints_of_pre rfl harr hlen hall
  have hsm : xs.length < 2 ^ 31 := hx.choose_spec.2.2.2
  have hev : (Term.length (.arg 0)).eval args s none [] s = some (.int xs.length.toInt32) := hx.length_eval hb
  have hv := Cond.le_ints hev (show (Term.int 3072).eval args s none [] s = some (.int 3072) from rfl)
  have hd : xs.length.toInt32 ≤ 3072 := by
    simpa [Cond.before, Cond.holds, hv] using hle
  have hN : xs.length ≤ 3072 := (Int32.ofNat_le_ofNat hsm (by decide)).mp (show Int32.ofNat xs.length ≤ Int32.ofNat 3072 from hd)
  exact ⟨b, xs, Cond.one_arg hc (show args[0]? = some (.ref b) from hb), hx, hN, h⟩
theorem lw_comes (l : Launch) (hl : l.stackTraces = false) : Comes l x (Jvm.Cond.code x code maxLocals ret :: tables_1) room_1 (fun tb e args s => Calls_1 tb e args s ∧ rest_1 tb e args s ∧ Pre_1 tb e args s)
    (fun _ _ args s o t => lw_Q args s o t) := by
  intro p e ha hc hk s m args below hf hfit hheap happ hpre
  obtain ⟨b, xs, hP⟩ := lw_pre_spec hpre.2.2 hpre.2.1
  obtain ⟨k, o, h1, h2, h3, hQ⟩ := lw_walk l hl b xs p e ha hc hk s m args below hf ((Spec.applies_iff_loose hf).mp happ).1 hP trivial
  exact ⟨k, o, h1, h2, h3, hQ⟩
theorem lw_frame {s t : State} {o : Outcome} {args : Array Value} (h : Framed s o t [] 601024 7293034) :
    Framed s o t (fieldLocs frame_1_writes args s ++ arrayLocs frame_1_arrays args s ++ staticLocs frame_1_statics s) 601024 7293034 := h
theorem lw_limb (L : Cond) (hL : ∀ (args : Array Value) (s t : State), L.after args s (.returned (some (.int 1))) t = true) :
    ArmFor flags0 classFile x code maxLocals ret World_1 tables_1 room_1 Calls_1 rest_1 Pre_1
      (fun tb e a s o t => postC L tb e a s o t ∧ Framed s o t (fieldLocs frame_1_writes a s ++ arrayLocs frame_1_arrays a s ++ staticLocs frame_1_statics s) 601024 7293034) := by
  intro l hfl _ _ p e ha hc hk s m args below hf hfit hheap happ hpre
  have hl : l.stackTraces = false := by
    show (!l.flags.contains noTraceFlag) = false
    rw [hfl]
    decide +kernel
  obtain ⟨k, o, h1, h2, h3, rfl, hF⟩ := lw_comes l hl p e ha hc hk s m args below hf hfit hheap happ hpre
  exact ⟨k, _, h1, h2, h3, hL args s _, lw_frame hF⟩
theorem i_vc : Claimed_1_1 ∧ Claimed_1_2 := ⟨lw_limb limb_1_1 (fun args s t => by simp [limb_1_1, Cond.after, Cond.holds, Cond.value]), lw_limb limb_1_2 (fun args s t => Cond.after_iff.mpr (by
  first | (rw [show limb_1_2 = Cond.eq .result (.int 1) from rfl, Cond.eq_ints (x := 1) (y := 1) rfl rfl]; simp; done) | (simp [limb_1_2, Cond.value, Term.eval]; done)))⟩
