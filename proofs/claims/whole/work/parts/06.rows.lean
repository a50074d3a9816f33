section EVR
variable {τ : Type} {G : ea_G} {F F1 : ea_F} {res r1 : ea_O} {pc : Nat} {ls : List (Option Value)} {st st0 As : List Value} {m : ea_M} {k n : Nat} {x : Option τ} {Φ : τ → Prop} {y : MethodName}
/-- how often a loop may go round (no loop of these classes goes round so often) -/
def ea_fuel : Nat := 100000
def ea_cl {β : Type} (y : Option (Int32 × ea_M)) (f : Int32 → ea_M → Option β) : Option β := y.bind fun z => f z.1 z.2
def ea_cx {β : Type} (y : Option ea_O) (f : Int32 → ea_M → Option β) (g : Nat → ea_M → Option β) : Option β := y.bind (ea_thr (fun z => f z.1 z.2) g)
theorem ev_clI {ty : FieldType} {y1 : Option (Int32 × ea_M)} {f : Int32 → ea_M → Option τ} (hr : ∀ r m1, y1 = some (r, m1) → ea_Rn G F F1 (0, r, m1) pc ls st0 st m k n) (ht : ea_ret F1 = some ty) (h : ∀ r m1, ea_E G F res (pc + 3) ls (.int r :: st) m1 (k + ea_mc F1) (n + ea_ms F1) (f r m1) Φ) : ea_E G F res pc ls st0 m k n (ea_cl y1 f) Φ := ev_callI (f := fun z => f z.1 z.2) hr ht h
theorem ev_clU {y1 : Option (Int32 × ea_M)} {f : Int32 → ea_M → Option τ} (hr : ∀ r m1, y1 = some (r, m1) → ea_Rn G F F1 (0, r, m1) pc ls st0 st m k n) (ht : ea_ret F1 = none) (h : ∀ r m1, ea_E G F res (pc + 3) ls st m1 (k + ea_mc F1) (n + ea_ms F1) (f r m1) Φ) : ea_E G F res pc ls st0 m k n (ea_cl y1 f) Φ := ev_callU (f := fun z => f z.1 z.2) hr ht h
theorem ev_cxI {ty : FieldType} {y1 : Option ea_O} {f : Int32 → ea_M → Option τ} {g : Nat → ea_M → Option τ} (htb : ea_tb F = []) (hr : ∀ z, y1 = some z → ea_Rn G F F1 z pc ls st0 st m k n) (ht : ea_ret F1 = some ty) (hk : k + ea_mc F1 ≤ ea_mc F ∧ n + ea_ms F1 ≤ ea_ms F)
    (hg : ∀ kx m1 t, g kx m1 = some t → Φ t → ∃ v, res = (kx, v, m1)) (h : ∀ r m1, ea_E G F res (pc + 3) ls (.int r :: st) m1 (k + ea_mc F1) (n + ea_ms F1) (f r m1) Φ) : ea_E G F res pc ls st0 m k n (ea_cx y1 f g) Φ := ev_callXI (f := fun z => f z.1 z.2) htb hr ht hk hg h
theorem ev_cxU {y1 : Option ea_O} {f : Int32 → ea_M → Option τ} {g : Nat → ea_M → Option τ} (htb : ea_tb F = []) (hr : ∀ z, y1 = some z → ea_Rn G F F1 z pc ls st0 st m k n) (ht : ea_ret F1 = none) (hk : k + ea_mc F1 ≤ ea_mc F ∧ n + ea_ms F1 ≤ ea_ms F)
    (hg : ∀ kx m1 t, g kx m1 = some t → Φ t → ∃ v, res = (kx, v, m1)) (h : ∀ r m1, ea_E G F res (pc + 3) ls st m1 (k + ea_mc F1) (n + ea_ms F1) (f r m1) Φ) : ea_E G F res pc ls st0 m k n (ea_cx y1 f g) Φ := ev_callXU (f := fun z => f z.1 z.2) htb hr ht hk hg h
theorem ev_cxC {y1 : Option ea_O} {f : Int32 → ea_M → Option τ} {g : Nat → ea_M → Option τ} {ty : FieldType} (hr : ∀ z, y1 = some z → ea_Rn G F F1 z pc ls st0 st m k n) (ht : ea_ret F1 = some ty)
    (hg : ∀ kx m1 t, 0 < kx → g kx m1 = some t → Φ t → ea_Fl G F res pc ls m1 kx (k + ea_mc F1) (n + ea_ms F1)) (h : ∀ r m1, ea_E G F res (pc + 3) ls (.int r :: st) m1 (k + ea_mc F1) (n + ea_ms F1) (f r m1) Φ) : ea_E G F res pc ls st0 m k n (ea_cx y1 f g) Φ := ev_callC (f := fun z => f z.1 z.2) hr ht hg h
def ea_sl {α β γ : Type} (y : Option (α ⊕ β)) (f : α → Option γ) (g : β → Option γ) : Option γ := y.bind (Sum.elim f g)
theorem ev_sl {α β : Type} {y1 : Option (α ⊕ β)} {f : α → Option τ} {g : β → Option τ} (h : ea_E G F res pc ls st m k n y1 (Sum.elim (fun a => ∃ t, f a = some t ∧ Φ t) (fun b => ∃ t, g b = some t ∧ Φ t))) : ea_E G F res pc ls st m k n (ea_sl y1 f g) Φ := by
  intro t e q
  cases hy : y1 with
  | none => rw [hy] at e; cases e
  | some z =>
    rw [hy] at e
    cases z with
    | inl a => exact h _ hy ⟨t, e, q⟩
    | inr b => exact h _ hy ⟨t, e, q⟩
theorem ea_lt {a b : Nat} (h : Nat.ble (a + 1) b = true) : a < b := Nat.le_of_ble_eq_true h
theorem ea_inlit {i : Int32} {j nn : Nat} (hj : i.toNatClampNeg = j) (h0 : ¬ i < 0) (hn : j < nn) : ¬ (i < 0 ∨ nn ≤ i.toNatClampNeg) := by
  rintro (q | q)
  · exact h0 q
  · rw [hj] at q; omega
theorem ea_g_lit {β : Type} {i : Int32} {j nn : Nat} {x : Option β} (hj : i.toNatClampNeg = j) (h0 : ¬ i < 0) (hn : j < nn) : ea_g i nn x = x := by
  unfold ea_g; rw [if_neg (ea_inlit hj h0 hn)]
theorem ev_ialoadC {a nn j : Nat} {i : Int32} (d : decode (ea_cc F) pc = .ok (.iaload, 1)) (ha : ea_sh a = .inl (0, nn)) (hz : nn ≠ 0) (hj : i.toNatClampNeg = j) (h0 : ¬ i < 0) (hn : j < nn) (h : ea_E G F res (pc + 1) ls (.int (m a j) :: st) m k n x Φ) : ea_E G F res pc ls (.int i :: .ref a :: st) m k n x Φ := by
  have := ev_iaload (i := i) (k := k) (n := n) (res := res) (ls := ls) (st := st) (x := x) (Φ := Φ) d ha hz (by rw [hj]; exact h)
  rwa [ea_g_lit hj h0 hn] at this
theorem ev_baloadC {a nn j : Nat} {i : Int32} (d : decode (ea_cc F) pc = .ok (.baload, 1)) (ha : ea_sh a = .inl (1, nn)) (hj : i.toNatClampNeg = j) (h0 : ¬ i < 0) (hn : j < nn) (h : ea_E G F res (pc + 1) ls (.int (m a j) :: st) m k n x Φ) : ea_E G F res pc ls (.int i :: .ref a :: st) m k n x Φ := by
  have := ev_baload (i := i) (k := k) (n := n) (res := res) (ls := ls) (st := st) (x := x) (Φ := Φ) d ha (by rw [hj]; exact h)
  rwa [ea_g_lit hj h0 hn] at this
theorem ev_laloadC {a nn j : Nat} {i : Int32} (d : decode (ea_cc F) pc = .ok (.laload, 1)) (ha : ea_sh a = .inl (2, nn)) (hj : i.toNatClampNeg = j) (h0 : ¬ i < 0) (hn : j < nn) (h : ea_E G F res (pc + 1) ls (.long (m a j).toInt64 :: st) m k n x Φ) : ea_E G F res pc ls (.int i :: .ref a :: st) m k n x Φ := by
  have := ev_laload (i := i) (k := k) (n := n) (res := res) (ls := ls) (st := st) (x := x) (Φ := Φ) d ha (by rw [hj]; exact h)
  rwa [ea_g_lit hj h0 hn] at this
theorem ev_iastoreC {a nn j : Nat} {i v : Int32} (d : decode (ea_cc F) pc = .ok (.iastore, 1)) (ha : ea_sh a = .inl (0, nn)) (hz : nn ≠ 0) (hj : i.toNatClampNeg = j) (h0 : ¬ i < 0) (hn : j < nn) (h : ea_E G F res (pc + 1) ls st (ea_st m a j v) k n x Φ) : ea_E G F res pc ls (.int v :: .int i :: .ref a :: st) m k n x Φ := by
  have := ev_iastore (i := i) (v := v) (k := k) (n := n) (res := res) (ls := ls) (st := st) (x := x) (Φ := Φ) d ha hz (by rw [hj]; exact h)
  rwa [ea_g_lit hj h0 hn] at this
theorem ev_bastoreC {a nn j : Nat} {i v : Int32} (d : decode (ea_cc F) pc = .ok (.bastore, 1)) (ha : ea_sh a = .inl (1, nn)) (hj : i.toNatClampNeg = j) (h0 : ¬ i < 0) (hn : j < nn) (h : ea_E G F res (pc + 1) ls st (ea_st m a j (vp_nar .byte v)) k n x Φ) : ea_E G F res pc ls (.int v :: .int i :: .ref a :: st) m k n x Φ := by
  have := ev_bastore (i := i) (v := v) (k := k) (n := n) (res := res) (ls := ls) (st := st) (x := x) (Φ := Φ) d ha (by rw [hj]; exact h)
  rwa [ea_g_lit hj h0 hn] at this
theorem ev_lastoreC {a nn j : Nat} {i v : Int32} (d : decode (ea_cc F) pc = .ok (.lastore, 1)) (ha : ea_sh a = .inl (2, nn)) (hj : i.toNatClampNeg = j) (h0 : ¬ i < 0) (hn : j < nn) (h : ea_E G F res (pc + 1) ls st (ea_st m a j v) k n x Φ) : ea_E G F res pc ls (.long v.toInt64 :: .int i :: .ref a :: st) m k n x Φ := by
  have := ev_lastore (i := i) (v := v) (k := k) (n := n) (res := res) (ls := ls) (st := st) (x := x) (Φ := Φ) d ha (by rw [hj]; exact h)
  rwa [ea_g_lit hj h0 hn] at this
theorem ev_copyC {idx a b na nb sp' dp' len' : Nat} {sp dp len : Int32} (d : decode (ea_cc F) pc = .ok (.invokestatic idx, 3)) (hw : Cond.methodLink (ea_own F) idx arraycopyName ∈ lw_tbl) (hw2 : Cond.native arraycopyName ∈ lw_tbl ∧ Cond.static arraycopyName ∈ lw_tbl ∧ Cond.initialized "java/lang/System" ∈ lw_tbl)
    (ha : ea_sh a = .inl (0, na)) (hb : ea_sh b = .inl (0, nb)) (h1 : sp.toNatClampNeg = sp' ∧ ¬ sp < 0) (h2 : dp.toNatClampNeg = dp' ∧ ¬ dp < 0) (h3 : len.toNatClampNeg = len' ∧ ¬ len < 0) (h4 : sp' + len' ≤ na) (h5 : dp' + len' ≤ nb) (h0 : na ≠ 0 ∧ nb ≠ 0) (hr : 1 ≤ (ea_R F).frames ∧ (st.map fun v => v.category).sum + (nativeFrameWords "java/lang/System" "arraycopy" 5 + 11) ≤ (ea_R F).locals)
    (h : ea_E G F res (pc + 3) ls st (ea_up m b (va_cpy (m a) (m b) sp' dp' len')) k n x Φ) :
    ea_E G F res pc ls (.int len :: .int dp :: .ref b :: .int sp :: .ref a :: st) m k n x Φ := by
  have := ev_copy (sp := sp) (dp := dp) (len := len) (k := k) (n := n) (res := res) (ls := ls) (st := st) (x := x) (Φ := Φ) d hw hw2 ha hb h0 hr (by rw [h1.1, h2.1, h3.1]; exact h)
  rwa [if_neg] at this
  rw [h1.1, h2.1, h3.1]
  rintro (q | q | q | q | q)
  · exact h1.2 q
  · exact h2.2 q
  · exact h3.2 q
  · omega
  · omega
theorem ea_caught2 {kx hpc ct : Nat} {name : String} {j : Nat} {pre suf : List (Nat × Nat × Nat × Nat)} {a b : Nat} (hsp : ea_tb F = pre ++ (a, b, hpc, ct) :: suf) (hpre : ∀ z ∈ pre, z.2.2.2 ≠ 0 ∧ ∃ nm : String, Cond.classLink (ea_own F) z.2.2.2 nm ∈ lw_tbl ∧ (ea_exn kx, nm) ∈ ea_ncs)
    (hcov : covers ⟨a, b, hpc, ct⟩ pc = true) (h0 : ct ≠ 0) (hw : Cond.classLink (ea_own F) ct name ∈ lw_tbl) (hw2 : Cond.castable (ea_exn kx) name ∈ lw_tbl) (d : decode (ea_cc F) hpc = .ok (.astore j, 2)) (hj : j < ea_nL F)
    (h : ea_Ev G F res (hpc + 2) (ls.set j none) [] m k n) : ea_Fl G F res pc ls m kx k n := by
  intro p e s mi args below meth c H locs lsA rest q ce hh hl hce hcv hcl
  have hC := hh.2.2.2.1
  refine vx_catch (own := ea_own F) (name := name) (E := ea_exn kx) (ce := ce) hh.2.2.1.2.2.1 (tableOf pre) ⟨a, b, hpc, ct⟩ (tableOf suf) (by rw [hh.2.2.1.2.2.2.2, hsp]; simp [tableOf]) (fun z hz => ?_) hcov h0 (hC.1 _ hw rfl args) (hC.1 _ hw2 rfl args) hce hcv hcl ?_
  · obtain ⟨u, hu, rfl⟩ := List.mem_map.mp hz
    obtain ⟨h1, nm, h2, h3⟩ := hpre u hu
    exact Or.inr ⟨h1, nm, hC.1 _ h2 rfl args, hC.2.2.2.2.2.2.2.1 _ h3⟩
  · refine lv_astore (x := q) hh.1 hh.2.1 d hl.has hj rfl (fun lsB hB => ?_)
    refine h p e s mi args below meth c H locs lsB hh ⟨hB.1, hB.2.1, fun i u hi => ?_⟩
    rw [List.getElem?_set] at hi
    split at hi
    · split at hi <;> cases hi
    · rename_i ne
      have hu := (hl.2.2 i u hi).1
      refine ⟨hu, hB.2.2 (i, ea_tv G u) (List.mem_cons_of_mem _ (List.mem_filter.mpr ⟨ea_lp_mem.mpr ⟨u, hi, rfl⟩, ?_⟩))⟩
      have e1 : (i == j) = false := by simpa using Ne.symm ne
      have e2 : ((ea_tv G u).category == 2) = false := by rw [ea_tv_cat, hu]; rfl
      simp [e1, e2]
theorem ea_okR {a b nL1 : Nat} {c c1 : ByteArray} {o o1 : String} {r r1 : Option FieldType} {nL : Nat} {t t1 : List (Nat × Nat × Nat × Nat)} (h : b + 1 ≤ a) (h2 : nL1 ≤ 29) : ea_ok (ea_rm a 0 0, c, o, r, nL, t, 0, 0) (ea_rm b 0 0, c1, o1, r1, nL1, t1, 0, 0) 0 0 = true := by
  have h3 : 8 + (nL1 + 11) + 48 * b ≤ 48 * a := by omega
  show (decide (b + 1 ≤ a) && decide (8 + (nL1 + 11) + 48 * b ≤ 48 * a) && decide (0 + 0 ≤ 0) && decide (0 + 0 ≤ 0) && decide (0 = 0) && decide (0 = 0)) = true
  rw [decide_eq_true h, decide_eq_true h3]
  rfl
-- Math
def ea_max (a b : Int32) : Int32 := if a < b then b else a
def ea_min (a b : Int32) : Int32 := if b < a then b else a
def ea_abs (a : Int32) : Int32 := if 0 ≤ a then a else 0 - a
def ea_MaW (nm : MethodName) (code : ByteArray) (nL : Nat) : Prop := Cond.static nm ∈ lw_tbl ∧ Cond.initialized "java/lang/Math" ∈ lw_tbl ∧ Cond.code nm code nL (some .int) ∈ lw_tbl
theorem ev_mmax {idx : Nat} {a b : Int32} (d : decode (ea_cc F) pc = .ok (.invokestatic idx, 3)) (hw : Cond.methodLink (ea_own F) idx Lib.Math.max.name ∈ lw_tbl) (hm : ea_MaW Lib.Math.max.name Lib.Math.max.code 2) (hr : 1 ≤ (ea_R F).frames ∧ (st.map fun v => v.category).sum + 13 ≤ (ea_R F).locals ∧ k ≤ (ea_R F).cells ∧ n ≤ (ea_R F).slots)
    (h : ea_E G F res (pc + 3) ls (.int (ea_max a b) :: st) m k n x Φ) : ea_E G F res pc ls (.int b :: .int a :: st) m k n x Φ :=
  fun t e q p e' s mi args below meth c H locs lsA hh hl => va_mmax hh.1 hh.2.1 (hh.2.2.1.2.1.trans hl.1.symm) hh.2.2.1.2.2.1 (hh.2.2.2.1.1 _ hw rfl args) (hh.2.2.2.1.1 _ hm.1 rfl args) (hh.2.2.2.1.1 _ hm.2.1 rfl args) (hh.2.2.2.1.1 _ hm.2.2 rfl args) hr.1 (by rw [ea_catsum]; exact hr.2.1) hr.2.2.1 hr.2.2.2 d (h t e q p e' s mi args below meth c H locs lsA hh hl)
theorem ev_mmin {idx : Nat} {a b : Int32} (d : decode (ea_cc F) pc = .ok (.invokestatic idx, 3)) (hw : Cond.methodLink (ea_own F) idx Lib.Math.min.name ∈ lw_tbl) (hm : ea_MaW Lib.Math.min.name Lib.Math.min.code 2) (hr : 1 ≤ (ea_R F).frames ∧ (st.map fun v => v.category).sum + 13 ≤ (ea_R F).locals ∧ k ≤ (ea_R F).cells ∧ n ≤ (ea_R F).slots)
    (h : ea_E G F res (pc + 3) ls (.int (ea_min a b) :: st) m k n x Φ) : ea_E G F res pc ls (.int b :: .int a :: st) m k n x Φ :=
  fun t e q p e' s mi args below meth c H locs lsA hh hl => va_mmin hh.1 hh.2.1 (hh.2.2.1.2.1.trans hl.1.symm) hh.2.2.1.2.2.1 (hh.2.2.2.1.1 _ hw rfl args) (hh.2.2.2.1.1 _ hm.1 rfl args) (hh.2.2.2.1.1 _ hm.2.1 rfl args) (hh.2.2.2.1.1 _ hm.2.2 rfl args) hr.1 (by rw [ea_catsum]; exact hr.2.1) hr.2.2.1 hr.2.2.2 d (h t e q p e' s mi args below meth c H locs lsA hh hl)
theorem ev_mabs {idx : Nat} {a : Int32} (d : decode (ea_cc F) pc = .ok (.invokestatic idx, 3)) (hw : Cond.methodLink (ea_own F) idx Lib.Math.abs.name ∈ lw_tbl) (hm : ea_MaW Lib.Math.abs.name Lib.Math.abs.code 1) (hr : 1 ≤ (ea_R F).frames ∧ (st.map fun v => v.category).sum + 13 ≤ (ea_R F).locals ∧ k ≤ (ea_R F).cells ∧ n ≤ (ea_R F).slots)
    (h : ea_E G F res (pc + 3) ls (.int (ea_abs a) :: st) m k n x Φ) : ea_E G F res pc ls (.int a :: st) m k n x Φ :=
  fun t e q p e' s mi args below meth c H locs lsA hh hl => va_mabs hh.1 hh.2.1 (hh.2.2.1.2.1.trans hl.1.symm) hh.2.2.1.2.2.1 (hh.2.2.2.1.1 _ hw rfl args) (hh.2.2.2.1.1 _ hm.1 rfl args) (hh.2.2.2.1.1 _ hm.2.1 rfl args) (hh.2.2.2.1.1 _ hm.2.2 rfl args) hr.1 (by rw [ea_catsum]; exact hr.2.1) hr.2.2.1 hr.2.2.2 d (h t e q p e' s mi args below meth c H locs lsA hh hl)
-- texts
def ea_slen (j : Nat) (m : ea_M) : Option (Int32 × ea_M) := some (nI (ea_str.getD j ("", 0, "")).2.2.length, m)
def ea_schr (j : Nat) (i : Int32) (m : ea_M) : Option (Int32 × ea_M) := ea_g i (ea_str.getD j ("", 0, "")).2.2.length (some (nI ((ea_str.getD j ("", 0, "")).2.2.toList.getD i.toNatClampNeg ' ').toNat, m))
theorem ea_runVS {idx np j : Nat} (d : decode (ea_cc F) pc = .ok (.invokevirtual idx, 3)) (hl : Cond.methodLink (ea_own F) idx y ∈ lw_tbl) (hm : ea_MV y F1 np) (hM : ea_Met G y F1 (.ref (1000 + j) :: As) m r1)
    (hj : j < ea_str.length) (hs : st0 = As.reverse ++ .ref (1000 + j) :: st) (hn : As.length = np) (hw : (st.map fun v => v.category).sum ≤ 8) (hk : ea_ok F F1 k n = true) (hy : y.cls = "java/lang/String" := by rfl) : ea_Rn G F F1 r1 pc ls st0 st m k n := by
  intro p e s mi args below meth c H locs lsA hh hl'
  obtain ⟨k1, k2, k3, k4, k5, k6⟩ := ea_ok_of hk
  have hC := hh.2.2.2.1
  have hS := hh.2.2.2.2.1
  have hP := hh.2.2.2.2.2
  refine ⟨_, vx_runV (C := y.cls) (b := ea_ad G (1000 + j)) (As := As.map (ea_tv G)) (Ts := []) ⟨hh.1, hh.2.1, hh.2.2.1.2.1, hh.2.2.1.2.2.1, fun _ h => by cases h⟩ hM ⟨ea_CallB hC hl hm.1 k1 k2 k5 k6, hC.1 _ hm.2.1 rfl args, hC.1 _ hm.2.2 rfl args⟩ ⟨ea_Pc_blind G _ m, ?_, fun U hU hW => ?_⟩ rfl (by rw [List.length_map]; exact hn) hl'.1 ?_ (lv_room (by rw [ea_catsum]; exact hw)) d ⟨k3, k4⟩⟩
  · obtain ⟨cell, h1, h2, h3, -⟩ := ((hC.2.2.2.1 j hj).2.1).kept hS.2.1
    exact ⟨cell, h1, h2, by rw [hy]; exact h3⟩
  · exact ⟨rfl, hC.go hW (by rw [hU]; exact hS.1) (fun q h1 h2 => by rw [hU]; exact hS.2.1 q h1 h2), by rw [hU]; exact hP⟩
  · show st0.map (ea_tv G) = _
    rw [hs]
    simp [ea_tv]
end EVR
