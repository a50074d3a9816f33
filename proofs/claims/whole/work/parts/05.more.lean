section EVX
variable {τ : Type} {G : ea_G} {F F1 : ea_F} {res r1 : ea_O} {pc : Nat} {ls : List (Option Value)} {st st0 As : List Value} {m : ea_M} {k n : Nat} {x : Option τ} {Φ : τ → Prop} {y : MethodName}
theorem ev_ite {c : Prop} [Decidable c] {x2 : Option τ} (h1 : c → ea_E G F res pc ls st m k n x Φ) (h2 : ¬ c → ea_E G F res pc ls st m k n x2 Φ) : ea_E G F res pc ls st m k n (if c then x else x2) Φ := by
  intro t e q
  by_cases hc : c
  · rw [if_pos hc] at e; exact h1 hc t e q
  · rw [if_neg hc] at e; exact h2 hc t e q
theorem ev_tsw {a c : Int32} {dflt lo hi off : Int} {offs : Array Int} {len tgt : Nat} (hc : a = c) (d : decode (ea_cc F) pc = .ok (.tableswitch dflt lo hi offs, len)) (h1 : ¬ c.toInt < lo) (h2 : ¬ hi < c.toInt) (ho : offs[(c.toInt - lo).toNat]? = some off) (ht : (pc : Int) + off = (tgt : Int)) (h : ea_E G F res tgt ls st m k n x Φ) : ea_E G F res pc ls (.int a :: st) m k n x Φ := by
  subst hc
  exact fun t e q p e' s mi args below meth c H locs lsA hh hl => lv_tableIn hh.1 hh.2.1 d h1 h2 ho ht (h t e q p e' s mi args below meth c H locs lsA hh hl)
theorem ea_tout {a : Int32} {lo : Int} {cnt : Nat} (h : ∀ j : Nat, j < cnt → ¬ a.toInt = lo + j) : a.toInt < lo ∨ lo + cnt - 1 < a.toInt := by
  by_cases q : a.toInt < lo
  · exact Or.inl q
  · by_cases r : lo + cnt - 1 < a.toInt
    · exact Or.inr r
    · exact absurd (show a.toInt = lo + ((a.toInt - lo).toNat : Int) by omega) (h (a.toInt - lo).toNat (by omega))
theorem ev_tswOut {a : Int32} {dflt lo hi : Int} {offs : Array Int} {len tgt cnt : Nat} (d : decode (ea_cc F) pc = .ok (.tableswitch dflt lo hi offs, len)) (hhi : hi = lo + (cnt : Int) - 1) (hne : ∀ j : Nat, j < cnt → ¬ a.toInt = lo + j) (ht : (pc : Int) + dflt = (tgt : Int)) (h : ea_E G F res tgt ls st m k n x Φ) : ea_E G F res pc ls (.int a :: st) m k n x Φ :=
  fun t e q p e' s mi args below meth c H locs lsA hh hl => lv_tableOut hh.1 hh.2.1 d (by rw [hhi]; exact ea_tout hne) ht (h t e q p e' s mi args below meth c H locs lsA hh hl)
theorem ea_nZ {a : Int32} {lo : Int} : ∀ j : Nat, j < 0 → ¬ a.toInt = lo + j := fun _ h => absurd h (Nat.not_lt_zero _)
theorem ea_nS {a : Int32} {lo : Int} {c : Nat} (h : ∀ j : Nat, j < c → ¬ a.toInt = lo + j) {v : Int32} (hv : v.toInt = lo + c) (hc : ¬ a = v) : ∀ j : Nat, j < c + 1 → ¬ a.toInt = lo + j := by
  intro j hj
  rcases Nat.lt_or_ge j c with q | q
  · exact h j q
  · have : j = c := by omega
    subst this
    rw [← hv]
    exact fun e => hc (Int32.toInt_inj.mp e)
-- names for what has been reckoned
def ea_bd {α β : Type} (v : α) (f : α → Option β) : Option β := f v
theorem ev_m {f : ea_M → Option τ} (h : ∀ m1, ea_E G F res pc ls st m1 k n (f m1) Φ) : ea_E G F res pc ls st m k n (ea_bd m f) Φ := h m
theorem ev_i {v : Int32} {f : Int32 → Option τ} (h : ∀ v1, ea_E G F res pc ls (.int v1 :: st) m k n (f v1) Φ) : ea_E G F res pc ls (.int v :: st) m k n (ea_bd v f) Φ := h v
theorem ev_aaloadP {a kd : Nat} {rs : List Nat} {C : String} {i : Int32} {P : Nat → Prop} {f : Nat → Option τ} (hP : ∀ r ∈ rs, P r) (d : decode (ea_cc F) pc = .ok (.aaload, 1)) (ha : ea_sh a = .inr (.inr (kd, rs))) (hk : (ea_tys G)[kd]? = some (ea_cA G kd, .object C)) (h : ∀ r, P r → ea_E G F res (pc + 1) ls (.ref r :: st) m k n (f r) Φ) : ea_E G F res pc ls (.int i :: .ref a :: st) m k n (ea_g i rs.length (ea_bd (rs.getD i.toNatClampNeg 0) f)) Φ := by
  intro t e q
  have hi := (ea_g_some e).1
  have hlt : i.toNatClampNeg < rs.length := Nat.not_le.mp fun q => hi (Or.inr q)
  refine ev_aaload d ha hk (h _ (hP _ ?_)) t e q
  rw [List.getD_eq_getElem?_getD, List.getElem?_eq_getElem hlt]
  exact List.getElem_mem hlt
theorem ea_widen {k' n' : Nat} (h1 : k ≤ k') (h2 : n ≤ n') (h : ea_Ev G F res pc ls st m k' n') : ea_Ev G F res pc ls st m k n :=
  fun p e' s mi args below meth c H locs lsA hh hl => W.widen h1 h2 (h p e' s mi args below meth c H locs lsA hh hl)
theorem ev_wid {k' n' : Nat} (h1 : k ≤ k') (h2 : n ≤ n') (h : ea_E G F res pc ls st m k' n' x Φ) : ea_E G F res pc ls st m k n x Φ := fun t e q => ea_widen h1 h2 (h t e q)
/-- fewer locals are known -/
def ea_sub : List (Option Value) → List (Option Value) → Prop
  | [], _ => True
  | _ :: _, [] => False
  | a :: as, b :: bs => (a = none ∨ a = b) ∧ ea_sub as bs
theorem ea_sub_get : ∀ {l1 l2 : List (Option Value)}, ea_sub l1 l2 → ∀ (j : Nat) (v : Value), l1[j]? = some (some v) → l2[j]? = some (some v)
  | [], _, _, j, v, h => by simp at h
  | _ :: _, [], s, _, _, _ => False.elim s
  | a :: as, b :: bs, s, 0, v, h => by
    rcases s.1 with e | e
    · rw [e] at h; simp at h
    · rw [← e]; simpa using h
  | a :: as, b :: bs, s, j + 1, v, h => by
    have h1 := ea_sub_get s.2 j v (by simpa using h)
    simpa using h1
theorem ea_drop {l' : List (Option Value)} (hs : ea_sub l' ls) (h : ea_Ev G F res pc l' st m k n) : ea_Ev G F res pc ls st m k n :=
  fun p e' s mi args below meth c H locs lsA hh hl => h p e' s mi args below meth c H locs lsA hh ⟨hl.1, hl.2.1, fun j v hj => hl.2.2 j v (ea_sub_get hs j v hj)⟩
theorem ev_drop {l' : List (Option Value)} (hs : ea_sub l' ls) (h : ea_E G F res pc l' st m k n x Φ) : ea_E G F res pc ls st m k n x Φ := fun t e q => ea_drop hs (h t e q)
-- arraycopy of int rows
theorem ev_copy {idx a b na nb : Nat} {sp dp len : Int32} (d : decode (ea_cc F) pc = .ok (.invokestatic idx, 3)) (hw : Cond.methodLink (ea_own F) idx arraycopyName ∈ lw_tbl) (hw2 : Cond.native arraycopyName ∈ lw_tbl ∧ Cond.static arraycopyName ∈ lw_tbl ∧ Cond.initialized "java/lang/System" ∈ lw_tbl)
    (ha : ea_sh a = .inl (0, na)) (hb : ea_sh b = .inl (0, nb)) (h0 : na ≠ 0 ∧ nb ≠ 0) (hr : 1 ≤ (ea_R F).frames ∧ (st.map fun v => v.category).sum + (nativeFrameWords "java/lang/System" "arraycopy" 5 + 11) ≤ (ea_R F).locals)
    (h : ea_E G F res (pc + 3) ls st (ea_up m b (va_cpy (m a) (m b) sp.toNatClampNeg dp.toNatClampNeg len.toNatClampNeg)) k n x Φ) :
    ea_E G F res pc ls (.int len :: .int dp :: .ref b :: .int sp :: .ref a :: st) m k n (if sp < 0 ∨ dp < 0 ∨ len < 0 ∨ na < sp.toNatClampNeg + len.toNatClampNeg ∨ nb < dp.toNatClampNeg + len.toNatClampNeg then none else x) Φ := by
  intro t e q p e' s mi args below meth c H locs lsA hh hl
  split at e
  · cases e
  · rename_i hg
    simp only [not_or] at hg
    obtain ⟨g1, g2, g3, g4, g5⟩ := hg
    have hC := hh.2.2.2.1
    refine va_copyi (ty := .int) hh.1 hh.2.1 (hh.2.2.1.2.1.trans hl.1.symm) hh.2.2.1.2.2.1 (hC.1 _ hw rfl args) (hC.1 _ hw2.1 rfl args) (hC.1 _ hw2.2.1 rfl args) (hC.1 _ hw2.2.2 rfl args) hC.2.1 hh.2.2.2.2.2 (hC.D m) hh.2.2.2.2.1 a b 0 0 (n0 := na) (n1 := nb) (f := m a) (g := m b) (ea_cell_at hh ha (fun z => h0.1 (by cases z; rfl))) (ea_cell_at hh hb (fun z => h0.2 (by cases z; rfl))) rfl rfl rfl g1 g2 g3 (Nat.not_lt.mp g4) (Nat.not_lt.mp g5) (fun _ _ => rfl) hr.1 (by rw [ea_catsum]; exact hr.2) d (fun H1 locs1 hP1 hD1 hS1 => ?_)
    refine h t e q p e' s mi args below meth c H1 locs1 lsA ⟨hh.1, hh.2.1, hh.2.2.1, hC, hS1, ?_⟩ hl
    have e1 : ea_cell G (ea_sh b) (va_cpy (m a) (m b) sp.toNatClampNeg dp.toNatClampNeg len.toNatClampNeg) = .inl (ea_cA G 0, nb, .inl (va_cpy (m a) (m b) sp.toNatClampNeg dp.toNatClampNeg len.toNatClampNeg)) := by rw [hb]; rfl
    rw [← e1, ea_ws_set] at hP1
    exact hP1
-- throw new E("text"), out of the method
def ea_sup : List String := ["java/lang/RuntimeException", "java/lang/Exception"]
def ea_tP (cls : String) : List Cond := Jvm.Bundle.throwableAtoms ++ Jvm.Bundle.throwableSAtoms ++ Jvm.Bundle.chainSAtoms cls ea_sup
def ea_tQ (cls : String) : List Cond := (Jvm.Bundle.ownAtoms "" 0 cls ea_sup).drop ((ea_tP cls).length + 1)
theorem ea_own_split (own : String) (ic : Nat) (cls : String) : Jvm.Bundle.ownAtoms own ic cls ea_sup = ea_tP cls ++ (Cond.methodLink own ic (Jvm.Bundle.initS cls) :: ea_tQ cls) := rfl
def ea_TW (cls : String) : Prop := ∀ w ∈ ea_tP cls ++ ea_tQ cls, vx_no w = true → (w ∈ lw_tbl ∧ ea_gw w = true ∧ vx_ot w = true)
set_option maxHeartbeats 4000000 in
theorem ea_tw1 : ea_TW "java/lang/IndexOutOfBoundsException" := by unfold ea_TW; decide +kernel
set_option maxHeartbeats 4000000 in
theorem ea_tw2 : ea_TW "java/lang/IllegalArgumentException" := by unfold ea_TW; decide +kernel
set_option maxHeartbeats 4000000 in
theorem ea_tw3 : ea_TW "java/lang/IllegalStateException" := by unfold ea_TW; decide +kernel
set_option maxHeartbeats 4000000 in
theorem ea_tw5 : ea_TW "java/lang/UnsupportedOperationException" := by unfold ea_TW; decide +kernel
theorem ea_tin {own cls : String} {ic : Nat} {w : Cond} (h : w ∈ vx_atS own ic cls ea_sup) (hW : ea_TW cls) : w = Cond.methodLink own ic (Jvm.Bundle.initS cls) ∨ (w ∈ lw_tbl ∧ ea_gw w = true ∧ vx_ot w = true) := by
  unfold vx_atS at h
  rw [List.mem_filter, ea_own_split] at h
  obtain ⟨h, h2⟩ := h
  rcases List.mem_append.mp h with h | h
  · exact Or.inr (hW w (List.mem_append_left _ h) h2)
  · rcases List.mem_cons.mp h with h | h
    · exact Or.inl h
    · exact Or.inr (hW w (List.mem_append_right _ h) h2)
theorem ev_throwS {t0 : τ} {cls tx : String} {kx ik is ic j : Nat} (d0 : decode (ea_cc F) pc = .ok (.new ik, 3)) (d3 : decode (ea_cc F) (pc + 3) = .ok (.dup, 1)) (d4 : decode (ea_cc F) (pc + 4) = .ok (.ldc is, 2)) (d6 : decode (ea_cc F) (pc + 6) = .ok (.invokespecial ic, 3)) (d9 : decode (ea_cc F) (pc + 9) = .ok (.athrow, 1))
    (htb : ea_tb F = []) (hkx : 0 < kx) (hcls : ea_exn kx = cls) (hf : Jvm.Bundle.fit cls = true) (hW : ea_TW cls) (hw1 : Cond.classLink (ea_own F) ik cls ∈ lw_tbl) (hw2 : Cond.initialized cls ∈ lw_tbl) (hw3 : Cond.methodLink (ea_own F) ic (Jvm.Bundle.initS cls) ∈ lw_tbl) (hj : ea_str[j]? = some (ea_own F, is, tx))
    (hr : 5 < (ea_R F).frames ∧ (st.map fun v => v.category).sum + 82 ≤ (ea_R F).locals ∧ k + 1 ≤ (ea_R F).cells ∧ n + 6 ≤ (ea_R F).slots ∧ k + 1 ≤ ea_mc F ∧ n + 6 ≤ ea_ms F) (hq : Φ t0 → ∃ v, res = (kx, v, m)) : ea_E G F res pc ls st m k n (some t0) Φ := by
  intro t e q p e' s mi args below meth c H locs lsA hh hl
  cases e
  obtain ⟨v, e1⟩ := hq q
  subst e1
  have hC := hh.2.2.2.1
  have h1 := (hC.2.2.2.1 j (List.getElem?_eq_some_iff.mp hj).1).1
  rw [List.getD_eq_getElem?_getD, hj] at h1
  obtain ⟨r1, r2, r3, r4, r5, r6⟩ := hr
  refine vx_throwS (names := ea_sup) (cls := cls) (A := ea_A G) hh.1 hh.2.1 hC.2.2.2.2.2.2.2.2 hh.2.2.1.2.2.1 hf (by decide +kernel) (hC.1 _ hw1 rfl args) (hC.1 _ hw2 rfl args) h1 (fun w hw => ?_) (fun w hw => ?_) hC.2.2.2.2.2.1.1 hC.2.2.2.2.2.1.2 hh.2.2.2.2.1 (hl.1.trans hh.2.2.1.2.1.symm) d0 d3 d4 d6 d9 (fun z hz => by rw [hh.2.2.1.2.2.2.2, htb] at hz; cases hz)
    r1 (by rw [ea_catsum]; exact r2) r3 r4 hh.2.2.1.2.2.2.1 (fun t hv hz hk => ⟨hkx, hcls.symm, ?_, ?_⟩) (fun z hz => hh.2.2.2.2.1.2.2 z hz) r5 r6
  · rcases ea_tin hw hW with e1 | ⟨h3, h4, -⟩
    · rw [e1]; exact hC.1 _ hw3 rfl args
    · exact hC.1 _ h3 h4 args
  · rcases List.mem_cons.mp hw with e1 | hw
    · rw [e1]; rfl
    · rcases List.mem_cons.mp hw with e1 | hw
      · rw [e1]; rfl
      · rcases ea_tin hw hW with e1 | ⟨-, -, h5⟩
        · rw [e1]; rfl
        · exact h5
  · exact fun j q hq => (hh.2.2.2.2.2 j q hq).kept (hk q.1 (hh.2.2.2.2.2 j q hq).lt)
  · exact ⟨Nat.le_trans hh.2.2.2.2.1.1 hz, fun q h1 h2 => (hk q (Nat.lt_of_lt_of_le h1 hh.2.2.2.2.1.1)).trans (hh.2.2.2.2.1.2.1 q h1 h2)⟩
theorem ev_throwSW {t0 : τ} {cls tx : String} {kx ik is ic j : Nat} (d0 : decode (ea_cc F) pc = .ok (.new ik, 3)) (d3 : decode (ea_cc F) (pc + 3) = .ok (.dup, 1)) (d4 : decode (ea_cc F) (pc + 4) = .ok (.ldc_w is, 3)) (d6 : decode (ea_cc F) (pc + 7) = .ok (.invokespecial ic, 3)) (d9 : decode (ea_cc F) (pc + 10) = .ok (.athrow, 1))
    (htb : ea_tb F = []) (hkx : 0 < kx) (hcls : ea_exn kx = cls) (hf : Jvm.Bundle.fit cls = true) (hW : ea_TW cls) (hw1 : Cond.classLink (ea_own F) ik cls ∈ lw_tbl) (hw2 : Cond.initialized cls ∈ lw_tbl) (hw3 : Cond.methodLink (ea_own F) ic (Jvm.Bundle.initS cls) ∈ lw_tbl) (hj : ea_str[j]? = some (ea_own F, is, tx))
    (hr : 5 < (ea_R F).frames ∧ (st.map fun v => v.category).sum + 82 ≤ (ea_R F).locals ∧ k + 1 ≤ (ea_R F).cells ∧ n + 6 ≤ (ea_R F).slots ∧ k + 1 ≤ ea_mc F ∧ n + 6 ≤ ea_ms F) (hq : Φ t0 → ∃ v, res = (kx, v, m)) : ea_E G F res pc ls st m k n (some t0) Φ := by
  intro t e q p e' s mi args below meth c H locs lsA hh hl
  cases e
  obtain ⟨v, e1⟩ := hq q
  subst e1
  have hC := hh.2.2.2.1
  have h1 := (hC.2.2.2.1 j (List.getElem?_eq_some_iff.mp hj).1).1
  rw [List.getD_eq_getElem?_getD, hj] at h1
  obtain ⟨r1, r2, r3, r4, r5, r6⟩ := hr
  refine vx_throwSW (names := ea_sup) (cls := cls) (A := ea_A G) hh.1 hh.2.1 hC.2.2.2.2.2.2.2.2 hh.2.2.1.2.2.1 hf (by decide +kernel) (hC.1 _ hw1 rfl args) (hC.1 _ hw2 rfl args) h1 (fun w hw => ?_) (fun w hw => ?_) hC.2.2.2.2.2.1.1 hC.2.2.2.2.2.1.2 hh.2.2.2.2.1 (hl.1.trans hh.2.2.1.2.1.symm) d0 d3 d4 d6 d9 (fun z hz => by rw [hh.2.2.1.2.2.2.2, htb] at hz; cases hz)
    r1 (by rw [ea_catsum]; exact r2) r3 r4 hh.2.2.1.2.2.2.1 (fun t hv hz hk => ⟨hkx, hcls.symm, ?_, ?_⟩) (fun z hz => hh.2.2.2.2.1.2.2 z hz) r5 r6
  · rcases ea_tin hw hW with e1 | ⟨h3, h4, -⟩
    · rw [e1]; exact hC.1 _ hw3 rfl args
    · exact hC.1 _ h3 h4 args
  · rcases List.mem_cons.mp hw with e1 | hw
    · rw [e1]; rfl
    · rcases List.mem_cons.mp hw with e1 | hw
      · rw [e1]; rfl
      · rcases ea_tin hw hW with e1 | ⟨-, -, h5⟩
        · rw [e1]; rfl
        · exact h5
  · exact fun j q hq => (hh.2.2.2.2.2 j q hq).kept (hk q.1 (hh.2.2.2.2.2 j q hq).lt)
  · exact ⟨Nat.le_trans hh.2.2.2.2.1.1 hz, fun q h1 h2 => (hk q (Nat.lt_of_lt_of_le h1 hh.2.2.2.2.1.1)).trans (hh.2.2.2.2.1.2.1 q h1 h2)⟩
/-- where an exception of kind kx flies at pc -/
def ea_Fl (G : ea_G) (F : ea_F) (res : ea_O) (pc : Nat) (ls : List (Option Value)) (m : ea_M) (kx k n : Nat) : Prop :=
  ∀ (p : Program) (e : Env) (s : State) (mi : MethodId) (args : Array Value) (below : List Frame) (meth : Method) (c : Code) (H : Heap) (locs : List Loc) (lsA : Array Slot) (rest : List Value) (q : Addr) (ce : Cell), ea_H G F p s mi meth c H locs m → ea_lh G lsA (ea_nL F) ls → H[q]? = some ce → ce.vm = .none → s.vm.findClass (ea_exn kx) = some ce.cls →
    vx_W p (ea_l G) e (ea_R F) s mi args below meth c H locs k n (vx_MQ below (ea_Q G F res) (ea_X G res) args s (ea_mc F) (ea_ms F) (ea_A G)) (F0 mi pc lsA rest) q
theorem ev_callC {y1 : Option ea_O} {f : Int32 × ea_M → Option τ} {g : Nat → ea_M → Option τ} {ty : FieldType} (hr : ∀ z, y1 = some z → ea_Rn G F F1 z pc ls st0 st m k n) (ht : ea_ret F1 = some ty)
    (hg : ∀ kx m1 t, 0 < kx → g kx m1 = some t → Φ t → ea_Fl G F res pc ls m1 kx (k + ea_mc F1) (n + ea_ms F1)) (h : ∀ r m1, ea_E G F res (pc + 3) ls (.int r :: st) m1 (k + ea_mc F1) (n + ea_ms F1) (f (r, m1)) Φ) : ea_E G F res pc ls st0 m k n (y1.bind (ea_thr f g)) Φ := by
  intro t e q
  cases hy : y1 with
  | none => rw [hy] at e; cases e
  | some z =>
    obtain ⟨kx, r, m1⟩ := z
    rw [hy] at e
    have e : ea_thr f g (kx, r, m1) = some t := e
    unfold ea_thr at e
    have hz := hr _ hy
    by_cases hx : kx = 0
    · subst hx
      rw [if_pos rfl] at e
      refine ea_ret_go hz ?_
      rw [ht]
      exact h r m1 t e q
    · rw [if_neg hx] at e
      have hfl := hg kx m1 t (Nat.pos_of_ne_zero hx) e q
      intro p e' s mi args below meth c H locs lsA hh hl T hT X
      obtain ⟨a, hrun⟩ := hz p e' s mi args below meth c H locs lsA hh hl
      rcases hrun T hT X with ⟨v, st₀, t, T', L, h0, X', hL, e1, e2, ⟨w, -⟩, go⟩ | ⟨q, st₀, t, T', L, E, ce, h0, X', hL, e1, e2, ⟨-, hE, hP1, hF⟩, hce, hcv, hcl, go⟩
      · exact absurd w hx
      · obtain ⟨-, -, k3⟩ := vx_keep (A1 := ea_A G) h0 e1 hh.2.2.2.2.1 (fun _ _ z => z) (fun _ z => z) hL hF
        obtain ⟨t2, a1, b1⟩ := hfl p e' s mi args below meth c T'.heap (locs ++ L) lsA (st.map (ea_tv G)) q ce ⟨hh.1, hh.2.1, hh.2.2.1, hh.2.2.2.1, k3, by rw [e1]; exact hP1⟩ hl (by rw [e1]; exact hce) hcv (hE ▸ hcl) T' rfl X'
        exact ⟨t2, go.trans a1, b1⟩
/-- the handler stores the exception away, and goes on -/
theorem ea_caught {kx hpc ct : Nat} {name : String} {j : Fin 4} {pre suf : List (Nat × Nat × Nat × Nat)} {a b : Nat} (hsp : ea_tb F = pre ++ (a, b, hpc, ct) :: suf) (hpre : ∀ z ∈ pre, z.2.2.2 ≠ 0 ∧ ∃ nm : String, Cond.classLink (ea_own F) z.2.2.2 nm ∈ lw_tbl ∧ (ea_exn kx, nm) ∈ ea_ncs)
    (hcov : covers ⟨a, b, hpc, ct⟩ pc = true) (h0 : ct ≠ 0) (hw : Cond.classLink (ea_own F) ct name ∈ lw_tbl) (hw2 : Cond.castable (ea_exn kx) name ∈ lw_tbl) (d : decode (ea_cc F) hpc = .ok (.astore_n j, 1)) (hj : (j : Nat) < ea_nL F)
    (h : ea_Ev G F res (hpc + 1) (ls.set (j : Nat) none) [] m k n) : ea_Fl G F res pc ls m kx k n := by
  intro p e s mi args below meth c H locs lsA rest q ce hh hl hce hcv hcl
  have hC := hh.2.2.2.1
  refine vx_catch (own := ea_own F) (name := name) (E := ea_exn kx) (ce := ce) hh.2.2.1.2.2.1 (tableOf pre) ⟨a, b, hpc, ct⟩ (tableOf suf) (by rw [hh.2.2.1.2.2.2.2, hsp]; simp [tableOf]) (fun z hz => ?_) hcov h0 (hC.1 _ hw rfl args) (hC.1 _ hw2 rfl args) hce hcv hcl ?_
  · obtain ⟨u, hu, rfl⟩ := List.mem_map.mp hz
    obtain ⟨h1, nm, h2, h3⟩ := hpre u hu
    exact Or.inr ⟨h1, nm, hC.1 _ h2 rfl args, hC.2.2.2.2.2.2.2.1 _ h3⟩
  · refine lv_astore_n (x := q) hh.1 hh.2.1 d rfl hl.has hj rfl (fun lsB hB => ?_)
    refine h p e s mi args below meth c H locs lsB hh ⟨hB.1, hB.2.1, fun i u hi => ?_⟩
    rw [List.getElem?_set] at hi
    split at hi
    · split at hi <;> cases hi
    · rename_i ne
      have hu := (hl.2.2 i u hi).1
      refine ⟨hu, hB.2.2 (i, ea_tv G u) (List.mem_cons_of_mem _ (List.mem_filter.mpr ⟨ea_lp_mem.mpr ⟨u, hi, rfl⟩, ?_⟩))⟩
      have e1 : (i == (j : Nat)) = false := by simpa using Ne.symm ne
      have e2 : ((ea_tv G u).category == 2) = false := by rw [ea_tv_cat, hu]; rfl
      simp [e1, e2]
end EVX
