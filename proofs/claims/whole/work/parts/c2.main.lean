section MAINP
/-! the cells that the constructors make are the start memory, at the places' addresses -/
theorem ez_go_cg {ad ad' : Nat → Nat} {f : Nat → Int32} : ∀ (fds : List (Option Nat)) (i : Nat), (∀ r, some r ∈ fds → ad r = ad' r) → eg_go ad f i fds = eg_go ad' f i fds
  | [], _, _ => rfl
  | none :: t, i, h => by rw [eg_go, eg_go, ez_go_cg t (i + 1) (fun r hr => h r (List.mem_cons_of_mem _ hr))]
  | some r :: t, i, h => by rw [eg_go, eg_go, h r List.mem_cons_self, ez_go_cg t (i + 1) (fun r hr => h r (List.mem_cons_of_mem _ hr))]
/-- the places that a shape names -/
def ez_rs (sh : ea_S) : List Nat := match sh with
  | .inl _ => []
  | .inr (.inl (_, fds)) => fds.filterMap id
  | .inr (.inr (_, rs)) => rs
theorem ez_cell_cg {cA : Nat → ClassId} {ad ad' : Nat → Nat} {f : Nat → Int32} {sh : ea_S} (h : ∀ r ∈ ez_rs sh, ad r = ad' r) : eg_cell cA ad sh f = eg_cell cA ad' sh f := by
  match sh, h with
  | .inl (k, n), h => rfl
  | .inr (.inl (c, fds)), h =>
    show (Sum.inr (c, eg_go ad f 0 fds) : va_E) = .inr (c, eg_go ad' f 0 fds)
    rw [ez_go_cg fds 0 (fun r hr => h r (List.mem_filterMap.mpr ⟨some r, hr, rfl⟩))]
  | .inr (.inr (k, rs)), h =>
    show (Sum.inl (cA k, rs.length, .inr (.inr (.inr (.inr (fun j => (rs[j]?).map ad))))) : va_E) = .inl (cA k, rs.length, .inr (.inr (.inr (.inr (fun j => (rs[j]?).map ad')))))
    have e : (fun j : Nat => (rs[j]?).map ad) = fun j : Nat => (rs[j]?).map ad' := by
      funext j
      cases hj : rs[j]? with
      | none => rfl
      | some r => exact congrArg some (h r (List.mem_of_getElem? hj))
    rw [e]
theorem ez_blk_cg {cA : Nat → ClassId} {ad ad' : Nat → Nat} (lo hi : Nat) (h : ∀ k, lo ≤ k → k < hi → ad k = ad' k) : ∀ (n b : Nat), (∀ k, b ≤ k → k < b + n → (lo ≤ k ∧ k < hi) ∧ ∀ r ∈ ez_rs (ea_sh k), lo ≤ r ∧ r < hi) → eg_blk cA ad n b = eg_blk cA ad' n b
  | 0, _, _ => rfl
  | n + 1, b, hr => by
    obtain ⟨⟨g1, g2⟩, g3⟩ := hr b (Nat.le_refl _) (by omega)
    rw [eg_blk, eg_blk, h b g1 g2, ez_cell_cg (fun r q => h r (g3 r q).1 (g3 r q).2), ez_blk_cg lo hi h n (b + 1) (fun k q1 q2 => hr k (by omega) (by omega))]
theorem ez_blk_app (cA : Nat → ClassId) (ad : Nat → Nat) (k : Nat) : ∀ (n b : Nat), eg_blk cA ad (n + k) b = eg_blk cA ad n b ++ eg_blk cA ad k (b + n)
  | 0, b => by rw [Nat.zero_add]; rfl
  | n + 1, b => by
    rw [show n + 1 + k = (n + k) + 1 by omega, eg_blk, eg_blk, ez_blk_app cA ad k n (b + 1), show b + 1 + n = b + (n + 1) by omega]
    rfl
theorem ez_blk_get (cA : Nat → ClassId) (ad : Nat → Nat) : ∀ (n b k : Nat), k < n → (eg_blk cA ad n b)[k]? = some (ad (b + k), eg_cell cA ad (ea_sh (b + k)) (ez_m0 (b + k)))
  | 0, _, k, h => absurd h (Nat.not_lt_zero k)
  | n + 1, b, 0, _ => by rw [eg_blk]; rfl
  | n + 1, b, k + 1, h => by
    rw [eg_blk, List.getElem?_cons_succ, ez_blk_get cA ad n (b + 1) k (by omega), show b + 1 + k = b + (k + 1) by omega]
theorem ez_blk_len (cA : Nat → ClassId) (ad : Nat → Nat) : ∀ (n b : Nat), (eg_blk cA ad n b).length = n
  | 0, _ => rfl
  | n + 1, b => by rw [eg_blk, List.length_cons, ez_blk_len cA ad n (b + 1)]
theorem ez_go_fs (G : ea_G) (f : Nat → Int32) : ∀ (fds : List (Option Nat)) (i j : Nat), (eg_go (ea_ad G) f i fds)[j]? = (fds[j]?).map (fun t => match t with | none => Value.int (f (i + j)) | some r => .ref (ea_ad G r))
  | [], i, j => by rw [eg_go]; rfl
  | none :: t, i, 0 => by rw [eg_go]; rfl
  | some r :: t, i, 0 => by rw [eg_go]; rfl
  | none :: t, i, j + 1 => by rw [eg_go, List.getElem?_cons_succ, List.getElem?_cons_succ, ez_go_fs G f t (i + 1) j, show i + 1 + j = i + (j + 1) by omega]
  | some r :: t, i, j + 1 => by rw [eg_go, List.getElem?_cons_succ, List.getElem?_cons_succ, ez_go_fs G f t (i + 1) j, show i + 1 + j = i + (j + 1) by omega]
theorem ez_cell_eq (G : ea_G) (sh : ea_S) (f : Nat → Int32) : eg_cell (ea_cA G) (ea_ad G) sh f = ea_cell G sh f := by
  match sh with
  | .inl (k, n) => rfl
  | .inr (.inl (c, fds)) =>
    show (Sum.inr (c, eg_go (ea_ad G) f 0 fds) : va_E) = .inr (c, ea_fs G f fds)
    have e : eg_go (ea_ad G) f 0 fds = ea_fs G f fds := by
      apply List.ext_getElem?
      intro j
      rw [ez_go_fs, ea_fs, List.getElem?_mapIdx, Nat.zero_add]
      rfl
    rw [e]
  | .inr (.inr (k, rs)) => rfl
theorem ez_ws_eq (G : ea_G) : eg_blk (ea_cA G) (ea_ad G) 288 0 = ea_ws G ez_m0 := by
  apply List.ext_getElem?
  intro k
  by_cases hk : k < 288
  · rw [ez_blk_get _ _ 288 0 k hk, ea_ws_get G ez_m0 hk, Nat.zero_add, ez_cell_eq]
  · rw [List.getElem?_eq_none (by rw [ez_blk_len]; omega), List.getElem?_eq_none (by simpa [ea_ws, ea_N] using Nat.not_lt.mp hk)]
theorem ez_rf1 : ∀ k : Nat, k < 272 → ∀ r ∈ ez_rs (ea_sh k), r < 272 := by decide +kernel
theorem ez_rf2 : ∀ k : Nat, k < 15 → ∀ r ∈ ez_rs (ea_sh (272 + k)), 272 ≤ r ∧ r < 287 := by decide +kernel
theorem ez_out (cA : Nat → ClassId) (ad : Nat → Nat) : eg_cell cA ad (ea_sh 287) (ez_m0 287) = .inl (cA 2, 1, .inr (.inl (fun _ => 0))) := by
  have e1 : ea_sh 287 = .inl (2, 1) := by decide +kernel
  have e2 : ez_m0 287 = fun _ => 0 := by
    unfold ez_m0
    rw [if_neg (by decide), if_neg (by decide), if_neg (by decide), if_neg (by decide), if_neg (by decide), if_neg (by decide), if_neg (by decide)]
  rw [e1, e2]
  rfl
/-- the three parts together -/
theorem ez_cells (cA : Nat → ClassId) (aY aM : Nat → Nat) (q : Nat) : (eg_blk cA aY 272 0 ++ eg_blk cA aM 15 272) ++ [(q, .inl (cA 2, 1, .inr (.inl (fun _ => 0))))] = eg_blk cA (fun k => if k < 272 then aY k else if k < 287 then aM k else q) 288 0 := by
  rw [show (288 : Nat) = (272 + 15) + 1 from rfl, ez_blk_app, ez_blk_app]
  rw [ez_blk_cg (ad := aY) (ad' := fun k => if k < 272 then aY k else if k < 287 then aM k else q) 0 272 (fun k _ h => by rw [if_pos h]) 272 0 (fun k _ h => ⟨⟨Nat.zero_le _, by omega⟩, fun r hr => ⟨Nat.zero_le _, ez_rf1 k (by omega) r hr⟩⟩)]
  rw [ez_blk_cg (ad := aM) (ad' := fun k => if k < 272 then aY k else if k < 287 then aM k else q) 272 287 (fun k h1 h => by rw [if_neg (by omega), if_pos h]) 15 272 (fun k h1 h => ⟨⟨h1, by omega⟩, fun r hr => ez_rf2 (k - 272) (by omega) r (by rw [show 272 + (k - 272) = k by omega]; exact hr)⟩)]
  have e1 : ∀ ad : Nat → Nat, eg_blk cA ad 1 287 = [(ad 287, .inl (cA 2, 1, .inr (.inl (fun _ => 0))))] := fun ad => by rw [eg_blk, eg_blk, ez_out]
  rw [show 0 + (272 + 15) = 287 from rfl, show 0 + 272 = 272 from rfl, e1]
  rw [if_neg (by decide), if_neg (by decide)]
theorem ez_callI {G : ea_G} {y : MethodName} {F1 : ea_F} {Z1 : va_W → Prop} {p : Program} {e : Env} {s : State} {mi : MethodId} {args : Array Value} {below : List Frame} {meth : Method} {c : Code} {H : Heap} {locs : List Loc} {lsA : Array Slot} {k n pc : Nat} {Q : State → Prop} {st : List Value} {pre : va_W} {b idx : Nat} {e1 : va_E}
    (hx : p.tables.exec = Jvm.exec) (hb : c.code = cL_law_) (hml : c.maxLocals = 7) (hown : s.vm.findClass RL = some mi.cls) (hn0 : ea_n0 G = s.heap.size) (hC : eg_Cx G s)
    (hP : va_P (ea_D G) vwCl (pre ++ [(b, e1)]) H) (hD : va_D (ea_A G) (pre ++ [(b, e1)])) (hS : va_S (ea_A G) s.heap H locs)
    (d : decode cL_law_ pc = .ok (.invokespecial idx, 3)) (hl : Cond.methodLink RL idx y ∈ lw_tbl) (hm : ea_MB y F1 0) (hi : Cond.instanceMethod y ∈ lw_tbl) (hnm : y.name = "<init>") (hret : ea_ret F1 = none) (hM : eg_Met G y F1 [.ref b] [(b, e1)] Z1) (hls : lsA.size = 7) (hw : (st.map fun v => v.category).sum ≤ 8) (hk : ea_ok F_L_law_ F1 k n = true)
    (h : ∀ (w1 : va_W) (H1 : Heap) (locs1 : List Loc), Z1 w1 → va_P (ea_D G) vwCl (pre ++ w1) H1 → va_D (ea_A G) (pre ++ w1) → va_S (ea_A G) s.heap H1 locs1 → W p (ea_l G) e room_1 s mi args below meth c H1 locs1 (k + ea_mc F1) (n + ea_ms F1) Q (F0 mi (pc + 3) lsA st)) :
    W p (ea_l G) e room_1 s mi args below meth c H locs k n Q (F0 mi pc lsA (.ref b :: st)) := by
  obtain ⟨k1, k2, k3, k4, k5, k6⟩ := ea_ok_of hk
  have hb0 : (pre ++ [(b, e1)])[pre.length]? = some (b, e1) := by rw [List.getElem?_append_right (Nat.le_refl _), Nat.sub_self]; rfl
  have hF : ∀ q, va_A [(b, e1)] H.size q → ea_A G q := fun q z => by
    rcases z with ⟨kk, ee, z⟩ | z
    · have hz : kk < 1 := (List.getElem?_eq_some_iff.mp z).1
      rw [show kk = 0 by omega] at z
      have hqb : q = b := by
        have : some (b, e1) = some (q, ee) := z
        cases this; rfl
      rw [hqb]
      exact hD.2 _ _ hb0
    · show ea_n0 G ≤ q
      rw [hn0]
      exact Nat.le_trans hS.1 z
  have hP0 : va_P (ea_D G) vwCl [(b, e1)] H := fun i q hq => by
    have hz : i < 1 := (List.getElem?_eq_some_iff.mp hq).1
    rw [show i = 0 by omega] at hq
    cases hq
    exact hP _ _ hb0
  have hD0 : va_D (fun _ => True) [(b, e1)] := ⟨fun i j x y hx hy _ => by
    have hz : i < 1 := (List.getElem?_eq_some_iff.mp hx).1
    have hz' : j < 1 := (List.getElem?_eq_some_iff.mp hy).1
    omega, fun _ _ _ => trivial⟩
  have hB := ea_CallB (R := room_1) (args := args) hC.1 hl hm k1 k2 k5 k6
  rw [hret] at hB
  refine va_callv (va_runI (Ts := []) (As := []) (rest := st) ⟨hx, hb, hml, hown, fun _ h => by cases h⟩ (hM H.size) ⟨hB, hnm, hC.1.1 _ hi rfl args⟩ ⟨eg_blind _ _ _ _, fun U hU hW => ⟨rfl, by rw [hU], ?_, by rw [hU]; exact hP0, hD0, hF⟩⟩ rfl rfl hls rfl (lv_room hw) d ⟨k3, k4⟩) hS (fun q _ hq => hF q hq) hF (fun u t H1 locs1 ht hvm hZ hBB hz hkk hS1 => ?_)
  · exact hC.go hW (by rw [hU]; exact hS.1) (fun q h1 h2 => by rw [hU]; exact hS.2.1 q h1 h2)
  · obtain ⟨hP1, hD1⟩ := hBB
    rw [ht] at hP1
    obtain ⟨hP2, hD2⟩ := eg_join hP hD hkk hF hP1 hD1
    exact h u H1 locs1 hZ hP2 hD2 hS1
end MAINP
