def F_X1_isCoveredBy : ea_F := (ea_rm 8 0 0, cX1_isCoveredBy, RX1, some .boolean, 3, [], 0, 0)
def D_X1_isCoveredBy : List (Nat × Instr × Nat) := [(0, .iconst 0, 1), (1, .istore_n 2, 1), (2, .iload_n 2, 1), (3, .aload_n 0, 1), (4, .getfield 15, 3), (7, .if_icmp .ge 31, 3), (10, .aload_n 0, 1), (11, .getfield 31, 3), (14, .iload_n 2, 1), (15, .iaload, 1), (16, .ifCond .ne 16, 3), (19, .aload_n 0, 1), (20, .getfield 28, 3), (23, .iload_n 2, 1), (24, .iaload, 1), (25, .iload_n 1, 1), (26, .iand, 1), (27, .ifCond .ne 5, 3), (30, .iconst 0, 1), (31, .ireturn, 1), (32, .iinc 2 1, 3), (35, .goto (-33), 3), (38, .iconst 1, 1), (39, .ireturn, 1)]
theorem dt_X1_isCoveredBy : ∀ q ∈ D_X1_isCoveredBy, decode cX1_isCoveredBy q.1 = .ok q.2 := by decide +kernel
theorem mv_X1_isCoveredBy : ea_MV yX1_isCoveredBy (F_X1_isCoveredBy) 1 := ⟨⟨List.mem_append_right _ (List.mem_of_getElem? (i := 3) (by decide +kernel)), List.mem_append_right _ (List.mem_of_getElem? (i := 593) (by decide +kernel)), ⟨by decide, by decide⟩, by decide +kernel⟩, List.mem_append_right _ (List.mem_of_getElem? (i := 591) (by decide +kernel)), List.mem_append_right _ (List.mem_of_getElem? (i := 592) (by decide +kernel))⟩
def f_X1_isCoveredBy_j32 (a : Nat) (p1 : Int32) (x4 : Int32) (m5 : ea_M) : Option ((Int32 × ea_M) ⊕ ((Int32 × ea_M) ⊕ (ea_M))) :=
  some (.inl (x4 + 1, m5))
def f_X1_isCoveredBy_s2 (a : Nat) (p1 : Int32)  (s2 : Int32 × ea_M) : Option ((Int32 × ea_M) ⊕ ((Int32 × ea_M) ⊕ (ea_M))) :=
  ea_bd (s2.2 a 1) fun x1 =>
  if x1 ≤ s2.1 then
  some (.inr (.inr s2.2))
  else
  ea_g s2.1 12 (ea_bd (s2.2 (a + 5) (Int32.toNatClampNeg s2.1)) fun x2 =>
  if x2 = 0 then
  ea_g s2.1 12 (ea_bd (s2.2 (a + 4) (Int32.toNatClampNeg s2.1)) fun x3 =>
  if (x3 &&& p1) = 0 then
  some (.inr (.inl (0, s2.2)))
  else
  f_X1_isCoveredBy_j32 a p1 s2.1 s2.2)
  else
  f_X1_isCoveredBy_j32 a p1 s2.1 s2.2)
def f_X1_isCoveredBy (a : Nat) (p1 : Int32) (m : ea_M) : Option (Int32 × ea_M) :=
  ea_sl (ea_loop (f_X1_isCoveredBy_s2 a p1) ea_fuel (0, m)) (fun t => some t) (fun x2s =>
  some (1, x2s))
set_option maxHeartbeats 300000 in
theorem jn_X1_isCoveredBy_32 (G : ea_G) {res : ea_O}  (a : Nat) (p1 : Int32) (x4 : Int32) (m5 : ea_M) (ha : ea_isBench a) {Φ : ((Int32 × ea_M) ⊕ ((Int32 × ea_M) ⊕ (ea_M))) → Prop} (hC : ∀ s2 : Int32 × ea_M, Φ (.inl s2) → ea_Ev G F_X1_isCoveredBy res 2 [some (.ref a), some (.int p1), some (.int s2.1)] [] s2.2 0 0) (hR : ∀ t : Int32 × ea_M, Φ (.inr (.inl t)) → res = (0, t)) (hX : ∀ x2s : ea_M, Φ (.inr (.inr x2s)) → ea_Ev G F_X1_isCoveredBy res 38 [none, none, none] [] x2s 0 0) : ea_E G F_X1_isCoveredBy res 32 [some (.ref a), some (.int p1), some (.int x4)] [] m5 0 0 (f_X1_isCoveredBy_j32 a p1 x4 m5) Φ := by
  unfold f_X1_isCoveredBy_j32
  refine ev_iinc (ls' := [some (.ref a), some (.int p1), some (.int (x4 + 1))]) (ea_at dt_X1_isCoveredBy 20 rfl) rfl (congrArg (fun z => _ + z) ic_1) (ea_lt rfl) rfl ?_
  refine ev_goto (tgt := 2) (ea_at dt_X1_isCoveredBy 21 rfl) rfl ?_
  exact ev_leaf (fun h => ea_drop (l' := [some (.ref a), some (.int p1), some (.int (x4 + 1))]) ⟨Or.inr rfl, Or.inr rfl, Or.inr rfl, trivial⟩ (hC (x4 + 1, m5) h))
set_option maxHeartbeats 300000 in
theorem lp_X1_isCoveredBy_2 (G : ea_G) {res : ea_O}  (a : Nat) (p1 : Int32) (ha : ea_isBench a) {Ψ : ((Int32 × ea_M) ⊕ (ea_M)) → Prop} (hR : ∀ t : Int32 × ea_M, Ψ (.inl t) → res = (0, t)) (hX : ∀ x2s : ea_M, Ψ (.inr x2s) → ea_Ev G F_X1_isCoveredBy res 38 [none, none, none] [] x2s 0 0) : ∀ (f : Nat) (s2 : Int32 × ea_M), ea_E G F_X1_isCoveredBy res 2 [some (.ref a), some (.int p1), some (.int s2.1)] [] s2.2 0 0 (ea_loop (f_X1_isCoveredBy_s2 a p1) f s2) Ψ := by
  refine ev_loop (G := G) (F := F_X1_isCoveredBy) (res := res) (pc := 2) (st := []) (k := 0) (n := 0) (step := (f_X1_isCoveredBy_s2 a p1)) (Ψ := Ψ) (fun (s2 : Int32 × ea_M) => [some (.ref a), some (.int p1), some (.int s2.1)]) (fun (s2 : Int32 × ea_M) => s2.2) (fun s2 => ?_)
  have hC : ∀ s2 : Int32 × ea_M, (Sum.elim (fun s2 : Int32 × ea_M => ea_Ev G F_X1_isCoveredBy res 2 [some (.ref a), some (.int p1), some (.int s2.1)] [] s2.2 0 0) Ψ) (.inl s2) → ea_Ev G F_X1_isCoveredBy res 2 [some (.ref a), some (.int p1), some (.int s2.1)] [] s2.2 0 0 := fun _ h => h
  have hR : ∀ t : Int32 × ea_M, (Sum.elim (fun s2 : Int32 × ea_M => ea_Ev G F_X1_isCoveredBy res 2 [some (.ref a), some (.int p1), some (.int s2.1)] [] s2.2 0 0) Ψ) (.inr (.inl t)) → res = (0, t) := hR
  have hX : ∀ x2s : ea_M, (Sum.elim (fun s2 : Int32 × ea_M => ea_Ev G F_X1_isCoveredBy res 2 [some (.ref a), some (.int p1), some (.int s2.1)] [] s2.2 0 0) Ψ) (.inr (.inr x2s)) → ea_Ev G F_X1_isCoveredBy res 38 [none, none, none] [] x2s 0 0 := hX
  unfold f_X1_isCoveredBy_s2
  refine ev_iload_n (ea_at dt_X1_isCoveredBy 2 rfl) rfl ?_
  refine ev_aload_n (ea_at dt_X1_isCoveredBy 3 rfl) rfl ?_
  refine ev_getI (ea_at dt_X1_isCoveredBy 4 rfl) fl_X1_15 ha.1 rfl ?_
  refine ev_i (fun x1 => ?_)
  refine ev_icmp_ge (tgt := 38) (ea_at dt_X1_isCoveredBy 5 rfl) rfl (fun _ => ?_) (fun _ => ?_)
  · exact ev_leaf (fun h => ea_drop (l' := [none, none, none]) ⟨Or.inl rfl, Or.inl rfl, Or.inl rfl, trivial⟩ (hX s2.2 h))
  · refine ev_aload_n (ea_at dt_X1_isCoveredBy 6 rfl) rfl ?_
    refine ev_getR (ea_at dt_X1_isCoveredBy 7 rfl) fl_X1_31 ha.1 rfl ?_
    refine ev_iload_n (ea_at dt_X1_isCoveredBy 8 rfl) rfl ?_
    refine ev_iaload (ea_at dt_X1_isCoveredBy 9 rfl) ha.2.2.2.2.2 (by decide) ?_
    refine ev_i (fun x2 => ?_)
    refine ev_if_ne (tgt := 32) (ea_at dt_X1_isCoveredBy 10 rfl) rfl (fun _ => ?_) (fun _ => ?_)
    · refine ev_aload_n (ea_at dt_X1_isCoveredBy 11 rfl) rfl ?_
      refine ev_getR (ea_at dt_X1_isCoveredBy 12 rfl) fl_X1_28 ha.1 rfl ?_
      refine ev_iload_n (ea_at dt_X1_isCoveredBy 13 rfl) rfl ?_
      refine ev_iaload (ea_at dt_X1_isCoveredBy 14 rfl) ha.2.2.2.2.1 (by decide) ?_
      refine ev_i (fun x3 => ?_)
      refine ev_iload_n (ea_at dt_X1_isCoveredBy 15 rfl) rfl ?_
      refine ev_iand (ea_at dt_X1_isCoveredBy 16 rfl) ?_
      refine ev_if_ne (tgt := 32) (ea_at dt_X1_isCoveredBy 17 rfl) rfl (fun _ => ?_) (fun _ => ?_)
      · refine ev_iconst (ea_at dt_X1_isCoveredBy 18 rfl) ic_0 ?_
        exact ev_zret (by decide) (ea_at dt_X1_isCoveredBy 19 rfl) rfl ⟨by decide, by decide⟩ (fun h => hR _ h)
      · exact ev_drop (l' := [some (.ref a), some (.int p1), some (.int s2.1)]) ⟨Or.inr rfl, Or.inr rfl, Or.inr rfl, trivial⟩ (jn_X1_isCoveredBy_32 G a p1 s2.1 s2.2 ha hC hR hX)
    · exact ev_drop (l' := [some (.ref a), some (.int p1), some (.int s2.1)]) ⟨Or.inr rfl, Or.inr rfl, Or.inr rfl, trivial⟩ (jn_X1_isCoveredBy_32 G a p1 s2.1 s2.2 ha hC hR hX)
set_option maxHeartbeats 300000 in
theorem ok_X1_isCoveredBy (G : ea_G) (a : Nat) (p1 : Int32) (m : ea_M) (ha : ea_isBench a) (rZ : Int32) (mZ : ea_M) (hZ : f_X1_isCoveredBy a p1 m = some (rZ, mZ)) : ea_Met G yX1_isCoveredBy F_X1_isCoveredBy [.ref a, .int p1] m (0, rZ, mZ) := by
  refine ea_met (F := F_X1_isCoveredBy) (by decide +kernel) rfl rfl (Nat.le_of_ble_eq_true rfl) (by simp only [List.mem_cons, List.not_mem_nil, or_false]; intro v hv; rcases hv with rfl | rfl <;> rfl) ((?_ : ea_E G F_X1_isCoveredBy (0, rZ, mZ) 0 [some (.ref a), some (.int p1), none] [] m 0 0 (f_X1_isCoveredBy a p1 m) (fun t => t = (rZ, mZ))) (rZ, mZ) hZ rfl)
  have hR : ∀ t : Int32 × ea_M, t = (rZ, mZ) → ((0, rZ, mZ) : ea_O) = (0, t) := fun t h => by rw [h]
  unfold f_X1_isCoveredBy
  refine ev_iconst (ea_at dt_X1_isCoveredBy 0 rfl) ic_0 ?_
  refine ev_istore_n (ls' := [some (.ref a), some (.int p1), some (.int 0)]) (ea_at dt_X1_isCoveredBy 1 rfl) (ea_lt rfl) rfl ?_
  refine ev_drop (l' := [some (.ref a), some (.int p1), some (.int 0)]) ⟨Or.inr rfl, Or.inr rfl, Or.inr rfl, trivial⟩ ?_
  refine ev_sl (lp_X1_isCoveredBy_2 G a p1 ha (fun t h => by obtain ⟨t1, e1, q1⟩ := h; cases e1; exact hR t q1) (fun x2s h => ?_) ea_fuel (0, m))
  obtain ⟨t1, e1, q1⟩ := h
  refine (?_ : ea_E G F_X1_isCoveredBy (0, rZ, mZ) 38 [none, none, none] [] x2s 0 0 _ (fun t => t = (rZ, mZ))) t1 e1 q1
  refine ev_iconst (ea_at dt_X1_isCoveredBy 22 rfl) ic_1 ?_
  exact ev_zret (by decide) (ea_at dt_X1_isCoveredBy 23 rfl) rfl ⟨by decide, by decide⟩ (fun h => hR _ h)
def F_X11_cover : ea_F := (ea_rm 9 0 0, cX11_cover, RX11, some .int, 4, [], 0, 0)
def D_X11_cover : List (Nat × Instr × Nat) := [(0, .bipush 7, 2), (2, .istore_n 1, 1), (3, .iconst 0, 1), (4, .istore_n 2, 1), (5, .iconst 0, 1), (6, .istore_n 3, 1), (7, .iload_n 3, 1), (8, .iconst 1, 1), (9, .aload_n 0, 1), (10, .getfield 23, 3), (13, .getfield 233, 3), (16, .ishl, 1), (17, .if_icmp .ge 38, 3), (20, .iload_n 3, 1), (21, .invokestatic 414, 3), (24, .iload_n 1, 1), (25, .if_icmp .ge 24, 3), (28, .aload_n 0, 1), (29, .getfield 23, 3), (32, .getfield 180, 3), (35, .iload_n 3, 1), (36, .invokevirtual 419, 3), (39, .ifCond .eq 10, 3), (42, .iload_n 3, 1), (43, .invokestatic 414, 3), (46, .istore_n 1, 1), (47, .iload_n 3, 1), (48, .istore_n 2, 1), (49, .iinc 3 1, 3), (52, .goto (-45), 3), (55, .iload_n 2, 1), (56, .ireturn, 1)]
theorem dt_X11_cover : ∀ q ∈ D_X11_cover, decode cX11_cover q.1 = .ok q.2 := by decide +kernel
theorem mv_X11_cover : ea_MV yX11_cover (F_X11_cover) 0 := ⟨⟨List.mem_append_right _ (List.mem_of_getElem? (i := 1) (by decide +kernel)), List.mem_append_right _ (List.mem_of_getElem? (i := 583) (by decide +kernel)), ⟨by decide, by decide⟩, by decide +kernel⟩, List.mem_append_right _ (List.mem_of_getElem? (i := 581) (by decide +kernel)), List.mem_append_right _ (List.mem_of_getElem? (i := 582) (by decide +kernel))⟩
def f_X11_cover_j49 (x4 : Int32) (x5 : Int32) (x6 : Int32) (m7 : ea_M) : Option ((Int32 × Int32 × Int32 × ea_M) ⊕ (Int32 × ea_M)) :=
  some (.inl (x4, x5, x6 + 1, m7))
def f_X11_cover_s7  (s7 : Int32 × Int32 × Int32 × ea_M) : Option ((Int32 × Int32 × Int32 × ea_M) ⊕ (Int32 × ea_M)) :=
  ea_bd (s7.2.2.2 2 8) fun x1 =>
  if (1 <<< (x1 &&& 31)) ≤ s7.2.2.1 then
  some (.inr (s7.2.1, s7.2.2.2))
  else
  ea_cl (f_J6_bitCount_0f7a4 s7.2.2.1 s7.2.2.2) fun r3 m2 =>
  if s7.1 ≤ r3 then
  f_X11_cover_j49 s7.1 s7.2.1 s7.2.2.1 m2
  else
  ea_cl (f_X1_isCoveredBy 8 s7.2.2.1 m2) fun r9 m8 =>
  if r9 = 0 then
  f_X11_cover_j49 s7.1 s7.2.1 s7.2.2.1 m8
  else
  ea_cl (f_J6_bitCount_0f7a4 s7.2.2.1 m8) fun r11 m10 =>
  f_X11_cover_j49 r11 s7.2.2.1 s7.2.2.1 m10
def f_X11_cover (m : ea_M) : Option (Int32 × ea_M) :=
  (ea_loop f_X11_cover_s7 ea_fuel (7, 0, 0, m)).bind (fun x7s =>
  some (x7s.1, x7s.2))
set_option maxHeartbeats 300000 in
theorem jn_X11_cover_49 (G : ea_G) {res : ea_O}  (x4 : Int32) (x5 : Int32) (x6 : Int32) (m7 : ea_M)  {Φ : ((Int32 × Int32 × Int32 × ea_M) ⊕ (Int32 × ea_M)) → Prop} (hC : ∀ s7 : Int32 × Int32 × Int32 × ea_M, Φ (.inl s7) → ea_Ev G F_X11_cover res 7 [some (.ref 0), some (.int s7.1), some (.int s7.2.1), some (.int s7.2.2.1)] [] s7.2.2.2 0 0) (hX : ∀ x7s : Int32 × ea_M, Φ (.inr x7s) → ea_Ev G F_X11_cover res 55 [none, none, some (.int x7s.1), none] [] x7s.2 0 0) : ea_E G F_X11_cover res 49 [some (.ref 0), some (.int x4), some (.int x5), some (.int x6)] [] m7 0 0 (f_X11_cover_j49 x4 x5 x6 m7) Φ := by
  unfold f_X11_cover_j49
  refine ev_iinc (ls' := [some (.ref 0), some (.int x4), some (.int x5), some (.int (x6 + 1))]) (ea_at dt_X11_cover 28 rfl) rfl (congrArg (fun z => _ + z) ic_1) (ea_lt rfl) rfl ?_
  refine ev_goto (tgt := 7) (ea_at dt_X11_cover 29 rfl) rfl ?_
  exact ev_leaf (fun h => ea_drop (l' := [some (.ref 0), some (.int x4), some (.int x5), some (.int (x6 + 1))]) ⟨Or.inr rfl, Or.inr rfl, Or.inr rfl, Or.inr rfl, trivial⟩ (hC (x4, x5, x6 + 1, m7) h))
set_option maxHeartbeats 300000 in
theorem lp_X11_cover_7 (G : ea_G) {res : ea_O}    {Ψ : (Int32 × ea_M) → Prop} (hX : ∀ x7s : Int32 × ea_M, Ψ x7s → ea_Ev G F_X11_cover res 55 [none, none, some (.int x7s.1), none] [] x7s.2 0 0) : ∀ (f : Nat) (s7 : Int32 × Int32 × Int32 × ea_M), ea_E G F_X11_cover res 7 [some (.ref 0), some (.int s7.1), some (.int s7.2.1), some (.int s7.2.2.1)] [] s7.2.2.2 0 0 (ea_loop f_X11_cover_s7 f s7) Ψ := by
  refine ev_loop (G := G) (F := F_X11_cover) (res := res) (pc := 7) (st := []) (k := 0) (n := 0) (step := f_X11_cover_s7) (Ψ := Ψ) (fun (s7 : Int32 × Int32 × Int32 × ea_M) => [some (.ref 0), some (.int s7.1), some (.int s7.2.1), some (.int s7.2.2.1)]) (fun (s7 : Int32 × Int32 × Int32 × ea_M) => s7.2.2.2) (fun s7 => ?_)
  have hC : ∀ s7 : Int32 × Int32 × Int32 × ea_M, (Sum.elim (fun s7 : Int32 × Int32 × Int32 × ea_M => ea_Ev G F_X11_cover res 7 [some (.ref 0), some (.int s7.1), some (.int s7.2.1), some (.int s7.2.2.1)] [] s7.2.2.2 0 0) Ψ) (.inl s7) → ea_Ev G F_X11_cover res 7 [some (.ref 0), some (.int s7.1), some (.int s7.2.1), some (.int s7.2.2.1)] [] s7.2.2.2 0 0 := fun _ h => h
  have hX : ∀ x7s : Int32 × ea_M, (Sum.elim (fun s7 : Int32 × Int32 × Int32 × ea_M => ea_Ev G F_X11_cover res 7 [some (.ref 0), some (.int s7.1), some (.int s7.2.1), some (.int s7.2.2.1)] [] s7.2.2.2 0 0) Ψ) (.inr x7s) → ea_Ev G F_X11_cover res 55 [none, none, some (.int x7s.1), none] [] x7s.2 0 0 := hX
  unfold f_X11_cover_s7
  refine ev_iload_n (ea_at dt_X11_cover 6 rfl) rfl ?_
  refine ev_iconst (ea_at dt_X11_cover 7 rfl) ic_1 ?_
  refine ev_aload_n (ea_at dt_X11_cover 8 rfl) rfl ?_
  refine ev_getR (ea_at dt_X11_cover 9 rfl) fl_X11_23 sh_0 rfl ?_
  refine ev_getI (ea_at dt_X11_cover 10 rfl) fl_X11_233 sh_2 rfl ?_
  refine ev_i (fun x1 => ?_)
  refine ev_ishl (ea_at dt_X11_cover 11 rfl) ?_
  refine ev_icmp_ge (tgt := 55) (ea_at dt_X11_cover 12 rfl) rfl (fun _ => ?_) (fun _ => ?_)
  · exact ev_leaf (fun h => ea_drop (l' := [none, none, some (.int s7.2.1), none]) ⟨Or.inl rfl, Or.inl rfl, Or.inr rfl, Or.inl rfl, trivial⟩ (hX (s7.2.1, s7.2.2.2) h))
  · refine ev_iload_n (ea_at dt_X11_cover 13 rfl) rfl ?_
    refine ev_clI (F1 := F_J6_bitCount_0f7a4) (fun rY mY hY => ea_runS (As := [.int s7.2.2.1]) (ea_at dt_X11_cover 14 rfl) ml_X11_414 mv_J6_bitCount_0f7a4 (ok_J6_bitCount_0f7a4 G s7.2.2.1 s7.2.2.2  rY mY hY) rfl rfl (Nat.le_of_ble_eq_true rfl) rfl) rfl (fun r3 m2 => ?_)
    refine ev_iload_n (ea_at dt_X11_cover 15 rfl) rfl ?_
    refine ev_icmp_ge (tgt := 49) (ea_at dt_X11_cover 16 rfl) rfl (fun _ => ?_) (fun _ => ?_)
    · exact ev_drop (l' := [some (.ref 0), some (.int s7.1), some (.int s7.2.1), some (.int s7.2.2.1)]) ⟨Or.inr rfl, Or.inr rfl, Or.inr rfl, Or.inr rfl, trivial⟩ (jn_X11_cover_49 G s7.1 s7.2.1 s7.2.2.1 m2  hC hX)
    · refine ev_aload_n (ea_at dt_X11_cover 17 rfl) rfl ?_
      refine ev_getR (ea_at dt_X11_cover 18 rfl) fl_X11_23 sh_0 rfl ?_
      refine ev_getR (ea_at dt_X11_cover 19 rfl) fl_X11_180 sh_2 rfl ?_
      refine ev_iload_n (ea_at dt_X11_cover 20 rfl) rfl ?_
      refine ev_clI (F1 := F_X1_isCoveredBy) (fun rY mY hY => ea_runV (As := [.int s7.2.2.1]) (ea_at dt_X11_cover 21 rfl) ml_X11_419 mv_X1_isCoveredBy (ok_X1_isCoveredBy G 8 s7.2.2.1 m2 is_Bench_8 rY mY hY) sh_8 rfl rfl rfl (Nat.le_of_ble_eq_true rfl) rfl) rfl (fun r9 m8 => ?_)
      refine ev_if_eq (tgt := 49) (ea_at dt_X11_cover 22 rfl) rfl (fun _ => ?_) (fun _ => ?_)
      · exact ev_drop (l' := [some (.ref 0), some (.int s7.1), some (.int s7.2.1), some (.int s7.2.2.1)]) ⟨Or.inr rfl, Or.inr rfl, Or.inr rfl, Or.inr rfl, trivial⟩ (jn_X11_cover_49 G s7.1 s7.2.1 s7.2.2.1 m8  hC hX)
      · refine ev_iload_n (ea_at dt_X11_cover 23 rfl) rfl ?_
        refine ev_clI (F1 := F_J6_bitCount_0f7a4) (fun rY mY hY => ea_runS (As := [.int s7.2.2.1]) (ea_at dt_X11_cover 24 rfl) ml_X11_414 mv_J6_bitCount_0f7a4 (ok_J6_bitCount_0f7a4 G s7.2.2.1 m8  rY mY hY) rfl rfl (Nat.le_of_ble_eq_true rfl) rfl) rfl (fun r11 m10 => ?_)
        refine ev_istore_n (ls' := [some (.ref 0), some (.int r11), some (.int s7.2.1), some (.int s7.2.2.1)]) (ea_at dt_X11_cover 25 rfl) (ea_lt rfl) rfl ?_
        refine ev_iload_n (ea_at dt_X11_cover 26 rfl) rfl ?_
        refine ev_istore_n (ls' := [some (.ref 0), some (.int r11), some (.int s7.2.2.1), some (.int s7.2.2.1)]) (ea_at dt_X11_cover 27 rfl) (ea_lt rfl) rfl ?_
        exact ev_drop (l' := [some (.ref 0), some (.int r11), some (.int s7.2.2.1), some (.int s7.2.2.1)]) ⟨Or.inr rfl, Or.inr rfl, Or.inr rfl, Or.inr rfl, trivial⟩ (jn_X11_cover_49 G r11 s7.2.2.1 s7.2.2.1 m10  hC hX)
set_option maxHeartbeats 300000 in
theorem ok_X11_cover (G : ea_G) (m : ea_M)  (rZ : Int32) (mZ : ea_M) (hZ : f_X11_cover m = some (rZ, mZ)) : ea_Met G yX11_cover F_X11_cover [.ref 0] m (0, rZ, mZ) := by
  refine ea_met (F := F_X11_cover) (by decide +kernel) rfl rfl (Nat.le_of_ble_eq_true rfl) (by simp only [List.mem_cons, List.not_mem_nil, or_false]; intro v hv; rcases hv with rfl <;> rfl) ((?_ : ea_E G F_X11_cover (0, rZ, mZ) 0 [some (.ref 0), none, none, none] [] m 0 0 (f_X11_cover m) (fun t => t = (rZ, mZ))) (rZ, mZ) hZ rfl)
  have hR : ∀ t : Int32 × ea_M, t = (rZ, mZ) → ((0, rZ, mZ) : ea_O) = (0, t) := fun t h => by rw [h]
  unfold f_X11_cover
  refine ev_bipush (ea_at dt_X11_cover 0 rfl) bp_7 ?_
  refine ev_istore_n (ls' := [some (.ref 0), some (.int 7), none, none]) (ea_at dt_X11_cover 1 rfl) (ea_lt rfl) rfl ?_
  refine ev_iconst (ea_at dt_X11_cover 2 rfl) ic_0 ?_
  refine ev_istore_n (ls' := [some (.ref 0), some (.int 7), some (.int 0), none]) (ea_at dt_X11_cover 3 rfl) (ea_lt rfl) rfl ?_
  refine ev_iconst (ea_at dt_X11_cover 4 rfl) ic_0 ?_
  refine ev_istore_n (ls' := [some (.ref 0), some (.int 7), some (.int 0), some (.int 0)]) (ea_at dt_X11_cover 5 rfl) (ea_lt rfl) rfl ?_
  refine ev_drop (l' := [some (.ref 0), some (.int 7), some (.int 0), some (.int 0)]) ⟨Or.inr rfl, Or.inr rfl, Or.inr rfl, Or.inr rfl, trivial⟩ ?_
  refine ev_bind (lp_X11_cover_7 G   (fun x7s h => ?_) ea_fuel (7, 0, 0, m))
  obtain ⟨t1, e1, q1⟩ := h
  refine (?_ : ea_E G F_X11_cover (0, rZ, mZ) 55 [none, none, some (.int x7s.1), none] [] x7s.2 0 0 _ (fun t => t = (rZ, mZ))) t1 e1 q1
  refine ev_iload_n (ea_at dt_X11_cover 30 rfl) rfl ?_
  exact ev_iret (ea_at dt_X11_cover 31 rfl) rfl ⟨by decide, by decide⟩ (fun h => hR _ h)
def F_X11_needTrial : ea_F := (ea_rm 9 3 18, cX11_needTrial, RX11, none, 4, [], 3, 18)
def D_X11_needTrial : List (Nat × Instr × Nat) := [(0, .aload_n 0, 1), (1, .iload_n 1, 1), (2, .invokevirtual 157, 3), (5, .aload_n 0, 1), (6, .iload_n 2, 1), (7, .invokevirtual 157, 3), (10, .aload_n 0, 1), (11, .iload_n 3, 1), (12, .iconst 0, 1), (13, .bipush 40, 2), (15, .invokevirtual 219, 3), (18, .return_, 1)]
theorem dt_X11_needTrial : ∀ q ∈ D_X11_needTrial, decode cX11_needTrial q.1 = .ok q.2 := by decide +kernel
theorem mv_X11_needTrial : ea_MV yX11_needTrial (F_X11_needTrial) 3 := ⟨⟨List.mem_append_right _ (List.mem_of_getElem? (i := 1) (by decide +kernel)), List.mem_append_right _ (List.mem_of_getElem? (i := 1366) (by decide +kernel)), ⟨by decide, by decide⟩, by decide +kernel⟩, List.mem_append_right _ (List.mem_of_getElem? (i := 1365) (by decide +kernel)), List.mem_append_left _ (List.mem_of_getElem? (i := 40) (by decide +kernel))⟩
def f_X11_needTrial (p1 : Int32) (p2 : Int32) (p3 : Int32) (m : ea_M) : Option (ea_O) :=
  ea_cx (f_X11_needBird p1 m) (fun r2 m1 =>
  ea_cx (f_X11_needBird p2 m1) (fun r4 m3 =>
  ea_cx (f_X11_needWithin p3 0 40 m3) (fun r6 m5 =>
  some (0, 0, m5)) (fun kx mx => some (kx, 0, mx))) (fun kx mx => some (kx, 0, mx))) (fun kx mx => some (kx, 0, mx))
set_option maxHeartbeats 300000 in
theorem ok_X11_needTrial (G : ea_G) (p1 : Int32) (p2 : Int32) (p3 : Int32) (m : ea_M)  (zZ : ea_O) (hZ : f_X11_needTrial p1 p2 p3 m = some zZ) : ea_Met G yX11_needTrial F_X11_needTrial [.ref 0, .int p1, .int p2, .int p3] m zZ := by
  refine ea_met (F := F_X11_needTrial) (by decide +kernel) rfl rfl (Nat.le_of_ble_eq_true rfl) (by simp only [List.mem_cons, List.not_mem_nil, or_false]; intro v hv; rcases hv with rfl | rfl | rfl | rfl <;> rfl) ((?_ : ea_E G F_X11_needTrial zZ 0 [some (.ref 0), some (.int p1), some (.int p2), some (.int p3)] [] m 0 0 (f_X11_needTrial p1 p2 p3 m) (fun t => t = zZ)) zZ hZ rfl)
  have hR : ∀ t : ea_O, t = zZ → zZ = t := fun t h => h.symm
  unfold f_X11_needTrial
  refine ev_aload_n (ea_at dt_X11_needTrial 0 rfl) rfl ?_
  refine ev_iload_n (ea_at dt_X11_needTrial 1 rfl) rfl ?_
  refine ev_cxU (F1 := F_X11_needBird) rfl (fun zY hY => ea_runV (As := [.int p1]) (ea_at dt_X11_needTrial 2 rfl) ml_X11_157 mv_X11_needBird (ok_X11_needBird G p1 m  zY hY) sh_0 rfl rfl rfl (Nat.le_of_ble_eq_true rfl) rfl) rfl ⟨by decide, by decide⟩ (fun kx mx t e q => ⟨0, by cases e; exact hR _ q⟩) (fun r2 m1 => ?_)
  refine ev_aload_n (ea_at dt_X11_needTrial 3 rfl) rfl ?_
  refine ev_iload_n (ea_at dt_X11_needTrial 4 rfl) rfl ?_
  refine ev_cxU (F1 := F_X11_needBird) rfl (fun zY hY => ea_runV (As := [.int p2]) (ea_at dt_X11_needTrial 5 rfl) ml_X11_157 mv_X11_needBird (ok_X11_needBird G p2 m1  zY hY) sh_0 rfl rfl rfl (Nat.le_of_ble_eq_true rfl) rfl) rfl ⟨by decide, by decide⟩ (fun kx mx t e q => ⟨0, by cases e; exact hR _ q⟩) (fun r4 m3 => ?_)
  refine ev_aload_n (ea_at dt_X11_needTrial 6 rfl) rfl ?_
  refine ev_iload_n (ea_at dt_X11_needTrial 7 rfl) rfl ?_
  refine ev_iconst (ea_at dt_X11_needTrial 8 rfl) ic_0 ?_
  refine ev_bipush (ea_at dt_X11_needTrial 9 rfl) bp_40 ?_
  refine ev_cxU (F1 := F_X11_needWithin) rfl (fun zY hY => ea_runV (As := [.int p3, .int 0, .int 40]) (ea_at dt_X11_needTrial 10 rfl) ml_X11_219 mv_X11_needWithin (ok_X11_needWithin G p3 0 40 m3  zY hY) sh_0 rfl rfl rfl (Nat.le_of_ble_eq_true rfl) rfl) rfl ⟨by decide, by decide⟩ (fun kx mx t e q => ⟨0, by cases e; exact hR _ q⟩) (fun r6 m5 => ?_)
  exact ev_vret (ea_at dt_X11_needTrial 11 rfl) rfl ⟨by decide, by decide⟩ (fun h => ⟨0, hR _ h⟩)
def F_X11_firstHasIt : ea_F := (ea_rm 14 0 0, cX11_firstHasIt, RX11, some .int, 8, [], 0, 0)
def D_X11_firstHasIt : List (Nat × Instr × Nat) := [(0, .iconst 0, 1), (1, .istore 5, 2), (3, .iload 4, 2), (5, .istore 6, 2), (7, .iconst 0, 1), (8, .istore 7, 2), (10, .iload 7, 2), (12, .iload_n 3, 1), (13, .if_icmp .ge 50, 3), (16, .aload_n 0, 1), (17, .getfield 83, 3), (20, .iload_n 1, 1), (21, .iload_n 2, 1), (22, .iload 6, 2), (24, .invokevirtual 291, 3), (27, .aload_n 0, 1), (28, .getfield 83, 3), (31, .getfield 294, 3), (34, .istore 6, 2), (36, .iload 5, 2), (38, .aload_n 0, 1), (39, .getfield 83, 3), (42, .invokevirtual 295, 3), (45, .iconst 1, 1), (46, .if_icmp .ne 7, 3), (49, .iconst 1, 1), (50, .goto 4, 3), (53, .iconst 0, 1), (54, .iadd, 1), (55, .istore 5, 2), (57, .iinc 7 1, 3), (60, .goto (-50), 3), (63, .iload 5, 2), (65, .ireturn, 1)]
theorem dt_X11_firstHasIt : ∀ q ∈ D_X11_firstHasIt, decode cX11_firstHasIt q.1 = .ok q.2 := by decide +kernel
theorem mv_X11_firstHasIt : ea_MV yX11_firstHasIt (F_X11_firstHasIt) 4 := ⟨⟨List.mem_append_right _ (List.mem_of_getElem? (i := 1) (by decide +kernel)), List.mem_append_right _ (List.mem_of_getElem? (i := 1370) (by decide +kernel)), ⟨by decide, by decide⟩, by decide +kernel⟩, List.mem_append_right _ (List.mem_of_getElem? (i := 1369) (by decide +kernel)), List.mem_append_left _ (List.mem_of_getElem? (i := 41) (by decide +kernel))⟩
def f_X11_firstHasIt_j54 (p1 : Int32) (p2 : Int32) (p3 : Int32) (x6 : Int32) (x7 : Int32) (x8 : Int32) (x9 : Int32) (m10 : ea_M) : Option ((Int32 × Int32 × Int32 × ea_M) ⊕ (Int32 × ea_M)) :=
  ea_bd (x8 + x9) fun x11 =>
  some (.inl (x11, x6, x7 + 1, m10))
def f_X11_firstHasIt_s10 (p1 : Int32) (p2 : Int32) (p3 : Int32)  (s10 : Int32 × Int32 × Int32 × ea_M) : Option ((Int32 × Int32 × Int32 × ea_M) ⊕ (Int32 × ea_M)) :=
  if p3 ≤ s10.2.2.1 then
  some (.inr (s10.1, s10.2.2.2))
  else
  ea_cl (f_X0_duel p1 p2 s10.2.1 s10.2.2.2) fun r2 m1 =>
  ea_bd (m1 73 6) fun x3 =>
  ea_cl (f_X0_ending m1) fun r5 m4 =>
  if r5 = 1 then
  f_X11_firstHasIt_j54 p1 p2 p3 x3 s10.2.2.1 s10.1 1 m4
  else
  f_X11_firstHasIt_j54 p1 p2 p3 x3 s10.2.2.1 s10.1 0 m4
def f_X11_firstHasIt (p1 : Int32) (p2 : Int32) (p3 : Int32) (p4 : Int32) (m : ea_M) : Option (Int32 × ea_M) :=
  (ea_loop (f_X11_firstHasIt_s10 p1 p2 p3) ea_fuel (0, p4, 0, m)).bind (fun x10s =>
  some (x10s.1, x10s.2))
set_option maxHeartbeats 300000 in
theorem jn_X11_firstHasIt_54 (G : ea_G) {res : ea_O}  (p1 : Int32) (p2 : Int32) (p3 : Int32) (x6 : Int32) (x7 : Int32) (x8 : Int32) (x9 : Int32) (m10 : ea_M)  {Φ : ((Int32 × Int32 × Int32 × ea_M) ⊕ (Int32 × ea_M)) → Prop} (hC : ∀ s10 : Int32 × Int32 × Int32 × ea_M, Φ (.inl s10) → ea_Ev G F_X11_firstHasIt res 10 [some (.ref 0), some (.int p1), some (.int p2), some (.int p3), none, some (.int s10.1), some (.int s10.2.1), some (.int s10.2.2.1)] [] s10.2.2.2 0 0) (hX : ∀ x10s : Int32 × ea_M, Φ (.inr x10s) → ea_Ev G F_X11_firstHasIt res 63 [none, none, none, none, none, some (.int x10s.1), none, none] [] x10s.2 0 0) : ea_E G F_X11_firstHasIt res 54 [some (.ref 0), some (.int p1), some (.int p2), some (.int p3), none, none, some (.int x6), some (.int x7)] [.int x9, .int x8] m10 0 0 (f_X11_firstHasIt_j54 p1 p2 p3 x6 x7 x8 x9 m10) Φ := by
  unfold f_X11_firstHasIt_j54
  refine ev_iadd (ea_at dt_X11_firstHasIt 28 rfl) ?_
  refine ev_i (fun x11 => ?_)
  refine ev_istore (ls' := [some (.ref 0), some (.int p1), some (.int p2), some (.int p3), none, some (.int x11), some (.int x6), some (.int x7)]) (ea_at dt_X11_firstHasIt 29 rfl) (ea_lt rfl) rfl ?_
  refine ev_iinc (ls' := [some (.ref 0), some (.int p1), some (.int p2), some (.int p3), none, some (.int x11), some (.int x6), some (.int (x7 + 1))]) (ea_at dt_X11_firstHasIt 30 rfl) rfl (congrArg (fun z => _ + z) ic_1) (ea_lt rfl) rfl ?_
  refine ev_goto (tgt := 10) (ea_at dt_X11_firstHasIt 31 rfl) rfl ?_
  exact ev_leaf (fun h => ea_drop (l' := [some (.ref 0), some (.int p1), some (.int p2), some (.int p3), none, some (.int x11), some (.int x6), some (.int (x7 + 1))]) ⟨Or.inr rfl, Or.inr rfl, Or.inr rfl, Or.inr rfl, Or.inl rfl, Or.inr rfl, Or.inr rfl, Or.inr rfl, trivial⟩ (hC (x11, x6, x7 + 1, m10) h))
set_option maxHeartbeats 300000 in
theorem lp_X11_firstHasIt_10 (G : ea_G) {res : ea_O}  (p1 : Int32) (p2 : Int32) (p3 : Int32)  {Ψ : (Int32 × ea_M) → Prop} (hX : ∀ x10s : Int32 × ea_M, Ψ x10s → ea_Ev G F_X11_firstHasIt res 63 [none, none, none, none, none, some (.int x10s.1), none, none] [] x10s.2 0 0) : ∀ (f : Nat) (s10 : Int32 × Int32 × Int32 × ea_M), ea_E G F_X11_firstHasIt res 10 [some (.ref 0), some (.int p1), some (.int p2), some (.int p3), none, some (.int s10.1), some (.int s10.2.1), some (.int s10.2.2.1)] [] s10.2.2.2 0 0 (ea_loop (f_X11_firstHasIt_s10 p1 p2 p3) f s10) Ψ := by
  refine ev_loop (G := G) (F := F_X11_firstHasIt) (res := res) (pc := 10) (st := []) (k := 0) (n := 0) (step := (f_X11_firstHasIt_s10 p1 p2 p3)) (Ψ := Ψ) (fun (s10 : Int32 × Int32 × Int32 × ea_M) => [some (.ref 0), some (.int p1), some (.int p2), some (.int p3), none, some (.int s10.1), some (.int s10.2.1), some (.int s10.2.2.1)]) (fun (s10 : Int32 × Int32 × Int32 × ea_M) => s10.2.2.2) (fun s10 => ?_)
  have hC : ∀ s10 : Int32 × Int32 × Int32 × ea_M, (Sum.elim (fun s10 : Int32 × Int32 × Int32 × ea_M => ea_Ev G F_X11_firstHasIt res 10 [some (.ref 0), some (.int p1), some (.int p2), some (.int p3), none, some (.int s10.1), some (.int s10.2.1), some (.int s10.2.2.1)] [] s10.2.2.2 0 0) Ψ) (.inl s10) → ea_Ev G F_X11_firstHasIt res 10 [some (.ref 0), some (.int p1), some (.int p2), some (.int p3), none, some (.int s10.1), some (.int s10.2.1), some (.int s10.2.2.1)] [] s10.2.2.2 0 0 := fun _ h => h
  have hX : ∀ x10s : Int32 × ea_M, (Sum.elim (fun s10 : Int32 × Int32 × Int32 × ea_M => ea_Ev G F_X11_firstHasIt res 10 [some (.ref 0), some (.int p1), some (.int p2), some (.int p3), none, some (.int s10.1), some (.int s10.2.1), some (.int s10.2.2.1)] [] s10.2.2.2 0 0) Ψ) (.inr x10s) → ea_Ev G F_X11_firstHasIt res 63 [none, none, none, none, none, some (.int x10s.1), none, none] [] x10s.2 0 0 := hX
  unfold f_X11_firstHasIt_s10
  refine ev_iload (ea_at dt_X11_firstHasIt 6 rfl) rfl ?_
  refine ev_iload_n (ea_at dt_X11_firstHasIt 7 rfl) rfl ?_
  refine ev_icmp_ge (tgt := 63) (ea_at dt_X11_firstHasIt 8 rfl) rfl (fun _ => ?_) (fun _ => ?_)
  · exact ev_leaf (fun h => ea_drop (l' := [none, none, none, none, none, some (.int s10.1), none, none]) ⟨Or.inl rfl, Or.inl rfl, Or.inl rfl, Or.inl rfl, Or.inl rfl, Or.inr rfl, Or.inl rfl, Or.inl rfl, trivial⟩ (hX (s10.1, s10.2.2.2) h))
  · refine ev_aload_n (ea_at dt_X11_firstHasIt 9 rfl) rfl ?_
    refine ev_getR (ea_at dt_X11_firstHasIt 10 rfl) fl_X11_83 sh_0 rfl ?_
    refine ev_iload_n (ea_at dt_X11_firstHasIt 11 rfl) rfl ?_
    refine ev_iload_n (ea_at dt_X11_firstHasIt 12 rfl) rfl ?_
    refine ev_iload (ea_at dt_X11_firstHasIt 13 rfl) rfl ?_
    refine ev_clU (F1 := F_X0_duel) (fun rY mY hY => ea_runV (As := [.int p1, .int p2, .int s10.2.1]) (ea_at dt_X11_firstHasIt 14 rfl) ml_X11_291 mv_X0_duel (ok_X0_duel G p1 p2 s10.2.1 s10.2.2.2  rY mY hY) sh_73 rfl rfl rfl (Nat.le_of_ble_eq_true rfl) rfl) rfl (fun r2 m1 => ?_)
    refine ev_aload_n (ea_at dt_X11_firstHasIt 15 rfl) rfl ?_
    refine ev_getR (ea_at dt_X11_firstHasIt 16 rfl) fl_X11_83 sh_0 rfl ?_
    refine ev_getI (ea_at dt_X11_firstHasIt 17 rfl) fl_X11_294 sh_73 rfl ?_
    refine ev_i (fun x3 => ?_)
    refine ev_istore (ls' := [some (.ref 0), some (.int p1), some (.int p2), some (.int p3), none, some (.int s10.1), some (.int x3), some (.int s10.2.2.1)]) (ea_at dt_X11_firstHasIt 18 rfl) (ea_lt rfl) rfl ?_
    refine ev_iload (ea_at dt_X11_firstHasIt 19 rfl) rfl ?_
    refine ev_aload_n (ea_at dt_X11_firstHasIt 20 rfl) rfl ?_
    refine ev_getR (ea_at dt_X11_firstHasIt 21 rfl) fl_X11_83 sh_0 rfl ?_
    refine ev_clI (F1 := F_X0_ending) (fun rY mY hY => ea_runV (As := []) (ea_at dt_X11_firstHasIt 22 rfl) ml_X11_295 mv_X0_ending (ok_X0_ending G m1  rY mY hY) sh_73 rfl rfl rfl (Nat.le_of_ble_eq_true rfl) rfl) rfl (fun r5 m4 => ?_)
    refine ev_iconst (ea_at dt_X11_firstHasIt 23 rfl) ic_1 ?_
    refine ev_icmp_ne (tgt := 53) (ea_at dt_X11_firstHasIt 24 rfl) rfl (fun _ => ?_) (fun _ => ?_)
    · refine ev_iconst (ea_at dt_X11_firstHasIt 25 rfl) ic_1 ?_
      refine ev_goto (tgt := 54) (ea_at dt_X11_firstHasIt 26 rfl) rfl ?_
      exact ev_drop (l' := [some (.ref 0), some (.int p1), some (.int p2), some (.int p3), none, none, some (.int x3), some (.int s10.2.2.1)]) ⟨Or.inr rfl, Or.inr rfl, Or.inr rfl, Or.inr rfl, Or.inl rfl, Or.inl rfl, Or.inr rfl, Or.inr rfl, trivial⟩ (jn_X11_firstHasIt_54 G p1 p2 p3 x3 s10.2.2.1 s10.1 1 m4  hC hX)
    · refine ev_iconst (ea_at dt_X11_firstHasIt 27 rfl) ic_0 ?_
      exact ev_drop (l' := [some (.ref 0), some (.int p1), some (.int p2), some (.int p3), none, none, some (.int x3), some (.int s10.2.2.1)]) ⟨Or.inr rfl, Or.inr rfl, Or.inr rfl, Or.inr rfl, Or.inl rfl, Or.inl rfl, Or.inr rfl, Or.inr rfl, trivial⟩ (jn_X11_firstHasIt_54 G p1 p2 p3 x3 s10.2.2.1 s10.1 0 m4  hC hX)
set_option maxHeartbeats 300000 in
theorem ok_X11_firstHasIt (G : ea_G) (p1 : Int32) (p2 : Int32) (p3 : Int32) (p4 : Int32) (m : ea_M)  (rZ : Int32) (mZ : ea_M) (hZ : f_X11_firstHasIt p1 p2 p3 p4 m = some (rZ, mZ)) : ea_Met G yX11_firstHasIt F_X11_firstHasIt [.ref 0, .int p1, .int p2, .int p3, .int p4] m (0, rZ, mZ) := by
  refine ea_met (F := F_X11_firstHasIt) (by decide +kernel) rfl rfl (Nat.le_of_ble_eq_true rfl) (by simp only [List.mem_cons, List.not_mem_nil, or_false]; intro v hv; rcases hv with rfl | rfl | rfl | rfl | rfl <;> rfl) ((?_ : ea_E G F_X11_firstHasIt (0, rZ, mZ) 0 [some (.ref 0), some (.int p1), some (.int p2), some (.int p3), some (.int p4), none, none, none] [] m 0 0 (f_X11_firstHasIt p1 p2 p3 p4 m) (fun t => t = (rZ, mZ))) (rZ, mZ) hZ rfl)
  have hR : ∀ t : Int32 × ea_M, t = (rZ, mZ) → ((0, rZ, mZ) : ea_O) = (0, t) := fun t h => by rw [h]
  unfold f_X11_firstHasIt
  refine ev_iconst (ea_at dt_X11_firstHasIt 0 rfl) ic_0 ?_
  refine ev_istore (ls' := [some (.ref 0), some (.int p1), some (.int p2), some (.int p3), some (.int p4), some (.int 0), none, none]) (ea_at dt_X11_firstHasIt 1 rfl) (ea_lt rfl) rfl ?_
  refine ev_iload (ea_at dt_X11_firstHasIt 2 rfl) rfl ?_
  refine ev_istore (ls' := [some (.ref 0), some (.int p1), some (.int p2), some (.int p3), some (.int p4), some (.int 0), some (.int p4), none]) (ea_at dt_X11_firstHasIt 3 rfl) (ea_lt rfl) rfl ?_
  refine ev_iconst (ea_at dt_X11_firstHasIt 4 rfl) ic_0 ?_
  refine ev_istore (ls' := [some (.ref 0), some (.int p1), some (.int p2), some (.int p3), some (.int p4), some (.int 0), some (.int p4), some (.int 0)]) (ea_at dt_X11_firstHasIt 5 rfl) (ea_lt rfl) rfl ?_
  refine ev_drop (l' := [some (.ref 0), some (.int p1), some (.int p2), some (.int p3), none, some (.int 0), some (.int p4), some (.int 0)]) ⟨Or.inr rfl, Or.inr rfl, Or.inr rfl, Or.inr rfl, Or.inl rfl, Or.inr rfl, Or.inr rfl, Or.inr rfl, trivial⟩ ?_
  refine ev_bind (lp_X11_firstHasIt_10 G p1 p2 p3   (fun x10s h => ?_) ea_fuel (0, p4, 0, m))
  obtain ⟨t1, e1, q1⟩ := h
  refine (?_ : ea_E G F_X11_firstHasIt (0, rZ, mZ) 63 [none, none, none, none, none, some (.int x10s.1), none, none] [] x10s.2 0 0 _ (fun t => t = (rZ, mZ))) t1 e1 q1
  refine ev_iload (ea_at dt_X11_firstHasIt 32 rfl) rfl ?_
  exact ev_iret (ea_at dt_X11_firstHasIt 33 rfl) rfl ⟨by decide, by decide⟩ (fun h => hR _ h)
def F_X11_trial : ea_F := (ea_rm 15 3 18, cX11_trial, RX11, some .int, 4, [], 3, 18)
def D_X11_trial : List (Nat × Instr × Nat) := [(0, .aload_n 0, 1), (1, .iload_n 1, 1), (2, .iload_n 2, 1), (3, .iload_n 3, 1), (4, .invokevirtual 423, 3), (7, .aload_n 0, 1), (8, .iload_n 1, 1), (9, .iload_n 2, 1), (10, .iload_n 3, 1), (11, .aload_n 0, 1), (12, .getfield 23, 3), (15, .getfield 288, 3), (18, .invokevirtual 426, 3), (21, .ireturn, 1)]
theorem dt_X11_trial : ∀ q ∈ D_X11_trial, decode cX11_trial q.1 = .ok q.2 := by decide +kernel
theorem mv_X11_trial : ea_MV yX11_trial (F_X11_trial) 3 := ⟨⟨List.mem_append_right _ (List.mem_of_getElem? (i := 1) (by decide +kernel)), List.mem_append_right _ (List.mem_of_getElem? (i := 1362) (by decide +kernel)), ⟨by decide, by decide⟩, by decide +kernel⟩, List.mem_append_right _ (List.mem_of_getElem? (i := 1360) (by decide +kernel)), List.mem_append_right _ (List.mem_of_getElem? (i := 1361) (by decide +kernel))⟩
def f_X11_trial (p1 : Int32) (p2 : Int32) (p3 : Int32) (m : ea_M) : Option (ea_O) :=
  ea_cx (f_X11_needTrial p1 p2 p3 m) (fun r2 m1 =>
  ea_bd (m1 2 6) fun x3 =>
  ea_cl (f_X11_firstHasIt p1 p2 p3 x3 m1) fun r5 m4 =>
  some (0, r5, m4)) (fun kx mx => some (kx, 0, mx))
set_option maxHeartbeats 300000 in
theorem ok_X11_trial (G : ea_G) (p1 : Int32) (p2 : Int32) (p3 : Int32) (m : ea_M)  (zZ : ea_O) (hZ : f_X11_trial p1 p2 p3 m = some zZ) : ea_Met G yX11_trial F_X11_trial [.ref 0, .int p1, .int p2, .int p3] m zZ := by
  refine ea_met (F := F_X11_trial) (by decide +kernel) rfl rfl (Nat.le_of_ble_eq_true rfl) (by simp only [List.mem_cons, List.not_mem_nil, or_false]; intro v hv; rcases hv with rfl | rfl | rfl | rfl <;> rfl) ((?_ : ea_E G F_X11_trial zZ 0 [some (.ref 0), some (.int p1), some (.int p2), some (.int p3)] [] m 0 0 (f_X11_trial p1 p2 p3 m) (fun t => t = zZ)) zZ hZ rfl)
  have hR : ∀ t : ea_O, t = zZ → zZ = t := fun t h => h.symm
  unfold f_X11_trial
  refine ev_aload_n (ea_at dt_X11_trial 0 rfl) rfl ?_
  refine ev_iload_n (ea_at dt_X11_trial 1 rfl) rfl ?_
  refine ev_iload_n (ea_at dt_X11_trial 2 rfl) rfl ?_
  refine ev_iload_n (ea_at dt_X11_trial 3 rfl) rfl ?_
  refine ev_cxU (F1 := F_X11_needTrial) rfl (fun zY hY => ea_runV (As := [.int p1, .int p2, .int p3]) (ea_at dt_X11_trial 4 rfl) ml_X11_423 mv_X11_needTrial (ok_X11_needTrial G p1 p2 p3 m  zY hY) sh_0 rfl rfl rfl (Nat.le_of_ble_eq_true rfl) rfl) rfl ⟨by decide, by decide⟩ (fun kx mx t e q => ⟨0, by cases e; exact hR _ q⟩) (fun r2 m1 => ?_)
  refine ev_aload_n (ea_at dt_X11_trial 5 rfl) rfl ?_
  refine ev_iload_n (ea_at dt_X11_trial 6 rfl) rfl ?_
  refine ev_iload_n (ea_at dt_X11_trial 7 rfl) rfl ?_
  refine ev_iload_n (ea_at dt_X11_trial 8 rfl) rfl ?_
  refine ev_aload_n (ea_at dt_X11_trial 9 rfl) rfl ?_
  refine ev_getR (ea_at dt_X11_trial 10 rfl) fl_X11_23 sh_0 rfl ?_
  refine ev_getI (ea_at dt_X11_trial 11 rfl) fl_X11_288 sh_2 rfl ?_
  refine ev_i (fun x3 => ?_)
  refine ev_clI (F1 := F_X11_firstHasIt) (fun rY mY hY => ea_runV (As := [.int p1, .int p2, .int p3, .int x3]) (ea_at dt_X11_trial 12 rfl) ml_X11_426 mv_X11_firstHasIt (ok_X11_firstHasIt G p1 p2 p3 x3 m1  rY mY hY) sh_0 rfl rfl rfl (Nat.le_of_ble_eq_true rfl) rfl) rfl (fun r5 m4 => ?_)
  exact ev_iret (ea_at dt_X11_trial 13 rfl) rfl ⟨by decide, by decide⟩ (fun h => hR _ h)
def F_X11_span : ea_F := (ea_rm 15 3 18, cX11_span, RX11, some .int, 8, [], 3, 18)
def D_X11_span : List (Nat × Instr × Nat) := [(0, .aload_n 0, 1), (1, .iload_n 1, 1), (2, .iload_n 2, 1), (3, .iload_n 3, 1), (4, .invokevirtual 423, 3), (7, .aload_n 0, 1), (8, .iload_n 1, 1), (9, .iload_n 2, 1), (10, .iload_n 3, 1), (11, .iconst 1, 1), (12, .invokevirtual 426, 3), (15, .istore 5, 2), (17, .iconst 2, 1), (18, .istore 6, 2), (20, .iload 6, 2), (22, .bipush 6, 2), (24, .if_icmp .gt 44, 3), (27, .aload_n 0, 1), (28, .iload_n 1, 1), (29, .iload_n 2, 1), (30, .iload_n 3, 1), (31, .iload 6, 2), (33, .invokevirtual 426, 3), (36, .istore 7, 2), (38, .iload 4, 2), (40, .ifCond .eq 13, 3), (43, .iload 5, 2), (45, .iload 7, 2), (47, .invokestatic 406, 3), (50, .goto 10, 3), (53, .iload 5, 2), (55, .iload 7, 2), (57, .invokestatic 311, 3), (60, .istore 5, 2), (62, .iinc 6 1, 3), (65, .goto (-45), 3), (68, .iload 5, 2), (70, .ireturn, 1)]
theorem dt_X11_span : ∀ q ∈ D_X11_span, decode cX11_span q.1 = .ok q.2 := by decide +kernel
theorem mv_X11_span : ea_MV yX11_span (F_X11_span) 4 := ⟨⟨List.mem_append_right _ (List.mem_of_getElem? (i := 1) (by decide +kernel)), List.mem_append_right _ (List.mem_of_getElem? (i := 1377) (by decide +kernel)), ⟨by decide, by decide⟩, by decide +kernel⟩, List.mem_append_right _ (List.mem_of_getElem? (i := 1375) (by decide +kernel)), List.mem_append_right _ (List.mem_of_getElem? (i := 1376) (by decide +kernel))⟩
def f_X11_span_j60 (p1 : Int32) (p2 : Int32) (p3 : Int32) (p4 : Int32) (x8 : Int32) (x9 : Int32) (m10 : ea_M) : Option ((Int32 × Int32 × ea_M) ⊕ (Int32 × ea_M)) :=
  some (.inl (x9, x8 + 1, m10))
def f_X11_span_s20 (p1 : Int32) (p2 : Int32) (p3 : Int32) (p4 : Int32)  (s20 : Int32 × Int32 × ea_M) : Option ((Int32 × Int32 × ea_M) ⊕ (Int32 × ea_M)) :=
  if 6 < s20.2.1 then
  some (.inr (s20.1, s20.2.2))
  else
  ea_cl (f_X11_firstHasIt p1 p2 p3 s20.2.1 s20.2.2) fun r6 m5 =>
  if p4 = 0 then
  ea_bd (ea_min s20.1 r6) fun x7 =>
  f_X11_span_j60 p1 p2 p3 p4 s20.2.1 x7 m5
  else
  ea_bd (ea_max s20.1 r6) fun x11 =>
  f_X11_span_j60 p1 p2 p3 p4 s20.2.1 x11 m5
def f_X11_span (p1 : Int32) (p2 : Int32) (p3 : Int32) (p4 : Int32) (m : ea_M) : Option (ea_O) :=
  ea_cx (f_X11_needTrial p1 p2 p3 m) (fun r2 m1 =>
  ea_cl (f_X11_firstHasIt p1 p2 p3 1 m1) fun r4 m3 =>
  (ea_loop (f_X11_span_s20 p1 p2 p3 p4) ea_fuel (r4, 2, m3)).bind (fun x20s =>
  some (0, x20s.1, x20s.2))) (fun kx mx => some (kx, 0, mx))
set_option maxHeartbeats 300000 in
theorem jn_X11_span_60 (G : ea_G) {res : ea_O}  (p1 : Int32) (p2 : Int32) (p3 : Int32) (p4 : Int32) (x8 : Int32) (x9 : Int32) (m10 : ea_M)  {Φ : ((Int32 × Int32 × ea_M) ⊕ (Int32 × ea_M)) → Prop} (hC : ∀ s20 : Int32 × Int32 × ea_M, Φ (.inl s20) → ea_Ev G F_X11_span res 20 [some (.ref 0), some (.int p1), some (.int p2), some (.int p3), some (.int p4), some (.int s20.1), some (.int s20.2.1), none] [] s20.2.2 3 18) (hX : ∀ x20s : Int32 × ea_M, Φ (.inr x20s) → ea_Ev G F_X11_span res 68 [none, none, none, none, none, some (.int x20s.1), none, none] [] x20s.2 3 18) : ea_E G F_X11_span res 60 [some (.ref 0), some (.int p1), some (.int p2), some (.int p3), some (.int p4), none, some (.int x8), none] [.int x9] m10 3 18 (f_X11_span_j60 p1 p2 p3 p4 x8 x9 m10) Φ := by
  unfold f_X11_span_j60
  refine ev_istore (ls' := [some (.ref 0), some (.int p1), some (.int p2), some (.int p3), some (.int p4), some (.int x9), some (.int x8), none]) (ea_at dt_X11_span 33 rfl) (ea_lt rfl) rfl ?_
  refine ev_iinc (ls' := [some (.ref 0), some (.int p1), some (.int p2), some (.int p3), some (.int p4), some (.int x9), some (.int (x8 + 1)), none]) (ea_at dt_X11_span 34 rfl) rfl (congrArg (fun z => _ + z) ic_1) (ea_lt rfl) rfl ?_
  refine ev_goto (tgt := 20) (ea_at dt_X11_span 35 rfl) rfl ?_
  exact ev_leaf (fun h => ea_drop (l' := [some (.ref 0), some (.int p1), some (.int p2), some (.int p3), some (.int p4), some (.int x9), some (.int (x8 + 1)), none]) ⟨Or.inr rfl, Or.inr rfl, Or.inr rfl, Or.inr rfl, Or.inr rfl, Or.inr rfl, Or.inr rfl, Or.inl rfl, trivial⟩ (hC (x9, x8 + 1, m10) h))
set_option maxHeartbeats 300000 in
theorem lp_X11_span_20 (G : ea_G) {res : ea_O}  (p1 : Int32) (p2 : Int32) (p3 : Int32) (p4 : Int32)  {Ψ : (Int32 × ea_M) → Prop} (hX : ∀ x20s : Int32 × ea_M, Ψ x20s → ea_Ev G F_X11_span res 68 [none, none, none, none, none, some (.int x20s.1), none, none] [] x20s.2 3 18) : ∀ (f : Nat) (s20 : Int32 × Int32 × ea_M), ea_E G F_X11_span res 20 [some (.ref 0), some (.int p1), some (.int p2), some (.int p3), some (.int p4), some (.int s20.1), some (.int s20.2.1), none] [] s20.2.2 3 18 (ea_loop (f_X11_span_s20 p1 p2 p3 p4) f s20) Ψ := by
  refine ev_loop (G := G) (F := F_X11_span) (res := res) (pc := 20) (st := []) (k := 3) (n := 18) (step := (f_X11_span_s20 p1 p2 p3 p4)) (Ψ := Ψ) (fun (s20 : Int32 × Int32 × ea_M) => [some (.ref 0), some (.int p1), some (.int p2), some (.int p3), some (.int p4), some (.int s20.1), some (.int s20.2.1), none]) (fun (s20 : Int32 × Int32 × ea_M) => s20.2.2) (fun s20 => ?_)
  have hC : ∀ s20 : Int32 × Int32 × ea_M, (Sum.elim (fun s20 : Int32 × Int32 × ea_M => ea_Ev G F_X11_span res 20 [some (.ref 0), some (.int p1), some (.int p2), some (.int p3), some (.int p4), some (.int s20.1), some (.int s20.2.1), none] [] s20.2.2 3 18) Ψ) (.inl s20) → ea_Ev G F_X11_span res 20 [some (.ref 0), some (.int p1), some (.int p2), some (.int p3), some (.int p4), some (.int s20.1), some (.int s20.2.1), none] [] s20.2.2 3 18 := fun _ h => h
  have hX : ∀ x20s : Int32 × ea_M, (Sum.elim (fun s20 : Int32 × Int32 × ea_M => ea_Ev G F_X11_span res 20 [some (.ref 0), some (.int p1), some (.int p2), some (.int p3), some (.int p4), some (.int s20.1), some (.int s20.2.1), none] [] s20.2.2 3 18) Ψ) (.inr x20s) → ea_Ev G F_X11_span res 68 [none, none, none, none, none, some (.int x20s.1), none, none] [] x20s.2 3 18 := hX
  unfold f_X11_span_s20
  refine ev_iload (ea_at dt_X11_span 14 rfl) rfl ?_
  refine ev_bipush (ea_at dt_X11_span 15 rfl) bp_6 ?_
  refine ev_icmp_gt (tgt := 68) (ea_at dt_X11_span 16 rfl) rfl (fun _ => ?_) (fun _ => ?_)
  · exact ev_leaf (fun h => ea_drop (l' := [none, none, none, none, none, some (.int s20.1), none, none]) ⟨Or.inl rfl, Or.inl rfl, Or.inl rfl, Or.inl rfl, Or.inl rfl, Or.inr rfl, Or.inl rfl, Or.inl rfl, trivial⟩ (hX (s20.1, s20.2.2) h))
  · refine ev_aload_n (ea_at dt_X11_span 17 rfl) rfl ?_
    refine ev_iload_n (ea_at dt_X11_span 18 rfl) rfl ?_
    refine ev_iload_n (ea_at dt_X11_span 19 rfl) rfl ?_
    refine ev_iload_n (ea_at dt_X11_span 20 rfl) rfl ?_
    refine ev_iload (ea_at dt_X11_span 21 rfl) rfl ?_
    refine ev_clI (F1 := F_X11_firstHasIt) (fun rY mY hY => ea_runV (As := [.int p1, .int p2, .int p3, .int s20.2.1]) (ea_at dt_X11_span 22 rfl) ml_X11_426 mv_X11_firstHasIt (ok_X11_firstHasIt G p1 p2 p3 s20.2.1 s20.2.2  rY mY hY) sh_0 rfl rfl rfl (Nat.le_of_ble_eq_true rfl) rfl) rfl (fun r6 m5 => ?_)
    refine ev_istore (ls' := [some (.ref 0), some (.int p1), some (.int p2), some (.int p3), some (.int p4), some (.int s20.1), some (.int s20.2.1), some (.int r6)]) (ea_at dt_X11_span 23 rfl) (ea_lt rfl) rfl ?_
    refine ev_iload (ea_at dt_X11_span 24 rfl) rfl ?_
    refine ev_if_eq (tgt := 53) (ea_at dt_X11_span 25 rfl) rfl (fun _ => ?_) (fun _ => ?_)
    · refine ev_iload (ea_at dt_X11_span 30 rfl) rfl ?_
      refine ev_iload (ea_at dt_X11_span 31 rfl) rfl ?_
      refine ev_mmin (ea_at dt_X11_span 32 rfl) ml_X11_311 ea_maW_min ⟨by decide, Nat.le_of_ble_eq_true rfl, by decide, by decide⟩ ?_
      refine ev_i (fun x7 => ?_)
      exact ev_drop (l' := [some (.ref 0), some (.int p1), some (.int p2), some (.int p3), some (.int p4), none, some (.int s20.2.1), none]) ⟨Or.inr rfl, Or.inr rfl, Or.inr rfl, Or.inr rfl, Or.inr rfl, Or.inl rfl, Or.inr rfl, Or.inl rfl, trivial⟩ (jn_X11_span_60 G p1 p2 p3 p4 s20.2.1 x7 m5  hC hX)
    · refine ev_iload (ea_at dt_X11_span 26 rfl) rfl ?_
      refine ev_iload (ea_at dt_X11_span 27 rfl) rfl ?_
      refine ev_mmax (ea_at dt_X11_span 28 rfl) ml_X11_406 ea_maW_max ⟨by decide, Nat.le_of_ble_eq_true rfl, by decide, by decide⟩ ?_
      refine ev_i (fun x11 => ?_)
      refine ev_goto (tgt := 60) (ea_at dt_X11_span 29 rfl) rfl ?_
      exact ev_drop (l' := [some (.ref 0), some (.int p1), some (.int p2), some (.int p3), some (.int p4), none, some (.int s20.2.1), none]) ⟨Or.inr rfl, Or.inr rfl, Or.inr rfl, Or.inr rfl, Or.inr rfl, Or.inl rfl, Or.inr rfl, Or.inl rfl, trivial⟩ (jn_X11_span_60 G p1 p2 p3 p4 s20.2.1 x11 m5  hC hX)
set_option maxHeartbeats 300000 in
theorem ok_X11_span (G : ea_G) (p1 : Int32) (p2 : Int32) (p3 : Int32) (p4 : Int32) (m : ea_M)  (zZ : ea_O) (hZ : f_X11_span p1 p2 p3 p4 m = some zZ) : ea_Met G yX11_span F_X11_span [.ref 0, .int p1, .int p2, .int p3, .int p4] m zZ := by
  refine ea_met (F := F_X11_span) (by decide +kernel) rfl rfl (Nat.le_of_ble_eq_true rfl) (by simp only [List.mem_cons, List.not_mem_nil, or_false]; intro v hv; rcases hv with rfl | rfl | rfl | rfl | rfl <;> rfl) ((?_ : ea_E G F_X11_span zZ 0 [some (.ref 0), some (.int p1), some (.int p2), some (.int p3), some (.int p4), none, none, none] [] m 0 0 (f_X11_span p1 p2 p3 p4 m) (fun t => t = zZ)) zZ hZ rfl)
  have hR : ∀ t : ea_O, t = zZ → zZ = t := fun t h => h.symm
  unfold f_X11_span
  refine ev_aload_n (ea_at dt_X11_span 0 rfl) rfl ?_
  refine ev_iload_n (ea_at dt_X11_span 1 rfl) rfl ?_
  refine ev_iload_n (ea_at dt_X11_span 2 rfl) rfl ?_
  refine ev_iload_n (ea_at dt_X11_span 3 rfl) rfl ?_
  refine ev_cxU (F1 := F_X11_needTrial) rfl (fun zY hY => ea_runV (As := [.int p1, .int p2, .int p3]) (ea_at dt_X11_span 4 rfl) ml_X11_423 mv_X11_needTrial (ok_X11_needTrial G p1 p2 p3 m  zY hY) sh_0 rfl rfl rfl (Nat.le_of_ble_eq_true rfl) rfl) rfl ⟨by decide, by decide⟩ (fun kx mx t e q => ⟨0, by cases e; exact hR _ q⟩) (fun r2 m1 => ?_)
  refine ev_aload_n (ea_at dt_X11_span 5 rfl) rfl ?_
  refine ev_iload_n (ea_at dt_X11_span 6 rfl) rfl ?_
  refine ev_iload_n (ea_at dt_X11_span 7 rfl) rfl ?_
  refine ev_iload_n (ea_at dt_X11_span 8 rfl) rfl ?_
  refine ev_iconst (ea_at dt_X11_span 9 rfl) ic_1 ?_
  refine ev_clI (F1 := F_X11_firstHasIt) (fun rY mY hY => ea_runV (As := [.int p1, .int p2, .int p3, .int 1]) (ea_at dt_X11_span 10 rfl) ml_X11_426 mv_X11_firstHasIt (ok_X11_firstHasIt G p1 p2 p3 1 m1  rY mY hY) sh_0 rfl rfl rfl (Nat.le_of_ble_eq_true rfl) rfl) rfl (fun r4 m3 => ?_)
  refine ev_istore (ls' := [some (.ref 0), some (.int p1), some (.int p2), some (.int p3), some (.int p4), some (.int r4), none, none]) (ea_at dt_X11_span 11 rfl) (ea_lt rfl) rfl ?_
  refine ev_iconst (ea_at dt_X11_span 12 rfl) ic_2 ?_
  refine ev_istore (ls' := [some (.ref 0), some (.int p1), some (.int p2), some (.int p3), some (.int p4), some (.int r4), some (.int 2), none]) (ea_at dt_X11_span 13 rfl) (ea_lt rfl) rfl ?_
  refine ev_drop (l' := [some (.ref 0), some (.int p1), some (.int p2), some (.int p3), some (.int p4), some (.int r4), some (.int 2), none]) ⟨Or.inr rfl, Or.inr rfl, Or.inr rfl, Or.inr rfl, Or.inr rfl, Or.inr rfl, Or.inr rfl, Or.inl rfl, trivial⟩ ?_
  refine ev_bind (lp_X11_span_20 G p1 p2 p3 p4   (fun x20s h => ?_) ea_fuel (r4, 2, m3))
  obtain ⟨t1, e1, q1⟩ := h
  refine (?_ : ea_E G F_X11_span zZ 68 [none, none, none, none, none, some (.int x20s.1), none, none] [] x20s.2 3 18 _ (fun t => t = zZ)) t1 e1 q1
  refine ev_iload (ea_at dt_X11_span 36 rfl) rfl ?_
  exact ev_iret (ea_at dt_X11_span 37 rfl) rfl ⟨by decide, by decide⟩ (fun h => hR _ h)
def F_X6_told : ea_F := (ea_rm 8 0 0, cX6_told, RX6, some .int, 3, [], 0, 0)
def D_X6_told : List (Nat × Instr × Nat) := [(0, .iload_n 1, 1), (1, .ifCond .lt 11, 3), (4, .iload_n 1, 1), (5, .aload_n 0, 1), (6, .getfield 9, 3), (9, .if_icmp .lt 5, 3), (12, .iconst (-1), 1), (13, .ireturn, 1), (14, .aload_n 0, 1), (15, .getfield 18, 3), (18, .aload_n 0, 1), (19, .getfield 15, 3), (22, .bipush 60, 2), (24, .iadd, 1), (25, .iload_n 1, 1), (26, .isub, 1), (27, .bipush 60, 2), (29, .irem, 1), (30, .bipush 6, 2), (32, .imul, 1), (33, .iload_n 2, 1), (34, .iadd, 1), (35, .iaload, 1), (36, .ireturn, 1)]
theorem dt_X6_told : ∀ q ∈ D_X6_told, decode cX6_told q.1 = .ok q.2 := by decide +kernel
theorem mv_X6_told : ea_MV yX6_told (F_X6_told) 2 := ⟨⟨List.mem_append_right _ (List.mem_of_getElem? (i := 4) (by decide +kernel)), List.mem_append_right _ (List.mem_of_getElem? (i := 1388) (by decide +kernel)), ⟨by decide, by decide⟩, by decide +kernel⟩, List.mem_append_right _ (List.mem_of_getElem? (i := 1386) (by decide +kernel)), List.mem_append_right _ (List.mem_of_getElem? (i := 1387) (by decide +kernel))⟩
def f_X6_told (a : Nat) (p1 : Int32) (p2 : Int32) (m : ea_M) : Option (Int32 × ea_M) :=
  if p1 < 0 then
  some ((-1), m)
  else
  ea_bd (m a 0) fun x1 =>
  if p1 < x1 then
  ea_bd (m a 1) fun x2 =>
  ea_bd ((x2 + 60) - p1) fun x3 =>
  ea_bd (x3 - x3 / 60 * 60) fun x4 =>
  ea_bd ((x4 * 6) + p2) fun x5 =>
  ea_g x5 360 (ea_bd (m (a + 1) (Int32.toNatClampNeg x5)) fun x6 =>
  some (x6, m))
  else
  some ((-1), m)
set_option maxHeartbeats 300000 in
theorem ok_X6_told (G : ea_G) (a : Nat) (p1 : Int32) (p2 : Int32) (m : ea_M) (ha : ea_isJournal a) (rZ : Int32) (mZ : ea_M) (hZ : f_X6_told a p1 p2 m = some (rZ, mZ)) : ea_Met G yX6_told F_X6_told [.ref a, .int p1, .int p2] m (0, rZ, mZ) := by
  refine ea_met (F := F_X6_told) (by decide +kernel) rfl rfl (Nat.le_of_ble_eq_true rfl) (by simp only [List.mem_cons, List.not_mem_nil, or_false]; intro v hv; rcases hv with rfl | rfl | rfl <;> rfl) ((?_ : ea_E G F_X6_told (0, rZ, mZ) 0 [some (.ref a), some (.int p1), some (.int p2)] [] m 0 0 (f_X6_told a p1 p2 m) (fun t => t = (rZ, mZ))) (rZ, mZ) hZ rfl)
  have hR : ∀ t : Int32 × ea_M, t = (rZ, mZ) → ((0, rZ, mZ) : ea_O) = (0, t) := fun t h => by rw [h]
  unfold f_X6_told
  refine ev_iload_n (ea_at dt_X6_told 0 rfl) rfl ?_
  refine ev_if_lt (tgt := 12) (ea_at dt_X6_told 1 rfl) rfl (fun _ => ?_) (fun _ => ?_)
  · refine ev_iconst (ea_at dt_X6_told 6 rfl) ic_m1 ?_
    exact ev_iret (ea_at dt_X6_told 7 rfl) rfl ⟨by decide, by decide⟩ (fun h => hR _ h)
  · refine ev_iload_n (ea_at dt_X6_told 2 rfl) rfl ?_
    refine ev_aload_n (ea_at dt_X6_told 3 rfl) rfl ?_
    refine ev_getI (ea_at dt_X6_told 4 rfl) fl_X6_9 ha.1 rfl ?_
    refine ev_i (fun x1 => ?_)
    refine ev_icmp_lt (tgt := 14) (ea_at dt_X6_told 5 rfl) rfl (fun _ => ?_) (fun _ => ?_)
    · refine ev_aload_n (ea_at dt_X6_told 8 rfl) rfl ?_
      refine ev_getR (ea_at dt_X6_told 9 rfl) fl_X6_18 ha.1 rfl ?_
      refine ev_aload_n (ea_at dt_X6_told 10 rfl) rfl ?_
      refine ev_getI (ea_at dt_X6_told 11 rfl) fl_X6_15 ha.1 rfl ?_
      refine ev_i (fun x2 => ?_)
      refine ev_bipush (ea_at dt_X6_told 12 rfl) bp_60 ?_
      refine ev_iadd (ea_at dt_X6_told 13 rfl) ?_
      refine ev_iload_n (ea_at dt_X6_told 14 rfl) rfl ?_
      refine ev_isub (ea_at dt_X6_told 15 rfl) ?_
      refine ev_i (fun x3 => ?_)
      refine ev_bipush (ea_at dt_X6_told 16 rfl) bp_60 ?_
      refine ev_irem (ea_at dt_X6_told 17 rfl) (by decide) ?_
      refine ev_i (fun x4 => ?_)
      refine ev_bipush (ea_at dt_X6_told 18 rfl) bp_6 ?_
      refine ev_imul (ea_at dt_X6_told 19 rfl) ?_
      refine ev_iload_n (ea_at dt_X6_told 20 rfl) rfl ?_
      refine ev_iadd (ea_at dt_X6_told 21 rfl) ?_
      refine ev_i (fun x5 => ?_)
      refine ev_iaload (ea_at dt_X6_told 22 rfl) ha.2 (by decide) ?_
      refine ev_i (fun x6 => ?_)
      exact ev_iret (ea_at dt_X6_told 23 rfl) rfl ⟨by decide, by decide⟩ (fun h => hR _ h)
    · refine ev_iconst (ea_at dt_X6_told 6 rfl) ic_m1 ?_
      exact ev_iret (ea_at dt_X6_told 7 rfl) rfl ⟨by decide, by decide⟩ (fun h => hR _ h)
def F_X11_led : ea_F := (ea_rm 9 1 6, cX11_led, RX11, some .int, 9, [], 1, 6)
def D_X11_led : List (Nat × Instr × Nat) := [(0, .aload_n 0, 1), (1, .iload_n 1, 1), (2, .invokevirtual 157, 3), (5, .aload_n 0, 1), (6, .getfield 23, 3), (9, .getfield 267, 3), (12, .astore_n 3, 1), (13, .iconst 0, 1), (14, .istore 4, 2), (16, .iconst 0, 1), (17, .istore 5, 2), (19, .iload 5, 2), (21, .aload_n 3, 1), (22, .getfield 271, 3), (25, .if_icmp .ge 96, 3), (28, .aload_n 3, 1), (29, .iload 5, 2), (31, .iconst 4, 1), (32, .invokevirtual 430, 3), (35, .istore 6, 2), (37, .aload_n 3, 1), (38, .iload 5, 2), (40, .iconst 2, 1), (41, .invokevirtual 430, 3), (44, .iload_n 1, 1), (45, .if_icmp .ne 7, 3), (48, .iconst 1, 1), (49, .goto 4, 3), (52, .iconst 0, 1), (53, .istore 7, 2), (55, .aload_n 3, 1), (56, .iload 5, 2), (58, .iconst 3, 1), (59, .invokevirtual 430, 3), (62, .iload_n 1, 1), (63, .if_icmp .ne 7, 3), (66, .iconst 1, 1), (67, .goto 4, 3), (70, .iconst 0, 1), (71, .istore 8, 2), (73, .iload_n 2, 1), (74, .ifCond .eq 28, 3), (77, .iload 7, 2), (79, .ifCond .eq 9, 3), (82, .iload 6, 2), (84, .iconst 1, 1), (85, .if_icmp .eq 27, 3), (88, .iload 8, 2), (90, .ifCond .eq 25, 3), (93, .iload 6, 2), (95, .iconst 2, 1), (96, .if_icmp .ne 19, 3), (99, .goto 13, 3), (102, .iload 7, 2), (104, .ifCond .ne 8, 3), (107, .iload 8, 2), (109, .ifCond .eq 6, 3), (112, .iinc 4 1, 3), (115, .iinc 5 1, 3), (118, .goto (-99), 3), (121, .iload 4, 2), (123, .ireturn, 1)]
theorem dt_X11_led : ∀ q ∈ D_X11_led, decode cX11_led q.1 = .ok q.2 := by decide +kernel
theorem mv_X11_led : ea_MV yX11_led (F_X11_led) 2 := ⟨⟨List.mem_append_right _ (List.mem_of_getElem? (i := 1) (by decide +kernel)), List.mem_append_right _ (List.mem_of_getElem? (i := 1384) (by decide +kernel)), ⟨by decide, by decide⟩, by decide +kernel⟩, List.mem_append_right _ (List.mem_of_getElem? (i := 1382) (by decide +kernel)), List.mem_append_right _ (List.mem_of_getElem? (i := 1383) (by decide +kernel))⟩
def f_X11_led_j115 (p1 : Int32) (p2 : Int32) (x21 : Int32) (x22 : Int32) (m23 : ea_M) : Option ((Int32 × Int32 × ea_M) ⊕ (Int32 × ea_M)) :=
  some (.inl (x21, x22 + 1, m23))
def f_X11_led_j112 (p1 : Int32) (p2 : Int32) (x24 : Int32) (x25 : Int32) (m26 : ea_M) : Option ((Int32 × Int32 × ea_M) ⊕ (Int32 × ea_M)) :=
  f_X11_led_j115 p1 p2 (x24 + 1) x25 m26
def f_X11_led_j88 (p1 : Int32) (p2 : Int32) (x27 : Int32) (x28 : Int32) (x29 : Int32) (x30 : Int32) (m31 : ea_M) : Option ((Int32 × Int32 × ea_M) ⊕ (Int32 × ea_M)) :=
  if x30 = 0 then
  f_X11_led_j115 p1 p2 x27 x28 m31
  else
  if x29 = 2 then
  f_X11_led_j112 p1 p2 x27 x28 m31
  else
  f_X11_led_j115 p1 p2 x27 x28 m31
def f_X11_led_j71 (p1 : Int32) (p2 : Int32) (x15 : Int32) (x16 : Int32) (x17 : Int32) (x18 : Int32) (x19 : Int32) (m20 : ea_M) : Option ((Int32 × Int32 × ea_M) ⊕ (Int32 × ea_M)) :=
  if p2 = 0 then
  if x18 = 0 then
  if x19 = 0 then
  f_X11_led_j115 p1 p2 x15 x16 m20
  else
  f_X11_led_j112 p1 p2 x15 x16 m20
  else
  f_X11_led_j112 p1 p2 x15 x16 m20
  else
  if x18 = 0 then
  f_X11_led_j88 p1 p2 x15 x16 x17 x19 m20
  else
  if x17 = 1 then
  f_X11_led_j112 p1 p2 x15 x16 m20
  else
  f_X11_led_j88 p1 p2 x15 x16 x17 x19 m20
def f_X11_led_j53 (p1 : Int32) (p2 : Int32) (x8 : Int32) (x9 : Int32) (x10 : Int32) (x11 : Int32) (m12 : ea_M) : Option ((Int32 × Int32 × ea_M) ⊕ (Int32 × ea_M)) :=
  ea_cl (f_X6_told 14 x9 3 m12) fun r14 m13 =>
  if r14 = p1 then
  f_X11_led_j71 p1 p2 x8 x9 x10 x11 1 m13
  else
  f_X11_led_j71 p1 p2 x8 x9 x10 x11 0 m13
def f_X11_led_s19 (p1 : Int32) (p2 : Int32)  (s19 : Int32 × Int32 × ea_M) : Option ((Int32 × Int32 × ea_M) ⊕ (Int32 × ea_M)) :=
  ea_bd (s19.2.2 14 0) fun x3 =>
  if x3 ≤ s19.2.1 then
  some (.inr (s19.1, s19.2.2))
  else
  ea_cl (f_X6_told 14 s19.2.1 4 s19.2.2) fun r5 m4 =>
  ea_cl (f_X6_told 14 s19.2.1 2 m4) fun r7 m6 =>
  if r7 = p1 then
  f_X11_led_j53 p1 p2 s19.1 s19.2.1 r5 1 m6
  else
  f_X11_led_j53 p1 p2 s19.1 s19.2.1 r5 0 m6
def f_X11_led (p1 : Int32) (p2 : Int32) (m : ea_M) : Option (ea_O) :=
  ea_cx (f_X11_needBird p1 m) (fun r2 m1 =>
  (ea_loop (f_X11_led_s19 p1 p2) ea_fuel (0, 0, m1)).bind (fun x19s =>
  some (0, x19s.1, x19s.2))) (fun kx mx => some (kx, 0, mx))
set_option maxHeartbeats 300000 in
theorem jn_X11_led_115 (G : ea_G) {res : ea_O}  (p1 : Int32) (p2 : Int32) (x21 : Int32) (x22 : Int32) (m23 : ea_M)  {Φ : ((Int32 × Int32 × ea_M) ⊕ (Int32 × ea_M)) → Prop} (hC : ∀ s19 : Int32 × Int32 × ea_M, Φ (.inl s19) → ea_Ev G F_X11_led res 19 [none, some (.int p1), some (.int p2), some (.ref 14), some (.int s19.1), some (.int s19.2.1), none, none, none] [] s19.2.2 1 6) (hX : ∀ x19s : Int32 × ea_M, Φ (.inr x19s) → ea_Ev G F_X11_led res 121 [none, none, none, none, some (.int x19s.1), none, none, none, none] [] x19s.2 1 6) : ea_E G F_X11_led res 115 [none, some (.int p1), some (.int p2), some (.ref 14), some (.int x21), some (.int x22), none, none, none] [] m23 1 6 (f_X11_led_j115 p1 p2 x21 x22 m23) Φ := by
  unfold f_X11_led_j115
  refine ev_iinc (ls' := [none, some (.int p1), some (.int p2), some (.ref 14), some (.int x21), some (.int (x22 + 1)), none, none, none]) (ea_at dt_X11_led 58 rfl) rfl (congrArg (fun z => _ + z) ic_1) (ea_lt rfl) rfl ?_
  refine ev_goto (tgt := 19) (ea_at dt_X11_led 59 rfl) rfl ?_
  exact ev_leaf (fun h => ea_drop (l' := [none, some (.int p1), some (.int p2), some (.ref 14), some (.int x21), some (.int (x22 + 1)), none, none, none]) ⟨Or.inl rfl, Or.inr rfl, Or.inr rfl, Or.inr rfl, Or.inr rfl, Or.inr rfl, Or.inl rfl, Or.inl rfl, Or.inl rfl, trivial⟩ (hC (x21, x22 + 1, m23) h))
set_option maxHeartbeats 300000 in
theorem jn_X11_led_112 (G : ea_G) {res : ea_O}  (p1 : Int32) (p2 : Int32) (x24 : Int32) (x25 : Int32) (m26 : ea_M)  {Φ : ((Int32 × Int32 × ea_M) ⊕ (Int32 × ea_M)) → Prop} (hC : ∀ s19 : Int32 × Int32 × ea_M, Φ (.inl s19) → ea_Ev G F_X11_led res 19 [none, some (.int p1), some (.int p2), some (.ref 14), some (.int s19.1), some (.int s19.2.1), none, none, none] [] s19.2.2 1 6) (hX : ∀ x19s : Int32 × ea_M, Φ (.inr x19s) → ea_Ev G F_X11_led res 121 [none, none, none, none, some (.int x19s.1), none, none, none, none] [] x19s.2 1 6) : ea_E G F_X11_led res 112 [none, some (.int p1), some (.int p2), some (.ref 14), some (.int x24), some (.int x25), none, none, none] [] m26 1 6 (f_X11_led_j112 p1 p2 x24 x25 m26) Φ := by
  unfold f_X11_led_j112
  refine ev_iinc (ls' := [none, some (.int p1), some (.int p2), some (.ref 14), some (.int (x24 + 1)), some (.int x25), none, none, none]) (ea_at dt_X11_led 57 rfl) rfl (congrArg (fun z => _ + z) ic_1) (ea_lt rfl) rfl ?_
  exact ev_drop (l' := [none, some (.int p1), some (.int p2), some (.ref 14), some (.int (x24 + 1)), some (.int x25), none, none, none]) ⟨Or.inl rfl, Or.inr rfl, Or.inr rfl, Or.inr rfl, Or.inr rfl, Or.inr rfl, Or.inl rfl, Or.inl rfl, Or.inl rfl, trivial⟩ (jn_X11_led_115 G p1 p2 (x24 + 1) x25 m26  hC hX)
set_option maxHeartbeats 300000 in
theorem jn_X11_led_88 (G : ea_G) {res : ea_O}  (p1 : Int32) (p2 : Int32) (x27 : Int32) (x28 : Int32) (x29 : Int32) (x30 : Int32) (m31 : ea_M)  {Φ : ((Int32 × Int32 × ea_M) ⊕ (Int32 × ea_M)) → Prop} (hC : ∀ s19 : Int32 × Int32 × ea_M, Φ (.inl s19) → ea_Ev G F_X11_led res 19 [none, some (.int p1), some (.int p2), some (.ref 14), some (.int s19.1), some (.int s19.2.1), none, none, none] [] s19.2.2 1 6) (hX : ∀ x19s : Int32 × ea_M, Φ (.inr x19s) → ea_Ev G F_X11_led res 121 [none, none, none, none, some (.int x19s.1), none, none, none, none] [] x19s.2 1 6) : ea_E G F_X11_led res 88 [none, some (.int p1), some (.int p2), some (.ref 14), some (.int x27), some (.int x28), some (.int x29), none, some (.int x30)] [] m31 1 6 (f_X11_led_j88 p1 p2 x27 x28 x29 x30 m31) Φ := by
  unfold f_X11_led_j88
  refine ev_iload (ea_at dt_X11_led 47 rfl) rfl ?_
  refine ev_if_eq (tgt := 115) (ea_at dt_X11_led 48 rfl) rfl (fun _ => ?_) (fun _ => ?_)
  · exact ev_drop (l' := [none, some (.int p1), some (.int p2), some (.ref 14), some (.int x27), some (.int x28), none, none, none]) ⟨Or.inl rfl, Or.inr rfl, Or.inr rfl, Or.inr rfl, Or.inr rfl, Or.inr rfl, Or.inl rfl, Or.inl rfl, Or.inl rfl, trivial⟩ (jn_X11_led_115 G p1 p2 x27 x28 m31  hC hX)
  · refine ev_iload (ea_at dt_X11_led 49 rfl) rfl ?_
    refine ev_iconst (ea_at dt_X11_led 50 rfl) ic_2 ?_
    refine ev_icmp_ne (tgt := 115) (ea_at dt_X11_led 51 rfl) rfl (fun _ => ?_) (fun _ => ?_)
    · refine ev_goto (tgt := 112) (ea_at dt_X11_led 52 rfl) rfl ?_
      exact ev_drop (l' := [none, some (.int p1), some (.int p2), some (.ref 14), some (.int x27), some (.int x28), none, none, none]) ⟨Or.inl rfl, Or.inr rfl, Or.inr rfl, Or.inr rfl, Or.inr rfl, Or.inr rfl, Or.inl rfl, Or.inl rfl, Or.inl rfl, trivial⟩ (jn_X11_led_112 G p1 p2 x27 x28 m31  hC hX)
    · exact ev_drop (l' := [none, some (.int p1), some (.int p2), some (.ref 14), some (.int x27), some (.int x28), none, none, none]) ⟨Or.inl rfl, Or.inr rfl, Or.inr rfl, Or.inr rfl, Or.inr rfl, Or.inr rfl, Or.inl rfl, Or.inl rfl, Or.inl rfl, trivial⟩ (jn_X11_led_115 G p1 p2 x27 x28 m31  hC hX)
set_option maxHeartbeats 300000 in
theorem jn_X11_led_71 (G : ea_G) {res : ea_O}  (p1 : Int32) (p2 : Int32) (x15 : Int32) (x16 : Int32) (x17 : Int32) (x18 : Int32) (x19 : Int32) (m20 : ea_M)  {Φ : ((Int32 × Int32 × ea_M) ⊕ (Int32 × ea_M)) → Prop} (hC : ∀ s19 : Int32 × Int32 × ea_M, Φ (.inl s19) → ea_Ev G F_X11_led res 19 [none, some (.int p1), some (.int p2), some (.ref 14), some (.int s19.1), some (.int s19.2.1), none, none, none] [] s19.2.2 1 6) (hX : ∀ x19s : Int32 × ea_M, Φ (.inr x19s) → ea_Ev G F_X11_led res 121 [none, none, none, none, some (.int x19s.1), none, none, none, none] [] x19s.2 1 6) : ea_E G F_X11_led res 71 [none, some (.int p1), some (.int p2), some (.ref 14), some (.int x15), some (.int x16), some (.int x17), some (.int x18), none] [.int x19] m20 1 6 (f_X11_led_j71 p1 p2 x15 x16 x17 x18 x19 m20) Φ := by
  unfold f_X11_led_j71
  refine ev_istore (ls' := [none, some (.int p1), some (.int p2), some (.ref 14), some (.int x15), some (.int x16), some (.int x17), some (.int x18), some (.int x19)]) (ea_at dt_X11_led 39 rfl) (ea_lt rfl) rfl ?_
  refine ev_iload_n (ea_at dt_X11_led 40 rfl) rfl ?_
  refine ev_if_eq (tgt := 102) (ea_at dt_X11_led 41 rfl) rfl (fun _ => ?_) (fun _ => ?_)
  · refine ev_iload (ea_at dt_X11_led 53 rfl) rfl ?_
    refine ev_if_ne (tgt := 112) (ea_at dt_X11_led 54 rfl) rfl (fun _ => ?_) (fun _ => ?_)
    · refine ev_iload (ea_at dt_X11_led 55 rfl) rfl ?_
      refine ev_if_eq (tgt := 115) (ea_at dt_X11_led 56 rfl) rfl (fun _ => ?_) (fun _ => ?_)
      · exact ev_drop (l' := [none, some (.int p1), some (.int p2), some (.ref 14), some (.int x15), some (.int x16), none, none, none]) ⟨Or.inl rfl, Or.inr rfl, Or.inr rfl, Or.inr rfl, Or.inr rfl, Or.inr rfl, Or.inl rfl, Or.inl rfl, Or.inl rfl, trivial⟩ (jn_X11_led_115 G p1 p2 x15 x16 m20  hC hX)
      · exact ev_drop (l' := [none, some (.int p1), some (.int p2), some (.ref 14), some (.int x15), some (.int x16), none, none, none]) ⟨Or.inl rfl, Or.inr rfl, Or.inr rfl, Or.inr rfl, Or.inr rfl, Or.inr rfl, Or.inl rfl, Or.inl rfl, Or.inl rfl, trivial⟩ (jn_X11_led_112 G p1 p2 x15 x16 m20  hC hX)
    · exact ev_drop (l' := [none, some (.int p1), some (.int p2), some (.ref 14), some (.int x15), some (.int x16), none, none, none]) ⟨Or.inl rfl, Or.inr rfl, Or.inr rfl, Or.inr rfl, Or.inr rfl, Or.inr rfl, Or.inl rfl, Or.inl rfl, Or.inl rfl, trivial⟩ (jn_X11_led_112 G p1 p2 x15 x16 m20  hC hX)
  · refine ev_iload (ea_at dt_X11_led 42 rfl) rfl ?_
    refine ev_if_eq (tgt := 88) (ea_at dt_X11_led 43 rfl) rfl (fun _ => ?_) (fun _ => ?_)
    · exact ev_drop (l' := [none, some (.int p1), some (.int p2), some (.ref 14), some (.int x15), some (.int x16), some (.int x17), none, some (.int x19)]) ⟨Or.inl rfl, Or.inr rfl, Or.inr rfl, Or.inr rfl, Or.inr rfl, Or.inr rfl, Or.inr rfl, Or.inl rfl, Or.inr rfl, trivial⟩ (jn_X11_led_88 G p1 p2 x15 x16 x17 x19 m20  hC hX)
    · refine ev_iload (ea_at dt_X11_led 44 rfl) rfl ?_
      refine ev_iconst (ea_at dt_X11_led 45 rfl) ic_1 ?_
      refine ev_icmp_eq (tgt := 112) (ea_at dt_X11_led 46 rfl) rfl (fun _ => ?_) (fun _ => ?_)
      · exact ev_drop (l' := [none, some (.int p1), some (.int p2), some (.ref 14), some (.int x15), some (.int x16), none, none, none]) ⟨Or.inl rfl, Or.inr rfl, Or.inr rfl, Or.inr rfl, Or.inr rfl, Or.inr rfl, Or.inl rfl, Or.inl rfl, Or.inl rfl, trivial⟩ (jn_X11_led_112 G p1 p2 x15 x16 m20  hC hX)
      · exact ev_drop (l' := [none, some (.int p1), some (.int p2), some (.ref 14), some (.int x15), some (.int x16), some (.int x17), none, some (.int x19)]) ⟨Or.inl rfl, Or.inr rfl, Or.inr rfl, Or.inr rfl, Or.inr rfl, Or.inr rfl, Or.inr rfl, Or.inl rfl, Or.inr rfl, trivial⟩ (jn_X11_led_88 G p1 p2 x15 x16 x17 x19 m20  hC hX)
set_option maxHeartbeats 300000 in
theorem jn_X11_led_53 (G : ea_G) {res : ea_O}  (p1 : Int32) (p2 : Int32) (x8 : Int32) (x9 : Int32) (x10 : Int32) (x11 : Int32) (m12 : ea_M)  {Φ : ((Int32 × Int32 × ea_M) ⊕ (Int32 × ea_M)) → Prop} (hC : ∀ s19 : Int32 × Int32 × ea_M, Φ (.inl s19) → ea_Ev G F_X11_led res 19 [none, some (.int p1), some (.int p2), some (.ref 14), some (.int s19.1), some (.int s19.2.1), none, none, none] [] s19.2.2 1 6) (hX : ∀ x19s : Int32 × ea_M, Φ (.inr x19s) → ea_Ev G F_X11_led res 121 [none, none, none, none, some (.int x19s.1), none, none, none, none] [] x19s.2 1 6) : ea_E G F_X11_led res 53 [none, some (.int p1), some (.int p2), some (.ref 14), some (.int x8), some (.int x9), some (.int x10), none, none] [.int x11] m12 1 6 (f_X11_led_j53 p1 p2 x8 x9 x10 x11 m12) Φ := by
  unfold f_X11_led_j53
  refine ev_istore (ls' := [none, some (.int p1), some (.int p2), some (.ref 14), some (.int x8), some (.int x9), some (.int x10), some (.int x11), none]) (ea_at dt_X11_led 29 rfl) (ea_lt rfl) rfl ?_
  refine ev_aload_n (ea_at dt_X11_led 30 rfl) rfl ?_
  refine ev_iload (ea_at dt_X11_led 31 rfl) rfl ?_
  refine ev_iconst (ea_at dt_X11_led 32 rfl) ic_3 ?_
  refine ev_clI (F1 := F_X6_told) (fun rY mY hY => ea_runV (As := [.int x9, .int 3]) (ea_at dt_X11_led 33 rfl) ml_X11_430 mv_X6_told (ok_X6_told G 14 x9 3 m12 is_Journal_14 rY mY hY) sh_14 rfl rfl rfl (Nat.le_of_ble_eq_true rfl) rfl) rfl (fun r14 m13 => ?_)
  refine ev_iload_n (ea_at dt_X11_led 34 rfl) rfl ?_
  refine ev_icmp_ne (tgt := 70) (ea_at dt_X11_led 35 rfl) rfl (fun _ => ?_) (fun _ => ?_)
  · refine ev_iconst (ea_at dt_X11_led 36 rfl) ic_1 ?_
    refine ev_goto (tgt := 71) (ea_at dt_X11_led 37 rfl) rfl ?_
    exact ev_drop (l' := [none, some (.int p1), some (.int p2), some (.ref 14), some (.int x8), some (.int x9), some (.int x10), some (.int x11), none]) ⟨Or.inl rfl, Or.inr rfl, Or.inr rfl, Or.inr rfl, Or.inr rfl, Or.inr rfl, Or.inr rfl, Or.inr rfl, Or.inl rfl, trivial⟩ (jn_X11_led_71 G p1 p2 x8 x9 x10 x11 1 m13  hC hX)
  · refine ev_iconst (ea_at dt_X11_led 38 rfl) ic_0 ?_
    exact ev_drop (l' := [none, some (.int p1), some (.int p2), some (.ref 14), some (.int x8), some (.int x9), some (.int x10), some (.int x11), none]) ⟨Or.inl rfl, Or.inr rfl, Or.inr rfl, Or.inr rfl, Or.inr rfl, Or.inr rfl, Or.inr rfl, Or.inr rfl, Or.inl rfl, trivial⟩ (jn_X11_led_71 G p1 p2 x8 x9 x10 x11 0 m13  hC hX)
set_option maxHeartbeats 300000 in
theorem lp_X11_led_19 (G : ea_G) {res : ea_O}  (p1 : Int32) (p2 : Int32)  {Ψ : (Int32 × ea_M) → Prop} (hX : ∀ x19s : Int32 × ea_M, Ψ x19s → ea_Ev G F_X11_led res 121 [none, none, none, none, some (.int x19s.1), none, none, none, none] [] x19s.2 1 6) : ∀ (f : Nat) (s19 : Int32 × Int32 × ea_M), ea_E G F_X11_led res 19 [none, some (.int p1), some (.int p2), some (.ref 14), some (.int s19.1), some (.int s19.2.1), none, none, none] [] s19.2.2 1 6 (ea_loop (f_X11_led_s19 p1 p2) f s19) Ψ := by
  refine ev_loop (G := G) (F := F_X11_led) (res := res) (pc := 19) (st := []) (k := 1) (n := 6) (step := (f_X11_led_s19 p1 p2)) (Ψ := Ψ) (fun (s19 : Int32 × Int32 × ea_M) => [none, some (.int p1), some (.int p2), some (.ref 14), some (.int s19.1), some (.int s19.2.1), none, none, none]) (fun (s19 : Int32 × Int32 × ea_M) => s19.2.2) (fun s19 => ?_)
  have hC : ∀ s19 : Int32 × Int32 × ea_M, (Sum.elim (fun s19 : Int32 × Int32 × ea_M => ea_Ev G F_X11_led res 19 [none, some (.int p1), some (.int p2), some (.ref 14), some (.int s19.1), some (.int s19.2.1), none, none, none] [] s19.2.2 1 6) Ψ) (.inl s19) → ea_Ev G F_X11_led res 19 [none, some (.int p1), some (.int p2), some (.ref 14), some (.int s19.1), some (.int s19.2.1), none, none, none] [] s19.2.2 1 6 := fun _ h => h
  have hX : ∀ x19s : Int32 × ea_M, (Sum.elim (fun s19 : Int32 × Int32 × ea_M => ea_Ev G F_X11_led res 19 [none, some (.int p1), some (.int p2), some (.ref 14), some (.int s19.1), some (.int s19.2.1), none, none, none] [] s19.2.2 1 6) Ψ) (.inr x19s) → ea_Ev G F_X11_led res 121 [none, none, none, none, some (.int x19s.1), none, none, none, none] [] x19s.2 1 6 := hX
  unfold f_X11_led_s19
  refine ev_iload (ea_at dt_X11_led 11 rfl) rfl ?_
  refine ev_aload_n (ea_at dt_X11_led 12 rfl) rfl ?_
  refine ev_getI (ea_at dt_X11_led 13 rfl) fl_X11_271 sh_14 rfl ?_
  refine ev_i (fun x3 => ?_)
  refine ev_icmp_ge (tgt := 121) (ea_at dt_X11_led 14 rfl) rfl (fun _ => ?_) (fun _ => ?_)
  · exact ev_leaf (fun h => ea_drop (l' := [none, none, none, none, some (.int s19.1), none, none, none, none]) ⟨Or.inl rfl, Or.inl rfl, Or.inl rfl, Or.inl rfl, Or.inr rfl, Or.inl rfl, Or.inl rfl, Or.inl rfl, Or.inl rfl, trivial⟩ (hX (s19.1, s19.2.2) h))
  · refine ev_aload_n (ea_at dt_X11_led 15 rfl) rfl ?_
    refine ev_iload (ea_at dt_X11_led 16 rfl) rfl ?_
    refine ev_iconst (ea_at dt_X11_led 17 rfl) ic_4 ?_
    refine ev_clI (F1 := F_X6_told) (fun rY mY hY => ea_runV (As := [.int s19.2.1, .int 4]) (ea_at dt_X11_led 18 rfl) ml_X11_430 mv_X6_told (ok_X6_told G 14 s19.2.1 4 s19.2.2 is_Journal_14 rY mY hY) sh_14 rfl rfl rfl (Nat.le_of_ble_eq_true rfl) rfl) rfl (fun r5 m4 => ?_)
    refine ev_istore (ls' := [none, some (.int p1), some (.int p2), some (.ref 14), some (.int s19.1), some (.int s19.2.1), some (.int r5), none, none]) (ea_at dt_X11_led 19 rfl) (ea_lt rfl) rfl ?_
    refine ev_aload_n (ea_at dt_X11_led 20 rfl) rfl ?_
    refine ev_iload (ea_at dt_X11_led 21 rfl) rfl ?_
    refine ev_iconst (ea_at dt_X11_led 22 rfl) ic_2 ?_
    refine ev_clI (F1 := F_X6_told) (fun rY mY hY => ea_runV (As := [.int s19.2.1, .int 2]) (ea_at dt_X11_led 23 rfl) ml_X11_430 mv_X6_told (ok_X6_told G 14 s19.2.1 2 m4 is_Journal_14 rY mY hY) sh_14 rfl rfl rfl (Nat.le_of_ble_eq_true rfl) rfl) rfl (fun r7 m6 => ?_)
    refine ev_iload_n (ea_at dt_X11_led 24 rfl) rfl ?_
    refine ev_icmp_ne (tgt := 52) (ea_at dt_X11_led 25 rfl) rfl (fun _ => ?_) (fun _ => ?_)
    · refine ev_iconst (ea_at dt_X11_led 26 rfl) ic_1 ?_
      refine ev_goto (tgt := 53) (ea_at dt_X11_led 27 rfl) rfl ?_
      exact ev_drop (l' := [none, some (.int p1), some (.int p2), some (.ref 14), some (.int s19.1), some (.int s19.2.1), some (.int r5), none, none]) ⟨Or.inl rfl, Or.inr rfl, Or.inr rfl, Or.inr rfl, Or.inr rfl, Or.inr rfl, Or.inr rfl, Or.inl rfl, Or.inl rfl, trivial⟩ (jn_X11_led_53 G p1 p2 s19.1 s19.2.1 r5 1 m6  hC hX)
    · refine ev_iconst (ea_at dt_X11_led 28 rfl) ic_0 ?_
      exact ev_drop (l' := [none, some (.int p1), some (.int p2), some (.ref 14), some (.int s19.1), some (.int s19.2.1), some (.int r5), none, none]) ⟨Or.inl rfl, Or.inr rfl, Or.inr rfl, Or.inr rfl, Or.inr rfl, Or.inr rfl, Or.inr rfl, Or.inl rfl, Or.inl rfl, trivial⟩ (jn_X11_led_53 G p1 p2 s19.1 s19.2.1 r5 0 m6  hC hX)
set_option maxHeartbeats 300000 in
theorem ok_X11_led (G : ea_G) (p1 : Int32) (p2 : Int32) (m : ea_M)  (zZ : ea_O) (hZ : f_X11_led p1 p2 m = some zZ) : ea_Met G yX11_led F_X11_led [.ref 0, .int p1, .int p2] m zZ := by
  refine ea_met (F := F_X11_led) (by decide +kernel) rfl rfl (Nat.le_of_ble_eq_true rfl) (by simp only [List.mem_cons, List.not_mem_nil, or_false]; intro v hv; rcases hv with rfl | rfl | rfl <;> rfl) ((?_ : ea_E G F_X11_led zZ 0 [some (.ref 0), some (.int p1), some (.int p2), none, none, none, none, none, none] [] m 0 0 (f_X11_led p1 p2 m) (fun t => t = zZ)) zZ hZ rfl)
  have hR : ∀ t : ea_O, t = zZ → zZ = t := fun t h => h.symm
  unfold f_X11_led
  refine ev_aload_n (ea_at dt_X11_led 0 rfl) rfl ?_
  refine ev_iload_n (ea_at dt_X11_led 1 rfl) rfl ?_
  refine ev_cxU (F1 := F_X11_needBird) rfl (fun zY hY => ea_runV (As := [.int p1]) (ea_at dt_X11_led 2 rfl) ml_X11_157 mv_X11_needBird (ok_X11_needBird G p1 m  zY hY) sh_0 rfl rfl rfl (Nat.le_of_ble_eq_true rfl) rfl) rfl ⟨by decide, by decide⟩ (fun kx mx t e q => ⟨0, by cases e; exact hR _ q⟩) (fun r2 m1 => ?_)
  refine ev_aload_n (ea_at dt_X11_led 3 rfl) rfl ?_
  refine ev_getR (ea_at dt_X11_led 4 rfl) fl_X11_23 sh_0 rfl ?_
  refine ev_getR (ea_at dt_X11_led 5 rfl) fl_X11_267 sh_2 rfl ?_
  refine ev_astore_n (ls' := [some (.ref 0), some (.int p1), some (.int p2), some (.ref 14), none, none, none, none, none]) (ea_at dt_X11_led 6 rfl) (ea_lt rfl) rfl ?_
  refine ev_iconst (ea_at dt_X11_led 7 rfl) ic_0 ?_
  refine ev_istore (ls' := [some (.ref 0), some (.int p1), some (.int p2), some (.ref 14), some (.int 0), none, none, none, none]) (ea_at dt_X11_led 8 rfl) (ea_lt rfl) rfl ?_
  refine ev_iconst (ea_at dt_X11_led 9 rfl) ic_0 ?_
  refine ev_istore (ls' := [some (.ref 0), some (.int p1), some (.int p2), some (.ref 14), some (.int 0), some (.int 0), none, none, none]) (ea_at dt_X11_led 10 rfl) (ea_lt rfl) rfl ?_
  refine ev_drop (l' := [none, some (.int p1), some (.int p2), some (.ref 14), some (.int 0), some (.int 0), none, none, none]) ⟨Or.inl rfl, Or.inr rfl, Or.inr rfl, Or.inr rfl, Or.inr rfl, Or.inr rfl, Or.inl rfl, Or.inl rfl, Or.inl rfl, trivial⟩ ?_
  refine ev_bind (lp_X11_led_19 G p1 p2   (fun x19s h => ?_) ea_fuel (0, 0, m1))
  obtain ⟨t1, e1, q1⟩ := h
  refine (?_ : ea_E G F_X11_led zZ 121 [none, none, none, none, some (.int x19s.1), none, none, none, none] [] x19s.2 1 6 _ (fun t => t = zZ)) t1 e1 q1
  refine ev_iload (ea_at dt_X11_led 60 rfl) rfl ?_
  exact ev_iret (ea_at dt_X11_led 61 rfl) rfl ⟨by decide, by decide⟩ (fun h => hR _ h)
def F_X11_log : ea_F := (ea_rm 9 1 6, cX11_log, RX11, some .int, 3, [], 1, 6)
def D_X11_log : List (Nat × Instr × Nat) := [(0, .iload_n 2, 1), (1, .ifCond .lt 9, 3), (4, .iload_n 2, 1), (5, .bipush 6, 2), (7, .if_icmp .lt 13, 3), (10, .new 172, 3), (13, .dup, 1), (14, .ldc 174, 2), (16, .invokespecial 176, 3), (19, .athrow, 1), (20, .aload_n 0, 1), (21, .getfield 23, 3), (24, .getfield 267, 3), (27, .iload_n 1, 1), (28, .iload_n 2, 1), (29, .invokevirtual 430, 3), (32, .ireturn, 1)]
theorem dt_X11_log : ∀ q ∈ D_X11_log, decode cX11_log q.1 = .ok q.2 := by decide +kernel
theorem mv_X11_log : ea_MV yX11_log (F_X11_log) 2 := ⟨⟨List.mem_append_right _ (List.mem_of_getElem? (i := 1) (by decide +kernel)), List.mem_append_right _ (List.mem_of_getElem? (i := 1395) (by decide +kernel)), ⟨by decide, by decide⟩, by decide +kernel⟩, List.mem_append_right _ (List.mem_of_getElem? (i := 1393) (by decide +kernel)), List.mem_append_right _ (List.mem_of_getElem? (i := 1394) (by decide +kernel))⟩
def f_X11_log (p1 : Int32) (p2 : Int32) (m : ea_M) : Option (ea_O) :=
  if p2 < 0 then
  some (4, 0, m)
  else
  if p2 < 6 then
  ea_cl (f_X6_told 14 p1 p2 m) fun r2 m1 =>
  some (0, r2, m1)
  else
  some (4, 0, m)
set_option maxHeartbeats 300000 in
theorem ok_X11_log (G : ea_G) (p1 : Int32) (p2 : Int32) (m : ea_M)  (zZ : ea_O) (hZ : f_X11_log p1 p2 m = some zZ) : ea_Met G yX11_log F_X11_log [.ref 0, .int p1, .int p2] m zZ := by
  refine ea_met (F := F_X11_log) (by decide +kernel) rfl rfl (Nat.le_of_ble_eq_true rfl) (by simp only [List.mem_cons, List.not_mem_nil, or_false]; intro v hv; rcases hv with rfl | rfl | rfl <;> rfl) ((?_ : ea_E G F_X11_log zZ 0 [some (.ref 0), some (.int p1), some (.int p2)] [] m 0 0 (f_X11_log p1 p2 m) (fun t => t = zZ)) zZ hZ rfl)
  have hR : ∀ t : ea_O, t = zZ → zZ = t := fun t h => h.symm
  unfold f_X11_log
  refine ev_iload_n (ea_at dt_X11_log 0 rfl) rfl ?_
  refine ev_if_lt (tgt := 10) (ea_at dt_X11_log 1 rfl) rfl (fun _ => ?_) (fun _ => ?_)
  · exact ev_throwN (kx := 4) (j := 35) (ea_at dt_X11_log 5 rfl) (ea_at dt_X11_log 6 rfl) (ea_at dt_X11_log 7 rfl) (ea_at dt_X11_log 8 rfl) (ea_at dt_X11_log 9 rfl) rfl (by decide) rfl cl_X11_172 ini_4 ml_X11_176 rfl ⟨by decide, by decide, by decide, by decide, by decide, by decide⟩ (fun h => ⟨0, hR _ h⟩)
  · refine ev_iload_n (ea_at dt_X11_log 2 rfl) rfl ?_
    refine ev_bipush (ea_at dt_X11_log 3 rfl) bp_6 ?_
    refine ev_icmp_lt (tgt := 20) (ea_at dt_X11_log 4 rfl) rfl (fun _ => ?_) (fun _ => ?_)
    · refine ev_aload_n (ea_at dt_X11_log 10 rfl) rfl ?_
      refine ev_getR (ea_at dt_X11_log 11 rfl) fl_X11_23 sh_0 rfl ?_
      refine ev_getR (ea_at dt_X11_log 12 rfl) fl_X11_267 sh_2 rfl ?_
      refine ev_iload_n (ea_at dt_X11_log 13 rfl) rfl ?_
      refine ev_iload_n (ea_at dt_X11_log 14 rfl) rfl ?_
      refine ev_clI (F1 := F_X6_told) (fun rY mY hY => ea_runV (As := [.int p1, .int p2]) (ea_at dt_X11_log 15 rfl) ml_X11_430 mv_X6_told (ok_X6_told G 14 p1 p2 m is_Journal_14 rY mY hY) sh_14 rfl rfl rfl (Nat.le_of_ble_eq_true rfl) rfl) rfl (fun r2 m1 => ?_)
      exact ev_iret (ea_at dt_X11_log 16 rfl) rfl ⟨by decide, by decide⟩ (fun h => hR _ h)
    · exact ev_throwN (kx := 4) (j := 35) (ea_at dt_X11_log 5 rfl) (ea_at dt_X11_log 6 rfl) (ea_at dt_X11_log 7 rfl) (ea_at dt_X11_log 8 rfl) (ea_at dt_X11_log 9 rfl) rfl (by decide) rfl cl_X11_172 ini_4 ml_X11_176 rfl ⟨by decide, by decide, by decide, by decide, by decide, by decide⟩ (fun h => ⟨0, hR _ h⟩)
def F_X11_undo : ea_F := (ea_rm 10 0 0, cX11_undo, RX11, some .boolean, 1, [], 0, 0)
def D_X11_undo : List (Nat × Instr × Nat) := [(0, .aload_n 0, 1), (1, .getfield 72, 3), (4, .ifCond .gt 5, 3), (7, .iconst 0, 1), (8, .ireturn, 1), (9, .aload_n 0, 1), (10, .dup, 1), (11, .getfield 72, 3), (14, .iconst 1, 1), (15, .isub, 1), (16, .putfield 72, 3), (19, .aload_n 0, 1), (20, .aload_n 0, 1), (21, .getfield 75, 3), (24, .bipush 12, 2), (26, .iadd, 1), (27, .iconst 1, 1), (28, .isub, 1), (29, .bipush 12, 2), (31, .irem, 1), (32, .putfield 75, 3), (35, .aload_n 0, 1), (36, .getfield 23, 3), (39, .aload_n 0, 1), (40, .getfield 68, 3), (43, .aload_n 0, 1), (44, .getfield 75, 3), (47, .aaload, 1), (48, .invokevirtual 121, 3), (51, .aload_n 0, 1), (52, .invokevirtual 147, 3), (55, .iconst 1, 1), (56, .ireturn, 1)]
theorem dt_X11_undo : ∀ q ∈ D_X11_undo, decode cX11_undo q.1 = .ok q.2 := by decide +kernel
theorem mv_X11_undo : ea_MV yX11_undo (F_X11_undo) 0 := ⟨⟨List.mem_append_right _ (List.mem_of_getElem? (i := 1) (by decide +kernel)), List.mem_append_right _ (List.mem_of_getElem? (i := 597) (by decide +kernel)), ⟨by decide, by decide⟩, by decide +kernel⟩, List.mem_append_right _ (List.mem_of_getElem? (i := 595) (by decide +kernel)), List.mem_append_right _ (List.mem_of_getElem? (i := 596) (by decide +kernel))⟩
def f_X11_undo (m : ea_M) : Option (Int32 × ea_M) :=
  ea_bd (m 0 13) fun x1 =>
  if 0 < x1 then
  ea_bd (m 0 13) fun x2 =>
  ea_bd (ea_st m 0 13 (x2 - 1)) fun m3 =>
  ea_bd (m3 0 14) fun x4 =>
  ea_bd ((x4 + 12) - 1) fun x5 =>
  ea_bd (x5 - x5 / 12 * 12) fun x6 =>
  ea_bd (ea_st m3 0 14 x6) fun m7 =>
  ea_bd (m7 0 14) fun x8 =>
  ea_g x8 12 (ea_bd (ea_rCourt.getD (Int32.toNatClampNeg x8) 0) fun a9 =>
  ea_cl (f_X2_copyFrom 2 a9 m7) fun r11 m10 =>
  ea_cl (f_X11_forgetFates m10) fun r13 m12 =>
  some (1, m12))
  else
  some (0, m)
set_option maxHeartbeats 300000 in
theorem ok_X11_undo (G : ea_G) (m : ea_M)  (rZ : Int32) (mZ : ea_M) (hZ : f_X11_undo m = some (rZ, mZ)) : ea_Met G yX11_undo F_X11_undo [.ref 0] m (0, rZ, mZ) := by
  refine ea_met (F := F_X11_undo) (by decide +kernel) rfl rfl (Nat.le_of_ble_eq_true rfl) (by simp only [List.mem_cons, List.not_mem_nil, or_false]; intro v hv; rcases hv with rfl <;> rfl) ((?_ : ea_E G F_X11_undo (0, rZ, mZ) 0 [some (.ref 0)] [] m 0 0 (f_X11_undo m) (fun t => t = (rZ, mZ))) (rZ, mZ) hZ rfl)
  have hR : ∀ t : Int32 × ea_M, t = (rZ, mZ) → ((0, rZ, mZ) : ea_O) = (0, t) := fun t h => by rw [h]
  unfold f_X11_undo
  refine ev_aload_n (ea_at dt_X11_undo 0 rfl) rfl ?_
  refine ev_getI (ea_at dt_X11_undo 1 rfl) fl_X11_72 sh_0 rfl ?_
  refine ev_i (fun x1 => ?_)
  refine ev_if_gt (tgt := 9) (ea_at dt_X11_undo 2 rfl) rfl (fun _ => ?_) (fun _ => ?_)
  · refine ev_aload_n (ea_at dt_X11_undo 5 rfl) rfl ?_
    refine ev_dup (ea_at dt_X11_undo 6 rfl) rfl ?_
    refine ev_getI (ea_at dt_X11_undo 7 rfl) fl_X11_72 sh_0 rfl ?_
    refine ev_i (fun x2 => ?_)
    refine ev_iconst (ea_at dt_X11_undo 8 rfl) ic_1 ?_
    refine ev_isub (ea_at dt_X11_undo 9 rfl) ?_
    refine ev_putI (ea_at dt_X11_undo 10 rfl) fl_X11_72 fp_11_13 sh_0 rfl ?_
    refine ev_m (fun m3 => ?_)
    refine ev_aload_n (ea_at dt_X11_undo 11 rfl) rfl ?_
    refine ev_aload_n (ea_at dt_X11_undo 12 rfl) rfl ?_
    refine ev_getI (ea_at dt_X11_undo 13 rfl) fl_X11_75 sh_0 rfl ?_
    refine ev_i (fun x4 => ?_)
    refine ev_bipush (ea_at dt_X11_undo 14 rfl) bp_12 ?_
    refine ev_iadd (ea_at dt_X11_undo 15 rfl) ?_
    refine ev_iconst (ea_at dt_X11_undo 16 rfl) ic_1 ?_
    refine ev_isub (ea_at dt_X11_undo 17 rfl) ?_
    refine ev_i (fun x5 => ?_)
    refine ev_bipush (ea_at dt_X11_undo 18 rfl) bp_12 ?_
    refine ev_irem (ea_at dt_X11_undo 19 rfl) (by decide) ?_
    refine ev_i (fun x6 => ?_)
    refine ev_putI (ea_at dt_X11_undo 20 rfl) fl_X11_75 fp_11_14 sh_0 rfl ?_
    refine ev_m (fun m7 => ?_)
    refine ev_aload_n (ea_at dt_X11_undo 21 rfl) rfl ?_
    refine ev_getR (ea_at dt_X11_undo 22 rfl) fl_X11_23 sh_0 rfl ?_
    refine ev_aload_n (ea_at dt_X11_undo 23 rfl) rfl ?_
    refine ev_getR (ea_at dt_X11_undo 24 rfl) fl_X11_68 sh_0 rfl ?_
    refine ev_aload_n (ea_at dt_X11_undo 25 rfl) rfl ?_
    refine ev_getI (ea_at dt_X11_undo 26 rfl) fl_X11_75 sh_0 rfl ?_
    refine ev_i (fun x8 => ?_)
    refine ev_aaloadP (rs := ea_rCourt) (P := ea_isCourt) ea_rCourt_is (ea_at dt_X11_undo 27 rfl) sh_72 rfl (fun a9 ha9 => ?_)
    refine ev_clU (F1 := F_X2_copyFrom) (fun rY mY hY => ea_runV (As := [.ref a9]) (ea_at dt_X11_undo 28 rfl) ml_X11_121 mv_X2_copyFrom (ok_X2_copyFrom G 2 a9 m7 is_Court_2 ha9 rY mY hY) sh_2 rfl rfl rfl (Nat.le_of_ble_eq_true rfl) rfl) rfl (fun r11 m10 => ?_)
    refine ev_aload_n (ea_at dt_X11_undo 29 rfl) rfl ?_
    refine ev_clU (F1 := F_X11_forgetFates) (fun rY mY hY => ea_runV (As := []) (ea_at dt_X11_undo 30 rfl) ml_X11_147 mv_X11_forgetFates (ok_X11_forgetFates G m10  rY mY hY) sh_0 rfl rfl rfl (Nat.le_of_ble_eq_true rfl) rfl) rfl (fun r13 m12 => ?_)
    refine ev_iconst (ea_at dt_X11_undo 31 rfl) ic_1 ?_
    exact ev_zret (by decide) (ea_at dt_X11_undo 32 rfl) rfl ⟨by decide, by decide⟩ (fun h => hR _ h)
  · refine ev_iconst (ea_at dt_X11_undo 3 rfl) ic_0 ?_
    exact ev_zret (by decide) (ea_at dt_X11_undo 4 rfl) rfl ⟨by decide, by decide⟩ (fun h => hR _ h)
def F_X11_image : ea_F := (ea_rm 10 0 0, cX11_image, RX11, none, 1, [], 0, 0)
def D_X11_image : List (Nat × Instr × Nat) := [(0, .aload_n 0, 1), (1, .getfield 62, 3), (4, .aload_n 0, 1), (5, .getfield 23, 3), (8, .invokevirtual 121, 3), (11, .aload_n 0, 1), (12, .getfield 65, 3), (15, .aload_n 0, 1), (16, .getfield 30, 3), (19, .invokevirtual 151, 3), (22, .aload_n 0, 1), (23, .iconst 1, 1), (24, .putfield 58, 3), (27, .return_, 1)]
theorem dt_X11_image : ∀ q ∈ D_X11_image, decode cX11_image q.1 = .ok q.2 := by decide +kernel
theorem mv_X11_image : ea_MV yX11_image (F_X11_image) 0 := ⟨⟨List.mem_append_right _ (List.mem_of_getElem? (i := 1) (by decide +kernel)), List.mem_append_right _ (List.mem_of_getElem? (i := 620) (by decide +kernel)), ⟨by decide, by decide⟩, by decide +kernel⟩, List.mem_append_right _ (List.mem_of_getElem? (i := 618) (by decide +kernel)), List.mem_append_right _ (List.mem_of_getElem? (i := 619) (by decide +kernel))⟩
def f_X11_image (m : ea_M) : Option (Int32 × ea_M) :=
  ea_cl (f_X2_copyFrom 50 2 m) fun r2 m1 =>
  ea_cl (f_X7_copyFrom 64 16 m1) fun r4 m3 =>
  ea_bd (ea_st m3 0 9 1) fun m5 =>
  some (0, m5)
set_option maxHeartbeats 300000 in
theorem ok_X11_image (G : ea_G) (m : ea_M)  (rZ : Int32) (mZ : ea_M) (hZ : f_X11_image m = some (rZ, mZ)) : ea_Met G yX11_image F_X11_image [.ref 0] m (0, rZ, mZ) := by
  refine ea_met (F := F_X11_image) (by decide +kernel) rfl rfl (Nat.le_of_ble_eq_true rfl) (by simp only [List.mem_cons, List.not_mem_nil, or_false]; intro v hv; rcases hv with rfl <;> rfl) ((?_ : ea_E G F_X11_image (0, rZ, mZ) 0 [some (.ref 0)] [] m 0 0 (f_X11_image m) (fun t => t = (rZ, mZ))) (rZ, mZ) hZ rfl)
  have hR : ∀ t : Int32 × ea_M, t = (rZ, mZ) → ((0, rZ, mZ) : ea_O) = (0, t) := fun t h => by rw [h]
  unfold f_X11_image
  refine ev_aload_n (ea_at dt_X11_image 0 rfl) rfl ?_
  refine ev_getR (ea_at dt_X11_image 1 rfl) fl_X11_62 sh_0 rfl ?_
  refine ev_aload_n (ea_at dt_X11_image 2 rfl) rfl ?_
  refine ev_getR (ea_at dt_X11_image 3 rfl) fl_X11_23 sh_0 rfl ?_
  refine ev_clU (F1 := F_X2_copyFrom) (fun rY mY hY => ea_runV (As := [.ref 2]) (ea_at dt_X11_image 4 rfl) ml_X11_121 mv_X2_copyFrom (ok_X2_copyFrom G 50 2 m is_Court_50 is_Court_2 rY mY hY) sh_50 rfl rfl rfl (Nat.le_of_ble_eq_true rfl) rfl) rfl (fun r2 m1 => ?_)
  refine ev_aload_n (ea_at dt_X11_image 5 rfl) rfl ?_
  refine ev_getR (ea_at dt_X11_image 6 rfl) fl_X11_65 sh_0 rfl ?_
  refine ev_aload_n (ea_at dt_X11_image 7 rfl) rfl ?_
  refine ev_getR (ea_at dt_X11_image 8 rfl) fl_X11_30 sh_0 rfl ?_
  refine ev_clU (F1 := F_X7_copyFrom) (fun rY mY hY => ea_runV (As := [.ref 16]) (ea_at dt_X11_image 9 rfl) ml_X11_151 mv_X7_copyFrom (ok_X7_copyFrom G 64 16 m1 is_Law_64 is_Law_16 rY mY hY) sh_64 rfl rfl rfl (Nat.le_of_ble_eq_true rfl) rfl) rfl (fun r4 m3 => ?_)
  refine ev_aload_n (ea_at dt_X11_image 10 rfl) rfl ?_
  refine ev_iconst (ea_at dt_X11_image 11 rfl) ic_1 ?_
  refine ev_putZ (by decide) (ea_at dt_X11_image 12 rfl) fl_X11_58 fp_11_9 sh_0 rfl ?_
  refine ev_m (fun m5 => ?_)
  exact ev_vret (ea_at dt_X11_image 13 rfl) rfl ⟨by decide, by decide⟩ (fun h => ⟨0, hR _ h⟩)
def F_X11_back : ea_F := (ea_rm 10 0 0, cX11_back, RX11, some .boolean, 1, [], 0, 0)
def D_X11_back : List (Nat × Instr × Nat) := [(0, .aload_n 0, 1), (1, .getfield 58, 3), (4, .ifCond .ne 5, 3), (7, .iconst 0, 1), (8, .ireturn, 1), (9, .aload_n 0, 1), (10, .getfield 23, 3), (13, .aload_n 0, 1), (14, .getfield 62, 3), (17, .invokevirtual 121, 3), (20, .aload_n 0, 1), (21, .getfield 30, 3), (24, .aload_n 0, 1), (25, .getfield 65, 3), (28, .invokevirtual 151, 3), (31, .aload_n 0, 1), (32, .invokevirtual 144, 3), (35, .aload_n 0, 1), (36, .invokevirtual 147, 3), (39, .iconst 1, 1), (40, .ireturn, 1)]
theorem dt_X11_back : ∀ q ∈ D_X11_back, decode cX11_back q.1 = .ok q.2 := by decide +kernel
theorem mv_X11_back : ea_MV yX11_back (F_X11_back) 0 := ⟨⟨List.mem_append_right _ (List.mem_of_getElem? (i := 1) (by decide +kernel)), List.mem_append_right _ (List.mem_of_getElem? (i := 629) (by decide +kernel)), ⟨by decide, by decide⟩, by decide +kernel⟩, List.mem_append_right _ (List.mem_of_getElem? (i := 627) (by decide +kernel)), List.mem_append_right _ (List.mem_of_getElem? (i := 628) (by decide +kernel))⟩
def f_X11_back (m : ea_M) : Option (Int32 × ea_M) :=
  ea_bd (m 0 9) fun x1 =>
  if x1 = 0 then
  some (0, m)
  else
  ea_cl (f_X2_copyFrom 2 50 m) fun r3 m2 =>
  ea_cl (f_X7_copyFrom 16 64 m2) fun r5 m4 =>
  ea_cl (f_X11_forgetActs m4) fun r7 m6 =>
  ea_cl (f_X11_forgetFates m6) fun r9 m8 =>
  some (1, m8)
set_option maxHeartbeats 300000 in
theorem ok_X11_back (G : ea_G) (m : ea_M)  (rZ : Int32) (mZ : ea_M) (hZ : f_X11_back m = some (rZ, mZ)) : ea_Met G yX11_back F_X11_back [.ref 0] m (0, rZ, mZ) := by
  refine ea_met (F := F_X11_back) (by decide +kernel) rfl rfl (Nat.le_of_ble_eq_true rfl) (by simp only [List.mem_cons, List.not_mem_nil, or_false]; intro v hv; rcases hv with rfl <;> rfl) ((?_ : ea_E G F_X11_back (0, rZ, mZ) 0 [some (.ref 0)] [] m 0 0 (f_X11_back m) (fun t => t = (rZ, mZ))) (rZ, mZ) hZ rfl)
  have hR : ∀ t : Int32 × ea_M, t = (rZ, mZ) → ((0, rZ, mZ) : ea_O) = (0, t) := fun t h => by rw [h]
  unfold f_X11_back
  refine ev_aload_n (ea_at dt_X11_back 0 rfl) rfl ?_
  refine ev_getI (ea_at dt_X11_back 1 rfl) fl_X11_58 sh_0 rfl ?_
  refine ev_i (fun x1 => ?_)
  refine ev_if_ne (tgt := 9) (ea_at dt_X11_back 2 rfl) rfl (fun _ => ?_) (fun _ => ?_)
  · refine ev_iconst (ea_at dt_X11_back 3 rfl) ic_0 ?_
    exact ev_zret (by decide) (ea_at dt_X11_back 4 rfl) rfl ⟨by decide, by decide⟩ (fun h => hR _ h)
  · refine ev_aload_n (ea_at dt_X11_back 5 rfl) rfl ?_
    refine ev_getR (ea_at dt_X11_back 6 rfl) fl_X11_23 sh_0 rfl ?_
    refine ev_aload_n (ea_at dt_X11_back 7 rfl) rfl ?_
    refine ev_getR (ea_at dt_X11_back 8 rfl) fl_X11_62 sh_0 rfl ?_
    refine ev_clU (F1 := F_X2_copyFrom) (fun rY mY hY => ea_runV (As := [.ref 50]) (ea_at dt_X11_back 9 rfl) ml_X11_121 mv_X2_copyFrom (ok_X2_copyFrom G 2 50 m is_Court_2 is_Court_50 rY mY hY) sh_2 rfl rfl rfl (Nat.le_of_ble_eq_true rfl) rfl) rfl (fun r3 m2 => ?_)
    refine ev_aload_n (ea_at dt_X11_back 10 rfl) rfl ?_
    refine ev_getR (ea_at dt_X11_back 11 rfl) fl_X11_30 sh_0 rfl ?_
    refine ev_aload_n (ea_at dt_X11_back 12 rfl) rfl ?_
    refine ev_getR (ea_at dt_X11_back 13 rfl) fl_X11_65 sh_0 rfl ?_
    refine ev_clU (F1 := F_X7_copyFrom) (fun rY mY hY => ea_runV (As := [.ref 64]) (ea_at dt_X11_back 14 rfl) ml_X11_151 mv_X7_copyFrom (ok_X7_copyFrom G 16 64 m2 is_Law_16 is_Law_64 rY mY hY) sh_16 rfl rfl rfl (Nat.le_of_ble_eq_true rfl) rfl) rfl (fun r5 m4 => ?_)
    refine ev_aload_n (ea_at dt_X11_back 15 rfl) rfl ?_
    refine ev_clU (F1 := F_X11_forgetActs) (fun rY mY hY => ea_runV (As := []) (ea_at dt_X11_back 16 rfl) ml_X11_144 mv_X11_forgetActs (ok_X11_forgetActs G m4  rY mY hY) sh_0 rfl rfl rfl (Nat.le_of_ble_eq_true rfl) rfl) rfl (fun r7 m6 => ?_)
    refine ev_aload_n (ea_at dt_X11_back 17 rfl) rfl ?_
    refine ev_clU (F1 := F_X11_forgetFates) (fun rY mY hY => ea_runV (As := []) (ea_at dt_X11_back 18 rfl) ml_X11_147 mv_X11_forgetFates (ok_X11_forgetFates G m6  rY mY hY) sh_0 rfl rfl rfl (Nat.le_of_ble_eq_true rfl) rfl) rfl (fun r9 m8 => ?_)
    refine ev_iconst (ea_at dt_X11_back 19 rfl) ic_1 ?_
    exact ev_zret (by decide) (ea_at dt_X11_back 20 rfl) rfl ⟨by decide, by decide⟩ (fun h => hR _ h)
