def F_X11_ways : ea_F := (ea_rm 15 2 12, cX11_ways, RX11, some .int, 4, [], 2, 12)
def D_X11_ways : List (Nat × Instr × Nat) := [(0, .aload_n 0, 1), (1, .iload_n 1, 1), (2, .invokevirtual 157, 3), (5, .iload_n 2, 1), (6, .ifCond .lt 8, 3), (9, .iload_n 2, 1), (10, .iconst 3, 1), (11, .if_icmp .le 13, 3), (14, .new 172, 3), (17, .dup, 1), (18, .ldc 174, 2), (20, .invokespecial 176, 3), (23, .athrow, 1), (24, .aload_n 0, 1), (25, .invokevirtual 316, 3), (28, .aload_n 0, 1), (29, .getfield 98, 3), (32, .iload_n 1, 1), (33, .aaload, 1), (34, .astore_n 3, 1), (35, .iload_n 2, 1), (36, .tableswitch 43 0 2 #[28, 33, 38], 28), (64, .aload_n 3, 1), (65, .invokevirtual 319, 3), (68, .ireturn, 1), (69, .aload_n 3, 1), (70, .getfield 322, 3), (73, .ireturn, 1), (74, .aload_n 3, 1), (75, .getfield 325, 3), (78, .ireturn, 1), (79, .sipush 6561, 3), (82, .aload_n 3, 1), (83, .invokevirtual 319, 3), (86, .isub, 1), (87, .aload_n 3, 1), (88, .getfield 322, 3), (91, .isub, 1), (92, .aload_n 3, 1), (93, .getfield 325, 3), (96, .isub, 1), (97, .ireturn, 1)]
theorem dt_X11_ways : ∀ q ∈ D_X11_ways, decode cX11_ways q.1 = .ok q.2 := by decide +kernel
theorem mv_X11_ways : ea_MV yX11_ways (F_X11_ways) 2 := ⟨⟨List.mem_append_right _ (List.mem_of_getElem? (i := 1) (by decide +kernel)), List.mem_append_right _ (List.mem_of_getElem? (i := 1185) (by decide +kernel)), ⟨by decide, by decide⟩, by decide +kernel⟩, List.mem_append_right _ (List.mem_of_getElem? (i := 1183) (by decide +kernel)), List.mem_append_right _ (List.mem_of_getElem? (i := 1184) (by decide +kernel))⟩
def f_X11_ways (p1 : Int32) (p2 : Int32) (m : ea_M) : Option (ea_O) :=
  ea_cx (f_X11_needBird p1 m) (fun r2 m1 =>
  if p2 < 0 then
  some (4, 0, m1)
  else
  if p2 ≤ 3 then
  ea_cl (f_X11_reckonFates m1) fun r4 m3 =>
  ea_g p1 6 (ea_bd (ea_rFates.getD (Int32.toNatClampNeg p1) 0) fun a5 =>
  if p2 = 0 then
  ea_cl (f_X4_allGood a5 m3) fun r7 m6 =>
  some (0, r7, m6)
  else
  if p2 = 1 then
  ea_bd (m3 a5 0) fun x8 =>
  some (0, x8, m3)
  else
  if p2 = 2 then
  ea_bd (m3 a5 1) fun x9 =>
  some (0, x9, m3)
  else
  ea_cl (f_X4_allGood a5 m3) fun r11 m10 =>
  ea_bd (m10 a5 0) fun x12 =>
  ea_bd ((6561 - r11) - x12) fun x13 =>
  ea_bd (m10 a5 1) fun x14 =>
  some (0, x13 - x14, m10))
  else
  some (4, 0, m1)) (fun kx mx => some (kx, 0, mx))
set_option maxHeartbeats 300000 in
theorem ok_X11_ways (G : ea_G) (p1 : Int32) (p2 : Int32) (m : ea_M)  (zZ : ea_O) (hZ : f_X11_ways p1 p2 m = some zZ) : ea_Met G yX11_ways F_X11_ways [.ref 0, .int p1, .int p2] m zZ := by
  refine ea_met (F := F_X11_ways) (by decide +kernel) rfl rfl (Nat.le_of_ble_eq_true rfl) (by simp only [List.mem_cons, List.not_mem_nil, or_false]; intro v hv; rcases hv with rfl | rfl | rfl <;> rfl) ((?_ : ea_E G F_X11_ways zZ 0 [some (.ref 0), some (.int p1), some (.int p2), none] [] m 0 0 (f_X11_ways p1 p2 m) (fun t => t = zZ)) zZ hZ rfl)
  have hR : ∀ t : ea_O, t = zZ → zZ = t := fun t h => h.symm
  unfold f_X11_ways
  refine ev_aload_n (ea_at dt_X11_ways 0 rfl) rfl ?_
  refine ev_iload_n (ea_at dt_X11_ways 1 rfl) rfl ?_
  refine ev_cxU (F1 := F_X11_needBird) rfl (fun zY hY => ea_runV (As := [.int p1]) (ea_at dt_X11_ways 2 rfl) ml_X11_157 mv_X11_needBird (ok_X11_needBird G p1 m  zY hY) sh_0 rfl rfl rfl (Nat.le_of_ble_eq_true rfl) rfl) rfl ⟨by decide, by decide⟩ (fun kx mx t e q => ⟨0, by cases e; exact hR _ q⟩) (fun r2 m1 => ?_)
  refine ev_iload_n (ea_at dt_X11_ways 3 rfl) rfl ?_
  refine ev_if_lt (tgt := 14) (ea_at dt_X11_ways 4 rfl) rfl (fun _ => ?_) (fun _ => ?_)
  · exact ev_throwN (kx := 4) (j := 35) (ea_at dt_X11_ways 8 rfl) (ea_at dt_X11_ways 9 rfl) (ea_at dt_X11_ways 10 rfl) (ea_at dt_X11_ways 11 rfl) (ea_at dt_X11_ways 12 rfl) rfl (by decide) rfl cl_X11_172 ini_4 ml_X11_176 rfl ⟨by decide, by decide, by decide, by decide, by decide, by decide⟩ (fun h => ⟨0, hR _ h⟩)
  · refine ev_iload_n (ea_at dt_X11_ways 5 rfl) rfl ?_
    refine ev_iconst (ea_at dt_X11_ways 6 rfl) ic_3 ?_
    refine ev_icmp_le (tgt := 24) (ea_at dt_X11_ways 7 rfl) rfl (fun _ => ?_) (fun _ => ?_)
    · refine ev_aload_n (ea_at dt_X11_ways 13 rfl) rfl ?_
      refine ev_clU (F1 := F_X11_reckonFates) (fun rY mY hY => ea_runV (As := []) (ea_at dt_X11_ways 14 rfl) ml_X11_316 mv_X11_reckonFates (ok_X11_reckonFates G m1  rY mY hY) sh_0 rfl rfl rfl (Nat.le_of_ble_eq_true rfl) rfl) rfl (fun r4 m3 => ?_)
      refine ev_aload_n (ea_at dt_X11_ways 15 rfl) rfl ?_
      refine ev_getR (ea_at dt_X11_ways 16 rfl) fl_X11_98 sh_0 rfl ?_
      refine ev_iload_n (ea_at dt_X11_ways 17 rfl) rfl ?_
      refine ev_aaloadP (rs := ea_rFates) (P := ea_isFates) ea_rFates_is (ea_at dt_X11_ways 18 rfl) sh_79 rfl (fun a5 ha5 => ?_)
      refine ev_astore_n (ls' := [some (.ref 0), some (.int p1), some (.int p2), some (.ref a5)]) (ea_at dt_X11_ways 19 rfl) (ea_lt rfl) rfl ?_
      refine ev_iload_n (ea_at dt_X11_ways 20 rfl) rfl ?_
      refine ev_ite (fun n0 => ?_) (fun n0 => ?_)
      · refine ev_tsw (c := 0) (tgt := 64) n0 (ea_at dt_X11_ways 21 rfl) (by decide) (by decide) rfl rfl ?_
        refine ev_aload_n (ea_at dt_X11_ways 22 rfl) rfl ?_
        refine ev_clI (F1 := F_X4_allGood) (fun rY mY hY => ea_runV (As := []) (ea_at dt_X11_ways 23 rfl) ml_X11_319 mv_X4_allGood (ok_X4_allGood G a5 m3 ha5 rY mY hY) ha5.1 rfl rfl rfl (Nat.le_of_ble_eq_true rfl) rfl) rfl (fun r7 m6 => ?_)
        exact ev_iret (ea_at dt_X11_ways 24 rfl) rfl ⟨by decide, by decide⟩ (fun h => hR _ h)
      · refine ev_ite (fun n1 => ?_) (fun n1 => ?_)
        · refine ev_tsw (c := 1) (tgt := 69) n1 (ea_at dt_X11_ways 21 rfl) (by decide) (by decide) rfl rfl ?_
          refine ev_aload_n (ea_at dt_X11_ways 25 rfl) rfl ?_
          refine ev_getI (ea_at dt_X11_ways 26 rfl) fl_X11_322 ha5.1 rfl ?_
          refine ev_i (fun x8 => ?_)
          exact ev_iret (ea_at dt_X11_ways 27 rfl) rfl ⟨by decide, by decide⟩ (fun h => hR _ h)
        · refine ev_ite (fun n2 => ?_) (fun n2 => ?_)
          · refine ev_tsw (c := 2) (tgt := 74) n2 (ea_at dt_X11_ways 21 rfl) (by decide) (by decide) rfl rfl ?_
            refine ev_aload_n (ea_at dt_X11_ways 28 rfl) rfl ?_
            refine ev_getI (ea_at dt_X11_ways 29 rfl) fl_X11_325 ha5.1 rfl ?_
            refine ev_i (fun x9 => ?_)
            exact ev_iret (ea_at dt_X11_ways 30 rfl) rfl ⟨by decide, by decide⟩ (fun h => hR _ h)
          · refine ev_tswOut (cnt := 3) (tgt := 79) (ea_at dt_X11_ways 21 rfl) rfl (ea_nS (ea_nS (ea_nS (ea_nZ) (v := 0) (by decide) n0) (v := 1) (by decide) n1) (v := 2) (by decide) n2) rfl ?_
            refine ev_sipush (ea_at dt_X11_ways 31 rfl) sp_6561 ?_
            refine ev_aload_n (ea_at dt_X11_ways 32 rfl) rfl ?_
            refine ev_clI (F1 := F_X4_allGood) (fun rY mY hY => ea_runV (As := []) (ea_at dt_X11_ways 33 rfl) ml_X11_319 mv_X4_allGood (ok_X4_allGood G a5 m3 ha5 rY mY hY) ha5.1 rfl rfl rfl (Nat.le_of_ble_eq_true rfl) rfl) rfl (fun r11 m10 => ?_)
            refine ev_isub (ea_at dt_X11_ways 34 rfl) ?_
            refine ev_aload_n (ea_at dt_X11_ways 35 rfl) rfl ?_
            refine ev_getI (ea_at dt_X11_ways 36 rfl) fl_X11_322 ha5.1 rfl ?_
            refine ev_i (fun x12 => ?_)
            refine ev_isub (ea_at dt_X11_ways 37 rfl) ?_
            refine ev_i (fun x13 => ?_)
            refine ev_aload_n (ea_at dt_X11_ways 38 rfl) rfl ?_
            refine ev_getI (ea_at dt_X11_ways 39 rfl) fl_X11_325 ha5.1 rfl ?_
            refine ev_i (fun x14 => ?_)
            refine ev_isub (ea_at dt_X11_ways 40 rfl) ?_
            exact ev_iret (ea_at dt_X11_ways 41 rfl) rfl ⟨by decide, by decide⟩ (fun h => hR _ h)
    · exact ev_throwN (kx := 4) (j := 35) (ea_at dt_X11_ways 8 rfl) (ea_at dt_X11_ways 9 rfl) (ea_at dt_X11_ways 10 rfl) (ea_at dt_X11_ways 11 rfl) (ea_at dt_X11_ways 12 rfl) rfl (by decide) rfl cl_X11_172 ini_4 ml_X11_176 rfl ⟨by decide, by decide, by decide, by decide, by decide, by decide⟩ (fun h => ⟨0, hR _ h⟩)
def F_X4_landedIn : ea_F := (ea_rm 8 0 0, cX4_landedIn, RX4, some .int, 3, [], 0, 0)
def D_X4_landedIn : List (Nat × Instr × Nat) := [(0, .aload_n 0, 1), (1, .getfield 18, 3), (4, .iload_n 2, 1), (5, .iconst 1, 1), (6, .isub, 1), (7, .bipush 16, 2), (9, .imul, 1), (10, .iload_n 1, 1), (11, .iadd, 1), (12, .iaload, 1), (13, .ireturn, 1)]
theorem dt_X4_landedIn : ∀ q ∈ D_X4_landedIn, decode cX4_landedIn q.1 = .ok q.2 := by decide +kernel
theorem mv_X4_landedIn : ea_MV yX4_landedIn (F_X4_landedIn) 2 := ⟨⟨List.mem_append_right _ (List.mem_of_getElem? (i := 12) (by decide +kernel)), List.mem_append_right _ (List.mem_of_getElem? (i := 1200) (by decide +kernel)), ⟨by decide, by decide⟩, by decide +kernel⟩, List.mem_append_right _ (List.mem_of_getElem? (i := 1198) (by decide +kernel)), List.mem_append_right _ (List.mem_of_getElem? (i := 1199) (by decide +kernel))⟩
def f_X4_landedIn (a : Nat) (p1 : Int32) (p2 : Int32) (m : ea_M) : Option (Int32 × ea_M) :=
  ea_bd ((p2 - 1) * 16) fun x1 =>
  ea_g (x1 + p1) 128 (ea_bd (m (a + 1) (Int32.toNatClampNeg (x1 + p1))) fun x2 =>
  some (x2, m))
set_option maxHeartbeats 300000 in
theorem ok_X4_landedIn (G : ea_G) (a : Nat) (p1 : Int32) (p2 : Int32) (m : ea_M) (ha : ea_isFates a) (rZ : Int32) (mZ : ea_M) (hZ : f_X4_landedIn a p1 p2 m = some (rZ, mZ)) : ea_Met G yX4_landedIn F_X4_landedIn [.ref a, .int p1, .int p2] m (0, rZ, mZ) := by
  refine ea_met (F := F_X4_landedIn) (by decide +kernel) rfl rfl (Nat.le_of_ble_eq_true rfl) (by simp only [List.mem_cons, List.not_mem_nil, or_false]; intro v hv; rcases hv with rfl | rfl | rfl <;> rfl) ((?_ : ea_E G F_X4_landedIn (0, rZ, mZ) 0 [some (.ref a), some (.int p1), some (.int p2)] [] m 0 0 (f_X4_landedIn a p1 p2 m) (fun t => t = (rZ, mZ))) (rZ, mZ) hZ rfl)
  have hR : ∀ t : Int32 × ea_M, t = (rZ, mZ) → ((0, rZ, mZ) : ea_O) = (0, t) := fun t h => by rw [h]
  unfold f_X4_landedIn
  refine ev_aload_n (ea_at dt_X4_landedIn 0 rfl) rfl ?_
  refine ev_getR (ea_at dt_X4_landedIn 1 rfl) fl_X4_18 ha.1 rfl ?_
  refine ev_iload_n (ea_at dt_X4_landedIn 2 rfl) rfl ?_
  refine ev_iconst (ea_at dt_X4_landedIn 3 rfl) ic_1 ?_
  refine ev_isub (ea_at dt_X4_landedIn 4 rfl) ?_
  refine ev_bipush (ea_at dt_X4_landedIn 5 rfl) bp_16 ?_
  refine ev_imul (ea_at dt_X4_landedIn 6 rfl) ?_
  refine ev_i (fun x1 => ?_)
  refine ev_iload_n (ea_at dt_X4_landedIn 7 rfl) rfl ?_
  refine ev_iadd (ea_at dt_X4_landedIn 8 rfl) ?_
  refine ev_iaload (ea_at dt_X4_landedIn 9 rfl) ha.2.1 (by decide) ?_
  refine ev_i (fun x2 => ?_)
  exact ev_iret (ea_at dt_X4_landedIn 10 rfl) rfl ⟨by decide, by decide⟩ (fun h => hR _ h)
def F_X11_lands : ea_F := (ea_rm 15 2 12, cX11_lands, RX11, some .int, 6, [], 2, 12)
def D_X11_lands : List (Nat × Instr × Nat) := [(0, .aload_n 0, 1), (1, .iload_n 1, 1), (2, .invokevirtual 157, 3), (5, .aload_n 0, 1), (6, .iload_n 2, 1), (7, .invokevirtual 216, 3), (10, .aload_n 0, 1), (11, .invokevirtual 316, 3), (14, .aload_n 0, 1), (15, .getfield 98, 3), (18, .iload_n 1, 1), (19, .aaload, 1), (20, .astore_n 3, 1), (21, .iconst 0, 1), (22, .istore 4, 2), (24, .iconst 1, 1), (25, .istore 5, 2), (27, .iload 5, 2), (29, .bipush 8, 2), (31, .if_icmp .gt 21, 3), (34, .iload 4, 2), (36, .aload_n 3, 1), (37, .iload_n 2, 1), (38, .iload 5, 2), (40, .invokevirtual 328, 3), (43, .iadd, 1), (44, .istore 4, 2), (46, .iinc 5 1, 3), (49, .goto (-22), 3), (52, .iload 4, 2), (54, .ireturn, 1)]
theorem dt_X11_lands : ∀ q ∈ D_X11_lands, decode cX11_lands q.1 = .ok q.2 := by decide +kernel
theorem mv_X11_lands : ea_MV yX11_lands (F_X11_lands) 2 := ⟨⟨List.mem_append_right _ (List.mem_of_getElem? (i := 1) (by decide +kernel)), List.mem_append_right _ (List.mem_of_getElem? (i := 1196) (by decide +kernel)), ⟨by decide, by decide⟩, by decide +kernel⟩, List.mem_append_right _ (List.mem_of_getElem? (i := 1194) (by decide +kernel)), List.mem_append_right _ (List.mem_of_getElem? (i := 1195) (by decide +kernel))⟩
def f_X11_lands_s27 (p2 : Int32) (a7 : Nat)  (s27 : Int32 × Int32 × ea_M) : Option ((Int32 × Int32 × ea_M) ⊕ (Int32 × ea_M)) :=
  if 8 < s27.2.1 then
  some (.inr (s27.1, s27.2.2))
  else
  ea_cl (f_X4_landedIn a7 p2 s27.2.1 s27.2.2) fun r9 m8 =>
  ea_bd (s27.1 + r9) fun x10 =>
  some (.inl (x10, s27.2.1 + 1, m8))
def f_X11_lands (p1 : Int32) (p2 : Int32) (m : ea_M) : Option (ea_O) :=
  ea_cx (f_X11_needBird p1 m) (fun r2 m1 =>
  ea_cx (f_X11_needColumn p2 m1) (fun r4 m3 =>
  ea_cl (f_X11_reckonFates m3) fun r6 m5 =>
  ea_g p1 6 (ea_bd (ea_rFates.getD (Int32.toNatClampNeg p1) 0) fun a7 =>
  (ea_loop (f_X11_lands_s27 p2 a7) ea_fuel (0, 1, m5)).bind (fun x27s =>
  some (0, x27s.1, x27s.2)))) (fun kx mx => some (kx, 0, mx))) (fun kx mx => some (kx, 0, mx))
set_option maxHeartbeats 300000 in
theorem lp_X11_lands_27 (G : ea_G) {res : ea_O}  (p2 : Int32) (a7 : Nat) (ha7 : ea_isFates a7) {Ψ : (Int32 × ea_M) → Prop} (hX : ∀ x27s : Int32 × ea_M, Ψ x27s → ea_Ev G F_X11_lands res 52 [none, none, none, none, some (.int x27s.1), none] [] x27s.2 2 12) : ∀ (f : Nat) (s27 : Int32 × Int32 × ea_M), ea_E G F_X11_lands res 27 [none, none, some (.int p2), some (.ref a7), some (.int s27.1), some (.int s27.2.1)] [] s27.2.2 2 12 (ea_loop (f_X11_lands_s27 p2 a7) f s27) Ψ := by
  refine ev_loop (G := G) (F := F_X11_lands) (res := res) (pc := 27) (st := []) (k := 2) (n := 12) (step := (f_X11_lands_s27 p2 a7)) (Ψ := Ψ) (fun (s27 : Int32 × Int32 × ea_M) => [none, none, some (.int p2), some (.ref a7), some (.int s27.1), some (.int s27.2.1)]) (fun (s27 : Int32 × Int32 × ea_M) => s27.2.2) (fun s27 => ?_)
  have hC : ∀ s27 : Int32 × Int32 × ea_M, (Sum.elim (fun s27 : Int32 × Int32 × ea_M => ea_Ev G F_X11_lands res 27 [none, none, some (.int p2), some (.ref a7), some (.int s27.1), some (.int s27.2.1)] [] s27.2.2 2 12) Ψ) (.inl s27) → ea_Ev G F_X11_lands res 27 [none, none, some (.int p2), some (.ref a7), some (.int s27.1), some (.int s27.2.1)] [] s27.2.2 2 12 := fun _ h => h
  have hX : ∀ x27s : Int32 × ea_M, (Sum.elim (fun s27 : Int32 × Int32 × ea_M => ea_Ev G F_X11_lands res 27 [none, none, some (.int p2), some (.ref a7), some (.int s27.1), some (.int s27.2.1)] [] s27.2.2 2 12) Ψ) (.inr x27s) → ea_Ev G F_X11_lands res 52 [none, none, none, none, some (.int x27s.1), none] [] x27s.2 2 12 := hX
  unfold f_X11_lands_s27
  refine ev_iload (ea_at dt_X11_lands 17 rfl) rfl ?_
  refine ev_bipush (ea_at dt_X11_lands 18 rfl) bp_8 ?_
  refine ev_icmp_gt (tgt := 52) (ea_at dt_X11_lands 19 rfl) rfl (fun _ => ?_) (fun _ => ?_)
  · exact ev_leaf (fun h => ea_drop (l' := [none, none, none, none, some (.int s27.1), none]) ⟨Or.inl rfl, Or.inl rfl, Or.inl rfl, Or.inl rfl, Or.inr rfl, Or.inl rfl, trivial⟩ (hX (s27.1, s27.2.2) h))
  · refine ev_iload (ea_at dt_X11_lands 20 rfl) rfl ?_
    refine ev_aload_n (ea_at dt_X11_lands 21 rfl) rfl ?_
    refine ev_iload_n (ea_at dt_X11_lands 22 rfl) rfl ?_
    refine ev_iload (ea_at dt_X11_lands 23 rfl) rfl ?_
    refine ev_clI (F1 := F_X4_landedIn) (fun rY mY hY => ea_runV (As := [.int p2, .int s27.2.1]) (ea_at dt_X11_lands 24 rfl) ml_X11_328 mv_X4_landedIn (ok_X4_landedIn G a7 p2 s27.2.1 s27.2.2 ha7 rY mY hY) ha7.1 rfl rfl rfl (Nat.le_of_ble_eq_true rfl) rfl) rfl (fun r9 m8 => ?_)
    refine ev_iadd (ea_at dt_X11_lands 25 rfl) ?_
    refine ev_i (fun x10 => ?_)
    refine ev_istore (ls' := [none, none, some (.int p2), some (.ref a7), some (.int x10), some (.int s27.2.1)]) (ea_at dt_X11_lands 26 rfl) (ea_lt rfl) rfl ?_
    refine ev_iinc (ls' := [none, none, some (.int p2), some (.ref a7), some (.int x10), some (.int (s27.2.1 + 1))]) (ea_at dt_X11_lands 27 rfl) rfl (congrArg (fun z => _ + z) ic_1) (ea_lt rfl) rfl ?_
    refine ev_goto (tgt := 27) (ea_at dt_X11_lands 28 rfl) rfl ?_
    exact ev_leaf (fun h => ea_drop (l' := [none, none, some (.int p2), some (.ref a7), some (.int x10), some (.int (s27.2.1 + 1))]) ⟨Or.inl rfl, Or.inl rfl, Or.inr rfl, Or.inr rfl, Or.inr rfl, Or.inr rfl, trivial⟩ (hC (x10, s27.2.1 + 1, m8) h))
set_option maxHeartbeats 300000 in
theorem ok_X11_lands (G : ea_G) (p1 : Int32) (p2 : Int32) (m : ea_M)  (zZ : ea_O) (hZ : f_X11_lands p1 p2 m = some zZ) : ea_Met G yX11_lands F_X11_lands [.ref 0, .int p1, .int p2] m zZ := by
  refine ea_met (F := F_X11_lands) (by decide +kernel) rfl rfl (Nat.le_of_ble_eq_true rfl) (by simp only [List.mem_cons, List.not_mem_nil, or_false]; intro v hv; rcases hv with rfl | rfl | rfl <;> rfl) ((?_ : ea_E G F_X11_lands zZ 0 [some (.ref 0), some (.int p1), some (.int p2), none, none, none] [] m 0 0 (f_X11_lands p1 p2 m) (fun t => t = zZ)) zZ hZ rfl)
  have hR : ∀ t : ea_O, t = zZ → zZ = t := fun t h => h.symm
  unfold f_X11_lands
  refine ev_aload_n (ea_at dt_X11_lands 0 rfl) rfl ?_
  refine ev_iload_n (ea_at dt_X11_lands 1 rfl) rfl ?_
  refine ev_cxU (F1 := F_X11_needBird) rfl (fun zY hY => ea_runV (As := [.int p1]) (ea_at dt_X11_lands 2 rfl) ml_X11_157 mv_X11_needBird (ok_X11_needBird G p1 m  zY hY) sh_0 rfl rfl rfl (Nat.le_of_ble_eq_true rfl) rfl) rfl ⟨by decide, by decide⟩ (fun kx mx t e q => ⟨0, by cases e; exact hR _ q⟩) (fun r2 m1 => ?_)
  refine ev_aload_n (ea_at dt_X11_lands 3 rfl) rfl ?_
  refine ev_iload_n (ea_at dt_X11_lands 4 rfl) rfl ?_
  refine ev_cxU (F1 := F_X11_needColumn) rfl (fun zY hY => ea_runV (As := [.int p2]) (ea_at dt_X11_lands 5 rfl) ml_X11_216 mv_X11_needColumn (ok_X11_needColumn G p2 m1  zY hY) sh_0 rfl rfl rfl (Nat.le_of_ble_eq_true rfl) rfl) rfl ⟨by decide, by decide⟩ (fun kx mx t e q => ⟨0, by cases e; exact hR _ q⟩) (fun r4 m3 => ?_)
  refine ev_aload_n (ea_at dt_X11_lands 6 rfl) rfl ?_
  refine ev_clU (F1 := F_X11_reckonFates) (fun rY mY hY => ea_runV (As := []) (ea_at dt_X11_lands 7 rfl) ml_X11_316 mv_X11_reckonFates (ok_X11_reckonFates G m3  rY mY hY) sh_0 rfl rfl rfl (Nat.le_of_ble_eq_true rfl) rfl) rfl (fun r6 m5 => ?_)
  refine ev_aload_n (ea_at dt_X11_lands 8 rfl) rfl ?_
  refine ev_getR (ea_at dt_X11_lands 9 rfl) fl_X11_98 sh_0 rfl ?_
  refine ev_iload_n (ea_at dt_X11_lands 10 rfl) rfl ?_
  refine ev_aaloadP (rs := ea_rFates) (P := ea_isFates) ea_rFates_is (ea_at dt_X11_lands 11 rfl) sh_79 rfl (fun a7 ha7 => ?_)
  refine ev_astore_n (ls' := [some (.ref 0), some (.int p1), some (.int p2), some (.ref a7), none, none]) (ea_at dt_X11_lands 12 rfl) (ea_lt rfl) rfl ?_
  refine ev_iconst (ea_at dt_X11_lands 13 rfl) ic_0 ?_
  refine ev_istore (ls' := [some (.ref 0), some (.int p1), some (.int p2), some (.ref a7), some (.int 0), none]) (ea_at dt_X11_lands 14 rfl) (ea_lt rfl) rfl ?_
  refine ev_iconst (ea_at dt_X11_lands 15 rfl) ic_1 ?_
  refine ev_istore (ls' := [some (.ref 0), some (.int p1), some (.int p2), some (.ref a7), some (.int 0), some (.int 1)]) (ea_at dt_X11_lands 16 rfl) (ea_lt rfl) rfl ?_
  refine ev_drop (l' := [none, none, some (.int p2), some (.ref a7), some (.int 0), some (.int 1)]) ⟨Or.inl rfl, Or.inl rfl, Or.inr rfl, Or.inr rfl, Or.inr rfl, Or.inr rfl, trivial⟩ ?_
  refine ev_bind (lp_X11_lands_27 G p2 a7 ha7  (fun x27s h => ?_) ea_fuel (0, 1, m5))
  obtain ⟨t1, e1, q1⟩ := h
  refine (?_ : ea_E G F_X11_lands zZ 52 [none, none, none, none, some (.int x27s.1), none] [] x27s.2 2 12 _ (fun t => t = zZ)) t1 e1 q1
  refine ev_iload (ea_at dt_X11_lands 29 rfl) rfl ?_
  exact ev_iret (ea_at dt_X11_lands 30 rfl) rfl ⟨by decide, by decide⟩ (fun h => hR _ h)
def F_X11_good : ea_F := (ea_rm 15 2 12, cX11_good, RX11, some .int, 3, [], 2, 12)
def D_X11_good : List (Nat × Instr × Nat) := [(0, .aload_n 0, 1), (1, .iload_n 1, 1), (2, .invokevirtual 157, 3), (5, .aload_n 0, 1), (6, .iload_n 2, 1), (7, .iconst 1, 1), (8, .bipush 8, 2), (10, .invokevirtual 219, 3), (13, .aload_n 0, 1), (14, .invokevirtual 316, 3), (17, .aload_n 0, 1), (18, .getfield 98, 3), (21, .iload_n 1, 1), (22, .aaload, 1), (23, .getfield 331, 3), (26, .iload_n 2, 1), (27, .iaload, 1), (28, .ireturn, 1)]
theorem dt_X11_good : ∀ q ∈ D_X11_good, decode cX11_good q.1 = .ok q.2 := by decide +kernel
theorem mv_X11_good : ea_MV yX11_good (F_X11_good) 2 := ⟨⟨List.mem_append_right _ (List.mem_of_getElem? (i := 1) (by decide +kernel)), List.mem_append_right _ (List.mem_of_getElem? (i := 1207) (by decide +kernel)), ⟨by decide, by decide⟩, by decide +kernel⟩, List.mem_append_right _ (List.mem_of_getElem? (i := 1205) (by decide +kernel)), List.mem_append_right _ (List.mem_of_getElem? (i := 1206) (by decide +kernel))⟩
def f_X11_good (p1 : Int32) (p2 : Int32) (m : ea_M) : Option (ea_O) :=
  ea_cx (f_X11_needBird p1 m) (fun r2 m1 =>
  ea_cx (f_X11_needWithin p2 1 8 m1) (fun r4 m3 =>
  ea_cl (f_X11_reckonFates m3) fun r6 m5 =>
  ea_g p1 6 (ea_bd (ea_rFates.getD (Int32.toNatClampNeg p1) 0) fun a7 =>
  ea_g p2 9 (ea_bd (m5 (a7 + 2) (Int32.toNatClampNeg p2)) fun x8 =>
  some (0, x8, m5)))) (fun kx mx => some (kx, 0, mx))) (fun kx mx => some (kx, 0, mx))
set_option maxHeartbeats 300000 in
theorem ok_X11_good (G : ea_G) (p1 : Int32) (p2 : Int32) (m : ea_M)  (zZ : ea_O) (hZ : f_X11_good p1 p2 m = some zZ) : ea_Met G yX11_good F_X11_good [.ref 0, .int p1, .int p2] m zZ := by
  refine ea_met (F := F_X11_good) (by decide +kernel) rfl rfl (Nat.le_of_ble_eq_true rfl) (by simp only [List.mem_cons, List.not_mem_nil, or_false]; intro v hv; rcases hv with rfl | rfl | rfl <;> rfl) ((?_ : ea_E G F_X11_good zZ 0 [some (.ref 0), some (.int p1), some (.int p2)] [] m 0 0 (f_X11_good p1 p2 m) (fun t => t = zZ)) zZ hZ rfl)
  have hR : ∀ t : ea_O, t = zZ → zZ = t := fun t h => h.symm
  unfold f_X11_good
  refine ev_aload_n (ea_at dt_X11_good 0 rfl) rfl ?_
  refine ev_iload_n (ea_at dt_X11_good 1 rfl) rfl ?_
  refine ev_cxU (F1 := F_X11_needBird) rfl (fun zY hY => ea_runV (As := [.int p1]) (ea_at dt_X11_good 2 rfl) ml_X11_157 mv_X11_needBird (ok_X11_needBird G p1 m  zY hY) sh_0 rfl rfl rfl (Nat.le_of_ble_eq_true rfl) rfl) rfl ⟨by decide, by decide⟩ (fun kx mx t e q => ⟨0, by cases e; exact hR _ q⟩) (fun r2 m1 => ?_)
  refine ev_aload_n (ea_at dt_X11_good 3 rfl) rfl ?_
  refine ev_iload_n (ea_at dt_X11_good 4 rfl) rfl ?_
  refine ev_iconst (ea_at dt_X11_good 5 rfl) ic_1 ?_
  refine ev_bipush (ea_at dt_X11_good 6 rfl) bp_8 ?_
  refine ev_cxU (F1 := F_X11_needWithin) rfl (fun zY hY => ea_runV (As := [.int p2, .int 1, .int 8]) (ea_at dt_X11_good 7 rfl) ml_X11_219 mv_X11_needWithin (ok_X11_needWithin G p2 1 8 m1  zY hY) sh_0 rfl rfl rfl (Nat.le_of_ble_eq_true rfl) rfl) rfl ⟨by decide, by decide⟩ (fun kx mx t e q => ⟨0, by cases e; exact hR _ q⟩) (fun r4 m3 => ?_)
  refine ev_aload_n (ea_at dt_X11_good 8 rfl) rfl ?_
  refine ev_clU (F1 := F_X11_reckonFates) (fun rY mY hY => ea_runV (As := []) (ea_at dt_X11_good 9 rfl) ml_X11_316 mv_X11_reckonFates (ok_X11_reckonFates G m3  rY mY hY) sh_0 rfl rfl rfl (Nat.le_of_ble_eq_true rfl) rfl) rfl (fun r6 m5 => ?_)
  refine ev_aload_n (ea_at dt_X11_good 10 rfl) rfl ?_
  refine ev_getR (ea_at dt_X11_good 11 rfl) fl_X11_98 sh_0 rfl ?_
  refine ev_iload_n (ea_at dt_X11_good 12 rfl) rfl ?_
  refine ev_aaloadP (rs := ea_rFates) (P := ea_isFates) ea_rFates_is (ea_at dt_X11_good 13 rfl) sh_79 rfl (fun a7 ha7 => ?_)
  refine ev_getR (ea_at dt_X11_good 14 rfl) fl_X11_331 ha7.1 rfl ?_
  refine ev_iload_n (ea_at dt_X11_good 15 rfl) rfl ?_
  refine ev_iaload (ea_at dt_X11_good 16 rfl) ha7.2.2 (by decide) ?_
  refine ev_i (fun x8 => ?_)
  exact ev_iret (ea_at dt_X11_good 17 rfl) rfl ⟨by decide, by decide⟩ (fun h => hR _ h)
def F_X11_straight : ea_F := (ea_rm 13 1 6, cX11_straight, RX11, some .int, 5, [], 1, 6)
def D_X11_straight : List (Nat × Instr × Nat) := [(0, .aload_n 0, 1), (1, .iload_n 1, 1), (2, .invokevirtual 157, 3), (5, .aload_n 0, 1), (6, .getfield 83, 3), (9, .getfield 334, 3), (12, .astore_n 3, 1), (13, .aload_n 0, 1), (14, .getfield 83, 3), (17, .aload_n 3, 1), (18, .iload_n 1, 1), (19, .invokevirtual 338, 3), (22, .iconst 0, 1), (23, .istore 4, 2), (25, .iload 4, 2), (27, .bipush 8, 2), (29, .if_icmp .ge 27, 3), (32, .aload_n 3, 1), (33, .getfield 342, 3), (36, .ifCond .eq 20, 3), (39, .aload_n 0, 1), (40, .getfield 83, 3), (43, .aload_n 3, 1), (44, .iload 4, 2), (46, .iconst 0, 1), (47, .invokevirtual 347, 3), (50, .iinc 4 1, 3), (53, .goto (-28), 3), (56, .aload_n 3, 1), (57, .getfield 351, 3), (60, .ifCond .ne 5, 3), (63, .iconst (-1), 1), (64, .ireturn, 1), (65, .iload_n 2, 1), (66, .ifCond .eq 10, 3), (69, .aload_n 3, 1), (70, .getfield 351, 3), (73, .goto 7, 3), (76, .aload_n 3, 1), (77, .getfield 353, 3), (80, .ireturn, 1)]
theorem dt_X11_straight : ∀ q ∈ D_X11_straight, decode cX11_straight q.1 = .ok q.2 := by decide +kernel
theorem mv_X11_straight : ea_MV yX11_straight (F_X11_straight) 2 := ⟨⟨List.mem_append_right _ (List.mem_of_getElem? (i := 1) (by decide +kernel)), List.mem_append_right _ (List.mem_of_getElem? (i := 1214) (by decide +kernel)), ⟨by decide, by decide⟩, by decide +kernel⟩, List.mem_append_right _ (List.mem_of_getElem? (i := 1212) (by decide +kernel)), List.mem_append_right _ (List.mem_of_getElem? (i := 1213) (by decide +kernel))⟩
def f_X11_straight_s25 (p2 : Int32)  (s25 : Int32 × ea_M) : Option ((Int32 × ea_M) ⊕ (ea_M)) :=
  if 8 ≤ s25.1 then
  some (.inr s25.2)
  else
  ea_bd (s25.2 74 3) fun x5 =>
  if x5 = 0 then
  some (.inr s25.2)
  else
  ea_cl (f_X0_drift 74 s25.1 0 s25.2) fun r7 m6 =>
  some (.inl (s25.1 + 1, m6))
def f_X11_straight (p1 : Int32) (p2 : Int32) (m : ea_M) : Option (ea_O) :=
  ea_cx (f_X11_needBird p1 m) (fun r2 m1 =>
  ea_cl (f_X0_release 74 p1 m1) fun r4 m3 =>
  (ea_loop (f_X11_straight_s25 p2) ea_fuel (0, m3)).bind (fun x25s =>
  ea_bd (x25s 74 4) fun x8 =>
  if x8 = 0 then
  some (0, (-1), x25s)
  else
  if p2 = 0 then
  ea_bd (x25s 74 2) fun x9 =>
  some (0, x9, x25s)
  else
  ea_bd (x25s 74 4) fun x10 =>
  some (0, x10, x25s))) (fun kx mx => some (kx, 0, mx))
set_option maxHeartbeats 300000 in
theorem lp_X11_straight_25 (G : ea_G) {res : ea_O}  (p2 : Int32)  {Ψ : ea_M → Prop} (hX : ∀ x25s : ea_M, Ψ x25s → ea_Ev G F_X11_straight res 56 [none, none, some (.int p2), some (.ref 74), none] [] x25s 1 6) : ∀ (f : Nat) (s25 : Int32 × ea_M), ea_E G F_X11_straight res 25 [some (.ref 0), none, some (.int p2), some (.ref 74), some (.int s25.1)] [] s25.2 1 6 (ea_loop (f_X11_straight_s25 p2) f s25) Ψ := by
  refine ev_loop (G := G) (F := F_X11_straight) (res := res) (pc := 25) (st := []) (k := 1) (n := 6) (step := (f_X11_straight_s25 p2)) (Ψ := Ψ) (fun (s25 : Int32 × ea_M) => [some (.ref 0), none, some (.int p2), some (.ref 74), some (.int s25.1)]) (fun (s25 : Int32 × ea_M) => s25.2) (fun s25 => ?_)
  have hC : ∀ s25 : Int32 × ea_M, (Sum.elim (fun s25 : Int32 × ea_M => ea_Ev G F_X11_straight res 25 [some (.ref 0), none, some (.int p2), some (.ref 74), some (.int s25.1)] [] s25.2 1 6) Ψ) (.inl s25) → ea_Ev G F_X11_straight res 25 [some (.ref 0), none, some (.int p2), some (.ref 74), some (.int s25.1)] [] s25.2 1 6 := fun _ h => h
  have hX : ∀ x25s : ea_M, (Sum.elim (fun s25 : Int32 × ea_M => ea_Ev G F_X11_straight res 25 [some (.ref 0), none, some (.int p2), some (.ref 74), some (.int s25.1)] [] s25.2 1 6) Ψ) (.inr x25s) → ea_Ev G F_X11_straight res 56 [none, none, some (.int p2), some (.ref 74), none] [] x25s 1 6 := hX
  unfold f_X11_straight_s25
  refine ev_iload (ea_at dt_X11_straight 14 rfl) rfl ?_
  refine ev_bipush (ea_at dt_X11_straight 15 rfl) bp_8 ?_
  refine ev_icmp_ge (tgt := 56) (ea_at dt_X11_straight 16 rfl) rfl (fun _ => ?_) (fun _ => ?_)
  · exact ev_leaf (fun h => ea_drop (l' := [none, none, some (.int p2), some (.ref 74), none]) ⟨Or.inl rfl, Or.inl rfl, Or.inr rfl, Or.inr rfl, Or.inl rfl, trivial⟩ (hX s25.2 h))
  · refine ev_aload_n (ea_at dt_X11_straight 17 rfl) rfl ?_
    refine ev_getI (ea_at dt_X11_straight 18 rfl) fl_X11_342 sh_74 rfl ?_
    refine ev_i (fun x5 => ?_)
    refine ev_if_eq (tgt := 56) (ea_at dt_X11_straight 19 rfl) rfl (fun _ => ?_) (fun _ => ?_)
    · exact ev_leaf (fun h => ea_drop (l' := [none, none, some (.int p2), some (.ref 74), none]) ⟨Or.inl rfl, Or.inl rfl, Or.inr rfl, Or.inr rfl, Or.inl rfl, trivial⟩ (hX s25.2 h))
    · refine ev_aload_n (ea_at dt_X11_straight 20 rfl) rfl ?_
      refine ev_getR (ea_at dt_X11_straight 21 rfl) fl_X11_83 sh_0 rfl ?_
      refine ev_aload_n (ea_at dt_X11_straight 22 rfl) rfl ?_
      refine ev_iload (ea_at dt_X11_straight 23 rfl) rfl ?_
      refine ev_iconst (ea_at dt_X11_straight 24 rfl) ic_0 ?_
      refine ev_clU (F1 := F_X0_drift) (fun rY mY hY => ea_runV (As := [.ref 74, .int s25.1, .int 0]) (ea_at dt_X11_straight 25 rfl) ml_X11_347 mv_X0_drift (ok_X0_drift G 74 s25.1 0 s25.2 is_Feather_74 rY mY hY) sh_73 rfl rfl rfl (Nat.le_of_ble_eq_true rfl) rfl) rfl (fun r7 m6 => ?_)
      refine ev_iinc (ls' := [some (.ref 0), none, some (.int p2), some (.ref 74), some (.int (s25.1 + 1))]) (ea_at dt_X11_straight 26 rfl) rfl (congrArg (fun z => _ + z) ic_1) (ea_lt rfl) rfl ?_
      refine ev_goto (tgt := 25) (ea_at dt_X11_straight 27 rfl) rfl ?_
      exact ev_leaf (fun h => ea_drop (l' := [some (.ref 0), none, some (.int p2), some (.ref 74), some (.int (s25.1 + 1))]) ⟨Or.inr rfl, Or.inl rfl, Or.inr rfl, Or.inr rfl, Or.inr rfl, trivial⟩ (hC (s25.1 + 1, m6) h))
set_option maxHeartbeats 300000 in
theorem ok_X11_straight (G : ea_G) (p1 : Int32) (p2 : Int32) (m : ea_M)  (zZ : ea_O) (hZ : f_X11_straight p1 p2 m = some zZ) : ea_Met G yX11_straight F_X11_straight [.ref 0, .int p1, .int p2] m zZ := by
  refine ea_met (F := F_X11_straight) (by decide +kernel) rfl rfl (Nat.le_of_ble_eq_true rfl) (by simp only [List.mem_cons, List.not_mem_nil, or_false]; intro v hv; rcases hv with rfl | rfl | rfl <;> rfl) ((?_ : ea_E G F_X11_straight zZ 0 [some (.ref 0), some (.int p1), some (.int p2), none, none] [] m 0 0 (f_X11_straight p1 p2 m) (fun t => t = zZ)) zZ hZ rfl)
  have hR : ∀ t : ea_O, t = zZ → zZ = t := fun t h => h.symm
  unfold f_X11_straight
  refine ev_aload_n (ea_at dt_X11_straight 0 rfl) rfl ?_
  refine ev_iload_n (ea_at dt_X11_straight 1 rfl) rfl ?_
  refine ev_cxU (F1 := F_X11_needBird) rfl (fun zY hY => ea_runV (As := [.int p1]) (ea_at dt_X11_straight 2 rfl) ml_X11_157 mv_X11_needBird (ok_X11_needBird G p1 m  zY hY) sh_0 rfl rfl rfl (Nat.le_of_ble_eq_true rfl) rfl) rfl ⟨by decide, by decide⟩ (fun kx mx t e q => ⟨0, by cases e; exact hR _ q⟩) (fun r2 m1 => ?_)
  refine ev_aload_n (ea_at dt_X11_straight 3 rfl) rfl ?_
  refine ev_getR (ea_at dt_X11_straight 4 rfl) fl_X11_83 sh_0 rfl ?_
  refine ev_getR (ea_at dt_X11_straight 5 rfl) fl_X11_334 sh_73 rfl ?_
  refine ev_astore_n (ls' := [some (.ref 0), some (.int p1), some (.int p2), some (.ref 74), none]) (ea_at dt_X11_straight 6 rfl) (ea_lt rfl) rfl ?_
  refine ev_aload_n (ea_at dt_X11_straight 7 rfl) rfl ?_
  refine ev_getR (ea_at dt_X11_straight 8 rfl) fl_X11_83 sh_0 rfl ?_
  refine ev_aload_n (ea_at dt_X11_straight 9 rfl) rfl ?_
  refine ev_iload_n (ea_at dt_X11_straight 10 rfl) rfl ?_
  refine ev_clU (F1 := F_X0_release) (fun rY mY hY => ea_runV (As := [.ref 74, .int p1]) (ea_at dt_X11_straight 11 rfl) ml_X11_338 mv_X0_release (ok_X0_release G 74 p1 m1 is_Feather_74 rY mY hY) sh_73 rfl rfl rfl (Nat.le_of_ble_eq_true rfl) rfl) rfl (fun r4 m3 => ?_)
  refine ev_iconst (ea_at dt_X11_straight 12 rfl) ic_0 ?_
  refine ev_istore (ls' := [some (.ref 0), some (.int p1), some (.int p2), some (.ref 74), some (.int 0)]) (ea_at dt_X11_straight 13 rfl) (ea_lt rfl) rfl ?_
  refine ev_drop (l' := [some (.ref 0), none, some (.int p2), some (.ref 74), some (.int 0)]) ⟨Or.inr rfl, Or.inl rfl, Or.inr rfl, Or.inr rfl, Or.inr rfl, trivial⟩ ?_
  refine ev_bind (lp_X11_straight_25 G p2   (fun x25s h => ?_) ea_fuel (0, m3))
  obtain ⟨t1, e1, q1⟩ := h
  refine (?_ : ea_E G F_X11_straight zZ 56 [none, none, some (.int p2), some (.ref 74), none] [] x25s 1 6 _ (fun t => t = zZ)) t1 e1 q1
  refine ev_aload_n (ea_at dt_X11_straight 28 rfl) rfl ?_
  refine ev_getI (ea_at dt_X11_straight 29 rfl) fl_X11_351 sh_74 rfl ?_
  refine ev_i (fun x8 => ?_)
  refine ev_if_ne (tgt := 65) (ea_at dt_X11_straight 30 rfl) rfl (fun _ => ?_) (fun _ => ?_)
  · refine ev_iconst (ea_at dt_X11_straight 31 rfl) ic_m1 ?_
    exact ev_iret (ea_at dt_X11_straight 32 rfl) rfl ⟨by decide, by decide⟩ (fun h => hR _ h)
  · refine ev_iload_n (ea_at dt_X11_straight 33 rfl) rfl ?_
    refine ev_if_eq (tgt := 76) (ea_at dt_X11_straight 34 rfl) rfl (fun _ => ?_) (fun _ => ?_)
    · refine ev_aload_n (ea_at dt_X11_straight 38 rfl) rfl ?_
      refine ev_getI (ea_at dt_X11_straight 39 rfl) fl_X11_353 sh_74 rfl ?_
      refine ev_i (fun x9 => ?_)
      exact ev_iret (ea_at dt_X11_straight 40 rfl) rfl ⟨by decide, by decide⟩ (fun h => hR _ h)
    · refine ev_aload_n (ea_at dt_X11_straight 35 rfl) rfl ?_
      refine ev_getI (ea_at dt_X11_straight 36 rfl) fl_X11_351 sh_74 rfl ?_
      refine ev_i (fun x10 => ?_)
      refine ev_goto (tgt := 80) (ea_at dt_X11_straight 37 rfl) rfl ?_
      exact ev_iret (ea_at dt_X11_straight 40 rfl) rfl ⟨by decide, by decide⟩ (fun h => hR _ h)
def F_X11_tell : ea_F := (ea_rm 15 2 12, cX11_tell, RX11, some .int, 5, [], 2, 12)
def D_X11_tell : List (Nat × Instr × Nat) := [(0, .aload_n 0, 1), (1, .iload_n 1, 1), (2, .invokevirtual 216, 3), (5, .aload_n 0, 1), (6, .iload_n 2, 1), (7, .iconst 1, 1), (8, .bipush 8, 2), (10, .invokevirtual 219, 3), (13, .aload_n 0, 1), (14, .invokevirtual 316, 3), (17, .iconst 0, 1), (18, .istore_n 3, 1), (19, .iconst 0, 1), (20, .istore 4, 2), (22, .iload 4, 2), (24, .aload_n 0, 1), (25, .getfield 23, 3), (28, .getfield 233, 3), (31, .if_icmp .ge 31, 3), (34, .aload_n 0, 1), (35, .getfield 98, 3), (38, .iload 4, 2), (40, .aaload, 1), (41, .iload_n 1, 1), (42, .iload_n 2, 1), (43, .invokevirtual 328, 3), (46, .ifCond .le 10, 3), (49, .iload_n 3, 1), (50, .iconst 1, 1), (51, .iload 4, 2), (53, .ishl, 1), (54, .ior, 1), (55, .istore_n 3, 1), (56, .iinc 4 1, 3), (59, .goto (-37), 3), (62, .iload_n 3, 1), (63, .ireturn, 1)]
theorem dt_X11_tell : ∀ q ∈ D_X11_tell, decode cX11_tell q.1 = .ok q.2 := by decide +kernel
theorem mv_X11_tell : ea_MV yX11_tell (F_X11_tell) 2 := ⟨⟨List.mem_append_right _ (List.mem_of_getElem? (i := 1) (by decide +kernel)), List.mem_append_right _ (List.mem_of_getElem? (i := 1334) (by decide +kernel)), ⟨by decide, by decide⟩, by decide +kernel⟩, List.mem_append_right _ (List.mem_of_getElem? (i := 1332) (by decide +kernel)), List.mem_append_right _ (List.mem_of_getElem? (i := 1333) (by decide +kernel))⟩
def f_X11_tell_j56 (p1 : Int32) (p2 : Int32) (x11 : Int32) (x12 : Int32) (m13 : ea_M) : Option ((Int32 × Int32 × ea_M) ⊕ (Int32 × ea_M)) :=
  some (.inl (x11, x12 + 1, m13))
def f_X11_tell_s22 (p1 : Int32) (p2 : Int32)  (s22 : Int32 × Int32 × ea_M) : Option ((Int32 × Int32 × ea_M) ⊕ (Int32 × ea_M)) :=
  ea_bd (s22.2.2 2 8) fun x7 =>
  if x7 ≤ s22.2.1 then
  some (.inr (s22.1, s22.2.2))
  else
  ea_g s22.2.1 6 (ea_bd (ea_rFates.getD (Int32.toNatClampNeg s22.2.1) 0) fun a8 =>
  ea_cl (f_X4_landedIn a8 p1 p2 s22.2.2) fun r10 m9 =>
  if r10 ≤ 0 then
  f_X11_tell_j56 p1 p2 s22.1 s22.2.1 m9
  else
  ea_bd (s22.1 ||| (1 <<< (s22.2.1 &&& 31))) fun x14 =>
  f_X11_tell_j56 p1 p2 x14 s22.2.1 m9)
def f_X11_tell (p1 : Int32) (p2 : Int32) (m : ea_M) : Option (ea_O) :=
  ea_cx (f_X11_needColumn p1 m) (fun r2 m1 =>
  ea_cx (f_X11_needWithin p2 1 8 m1) (fun r4 m3 =>
  ea_cl (f_X11_reckonFates m3) fun r6 m5 =>
  (ea_loop (f_X11_tell_s22 p1 p2) ea_fuel (0, 0, m5)).bind (fun x22s =>
  some (0, x22s.1, x22s.2))) (fun kx mx => some (kx, 0, mx))) (fun kx mx => some (kx, 0, mx))
set_option maxHeartbeats 300000 in
theorem jn_X11_tell_56 (G : ea_G) {res : ea_O}  (p1 : Int32) (p2 : Int32) (x11 : Int32) (x12 : Int32) (m13 : ea_M)  {Φ : ((Int32 × Int32 × ea_M) ⊕ (Int32 × ea_M)) → Prop} (hC : ∀ s22 : Int32 × Int32 × ea_M, Φ (.inl s22) → ea_Ev G F_X11_tell res 22 [some (.ref 0), some (.int p1), some (.int p2), some (.int s22.1), some (.int s22.2.1)] [] s22.2.2 2 12) (hX : ∀ x22s : Int32 × ea_M, Φ (.inr x22s) → ea_Ev G F_X11_tell res 62 [none, none, none, some (.int x22s.1), none] [] x22s.2 2 12) : ea_E G F_X11_tell res 56 [some (.ref 0), some (.int p1), some (.int p2), some (.int x11), some (.int x12)] [] m13 2 12 (f_X11_tell_j56 p1 p2 x11 x12 m13) Φ := by
  unfold f_X11_tell_j56
  refine ev_iinc (ls' := [some (.ref 0), some (.int p1), some (.int p2), some (.int x11), some (.int (x12 + 1))]) (ea_at dt_X11_tell 33 rfl) rfl (congrArg (fun z => _ + z) ic_1) (ea_lt rfl) rfl ?_
  refine ev_goto (tgt := 22) (ea_at dt_X11_tell 34 rfl) rfl ?_
  exact ev_leaf (fun h => ea_drop (l' := [some (.ref 0), some (.int p1), some (.int p2), some (.int x11), some (.int (x12 + 1))]) ⟨Or.inr rfl, Or.inr rfl, Or.inr rfl, Or.inr rfl, Or.inr rfl, trivial⟩ (hC (x11, x12 + 1, m13) h))
set_option maxHeartbeats 300000 in
theorem lp_X11_tell_22 (G : ea_G) {res : ea_O}  (p1 : Int32) (p2 : Int32)  {Ψ : (Int32 × ea_M) → Prop} (hX : ∀ x22s : Int32 × ea_M, Ψ x22s → ea_Ev G F_X11_tell res 62 [none, none, none, some (.int x22s.1), none] [] x22s.2 2 12) : ∀ (f : Nat) (s22 : Int32 × Int32 × ea_M), ea_E G F_X11_tell res 22 [some (.ref 0), some (.int p1), some (.int p2), some (.int s22.1), some (.int s22.2.1)] [] s22.2.2 2 12 (ea_loop (f_X11_tell_s22 p1 p2) f s22) Ψ := by
  refine ev_loop (G := G) (F := F_X11_tell) (res := res) (pc := 22) (st := []) (k := 2) (n := 12) (step := (f_X11_tell_s22 p1 p2)) (Ψ := Ψ) (fun (s22 : Int32 × Int32 × ea_M) => [some (.ref 0), some (.int p1), some (.int p2), some (.int s22.1), some (.int s22.2.1)]) (fun (s22 : Int32 × Int32 × ea_M) => s22.2.2) (fun s22 => ?_)
  have hC : ∀ s22 : Int32 × Int32 × ea_M, (Sum.elim (fun s22 : Int32 × Int32 × ea_M => ea_Ev G F_X11_tell res 22 [some (.ref 0), some (.int p1), some (.int p2), some (.int s22.1), some (.int s22.2.1)] [] s22.2.2 2 12) Ψ) (.inl s22) → ea_Ev G F_X11_tell res 22 [some (.ref 0), some (.int p1), some (.int p2), some (.int s22.1), some (.int s22.2.1)] [] s22.2.2 2 12 := fun _ h => h
  have hX : ∀ x22s : Int32 × ea_M, (Sum.elim (fun s22 : Int32 × Int32 × ea_M => ea_Ev G F_X11_tell res 22 [some (.ref 0), some (.int p1), some (.int p2), some (.int s22.1), some (.int s22.2.1)] [] s22.2.2 2 12) Ψ) (.inr x22s) → ea_Ev G F_X11_tell res 62 [none, none, none, some (.int x22s.1), none] [] x22s.2 2 12 := hX
  unfold f_X11_tell_s22
  refine ev_iload (ea_at dt_X11_tell 14 rfl) rfl ?_
  refine ev_aload_n (ea_at dt_X11_tell 15 rfl) rfl ?_
  refine ev_getR (ea_at dt_X11_tell 16 rfl) fl_X11_23 sh_0 rfl ?_
  refine ev_getI (ea_at dt_X11_tell 17 rfl) fl_X11_233 sh_2 rfl ?_
  refine ev_i (fun x7 => ?_)
  refine ev_icmp_ge (tgt := 62) (ea_at dt_X11_tell 18 rfl) rfl (fun _ => ?_) (fun _ => ?_)
  · exact ev_leaf (fun h => ea_drop (l' := [none, none, none, some (.int s22.1), none]) ⟨Or.inl rfl, Or.inl rfl, Or.inl rfl, Or.inr rfl, Or.inl rfl, trivial⟩ (hX (s22.1, s22.2.2) h))
  · refine ev_aload_n (ea_at dt_X11_tell 19 rfl) rfl ?_
    refine ev_getR (ea_at dt_X11_tell 20 rfl) fl_X11_98 sh_0 rfl ?_
    refine ev_iload (ea_at dt_X11_tell 21 rfl) rfl ?_
    refine ev_aaloadP (rs := ea_rFates) (P := ea_isFates) ea_rFates_is (ea_at dt_X11_tell 22 rfl) sh_79 rfl (fun a8 ha8 => ?_)
    refine ev_iload_n (ea_at dt_X11_tell 23 rfl) rfl ?_
    refine ev_iload_n (ea_at dt_X11_tell 24 rfl) rfl ?_
    refine ev_clI (F1 := F_X4_landedIn) (fun rY mY hY => ea_runV (As := [.int p1, .int p2]) (ea_at dt_X11_tell 25 rfl) ml_X11_328 mv_X4_landedIn (ok_X4_landedIn G a8 p1 p2 s22.2.2 ha8 rY mY hY) ha8.1 rfl rfl rfl (Nat.le_of_ble_eq_true rfl) rfl) rfl (fun r10 m9 => ?_)
    refine ev_if_le (tgt := 56) (ea_at dt_X11_tell 26 rfl) rfl (fun _ => ?_) (fun _ => ?_)
    · exact ev_drop (l' := [some (.ref 0), some (.int p1), some (.int p2), some (.int s22.1), some (.int s22.2.1)]) ⟨Or.inr rfl, Or.inr rfl, Or.inr rfl, Or.inr rfl, Or.inr rfl, trivial⟩ (jn_X11_tell_56 G p1 p2 s22.1 s22.2.1 m9  hC hX)
    · refine ev_iload_n (ea_at dt_X11_tell 27 rfl) rfl ?_
      refine ev_iconst (ea_at dt_X11_tell 28 rfl) ic_1 ?_
      refine ev_iload (ea_at dt_X11_tell 29 rfl) rfl ?_
      refine ev_ishl (ea_at dt_X11_tell 30 rfl) ?_
      refine ev_ior (ea_at dt_X11_tell 31 rfl) ?_
      refine ev_i (fun x14 => ?_)
      refine ev_istore_n (ls' := [some (.ref 0), some (.int p1), some (.int p2), some (.int x14), some (.int s22.2.1)]) (ea_at dt_X11_tell 32 rfl) (ea_lt rfl) rfl ?_
      exact ev_drop (l' := [some (.ref 0), some (.int p1), some (.int p2), some (.int x14), some (.int s22.2.1)]) ⟨Or.inr rfl, Or.inr rfl, Or.inr rfl, Or.inr rfl, Or.inr rfl, trivial⟩ (jn_X11_tell_56 G p1 p2 x14 s22.2.1 m9  hC hX)
set_option maxHeartbeats 300000 in
theorem ok_X11_tell (G : ea_G) (p1 : Int32) (p2 : Int32) (m : ea_M)  (zZ : ea_O) (hZ : f_X11_tell p1 p2 m = some zZ) : ea_Met G yX11_tell F_X11_tell [.ref 0, .int p1, .int p2] m zZ := by
  refine ea_met (F := F_X11_tell) (by decide +kernel) rfl rfl (Nat.le_of_ble_eq_true rfl) (by simp only [List.mem_cons, List.not_mem_nil, or_false]; intro v hv; rcases hv with rfl | rfl | rfl <;> rfl) ((?_ : ea_E G F_X11_tell zZ 0 [some (.ref 0), some (.int p1), some (.int p2), none, none] [] m 0 0 (f_X11_tell p1 p2 m) (fun t => t = zZ)) zZ hZ rfl)
  have hR : ∀ t : ea_O, t = zZ → zZ = t := fun t h => h.symm
  unfold f_X11_tell
  refine ev_aload_n (ea_at dt_X11_tell 0 rfl) rfl ?_
  refine ev_iload_n (ea_at dt_X11_tell 1 rfl) rfl ?_
  refine ev_cxU (F1 := F_X11_needColumn) rfl (fun zY hY => ea_runV (As := [.int p1]) (ea_at dt_X11_tell 2 rfl) ml_X11_216 mv_X11_needColumn (ok_X11_needColumn G p1 m  zY hY) sh_0 rfl rfl rfl (Nat.le_of_ble_eq_true rfl) rfl) rfl ⟨by decide, by decide⟩ (fun kx mx t e q => ⟨0, by cases e; exact hR _ q⟩) (fun r2 m1 => ?_)
  refine ev_aload_n (ea_at dt_X11_tell 3 rfl) rfl ?_
  refine ev_iload_n (ea_at dt_X11_tell 4 rfl) rfl ?_
  refine ev_iconst (ea_at dt_X11_tell 5 rfl) ic_1 ?_
  refine ev_bipush (ea_at dt_X11_tell 6 rfl) bp_8 ?_
  refine ev_cxU (F1 := F_X11_needWithin) rfl (fun zY hY => ea_runV (As := [.int p2, .int 1, .int 8]) (ea_at dt_X11_tell 7 rfl) ml_X11_219 mv_X11_needWithin (ok_X11_needWithin G p2 1 8 m1  zY hY) sh_0 rfl rfl rfl (Nat.le_of_ble_eq_true rfl) rfl) rfl ⟨by decide, by decide⟩ (fun kx mx t e q => ⟨0, by cases e; exact hR _ q⟩) (fun r4 m3 => ?_)
  refine ev_aload_n (ea_at dt_X11_tell 8 rfl) rfl ?_
  refine ev_clU (F1 := F_X11_reckonFates) (fun rY mY hY => ea_runV (As := []) (ea_at dt_X11_tell 9 rfl) ml_X11_316 mv_X11_reckonFates (ok_X11_reckonFates G m3  rY mY hY) sh_0 rfl rfl rfl (Nat.le_of_ble_eq_true rfl) rfl) rfl (fun r6 m5 => ?_)
  refine ev_iconst (ea_at dt_X11_tell 10 rfl) ic_0 ?_
  refine ev_istore_n (ls' := [some (.ref 0), some (.int p1), some (.int p2), some (.int 0), none]) (ea_at dt_X11_tell 11 rfl) (ea_lt rfl) rfl ?_
  refine ev_iconst (ea_at dt_X11_tell 12 rfl) ic_0 ?_
  refine ev_istore (ls' := [some (.ref 0), some (.int p1), some (.int p2), some (.int 0), some (.int 0)]) (ea_at dt_X11_tell 13 rfl) (ea_lt rfl) rfl ?_
  refine ev_drop (l' := [some (.ref 0), some (.int p1), some (.int p2), some (.int 0), some (.int 0)]) ⟨Or.inr rfl, Or.inr rfl, Or.inr rfl, Or.inr rfl, Or.inr rfl, trivial⟩ ?_
  refine ev_bind (lp_X11_tell_22 G p1 p2   (fun x22s h => ?_) ea_fuel (0, 0, m5))
  obtain ⟨t1, e1, q1⟩ := h
  refine (?_ : ea_E G F_X11_tell zZ 62 [none, none, none, some (.int x22s.1), none] [] x22s.2 2 12 _ (fun t => t = zZ)) t1 e1 q1
  refine ev_iload_n (ea_at dt_X11_tell 35 rfl) rfl ?_
  exact ev_iret (ea_at dt_X11_tell 36 rfl) rfl ⟨by decide, by decide⟩ (fun h => hR _ h)
def F_X4_isAsGoodAs : ea_F := (ea_rm 8 0 0, cX4_isAsGoodAs, RX4, some .boolean, 3, [], 0, 0)
def D_X4_isAsGoodAs : List (Nat × Instr × Nat) := [(0, .iconst 1, 1), (1, .istore_n 2, 1), (2, .iload_n 2, 1), (3, .bipush 8, 2), (5, .if_icmp .gt 26, 3), (8, .aload_n 0, 1), (9, .getfield 22, 3), (12, .iload_n 2, 1), (13, .iaload, 1), (14, .aload_n 1, 1), (15, .getfield 22, 3), (18, .iload_n 2, 1), (19, .iaload, 1), (20, .if_icmp .eq 5, 3), (23, .iconst 0, 1), (24, .ireturn, 1), (25, .iinc 2 1, 3), (28, .goto (-26), 3), (31, .iconst 1, 1), (32, .ireturn, 1)]
theorem dt_X4_isAsGoodAs : ∀ q ∈ D_X4_isAsGoodAs, decode cX4_isAsGoodAs q.1 = .ok q.2 := by decide +kernel
theorem mv_X4_isAsGoodAs : ea_MV yX4_isAsGoodAs (F_X4_isAsGoodAs) 1 := ⟨⟨List.mem_append_right _ (List.mem_of_getElem? (i := 12) (by decide +kernel)), List.mem_append_right _ (List.mem_of_getElem? (i := 571) (by decide +kernel)), ⟨by decide, by decide⟩, by decide +kernel⟩, List.mem_append_right _ (List.mem_of_getElem? (i := 569) (by decide +kernel)), List.mem_append_right _ (List.mem_of_getElem? (i := 570) (by decide +kernel))⟩
def f_X4_isAsGoodAs_s2 (a : Nat) (p1 : Nat)  (s2 : Int32 × ea_M) : Option ((Int32 × ea_M) ⊕ ((Int32 × ea_M) ⊕ (ea_M))) :=
  if 8 < s2.1 then
  some (.inr (.inr s2.2))
  else
  ea_g s2.1 9 (ea_bd (s2.2 (a + 2) (Int32.toNatClampNeg s2.1)) fun x1 =>
  ea_g s2.1 9 (ea_bd (s2.2 (p1 + 2) (Int32.toNatClampNeg s2.1)) fun x2 =>
  if x1 = x2 then
  some (.inl (s2.1 + 1, s2.2))
  else
  some (.inr (.inl (0, s2.2)))))
def f_X4_isAsGoodAs (a : Nat) (p1 : Nat) (m : ea_M) : Option (Int32 × ea_M) :=
  ea_sl (ea_loop (f_X4_isAsGoodAs_s2 a p1) ea_fuel (1, m)) (fun t => some t) (fun x2s =>
  some (1, x2s))
set_option maxHeartbeats 300000 in
theorem lp_X4_isAsGoodAs_2 (G : ea_G) {res : ea_O}  (a : Nat) (p1 : Nat) (ha : ea_isFates a) (hp1 : ea_isFates p1) {Ψ : ((Int32 × ea_M) ⊕ (ea_M)) → Prop} (hR : ∀ t : Int32 × ea_M, Ψ (.inl t) → res = (0, t)) (hX : ∀ x2s : ea_M, Ψ (.inr x2s) → ea_Ev G F_X4_isAsGoodAs res 31 [none, none, none] [] x2s 0 0) : ∀ (f : Nat) (s2 : Int32 × ea_M), ea_E G F_X4_isAsGoodAs res 2 [some (.ref a), some (.ref p1), some (.int s2.1)] [] s2.2 0 0 (ea_loop (f_X4_isAsGoodAs_s2 a p1) f s2) Ψ := by
  refine ev_loop (G := G) (F := F_X4_isAsGoodAs) (res := res) (pc := 2) (st := []) (k := 0) (n := 0) (step := (f_X4_isAsGoodAs_s2 a p1)) (Ψ := Ψ) (fun (s2 : Int32 × ea_M) => [some (.ref a), some (.ref p1), some (.int s2.1)]) (fun (s2 : Int32 × ea_M) => s2.2) (fun s2 => ?_)
  have hC : ∀ s2 : Int32 × ea_M, (Sum.elim (fun s2 : Int32 × ea_M => ea_Ev G F_X4_isAsGoodAs res 2 [some (.ref a), some (.ref p1), some (.int s2.1)] [] s2.2 0 0) Ψ) (.inl s2) → ea_Ev G F_X4_isAsGoodAs res 2 [some (.ref a), some (.ref p1), some (.int s2.1)] [] s2.2 0 0 := fun _ h => h
  have hR : ∀ t : Int32 × ea_M, (Sum.elim (fun s2 : Int32 × ea_M => ea_Ev G F_X4_isAsGoodAs res 2 [some (.ref a), some (.ref p1), some (.int s2.1)] [] s2.2 0 0) Ψ) (.inr (.inl t)) → res = (0, t) := hR
  have hX : ∀ x2s : ea_M, (Sum.elim (fun s2 : Int32 × ea_M => ea_Ev G F_X4_isAsGoodAs res 2 [some (.ref a), some (.ref p1), some (.int s2.1)] [] s2.2 0 0) Ψ) (.inr (.inr x2s)) → ea_Ev G F_X4_isAsGoodAs res 31 [none, none, none] [] x2s 0 0 := hX
  unfold f_X4_isAsGoodAs_s2
  refine ev_iload_n (ea_at dt_X4_isAsGoodAs 2 rfl) rfl ?_
  refine ev_bipush (ea_at dt_X4_isAsGoodAs 3 rfl) bp_8 ?_
  refine ev_icmp_gt (tgt := 31) (ea_at dt_X4_isAsGoodAs 4 rfl) rfl (fun _ => ?_) (fun _ => ?_)
  · exact ev_leaf (fun h => ea_drop (l' := [none, none, none]) ⟨Or.inl rfl, Or.inl rfl, Or.inl rfl, trivial⟩ (hX s2.2 h))
  · refine ev_aload_n (ea_at dt_X4_isAsGoodAs 5 rfl) rfl ?_
    refine ev_getR (ea_at dt_X4_isAsGoodAs 6 rfl) fl_X4_22 ha.1 rfl ?_
    refine ev_iload_n (ea_at dt_X4_isAsGoodAs 7 rfl) rfl ?_
    refine ev_iaload (ea_at dt_X4_isAsGoodAs 8 rfl) ha.2.2 (by decide) ?_
    refine ev_i (fun x1 => ?_)
    refine ev_aload_n (ea_at dt_X4_isAsGoodAs 9 rfl) rfl ?_
    refine ev_getR (ea_at dt_X4_isAsGoodAs 10 rfl) fl_X4_22 hp1.1 rfl ?_
    refine ev_iload_n (ea_at dt_X4_isAsGoodAs 11 rfl) rfl ?_
    refine ev_iaload (ea_at dt_X4_isAsGoodAs 12 rfl) hp1.2.2 (by decide) ?_
    refine ev_i (fun x2 => ?_)
    refine ev_icmp_eq (tgt := 25) (ea_at dt_X4_isAsGoodAs 13 rfl) rfl (fun _ => ?_) (fun _ => ?_)
    · refine ev_iinc (ls' := [some (.ref a), some (.ref p1), some (.int (s2.1 + 1))]) (ea_at dt_X4_isAsGoodAs 16 rfl) rfl (congrArg (fun z => _ + z) ic_1) (ea_lt rfl) rfl ?_
      refine ev_goto (tgt := 2) (ea_at dt_X4_isAsGoodAs 17 rfl) rfl ?_
      exact ev_leaf (fun h => ea_drop (l' := [some (.ref a), some (.ref p1), some (.int (s2.1 + 1))]) ⟨Or.inr rfl, Or.inr rfl, Or.inr rfl, trivial⟩ (hC (s2.1 + 1, s2.2) h))
    · refine ev_iconst (ea_at dt_X4_isAsGoodAs 14 rfl) ic_0 ?_
      exact ev_zret (by decide) (ea_at dt_X4_isAsGoodAs 15 rfl) rfl ⟨by decide, by decide⟩ (fun h => hR _ h)
set_option maxHeartbeats 300000 in
theorem ok_X4_isAsGoodAs (G : ea_G) (a : Nat) (p1 : Nat) (m : ea_M) (ha : ea_isFates a) (hp1 : ea_isFates p1) (rZ : Int32) (mZ : ea_M) (hZ : f_X4_isAsGoodAs a p1 m = some (rZ, mZ)) : ea_Met G yX4_isAsGoodAs F_X4_isAsGoodAs [.ref a, .ref p1] m (0, rZ, mZ) := by
  refine ea_met (F := F_X4_isAsGoodAs) (by decide +kernel) rfl rfl (Nat.le_of_ble_eq_true rfl) (by simp only [List.mem_cons, List.not_mem_nil, or_false]; intro v hv; rcases hv with rfl | rfl <;> rfl) ((?_ : ea_E G F_X4_isAsGoodAs (0, rZ, mZ) 0 [some (.ref a), some (.ref p1), none] [] m 0 0 (f_X4_isAsGoodAs a p1 m) (fun t => t = (rZ, mZ))) (rZ, mZ) hZ rfl)
  have hR : ∀ t : Int32 × ea_M, t = (rZ, mZ) → ((0, rZ, mZ) : ea_O) = (0, t) := fun t h => by rw [h]
  unfold f_X4_isAsGoodAs
  refine ev_iconst (ea_at dt_X4_isAsGoodAs 0 rfl) ic_1 ?_
  refine ev_istore_n (ls' := [some (.ref a), some (.ref p1), some (.int 1)]) (ea_at dt_X4_isAsGoodAs 1 rfl) (ea_lt rfl) rfl ?_
  refine ev_drop (l' := [some (.ref a), some (.ref p1), some (.int 1)]) ⟨Or.inr rfl, Or.inr rfl, Or.inr rfl, trivial⟩ ?_
  refine ev_sl (lp_X4_isAsGoodAs_2 G a p1 ha hp1 (fun t h => by obtain ⟨t1, e1, q1⟩ := h; cases e1; exact hR t q1) (fun x2s h => ?_) ea_fuel (1, m))
  obtain ⟨t1, e1, q1⟩ := h
  refine (?_ : ea_E G F_X4_isAsGoodAs (0, rZ, mZ) 31 [none, none, none] [] x2s 0 0 _ (fun t => t = (rZ, mZ))) t1 e1 q1
  refine ev_iconst (ea_at dt_X4_isAsGoodAs 18 rfl) ic_1 ?_
  exact ev_zret (by decide) (ea_at dt_X4_isAsGoodAs 19 rfl) rfl ⟨by decide, by decide⟩ (fun h => hR _ h)
def F_X11_alike : ea_F := (ea_rm 15 0 0, cX11_alike, RX11, some .int, 4, [], 0, 0)
def D_X11_alike : List (Nat × Instr × Nat) := [(0, .aload_n 0, 1), (1, .invokevirtual 316, 3), (4, .iconst 0, 1), (5, .istore_n 1, 1), (6, .iconst 0, 1), (7, .istore_n 2, 1), (8, .iload_n 2, 1), (9, .aload_n 0, 1), (10, .getfield 23, 3), (13, .getfield 233, 3), (16, .if_icmp .ge 51, 3), (19, .iload_n 2, 1), (20, .iconst 1, 1), (21, .iadd, 1), (22, .istore_n 3, 1), (23, .iload_n 3, 1), (24, .aload_n 0, 1), (25, .getfield 23, 3), (28, .getfield 233, 3), (31, .if_icmp .ge 30, 3), (34, .aload_n 0, 1), (35, .getfield 98, 3), (38, .iload_n 2, 1), (39, .aaload, 1), (40, .aload_n 0, 1), (41, .getfield 98, 3), (44, .iload_n 3, 1), (45, .aaload, 1), (46, .invokevirtual 356, 3), (49, .ifCond .eq 6, 3), (52, .iinc 1 1, 3), (55, .iinc 3 1, 3), (58, .goto (-35), 3), (61, .iinc 2 1, 3), (64, .goto (-56), 3), (67, .iload_n 1, 1), (68, .ireturn, 1)]
theorem dt_X11_alike : ∀ q ∈ D_X11_alike, decode cX11_alike q.1 = .ok q.2 := by decide +kernel
theorem mv_X11_alike : ea_MV yX11_alike (F_X11_alike) 0 := ⟨⟨List.mem_append_right _ (List.mem_of_getElem? (i := 1) (by decide +kernel)), List.mem_append_right _ (List.mem_of_getElem? (i := 508) (by decide +kernel)), ⟨by decide, by decide⟩, by decide +kernel⟩, List.mem_append_right _ (List.mem_of_getElem? (i := 506) (by decide +kernel)), List.mem_append_right _ (List.mem_of_getElem? (i := 507) (by decide +kernel))⟩
def f_X11_alike_j55 (s8 : Int32 × Int32 × ea_M) (x10 : Int32) (x11 : Int32) (m12 : ea_M) : Option ((Int32 × Int32 × ea_M) ⊕ (Int32 × ea_M)) :=
  some (.inl (x10, x11 + 1, m12))
def f_X11_alike_s23 (s8 : Int32 × Int32 × ea_M)  (s23 : Int32 × Int32 × ea_M) : Option ((Int32 × Int32 × ea_M) ⊕ (Int32 × ea_M)) :=
  ea_bd (s23.2.2 2 8) fun x5 =>
  if x5 ≤ s23.2.1 then
  some (.inr (s23.1, s23.2.2))
  else
  ea_g s8.2.1 6 (ea_bd (ea_rFates.getD (Int32.toNatClampNeg s8.2.1) 0) fun a6 =>
  ea_g s23.2.1 6 (ea_bd (ea_rFates.getD (Int32.toNatClampNeg s23.2.1) 0) fun a7 =>
  ea_cl (f_X4_isAsGoodAs a6 a7 s23.2.2) fun r9 m8 =>
  if r9 = 0 then
  f_X11_alike_j55 s8 s23.1 s23.2.1 m8
  else
  f_X11_alike_j55 s8 (s23.1 + 1) s23.2.1 m8))
def f_X11_alike_s8  (s8 : Int32 × Int32 × ea_M) : Option ((Int32 × Int32 × ea_M) ⊕ (Int32 × ea_M)) :=
  ea_bd (s8.2.2 2 8) fun x3 =>
  if x3 ≤ s8.2.1 then
  some (.inr (s8.1, s8.2.2))
  else
  ea_bd (s8.2.1 + 1) fun x4 =>
  (ea_loop (f_X11_alike_s23 s8) ea_fuel (s8.1, x4, s8.2.2)).bind (fun x23s =>
  some (.inl (x23s.1, s8.2.1 + 1, x23s.2)))
def f_X11_alike (m : ea_M) : Option (Int32 × ea_M) :=
  ea_cl (f_X11_reckonFates m) fun r2 m1 =>
  (ea_loop f_X11_alike_s8 ea_fuel (0, 0, m1)).bind (fun x8s =>
  some (x8s.1, x8s.2))
set_option maxHeartbeats 300000 in
theorem jn_X11_alike_55 (G : ea_G) {res : ea_O}  (s8 : Int32 × Int32 × ea_M) (x10 : Int32) (x11 : Int32) (m12 : ea_M)  {Φ : ((Int32 × Int32 × ea_M) ⊕ (Int32 × ea_M)) → Prop} (hC : ∀ s23 : Int32 × Int32 × ea_M, Φ (.inl s23) → ea_Ev G F_X11_alike res 23 [some (.ref 0), some (.int s23.1), some (.int s8.2.1), some (.int s23.2.1)] [] s23.2.2 0 0) (hX : ∀ x23s : Int32 × ea_M, Φ (.inr x23s) → ea_Ev G F_X11_alike res 61 [some (.ref 0), some (.int x23s.1), some (.int s8.2.1), none] [] x23s.2 0 0) : ea_E G F_X11_alike res 55 [some (.ref 0), some (.int x10), some (.int s8.2.1), some (.int x11)] [] m12 0 0 (f_X11_alike_j55 s8 x10 x11 m12) Φ := by
  unfold f_X11_alike_j55
  refine ev_iinc (ls' := [some (.ref 0), some (.int x10), some (.int s8.2.1), some (.int (x11 + 1))]) (ea_at dt_X11_alike 31 rfl) rfl (congrArg (fun z => _ + z) ic_1) (ea_lt rfl) rfl ?_
  refine ev_goto (tgt := 23) (ea_at dt_X11_alike 32 rfl) rfl ?_
  exact ev_leaf (fun h => ea_drop (l' := [some (.ref 0), some (.int x10), some (.int s8.2.1), some (.int (x11 + 1))]) ⟨Or.inr rfl, Or.inr rfl, Or.inr rfl, Or.inr rfl, trivial⟩ (hC (x10, x11 + 1, m12) h))
set_option maxHeartbeats 300000 in
theorem lp_X11_alike_23 (G : ea_G) {res : ea_O}  (s8 : Int32 × Int32 × ea_M)  {Ψ : (Int32 × ea_M) → Prop} (hX : ∀ x23s : Int32 × ea_M, Ψ x23s → ea_Ev G F_X11_alike res 61 [some (.ref 0), some (.int x23s.1), some (.int s8.2.1), none] [] x23s.2 0 0) : ∀ (f : Nat) (s23 : Int32 × Int32 × ea_M), ea_E G F_X11_alike res 23 [some (.ref 0), some (.int s23.1), some (.int s8.2.1), some (.int s23.2.1)] [] s23.2.2 0 0 (ea_loop (f_X11_alike_s23 s8) f s23) Ψ := by
  refine ev_loop (G := G) (F := F_X11_alike) (res := res) (pc := 23) (st := []) (k := 0) (n := 0) (step := (f_X11_alike_s23 s8)) (Ψ := Ψ) (fun (s23 : Int32 × Int32 × ea_M) => [some (.ref 0), some (.int s23.1), some (.int s8.2.1), some (.int s23.2.1)]) (fun (s23 : Int32 × Int32 × ea_M) => s23.2.2) (fun s23 => ?_)
  have hC : ∀ s23 : Int32 × Int32 × ea_M, (Sum.elim (fun s23 : Int32 × Int32 × ea_M => ea_Ev G F_X11_alike res 23 [some (.ref 0), some (.int s23.1), some (.int s8.2.1), some (.int s23.2.1)] [] s23.2.2 0 0) Ψ) (.inl s23) → ea_Ev G F_X11_alike res 23 [some (.ref 0), some (.int s23.1), some (.int s8.2.1), some (.int s23.2.1)] [] s23.2.2 0 0 := fun _ h => h
  have hX : ∀ x23s : Int32 × ea_M, (Sum.elim (fun s23 : Int32 × Int32 × ea_M => ea_Ev G F_X11_alike res 23 [some (.ref 0), some (.int s23.1), some (.int s8.2.1), some (.int s23.2.1)] [] s23.2.2 0 0) Ψ) (.inr x23s) → ea_Ev G F_X11_alike res 61 [some (.ref 0), some (.int x23s.1), some (.int s8.2.1), none] [] x23s.2 0 0 := hX
  unfold f_X11_alike_s23
  refine ev_iload_n (ea_at dt_X11_alike 15 rfl) rfl ?_
  refine ev_aload_n (ea_at dt_X11_alike 16 rfl) rfl ?_
  refine ev_getR (ea_at dt_X11_alike 17 rfl) fl_X11_23 sh_0 rfl ?_
  refine ev_getI (ea_at dt_X11_alike 18 rfl) fl_X11_233 sh_2 rfl ?_
  refine ev_i (fun x5 => ?_)
  refine ev_icmp_ge (tgt := 61) (ea_at dt_X11_alike 19 rfl) rfl (fun _ => ?_) (fun _ => ?_)
  · exact ev_leaf (fun h => ea_drop (l' := [some (.ref 0), some (.int s23.1), some (.int s8.2.1), none]) ⟨Or.inr rfl, Or.inr rfl, Or.inr rfl, Or.inl rfl, trivial⟩ (hX (s23.1, s23.2.2) h))
  · refine ev_aload_n (ea_at dt_X11_alike 20 rfl) rfl ?_
    refine ev_getR (ea_at dt_X11_alike 21 rfl) fl_X11_98 sh_0 rfl ?_
    refine ev_iload_n (ea_at dt_X11_alike 22 rfl) rfl ?_
    refine ev_aaloadP (rs := ea_rFates) (P := ea_isFates) ea_rFates_is (ea_at dt_X11_alike 23 rfl) sh_79 rfl (fun a6 ha6 => ?_)
    refine ev_aload_n (ea_at dt_X11_alike 24 rfl) rfl ?_
    refine ev_getR (ea_at dt_X11_alike 25 rfl) fl_X11_98 sh_0 rfl ?_
    refine ev_iload_n (ea_at dt_X11_alike 26 rfl) rfl ?_
    refine ev_aaloadP (rs := ea_rFates) (P := ea_isFates) ea_rFates_is (ea_at dt_X11_alike 27 rfl) sh_79 rfl (fun a7 ha7 => ?_)
    refine ev_clI (F1 := F_X4_isAsGoodAs) (fun rY mY hY => ea_runV (As := [.ref a7]) (ea_at dt_X11_alike 28 rfl) ml_X11_356 mv_X4_isAsGoodAs (ok_X4_isAsGoodAs G a6 a7 s23.2.2 ha6 ha7 rY mY hY) ha6.1 rfl rfl rfl (Nat.le_of_ble_eq_true rfl) rfl) rfl (fun r9 m8 => ?_)
    refine ev_if_eq (tgt := 55) (ea_at dt_X11_alike 29 rfl) rfl (fun _ => ?_) (fun _ => ?_)
    · exact ev_drop (l' := [some (.ref 0), some (.int s23.1), some (.int s8.2.1), some (.int s23.2.1)]) ⟨Or.inr rfl, Or.inr rfl, Or.inr rfl, Or.inr rfl, trivial⟩ (jn_X11_alike_55 G s8 s23.1 s23.2.1 m8  hC hX)
    · refine ev_iinc (ls' := [some (.ref 0), some (.int (s23.1 + 1)), some (.int s8.2.1), some (.int s23.2.1)]) (ea_at dt_X11_alike 30 rfl) rfl (congrArg (fun z => _ + z) ic_1) (ea_lt rfl) rfl ?_
      exact ev_drop (l' := [some (.ref 0), some (.int (s23.1 + 1)), some (.int s8.2.1), some (.int s23.2.1)]) ⟨Or.inr rfl, Or.inr rfl, Or.inr rfl, Or.inr rfl, trivial⟩ (jn_X11_alike_55 G s8 (s23.1 + 1) s23.2.1 m8  hC hX)
set_option maxHeartbeats 300000 in
theorem lp_X11_alike_8 (G : ea_G) {res : ea_O}    {Ψ : (Int32 × ea_M) → Prop} (hX : ∀ x8s : Int32 × ea_M, Ψ x8s → ea_Ev G F_X11_alike res 67 [none, some (.int x8s.1), none, none] [] x8s.2 0 0) : ∀ (f : Nat) (s8 : Int32 × Int32 × ea_M), ea_E G F_X11_alike res 8 [some (.ref 0), some (.int s8.1), some (.int s8.2.1), none] [] s8.2.2 0 0 (ea_loop f_X11_alike_s8 f s8) Ψ := by
  refine ev_loop (G := G) (F := F_X11_alike) (res := res) (pc := 8) (st := []) (k := 0) (n := 0) (step := f_X11_alike_s8) (Ψ := Ψ) (fun (s8 : Int32 × Int32 × ea_M) => [some (.ref 0), some (.int s8.1), some (.int s8.2.1), none]) (fun (s8 : Int32 × Int32 × ea_M) => s8.2.2) (fun s8 => ?_)
  have hC : ∀ s8 : Int32 × Int32 × ea_M, (Sum.elim (fun s8 : Int32 × Int32 × ea_M => ea_Ev G F_X11_alike res 8 [some (.ref 0), some (.int s8.1), some (.int s8.2.1), none] [] s8.2.2 0 0) Ψ) (.inl s8) → ea_Ev G F_X11_alike res 8 [some (.ref 0), some (.int s8.1), some (.int s8.2.1), none] [] s8.2.2 0 0 := fun _ h => h
  have hX : ∀ x8s : Int32 × ea_M, (Sum.elim (fun s8 : Int32 × Int32 × ea_M => ea_Ev G F_X11_alike res 8 [some (.ref 0), some (.int s8.1), some (.int s8.2.1), none] [] s8.2.2 0 0) Ψ) (.inr x8s) → ea_Ev G F_X11_alike res 67 [none, some (.int x8s.1), none, none] [] x8s.2 0 0 := hX
  unfold f_X11_alike_s8
  refine ev_iload_n (ea_at dt_X11_alike 6 rfl) rfl ?_
  refine ev_aload_n (ea_at dt_X11_alike 7 rfl) rfl ?_
  refine ev_getR (ea_at dt_X11_alike 8 rfl) fl_X11_23 sh_0 rfl ?_
  refine ev_getI (ea_at dt_X11_alike 9 rfl) fl_X11_233 sh_2 rfl ?_
  refine ev_i (fun x3 => ?_)
  refine ev_icmp_ge (tgt := 67) (ea_at dt_X11_alike 10 rfl) rfl (fun _ => ?_) (fun _ => ?_)
  · exact ev_leaf (fun h => ea_drop (l' := [none, some (.int s8.1), none, none]) ⟨Or.inl rfl, Or.inr rfl, Or.inl rfl, Or.inl rfl, trivial⟩ (hX (s8.1, s8.2.2) h))
  · refine ev_iload_n (ea_at dt_X11_alike 11 rfl) rfl ?_
    refine ev_iconst (ea_at dt_X11_alike 12 rfl) ic_1 ?_
    refine ev_iadd (ea_at dt_X11_alike 13 rfl) ?_
    refine ev_i (fun x4 => ?_)
    refine ev_istore_n (ls' := [some (.ref 0), some (.int s8.1), some (.int s8.2.1), some (.int x4)]) (ea_at dt_X11_alike 14 rfl) (ea_lt rfl) rfl ?_
    refine ev_drop (l' := [some (.ref 0), some (.int s8.1), some (.int s8.2.1), some (.int x4)]) ⟨Or.inr rfl, Or.inr rfl, Or.inr rfl, Or.inr rfl, trivial⟩ ?_
    refine ev_bind (lp_X11_alike_23 G s8   (fun x23s h => ?_) ea_fuel (s8.1, x4, s8.2.2))
    obtain ⟨t1, e1, q1⟩ := h
    refine (?_ : ea_E G F_X11_alike res 61 [some (.ref 0), some (.int x23s.1), some (.int s8.2.1), none] [] x23s.2 0 0 _ (Sum.elim (fun s8 : Int32 × Int32 × ea_M => ea_Ev G F_X11_alike res 8 [some (.ref 0), some (.int s8.1), some (.int s8.2.1), none] [] s8.2.2 0 0) Ψ)) t1 e1 q1
    refine ev_iinc (ls' := [some (.ref 0), some (.int x23s.1), some (.int (s8.2.1 + 1)), none]) (ea_at dt_X11_alike 33 rfl) rfl (congrArg (fun z => _ + z) ic_1) (ea_lt rfl) rfl ?_
    refine ev_goto (tgt := 8) (ea_at dt_X11_alike 34 rfl) rfl ?_
    exact ev_leaf (fun h => ea_drop (l' := [some (.ref 0), some (.int x23s.1), some (.int (s8.2.1 + 1)), none]) ⟨Or.inr rfl, Or.inr rfl, Or.inr rfl, Or.inl rfl, trivial⟩ (hC (x23s.1, s8.2.1 + 1, x23s.2) h))
set_option maxHeartbeats 300000 in
theorem ok_X11_alike (G : ea_G) (m : ea_M)  (rZ : Int32) (mZ : ea_M) (hZ : f_X11_alike m = some (rZ, mZ)) : ea_Met G yX11_alike F_X11_alike [.ref 0] m (0, rZ, mZ) := by
  refine ea_met (F := F_X11_alike) (by decide +kernel) rfl rfl (Nat.le_of_ble_eq_true rfl) (by simp only [List.mem_cons, List.not_mem_nil, or_false]; intro v hv; rcases hv with rfl <;> rfl) ((?_ : ea_E G F_X11_alike (0, rZ, mZ) 0 [some (.ref 0), none, none, none] [] m 0 0 (f_X11_alike m) (fun t => t = (rZ, mZ))) (rZ, mZ) hZ rfl)
  have hR : ∀ t : Int32 × ea_M, t = (rZ, mZ) → ((0, rZ, mZ) : ea_O) = (0, t) := fun t h => by rw [h]
  unfold f_X11_alike
  refine ev_aload_n (ea_at dt_X11_alike 0 rfl) rfl ?_
  refine ev_clU (F1 := F_X11_reckonFates) (fun rY mY hY => ea_runV (As := []) (ea_at dt_X11_alike 1 rfl) ml_X11_316 mv_X11_reckonFates (ok_X11_reckonFates G m  rY mY hY) sh_0 rfl rfl rfl (Nat.le_of_ble_eq_true rfl) rfl) rfl (fun r2 m1 => ?_)
  refine ev_iconst (ea_at dt_X11_alike 2 rfl) ic_0 ?_
  refine ev_istore_n (ls' := [some (.ref 0), some (.int 0), none, none]) (ea_at dt_X11_alike 3 rfl) (ea_lt rfl) rfl ?_
  refine ev_iconst (ea_at dt_X11_alike 4 rfl) ic_0 ?_
  refine ev_istore_n (ls' := [some (.ref 0), some (.int 0), some (.int 0), none]) (ea_at dt_X11_alike 5 rfl) (ea_lt rfl) rfl ?_
  refine ev_drop (l' := [some (.ref 0), some (.int 0), some (.int 0), none]) ⟨Or.inr rfl, Or.inr rfl, Or.inr rfl, Or.inl rfl, trivial⟩ ?_
  refine ev_bind (lp_X11_alike_8 G   (fun x8s h => ?_) ea_fuel (0, 0, m1))
  obtain ⟨t1, e1, q1⟩ := h
  refine (?_ : ea_E G F_X11_alike (0, rZ, mZ) 67 [none, some (.int x8s.1), none, none] [] x8s.2 0 0 _ (fun t => t = (rZ, mZ))) t1 e1 q1
  refine ev_iload_n (ea_at dt_X11_alike 35 rfl) rfl ?_
  exact ev_iret (ea_at dt_X11_alike 36 rfl) rfl ⟨by decide, by decide⟩ (fun h => hR _ h)
def F_X11_widest : ea_F := (ea_rm 14 1 6, cX11_widest, RX11, some .int, 8, [], 1, 6)
def D_X11_widest : List (Nat × Instr × Nat) := [(0, .aload_n 0, 1), (1, .iload_n 1, 1), (2, .invokevirtual 157, 3), (5, .aload_n 0, 1), (6, .getfield 23, 3), (9, .getfield 254, 3), (12, .istore_n 2, 1), (13, .aload_n 0, 1), (14, .getfield 23, 3), (17, .getfield 257, 3), (20, .istore_n 3, 1), (21, .iconst (-1), 1), (22, .istore 4, 2), (24, .iconst 0, 1), (25, .istore 5, 2), (27, .iconst 0, 1), (28, .istore 6, 2), (30, .iload 6, 2), (32, .iload_n 3, 1), (33, .iadd, 1), (34, .iload_n 2, 1), (35, .isub, 1), (36, .bipush 16, 2), (38, .if_icmp .ge 67, 3), (41, .aload_n 0, 1), (42, .getfield 23, 3), (45, .iload 6, 2), (47, .putfield 254, 3), (50, .aload_n 0, 1), (51, .getfield 23, 3), (54, .iload 6, 2), (56, .iload_n 3, 1), (57, .iadd, 1), (58, .iload_n 2, 1), (59, .isub, 1), (60, .putfield 257, 3), (63, .aload_n 0, 1), (64, .getfield 92, 3), (67, .iload_n 1, 1), (68, .aload_n 0, 1), (69, .getfield 106, 3), (72, .invokevirtual 360, 3), (75, .aload_n 0, 1), (76, .getfield 106, 3), (79, .invokevirtual 319, 3), (82, .istore 7, 2), (84, .iload 7, 2), (86, .iload 4, 2), (88, .if_icmp .le 11, 3), (91, .iload 7, 2), (93, .istore 4, 2), (95, .iload 6, 2), (97, .istore 5, 2), (99, .iinc 6 1, 3), (102, .goto (-72), 3), (105, .aload_n 0, 1), (106, .getfield 23, 3), (109, .iload_n 2, 1), (110, .putfield 254, 3), (113, .aload_n 0, 1), (114, .getfield 23, 3), (117, .iload_n 3, 1), (118, .putfield 257, 3), (121, .iload 5, 2), (123, .ireturn, 1)]
theorem dt_X11_widest : ∀ q ∈ D_X11_widest, decode cX11_widest q.1 = .ok q.2 := by decide +kernel
theorem mv_X11_widest : ea_MV yX11_widest (F_X11_widest) 1 := ⟨⟨List.mem_append_right _ (List.mem_of_getElem? (i := 1) (by decide +kernel)), List.mem_append_right _ (List.mem_of_getElem? (i := 1355) (by decide +kernel)), ⟨by decide, by decide⟩, by decide +kernel⟩, List.mem_append_right _ (List.mem_of_getElem? (i := 1353) (by decide +kernel)), List.mem_append_right _ (List.mem_of_getElem? (i := 1354) (by decide +kernel))⟩
def f_X11_widest_j99 (p1 : Int32) (x3 : Int32) (x4 : Int32) (x13 : Int32) (x14 : Int32) (x15 : Int32) (m16 : ea_M) : Option ((Int32 × Int32 × Int32 × ea_M) ⊕ (Int32 × ea_M)) :=
  some (.inl (x13, x14, x15 + 1, m16))
def f_X11_widest_s30 (p1 : Int32) (x3 : Int32) (x4 : Int32)  (s30 : Int32 × Int32 × Int32 × ea_M) : Option ((Int32 × Int32 × Int32 × ea_M) ⊕ (Int32 × ea_M)) :=
  ea_bd ((s30.2.2.1 + x4) - x3) fun x5 =>
  if 16 ≤ x5 then
  some (.inr (s30.2.1, s30.2.2.2))
  else
  ea_bd (ea_st s30.2.2.2 2 2 s30.2.2.1) fun m6 =>
  ea_bd ((s30.2.2.1 + x4) - x3) fun x7 =>
  ea_bd (ea_st m6 2 3 x7) fun m8 =>
  ea_cl (f_X10_reckon p1 80 m8) fun r10 m9 =>
  ea_cl (f_X4_allGood 80 m9) fun r12 m11 =>
  if r12 ≤ s30.1 then
  f_X11_widest_j99 p1 x3 x4 s30.1 s30.2.1 s30.2.2.1 m11
  else
  f_X11_widest_j99 p1 x3 x4 r12 s30.2.2.1 s30.2.2.1 m11
def f_X11_widest (p1 : Int32) (m : ea_M) : Option (ea_O) :=
  ea_cx (f_X11_needBird p1 m) (fun r2 m1 =>
  ea_bd (m1 2 2) fun x3 =>
  ea_bd (m1 2 3) fun x4 =>
  (ea_loop (f_X11_widest_s30 p1 x3 x4) ea_fuel ((-1), 0, 0, m1)).bind (fun x30s =>
  ea_bd (ea_st x30s.2 2 2 x3) fun m17 =>
  ea_bd (ea_st m17 2 3 x4) fun m18 =>
  some (0, x30s.1, m18))) (fun kx mx => some (kx, 0, mx))
set_option maxHeartbeats 300000 in
theorem jn_X11_widest_99 (G : ea_G) {res : ea_O}  (p1 : Int32) (x3 : Int32) (x4 : Int32) (x13 : Int32) (x14 : Int32) (x15 : Int32) (m16 : ea_M)  {Φ : ((Int32 × Int32 × Int32 × ea_M) ⊕ (Int32 × ea_M)) → Prop} (hC : ∀ s30 : Int32 × Int32 × Int32 × ea_M, Φ (.inl s30) → ea_Ev G F_X11_widest res 30 [some (.ref 0), some (.int p1), some (.int x3), some (.int x4), some (.int s30.1), some (.int s30.2.1), some (.int s30.2.2.1), none] [] s30.2.2.2 1 6) (hX : ∀ x30s : Int32 × ea_M, Φ (.inr x30s) → ea_Ev G F_X11_widest res 105 [some (.ref 0), none, some (.int x3), some (.int x4), none, some (.int x30s.1), none, none] [] x30s.2 1 6) : ea_E G F_X11_widest res 99 [some (.ref 0), some (.int p1), some (.int x3), some (.int x4), some (.int x13), some (.int x14), some (.int x15), none] [] m16 1 6 (f_X11_widest_j99 p1 x3 x4 x13 x14 x15 m16) Φ := by
  unfold f_X11_widest_j99
  refine ev_iinc (ls' := [some (.ref 0), some (.int p1), some (.int x3), some (.int x4), some (.int x13), some (.int x14), some (.int (x15 + 1)), none]) (ea_at dt_X11_widest 53 rfl) rfl (congrArg (fun z => _ + z) ic_1) (ea_lt rfl) rfl ?_
  refine ev_goto (tgt := 30) (ea_at dt_X11_widest 54 rfl) rfl ?_
  exact ev_leaf (fun h => ea_drop (l' := [some (.ref 0), some (.int p1), some (.int x3), some (.int x4), some (.int x13), some (.int x14), some (.int (x15 + 1)), none]) ⟨Or.inr rfl, Or.inr rfl, Or.inr rfl, Or.inr rfl, Or.inr rfl, Or.inr rfl, Or.inr rfl, Or.inl rfl, trivial⟩ (hC (x13, x14, x15 + 1, m16) h))
set_option maxHeartbeats 300000 in
theorem lp_X11_widest_30 (G : ea_G) {res : ea_O}  (p1 : Int32) (x3 : Int32) (x4 : Int32)  {Ψ : (Int32 × ea_M) → Prop} (hX : ∀ x30s : Int32 × ea_M, Ψ x30s → ea_Ev G F_X11_widest res 105 [some (.ref 0), none, some (.int x3), some (.int x4), none, some (.int x30s.1), none, none] [] x30s.2 1 6) : ∀ (f : Nat) (s30 : Int32 × Int32 × Int32 × ea_M), ea_E G F_X11_widest res 30 [some (.ref 0), some (.int p1), some (.int x3), some (.int x4), some (.int s30.1), some (.int s30.2.1), some (.int s30.2.2.1), none] [] s30.2.2.2 1 6 (ea_loop (f_X11_widest_s30 p1 x3 x4) f s30) Ψ := by
  refine ev_loop (G := G) (F := F_X11_widest) (res := res) (pc := 30) (st := []) (k := 1) (n := 6) (step := (f_X11_widest_s30 p1 x3 x4)) (Ψ := Ψ) (fun (s30 : Int32 × Int32 × Int32 × ea_M) => [some (.ref 0), some (.int p1), some (.int x3), some (.int x4), some (.int s30.1), some (.int s30.2.1), some (.int s30.2.2.1), none]) (fun (s30 : Int32 × Int32 × Int32 × ea_M) => s30.2.2.2) (fun s30 => ?_)
  have hC : ∀ s30 : Int32 × Int32 × Int32 × ea_M, (Sum.elim (fun s30 : Int32 × Int32 × Int32 × ea_M => ea_Ev G F_X11_widest res 30 [some (.ref 0), some (.int p1), some (.int x3), some (.int x4), some (.int s30.1), some (.int s30.2.1), some (.int s30.2.2.1), none] [] s30.2.2.2 1 6) Ψ) (.inl s30) → ea_Ev G F_X11_widest res 30 [some (.ref 0), some (.int p1), some (.int x3), some (.int x4), some (.int s30.1), some (.int s30.2.1), some (.int s30.2.2.1), none] [] s30.2.2.2 1 6 := fun _ h => h
  have hX : ∀ x30s : Int32 × ea_M, (Sum.elim (fun s30 : Int32 × Int32 × Int32 × ea_M => ea_Ev G F_X11_widest res 30 [some (.ref 0), some (.int p1), some (.int x3), some (.int x4), some (.int s30.1), some (.int s30.2.1), some (.int s30.2.2.1), none] [] s30.2.2.2 1 6) Ψ) (.inr x30s) → ea_Ev G F_X11_widest res 105 [some (.ref 0), none, some (.int x3), some (.int x4), none, some (.int x30s.1), none, none] [] x30s.2 1 6 := hX
  unfold f_X11_widest_s30
  refine ev_iload (ea_at dt_X11_widest 17 rfl) rfl ?_
  refine ev_iload_n (ea_at dt_X11_widest 18 rfl) rfl ?_
  refine ev_iadd (ea_at dt_X11_widest 19 rfl) ?_
  refine ev_iload_n (ea_at dt_X11_widest 20 rfl) rfl ?_
  refine ev_isub (ea_at dt_X11_widest 21 rfl) ?_
  refine ev_i (fun x5 => ?_)
  refine ev_bipush (ea_at dt_X11_widest 22 rfl) bp_16 ?_
  refine ev_icmp_ge (tgt := 105) (ea_at dt_X11_widest 23 rfl) rfl (fun _ => ?_) (fun _ => ?_)
  · exact ev_leaf (fun h => ea_drop (l' := [some (.ref 0), none, some (.int x3), some (.int x4), none, some (.int s30.2.1), none, none]) ⟨Or.inr rfl, Or.inl rfl, Or.inr rfl, Or.inr rfl, Or.inl rfl, Or.inr rfl, Or.inl rfl, Or.inl rfl, trivial⟩ (hX (s30.2.1, s30.2.2.2) h))
  · refine ev_aload_n (ea_at dt_X11_widest 24 rfl) rfl ?_
    refine ev_getR (ea_at dt_X11_widest 25 rfl) fl_X11_23 sh_0 rfl ?_
    refine ev_iload (ea_at dt_X11_widest 26 rfl) rfl ?_
    refine ev_putI (ea_at dt_X11_widest 27 rfl) fl_X11_254 fp_2_2 sh_2 rfl ?_
    refine ev_m (fun m6 => ?_)
    refine ev_aload_n (ea_at dt_X11_widest 28 rfl) rfl ?_
    refine ev_getR (ea_at dt_X11_widest 29 rfl) fl_X11_23 sh_0 rfl ?_
    refine ev_iload (ea_at dt_X11_widest 30 rfl) rfl ?_
    refine ev_iload_n (ea_at dt_X11_widest 31 rfl) rfl ?_
    refine ev_iadd (ea_at dt_X11_widest 32 rfl) ?_
    refine ev_iload_n (ea_at dt_X11_widest 33 rfl) rfl ?_
    refine ev_isub (ea_at dt_X11_widest 34 rfl) ?_
    refine ev_i (fun x7 => ?_)
    refine ev_putI (ea_at dt_X11_widest 35 rfl) fl_X11_257 fp_2_3 sh_2 rfl ?_
    refine ev_m (fun m8 => ?_)
    refine ev_aload_n (ea_at dt_X11_widest 36 rfl) rfl ?_
    refine ev_getR (ea_at dt_X11_widest 37 rfl) fl_X11_92 sh_0 rfl ?_
    refine ev_iload_n (ea_at dt_X11_widest 38 rfl) rfl ?_
    refine ev_aload_n (ea_at dt_X11_widest 39 rfl) rfl ?_
    refine ev_getR (ea_at dt_X11_widest 40 rfl) fl_X11_106 sh_0 rfl ?_
    refine ev_clU (F1 := F_X10_reckon) (fun rY mY hY => ea_runV (As := [.int p1, .ref 80]) (ea_at dt_X11_widest 41 rfl) ml_X11_360 mv_X10_reckon (ok_X10_reckon G p1 80 m8 is_Fates_80 rY mY hY) sh_76 rfl rfl rfl (Nat.le_of_ble_eq_true rfl) rfl) rfl (fun r10 m9 => ?_)
    refine ev_aload_n (ea_at dt_X11_widest 42 rfl) rfl ?_
    refine ev_getR (ea_at dt_X11_widest 43 rfl) fl_X11_106 sh_0 rfl ?_
    refine ev_clI (F1 := F_X4_allGood) (fun rY mY hY => ea_runV (As := []) (ea_at dt_X11_widest 44 rfl) ml_X11_319 mv_X4_allGood (ok_X4_allGood G 80 m9 is_Fates_80 rY mY hY) sh_80 rfl rfl rfl (Nat.le_of_ble_eq_true rfl) rfl) rfl (fun r12 m11 => ?_)
    refine ev_istore (ls' := [some (.ref 0), some (.int p1), some (.int x3), some (.int x4), some (.int s30.1), some (.int s30.2.1), some (.int s30.2.2.1), some (.int r12)]) (ea_at dt_X11_widest 45 rfl) (ea_lt rfl) rfl ?_
    refine ev_iload (ea_at dt_X11_widest 46 rfl) rfl ?_
    refine ev_iload (ea_at dt_X11_widest 47 rfl) rfl ?_
    refine ev_icmp_le (tgt := 99) (ea_at dt_X11_widest 48 rfl) rfl (fun _ => ?_) (fun _ => ?_)
    · exact ev_drop (l' := [some (.ref 0), some (.int p1), some (.int x3), some (.int x4), some (.int s30.1), some (.int s30.2.1), some (.int s30.2.2.1), none]) ⟨Or.inr rfl, Or.inr rfl, Or.inr rfl, Or.inr rfl, Or.inr rfl, Or.inr rfl, Or.inr rfl, Or.inl rfl, trivial⟩ (jn_X11_widest_99 G p1 x3 x4 s30.1 s30.2.1 s30.2.2.1 m11  hC hX)
    · refine ev_iload (ea_at dt_X11_widest 49 rfl) rfl ?_
      refine ev_istore (ls' := [some (.ref 0), some (.int p1), some (.int x3), some (.int x4), some (.int r12), some (.int s30.2.1), some (.int s30.2.2.1), some (.int r12)]) (ea_at dt_X11_widest 50 rfl) (ea_lt rfl) rfl ?_
      refine ev_iload (ea_at dt_X11_widest 51 rfl) rfl ?_
      refine ev_istore (ls' := [some (.ref 0), some (.int p1), some (.int x3), some (.int x4), some (.int r12), some (.int s30.2.2.1), some (.int s30.2.2.1), some (.int r12)]) (ea_at dt_X11_widest 52 rfl) (ea_lt rfl) rfl ?_
      exact ev_drop (l' := [some (.ref 0), some (.int p1), some (.int x3), some (.int x4), some (.int r12), some (.int s30.2.2.1), some (.int s30.2.2.1), none]) ⟨Or.inr rfl, Or.inr rfl, Or.inr rfl, Or.inr rfl, Or.inr rfl, Or.inr rfl, Or.inr rfl, Or.inl rfl, trivial⟩ (jn_X11_widest_99 G p1 x3 x4 r12 s30.2.2.1 s30.2.2.1 m11  hC hX)
set_option maxHeartbeats 300000 in
theorem ok_X11_widest (G : ea_G) (p1 : Int32) (m : ea_M)  (zZ : ea_O) (hZ : f_X11_widest p1 m = some zZ) : ea_Met G yX11_widest F_X11_widest [.ref 0, .int p1] m zZ := by
  refine ea_met (F := F_X11_widest) (by decide +kernel) rfl rfl (Nat.le_of_ble_eq_true rfl) (by simp only [List.mem_cons, List.not_mem_nil, or_false]; intro v hv; rcases hv with rfl | rfl <;> rfl) ((?_ : ea_E G F_X11_widest zZ 0 [some (.ref 0), some (.int p1), none, none, none, none, none, none] [] m 0 0 (f_X11_widest p1 m) (fun t => t = zZ)) zZ hZ rfl)
  have hR : ∀ t : ea_O, t = zZ → zZ = t := fun t h => h.symm
  unfold f_X11_widest
  refine ev_aload_n (ea_at dt_X11_widest 0 rfl) rfl ?_
  refine ev_iload_n (ea_at dt_X11_widest 1 rfl) rfl ?_
  refine ev_cxU (F1 := F_X11_needBird) rfl (fun zY hY => ea_runV (As := [.int p1]) (ea_at dt_X11_widest 2 rfl) ml_X11_157 mv_X11_needBird (ok_X11_needBird G p1 m  zY hY) sh_0 rfl rfl rfl (Nat.le_of_ble_eq_true rfl) rfl) rfl ⟨by decide, by decide⟩ (fun kx mx t e q => ⟨0, by cases e; exact hR _ q⟩) (fun r2 m1 => ?_)
  refine ev_aload_n (ea_at dt_X11_widest 3 rfl) rfl ?_
  refine ev_getR (ea_at dt_X11_widest 4 rfl) fl_X11_23 sh_0 rfl ?_
  refine ev_getI (ea_at dt_X11_widest 5 rfl) fl_X11_254 sh_2 rfl ?_
  refine ev_i (fun x3 => ?_)
  refine ev_istore_n (ls' := [some (.ref 0), some (.int p1), some (.int x3), none, none, none, none, none]) (ea_at dt_X11_widest 6 rfl) (ea_lt rfl) rfl ?_
  refine ev_aload_n (ea_at dt_X11_widest 7 rfl) rfl ?_
  refine ev_getR (ea_at dt_X11_widest 8 rfl) fl_X11_23 sh_0 rfl ?_
  refine ev_getI (ea_at dt_X11_widest 9 rfl) fl_X11_257 sh_2 rfl ?_
  refine ev_i (fun x4 => ?_)
  refine ev_istore_n (ls' := [some (.ref 0), some (.int p1), some (.int x3), some (.int x4), none, none, none, none]) (ea_at dt_X11_widest 10 rfl) (ea_lt rfl) rfl ?_
  refine ev_iconst (ea_at dt_X11_widest 11 rfl) ic_m1 ?_
  refine ev_istore (ls' := [some (.ref 0), some (.int p1), some (.int x3), some (.int x4), some (.int (-1)), none, none, none]) (ea_at dt_X11_widest 12 rfl) (ea_lt rfl) rfl ?_
  refine ev_iconst (ea_at dt_X11_widest 13 rfl) ic_0 ?_
  refine ev_istore (ls' := [some (.ref 0), some (.int p1), some (.int x3), some (.int x4), some (.int (-1)), some (.int 0), none, none]) (ea_at dt_X11_widest 14 rfl) (ea_lt rfl) rfl ?_
  refine ev_iconst (ea_at dt_X11_widest 15 rfl) ic_0 ?_
  refine ev_istore (ls' := [some (.ref 0), some (.int p1), some (.int x3), some (.int x4), some (.int (-1)), some (.int 0), some (.int 0), none]) (ea_at dt_X11_widest 16 rfl) (ea_lt rfl) rfl ?_
  refine ev_drop (l' := [some (.ref 0), some (.int p1), some (.int x3), some (.int x4), some (.int (-1)), some (.int 0), some (.int 0), none]) ⟨Or.inr rfl, Or.inr rfl, Or.inr rfl, Or.inr rfl, Or.inr rfl, Or.inr rfl, Or.inr rfl, Or.inl rfl, trivial⟩ ?_
  refine ev_bind (lp_X11_widest_30 G p1 x3 x4   (fun x30s h => ?_) ea_fuel ((-1), 0, 0, m1))
  obtain ⟨t1, e1, q1⟩ := h
  refine (?_ : ea_E G F_X11_widest zZ 105 [some (.ref 0), none, some (.int x3), some (.int x4), none, some (.int x30s.1), none, none] [] x30s.2 1 6 _ (fun t => t = zZ)) t1 e1 q1
  refine ev_aload_n (ea_at dt_X11_widest 55 rfl) rfl ?_
  refine ev_getR (ea_at dt_X11_widest 56 rfl) fl_X11_23 sh_0 rfl ?_
  refine ev_iload_n (ea_at dt_X11_widest 57 rfl) rfl ?_
  refine ev_putI (ea_at dt_X11_widest 58 rfl) fl_X11_254 fp_2_2 sh_2 rfl ?_
  refine ev_m (fun m17 => ?_)
  refine ev_aload_n (ea_at dt_X11_widest 59 rfl) rfl ?_
  refine ev_getR (ea_at dt_X11_widest 60 rfl) fl_X11_23 sh_0 rfl ?_
  refine ev_iload_n (ea_at dt_X11_widest 61 rfl) rfl ?_
  refine ev_putI (ea_at dt_X11_widest 62 rfl) fl_X11_257 fp_2_3 sh_2 rfl ?_
  refine ev_m (fun m18 => ?_)
  refine ev_iload (ea_at dt_X11_widest 63 rfl) rfl ?_
  exact ev_iret (ea_at dt_X11_widest 64 rfl) rfl ⟨by decide, by decide⟩ (fun h => hR _ h)
def F_X4_ahead : ea_F := (ea_rm 8 0 0, cX4_ahead, RX4, some .int, 5, [], 0, 0)
def D_X4_ahead : List (Nat × Instr × Nat) := [(0, .iconst 0, 1), (1, .istore_n 2, 1), (2, .sipush 6561, 3), (5, .istore_n 3, 1), (6, .iconst 1, 1), (7, .istore 4, 2), (9, .iload 4, 2), (11, .bipush 8, 2), (13, .if_icmp .gt 31, 3), (16, .iload_n 3, 1), (17, .aload_n 1, 1), (18, .getfield 22, 3), (21, .iload 4, 2), (23, .iaload, 1), (24, .isub, 1), (25, .istore_n 3, 1), (26, .iload_n 2, 1), (27, .aload_n 0, 1), (28, .getfield 22, 3), (31, .iload 4, 2), (33, .iaload, 1), (34, .iload_n 3, 1), (35, .imul, 1), (36, .iadd, 1), (37, .istore_n 2, 1), (38, .iinc 4 1, 3), (41, .goto (-32), 3), (44, .iload_n 2, 1), (45, .ireturn, 1)]
theorem dt_X4_ahead : ∀ q ∈ D_X4_ahead, decode cX4_ahead q.1 = .ok q.2 := by decide +kernel
theorem mv_X4_ahead : ea_MV yX4_ahead (F_X4_ahead) 1 := ⟨⟨List.mem_append_right _ (List.mem_of_getElem? (i := 12) (by decide +kernel)), List.mem_append_right _ (List.mem_of_getElem? (i := 1231) (by decide +kernel)), ⟨by decide, by decide⟩, by decide +kernel⟩, List.mem_append_right _ (List.mem_of_getElem? (i := 1229) (by decide +kernel)), List.mem_append_right _ (List.mem_of_getElem? (i := 1230) (by decide +kernel))⟩
def f_X4_ahead_s9 (a : Nat) (p1 : Nat)  (s9 : Int32 × Int32 × Int32 × ea_M) : Option ((Int32 × Int32 × Int32 × ea_M) ⊕ (Int32 × ea_M)) :=
  if 8 < s9.2.2.1 then
  some (.inr (s9.1, s9.2.2.2))
  else
  ea_g s9.2.2.1 9 (ea_bd (s9.2.2.2 (p1 + 2) (Int32.toNatClampNeg s9.2.2.1)) fun x1 =>
  ea_bd (s9.2.1 - x1) fun x2 =>
  ea_g s9.2.2.1 9 (ea_bd (s9.2.2.2 (a + 2) (Int32.toNatClampNeg s9.2.2.1)) fun x3 =>
  ea_bd (s9.1 + (x3 * x2)) fun x4 =>
  some (.inl (x4, x2, s9.2.2.1 + 1, s9.2.2.2))))
def f_X4_ahead (a : Nat) (p1 : Nat) (m : ea_M) : Option (Int32 × ea_M) :=
  (ea_loop (f_X4_ahead_s9 a p1) ea_fuel (0, 6561, 1, m)).bind (fun x9s =>
  some (x9s.1, x9s.2))
set_option maxHeartbeats 300000 in
theorem lp_X4_ahead_9 (G : ea_G) {res : ea_O}  (a : Nat) (p1 : Nat) (ha : ea_isFates a) (hp1 : ea_isFates p1) {Ψ : (Int32 × ea_M) → Prop} (hX : ∀ x9s : Int32 × ea_M, Ψ x9s → ea_Ev G F_X4_ahead res 44 [none, none, some (.int x9s.1), none, none] [] x9s.2 0 0) : ∀ (f : Nat) (s9 : Int32 × Int32 × Int32 × ea_M), ea_E G F_X4_ahead res 9 [some (.ref a), some (.ref p1), some (.int s9.1), some (.int s9.2.1), some (.int s9.2.2.1)] [] s9.2.2.2 0 0 (ea_loop (f_X4_ahead_s9 a p1) f s9) Ψ := by
  refine ev_loop (G := G) (F := F_X4_ahead) (res := res) (pc := 9) (st := []) (k := 0) (n := 0) (step := (f_X4_ahead_s9 a p1)) (Ψ := Ψ) (fun (s9 : Int32 × Int32 × Int32 × ea_M) => [some (.ref a), some (.ref p1), some (.int s9.1), some (.int s9.2.1), some (.int s9.2.2.1)]) (fun (s9 : Int32 × Int32 × Int32 × ea_M) => s9.2.2.2) (fun s9 => ?_)
  have hC : ∀ s9 : Int32 × Int32 × Int32 × ea_M, (Sum.elim (fun s9 : Int32 × Int32 × Int32 × ea_M => ea_Ev G F_X4_ahead res 9 [some (.ref a), some (.ref p1), some (.int s9.1), some (.int s9.2.1), some (.int s9.2.2.1)] [] s9.2.2.2 0 0) Ψ) (.inl s9) → ea_Ev G F_X4_ahead res 9 [some (.ref a), some (.ref p1), some (.int s9.1), some (.int s9.2.1), some (.int s9.2.2.1)] [] s9.2.2.2 0 0 := fun _ h => h
  have hX : ∀ x9s : Int32 × ea_M, (Sum.elim (fun s9 : Int32 × Int32 × Int32 × ea_M => ea_Ev G F_X4_ahead res 9 [some (.ref a), some (.ref p1), some (.int s9.1), some (.int s9.2.1), some (.int s9.2.2.1)] [] s9.2.2.2 0 0) Ψ) (.inr x9s) → ea_Ev G F_X4_ahead res 44 [none, none, some (.int x9s.1), none, none] [] x9s.2 0 0 := hX
  unfold f_X4_ahead_s9
  refine ev_iload (ea_at dt_X4_ahead 6 rfl) rfl ?_
  refine ev_bipush (ea_at dt_X4_ahead 7 rfl) bp_8 ?_
  refine ev_icmp_gt (tgt := 44) (ea_at dt_X4_ahead 8 rfl) rfl (fun _ => ?_) (fun _ => ?_)
  · exact ev_leaf (fun h => ea_drop (l' := [none, none, some (.int s9.1), none, none]) ⟨Or.inl rfl, Or.inl rfl, Or.inr rfl, Or.inl rfl, Or.inl rfl, trivial⟩ (hX (s9.1, s9.2.2.2) h))
  · refine ev_iload_n (ea_at dt_X4_ahead 9 rfl) rfl ?_
    refine ev_aload_n (ea_at dt_X4_ahead 10 rfl) rfl ?_
    refine ev_getR (ea_at dt_X4_ahead 11 rfl) fl_X4_22 hp1.1 rfl ?_
    refine ev_iload (ea_at dt_X4_ahead 12 rfl) rfl ?_
    refine ev_iaload (ea_at dt_X4_ahead 13 rfl) hp1.2.2 (by decide) ?_
    refine ev_i (fun x1 => ?_)
    refine ev_isub (ea_at dt_X4_ahead 14 rfl) ?_
    refine ev_i (fun x2 => ?_)
    refine ev_istore_n (ls' := [some (.ref a), some (.ref p1), some (.int s9.1), some (.int x2), some (.int s9.2.2.1)]) (ea_at dt_X4_ahead 15 rfl) (ea_lt rfl) rfl ?_
    refine ev_iload_n (ea_at dt_X4_ahead 16 rfl) rfl ?_
    refine ev_aload_n (ea_at dt_X4_ahead 17 rfl) rfl ?_
    refine ev_getR (ea_at dt_X4_ahead 18 rfl) fl_X4_22 ha.1 rfl ?_
    refine ev_iload (ea_at dt_X4_ahead 19 rfl) rfl ?_
    refine ev_iaload (ea_at dt_X4_ahead 20 rfl) ha.2.2 (by decide) ?_
    refine ev_i (fun x3 => ?_)
    refine ev_iload_n (ea_at dt_X4_ahead 21 rfl) rfl ?_
    refine ev_imul (ea_at dt_X4_ahead 22 rfl) ?_
    refine ev_iadd (ea_at dt_X4_ahead 23 rfl) ?_
    refine ev_i (fun x4 => ?_)
    refine ev_istore_n (ls' := [some (.ref a), some (.ref p1), some (.int x4), some (.int x2), some (.int s9.2.2.1)]) (ea_at dt_X4_ahead 24 rfl) (ea_lt rfl) rfl ?_
    refine ev_iinc (ls' := [some (.ref a), some (.ref p1), some (.int x4), some (.int x2), some (.int (s9.2.2.1 + 1))]) (ea_at dt_X4_ahead 25 rfl) rfl (congrArg (fun z => _ + z) ic_1) (ea_lt rfl) rfl ?_
    refine ev_goto (tgt := 9) (ea_at dt_X4_ahead 26 rfl) rfl ?_
    exact ev_leaf (fun h => ea_drop (l' := [some (.ref a), some (.ref p1), some (.int x4), some (.int x2), some (.int (s9.2.2.1 + 1))]) ⟨Or.inr rfl, Or.inr rfl, Or.inr rfl, Or.inr rfl, Or.inr rfl, trivial⟩ (hC (x4, x2, s9.2.2.1 + 1, s9.2.2.2) h))
set_option maxHeartbeats 300000 in
theorem ok_X4_ahead (G : ea_G) (a : Nat) (p1 : Nat) (m : ea_M) (ha : ea_isFates a) (hp1 : ea_isFates p1) (rZ : Int32) (mZ : ea_M) (hZ : f_X4_ahead a p1 m = some (rZ, mZ)) : ea_Met G yX4_ahead F_X4_ahead [.ref a, .ref p1] m (0, rZ, mZ) := by
  refine ea_met (F := F_X4_ahead) (by decide +kernel) rfl rfl (Nat.le_of_ble_eq_true rfl) (by simp only [List.mem_cons, List.not_mem_nil, or_false]; intro v hv; rcases hv with rfl | rfl <;> rfl) ((?_ : ea_E G F_X4_ahead (0, rZ, mZ) 0 [some (.ref a), some (.ref p1), none, none, none] [] m 0 0 (f_X4_ahead a p1 m) (fun t => t = (rZ, mZ))) (rZ, mZ) hZ rfl)
  have hR : ∀ t : Int32 × ea_M, t = (rZ, mZ) → ((0, rZ, mZ) : ea_O) = (0, t) := fun t h => by rw [h]
  unfold f_X4_ahead
  refine ev_iconst (ea_at dt_X4_ahead 0 rfl) ic_0 ?_
  refine ev_istore_n (ls' := [some (.ref a), some (.ref p1), some (.int 0), none, none]) (ea_at dt_X4_ahead 1 rfl) (ea_lt rfl) rfl ?_
  refine ev_sipush (ea_at dt_X4_ahead 2 rfl) sp_6561 ?_
  refine ev_istore_n (ls' := [some (.ref a), some (.ref p1), some (.int 0), some (.int 6561), none]) (ea_at dt_X4_ahead 3 rfl) (ea_lt rfl) rfl ?_
  refine ev_iconst (ea_at dt_X4_ahead 4 rfl) ic_1 ?_
  refine ev_istore (ls' := [some (.ref a), some (.ref p1), some (.int 0), some (.int 6561), some (.int 1)]) (ea_at dt_X4_ahead 5 rfl) (ea_lt rfl) rfl ?_
  refine ev_drop (l' := [some (.ref a), some (.ref p1), some (.int 0), some (.int 6561), some (.int 1)]) ⟨Or.inr rfl, Or.inr rfl, Or.inr rfl, Or.inr rfl, Or.inr rfl, trivial⟩ ?_
  refine ev_bind (lp_X4_ahead_9 G a p1 ha hp1  (fun x9s h => ?_) ea_fuel (0, 6561, 1, m))
  obtain ⟨t1, e1, q1⟩ := h
  refine (?_ : ea_E G F_X4_ahead (0, rZ, mZ) 44 [none, none, some (.int x9s.1), none, none] [] x9s.2 0 0 _ (fun t => t = (rZ, mZ))) t1 e1 q1
  refine ev_iload_n (ea_at dt_X4_ahead 27 rfl) rfl ?_
  exact ev_iret (ea_at dt_X4_ahead 28 rfl) rfl ⟨by decide, by decide⟩ (fun h => hR _ h)
def F_X11_hasIt : ea_F := (ea_rm 9 0 0, cX11_hasIt, RX11, some .int, 3, [], 0, 0)
def D_X11_hasIt : List (Nat × Instr × Nat) := [(0, .aload_n 0, 1), (1, .getfield 98, 3), (4, .iload_n 1, 1), (5, .aaload, 1), (6, .aload_n 0, 1), (7, .getfield 98, 3), (10, .iload_n 2, 1), (11, .aaload, 1), (12, .invokevirtual 374, 3), (15, .ireturn, 1)]
theorem dt_X11_hasIt : ∀ q ∈ D_X11_hasIt, decode cX11_hasIt q.1 = .ok q.2 := by decide +kernel
theorem mv_X11_hasIt : ea_MV yX11_hasIt (F_X11_hasIt) 2 := ⟨⟨List.mem_append_right _ (List.mem_of_getElem? (i := 1) (by decide +kernel)), List.mem_append_right _ (List.mem_of_getElem? (i := 1227) (by decide +kernel)), ⟨by decide, by decide⟩, by decide +kernel⟩, List.mem_append_right _ (List.mem_of_getElem? (i := 1226) (by decide +kernel)), List.mem_append_left _ (List.mem_of_getElem? (i := 33) (by decide +kernel))⟩
def f_X11_hasIt (p1 : Int32) (p2 : Int32) (m : ea_M) : Option (Int32 × ea_M) :=
  ea_g p1 6 (ea_bd (ea_rFates.getD (Int32.toNatClampNeg p1) 0) fun a1 =>
  ea_g p2 6 (ea_bd (ea_rFates.getD (Int32.toNatClampNeg p2) 0) fun a2 =>
  ea_cl (f_X4_ahead a1 a2 m) fun r4 m3 =>
  some (r4, m3)))
set_option maxHeartbeats 300000 in
theorem ok_X11_hasIt (G : ea_G) (p1 : Int32) (p2 : Int32) (m : ea_M)  (rZ : Int32) (mZ : ea_M) (hZ : f_X11_hasIt p1 p2 m = some (rZ, mZ)) : ea_Met G yX11_hasIt F_X11_hasIt [.ref 0, .int p1, .int p2] m (0, rZ, mZ) := by
  refine ea_met (F := F_X11_hasIt) (by decide +kernel) rfl rfl (Nat.le_of_ble_eq_true rfl) (by simp only [List.mem_cons, List.not_mem_nil, or_false]; intro v hv; rcases hv with rfl | rfl | rfl <;> rfl) ((?_ : ea_E G F_X11_hasIt (0, rZ, mZ) 0 [some (.ref 0), some (.int p1), some (.int p2)] [] m 0 0 (f_X11_hasIt p1 p2 m) (fun t => t = (rZ, mZ))) (rZ, mZ) hZ rfl)
  have hR : ∀ t : Int32 × ea_M, t = (rZ, mZ) → ((0, rZ, mZ) : ea_O) = (0, t) := fun t h => by rw [h]
  unfold f_X11_hasIt
  refine ev_aload_n (ea_at dt_X11_hasIt 0 rfl) rfl ?_
  refine ev_getR (ea_at dt_X11_hasIt 1 rfl) fl_X11_98 sh_0 rfl ?_
  refine ev_iload_n (ea_at dt_X11_hasIt 2 rfl) rfl ?_
  refine ev_aaloadP (rs := ea_rFates) (P := ea_isFates) ea_rFates_is (ea_at dt_X11_hasIt 3 rfl) sh_79 rfl (fun a1 ha1 => ?_)
  refine ev_aload_n (ea_at dt_X11_hasIt 4 rfl) rfl ?_
  refine ev_getR (ea_at dt_X11_hasIt 5 rfl) fl_X11_98 sh_0 rfl ?_
  refine ev_iload_n (ea_at dt_X11_hasIt 6 rfl) rfl ?_
  refine ev_aaloadP (rs := ea_rFates) (P := ea_isFates) ea_rFates_is (ea_at dt_X11_hasIt 7 rfl) sh_79 rfl (fun a2 ha2 => ?_)
  refine ev_clI (F1 := F_X4_ahead) (fun rY mY hY => ea_runV (As := [.ref a2]) (ea_at dt_X11_hasIt 8 rfl) ml_X11_374 mv_X4_ahead (ok_X4_ahead G a1 a2 m ha1 ha2 rY mY hY) ha1.1 rfl rfl rfl (Nat.le_of_ble_eq_true rfl) rfl) rfl (fun r4 m3 => ?_)
  exact ev_iret (ea_at dt_X11_hasIt 9 rfl) rfl ⟨by decide, by decide⟩ (fun h => hR _ h)
