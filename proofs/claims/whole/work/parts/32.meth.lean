def F_X12_alike : ea_F := (ea_rm 18 0 0, cX12_alike, RX12, some .int, 6, [], 0, 0)
def D_X12_alike : List (Nat × Instr × Nat) := [(0, .aload_n 0, 1), (1, .iconst 0, 1), (2, .putfield 3, 3), (5, .aload_n 0, 1), (6, .invokevirtual 378, 3), (9, .iconst 0, 1), (10, .istore_n 1, 1), (11, .iconst 0, 1), (12, .istore_n 2, 1), (13, .iload_n 2, 1), (14, .aload_n 0, 1), (15, .invokevirtual 74, 3), (18, .if_icmp .ge 83, 3), (21, .iconst 0, 1), (22, .istore_n 3, 1), (23, .iload_n 3, 1), (24, .iload_n 2, 1), (25, .if_icmp .ge 70, 3), (28, .iconst 1, 1), (29, .istore 4, 2), (31, .iconst 1, 1), (32, .istore 5, 2), (34, .iload 5, 2), (36, .bipush 8, 2), (38, .if_icmp .gt 38, 3), (41, .iload 4, 2), (43, .ifCond .eq 24, 3), (46, .aload_n 0, 1), (47, .iload_n 2, 1), (48, .iload 5, 2), (50, .invokevirtual 372, 3), (53, .aload_n 0, 1), (54, .iload_n 3, 1), (55, .iload 5, 2), (57, .invokevirtual 372, 3), (60, .if_icmp .ne 7, 3), (63, .iconst 1, 1), (64, .goto 4, 3), (67, .iconst 0, 1), (68, .istore 4, 2), (70, .iinc 5 1, 3), (73, .goto (-39), 3), (76, .iload_n 1, 1), (77, .iload 4, 2), (79, .ifCond .eq 7, 3), (82, .iconst 1, 1), (83, .goto 4, 3), (86, .iconst 0, 1), (87, .iadd, 1), (88, .istore_n 1, 1), (89, .iinc 3 1, 3), (92, .goto (-69), 3), (95, .iinc 2 1, 3), (98, .goto (-85), 3), (101, .iload_n 1, 1), (102, .ireturn, 1)]
theorem dt_X12_alike : ∀ q ∈ D_X12_alike, decode cX12_alike q.1 = .ok q.2 := by decide +kernel
theorem mv_X12_alike : ea_MV yX12_alike (F_X12_alike) 0 := ⟨⟨List.mem_append_right _ (List.mem_of_getElem? (i := 13) (by decide +kernel)), List.mem_append_right _ (List.mem_of_getElem? (i := 1851) (by decide +kernel)), ⟨by decide, by decide⟩, by decide +kernel⟩, List.mem_append_right _ (List.mem_of_getElem? (i := 1849) (by decide +kernel)), List.mem_append_right _ (List.mem_of_getElem? (i := 1850) (by decide +kernel))⟩
def f_X12_alike_j68 (s13 : Int32 × Int32 × ea_M) (s23 : Int32 × Int32 × ea_M) (x8 : Int32) (x9 : Int32) (m10 : ea_M) : Option ((Int32 × Int32 × ea_M) ⊕ (Int32 × ea_M)) :=
  some (.inl (x9, x8 + 1, m10))
def f_X12_alike_j67 (s13 : Int32 × Int32 × ea_M) (s23 : Int32 × Int32 × ea_M) (x6 : Int32) (m7 : ea_M) : Option ((Int32 × Int32 × ea_M) ⊕ (Int32 × ea_M)) :=
  f_X12_alike_j68 s13 s23 x6 0 m7
def f_X12_alike_s34 (s13 : Int32 × Int32 × ea_M) (s23 : Int32 × Int32 × ea_M)  (s34 : Int32 × Int32 × ea_M) : Option ((Int32 × Int32 × ea_M) ⊕ (Int32 × ea_M)) :=
  if 8 < s34.2.1 then
  some (.inr (s34.1, s34.2.2))
  else
  if s34.1 = 0 then
  f_X12_alike_j67 s13 s23 s34.2.1 s34.2.2
  else
  ea_cl (f_X12_goodOf s13.2.1 s34.2.1 s34.2.2) fun r12 m11 =>
  ea_cl (f_X12_goodOf s23.2.1 s34.2.1 m11) fun r14 m13 =>
  if r12 = r14 then
  f_X12_alike_j68 s13 s23 s34.2.1 1 m13
  else
  f_X12_alike_j67 s13 s23 s34.2.1 m13
def f_X12_alike_j87 (s13 : Int32 × Int32 × ea_M) (x15 : Int32) (x16 : Int32) (x17 : Int32) (m18 : ea_M) : Option ((Int32 × Int32 × ea_M) ⊕ (Int32 × ea_M)) :=
  ea_bd (x16 + x17) fun x19 =>
  some (.inl (x19, x15 + 1, m18))
def f_X12_alike_s23 (s13 : Int32 × Int32 × ea_M)  (s23 : Int32 × Int32 × ea_M) : Option ((Int32 × Int32 × ea_M) ⊕ (Int32 × ea_M)) :=
  if s13.2.1 ≤ s23.2.1 then
  some (.inr (s23.1, s23.2.2))
  else
  (ea_loop (f_X12_alike_s34 s13 s23) ea_fuel (1, 1, s23.2.2)).bind (fun x34s =>
  if x34s.1 = 0 then
  f_X12_alike_j87 s13 s23.2.1 s23.1 0 x34s.2
  else
  f_X12_alike_j87 s13 s23.2.1 s23.1 1 x34s.2)
def f_X12_alike_s13  (s13 : Int32 × Int32 × ea_M) : Option ((Int32 × Int32 × ea_M) ⊕ (Int32 × ea_M)) :=
  ea_cl (f_X12_birds s13.2.2) fun r5 m4 =>
  if r5 ≤ s13.2.1 then
  some (.inr (s13.1, m4))
  else
  (ea_loop (f_X12_alike_s23 s13) ea_fuel (s13.1, 0, m4)).bind (fun x23s =>
  some (.inl (x23s.1, s13.2.1 + 1, x23s.2)))
def f_X12_alike (m : ea_M) : Option (Int32 × ea_M) :=
  ea_bd (ea_st m 272 0 0) fun m1 =>
  ea_cl (f_X12_laysAllGoods m1) fun r3 m2 =>
  (ea_loop f_X12_alike_s13 ea_fuel (0, 0, m2)).bind (fun x13s =>
  some (x13s.1, x13s.2))
set_option maxHeartbeats 300000 in
theorem jn_X12_alike_68 (G : ea_G) {res : ea_O}  (s13 : Int32 × Int32 × ea_M) (s23 : Int32 × Int32 × ea_M) (x8 : Int32) (x9 : Int32) (m10 : ea_M)  {Φ : ((Int32 × Int32 × ea_M) ⊕ (Int32 × ea_M)) → Prop} (hC : ∀ s34 : Int32 × Int32 × ea_M, Φ (.inl s34) → ea_Ev G F_X12_alike res 34 [some (.ref 272), some (.int s23.1), some (.int s13.2.1), some (.int s23.2.1), some (.int s34.1), some (.int s34.2.1)] [] s34.2.2 0 0) (hX : ∀ x34s : Int32 × ea_M, Φ (.inr x34s) → ea_Ev G F_X12_alike res 76 [some (.ref 272), some (.int s23.1), some (.int s13.2.1), some (.int s23.2.1), some (.int x34s.1), none] [] x34s.2 0 0) : ea_E G F_X12_alike res 68 [some (.ref 272), some (.int s23.1), some (.int s13.2.1), some (.int s23.2.1), none, some (.int x8)] [.int x9] m10 0 0 (f_X12_alike_j68 s13 s23 x8 x9 m10) Φ := by
  unfold f_X12_alike_j68
  refine ev_istore (ls' := [some (.ref 272), some (.int s23.1), some (.int s13.2.1), some (.int s23.2.1), some (.int x9), some (.int x8)]) (ea_at dt_X12_alike 39 rfl) (ea_lt rfl) rfl ?_
  refine ev_iinc (ls' := [some (.ref 272), some (.int s23.1), some (.int s13.2.1), some (.int s23.2.1), some (.int x9), some (.int (x8 + 1))]) (ea_at dt_X12_alike 40 rfl) rfl (congrArg (fun z => _ + z) ic_1) (ea_lt rfl) rfl ?_
  refine ev_goto (tgt := 34) (ea_at dt_X12_alike 41 rfl) rfl ?_
  exact ev_leaf (fun h => ea_drop (l' := [some (.ref 272), some (.int s23.1), some (.int s13.2.1), some (.int s23.2.1), some (.int x9), some (.int (x8 + 1))]) ⟨Or.inr rfl, Or.inr rfl, Or.inr rfl, Or.inr rfl, Or.inr rfl, Or.inr rfl, trivial⟩ (hC (x9, x8 + 1, m10) h))
set_option maxHeartbeats 300000 in
theorem jn_X12_alike_67 (G : ea_G) {res : ea_O}  (s13 : Int32 × Int32 × ea_M) (s23 : Int32 × Int32 × ea_M) (x6 : Int32) (m7 : ea_M)  {Φ : ((Int32 × Int32 × ea_M) ⊕ (Int32 × ea_M)) → Prop} (hC : ∀ s34 : Int32 × Int32 × ea_M, Φ (.inl s34) → ea_Ev G F_X12_alike res 34 [some (.ref 272), some (.int s23.1), some (.int s13.2.1), some (.int s23.2.1), some (.int s34.1), some (.int s34.2.1)] [] s34.2.2 0 0) (hX : ∀ x34s : Int32 × ea_M, Φ (.inr x34s) → ea_Ev G F_X12_alike res 76 [some (.ref 272), some (.int s23.1), some (.int s13.2.1), some (.int s23.2.1), some (.int x34s.1), none] [] x34s.2 0 0) : ea_E G F_X12_alike res 67 [some (.ref 272), some (.int s23.1), some (.int s13.2.1), some (.int s23.2.1), none, some (.int x6)] [] m7 0 0 (f_X12_alike_j67 s13 s23 x6 m7) Φ := by
  unfold f_X12_alike_j67
  refine ev_iconst (ea_at dt_X12_alike 38 rfl) ic_0 ?_
  exact ev_drop (l' := [some (.ref 272), some (.int s23.1), some (.int s13.2.1), some (.int s23.2.1), none, some (.int x6)]) ⟨Or.inr rfl, Or.inr rfl, Or.inr rfl, Or.inr rfl, Or.inl rfl, Or.inr rfl, trivial⟩ (jn_X12_alike_68 G s13 s23 x6 0 m7  hC hX)
set_option maxHeartbeats 300000 in
theorem lp_X12_alike_34 (G : ea_G) {res : ea_O}  (s13 : Int32 × Int32 × ea_M) (s23 : Int32 × Int32 × ea_M)  {Ψ : (Int32 × ea_M) → Prop} (hX : ∀ x34s : Int32 × ea_M, Ψ x34s → ea_Ev G F_X12_alike res 76 [some (.ref 272), some (.int s23.1), some (.int s13.2.1), some (.int s23.2.1), some (.int x34s.1), none] [] x34s.2 0 0) : ∀ (f : Nat) (s34 : Int32 × Int32 × ea_M), ea_E G F_X12_alike res 34 [some (.ref 272), some (.int s23.1), some (.int s13.2.1), some (.int s23.2.1), some (.int s34.1), some (.int s34.2.1)] [] s34.2.2 0 0 (ea_loop (f_X12_alike_s34 s13 s23) f s34) Ψ := by
  refine ev_loop (G := G) (F := F_X12_alike) (res := res) (pc := 34) (st := []) (k := 0) (n := 0) (step := (f_X12_alike_s34 s13 s23)) (Ψ := Ψ) (fun (s34 : Int32 × Int32 × ea_M) => [some (.ref 272), some (.int s23.1), some (.int s13.2.1), some (.int s23.2.1), some (.int s34.1), some (.int s34.2.1)]) (fun (s34 : Int32 × Int32 × ea_M) => s34.2.2) (fun s34 => ?_)
  have hC : ∀ s34 : Int32 × Int32 × ea_M, (Sum.elim (fun s34 : Int32 × Int32 × ea_M => ea_Ev G F_X12_alike res 34 [some (.ref 272), some (.int s23.1), some (.int s13.2.1), some (.int s23.2.1), some (.int s34.1), some (.int s34.2.1)] [] s34.2.2 0 0) Ψ) (.inl s34) → ea_Ev G F_X12_alike res 34 [some (.ref 272), some (.int s23.1), some (.int s13.2.1), some (.int s23.2.1), some (.int s34.1), some (.int s34.2.1)] [] s34.2.2 0 0 := fun _ h => h
  have hX : ∀ x34s : Int32 × ea_M, (Sum.elim (fun s34 : Int32 × Int32 × ea_M => ea_Ev G F_X12_alike res 34 [some (.ref 272), some (.int s23.1), some (.int s13.2.1), some (.int s23.2.1), some (.int s34.1), some (.int s34.2.1)] [] s34.2.2 0 0) Ψ) (.inr x34s) → ea_Ev G F_X12_alike res 76 [some (.ref 272), some (.int s23.1), some (.int s13.2.1), some (.int s23.2.1), some (.int x34s.1), none] [] x34s.2 0 0 := hX
  unfold f_X12_alike_s34
  refine ev_iload (ea_at dt_X12_alike 22 rfl) rfl ?_
  refine ev_bipush (ea_at dt_X12_alike 23 rfl) bp_8 ?_
  refine ev_icmp_gt (tgt := 76) (ea_at dt_X12_alike 24 rfl) rfl (fun _ => ?_) (fun _ => ?_)
  · exact ev_leaf (fun h => ea_drop (l' := [some (.ref 272), some (.int s23.1), some (.int s13.2.1), some (.int s23.2.1), some (.int s34.1), none]) ⟨Or.inr rfl, Or.inr rfl, Or.inr rfl, Or.inr rfl, Or.inr rfl, Or.inl rfl, trivial⟩ (hX (s34.1, s34.2.2) h))
  · refine ev_iload (ea_at dt_X12_alike 25 rfl) rfl ?_
    refine ev_if_eq (tgt := 67) (ea_at dt_X12_alike 26 rfl) rfl (fun _ => ?_) (fun _ => ?_)
    · exact ev_drop (l' := [some (.ref 272), some (.int s23.1), some (.int s13.2.1), some (.int s23.2.1), none, some (.int s34.2.1)]) ⟨Or.inr rfl, Or.inr rfl, Or.inr rfl, Or.inr rfl, Or.inl rfl, Or.inr rfl, trivial⟩ (jn_X12_alike_67 G s13 s23 s34.2.1 s34.2.2  hC hX)
    · refine ev_aload_n (ea_at dt_X12_alike 27 rfl) rfl ?_
      refine ev_iload_n (ea_at dt_X12_alike 28 rfl) rfl ?_
      refine ev_iload (ea_at dt_X12_alike 29 rfl) rfl ?_
      refine ev_clI (F1 := F_X12_goodOf) (fun rY mY hY => ea_runV (As := [.int s13.2.1, .int s34.2.1]) (ea_at dt_X12_alike 30 rfl) ml_X12_372 mv_X12_goodOf (ok_X12_goodOf G s13.2.1 s34.2.1 s34.2.2  rY mY hY) sh_272 rfl rfl rfl (Nat.le_of_ble_eq_true rfl) rfl) rfl (fun r12 m11 => ?_)
      refine ev_aload_n (ea_at dt_X12_alike 31 rfl) rfl ?_
      refine ev_iload_n (ea_at dt_X12_alike 32 rfl) rfl ?_
      refine ev_iload (ea_at dt_X12_alike 33 rfl) rfl ?_
      refine ev_clI (F1 := F_X12_goodOf) (fun rY mY hY => ea_runV (As := [.int s23.2.1, .int s34.2.1]) (ea_at dt_X12_alike 34 rfl) ml_X12_372 mv_X12_goodOf (ok_X12_goodOf G s23.2.1 s34.2.1 m11  rY mY hY) sh_272 rfl rfl rfl (Nat.le_of_ble_eq_true rfl) rfl) rfl (fun r14 m13 => ?_)
      refine ev_icmp_ne (tgt := 67) (ea_at dt_X12_alike 35 rfl) rfl (fun _ => ?_) (fun _ => ?_)
      · refine ev_iconst (ea_at dt_X12_alike 36 rfl) ic_1 ?_
        refine ev_goto (tgt := 68) (ea_at dt_X12_alike 37 rfl) rfl ?_
        exact ev_drop (l' := [some (.ref 272), some (.int s23.1), some (.int s13.2.1), some (.int s23.2.1), none, some (.int s34.2.1)]) ⟨Or.inr rfl, Or.inr rfl, Or.inr rfl, Or.inr rfl, Or.inl rfl, Or.inr rfl, trivial⟩ (jn_X12_alike_68 G s13 s23 s34.2.1 1 m13  hC hX)
      · exact ev_drop (l' := [some (.ref 272), some (.int s23.1), some (.int s13.2.1), some (.int s23.2.1), none, some (.int s34.2.1)]) ⟨Or.inr rfl, Or.inr rfl, Or.inr rfl, Or.inr rfl, Or.inl rfl, Or.inr rfl, trivial⟩ (jn_X12_alike_67 G s13 s23 s34.2.1 m13  hC hX)
set_option maxHeartbeats 300000 in
theorem jn_X12_alike_87 (G : ea_G) {res : ea_O}  (s13 : Int32 × Int32 × ea_M) (x15 : Int32) (x16 : Int32) (x17 : Int32) (m18 : ea_M)  {Φ : ((Int32 × Int32 × ea_M) ⊕ (Int32 × ea_M)) → Prop} (hC : ∀ s23 : Int32 × Int32 × ea_M, Φ (.inl s23) → ea_Ev G F_X12_alike res 23 [some (.ref 272), some (.int s23.1), some (.int s13.2.1), some (.int s23.2.1), none, none] [] s23.2.2 0 0) (hX : ∀ x23s : Int32 × ea_M, Φ (.inr x23s) → ea_Ev G F_X12_alike res 95 [some (.ref 272), some (.int x23s.1), some (.int s13.2.1), none, none, none] [] x23s.2 0 0) : ea_E G F_X12_alike res 87 [some (.ref 272), none, some (.int s13.2.1), some (.int x15), none, none] [.int x17, .int x16] m18 0 0 (f_X12_alike_j87 s13 x15 x16 x17 m18) Φ := by
  unfold f_X12_alike_j87
  refine ev_iadd (ea_at dt_X12_alike 48 rfl) ?_
  refine ev_i (fun x19 => ?_)
  refine ev_istore_n (ls' := [some (.ref 272), some (.int x19), some (.int s13.2.1), some (.int x15), none, none]) (ea_at dt_X12_alike 49 rfl) (ea_lt rfl) rfl ?_
  refine ev_iinc (ls' := [some (.ref 272), some (.int x19), some (.int s13.2.1), some (.int (x15 + 1)), none, none]) (ea_at dt_X12_alike 50 rfl) rfl (congrArg (fun z => _ + z) ic_1) (ea_lt rfl) rfl ?_
  refine ev_goto (tgt := 23) (ea_at dt_X12_alike 51 rfl) rfl ?_
  exact ev_leaf (fun h => ea_drop (l' := [some (.ref 272), some (.int x19), some (.int s13.2.1), some (.int (x15 + 1)), none, none]) ⟨Or.inr rfl, Or.inr rfl, Or.inr rfl, Or.inr rfl, Or.inl rfl, Or.inl rfl, trivial⟩ (hC (x19, x15 + 1, m18) h))
set_option maxHeartbeats 300000 in
theorem lp_X12_alike_23 (G : ea_G) {res : ea_O}  (s13 : Int32 × Int32 × ea_M)  {Ψ : (Int32 × ea_M) → Prop} (hX : ∀ x23s : Int32 × ea_M, Ψ x23s → ea_Ev G F_X12_alike res 95 [some (.ref 272), some (.int x23s.1), some (.int s13.2.1), none, none, none] [] x23s.2 0 0) : ∀ (f : Nat) (s23 : Int32 × Int32 × ea_M), ea_E G F_X12_alike res 23 [some (.ref 272), some (.int s23.1), some (.int s13.2.1), some (.int s23.2.1), none, none] [] s23.2.2 0 0 (ea_loop (f_X12_alike_s23 s13) f s23) Ψ := by
  refine ev_loop (G := G) (F := F_X12_alike) (res := res) (pc := 23) (st := []) (k := 0) (n := 0) (step := (f_X12_alike_s23 s13)) (Ψ := Ψ) (fun (s23 : Int32 × Int32 × ea_M) => [some (.ref 272), some (.int s23.1), some (.int s13.2.1), some (.int s23.2.1), none, none]) (fun (s23 : Int32 × Int32 × ea_M) => s23.2.2) (fun s23 => ?_)
  have hC : ∀ s23 : Int32 × Int32 × ea_M, (Sum.elim (fun s23 : Int32 × Int32 × ea_M => ea_Ev G F_X12_alike res 23 [some (.ref 272), some (.int s23.1), some (.int s13.2.1), some (.int s23.2.1), none, none] [] s23.2.2 0 0) Ψ) (.inl s23) → ea_Ev G F_X12_alike res 23 [some (.ref 272), some (.int s23.1), some (.int s13.2.1), some (.int s23.2.1), none, none] [] s23.2.2 0 0 := fun _ h => h
  have hX : ∀ x23s : Int32 × ea_M, (Sum.elim (fun s23 : Int32 × Int32 × ea_M => ea_Ev G F_X12_alike res 23 [some (.ref 272), some (.int s23.1), some (.int s13.2.1), some (.int s23.2.1), none, none] [] s23.2.2 0 0) Ψ) (.inr x23s) → ea_Ev G F_X12_alike res 95 [some (.ref 272), some (.int x23s.1), some (.int s13.2.1), none, none, none] [] x23s.2 0 0 := hX
  unfold f_X12_alike_s23
  refine ev_iload_n (ea_at dt_X12_alike 15 rfl) rfl ?_
  refine ev_iload_n (ea_at dt_X12_alike 16 rfl) rfl ?_
  refine ev_icmp_ge (tgt := 95) (ea_at dt_X12_alike 17 rfl) rfl (fun _ => ?_) (fun _ => ?_)
  · exact ev_leaf (fun h => ea_drop (l' := [some (.ref 272), some (.int s23.1), some (.int s13.2.1), none, none, none]) ⟨Or.inr rfl, Or.inr rfl, Or.inr rfl, Or.inl rfl, Or.inl rfl, Or.inl rfl, trivial⟩ (hX (s23.1, s23.2.2) h))
  · refine ev_iconst (ea_at dt_X12_alike 18 rfl) ic_1 ?_
    refine ev_istore (ls' := [some (.ref 272), some (.int s23.1), some (.int s13.2.1), some (.int s23.2.1), some (.int 1), none]) (ea_at dt_X12_alike 19 rfl) (ea_lt rfl) rfl ?_
    refine ev_iconst (ea_at dt_X12_alike 20 rfl) ic_1 ?_
    refine ev_istore (ls' := [some (.ref 272), some (.int s23.1), some (.int s13.2.1), some (.int s23.2.1), some (.int 1), some (.int 1)]) (ea_at dt_X12_alike 21 rfl) (ea_lt rfl) rfl ?_
    refine ev_drop (l' := [some (.ref 272), some (.int s23.1), some (.int s13.2.1), some (.int s23.2.1), some (.int 1), some (.int 1)]) ⟨Or.inr rfl, Or.inr rfl, Or.inr rfl, Or.inr rfl, Or.inr rfl, Or.inr rfl, trivial⟩ ?_
    refine ev_bind (lp_X12_alike_34 G s13 s23   (fun x34s h => ?_) ea_fuel (1, 1, s23.2.2))
    obtain ⟨t1, e1, q1⟩ := h
    refine (?_ : ea_E G F_X12_alike res 76 [some (.ref 272), some (.int s23.1), some (.int s13.2.1), some (.int s23.2.1), some (.int x34s.1), none] [] x34s.2 0 0 _ (Sum.elim (fun s23 : Int32 × Int32 × ea_M => ea_Ev G F_X12_alike res 23 [some (.ref 272), some (.int s23.1), some (.int s13.2.1), some (.int s23.2.1), none, none] [] s23.2.2 0 0) Ψ)) t1 e1 q1
    refine ev_iload_n (ea_at dt_X12_alike 42 rfl) rfl ?_
    refine ev_iload (ea_at dt_X12_alike 43 rfl) rfl ?_
    refine ev_if_eq (tgt := 86) (ea_at dt_X12_alike 44 rfl) rfl (fun _ => ?_) (fun _ => ?_)
    · refine ev_iconst (ea_at dt_X12_alike 47 rfl) ic_0 ?_
      exact ev_drop (l' := [some (.ref 272), none, some (.int s13.2.1), some (.int s23.2.1), none, none]) ⟨Or.inr rfl, Or.inl rfl, Or.inr rfl, Or.inr rfl, Or.inl rfl, Or.inl rfl, trivial⟩ (jn_X12_alike_87 G s13 s23.2.1 s23.1 0 x34s.2  hC hX)
    · refine ev_iconst (ea_at dt_X12_alike 45 rfl) ic_1 ?_
      refine ev_goto (tgt := 87) (ea_at dt_X12_alike 46 rfl) rfl ?_
      exact ev_drop (l' := [some (.ref 272), none, some (.int s13.2.1), some (.int s23.2.1), none, none]) ⟨Or.inr rfl, Or.inl rfl, Or.inr rfl, Or.inr rfl, Or.inl rfl, Or.inl rfl, trivial⟩ (jn_X12_alike_87 G s13 s23.2.1 s23.1 1 x34s.2  hC hX)
set_option maxHeartbeats 300000 in
theorem lp_X12_alike_13 (G : ea_G) {res : ea_O}    {Ψ : (Int32 × ea_M) → Prop} (hX : ∀ x13s : Int32 × ea_M, Ψ x13s → ea_Ev G F_X12_alike res 101 [none, some (.int x13s.1), none, none, none, none] [] x13s.2 0 0) : ∀ (f : Nat) (s13 : Int32 × Int32 × ea_M), ea_E G F_X12_alike res 13 [some (.ref 272), some (.int s13.1), some (.int s13.2.1), none, none, none] [] s13.2.2 0 0 (ea_loop f_X12_alike_s13 f s13) Ψ := by
  refine ev_loop (G := G) (F := F_X12_alike) (res := res) (pc := 13) (st := []) (k := 0) (n := 0) (step := f_X12_alike_s13) (Ψ := Ψ) (fun (s13 : Int32 × Int32 × ea_M) => [some (.ref 272), some (.int s13.1), some (.int s13.2.1), none, none, none]) (fun (s13 : Int32 × Int32 × ea_M) => s13.2.2) (fun s13 => ?_)
  have hC : ∀ s13 : Int32 × Int32 × ea_M, (Sum.elim (fun s13 : Int32 × Int32 × ea_M => ea_Ev G F_X12_alike res 13 [some (.ref 272), some (.int s13.1), some (.int s13.2.1), none, none, none] [] s13.2.2 0 0) Ψ) (.inl s13) → ea_Ev G F_X12_alike res 13 [some (.ref 272), some (.int s13.1), some (.int s13.2.1), none, none, none] [] s13.2.2 0 0 := fun _ h => h
  have hX : ∀ x13s : Int32 × ea_M, (Sum.elim (fun s13 : Int32 × Int32 × ea_M => ea_Ev G F_X12_alike res 13 [some (.ref 272), some (.int s13.1), some (.int s13.2.1), none, none, none] [] s13.2.2 0 0) Ψ) (.inr x13s) → ea_Ev G F_X12_alike res 101 [none, some (.int x13s.1), none, none, none, none] [] x13s.2 0 0 := hX
  unfold f_X12_alike_s13
  refine ev_iload_n (ea_at dt_X12_alike 9 rfl) rfl ?_
  refine ev_aload_n (ea_at dt_X12_alike 10 rfl) rfl ?_
  refine ev_clI (F1 := F_X12_birds) (fun rY mY hY => ea_runV (As := []) (ea_at dt_X12_alike 11 rfl) ml_X12_74 mv_X12_birds (ok_X12_birds G s13.2.2  rY mY hY) sh_272 rfl rfl rfl (Nat.le_of_ble_eq_true rfl) rfl) rfl (fun r5 m4 => ?_)
  refine ev_icmp_ge (tgt := 101) (ea_at dt_X12_alike 12 rfl) rfl (fun _ => ?_) (fun _ => ?_)
  · exact ev_leaf (fun h => ea_drop (l' := [none, some (.int s13.1), none, none, none, none]) ⟨Or.inl rfl, Or.inr rfl, Or.inl rfl, Or.inl rfl, Or.inl rfl, Or.inl rfl, trivial⟩ (hX (s13.1, m4) h))
  · refine ev_iconst (ea_at dt_X12_alike 13 rfl) ic_0 ?_
    refine ev_istore_n (ls' := [some (.ref 272), some (.int s13.1), some (.int s13.2.1), some (.int 0), none, none]) (ea_at dt_X12_alike 14 rfl) (ea_lt rfl) rfl ?_
    refine ev_drop (l' := [some (.ref 272), some (.int s13.1), some (.int s13.2.1), some (.int 0), none, none]) ⟨Or.inr rfl, Or.inr rfl, Or.inr rfl, Or.inr rfl, Or.inl rfl, Or.inl rfl, trivial⟩ ?_
    refine ev_bind (lp_X12_alike_23 G s13   (fun x23s h => ?_) ea_fuel (s13.1, 0, m4))
    obtain ⟨t1, e1, q1⟩ := h
    refine (?_ : ea_E G F_X12_alike res 95 [some (.ref 272), some (.int x23s.1), some (.int s13.2.1), none, none, none] [] x23s.2 0 0 _ (Sum.elim (fun s13 : Int32 × Int32 × ea_M => ea_Ev G F_X12_alike res 13 [some (.ref 272), some (.int s13.1), some (.int s13.2.1), none, none, none] [] s13.2.2 0 0) Ψ)) t1 e1 q1
    refine ev_iinc (ls' := [some (.ref 272), some (.int x23s.1), some (.int (s13.2.1 + 1)), none, none, none]) (ea_at dt_X12_alike 52 rfl) rfl (congrArg (fun z => _ + z) ic_1) (ea_lt rfl) rfl ?_
    refine ev_goto (tgt := 13) (ea_at dt_X12_alike 53 rfl) rfl ?_
    exact ev_leaf (fun h => ea_drop (l' := [some (.ref 272), some (.int x23s.1), some (.int (s13.2.1 + 1)), none, none, none]) ⟨Or.inr rfl, Or.inr rfl, Or.inr rfl, Or.inl rfl, Or.inl rfl, Or.inl rfl, trivial⟩ (hC (x23s.1, s13.2.1 + 1, x23s.2) h))
set_option maxHeartbeats 300000 in
theorem ok_X12_alike (G : ea_G) (m : ea_M)  (rZ : Int32) (mZ : ea_M) (hZ : f_X12_alike m = some (rZ, mZ)) : ea_Met G yX12_alike F_X12_alike [.ref 272] m (0, rZ, mZ) := by
  refine ea_met (F := F_X12_alike) (by decide +kernel) rfl rfl (Nat.le_of_ble_eq_true rfl) (by simp only [List.mem_cons, List.not_mem_nil, or_false]; intro v hv; rcases hv with rfl <;> rfl) ((?_ : ea_E G F_X12_alike (0, rZ, mZ) 0 [some (.ref 272), none, none, none, none, none] [] m 0 0 (f_X12_alike m) (fun t => t = (rZ, mZ))) (rZ, mZ) hZ rfl)
  have hR : ∀ t : Int32 × ea_M, t = (rZ, mZ) → ((0, rZ, mZ) : ea_O) = (0, t) := fun t h => by rw [h]
  unfold f_X12_alike
  refine ev_aload_n (ea_at dt_X12_alike 0 rfl) rfl ?_
  refine ev_iconst (ea_at dt_X12_alike 1 rfl) ic_0 ?_
  refine ev_putI (ea_at dt_X12_alike 2 rfl) fl_X12_3 fp_12_0 sh_272 rfl ?_
  refine ev_m (fun m1 => ?_)
  refine ev_aload_n (ea_at dt_X12_alike 3 rfl) rfl ?_
  refine ev_clU (F1 := F_X12_laysAllGoods) (fun rY mY hY => ea_runV (As := []) (ea_at dt_X12_alike 4 rfl) ml_X12_378 mv_X12_laysAllGoods (ok_X12_laysAllGoods G m1  rY mY hY) sh_272 rfl rfl rfl (Nat.le_of_ble_eq_true rfl) rfl) rfl (fun r3 m2 => ?_)
  refine ev_iconst (ea_at dt_X12_alike 5 rfl) ic_0 ?_
  refine ev_istore_n (ls' := [some (.ref 272), some (.int 0), none, none, none, none]) (ea_at dt_X12_alike 6 rfl) (ea_lt rfl) rfl ?_
  refine ev_iconst (ea_at dt_X12_alike 7 rfl) ic_0 ?_
  refine ev_istore_n (ls' := [some (.ref 272), some (.int 0), some (.int 0), none, none, none]) (ea_at dt_X12_alike 8 rfl) (ea_lt rfl) rfl ?_
  refine ev_drop (l' := [some (.ref 272), some (.int 0), some (.int 0), none, none, none]) ⟨Or.inr rfl, Or.inr rfl, Or.inr rfl, Or.inl rfl, Or.inl rfl, Or.inl rfl, trivial⟩ ?_
  refine ev_bind (lp_X12_alike_13 G   (fun x13s h => ?_) ea_fuel (0, 0, m2))
  obtain ⟨t1, e1, q1⟩ := h
  refine (?_ : ea_E G F_X12_alike (0, rZ, mZ) 101 [none, some (.int x13s.1), none, none, none, none] [] x13s.2 0 0 _ (fun t => t = (rZ, mZ))) t1 e1 q1
  refine ev_iload_n (ea_at dt_X12_alike 54 rfl) rfl ?_
  exact ev_iret (ea_at dt_X12_alike 55 rfl) rfl ⟨by decide, by decide⟩ (fun h => hR _ h)
def F_X12_isOpen : ea_F := (ea_rm 10 0 0, cX12_isOpen, RX12, some .boolean, 2, [], 0, 0)
def D_X12_isOpen : List (Nat × Instr × Nat) := [(0, .aload_n 0, 1), (1, .iload_n 1, 1), (2, .iconst 3, 1), (3, .invokevirtual 387, 3), (6, .ifCond .ne 7, 3), (9, .iconst 1, 1), (10, .goto 4, 3), (13, .iconst 0, 1), (14, .ireturn, 1)]
theorem dt_X12_isOpen : ∀ q ∈ D_X12_isOpen, decode cX12_isOpen q.1 = .ok q.2 := by decide +kernel
theorem mv_X12_isOpen : ea_MV yX12_isOpen (F_X12_isOpen) 1 := ⟨⟨List.mem_append_right _ (List.mem_of_getElem? (i := 13) (by decide +kernel)), List.mem_append_right _ (List.mem_of_getElem? (i := 1895) (by decide +kernel)), ⟨by decide, by decide⟩, by decide +kernel⟩, List.mem_append_right _ (List.mem_of_getElem? (i := 1894) (by decide +kernel)), List.mem_append_left _ (List.mem_of_getElem? (i := 103) (by decide +kernel))⟩
def f_X12_isOpen (p1 : Int32) (m : ea_M) : Option (Int32 × ea_M) :=
  ea_cl (f_X12_ofCase p1 3 m) fun r2 m1 =>
  if r2 = 0 then
  some (1, m1)
  else
  some (0, m1)
set_option maxHeartbeats 300000 in
theorem ok_X12_isOpen (G : ea_G) (p1 : Int32) (m : ea_M)  (rZ : Int32) (mZ : ea_M) (hZ : f_X12_isOpen p1 m = some (rZ, mZ)) : ea_Met G yX12_isOpen F_X12_isOpen [.ref 272, .int p1] m (0, rZ, mZ) := by
  refine ea_met (F := F_X12_isOpen) (by decide +kernel) rfl rfl (Nat.le_of_ble_eq_true rfl) (by simp only [List.mem_cons, List.not_mem_nil, or_false]; intro v hv; rcases hv with rfl | rfl <;> rfl) ((?_ : ea_E G F_X12_isOpen (0, rZ, mZ) 0 [some (.ref 272), some (.int p1)] [] m 0 0 (f_X12_isOpen p1 m) (fun t => t = (rZ, mZ))) (rZ, mZ) hZ rfl)
  have hR : ∀ t : Int32 × ea_M, t = (rZ, mZ) → ((0, rZ, mZ) : ea_O) = (0, t) := fun t h => by rw [h]
  unfold f_X12_isOpen
  refine ev_aload_n (ea_at dt_X12_isOpen 0 rfl) rfl ?_
  refine ev_iload_n (ea_at dt_X12_isOpen 1 rfl) rfl ?_
  refine ev_iconst (ea_at dt_X12_isOpen 2 rfl) ic_3 ?_
  refine ev_clI (F1 := F_X12_ofCase) (fun rY mY hY => ea_runV (As := [.int p1, .int 3]) (ea_at dt_X12_isOpen 3 rfl) ml_X12_387 mv_X12_ofCase (ok_X12_ofCase G p1 3 m  rY mY hY) sh_272 rfl rfl rfl (Nat.le_of_ble_eq_true rfl) rfl) rfl (fun r2 m1 => ?_)
  refine ev_if_ne (tgt := 13) (ea_at dt_X12_isOpen 4 rfl) rfl (fun _ => ?_) (fun _ => ?_)
  · refine ev_iconst (ea_at dt_X12_isOpen 5 rfl) ic_1 ?_
    refine ev_goto (tgt := 14) (ea_at dt_X12_isOpen 6 rfl) rfl ?_
    exact ev_zret (by decide) (ea_at dt_X12_isOpen 8 rfl) rfl ⟨by decide, by decide⟩ (fun h => hR _ h)
  · refine ev_iconst (ea_at dt_X12_isOpen 7 rfl) ic_0 ?_
    exact ev_zret (by decide) (ea_at dt_X12_isOpen 8 rfl) rfl ⟨by decide, by decide⟩ (fun h => hR _ h)
def F_X12_choices : ea_F := (ea_rm 10 0 0, cX12_choices, RX12, some .int, 5, [], 0, 0)
def D_X12_choices : List (Nat × Instr × Nat) := [(0, .iconst 0, 1), (1, .istore_n 3, 1), (2, .iconst 0, 1), (3, .istore 4, 2), (5, .iload 4, 2), (7, .aload_n 0, 1), (8, .invokevirtual 74, 3), (11, .if_icmp .ge 49, 3), (14, .iload_n 3, 1), (15, .aload_n 0, 1), (16, .iload_n 1, 1), (17, .iconst 2, 1), (18, .invokevirtual 387, 3), (21, .iload 4, 2), (23, .invokestatic 127, 3), (26, .ifCond .eq 25, 3), (29, .aload_n 0, 1), (30, .aload_n 0, 1), (31, .iload_n 1, 1), (32, .iload_n 2, 1), (33, .invokevirtual 387, 3), (36, .iload 4, 2), (38, .invokevirtual 390, 3), (41, .ifCond .le 10, 3), (44, .iconst 1, 1), (45, .iload 4, 2), (47, .ishl, 1), (48, .goto 4, 3), (51, .iconst 0, 1), (52, .ior, 1), (53, .istore_n 3, 1), (54, .iinc 4 1, 3), (57, .goto (-52), 3), (60, .iload_n 3, 1), (61, .ireturn, 1)]
theorem dt_X12_choices : ∀ q ∈ D_X12_choices, decode cX12_choices q.1 = .ok q.2 := by decide +kernel
theorem mv_X12_choices : ea_MV yX12_choices (F_X12_choices) 2 := ⟨⟨List.mem_append_right _ (List.mem_of_getElem? (i := 13) (by decide +kernel)), List.mem_append_right _ (List.mem_of_getElem? (i := 1883) (by decide +kernel)), ⟨by decide, by decide⟩, by decide +kernel⟩, List.mem_append_right _ (List.mem_of_getElem? (i := 1882) (by decide +kernel)), List.mem_append_left _ (List.mem_of_getElem? (i := 102) (by decide +kernel))⟩
def f_X12_choices_j52 (p1 : Int32) (p2 : Int32) (x10 : Int32) (x11 : Int32) (x12 : Int32) (m13 : ea_M) : Option ((Int32 × Int32 × ea_M) ⊕ (Int32 × ea_M)) :=
  ea_bd (x11 ||| x12) fun x14 =>
  some (.inl (x14, x10 + 1, m13))
def f_X12_choices_j51 (p1 : Int32) (p2 : Int32) (x7 : Int32) (x8 : Int32) (m9 : ea_M) : Option ((Int32 × Int32 × ea_M) ⊕ (Int32 × ea_M)) :=
  f_X12_choices_j52 p1 p2 x7 x8 0 m9
def f_X12_choices_s5 (p1 : Int32) (p2 : Int32)  (s5 : Int32 × Int32 × ea_M) : Option ((Int32 × Int32 × ea_M) ⊕ (Int32 × ea_M)) :=
  ea_cl (f_X12_birds s5.2.2) fun r2 m1 =>
  if r2 ≤ s5.2.1 then
  some (.inr (s5.1, m1))
  else
  ea_cl (f_X12_ofCase p1 2 m1) fun r4 m3 =>
  ea_cl (f_X12_has r4 s5.2.1 m3) fun r6 m5 =>
  if r6 = 0 then
  f_X12_choices_j51 p1 p2 s5.2.1 s5.1 m5
  else
  ea_cl (f_X12_ofCase p1 p2 m5) fun r16 m15 =>
  ea_cl (f_X12_stockOf r16 s5.2.1 m15) fun r18 m17 =>
  if r18 ≤ 0 then
  f_X12_choices_j51 p1 p2 s5.2.1 s5.1 m17
  else
  f_X12_choices_j52 p1 p2 s5.2.1 s5.1 (1 <<< (s5.2.1 &&& 31)) m17
def f_X12_choices (p1 : Int32) (p2 : Int32) (m : ea_M) : Option (Int32 × ea_M) :=
  (ea_loop (f_X12_choices_s5 p1 p2) ea_fuel (0, 0, m)).bind (fun x5s =>
  some (x5s.1, x5s.2))
set_option maxHeartbeats 300000 in
theorem jn_X12_choices_52 (G : ea_G) {res : ea_O}  (p1 : Int32) (p2 : Int32) (x10 : Int32) (x11 : Int32) (x12 : Int32) (m13 : ea_M)  {Φ : ((Int32 × Int32 × ea_M) ⊕ (Int32 × ea_M)) → Prop} (hC : ∀ s5 : Int32 × Int32 × ea_M, Φ (.inl s5) → ea_Ev G F_X12_choices res 5 [some (.ref 272), some (.int p1), some (.int p2), some (.int s5.1), some (.int s5.2.1)] [] s5.2.2 0 0) (hX : ∀ x5s : Int32 × ea_M, Φ (.inr x5s) → ea_Ev G F_X12_choices res 60 [none, none, none, some (.int x5s.1), none] [] x5s.2 0 0) : ea_E G F_X12_choices res 52 [some (.ref 272), some (.int p1), some (.int p2), none, some (.int x10)] [.int x12, .int x11] m13 0 0 (f_X12_choices_j52 p1 p2 x10 x11 x12 m13) Φ := by
  unfold f_X12_choices_j52
  refine ev_ior (ea_at dt_X12_choices 29 rfl) ?_
  refine ev_i (fun x14 => ?_)
  refine ev_istore_n (ls' := [some (.ref 272), some (.int p1), some (.int p2), some (.int x14), some (.int x10)]) (ea_at dt_X12_choices 30 rfl) (ea_lt rfl) rfl ?_
  refine ev_iinc (ls' := [some (.ref 272), some (.int p1), some (.int p2), some (.int x14), some (.int (x10 + 1))]) (ea_at dt_X12_choices 31 rfl) rfl (congrArg (fun z => _ + z) ic_1) (ea_lt rfl) rfl ?_
  refine ev_goto (tgt := 5) (ea_at dt_X12_choices 32 rfl) rfl ?_
  exact ev_leaf (fun h => ea_drop (l' := [some (.ref 272), some (.int p1), some (.int p2), some (.int x14), some (.int (x10 + 1))]) ⟨Or.inr rfl, Or.inr rfl, Or.inr rfl, Or.inr rfl, Or.inr rfl, trivial⟩ (hC (x14, x10 + 1, m13) h))
set_option maxHeartbeats 300000 in
theorem jn_X12_choices_51 (G : ea_G) {res : ea_O}  (p1 : Int32) (p2 : Int32) (x7 : Int32) (x8 : Int32) (m9 : ea_M)  {Φ : ((Int32 × Int32 × ea_M) ⊕ (Int32 × ea_M)) → Prop} (hC : ∀ s5 : Int32 × Int32 × ea_M, Φ (.inl s5) → ea_Ev G F_X12_choices res 5 [some (.ref 272), some (.int p1), some (.int p2), some (.int s5.1), some (.int s5.2.1)] [] s5.2.2 0 0) (hX : ∀ x5s : Int32 × ea_M, Φ (.inr x5s) → ea_Ev G F_X12_choices res 60 [none, none, none, some (.int x5s.1), none] [] x5s.2 0 0) : ea_E G F_X12_choices res 51 [some (.ref 272), some (.int p1), some (.int p2), none, some (.int x7)] [.int x8] m9 0 0 (f_X12_choices_j51 p1 p2 x7 x8 m9) Φ := by
  unfold f_X12_choices_j51
  refine ev_iconst (ea_at dt_X12_choices 28 rfl) ic_0 ?_
  exact ev_drop (l' := [some (.ref 272), some (.int p1), some (.int p2), none, some (.int x7)]) ⟨Or.inr rfl, Or.inr rfl, Or.inr rfl, Or.inl rfl, Or.inr rfl, trivial⟩ (jn_X12_choices_52 G p1 p2 x7 x8 0 m9  hC hX)
set_option maxHeartbeats 300000 in
theorem lp_X12_choices_5 (G : ea_G) {res : ea_O}  (p1 : Int32) (p2 : Int32)  {Ψ : (Int32 × ea_M) → Prop} (hX : ∀ x5s : Int32 × ea_M, Ψ x5s → ea_Ev G F_X12_choices res 60 [none, none, none, some (.int x5s.1), none] [] x5s.2 0 0) : ∀ (f : Nat) (s5 : Int32 × Int32 × ea_M), ea_E G F_X12_choices res 5 [some (.ref 272), some (.int p1), some (.int p2), some (.int s5.1), some (.int s5.2.1)] [] s5.2.2 0 0 (ea_loop (f_X12_choices_s5 p1 p2) f s5) Ψ := by
  refine ev_loop (G := G) (F := F_X12_choices) (res := res) (pc := 5) (st := []) (k := 0) (n := 0) (step := (f_X12_choices_s5 p1 p2)) (Ψ := Ψ) (fun (s5 : Int32 × Int32 × ea_M) => [some (.ref 272), some (.int p1), some (.int p2), some (.int s5.1), some (.int s5.2.1)]) (fun (s5 : Int32 × Int32 × ea_M) => s5.2.2) (fun s5 => ?_)
  have hC : ∀ s5 : Int32 × Int32 × ea_M, (Sum.elim (fun s5 : Int32 × Int32 × ea_M => ea_Ev G F_X12_choices res 5 [some (.ref 272), some (.int p1), some (.int p2), some (.int s5.1), some (.int s5.2.1)] [] s5.2.2 0 0) Ψ) (.inl s5) → ea_Ev G F_X12_choices res 5 [some (.ref 272), some (.int p1), some (.int p2), some (.int s5.1), some (.int s5.2.1)] [] s5.2.2 0 0 := fun _ h => h
  have hX : ∀ x5s : Int32 × ea_M, (Sum.elim (fun s5 : Int32 × Int32 × ea_M => ea_Ev G F_X12_choices res 5 [some (.ref 272), some (.int p1), some (.int p2), some (.int s5.1), some (.int s5.2.1)] [] s5.2.2 0 0) Ψ) (.inr x5s) → ea_Ev G F_X12_choices res 60 [none, none, none, some (.int x5s.1), none] [] x5s.2 0 0 := hX
  unfold f_X12_choices_s5
  refine ev_iload (ea_at dt_X12_choices 4 rfl) rfl ?_
  refine ev_aload_n (ea_at dt_X12_choices 5 rfl) rfl ?_
  refine ev_clI (F1 := F_X12_birds) (fun rY mY hY => ea_runV (As := []) (ea_at dt_X12_choices 6 rfl) ml_X12_74 mv_X12_birds (ok_X12_birds G s5.2.2  rY mY hY) sh_272 rfl rfl rfl (Nat.le_of_ble_eq_true rfl) rfl) rfl (fun r2 m1 => ?_)
  refine ev_icmp_ge (tgt := 60) (ea_at dt_X12_choices 7 rfl) rfl (fun _ => ?_) (fun _ => ?_)
  · exact ev_leaf (fun h => ea_drop (l' := [none, none, none, some (.int s5.1), none]) ⟨Or.inl rfl, Or.inl rfl, Or.inl rfl, Or.inr rfl, Or.inl rfl, trivial⟩ (hX (s5.1, m1) h))
  · refine ev_iload_n (ea_at dt_X12_choices 8 rfl) rfl ?_
    refine ev_aload_n (ea_at dt_X12_choices 9 rfl) rfl ?_
    refine ev_iload_n (ea_at dt_X12_choices 10 rfl) rfl ?_
    refine ev_iconst (ea_at dt_X12_choices 11 rfl) ic_2 ?_
    refine ev_clI (F1 := F_X12_ofCase) (fun rY mY hY => ea_runV (As := [.int p1, .int 2]) (ea_at dt_X12_choices 12 rfl) ml_X12_387 mv_X12_ofCase (ok_X12_ofCase G p1 2 m1  rY mY hY) sh_272 rfl rfl rfl (Nat.le_of_ble_eq_true rfl) rfl) rfl (fun r4 m3 => ?_)
    refine ev_iload (ea_at dt_X12_choices 13 rfl) rfl ?_
    refine ev_clI (F1 := F_X12_has) (fun rY mY hY => ea_runS (As := [.int r4, .int s5.2.1]) (ea_at dt_X12_choices 14 rfl) ml_X12_127 mv_X12_has (ok_X12_has G r4 s5.2.1 m3  rY mY hY) rfl rfl (Nat.le_of_ble_eq_true rfl) rfl) rfl (fun r6 m5 => ?_)
    refine ev_if_eq (tgt := 51) (ea_at dt_X12_choices 15 rfl) rfl (fun _ => ?_) (fun _ => ?_)
    · exact ev_drop (l' := [some (.ref 272), some (.int p1), some (.int p2), none, some (.int s5.2.1)]) ⟨Or.inr rfl, Or.inr rfl, Or.inr rfl, Or.inl rfl, Or.inr rfl, trivial⟩ (jn_X12_choices_51 G p1 p2 s5.2.1 s5.1 m5  hC hX)
    · refine ev_aload_n (ea_at dt_X12_choices 16 rfl) rfl ?_
      refine ev_aload_n (ea_at dt_X12_choices 17 rfl) rfl ?_
      refine ev_iload_n (ea_at dt_X12_choices 18 rfl) rfl ?_
      refine ev_iload_n (ea_at dt_X12_choices 19 rfl) rfl ?_
      refine ev_clI (F1 := F_X12_ofCase) (fun rY mY hY => ea_runV (As := [.int p1, .int p2]) (ea_at dt_X12_choices 20 rfl) ml_X12_387 mv_X12_ofCase (ok_X12_ofCase G p1 p2 m5  rY mY hY) sh_272 rfl rfl rfl (Nat.le_of_ble_eq_true rfl) rfl) rfl (fun r16 m15 => ?_)
      refine ev_iload (ea_at dt_X12_choices 21 rfl) rfl ?_
      refine ev_clI (F1 := F_X12_stockOf) (fun rY mY hY => ea_runV (As := [.int r16, .int s5.2.1]) (ea_at dt_X12_choices 22 rfl) ml_X12_390 mv_X12_stockOf (ok_X12_stockOf G r16 s5.2.1 m15  rY mY hY) sh_272 rfl rfl rfl (Nat.le_of_ble_eq_true rfl) rfl) rfl (fun r18 m17 => ?_)
      refine ev_if_le (tgt := 51) (ea_at dt_X12_choices 23 rfl) rfl (fun _ => ?_) (fun _ => ?_)
      · exact ev_drop (l' := [some (.ref 272), some (.int p1), some (.int p2), none, some (.int s5.2.1)]) ⟨Or.inr rfl, Or.inr rfl, Or.inr rfl, Or.inl rfl, Or.inr rfl, trivial⟩ (jn_X12_choices_51 G p1 p2 s5.2.1 s5.1 m17  hC hX)
      · refine ev_iconst (ea_at dt_X12_choices 24 rfl) ic_1 ?_
        refine ev_iload (ea_at dt_X12_choices 25 rfl) rfl ?_
        refine ev_ishl (ea_at dt_X12_choices 26 rfl) ?_
        refine ev_goto (tgt := 52) (ea_at dt_X12_choices 27 rfl) rfl ?_
        exact ev_drop (l' := [some (.ref 272), some (.int p1), some (.int p2), none, some (.int s5.2.1)]) ⟨Or.inr rfl, Or.inr rfl, Or.inr rfl, Or.inl rfl, Or.inr rfl, trivial⟩ (jn_X12_choices_52 G p1 p2 s5.2.1 s5.1 (1 <<< (s5.2.1 &&& 31)) m17  hC hX)
set_option maxHeartbeats 300000 in
theorem ok_X12_choices (G : ea_G) (p1 : Int32) (p2 : Int32) (m : ea_M)  (rZ : Int32) (mZ : ea_M) (hZ : f_X12_choices p1 p2 m = some (rZ, mZ)) : ea_Met G yX12_choices F_X12_choices [.ref 272, .int p1, .int p2] m (0, rZ, mZ) := by
  refine ea_met (F := F_X12_choices) (by decide +kernel) rfl rfl (Nat.le_of_ble_eq_true rfl) (by simp only [List.mem_cons, List.not_mem_nil, or_false]; intro v hv; rcases hv with rfl | rfl | rfl <;> rfl) ((?_ : ea_E G F_X12_choices (0, rZ, mZ) 0 [some (.ref 272), some (.int p1), some (.int p2), none, none] [] m 0 0 (f_X12_choices p1 p2 m) (fun t => t = (rZ, mZ))) (rZ, mZ) hZ rfl)
  have hR : ∀ t : Int32 × ea_M, t = (rZ, mZ) → ((0, rZ, mZ) : ea_O) = (0, t) := fun t h => by rw [h]
  unfold f_X12_choices
  refine ev_iconst (ea_at dt_X12_choices 0 rfl) ic_0 ?_
  refine ev_istore_n (ls' := [some (.ref 272), some (.int p1), some (.int p2), some (.int 0), none]) (ea_at dt_X12_choices 1 rfl) (ea_lt rfl) rfl ?_
  refine ev_iconst (ea_at dt_X12_choices 2 rfl) ic_0 ?_
  refine ev_istore (ls' := [some (.ref 272), some (.int p1), some (.int p2), some (.int 0), some (.int 0)]) (ea_at dt_X12_choices 3 rfl) (ea_lt rfl) rfl ?_
  refine ev_drop (l' := [some (.ref 272), some (.int p1), some (.int p2), some (.int 0), some (.int 0)]) ⟨Or.inr rfl, Or.inr rfl, Or.inr rfl, Or.inr rfl, Or.inr rfl, trivial⟩ ?_
  refine ev_bind (lp_X12_choices_5 G p1 p2   (fun x5s h => ?_) ea_fuel (0, 0, m))
  obtain ⟨t1, e1, q1⟩ := h
  refine (?_ : ea_E G F_X12_choices (0, rZ, mZ) 60 [none, none, none, some (.int x5s.1), none] [] x5s.2 0 0 _ (fun t => t = (rZ, mZ))) t1 e1 q1
  refine ev_iload_n (ea_at dt_X12_choices 33 rfl) rfl ?_
  exact ev_iret (ea_at dt_X12_choices 34 rfl) rfl ⟨by decide, by decide⟩ (fun h => hR _ h)
def F_X12_bird : ea_F := (ea_rm 10 0 0, cX12_bird, RX12, some .int, 3, [], 0, 0)
def D_X12_bird : List (Nat × Instr × Nat) := [(0, .aload_n 0, 1), (1, .iconst 0, 1), (2, .putfield 3, 3), (5, .aload_n 0, 1), (6, .aload_n 0, 1), (7, .iload_n 1, 1), (8, .invokevirtual 303, 3), (11, .iconst 1, 1), (12, .invokevirtual 265, 3), (15, .ifCond .ne 25, 3), (18, .aload_n 0, 1), (19, .iload_n 2, 1), (20, .iconst 0, 1), (21, .iconst 3, 1), (22, .invokestatic 78, 3), (25, .ifCond .ne 7, 3), (28, .iconst 1, 1), (29, .goto 4, 3), (32, .iconst 0, 1), (33, .iconst 2, 1), (34, .invokevirtual 265, 3), (37, .ifCond .eq 5, 3), (40, .iconst 0, 1), (41, .ireturn, 1), (42, .aload_n 0, 1), (43, .iload_n 1, 1), (44, .iload_n 2, 1), (45, .invokevirtual 277, 3), (48, .ireturn, 1)]
theorem dt_X12_bird : ∀ q ∈ D_X12_bird, decode cX12_bird q.1 = .ok q.2 := by decide +kernel
theorem mv_X12_bird : ea_MV yX12_bird (F_X12_bird) 2 := ⟨⟨List.mem_append_right _ (List.mem_of_getElem? (i := 13) (by decide +kernel)), List.mem_append_right _ (List.mem_of_getElem? (i := 1855) (by decide +kernel)), ⟨by decide, by decide⟩, by decide +kernel⟩, List.mem_append_right _ (List.mem_of_getElem? (i := 1853) (by decide +kernel)), List.mem_append_right _ (List.mem_of_getElem? (i := 1854) (by decide +kernel))⟩
def f_X12_bird_j33 (p1 : Int32) (p2 : Int32) (x8 : Int32) (m9 : ea_M) : Option (Int32 × ea_M) :=
  ea_cl (f_X12_throwsIf x8 2 m9) fun r11 m10 =>
  if r11 = 0 then
  ea_cl (f_X12_ofBird p1 p2 m10) fun r13 m12 =>
  some (r13, m12)
  else
  some (0, m10)
def f_X12_bird (p1 : Int32) (p2 : Int32) (m : ea_M) : Option (Int32 × ea_M) :=
  ea_bd (ea_st m 272 0 0) fun m1 =>
  ea_cl (f_X12_noBird p1 m1) fun r3 m2 =>
  ea_cl (f_X12_throwsIf r3 1 m2) fun r5 m4 =>
  if r5 = 0 then
  ea_cl (f_X12_in p2 0 3 m4) fun r7 m6 =>
  if r7 = 0 then
  f_X12_bird_j33 p1 p2 1 m6
  else
  f_X12_bird_j33 p1 p2 0 m6
  else
  some (0, m4)
set_option maxHeartbeats 300000 in
theorem jn_X12_bird_33 (G : ea_G) {res : ea_O}  (p1 : Int32) (p2 : Int32) (x8 : Int32) (m9 : ea_M)  {Φ : (Int32 × ea_M) → Prop} (hR : ∀ t : Int32 × ea_M, Φ t → res = (0, t)) : ea_E G F_X12_bird res 33 [some (.ref 272), some (.int p1), some (.int p2)] [.int x8, .ref 272] m9 0 0 (f_X12_bird_j33 p1 p2 x8 m9) Φ := by
  unfold f_X12_bird_j33
  refine ev_iconst (ea_at dt_X12_bird 19 rfl) ic_2 ?_
  refine ev_clI (F1 := F_X12_throwsIf) (fun rY mY hY => ea_runV (As := [.int x8, .int 2]) (ea_at dt_X12_bird 20 rfl) ml_X12_265 mv_X12_throwsIf (ok_X12_throwsIf G x8 2 m9  rY mY hY) sh_272 rfl rfl rfl (Nat.le_of_ble_eq_true rfl) rfl) rfl (fun r11 m10 => ?_)
  refine ev_if_eq (tgt := 42) (ea_at dt_X12_bird 21 rfl) rfl (fun _ => ?_) (fun _ => ?_)
  · refine ev_aload_n (ea_at dt_X12_bird 24 rfl) rfl ?_
    refine ev_iload_n (ea_at dt_X12_bird 25 rfl) rfl ?_
    refine ev_iload_n (ea_at dt_X12_bird 26 rfl) rfl ?_
    refine ev_clI (F1 := F_X12_ofBird) (fun rY mY hY => ea_runV (As := [.int p1, .int p2]) (ea_at dt_X12_bird 27 rfl) ml_X12_277 mv_X12_ofBird (ok_X12_ofBird G p1 p2 m10  rY mY hY) sh_272 rfl rfl rfl (Nat.le_of_ble_eq_true rfl) rfl) rfl (fun r13 m12 => ?_)
    exact ev_iret (ea_at dt_X12_bird 28 rfl) rfl ⟨by decide, by decide⟩ (fun h => hR _ h)
  · refine ev_iconst (ea_at dt_X12_bird 22 rfl) ic_0 ?_
    exact ev_iret (ea_at dt_X12_bird 23 rfl) rfl ⟨by decide, by decide⟩ (fun h => hR _ h)
set_option maxHeartbeats 300000 in
theorem ok_X12_bird (G : ea_G) (p1 : Int32) (p2 : Int32) (m : ea_M)  (rZ : Int32) (mZ : ea_M) (hZ : f_X12_bird p1 p2 m = some (rZ, mZ)) : ea_Met G yX12_bird F_X12_bird [.ref 272, .int p1, .int p2] m (0, rZ, mZ) := by
  refine ea_met (F := F_X12_bird) (by decide +kernel) rfl rfl (Nat.le_of_ble_eq_true rfl) (by simp only [List.mem_cons, List.not_mem_nil, or_false]; intro v hv; rcases hv with rfl | rfl | rfl <;> rfl) ((?_ : ea_E G F_X12_bird (0, rZ, mZ) 0 [some (.ref 272), some (.int p1), some (.int p2)] [] m 0 0 (f_X12_bird p1 p2 m) (fun t => t = (rZ, mZ))) (rZ, mZ) hZ rfl)
  have hR : ∀ t : Int32 × ea_M, t = (rZ, mZ) → ((0, rZ, mZ) : ea_O) = (0, t) := fun t h => by rw [h]
  unfold f_X12_bird
  refine ev_aload_n (ea_at dt_X12_bird 0 rfl) rfl ?_
  refine ev_iconst (ea_at dt_X12_bird 1 rfl) ic_0 ?_
  refine ev_putI (ea_at dt_X12_bird 2 rfl) fl_X12_3 fp_12_0 sh_272 rfl ?_
  refine ev_m (fun m1 => ?_)
  refine ev_aload_n (ea_at dt_X12_bird 3 rfl) rfl ?_
  refine ev_aload_n (ea_at dt_X12_bird 4 rfl) rfl ?_
  refine ev_iload_n (ea_at dt_X12_bird 5 rfl) rfl ?_
  refine ev_clI (F1 := F_X12_noBird) (fun rY mY hY => ea_runV (As := [.int p1]) (ea_at dt_X12_bird 6 rfl) ml_X12_303 mv_X12_noBird (ok_X12_noBird G p1 m1  rY mY hY) sh_272 rfl rfl rfl (Nat.le_of_ble_eq_true rfl) rfl) rfl (fun r3 m2 => ?_)
  refine ev_iconst (ea_at dt_X12_bird 7 rfl) ic_1 ?_
  refine ev_clI (F1 := F_X12_throwsIf) (fun rY mY hY => ea_runV (As := [.int r3, .int 1]) (ea_at dt_X12_bird 8 rfl) ml_X12_265 mv_X12_throwsIf (ok_X12_throwsIf G r3 1 m2  rY mY hY) sh_272 rfl rfl rfl (Nat.le_of_ble_eq_true rfl) rfl) rfl (fun r5 m4 => ?_)
  refine ev_if_ne (tgt := 40) (ea_at dt_X12_bird 9 rfl) rfl (fun _ => ?_) (fun _ => ?_)
  · refine ev_aload_n (ea_at dt_X12_bird 10 rfl) rfl ?_
    refine ev_iload_n (ea_at dt_X12_bird 11 rfl) rfl ?_
    refine ev_iconst (ea_at dt_X12_bird 12 rfl) ic_0 ?_
    refine ev_iconst (ea_at dt_X12_bird 13 rfl) ic_3 ?_
    refine ev_clI (F1 := F_X12_in) (fun rY mY hY => ea_runS (As := [.int p2, .int 0, .int 3]) (ea_at dt_X12_bird 14 rfl) ml_X12_78 mv_X12_in (ok_X12_in G p2 0 3 m4  rY mY hY) rfl rfl (Nat.le_of_ble_eq_true rfl) rfl) rfl (fun r7 m6 => ?_)
    refine ev_if_ne (tgt := 32) (ea_at dt_X12_bird 15 rfl) rfl (fun _ => ?_) (fun _ => ?_)
    · refine ev_iconst (ea_at dt_X12_bird 16 rfl) ic_1 ?_
      refine ev_goto (tgt := 33) (ea_at dt_X12_bird 17 rfl) rfl ?_
      exact ev_drop (l' := [some (.ref 272), some (.int p1), some (.int p2)]) ⟨Or.inr rfl, Or.inr rfl, Or.inr rfl, trivial⟩ (jn_X12_bird_33 G p1 p2 1 m6  hR)
    · refine ev_iconst (ea_at dt_X12_bird 18 rfl) ic_0 ?_
      exact ev_drop (l' := [some (.ref 272), some (.int p1), some (.int p2)]) ⟨Or.inr rfl, Or.inr rfl, Or.inr rfl, trivial⟩ (jn_X12_bird_33 G p1 p2 0 m6  hR)
  · refine ev_iconst (ea_at dt_X12_bird 22 rfl) ic_0 ?_
    exact ev_iret (ea_at dt_X12_bird 23 rfl) rfl ⟨by decide, by decide⟩ (fun h => hR _ h)
def F_X12_stock : ea_F := (ea_rm 10 0 0, cX12_stock, RX12, some .int, 3, [], 0, 0)
def D_X12_stock : List (Nat × Instr × Nat) := [(0, .aload_n 0, 1), (1, .iconst 0, 1), (2, .putfield 3, 3), (5, .aload_n 0, 1), (6, .aload_n 0, 1), (7, .iload_n 1, 1), (8, .invokevirtual 393, 3), (11, .ifCond .ne 11, 3), (14, .aload_n 0, 1), (15, .iload_n 2, 1), (16, .invokevirtual 303, 3), (19, .ifCond .eq 7, 3), (22, .iconst 1, 1), (23, .goto 4, 3), (26, .iconst 0, 1), (27, .iconst 1, 1), (28, .invokevirtual 265, 3), (31, .ifCond .eq 7, 3), (34, .iconst 0, 1), (35, .goto 9, 3), (38, .aload_n 0, 1), (39, .iload_n 1, 1), (40, .iload_n 2, 1), (41, .invokevirtual 390, 3), (44, .ireturn, 1)]
theorem dt_X12_stock : ∀ q ∈ D_X12_stock, decode cX12_stock q.1 = .ok q.2 := by decide +kernel
theorem mv_X12_stock : ea_MV yX12_stock (F_X12_stock) 2 := ⟨⟨List.mem_append_right _ (List.mem_of_getElem? (i := 13) (by decide +kernel)), List.mem_append_right _ (List.mem_of_getElem? (i := 1859) (by decide +kernel)), ⟨by decide, by decide⟩, by decide +kernel⟩, List.mem_append_right _ (List.mem_of_getElem? (i := 1857) (by decide +kernel)), List.mem_append_right _ (List.mem_of_getElem? (i := 1858) (by decide +kernel))⟩
def f_X12_stock_j27 (p1 : Int32) (p2 : Int32) (x6 : Int32) (m7 : ea_M) : Option (Int32 × ea_M) :=
  ea_cl (f_X12_throwsIf x6 1 m7) fun r9 m8 =>
  if r9 = 0 then
  ea_cl (f_X12_stockOf p1 p2 m8) fun r11 m10 =>
  some (r11, m10)
  else
  some (0, m8)
def f_X12_stock_j22 (p1 : Int32) (p2 : Int32) (m12 : ea_M) : Option (Int32 × ea_M) :=
  f_X12_stock_j27 p1 p2 1 m12
def f_X12_stock (p1 : Int32) (p2 : Int32) (m : ea_M) : Option (Int32 × ea_M) :=
  ea_bd (ea_st m 272 0 0) fun m1 =>
  ea_cl (f_X12_noCounsel p1 m1) fun r3 m2 =>
  if r3 = 0 then
  ea_cl (f_X12_noBird p2 m2) fun r5 m4 =>
  if r5 = 0 then
  f_X12_stock_j27 p1 p2 0 m4
  else
  f_X12_stock_j22 p1 p2 m4
  else
  f_X12_stock_j22 p1 p2 m2
set_option maxHeartbeats 300000 in
theorem jn_X12_stock_27 (G : ea_G) {res : ea_O}  (p1 : Int32) (p2 : Int32) (x6 : Int32) (m7 : ea_M)  {Φ : (Int32 × ea_M) → Prop} (hR : ∀ t : Int32 × ea_M, Φ t → res = (0, t)) : ea_E G F_X12_stock res 27 [some (.ref 272), some (.int p1), some (.int p2)] [.int x6, .ref 272] m7 0 0 (f_X12_stock_j27 p1 p2 x6 m7) Φ := by
  unfold f_X12_stock_j27
  refine ev_iconst (ea_at dt_X12_stock 15 rfl) ic_1 ?_
  refine ev_clI (F1 := F_X12_throwsIf) (fun rY mY hY => ea_runV (As := [.int x6, .int 1]) (ea_at dt_X12_stock 16 rfl) ml_X12_265 mv_X12_throwsIf (ok_X12_throwsIf G x6 1 m7  rY mY hY) sh_272 rfl rfl rfl (Nat.le_of_ble_eq_true rfl) rfl) rfl (fun r9 m8 => ?_)
  refine ev_if_eq (tgt := 38) (ea_at dt_X12_stock 17 rfl) rfl (fun _ => ?_) (fun _ => ?_)
  · refine ev_aload_n (ea_at dt_X12_stock 20 rfl) rfl ?_
    refine ev_iload_n (ea_at dt_X12_stock 21 rfl) rfl ?_
    refine ev_iload_n (ea_at dt_X12_stock 22 rfl) rfl ?_
    refine ev_clI (F1 := F_X12_stockOf) (fun rY mY hY => ea_runV (As := [.int p1, .int p2]) (ea_at dt_X12_stock 23 rfl) ml_X12_390 mv_X12_stockOf (ok_X12_stockOf G p1 p2 m8  rY mY hY) sh_272 rfl rfl rfl (Nat.le_of_ble_eq_true rfl) rfl) rfl (fun r11 m10 => ?_)
    exact ev_iret (ea_at dt_X12_stock 24 rfl) rfl ⟨by decide, by decide⟩ (fun h => hR _ h)
  · refine ev_iconst (ea_at dt_X12_stock 18 rfl) ic_0 ?_
    refine ev_goto (tgt := 44) (ea_at dt_X12_stock 19 rfl) rfl ?_
    exact ev_iret (ea_at dt_X12_stock 24 rfl) rfl ⟨by decide, by decide⟩ (fun h => hR _ h)
set_option maxHeartbeats 300000 in
theorem jn_X12_stock_22 (G : ea_G) {res : ea_O}  (p1 : Int32) (p2 : Int32) (m12 : ea_M)  {Φ : (Int32 × ea_M) → Prop} (hR : ∀ t : Int32 × ea_M, Φ t → res = (0, t)) : ea_E G F_X12_stock res 22 [some (.ref 272), some (.int p1), some (.int p2)] [.ref 272] m12 0 0 (f_X12_stock_j22 p1 p2 m12) Φ := by
  unfold f_X12_stock_j22
  refine ev_iconst (ea_at dt_X12_stock 12 rfl) ic_1 ?_
  refine ev_goto (tgt := 27) (ea_at dt_X12_stock 13 rfl) rfl ?_
  exact ev_drop (l' := [some (.ref 272), some (.int p1), some (.int p2)]) ⟨Or.inr rfl, Or.inr rfl, Or.inr rfl, trivial⟩ (jn_X12_stock_27 G p1 p2 1 m12  hR)
set_option maxHeartbeats 300000 in
theorem ok_X12_stock (G : ea_G) (p1 : Int32) (p2 : Int32) (m : ea_M)  (rZ : Int32) (mZ : ea_M) (hZ : f_X12_stock p1 p2 m = some (rZ, mZ)) : ea_Met G yX12_stock F_X12_stock [.ref 272, .int p1, .int p2] m (0, rZ, mZ) := by
  refine ea_met (F := F_X12_stock) (by decide +kernel) rfl rfl (Nat.le_of_ble_eq_true rfl) (by simp only [List.mem_cons, List.not_mem_nil, or_false]; intro v hv; rcases hv with rfl | rfl | rfl <;> rfl) ((?_ : ea_E G F_X12_stock (0, rZ, mZ) 0 [some (.ref 272), some (.int p1), some (.int p2)] [] m 0 0 (f_X12_stock p1 p2 m) (fun t => t = (rZ, mZ))) (rZ, mZ) hZ rfl)
  have hR : ∀ t : Int32 × ea_M, t = (rZ, mZ) → ((0, rZ, mZ) : ea_O) = (0, t) := fun t h => by rw [h]
  unfold f_X12_stock
  refine ev_aload_n (ea_at dt_X12_stock 0 rfl) rfl ?_
  refine ev_iconst (ea_at dt_X12_stock 1 rfl) ic_0 ?_
  refine ev_putI (ea_at dt_X12_stock 2 rfl) fl_X12_3 fp_12_0 sh_272 rfl ?_
  refine ev_m (fun m1 => ?_)
  refine ev_aload_n (ea_at dt_X12_stock 3 rfl) rfl ?_
  refine ev_aload_n (ea_at dt_X12_stock 4 rfl) rfl ?_
  refine ev_iload_n (ea_at dt_X12_stock 5 rfl) rfl ?_
  refine ev_clI (F1 := F_X12_noCounsel) (fun rY mY hY => ea_runV (As := [.int p1]) (ea_at dt_X12_stock 6 rfl) ml_X12_393 mv_X12_noCounsel (ok_X12_noCounsel G p1 m1  rY mY hY) sh_272 rfl rfl rfl (Nat.le_of_ble_eq_true rfl) rfl) rfl (fun r3 m2 => ?_)
  refine ev_if_ne (tgt := 22) (ea_at dt_X12_stock 7 rfl) rfl (fun _ => ?_) (fun _ => ?_)
  · refine ev_aload_n (ea_at dt_X12_stock 8 rfl) rfl ?_
    refine ev_iload_n (ea_at dt_X12_stock 9 rfl) rfl ?_
    refine ev_clI (F1 := F_X12_noBird) (fun rY mY hY => ea_runV (As := [.int p2]) (ea_at dt_X12_stock 10 rfl) ml_X12_303 mv_X12_noBird (ok_X12_noBird G p2 m2  rY mY hY) sh_272 rfl rfl rfl (Nat.le_of_ble_eq_true rfl) rfl) rfl (fun r5 m4 => ?_)
    refine ev_if_eq (tgt := 26) (ea_at dt_X12_stock 11 rfl) rfl (fun _ => ?_) (fun _ => ?_)
    · refine ev_iconst (ea_at dt_X12_stock 14 rfl) ic_0 ?_
      exact ev_drop (l' := [some (.ref 272), some (.int p1), some (.int p2)]) ⟨Or.inr rfl, Or.inr rfl, Or.inr rfl, trivial⟩ (jn_X12_stock_27 G p1 p2 0 m4  hR)
    · exact ev_drop (l' := [some (.ref 272), some (.int p1), some (.int p2)]) ⟨Or.inr rfl, Or.inr rfl, Or.inr rfl, trivial⟩ (jn_X12_stock_22 G p1 p2 m4  hR)
  · exact ev_drop (l' := [some (.ref 272), some (.int p1), some (.int p2)]) ⟨Or.inr rfl, Or.inr rfl, Or.inr rfl, trivial⟩ (jn_X12_stock_22 G p1 p2 m2  hR)
def F_X12_matter : ea_F := (ea_rm 11 0 0, cX12_matter, RX12, some .int, 3, [], 0, 0)
def D_X12_matter : List (Nat × Instr × Nat) := [(0, .aload_n 0, 1), (1, .iconst 0, 1), (2, .putfield 3, 3), (5, .aload_n 0, 1), (6, .aload_n 0, 1), (7, .iload_n 1, 1), (8, .invokevirtual 396, 3), (11, .iconst 1, 1), (12, .invokevirtual 265, 3), (15, .ifCond .ne 25, 3), (18, .aload_n 0, 1), (19, .iload_n 2, 1), (20, .iconst 0, 1), (21, .iconst 5, 1), (22, .invokestatic 78, 3), (25, .ifCond .ne 7, 3), (28, .iconst 1, 1), (29, .goto 4, 3), (32, .iconst 0, 1), (33, .iconst 2, 1), (34, .invokevirtual 265, 3), (37, .ifCond .eq 5, 3), (40, .iconst 0, 1), (41, .ireturn, 1), (42, .iload_n 2, 1), (43, .iconst 4, 1), (44, .if_icmp .ge 12, 3), (47, .aload_n 0, 1), (48, .iload_n 1, 1), (49, .iload_n 2, 1), (50, .invokevirtual 387, 3), (53, .goto 11, 3), (56, .aload_n 0, 1), (57, .iload_n 1, 1), (58, .iload_n 2, 1), (59, .iconst 4, 1), (60, .isub, 1), (61, .invokevirtual 399, 3), (64, .ireturn, 1)]
theorem dt_X12_matter : ∀ q ∈ D_X12_matter, decode cX12_matter q.1 = .ok q.2 := by decide +kernel
theorem mv_X12_matter : ea_MV yX12_matter (F_X12_matter) 2 := ⟨⟨List.mem_append_right _ (List.mem_of_getElem? (i := 13) (by decide +kernel)), List.mem_append_right _ (List.mem_of_getElem? (i := 1871) (by decide +kernel)), ⟨by decide, by decide⟩, by decide +kernel⟩, List.mem_append_right _ (List.mem_of_getElem? (i := 1869) (by decide +kernel)), List.mem_append_right _ (List.mem_of_getElem? (i := 1870) (by decide +kernel))⟩
def f_X12_matter_j33 (p1 : Int32) (p2 : Int32) (x8 : Int32) (m9 : ea_M) : Option (Int32 × ea_M) :=
  ea_cl (f_X12_throwsIf x8 2 m9) fun r11 m10 =>
  if r11 = 0 then
  if 4 ≤ p2 then
  ea_cl (f_X12_choices p1 (p2 - 4) m10) fun r13 m12 =>
  some (r13, m12)
  else
  ea_cl (f_X12_ofCase p1 p2 m10) fun r15 m14 =>
  some (r15, m14)
  else
  some (0, m10)
def f_X12_matter (p1 : Int32) (p2 : Int32) (m : ea_M) : Option (Int32 × ea_M) :=
  ea_bd (ea_st m 272 0 0) fun m1 =>
  ea_cl (f_X12_noCase p1 m1) fun r3 m2 =>
  ea_cl (f_X12_throwsIf r3 1 m2) fun r5 m4 =>
  if r5 = 0 then
  ea_cl (f_X12_in p2 0 5 m4) fun r7 m6 =>
  if r7 = 0 then
  f_X12_matter_j33 p1 p2 1 m6
  else
  f_X12_matter_j33 p1 p2 0 m6
  else
  some (0, m4)
set_option maxHeartbeats 300000 in
theorem jn_X12_matter_33 (G : ea_G) {res : ea_O}  (p1 : Int32) (p2 : Int32) (x8 : Int32) (m9 : ea_M)  {Φ : (Int32 × ea_M) → Prop} (hR : ∀ t : Int32 × ea_M, Φ t → res = (0, t)) : ea_E G F_X12_matter res 33 [some (.ref 272), some (.int p1), some (.int p2)] [.int x8, .ref 272] m9 0 0 (f_X12_matter_j33 p1 p2 x8 m9) Φ := by
  unfold f_X12_matter_j33
  refine ev_iconst (ea_at dt_X12_matter 19 rfl) ic_2 ?_
  refine ev_clI (F1 := F_X12_throwsIf) (fun rY mY hY => ea_runV (As := [.int x8, .int 2]) (ea_at dt_X12_matter 20 rfl) ml_X12_265 mv_X12_throwsIf (ok_X12_throwsIf G x8 2 m9  rY mY hY) sh_272 rfl rfl rfl (Nat.le_of_ble_eq_true rfl) rfl) rfl (fun r11 m10 => ?_)
  refine ev_if_eq (tgt := 42) (ea_at dt_X12_matter 21 rfl) rfl (fun _ => ?_) (fun _ => ?_)
  · refine ev_iload_n (ea_at dt_X12_matter 24 rfl) rfl ?_
    refine ev_iconst (ea_at dt_X12_matter 25 rfl) ic_4 ?_
    refine ev_icmp_ge (tgt := 56) (ea_at dt_X12_matter 26 rfl) rfl (fun _ => ?_) (fun _ => ?_)
    · refine ev_aload_n (ea_at dt_X12_matter 32 rfl) rfl ?_
      refine ev_iload_n (ea_at dt_X12_matter 33 rfl) rfl ?_
      refine ev_iload_n (ea_at dt_X12_matter 34 rfl) rfl ?_
      refine ev_iconst (ea_at dt_X12_matter 35 rfl) ic_4 ?_
      refine ev_isub (ea_at dt_X12_matter 36 rfl) ?_
      refine ev_clI (F1 := F_X12_choices) (fun rY mY hY => ea_runV (As := [.int p1, .int (p2 - 4)]) (ea_at dt_X12_matter 37 rfl) ml_X12_399 mv_X12_choices (ok_X12_choices G p1 (p2 - 4) m10  rY mY hY) sh_272 rfl rfl rfl (Nat.le_of_ble_eq_true rfl) rfl) rfl (fun r13 m12 => ?_)
      exact ev_iret (ea_at dt_X12_matter 38 rfl) rfl ⟨by decide, by decide⟩ (fun h => hR _ h)
    · refine ev_aload_n (ea_at dt_X12_matter 27 rfl) rfl ?_
      refine ev_iload_n (ea_at dt_X12_matter 28 rfl) rfl ?_
      refine ev_iload_n (ea_at dt_X12_matter 29 rfl) rfl ?_
      refine ev_clI (F1 := F_X12_ofCase) (fun rY mY hY => ea_runV (As := [.int p1, .int p2]) (ea_at dt_X12_matter 30 rfl) ml_X12_387 mv_X12_ofCase (ok_X12_ofCase G p1 p2 m10  rY mY hY) sh_272 rfl rfl rfl (Nat.le_of_ble_eq_true rfl) rfl) rfl (fun r15 m14 => ?_)
      refine ev_goto (tgt := 64) (ea_at dt_X12_matter 31 rfl) rfl ?_
      exact ev_iret (ea_at dt_X12_matter 38 rfl) rfl ⟨by decide, by decide⟩ (fun h => hR _ h)
  · refine ev_iconst (ea_at dt_X12_matter 22 rfl) ic_0 ?_
    exact ev_iret (ea_at dt_X12_matter 23 rfl) rfl ⟨by decide, by decide⟩ (fun h => hR _ h)
set_option maxHeartbeats 300000 in
theorem ok_X12_matter (G : ea_G) (p1 : Int32) (p2 : Int32) (m : ea_M)  (rZ : Int32) (mZ : ea_M) (hZ : f_X12_matter p1 p2 m = some (rZ, mZ)) : ea_Met G yX12_matter F_X12_matter [.ref 272, .int p1, .int p2] m (0, rZ, mZ) := by
  refine ea_met (F := F_X12_matter) (by decide +kernel) rfl rfl (Nat.le_of_ble_eq_true rfl) (by simp only [List.mem_cons, List.not_mem_nil, or_false]; intro v hv; rcases hv with rfl | rfl | rfl <;> rfl) ((?_ : ea_E G F_X12_matter (0, rZ, mZ) 0 [some (.ref 272), some (.int p1), some (.int p2)] [] m 0 0 (f_X12_matter p1 p2 m) (fun t => t = (rZ, mZ))) (rZ, mZ) hZ rfl)
  have hR : ∀ t : Int32 × ea_M, t = (rZ, mZ) → ((0, rZ, mZ) : ea_O) = (0, t) := fun t h => by rw [h]
  unfold f_X12_matter
  refine ev_aload_n (ea_at dt_X12_matter 0 rfl) rfl ?_
  refine ev_iconst (ea_at dt_X12_matter 1 rfl) ic_0 ?_
  refine ev_putI (ea_at dt_X12_matter 2 rfl) fl_X12_3 fp_12_0 sh_272 rfl ?_
  refine ev_m (fun m1 => ?_)
  refine ev_aload_n (ea_at dt_X12_matter 3 rfl) rfl ?_
  refine ev_aload_n (ea_at dt_X12_matter 4 rfl) rfl ?_
  refine ev_iload_n (ea_at dt_X12_matter 5 rfl) rfl ?_
  refine ev_clI (F1 := F_X12_noCase) (fun rY mY hY => ea_runV (As := [.int p1]) (ea_at dt_X12_matter 6 rfl) ml_X12_396 mv_X12_noCase (ok_X12_noCase G p1 m1  rY mY hY) sh_272 rfl rfl rfl (Nat.le_of_ble_eq_true rfl) rfl) rfl (fun r3 m2 => ?_)
  refine ev_iconst (ea_at dt_X12_matter 7 rfl) ic_1 ?_
  refine ev_clI (F1 := F_X12_throwsIf) (fun rY mY hY => ea_runV (As := [.int r3, .int 1]) (ea_at dt_X12_matter 8 rfl) ml_X12_265 mv_X12_throwsIf (ok_X12_throwsIf G r3 1 m2  rY mY hY) sh_272 rfl rfl rfl (Nat.le_of_ble_eq_true rfl) rfl) rfl (fun r5 m4 => ?_)
  refine ev_if_ne (tgt := 40) (ea_at dt_X12_matter 9 rfl) rfl (fun _ => ?_) (fun _ => ?_)
  · refine ev_aload_n (ea_at dt_X12_matter 10 rfl) rfl ?_
    refine ev_iload_n (ea_at dt_X12_matter 11 rfl) rfl ?_
    refine ev_iconst (ea_at dt_X12_matter 12 rfl) ic_0 ?_
    refine ev_iconst (ea_at dt_X12_matter 13 rfl) ic_5 ?_
    refine ev_clI (F1 := F_X12_in) (fun rY mY hY => ea_runS (As := [.int p2, .int 0, .int 5]) (ea_at dt_X12_matter 14 rfl) ml_X12_78 mv_X12_in (ok_X12_in G p2 0 5 m4  rY mY hY) rfl rfl (Nat.le_of_ble_eq_true rfl) rfl) rfl (fun r7 m6 => ?_)
    refine ev_if_ne (tgt := 32) (ea_at dt_X12_matter 15 rfl) rfl (fun _ => ?_) (fun _ => ?_)
    · refine ev_iconst (ea_at dt_X12_matter 16 rfl) ic_1 ?_
      refine ev_goto (tgt := 33) (ea_at dt_X12_matter 17 rfl) rfl ?_
      exact ev_drop (l' := [some (.ref 272), some (.int p1), some (.int p2)]) ⟨Or.inr rfl, Or.inr rfl, Or.inr rfl, trivial⟩ (jn_X12_matter_33 G p1 p2 1 m6  hR)
    · refine ev_iconst (ea_at dt_X12_matter 18 rfl) ic_0 ?_
      exact ev_drop (l' := [some (.ref 272), some (.int p1), some (.int p2)]) ⟨Or.inr rfl, Or.inr rfl, Or.inr rfl, trivial⟩ (jn_X12_matter_33 G p1 p2 0 m6  hR)
  · refine ev_iconst (ea_at dt_X12_matter 22 rfl) ic_0 ?_
    exact ev_iret (ea_at dt_X12_matter 23 rfl) rfl ⟨by decide, by decide⟩ (fun h => hR _ h)
def F_X12_wind : ea_F := (ea_rm 10 0 0, cX12_wind, RX12, some .int, 2, [], 0, 0)
def D_X12_wind : List (Nat × Instr × Nat) := [(0, .aload_n 0, 1), (1, .iconst 0, 1), (2, .putfield 3, 3), (5, .aload_n 0, 1), (6, .iload_n 1, 1), (7, .invokestatic 306, 3), (10, .iconst 1, 1), (11, .invokevirtual 265, 3), (14, .ifCond .eq 7, 3), (17, .iconst 0, 1), (18, .goto 12, 3), (21, .aload_n 0, 1), (22, .getfield 13, 3), (25, .bipush 13, 2), (27, .iload_n 1, 1), (28, .iadd, 1), (29, .iaload, 1), (30, .ireturn, 1)]
theorem dt_X12_wind : ∀ q ∈ D_X12_wind, decode cX12_wind q.1 = .ok q.2 := by decide +kernel
theorem mv_X12_wind : ea_MV yX12_wind (F_X12_wind) 1 := ⟨⟨List.mem_append_right _ (List.mem_of_getElem? (i := 13) (by decide +kernel)), List.mem_append_right _ (List.mem_of_getElem? (i := 1887) (by decide +kernel)), ⟨by decide, by decide⟩, by decide +kernel⟩, List.mem_append_right _ (List.mem_of_getElem? (i := 1885) (by decide +kernel)), List.mem_append_right _ (List.mem_of_getElem? (i := 1886) (by decide +kernel))⟩
def f_X12_wind (p1 : Int32) (m : ea_M) : Option (Int32 × ea_M) :=
  ea_bd (ea_st m 272 0 0) fun m1 =>
  ea_cl (f_X12_noLevel p1 m1) fun r3 m2 =>
  ea_cl (f_X12_throwsIf r3 1 m2) fun r5 m4 =>
  if r5 = 0 then
  ea_g (13 + p1) 2180 (ea_bd (m4 273 (Int32.toNatClampNeg (13 + p1))) fun x6 =>
  some (x6, m4))
  else
  some (0, m4)
set_option maxHeartbeats 300000 in
theorem ok_X12_wind (G : ea_G) (p1 : Int32) (m : ea_M)  (rZ : Int32) (mZ : ea_M) (hZ : f_X12_wind p1 m = some (rZ, mZ)) : ea_Met G yX12_wind F_X12_wind [.ref 272, .int p1] m (0, rZ, mZ) := by
  refine ea_met (F := F_X12_wind) (by decide +kernel) rfl rfl (Nat.le_of_ble_eq_true rfl) (by simp only [List.mem_cons, List.not_mem_nil, or_false]; intro v hv; rcases hv with rfl | rfl <;> rfl) ((?_ : ea_E G F_X12_wind (0, rZ, mZ) 0 [some (.ref 272), some (.int p1)] [] m 0 0 (f_X12_wind p1 m) (fun t => t = (rZ, mZ))) (rZ, mZ) hZ rfl)
  have hR : ∀ t : Int32 × ea_M, t = (rZ, mZ) → ((0, rZ, mZ) : ea_O) = (0, t) := fun t h => by rw [h]
  unfold f_X12_wind
  refine ev_aload_n (ea_at dt_X12_wind 0 rfl) rfl ?_
  refine ev_iconst (ea_at dt_X12_wind 1 rfl) ic_0 ?_
  refine ev_putI (ea_at dt_X12_wind 2 rfl) fl_X12_3 fp_12_0 sh_272 rfl ?_
  refine ev_m (fun m1 => ?_)
  refine ev_aload_n (ea_at dt_X12_wind 3 rfl) rfl ?_
  refine ev_iload_n (ea_at dt_X12_wind 4 rfl) rfl ?_
  refine ev_clI (F1 := F_X12_noLevel) (fun rY mY hY => ea_runS (As := [.int p1]) (ea_at dt_X12_wind 5 rfl) ml_X12_306 mv_X12_noLevel (ok_X12_noLevel G p1 m1  rY mY hY) rfl rfl (Nat.le_of_ble_eq_true rfl) rfl) rfl (fun r3 m2 => ?_)
  refine ev_iconst (ea_at dt_X12_wind 6 rfl) ic_1 ?_
  refine ev_clI (F1 := F_X12_throwsIf) (fun rY mY hY => ea_runV (As := [.int r3, .int 1]) (ea_at dt_X12_wind 7 rfl) ml_X12_265 mv_X12_throwsIf (ok_X12_throwsIf G r3 1 m2  rY mY hY) sh_272 rfl rfl rfl (Nat.le_of_ble_eq_true rfl) rfl) rfl (fun r5 m4 => ?_)
  refine ev_if_eq (tgt := 21) (ea_at dt_X12_wind 8 rfl) rfl (fun _ => ?_) (fun _ => ?_)
  · refine ev_aload_n (ea_at dt_X12_wind 11 rfl) rfl ?_
    refine ev_getR (ea_at dt_X12_wind 12 rfl) fl_X12_13 sh_272 rfl ?_
    refine ev_bipush (ea_at dt_X12_wind 13 rfl) bp_13 ?_
    refine ev_iload_n (ea_at dt_X12_wind 14 rfl) rfl ?_
    refine ev_iadd (ea_at dt_X12_wind 15 rfl) ?_
    refine ev_iaload (ea_at dt_X12_wind 16 rfl) sh_273 (by decide) ?_
    refine ev_i (fun x6 => ?_)
    exact ev_iret (ea_at dt_X12_wind 17 rfl) rfl ⟨by decide, by decide⟩ (fun h => hR _ h)
  · refine ev_iconst (ea_at dt_X12_wind 9 rfl) ic_0 ?_
    refine ev_goto (tgt := 30) (ea_at dt_X12_wind 10 rfl) rfl ?_
    exact ev_iret (ea_at dt_X12_wind 17 rfl) rfl ⟨by decide, by decide⟩ (fun h => hR _ h)
def F_X12_leastBy : ea_F := (ea_rm 11 0 0, cX12_leastBy, RX12, some .int, 5, [], 0, 0)
def D_X12_leastBy : List (Nat × Instr × Nat) := [(0, .ldc_w 402, 3), (3, .istore_n 3, 1), (4, .iconst 0, 1), (5, .istore 4, 2), (7, .iload 4, 2), (9, .aload_n 0, 1), (10, .invokevirtual 74, 3), (13, .if_icmp .ge 34, 3), (16, .iload_n 2, 1), (17, .iload 4, 2), (19, .invokestatic 127, 3), (22, .ifCond .eq 17, 3), (25, .iload_n 3, 1), (26, .aload_n 0, 1), (27, .iload_n 1, 1), (28, .iload 4, 2), (30, .invokevirtual 381, 3), (33, .invokestatic 295, 3), (36, .goto 4, 3), (39, .iload_n 3, 1), (40, .istore_n 3, 1), (41, .iinc 4 1, 3), (44, .goto (-37), 3), (47, .ldc2_w 403, 3), (50, .iload_n 3, 1), (51, .i2l, 1), (52, .lmul, 1), (53, .ldc2_w 405, 3), (56, .ldiv, 1), (57, .l2i, 1), (58, .ireturn, 1)]
theorem dt_X12_leastBy : ∀ q ∈ D_X12_leastBy, decode cX12_leastBy q.1 = .ok q.2 := by decide +kernel
theorem mv_X12_leastBy : ea_MV yX12_leastBy (F_X12_leastBy) 2 := ⟨⟨List.mem_append_right _ (List.mem_of_getElem? (i := 13) (by decide +kernel)), List.mem_append_right _ (List.mem_of_getElem? (i := 1899) (by decide +kernel)), ⟨by decide, by decide⟩, by decide +kernel⟩, List.mem_append_right _ (List.mem_of_getElem? (i := 1898) (by decide +kernel)), List.mem_append_left _ (List.mem_of_getElem? (i := 104) (by decide +kernel))⟩
def f_X12_leastBy_j40 (p1 : Int32) (p2 : Int32) (x5 : Int32) (x6 : Int32) (m7 : ea_M) : Option ((Int32 × Int32 × ea_M) ⊕ (Int32 × ea_M)) :=
  some (.inl (x6, x5 + 1, m7))
def f_X12_leastBy_s7 (p1 : Int32) (p2 : Int32)  (s7 : Int32 × Int32 × ea_M) : Option ((Int32 × Int32 × ea_M) ⊕ (Int32 × ea_M)) :=
  ea_cl (f_X12_birds s7.2.2) fun r2 m1 =>
  if r2 ≤ s7.2.1 then
  some (.inr (s7.1, m1))
  else
  ea_cl (f_X12_has p2 s7.2.1 m1) fun r4 m3 =>
  if r4 = 0 then
  f_X12_leastBy_j40 p1 p2 s7.2.1 s7.1 m3
  else
  ea_cl (f_X12_firstHas p1 s7.2.1 m3) fun r9 m8 =>
  ea_bd (ea_min s7.1 r9) fun x10 =>
  f_X12_leastBy_j40 p1 p2 s7.2.1 x10 m8
def f_X12_leastBy (p1 : Int32) (p2 : Int32) (m : ea_M) : Option (Int32 × ea_M) :=
  (ea_loop (f_X12_leastBy_s7 p1 p2) ea_fuel (43046721, 0, m)).bind (fun x7s =>
  ea_bd (Int64.toInt32 ((((100 : Int64)) * x7s.1.toInt64) / ((43046721 : Int64)))) fun x11 =>
  some (x11, x7s.2))
set_option maxHeartbeats 300000 in
theorem jn_X12_leastBy_40 (G : ea_G) {res : ea_O}  (p1 : Int32) (p2 : Int32) (x5 : Int32) (x6 : Int32) (m7 : ea_M)  {Φ : ((Int32 × Int32 × ea_M) ⊕ (Int32 × ea_M)) → Prop} (hC : ∀ s7 : Int32 × Int32 × ea_M, Φ (.inl s7) → ea_Ev G F_X12_leastBy res 7 [some (.ref 272), some (.int p1), some (.int p2), some (.int s7.1), some (.int s7.2.1)] [] s7.2.2 0 0) (hX : ∀ x7s : Int32 × ea_M, Φ (.inr x7s) → ea_Ev G F_X12_leastBy res 47 [none, none, none, some (.int x7s.1), none] [] x7s.2 0 0) : ea_E G F_X12_leastBy res 40 [some (.ref 272), some (.int p1), some (.int p2), none, some (.int x5)] [.int x6] m7 0 0 (f_X12_leastBy_j40 p1 p2 x5 x6 m7) Φ := by
  unfold f_X12_leastBy_j40
  refine ev_istore_n (ls' := [some (.ref 272), some (.int p1), some (.int p2), some (.int x6), some (.int x5)]) (ea_at dt_X12_leastBy 20 rfl) (ea_lt rfl) rfl ?_
  refine ev_iinc (ls' := [some (.ref 272), some (.int p1), some (.int p2), some (.int x6), some (.int (x5 + 1))]) (ea_at dt_X12_leastBy 21 rfl) rfl (congrArg (fun z => _ + z) ic_1) (ea_lt rfl) rfl ?_
  refine ev_goto (tgt := 7) (ea_at dt_X12_leastBy 22 rfl) rfl ?_
  exact ev_leaf (fun h => ea_drop (l' := [some (.ref 272), some (.int p1), some (.int p2), some (.int x6), some (.int (x5 + 1))]) ⟨Or.inr rfl, Or.inr rfl, Or.inr rfl, Or.inr rfl, Or.inr rfl, trivial⟩ (hC (x6, x5 + 1, m7) h))
set_option maxHeartbeats 300000 in
theorem lp_X12_leastBy_7 (G : ea_G) {res : ea_O}  (p1 : Int32) (p2 : Int32)  {Ψ : (Int32 × ea_M) → Prop} (hX : ∀ x7s : Int32 × ea_M, Ψ x7s → ea_Ev G F_X12_leastBy res 47 [none, none, none, some (.int x7s.1), none] [] x7s.2 0 0) : ∀ (f : Nat) (s7 : Int32 × Int32 × ea_M), ea_E G F_X12_leastBy res 7 [some (.ref 272), some (.int p1), some (.int p2), some (.int s7.1), some (.int s7.2.1)] [] s7.2.2 0 0 (ea_loop (f_X12_leastBy_s7 p1 p2) f s7) Ψ := by
  refine ev_loop (G := G) (F := F_X12_leastBy) (res := res) (pc := 7) (st := []) (k := 0) (n := 0) (step := (f_X12_leastBy_s7 p1 p2)) (Ψ := Ψ) (fun (s7 : Int32 × Int32 × ea_M) => [some (.ref 272), some (.int p1), some (.int p2), some (.int s7.1), some (.int s7.2.1)]) (fun (s7 : Int32 × Int32 × ea_M) => s7.2.2) (fun s7 => ?_)
  have hC : ∀ s7 : Int32 × Int32 × ea_M, (Sum.elim (fun s7 : Int32 × Int32 × ea_M => ea_Ev G F_X12_leastBy res 7 [some (.ref 272), some (.int p1), some (.int p2), some (.int s7.1), some (.int s7.2.1)] [] s7.2.2 0 0) Ψ) (.inl s7) → ea_Ev G F_X12_leastBy res 7 [some (.ref 272), some (.int p1), some (.int p2), some (.int s7.1), some (.int s7.2.1)] [] s7.2.2 0 0 := fun _ h => h
  have hX : ∀ x7s : Int32 × ea_M, (Sum.elim (fun s7 : Int32 × Int32 × ea_M => ea_Ev G F_X12_leastBy res 7 [some (.ref 272), some (.int p1), some (.int p2), some (.int s7.1), some (.int s7.2.1)] [] s7.2.2 0 0) Ψ) (.inr x7s) → ea_Ev G F_X12_leastBy res 47 [none, none, none, some (.int x7s.1), none] [] x7s.2 0 0 := hX
  unfold f_X12_leastBy_s7
  refine ev_iload (ea_at dt_X12_leastBy 4 rfl) rfl ?_
  refine ev_aload_n (ea_at dt_X12_leastBy 5 rfl) rfl ?_
  refine ev_clI (F1 := F_X12_birds) (fun rY mY hY => ea_runV (As := []) (ea_at dt_X12_leastBy 6 rfl) ml_X12_74 mv_X12_birds (ok_X12_birds G s7.2.2  rY mY hY) sh_272 rfl rfl rfl (Nat.le_of_ble_eq_true rfl) rfl) rfl (fun r2 m1 => ?_)
  refine ev_icmp_ge (tgt := 47) (ea_at dt_X12_leastBy 7 rfl) rfl (fun _ => ?_) (fun _ => ?_)
  · exact ev_leaf (fun h => ea_drop (l' := [none, none, none, some (.int s7.1), none]) ⟨Or.inl rfl, Or.inl rfl, Or.inl rfl, Or.inr rfl, Or.inl rfl, trivial⟩ (hX (s7.1, m1) h))
  · refine ev_iload_n (ea_at dt_X12_leastBy 8 rfl) rfl ?_
    refine ev_iload (ea_at dt_X12_leastBy 9 rfl) rfl ?_
    refine ev_clI (F1 := F_X12_has) (fun rY mY hY => ea_runS (As := [.int p2, .int s7.2.1]) (ea_at dt_X12_leastBy 10 rfl) ml_X12_127 mv_X12_has (ok_X12_has G p2 s7.2.1 m1  rY mY hY) rfl rfl (Nat.le_of_ble_eq_true rfl) rfl) rfl (fun r4 m3 => ?_)
    refine ev_if_eq (tgt := 39) (ea_at dt_X12_leastBy 11 rfl) rfl (fun _ => ?_) (fun _ => ?_)
    · refine ev_iload_n (ea_at dt_X12_leastBy 19 rfl) rfl ?_
      exact ev_drop (l' := [some (.ref 272), some (.int p1), some (.int p2), none, some (.int s7.2.1)]) ⟨Or.inr rfl, Or.inr rfl, Or.inr rfl, Or.inl rfl, Or.inr rfl, trivial⟩ (jn_X12_leastBy_40 G p1 p2 s7.2.1 s7.1 m3  hC hX)
    · refine ev_iload_n (ea_at dt_X12_leastBy 12 rfl) rfl ?_
      refine ev_aload_n (ea_at dt_X12_leastBy 13 rfl) rfl ?_
      refine ev_iload_n (ea_at dt_X12_leastBy 14 rfl) rfl ?_
      refine ev_iload (ea_at dt_X12_leastBy 15 rfl) rfl ?_
      refine ev_clI (F1 := F_X12_firstHas) (fun rY mY hY => ea_runV (As := [.int p1, .int s7.2.1]) (ea_at dt_X12_leastBy 16 rfl) ml_X12_381 mv_X12_firstHas (ok_X12_firstHas G p1 s7.2.1 m3  rY mY hY) sh_272 rfl rfl rfl (Nat.le_of_ble_eq_true rfl) rfl) rfl (fun r9 m8 => ?_)
      refine ev_mmin (ea_at dt_X12_leastBy 17 rfl) ml_X12_295 ea_maW_min ⟨by decide, Nat.le_of_ble_eq_true rfl, by decide, by decide⟩ ?_
      refine ev_i (fun x10 => ?_)
      refine ev_goto (tgt := 40) (ea_at dt_X12_leastBy 18 rfl) rfl ?_
      exact ev_drop (l' := [some (.ref 272), some (.int p1), some (.int p2), none, some (.int s7.2.1)]) ⟨Or.inr rfl, Or.inr rfl, Or.inr rfl, Or.inl rfl, Or.inr rfl, trivial⟩ (jn_X12_leastBy_40 G p1 p2 s7.2.1 x10 m8  hC hX)
set_option maxHeartbeats 300000 in
theorem ok_X12_leastBy (G : ea_G) (p1 : Int32) (p2 : Int32) (m : ea_M)  (rZ : Int32) (mZ : ea_M) (hZ : f_X12_leastBy p1 p2 m = some (rZ, mZ)) : ea_Met G yX12_leastBy F_X12_leastBy [.ref 272, .int p1, .int p2] m (0, rZ, mZ) := by
  refine ea_met (F := F_X12_leastBy) (by decide +kernel) rfl rfl (Nat.le_of_ble_eq_true rfl) (by simp only [List.mem_cons, List.not_mem_nil, or_false]; intro v hv; rcases hv with rfl | rfl | rfl <;> rfl) ((?_ : ea_E G F_X12_leastBy (0, rZ, mZ) 0 [some (.ref 272), some (.int p1), some (.int p2), none, none] [] m 0 0 (f_X12_leastBy p1 p2 m) (fun t => t = (rZ, mZ))) (rZ, mZ) hZ rfl)
  have hR : ∀ t : Int32 × ea_M, t = (rZ, mZ) → ((0, rZ, mZ) : ea_O) = (0, t) := fun t h => by rw [h]
  unfold f_X12_leastBy
  refine ev_ldcw (ea_at dt_X12_leastBy 0 rfl) ki_X12_402 ?_
  refine ev_istore_n (ls' := [some (.ref 272), some (.int p1), some (.int p2), some (.int 43046721), none]) (ea_at dt_X12_leastBy 1 rfl) (ea_lt rfl) rfl ?_
  refine ev_iconst (ea_at dt_X12_leastBy 2 rfl) ic_0 ?_
  refine ev_istore (ls' := [some (.ref 272), some (.int p1), some (.int p2), some (.int 43046721), some (.int 0)]) (ea_at dt_X12_leastBy 3 rfl) (ea_lt rfl) rfl ?_
  refine ev_drop (l' := [some (.ref 272), some (.int p1), some (.int p2), some (.int 43046721), some (.int 0)]) ⟨Or.inr rfl, Or.inr rfl, Or.inr rfl, Or.inr rfl, Or.inr rfl, trivial⟩ ?_
  refine ev_bind (lp_X12_leastBy_7 G p1 p2   (fun x7s h => ?_) ea_fuel (43046721, 0, m))
  obtain ⟨t1, e1, q1⟩ := h
  refine (?_ : ea_E G F_X12_leastBy (0, rZ, mZ) 47 [none, none, none, some (.int x7s.1), none] [] x7s.2 0 0 _ (fun t => t = (rZ, mZ))) t1 e1 q1
  refine ev_ldc2 (ea_at dt_X12_leastBy 23 rfl) kl_X12_403 ?_
  refine ev_iload_n (ea_at dt_X12_leastBy 24 rfl) rfl ?_
  refine ev_i2l (ea_at dt_X12_leastBy 25 rfl) ?_
  refine ev_lmul (ea_at dt_X12_leastBy 26 rfl) ?_
  refine ev_ldc2 (ea_at dt_X12_leastBy 27 rfl) kl_X12_405 ?_
  refine ev_ldiv (ea_at dt_X12_leastBy 28 rfl) (by decide) ?_
  refine ev_l2i (ea_at dt_X12_leastBy 29 rfl) ?_
  refine ev_i (fun x11 => ?_)
  exact ev_iret (ea_at dt_X12_leastBy 30 rfl) rfl ⟨by decide, by decide⟩ (fun h => hR _ h)
