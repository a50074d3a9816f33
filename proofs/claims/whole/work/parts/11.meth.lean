def F_X9_takesNamed : ea_F := (ea_rm 15 0 0, cX9_takesNamed, RX9, some .boolean, 4, [], 0, 0)
def D_X9_takesNamed : List (Nat × Instr × Nat) := [(0, .aload_n 0, 1), (1, .aload_n 1, 1), (2, .invokevirtual 71, 3), (5, .ifCond .eq 16, 3), (8, .aload_n 0, 1), (9, .iload_n 2, 1), (10, .iload_n 3, 1), (11, .invokevirtual 74, 3), (14, .ifCond .eq 7, 3), (17, .iconst 1, 1), (18, .goto 4, 3), (21, .iconst 0, 1), (22, .ireturn, 1)]
theorem dt_X9_takesNamed : ∀ q ∈ D_X9_takesNamed, decode cX9_takesNamed q.1 = .ok q.2 := by decide +kernel
theorem mv_X9_takesNamed : ea_MV yX9_takesNamed (F_X9_takesNamed) 3 := ⟨⟨List.mem_append_right _ (List.mem_of_getElem? (i := 7) (by decide +kernel)), List.mem_append_right _ (List.mem_of_getElem? (i := 735) (by decide +kernel)), ⟨by decide, by decide⟩, by decide +kernel⟩, List.mem_append_right _ (List.mem_of_getElem? (i := 733) (by decide +kernel)), List.mem_append_right _ (List.mem_of_getElem? (i := 734) (by decide +kernel))⟩
def f_X9_takesNamed (a : Nat) (p1 : Nat) (p2 : Int32) (p3 : Int32) (m : ea_M) : Option (Int32 × ea_M) :=
  ea_cl (f_X9_takes a p1 m) fun r2 m1 =>
  if r2 = 0 then
  some (0, m1)
  else
  ea_cl (f_X9_takesNumber a p2 p3 m1) fun r4 m3 =>
  if r4 = 0 then
  some (0, m3)
  else
  some (1, m3)
set_option maxHeartbeats 300000 in
theorem ok_X9_takesNamed (G : ea_G) (a : Nat) (p1 : Nat) (p2 : Int32) (p3 : Int32) (m : ea_M) (ha : ea_isReader a) (hp1 : p1 < ea_str.length) (rZ : Int32) (mZ : ea_M) (hZ : f_X9_takesNamed a p1 p2 p3 m = some (rZ, mZ)) : ea_Met G yX9_takesNamed F_X9_takesNamed [.ref a, .ref (1000 + p1), .int p2, .int p3] m (0, rZ, mZ) := by
  refine ea_met (F := F_X9_takesNamed) (by decide +kernel) rfl rfl (Nat.le_of_ble_eq_true rfl) (by simp only [List.mem_cons, List.not_mem_nil, or_false]; intro v hv; rcases hv with rfl | rfl | rfl | rfl <;> rfl) ((?_ : ea_E G F_X9_takesNamed (0, rZ, mZ) 0 [some (.ref a), some (.ref (1000 + p1)), some (.int p2), some (.int p3)] [] m 0 0 (f_X9_takesNamed a p1 p2 p3 m) (fun t => t = (rZ, mZ))) (rZ, mZ) hZ rfl)
  have hR : ∀ t : Int32 × ea_M, t = (rZ, mZ) → ((0, rZ, mZ) : ea_O) = (0, t) := fun t h => by rw [h]
  unfold f_X9_takesNamed
  refine ev_aload_n (ea_at dt_X9_takesNamed 0 rfl) rfl ?_
  refine ev_aload_n (ea_at dt_X9_takesNamed 1 rfl) rfl ?_
  refine ev_clI (F1 := F_X9_takes) (fun rY mY hY => ea_runV (As := [.ref (1000 + p1)]) (ea_at dt_X9_takesNamed 2 rfl) ml_X9_71 mv_X9_takes (ok_X9_takes G a p1 m ha hp1 rY mY hY) ha rfl rfl rfl (Nat.le_of_ble_eq_true rfl) rfl) rfl (fun r2 m1 => ?_)
  refine ev_if_eq (tgt := 21) (ea_at dt_X9_takesNamed 3 rfl) rfl (fun _ => ?_) (fun _ => ?_)
  · refine ev_iconst (ea_at dt_X9_takesNamed 11 rfl) ic_0 ?_
    exact ev_zret (by decide) (ea_at dt_X9_takesNamed 12 rfl) rfl ⟨by decide, by decide⟩ (fun h => hR _ h)
  · refine ev_aload_n (ea_at dt_X9_takesNamed 4 rfl) rfl ?_
    refine ev_iload_n (ea_at dt_X9_takesNamed 5 rfl) rfl ?_
    refine ev_iload_n (ea_at dt_X9_takesNamed 6 rfl) rfl ?_
    refine ev_clI (F1 := F_X9_takesNumber) (fun rY mY hY => ea_runV (As := [.int p2, .int p3]) (ea_at dt_X9_takesNamed 7 rfl) ml_X9_74 mv_X9_takesNumber (ok_X9_takesNumber G a p2 p3 m1 ha rY mY hY) ha rfl rfl rfl (Nat.le_of_ble_eq_true rfl) rfl) rfl (fun r4 m3 => ?_)
    refine ev_if_eq (tgt := 21) (ea_at dt_X9_takesNamed 8 rfl) rfl (fun _ => ?_) (fun _ => ?_)
    · refine ev_iconst (ea_at dt_X9_takesNamed 11 rfl) ic_0 ?_
      exact ev_zret (by decide) (ea_at dt_X9_takesNamed 12 rfl) rfl ⟨by decide, by decide⟩ (fun h => hR _ h)
    · refine ev_iconst (ea_at dt_X9_takesNamed 9 rfl) ic_1 ?_
      refine ev_goto (tgt := 22) (ea_at dt_X9_takesNamed 10 rfl) rfl ?_
      exact ev_zret (by decide) (ea_at dt_X9_takesNamed 12 rfl) rfl ⟨by decide, by decide⟩ (fun h => hR _ h)
def F_X9_takesLetters : ea_F := (ea_rm 10 0 0, cX9_takesLetters, RX9, some .boolean, 5, [], 0, 0)
def D_X9_takesLetters : List (Nat × Instr × Nat) := [(0, .aload_n 0, 1), (1, .getfield 15, 3), (4, .iconst 1, 1), (5, .if_icmp .eq 8, 3), (8, .aload_n 0, 1), (9, .invokevirtual 63, 3), (12, .ireturn, 1), (13, .iconst 0, 1), (14, .istore_n 2, 1), (15, .aload_n 0, 1), (16, .getfield 18, 3), (19, .istore_n 3, 1), (20, .iload_n 3, 1), (21, .aload_n 0, 1), (22, .getfield 21, 3), (25, .if_icmp .ge 47, 3), (28, .aload_n 0, 1), (29, .getfield 30, 3), (32, .iload_n 3, 1), (33, .iaload, 1), (34, .bipush 97, 2), (36, .isub, 1), (37, .istore 4, 2), (39, .iload 4, 2), (41, .iload_n 1, 1), (42, .if_icmp .ge 12, 3), (45, .iload_n 2, 1), (46, .iload 4, 2), (48, .ishr, 1), (49, .iconst 1, 1), (50, .iand, 1), (51, .ifCond .eq 8, 3), (54, .aload_n 0, 1), (55, .invokevirtual 63, 3), (58, .ireturn, 1), (59, .iload_n 2, 1), (60, .iconst 1, 1), (61, .iload 4, 2), (63, .ishl, 1), (64, .ior, 1), (65, .istore_n 2, 1), (66, .iinc 3 1, 3), (69, .goto (-49), 3), (72, .aload_n 0, 1), (73, .iload_n 2, 1), (74, .putfield 24, 3), (77, .aload_n 0, 1), (78, .invokevirtual 43, 3), (81, .iconst 1, 1), (82, .ireturn, 1)]
theorem dt_X9_takesLetters : ∀ q ∈ D_X9_takesLetters, decode cX9_takesLetters q.1 = .ok q.2 := by decide +kernel
theorem mv_X9_takesLetters : ea_MV yX9_takesLetters (F_X9_takesLetters) 1 := ⟨⟨List.mem_append_right _ (List.mem_of_getElem? (i := 7) (by decide +kernel)), List.mem_append_right _ (List.mem_of_getElem? (i := 752) (by decide +kernel)), ⟨by decide, by decide⟩, by decide +kernel⟩, List.mem_append_right _ (List.mem_of_getElem? (i := 750) (by decide +kernel)), List.mem_append_right _ (List.mem_of_getElem? (i := 751) (by decide +kernel))⟩
def f_X9_takesLetters_j54 (a : Nat) (p1 : Int32) (m6 : ea_M) : Option ((Int32 × Int32 × ea_M) ⊕ ((Int32 × ea_M) ⊕ (Int32 × ea_M))) :=
  ea_cl (f_X9_refuse a m6) fun r8 m7 =>
  ea_gz r8 (some (.inr (.inl (r8, m7))))
def f_X9_takesLetters_s20 (a : Nat) (p1 : Int32)  (s20 : Int32 × Int32 × ea_M) : Option ((Int32 × Int32 × ea_M) ⊕ ((Int32 × ea_M) ⊕ (Int32 × ea_M))) :=
  ea_bd (s20.2.2 a 4) fun x3 =>
  if x3 ≤ s20.2.1 then
  some (.inr (.inr (s20.1, s20.2.2)))
  else
  ea_g s20.2.1 400 (ea_bd (s20.2.2 1 (Int32.toNatClampNeg s20.2.1)) fun x4 =>
  ea_bd (x4 - 97) fun x5 =>
  if p1 ≤ x5 then
  f_X9_takesLetters_j54 a p1 s20.2.2
  else
  ea_bd ((s20.1 >>> (x5 &&& 31)) &&& 1) fun x9 =>
  if x9 = 0 then
  ea_bd (s20.1 ||| (1 <<< (x5 &&& 31))) fun x10 =>
  some (.inl (x10, s20.2.1 + 1, s20.2.2))
  else
  f_X9_takesLetters_j54 a p1 s20.2.2)
def f_X9_takesLetters (a : Nat) (p1 : Int32) (m : ea_M) : Option (Int32 × ea_M) :=
  ea_bd (m a 2) fun x1 =>
  if x1 = 1 then
  ea_bd (m a 3) fun x2 =>
  ea_sl (ea_loop (f_X9_takesLetters_s20 a p1) ea_fuel (0, x2, m)) (fun t => some t) (fun x20s =>
  ea_bd (ea_st x20s.2 a 5 x20s.1) fun m11 =>
  ea_cl (f_X9_step a m11) fun r13 m12 =>
  some (1, m12))
  else
  ea_cl (f_X9_refuse a m) fun r15 m14 =>
  ea_gz r15 (some (r15, m14))
set_option maxHeartbeats 300000 in
theorem jn_X9_takesLetters_54 (G : ea_G) {res : ea_O}  (a : Nat) (p1 : Int32) (m6 : ea_M) (ha : ea_isReader a) {Φ : ((Int32 × Int32 × ea_M) ⊕ ((Int32 × ea_M) ⊕ (Int32 × ea_M))) → Prop} (hC : ∀ s20 : Int32 × Int32 × ea_M, Φ (.inl s20) → ea_Ev G F_X9_takesLetters res 20 [some (.ref a), some (.int p1), some (.int s20.1), some (.int s20.2.1), none] [] s20.2.2 0 0) (hR : ∀ t : Int32 × ea_M, Φ (.inr (.inl t)) → res = (0, t)) (hX : ∀ x20s : Int32 × ea_M, Φ (.inr (.inr x20s)) → ea_Ev G F_X9_takesLetters res 72 [some (.ref a), none, some (.int x20s.1), none, none] [] x20s.2 0 0) : ea_E G F_X9_takesLetters res 54 [some (.ref a), none, none, none, none] [] m6 0 0 (f_X9_takesLetters_j54 a p1 m6) Φ := by
  unfold f_X9_takesLetters_j54
  refine ev_aload_n (ea_at dt_X9_takesLetters 32 rfl) rfl ?_
  refine ev_clI (F1 := F_X9_refuse) (fun rY mY hY => ea_runV (As := []) (ea_at dt_X9_takesLetters 33 rfl) ml_X9_63 mv_X9_refuse (ok_X9_refuse G a m6 ha rY mY hY) ha rfl rfl rfl (Nat.le_of_ble_eq_true rfl) rfl) rfl (fun r8 m7 => ?_)
  exact ev_zretG (ea_at dt_X9_takesLetters 34 rfl) rfl ⟨by decide, by decide⟩ (fun h => hR _ h)
set_option maxHeartbeats 300000 in
theorem lp_X9_takesLetters_20 (G : ea_G) {res : ea_O}  (a : Nat) (p1 : Int32) (ha : ea_isReader a) {Ψ : ((Int32 × ea_M) ⊕ (Int32 × ea_M)) → Prop} (hR : ∀ t : Int32 × ea_M, Ψ (.inl t) → res = (0, t)) (hX : ∀ x20s : Int32 × ea_M, Ψ (.inr x20s) → ea_Ev G F_X9_takesLetters res 72 [some (.ref a), none, some (.int x20s.1), none, none] [] x20s.2 0 0) : ∀ (f : Nat) (s20 : Int32 × Int32 × ea_M), ea_E G F_X9_takesLetters res 20 [some (.ref a), some (.int p1), some (.int s20.1), some (.int s20.2.1), none] [] s20.2.2 0 0 (ea_loop (f_X9_takesLetters_s20 a p1) f s20) Ψ := by
  refine ev_loop (G := G) (F := F_X9_takesLetters) (res := res) (pc := 20) (st := []) (k := 0) (n := 0) (step := (f_X9_takesLetters_s20 a p1)) (Ψ := Ψ) (fun (s20 : Int32 × Int32 × ea_M) => [some (.ref a), some (.int p1), some (.int s20.1), some (.int s20.2.1), none]) (fun (s20 : Int32 × Int32 × ea_M) => s20.2.2) (fun s20 => ?_)
  have hC : ∀ s20 : Int32 × Int32 × ea_M, (Sum.elim (fun s20 : Int32 × Int32 × ea_M => ea_Ev G F_X9_takesLetters res 20 [some (.ref a), some (.int p1), some (.int s20.1), some (.int s20.2.1), none] [] s20.2.2 0 0) Ψ) (.inl s20) → ea_Ev G F_X9_takesLetters res 20 [some (.ref a), some (.int p1), some (.int s20.1), some (.int s20.2.1), none] [] s20.2.2 0 0 := fun _ h => h
  have hR : ∀ t : Int32 × ea_M, (Sum.elim (fun s20 : Int32 × Int32 × ea_M => ea_Ev G F_X9_takesLetters res 20 [some (.ref a), some (.int p1), some (.int s20.1), some (.int s20.2.1), none] [] s20.2.2 0 0) Ψ) (.inr (.inl t)) → res = (0, t) := hR
  have hX : ∀ x20s : Int32 × ea_M, (Sum.elim (fun s20 : Int32 × Int32 × ea_M => ea_Ev G F_X9_takesLetters res 20 [some (.ref a), some (.int p1), some (.int s20.1), some (.int s20.2.1), none] [] s20.2.2 0 0) Ψ) (.inr (.inr x20s)) → ea_Ev G F_X9_takesLetters res 72 [some (.ref a), none, some (.int x20s.1), none, none] [] x20s.2 0 0 := hX
  unfold f_X9_takesLetters_s20
  refine ev_iload_n (ea_at dt_X9_takesLetters 12 rfl) rfl ?_
  refine ev_aload_n (ea_at dt_X9_takesLetters 13 rfl) rfl ?_
  refine ev_getI (ea_at dt_X9_takesLetters 14 rfl) fl_X9_21 ha rfl ?_
  refine ev_i (fun x3 => ?_)
  refine ev_icmp_ge (tgt := 72) (ea_at dt_X9_takesLetters 15 rfl) rfl (fun _ => ?_) (fun _ => ?_)
  · exact ev_leaf (fun h => ea_drop (l' := [some (.ref a), none, some (.int s20.1), none, none]) ⟨Or.inr rfl, Or.inl rfl, Or.inr rfl, Or.inl rfl, Or.inl rfl, trivial⟩ (hX (s20.1, s20.2.2) h))
  · refine ev_aload_n (ea_at dt_X9_takesLetters 16 rfl) rfl ?_
    refine ev_getR (ea_at dt_X9_takesLetters 17 rfl) fl_X9_30 ha rfl ?_
    refine ev_iload_n (ea_at dt_X9_takesLetters 18 rfl) rfl ?_
    refine ev_iaload (ea_at dt_X9_takesLetters 19 rfl) sh_1 (by decide) ?_
    refine ev_i (fun x4 => ?_)
    refine ev_bipush (ea_at dt_X9_takesLetters 20 rfl) bp_97 ?_
    refine ev_isub (ea_at dt_X9_takesLetters 21 rfl) ?_
    refine ev_i (fun x5 => ?_)
    refine ev_istore (ls' := [some (.ref a), some (.int p1), some (.int s20.1), some (.int s20.2.1), some (.int x5)]) (ea_at dt_X9_takesLetters 22 rfl) (ea_lt rfl) rfl ?_
    refine ev_iload (ea_at dt_X9_takesLetters 23 rfl) rfl ?_
    refine ev_iload_n (ea_at dt_X9_takesLetters 24 rfl) rfl ?_
    refine ev_icmp_ge (tgt := 54) (ea_at dt_X9_takesLetters 25 rfl) rfl (fun _ => ?_) (fun _ => ?_)
    · exact ev_drop (l' := [some (.ref a), none, none, none, none]) ⟨Or.inr rfl, Or.inl rfl, Or.inl rfl, Or.inl rfl, Or.inl rfl, trivial⟩ (jn_X9_takesLetters_54 G a p1 s20.2.2 ha hC hR hX)
    · refine ev_iload_n (ea_at dt_X9_takesLetters 26 rfl) rfl ?_
      refine ev_iload (ea_at dt_X9_takesLetters 27 rfl) rfl ?_
      refine ev_ishr (ea_at dt_X9_takesLetters 28 rfl) ?_
      refine ev_iconst (ea_at dt_X9_takesLetters 29 rfl) ic_1 ?_
      refine ev_iand (ea_at dt_X9_takesLetters 30 rfl) ?_
      refine ev_i (fun x9 => ?_)
      refine ev_if_eq (tgt := 59) (ea_at dt_X9_takesLetters 31 rfl) rfl (fun _ => ?_) (fun _ => ?_)
      · refine ev_iload_n (ea_at dt_X9_takesLetters 35 rfl) rfl ?_
        refine ev_iconst (ea_at dt_X9_takesLetters 36 rfl) ic_1 ?_
        refine ev_iload (ea_at dt_X9_takesLetters 37 rfl) rfl ?_
        refine ev_ishl (ea_at dt_X9_takesLetters 38 rfl) ?_
        refine ev_ior (ea_at dt_X9_takesLetters 39 rfl) ?_
        refine ev_i (fun x10 => ?_)
        refine ev_istore_n (ls' := [some (.ref a), some (.int p1), some (.int x10), some (.int s20.2.1), some (.int x5)]) (ea_at dt_X9_takesLetters 40 rfl) (ea_lt rfl) rfl ?_
        refine ev_iinc (ls' := [some (.ref a), some (.int p1), some (.int x10), some (.int (s20.2.1 + 1)), some (.int x5)]) (ea_at dt_X9_takesLetters 41 rfl) rfl (congrArg (fun z => _ + z) ic_1) (ea_lt rfl) rfl ?_
        refine ev_goto (tgt := 20) (ea_at dt_X9_takesLetters 42 rfl) rfl ?_
        exact ev_leaf (fun h => ea_drop (l' := [some (.ref a), some (.int p1), some (.int x10), some (.int (s20.2.1 + 1)), none]) ⟨Or.inr rfl, Or.inr rfl, Or.inr rfl, Or.inr rfl, Or.inl rfl, trivial⟩ (hC (x10, s20.2.1 + 1, s20.2.2) h))
      · exact ev_drop (l' := [some (.ref a), none, none, none, none]) ⟨Or.inr rfl, Or.inl rfl, Or.inl rfl, Or.inl rfl, Or.inl rfl, trivial⟩ (jn_X9_takesLetters_54 G a p1 s20.2.2 ha hC hR hX)
set_option maxHeartbeats 300000 in
theorem ok_X9_takesLetters (G : ea_G) (a : Nat) (p1 : Int32) (m : ea_M) (ha : ea_isReader a) (rZ : Int32) (mZ : ea_M) (hZ : f_X9_takesLetters a p1 m = some (rZ, mZ)) : ea_Met G yX9_takesLetters F_X9_takesLetters [.ref a, .int p1] m (0, rZ, mZ) := by
  refine ea_met (F := F_X9_takesLetters) (by decide +kernel) rfl rfl (Nat.le_of_ble_eq_true rfl) (by simp only [List.mem_cons, List.not_mem_nil, or_false]; intro v hv; rcases hv with rfl | rfl <;> rfl) ((?_ : ea_E G F_X9_takesLetters (0, rZ, mZ) 0 [some (.ref a), some (.int p1), none, none, none] [] m 0 0 (f_X9_takesLetters a p1 m) (fun t => t = (rZ, mZ))) (rZ, mZ) hZ rfl)
  have hR : ∀ t : Int32 × ea_M, t = (rZ, mZ) → ((0, rZ, mZ) : ea_O) = (0, t) := fun t h => by rw [h]
  unfold f_X9_takesLetters
  refine ev_aload_n (ea_at dt_X9_takesLetters 0 rfl) rfl ?_
  refine ev_getI (ea_at dt_X9_takesLetters 1 rfl) fl_X9_15 ha rfl ?_
  refine ev_i (fun x1 => ?_)
  refine ev_iconst (ea_at dt_X9_takesLetters 2 rfl) ic_1 ?_
  refine ev_icmp_eq (tgt := 13) (ea_at dt_X9_takesLetters 3 rfl) rfl (fun _ => ?_) (fun _ => ?_)
  · refine ev_iconst (ea_at dt_X9_takesLetters 7 rfl) ic_0 ?_
    refine ev_istore_n (ls' := [some (.ref a), some (.int p1), some (.int 0), none, none]) (ea_at dt_X9_takesLetters 8 rfl) (ea_lt rfl) rfl ?_
    refine ev_aload_n (ea_at dt_X9_takesLetters 9 rfl) rfl ?_
    refine ev_getI (ea_at dt_X9_takesLetters 10 rfl) fl_X9_18 ha rfl ?_
    refine ev_i (fun x2 => ?_)
    refine ev_istore_n (ls' := [some (.ref a), some (.int p1), some (.int 0), some (.int x2), none]) (ea_at dt_X9_takesLetters 11 rfl) (ea_lt rfl) rfl ?_
    refine ev_drop (l' := [some (.ref a), some (.int p1), some (.int 0), some (.int x2), none]) ⟨Or.inr rfl, Or.inr rfl, Or.inr rfl, Or.inr rfl, Or.inl rfl, trivial⟩ ?_
    refine ev_sl (lp_X9_takesLetters_20 G a p1 ha (fun t h => by obtain ⟨t1, e1, q1⟩ := h; cases e1; exact hR t q1) (fun x20s h => ?_) ea_fuel (0, x2, m))
    obtain ⟨t1, e1, q1⟩ := h
    refine (?_ : ea_E G F_X9_takesLetters (0, rZ, mZ) 72 [some (.ref a), none, some (.int x20s.1), none, none] [] x20s.2 0 0 _ (fun t => t = (rZ, mZ))) t1 e1 q1
    refine ev_aload_n (ea_at dt_X9_takesLetters 43 rfl) rfl ?_
    refine ev_iload_n (ea_at dt_X9_takesLetters 44 rfl) rfl ?_
    refine ev_putI (ea_at dt_X9_takesLetters 45 rfl) fl_X9_24 fp_9_5 ha rfl ?_
    refine ev_m (fun m11 => ?_)
    refine ev_aload_n (ea_at dt_X9_takesLetters 46 rfl) rfl ?_
    refine ev_clU (F1 := F_X9_step) (fun rY mY hY => ea_runV (As := []) (ea_at dt_X9_takesLetters 47 rfl) ml_X9_43 mv_X9_step (ok_X9_step G a m11 ha rY mY hY) ha rfl rfl rfl (Nat.le_of_ble_eq_true rfl) rfl) rfl (fun r13 m12 => ?_)
    refine ev_iconst (ea_at dt_X9_takesLetters 48 rfl) ic_1 ?_
    exact ev_zret (by decide) (ea_at dt_X9_takesLetters 49 rfl) rfl ⟨by decide, by decide⟩ (fun h => hR _ h)
  · refine ev_aload_n (ea_at dt_X9_takesLetters 4 rfl) rfl ?_
    refine ev_clI (F1 := F_X9_refuse) (fun rY mY hY => ea_runV (As := []) (ea_at dt_X9_takesLetters 5 rfl) ml_X9_63 mv_X9_refuse (ok_X9_refuse G a m ha rY mY hY) ha rfl rfl rfl (Nat.le_of_ble_eq_true rfl) rfl) rfl (fun r15 m14 => ?_)
    exact ev_zretG (ea_at dt_X9_takesLetters 6 rfl) rfl ⟨by decide, by decide⟩ (fun h => hR _ h)
def F_X3_takesBird : ea_F := (ea_rm 16 0 0, cX3_takesBird, RX3, some .boolean, 2, [], 0, 0)
def D_X3_takesBird : List (Nat × Instr × Nat) := [(0, .aload_n 0, 1), (1, .getfield 20, 3), (4, .getfield 93, 3), (7, .istore_n 1, 1), (8, .iload_n 1, 1), (9, .bipush 6, 2), (11, .if_icmp .lt 11, 3), (14, .aload_n 0, 1), (15, .getfield 14, 3), (18, .invokevirtual 36, 3), (21, .ireturn, 1), (22, .aload_n 0, 1), (23, .getfield 14, 3), (26, .invokevirtual 96, 3), (29, .aload_n 0, 1), (30, .getfield 14, 3), (33, .ldc 99, 2), (35, .iconst 0, 1), (36, .iconst 4, 1), (37, .invokevirtual 82, 3), (40, .ifCond .ne 5, 3), (43, .iconst 0, 1), (44, .ireturn, 1), (45, .aload_n 0, 1), (46, .getfield 20, 3), (49, .getfield 101, 3), (52, .iload_n 1, 1), (53, .aload_n 0, 1), (54, .getfield 14, 3), (57, .getfield 86, 3), (60, .iastore, 1), (61, .aload_n 0, 1), (62, .getfield 14, 3), (65, .ldc 104, 2), (67, .iconst 0, 1), (68, .iconst 3, 1), (69, .invokevirtual 82, 3), (72, .ifCond .ne 5, 3), (75, .iconst 0, 1), (76, .ireturn, 1), (77, .aload_n 0, 1), (78, .getfield 20, 3), (81, .getfield 106, 3), (84, .iload_n 1, 1), (85, .aload_n 0, 1), (86, .getfield 14, 3), (89, .getfield 86, 3), (92, .iastore, 1), (93, .aload_n 0, 1), (94, .getfield 14, 3), (97, .ldc 109, 2), (99, .invokevirtual 111, 3), (102, .ifCond .eq 15, 3), (105, .aload_n 0, 1), (106, .getfield 14, 3), (109, .bipush 6, 2), (111, .invokevirtual 114, 3), (114, .ifCond .ne 5, 3), (117, .iconst 0, 1), (118, .ireturn, 1), (119, .aload_n 0, 1), (120, .getfield 20, 3), (123, .getfield 118, 3), (126, .iload_n 1, 1), (127, .aload_n 0, 1), (128, .getfield 14, 3), (131, .getfield 86, 3), (134, .iastore, 1), (135, .aload_n 0, 1), (136, .getfield 14, 3), (139, .ldc 121, 2), (141, .iconst 0, 1), (142, .iconst 5, 1), (143, .invokevirtual 82, 3), (146, .ifCond .ne 5, 3), (149, .iconst 0, 1), (150, .ireturn, 1), (151, .aload_n 0, 1), (152, .getfield 20, 3), (155, .getfield 123, 3), (158, .iload_n 1, 1), (159, .aload_n 0, 1), (160, .getfield 14, 3), (163, .getfield 86, 3), (166, .iastore, 1), (167, .aload_n 0, 1), (168, .getfield 20, 3), (171, .dup, 1), (172, .getfield 93, 3), (175, .iconst 1, 1), (176, .iadd, 1), (177, .putfield 93, 3), (180, .iconst 1, 1), (181, .ireturn, 1)]
theorem dt_X3_takesBird : ∀ q ∈ D_X3_takesBird, decode cX3_takesBird q.1 = .ok q.2 := by decide +kernel
theorem mv_X3_takesBird : ea_MV yX3_takesBird (F_X3_takesBird) 0 := ⟨⟨List.mem_append_right _ (List.mem_of_getElem? (i := 6) (by decide +kernel)), List.mem_append_right _ (List.mem_of_getElem? (i := 725) (by decide +kernel)), ⟨by decide, by decide⟩, by decide +kernel⟩, List.mem_append_right _ (List.mem_of_getElem? (i := 724) (by decide +kernel)), List.mem_append_left _ (List.mem_of_getElem? (i := 10) (by decide +kernel))⟩
def f_X3_takesBird (m : ea_M) : Option (Int32 × ea_M) :=
  ea_bd (m 24 8) fun x1 =>
  if x1 < 6 then
  ea_cl (f_X9_step 47 m) fun r3 m2 =>
  ea_cl (f_X9_takesNamed 47 1 0 4 m2) fun r5 m4 =>
  if r5 = 0 then
  some (0, m4)
  else
  ea_bd (m4 47 5) fun x6 =>
  ea_g x1 6 (ea_bd (ea_st m4 26 (Int32.toNatClampNeg x1) x6) fun m7 =>
  ea_cl (f_X9_takesNamed 47 2 0 3 m7) fun r9 m8 =>
  if r9 = 0 then
  some (0, m8)
  else
  ea_bd (m8 47 5) fun x10 =>
  ea_g x1 6 (ea_bd (ea_st m8 27 (Int32.toNatClampNeg x1) x10) fun m11 =>
  ea_cl (f_X9_takes 47 3 m11) fun r13 m12 =>
  if r13 = 0 then
  some (0, m12)
  else
  ea_cl (f_X9_takesLetters 47 6 m12) fun r15 m14 =>
  if r15 = 0 then
  some (0, m14)
  else
  ea_bd (m14 47 5) fun x16 =>
  ea_g x1 6 (ea_bd (ea_st m14 28 (Int32.toNatClampNeg x1) x16) fun m17 =>
  ea_cl (f_X9_takesNamed 47 4 0 5 m17) fun r19 m18 =>
  if r19 = 0 then
  some (0, m18)
  else
  ea_bd (m18 47 5) fun x20 =>
  ea_g x1 6 (ea_bd (ea_st m18 29 (Int32.toNatClampNeg x1) x20) fun m21 =>
  ea_bd (m21 24 8) fun x22 =>
  ea_bd (ea_st m21 24 8 (x22 + 1)) fun m23 =>
  some (1, m23)))))
  else
  ea_cl (f_X9_refuse 47 m) fun r25 m24 =>
  ea_gz r25 (some (r25, m24))
set_option maxHeartbeats 300000 in
theorem ok_X3_takesBird (G : ea_G) (m : ea_M)  (rZ : Int32) (mZ : ea_M) (hZ : f_X3_takesBird m = some (rZ, mZ)) : ea_Met G yX3_takesBird F_X3_takesBird [.ref 46] m (0, rZ, mZ) := by
  refine ea_met (F := F_X3_takesBird) (by decide +kernel) rfl rfl (Nat.le_of_ble_eq_true rfl) (by simp only [List.mem_cons, List.not_mem_nil, or_false]; intro v hv; rcases hv with rfl <;> rfl) ((?_ : ea_E G F_X3_takesBird (0, rZ, mZ) 0 [some (.ref 46), none] [] m 0 0 (f_X3_takesBird m) (fun t => t = (rZ, mZ))) (rZ, mZ) hZ rfl)
  have hR : ∀ t : Int32 × ea_M, t = (rZ, mZ) → ((0, rZ, mZ) : ea_O) = (0, t) := fun t h => by rw [h]
  unfold f_X3_takesBird
  refine ev_aload_n (ea_at dt_X3_takesBird 0 rfl) rfl ?_
  refine ev_getR (ea_at dt_X3_takesBird 1 rfl) fl_X3_20 sh_46 rfl ?_
  refine ev_getI (ea_at dt_X3_takesBird 2 rfl) fl_X3_93 sh_24 rfl ?_
  refine ev_i (fun x1 => ?_)
  refine ev_istore_n (ls' := [some (.ref 46), some (.int x1)]) (ea_at dt_X3_takesBird 3 rfl) (ea_lt rfl) rfl ?_
  refine ev_iload_n (ea_at dt_X3_takesBird 4 rfl) rfl ?_
  refine ev_bipush (ea_at dt_X3_takesBird 5 rfl) bp_6 ?_
  refine ev_icmp_lt (tgt := 22) (ea_at dt_X3_takesBird 6 rfl) rfl (fun _ => ?_) (fun _ => ?_)
  · refine ev_aload_n (ea_at dt_X3_takesBird 11 rfl) rfl ?_
    refine ev_getR (ea_at dt_X3_takesBird 12 rfl) fl_X3_14 sh_46 rfl ?_
    refine ev_clU (F1 := F_X9_step) (fun rY mY hY => ea_runV (As := []) (ea_at dt_X3_takesBird 13 rfl) ml_X3_96 mv_X9_step (ok_X9_step G 47 m is_Reader_47 rY mY hY) sh_47 rfl rfl rfl (Nat.le_of_ble_eq_true rfl) rfl) rfl (fun r3 m2 => ?_)
    refine ev_aload_n (ea_at dt_X3_takesBird 14 rfl) rfl ?_
    refine ev_getR (ea_at dt_X3_takesBird 15 rfl) fl_X3_14 sh_46 rfl ?_
    refine ev_ldcS (j := 1) (ea_at dt_X3_takesBird 16 rfl) rfl ?_
    refine ev_iconst (ea_at dt_X3_takesBird 17 rfl) ic_0 ?_
    refine ev_iconst (ea_at dt_X3_takesBird 18 rfl) ic_4 ?_
    refine ev_clI (F1 := F_X9_takesNamed) (fun rY mY hY => ea_runV (As := [.ref (1000 + 1), .int 0, .int 4]) (ea_at dt_X3_takesBird 19 rfl) ml_X3_82 mv_X9_takesNamed (ok_X9_takesNamed G 47 1 0 4 m2 is_Reader_47 (by decide) rY mY hY) sh_47 rfl rfl rfl (Nat.le_of_ble_eq_true rfl) rfl) rfl (fun r5 m4 => ?_)
    refine ev_if_ne (tgt := 45) (ea_at dt_X3_takesBird 20 rfl) rfl (fun _ => ?_) (fun _ => ?_)
    · refine ev_iconst (ea_at dt_X3_takesBird 21 rfl) ic_0 ?_
      exact ev_zret (by decide) (ea_at dt_X3_takesBird 22 rfl) rfl ⟨by decide, by decide⟩ (fun h => hR _ h)
    · refine ev_aload_n (ea_at dt_X3_takesBird 23 rfl) rfl ?_
      refine ev_getR (ea_at dt_X3_takesBird 24 rfl) fl_X3_20 sh_46 rfl ?_
      refine ev_getR (ea_at dt_X3_takesBird 25 rfl) fl_X3_101 sh_24 rfl ?_
      refine ev_iload_n (ea_at dt_X3_takesBird 26 rfl) rfl ?_
      refine ev_aload_n (ea_at dt_X3_takesBird 27 rfl) rfl ?_
      refine ev_getR (ea_at dt_X3_takesBird 28 rfl) fl_X3_14 sh_46 rfl ?_
      refine ev_getI (ea_at dt_X3_takesBird 29 rfl) fl_X3_86 sh_47 rfl ?_
      refine ev_i (fun x6 => ?_)
      refine ev_iastore (ea_at dt_X3_takesBird 30 rfl) sh_26 (by decide) ?_
      refine ev_m (fun m7 => ?_)
      refine ev_aload_n (ea_at dt_X3_takesBird 31 rfl) rfl ?_
      refine ev_getR (ea_at dt_X3_takesBird 32 rfl) fl_X3_14 sh_46 rfl ?_
      refine ev_ldcS (j := 2) (ea_at dt_X3_takesBird 33 rfl) rfl ?_
      refine ev_iconst (ea_at dt_X3_takesBird 34 rfl) ic_0 ?_
      refine ev_iconst (ea_at dt_X3_takesBird 35 rfl) ic_3 ?_
      refine ev_clI (F1 := F_X9_takesNamed) (fun rY mY hY => ea_runV (As := [.ref (1000 + 2), .int 0, .int 3]) (ea_at dt_X3_takesBird 36 rfl) ml_X3_82 mv_X9_takesNamed (ok_X9_takesNamed G 47 2 0 3 m7 is_Reader_47 (by decide) rY mY hY) sh_47 rfl rfl rfl (Nat.le_of_ble_eq_true rfl) rfl) rfl (fun r9 m8 => ?_)
      refine ev_if_ne (tgt := 77) (ea_at dt_X3_takesBird 37 rfl) rfl (fun _ => ?_) (fun _ => ?_)
      · refine ev_iconst (ea_at dt_X3_takesBird 38 rfl) ic_0 ?_
        exact ev_zret (by decide) (ea_at dt_X3_takesBird 39 rfl) rfl ⟨by decide, by decide⟩ (fun h => hR _ h)
      · refine ev_aload_n (ea_at dt_X3_takesBird 40 rfl) rfl ?_
        refine ev_getR (ea_at dt_X3_takesBird 41 rfl) fl_X3_20 sh_46 rfl ?_
        refine ev_getR (ea_at dt_X3_takesBird 42 rfl) fl_X3_106 sh_24 rfl ?_
        refine ev_iload_n (ea_at dt_X3_takesBird 43 rfl) rfl ?_
        refine ev_aload_n (ea_at dt_X3_takesBird 44 rfl) rfl ?_
        refine ev_getR (ea_at dt_X3_takesBird 45 rfl) fl_X3_14 sh_46 rfl ?_
        refine ev_getI (ea_at dt_X3_takesBird 46 rfl) fl_X3_86 sh_47 rfl ?_
        refine ev_i (fun x10 => ?_)
        refine ev_iastore (ea_at dt_X3_takesBird 47 rfl) sh_27 (by decide) ?_
        refine ev_m (fun m11 => ?_)
        refine ev_aload_n (ea_at dt_X3_takesBird 48 rfl) rfl ?_
        refine ev_getR (ea_at dt_X3_takesBird 49 rfl) fl_X3_14 sh_46 rfl ?_
        refine ev_ldcS (j := 3) (ea_at dt_X3_takesBird 50 rfl) rfl ?_
        refine ev_clI (F1 := F_X9_takes) (fun rY mY hY => ea_runV (As := [.ref (1000 + 3)]) (ea_at dt_X3_takesBird 51 rfl) ml_X3_111 mv_X9_takes (ok_X9_takes G 47 3 m11 is_Reader_47 (by decide) rY mY hY) sh_47 rfl rfl rfl (Nat.le_of_ble_eq_true rfl) rfl) rfl (fun r13 m12 => ?_)
        refine ev_if_eq (tgt := 117) (ea_at dt_X3_takesBird 52 rfl) rfl (fun _ => ?_) (fun _ => ?_)
        · refine ev_iconst (ea_at dt_X3_takesBird 58 rfl) ic_0 ?_
          exact ev_zret (by decide) (ea_at dt_X3_takesBird 59 rfl) rfl ⟨by decide, by decide⟩ (fun h => hR _ h)
        · refine ev_aload_n (ea_at dt_X3_takesBird 53 rfl) rfl ?_
          refine ev_getR (ea_at dt_X3_takesBird 54 rfl) fl_X3_14 sh_46 rfl ?_
          refine ev_bipush (ea_at dt_X3_takesBird 55 rfl) bp_6 ?_
          refine ev_clI (F1 := F_X9_takesLetters) (fun rY mY hY => ea_runV (As := [.int 6]) (ea_at dt_X3_takesBird 56 rfl) ml_X3_114 mv_X9_takesLetters (ok_X9_takesLetters G 47 6 m12 is_Reader_47 rY mY hY) sh_47 rfl rfl rfl (Nat.le_of_ble_eq_true rfl) rfl) rfl (fun r15 m14 => ?_)
          refine ev_if_ne (tgt := 119) (ea_at dt_X3_takesBird 57 rfl) rfl (fun _ => ?_) (fun _ => ?_)
          · refine ev_iconst (ea_at dt_X3_takesBird 58 rfl) ic_0 ?_
            exact ev_zret (by decide) (ea_at dt_X3_takesBird 59 rfl) rfl ⟨by decide, by decide⟩ (fun h => hR _ h)
          · refine ev_aload_n (ea_at dt_X3_takesBird 60 rfl) rfl ?_
            refine ev_getR (ea_at dt_X3_takesBird 61 rfl) fl_X3_20 sh_46 rfl ?_
            refine ev_getR (ea_at dt_X3_takesBird 62 rfl) fl_X3_118 sh_24 rfl ?_
            refine ev_iload_n (ea_at dt_X3_takesBird 63 rfl) rfl ?_
            refine ev_aload_n (ea_at dt_X3_takesBird 64 rfl) rfl ?_
            refine ev_getR (ea_at dt_X3_takesBird 65 rfl) fl_X3_14 sh_46 rfl ?_
            refine ev_getI (ea_at dt_X3_takesBird 66 rfl) fl_X3_86 sh_47 rfl ?_
            refine ev_i (fun x16 => ?_)
            refine ev_iastore (ea_at dt_X3_takesBird 67 rfl) sh_28 (by decide) ?_
            refine ev_m (fun m17 => ?_)
            refine ev_aload_n (ea_at dt_X3_takesBird 68 rfl) rfl ?_
            refine ev_getR (ea_at dt_X3_takesBird 69 rfl) fl_X3_14 sh_46 rfl ?_
            refine ev_ldcS (j := 4) (ea_at dt_X3_takesBird 70 rfl) rfl ?_
            refine ev_iconst (ea_at dt_X3_takesBird 71 rfl) ic_0 ?_
            refine ev_iconst (ea_at dt_X3_takesBird 72 rfl) ic_5 ?_
            refine ev_clI (F1 := F_X9_takesNamed) (fun rY mY hY => ea_runV (As := [.ref (1000 + 4), .int 0, .int 5]) (ea_at dt_X3_takesBird 73 rfl) ml_X3_82 mv_X9_takesNamed (ok_X9_takesNamed G 47 4 0 5 m17 is_Reader_47 (by decide) rY mY hY) sh_47 rfl rfl rfl (Nat.le_of_ble_eq_true rfl) rfl) rfl (fun r19 m18 => ?_)
            refine ev_if_ne (tgt := 151) (ea_at dt_X3_takesBird 74 rfl) rfl (fun _ => ?_) (fun _ => ?_)
            · refine ev_iconst (ea_at dt_X3_takesBird 75 rfl) ic_0 ?_
              exact ev_zret (by decide) (ea_at dt_X3_takesBird 76 rfl) rfl ⟨by decide, by decide⟩ (fun h => hR _ h)
            · refine ev_aload_n (ea_at dt_X3_takesBird 77 rfl) rfl ?_
              refine ev_getR (ea_at dt_X3_takesBird 78 rfl) fl_X3_20 sh_46 rfl ?_
              refine ev_getR (ea_at dt_X3_takesBird 79 rfl) fl_X3_123 sh_24 rfl ?_
              refine ev_iload_n (ea_at dt_X3_takesBird 80 rfl) rfl ?_
              refine ev_aload_n (ea_at dt_X3_takesBird 81 rfl) rfl ?_
              refine ev_getR (ea_at dt_X3_takesBird 82 rfl) fl_X3_14 sh_46 rfl ?_
              refine ev_getI (ea_at dt_X3_takesBird 83 rfl) fl_X3_86 sh_47 rfl ?_
              refine ev_i (fun x20 => ?_)
              refine ev_iastore (ea_at dt_X3_takesBird 84 rfl) sh_29 (by decide) ?_
              refine ev_m (fun m21 => ?_)
              refine ev_aload_n (ea_at dt_X3_takesBird 85 rfl) rfl ?_
              refine ev_getR (ea_at dt_X3_takesBird 86 rfl) fl_X3_20 sh_46 rfl ?_
              refine ev_dup (ea_at dt_X3_takesBird 87 rfl) rfl ?_
              refine ev_getI (ea_at dt_X3_takesBird 88 rfl) fl_X3_93 sh_24 rfl ?_
              refine ev_i (fun x22 => ?_)
              refine ev_iconst (ea_at dt_X3_takesBird 89 rfl) ic_1 ?_
              refine ev_iadd (ea_at dt_X3_takesBird 90 rfl) ?_
              refine ev_putI (ea_at dt_X3_takesBird 91 rfl) fl_X3_93 fp_2_8 sh_24 rfl ?_
              refine ev_m (fun m23 => ?_)
              refine ev_iconst (ea_at dt_X3_takesBird 92 rfl) ic_1 ?_
              exact ev_zret (by decide) (ea_at dt_X3_takesBird 93 rfl) rfl ⟨by decide, by decide⟩ (fun h => hR _ h)
  · refine ev_aload_n (ea_at dt_X3_takesBird 7 rfl) rfl ?_
    refine ev_getR (ea_at dt_X3_takesBird 8 rfl) fl_X3_14 sh_46 rfl ?_
    refine ev_clI (F1 := F_X9_refuse) (fun rY mY hY => ea_runV (As := []) (ea_at dt_X3_takesBird 9 rfl) ml_X3_36 mv_X9_refuse (ok_X9_refuse G 47 m is_Reader_47 rY mY hY) sh_47 rfl rfl rfl (Nat.le_of_ble_eq_true rfl) rfl) rfl (fun r25 m24 => ?_)
    exact ev_zretG (ea_at dt_X3_takesBird 10 rfl) rfl ⟨by decide, by decide⟩ (fun h => hR _ h)
def F_X3_takesCounsel : ea_F := (ea_rm 10 0 0, cX3_takesCounsel, RX3, some .boolean, 4, [], 0, 0)
def D_X3_takesCounsel : List (Nat × Instr × Nat) := [(0, .aload_n 0, 1), (1, .getfield 20, 3), (4, .getfield 126, 3), (7, .astore_n 1, 1), (8, .aload_n 1, 1), (9, .getfield 130, 3), (12, .iconst 4, 1), (13, .if_icmp .lt 11, 3), (16, .aload_n 0, 1), (17, .getfield 14, 3), (20, .invokevirtual 36, 3), (23, .ireturn, 1), (24, .aload_n 0, 1), (25, .getfield 14, 3), (28, .invokevirtual 96, 3), (31, .aload_n 0, 1), (32, .getfield 14, 3), (35, .getfield 28, 3), (38, .iconst 2, 1), (39, .if_icmp .ne 28, 3), (42, .aload_n 0, 1), (43, .getfield 14, 3), (46, .getfield 135, 3), (49, .aload_n 0, 1), (50, .getfield 14, 3), (53, .getfield 138, 3), (56, .isub, 1), (57, .aload_n 0, 1), (58, .getfield 20, 3), (61, .getfield 93, 3), (64, .if_icmp .eq 11, 3), (67, .aload_n 0, 1), (68, .getfield 14, 3), (71, .invokevirtual 36, 3), (74, .ireturn, 1), (75, .iconst 0, 1), (76, .istore_n 2, 1), (77, .iload_n 2, 1), (78, .aload_n 0, 1), (79, .getfield 20, 3), (82, .getfield 93, 3), (85, .if_icmp .ge 45, 3), (88, .aload_n 0, 1), (89, .getfield 14, 3), (92, .getfield 141, 3), (95, .aload_n 0, 1), (96, .getfield 14, 3), (99, .getfield 138, 3), (102, .iload_n 2, 1), (103, .iadd, 1), (104, .iaload, 1), (105, .bipush 48, 2), (107, .isub, 1), (108, .istore_n 3, 1), (109, .aload_n 1, 1), (110, .getfield 144, 3), (113, .aload_n 1, 1), (114, .getfield 130, 3), (117, .bipush 6, 2), (119, .imul, 1), (120, .iload_n 2, 1), (121, .iadd, 1), (122, .iload_n 3, 1), (123, .iastore, 1), (124, .iinc 2 1, 3), (127, .goto (-50), 3), (130, .aload_n 1, 1), (131, .dup, 1), (132, .getfield 130, 3), (135, .iconst 1, 1), (136, .iadd, 1), (137, .putfield 130, 3), (140, .aload_n 0, 1), (141, .getfield 14, 3), (144, .invokevirtual 96, 3), (147, .iconst 1, 1), (148, .ireturn, 1)]
theorem dt_X3_takesCounsel : ∀ q ∈ D_X3_takesCounsel, decode cX3_takesCounsel q.1 = .ok q.2 := by decide +kernel
theorem mv_X3_takesCounsel : ea_MV yX3_takesCounsel (F_X3_takesCounsel) 0 := ⟨⟨List.mem_append_right _ (List.mem_of_getElem? (i := 6) (by decide +kernel)), List.mem_append_right _ (List.mem_of_getElem? (i := 758) (by decide +kernel)), ⟨by decide, by decide⟩, by decide +kernel⟩, List.mem_append_right _ (List.mem_of_getElem? (i := 757) (by decide +kernel)), List.mem_append_left _ (List.mem_of_getElem? (i := 11) (by decide +kernel))⟩
def f_X3_takesCounsel_s77  (s77 : Int32 × ea_M) : Option ((Int32 × ea_M) ⊕ (ea_M)) :=
  ea_bd (s77.2 24 8) fun x8 =>
  if x8 ≤ s77.1 then
  some (.inr s77.2)
  else
  ea_bd (s77.2 47 3) fun x9 =>
  ea_g (x9 + s77.1) 400 (ea_bd (s77.2 1 (Int32.toNatClampNeg (x9 + s77.1))) fun x10 =>
  ea_bd (x10 - 48) fun x11 =>
  ea_bd (s77.2 30 0) fun x12 =>
  ea_bd ((x12 * 6) + s77.1) fun x13 =>
  ea_g x13 24 (ea_bd (ea_st s77.2 31 (Int32.toNatClampNeg x13) x11) fun m14 =>
  some (.inl (s77.1 + 1, m14))))
def f_X3_takesCounsel_j67 (m19 : ea_M) : Option (Int32 × ea_M) :=
  ea_cl (f_X9_refuse 47 m19) fun r21 m20 =>
  ea_gz r21 (some (r21, m20))
def f_X3_takesCounsel (m : ea_M) : Option (Int32 × ea_M) :=
  ea_bd (m 30 0) fun x1 =>
  if x1 < 4 then
  ea_cl (f_X9_step 47 m) fun r3 m2 =>
  ea_bd (m2 47 2) fun x4 =>
  if x4 = 2 then
  ea_bd (m2 47 4) fun x5 =>
  ea_bd (m2 47 3) fun x6 =>
  ea_bd (m2 24 8) fun x7 =>
  if (x5 - x6) = x7 then
  (ea_loop f_X3_takesCounsel_s77 ea_fuel (0, m2)).bind (fun x77s =>
  ea_bd (x77s 30 0) fun x15 =>
  ea_bd (ea_st x77s 30 0 (x15 + 1)) fun m16 =>
  ea_cl (f_X9_step 47 m16) fun r18 m17 =>
  some (1, m17))
  else
  f_X3_takesCounsel_j67 m2
  else
  f_X3_takesCounsel_j67 m2
  else
  ea_cl (f_X9_refuse 47 m) fun r23 m22 =>
  ea_gz r23 (some (r23, m22))
set_option maxHeartbeats 300000 in
theorem lp_X3_takesCounsel_77 (G : ea_G) {res : ea_O}    {Ψ : ea_M → Prop} (hX : ∀ x77s : ea_M, Ψ x77s → ea_Ev G F_X3_takesCounsel res 130 [some (.ref 46), some (.ref 30), none, none] [] x77s 0 0) : ∀ (f : Nat) (s77 : Int32 × ea_M), ea_E G F_X3_takesCounsel res 77 [some (.ref 46), some (.ref 30), some (.int s77.1), none] [] s77.2 0 0 (ea_loop f_X3_takesCounsel_s77 f s77) Ψ := by
  refine ev_loop (G := G) (F := F_X3_takesCounsel) (res := res) (pc := 77) (st := []) (k := 0) (n := 0) (step := f_X3_takesCounsel_s77) (Ψ := Ψ) (fun (s77 : Int32 × ea_M) => [some (.ref 46), some (.ref 30), some (.int s77.1), none]) (fun (s77 : Int32 × ea_M) => s77.2) (fun s77 => ?_)
  have hC : ∀ s77 : Int32 × ea_M, (Sum.elim (fun s77 : Int32 × ea_M => ea_Ev G F_X3_takesCounsel res 77 [some (.ref 46), some (.ref 30), some (.int s77.1), none] [] s77.2 0 0) Ψ) (.inl s77) → ea_Ev G F_X3_takesCounsel res 77 [some (.ref 46), some (.ref 30), some (.int s77.1), none] [] s77.2 0 0 := fun _ h => h
  have hX : ∀ x77s : ea_M, (Sum.elim (fun s77 : Int32 × ea_M => ea_Ev G F_X3_takesCounsel res 77 [some (.ref 46), some (.ref 30), some (.int s77.1), none] [] s77.2 0 0) Ψ) (.inr x77s) → ea_Ev G F_X3_takesCounsel res 130 [some (.ref 46), some (.ref 30), none, none] [] x77s 0 0 := hX
  unfold f_X3_takesCounsel_s77
  refine ev_iload_n (ea_at dt_X3_takesCounsel 37 rfl) rfl ?_
  refine ev_aload_n (ea_at dt_X3_takesCounsel 38 rfl) rfl ?_
  refine ev_getR (ea_at dt_X3_takesCounsel 39 rfl) fl_X3_20 sh_46 rfl ?_
  refine ev_getI (ea_at dt_X3_takesCounsel 40 rfl) fl_X3_93 sh_24 rfl ?_
  refine ev_i (fun x8 => ?_)
  refine ev_icmp_ge (tgt := 130) (ea_at dt_X3_takesCounsel 41 rfl) rfl (fun _ => ?_) (fun _ => ?_)
  · exact ev_leaf (fun h => ea_drop (l' := [some (.ref 46), some (.ref 30), none, none]) ⟨Or.inr rfl, Or.inr rfl, Or.inl rfl, Or.inl rfl, trivial⟩ (hX s77.2 h))
  · refine ev_aload_n (ea_at dt_X3_takesCounsel 42 rfl) rfl ?_
    refine ev_getR (ea_at dt_X3_takesCounsel 43 rfl) fl_X3_14 sh_46 rfl ?_
    refine ev_getR (ea_at dt_X3_takesCounsel 44 rfl) fl_X3_141 sh_47 rfl ?_
    refine ev_aload_n (ea_at dt_X3_takesCounsel 45 rfl) rfl ?_
    refine ev_getR (ea_at dt_X3_takesCounsel 46 rfl) fl_X3_14 sh_46 rfl ?_
    refine ev_getI (ea_at dt_X3_takesCounsel 47 rfl) fl_X3_138 sh_47 rfl ?_
    refine ev_i (fun x9 => ?_)
    refine ev_iload_n (ea_at dt_X3_takesCounsel 48 rfl) rfl ?_
    refine ev_iadd (ea_at dt_X3_takesCounsel 49 rfl) ?_
    refine ev_iaload (ea_at dt_X3_takesCounsel 50 rfl) sh_1 (by decide) ?_
    refine ev_i (fun x10 => ?_)
    refine ev_bipush (ea_at dt_X3_takesCounsel 51 rfl) bp_48 ?_
    refine ev_isub (ea_at dt_X3_takesCounsel 52 rfl) ?_
    refine ev_i (fun x11 => ?_)
    refine ev_istore_n (ls' := [some (.ref 46), some (.ref 30), some (.int s77.1), some (.int x11)]) (ea_at dt_X3_takesCounsel 53 rfl) (ea_lt rfl) rfl ?_
    refine ev_aload_n (ea_at dt_X3_takesCounsel 54 rfl) rfl ?_
    refine ev_getR (ea_at dt_X3_takesCounsel 55 rfl) fl_X3_144 sh_30 rfl ?_
    refine ev_aload_n (ea_at dt_X3_takesCounsel 56 rfl) rfl ?_
    refine ev_getI (ea_at dt_X3_takesCounsel 57 rfl) fl_X3_130 sh_30 rfl ?_
    refine ev_i (fun x12 => ?_)
    refine ev_bipush (ea_at dt_X3_takesCounsel 58 rfl) bp_6 ?_
    refine ev_imul (ea_at dt_X3_takesCounsel 59 rfl) ?_
    refine ev_iload_n (ea_at dt_X3_takesCounsel 60 rfl) rfl ?_
    refine ev_iadd (ea_at dt_X3_takesCounsel 61 rfl) ?_
    refine ev_i (fun x13 => ?_)
    refine ev_iload_n (ea_at dt_X3_takesCounsel 62 rfl) rfl ?_
    refine ev_iastore (ea_at dt_X3_takesCounsel 63 rfl) sh_31 (by decide) ?_
    refine ev_m (fun m14 => ?_)
    refine ev_iinc (ls' := [some (.ref 46), some (.ref 30), some (.int (s77.1 + 1)), some (.int x11)]) (ea_at dt_X3_takesCounsel 64 rfl) rfl (congrArg (fun z => _ + z) ic_1) (ea_lt rfl) rfl ?_
    refine ev_goto (tgt := 77) (ea_at dt_X3_takesCounsel 65 rfl) rfl ?_
    exact ev_leaf (fun h => ea_drop (l' := [some (.ref 46), some (.ref 30), some (.int (s77.1 + 1)), none]) ⟨Or.inr rfl, Or.inr rfl, Or.inr rfl, Or.inl rfl, trivial⟩ (hC (s77.1 + 1, m14) h))
set_option maxHeartbeats 300000 in
theorem jn_X3_takesCounsel_67 (G : ea_G) {res : ea_O}  (m19 : ea_M)  {Φ : (Int32 × ea_M) → Prop} (hR : ∀ t : Int32 × ea_M, Φ t → res = (0, t)) : ea_E G F_X3_takesCounsel res 67 [some (.ref 46), none, none, none] [] m19 0 0 (f_X3_takesCounsel_j67 m19) Φ := by
  unfold f_X3_takesCounsel_j67
  refine ev_aload_n (ea_at dt_X3_takesCounsel 31 rfl) rfl ?_
  refine ev_getR (ea_at dt_X3_takesCounsel 32 rfl) fl_X3_14 sh_46 rfl ?_
  refine ev_clI (F1 := F_X9_refuse) (fun rY mY hY => ea_runV (As := []) (ea_at dt_X3_takesCounsel 33 rfl) ml_X3_36 mv_X9_refuse (ok_X9_refuse G 47 m19 is_Reader_47 rY mY hY) sh_47 rfl rfl rfl (Nat.le_of_ble_eq_true rfl) rfl) rfl (fun r21 m20 => ?_)
  exact ev_zretG (ea_at dt_X3_takesCounsel 34 rfl) rfl ⟨by decide, by decide⟩ (fun h => hR _ h)
set_option maxHeartbeats 300000 in
theorem ok_X3_takesCounsel (G : ea_G) (m : ea_M)  (rZ : Int32) (mZ : ea_M) (hZ : f_X3_takesCounsel m = some (rZ, mZ)) : ea_Met G yX3_takesCounsel F_X3_takesCounsel [.ref 46] m (0, rZ, mZ) := by
  refine ea_met (F := F_X3_takesCounsel) (by decide +kernel) rfl rfl (Nat.le_of_ble_eq_true rfl) (by simp only [List.mem_cons, List.not_mem_nil, or_false]; intro v hv; rcases hv with rfl <;> rfl) ((?_ : ea_E G F_X3_takesCounsel (0, rZ, mZ) 0 [some (.ref 46), none, none, none] [] m 0 0 (f_X3_takesCounsel m) (fun t => t = (rZ, mZ))) (rZ, mZ) hZ rfl)
  have hR : ∀ t : Int32 × ea_M, t = (rZ, mZ) → ((0, rZ, mZ) : ea_O) = (0, t) := fun t h => by rw [h]
  unfold f_X3_takesCounsel
  refine ev_aload_n (ea_at dt_X3_takesCounsel 0 rfl) rfl ?_
  refine ev_getR (ea_at dt_X3_takesCounsel 1 rfl) fl_X3_20 sh_46 rfl ?_
  refine ev_getR (ea_at dt_X3_takesCounsel 2 rfl) fl_X3_126 sh_24 rfl ?_
  refine ev_astore_n (ls' := [some (.ref 46), some (.ref 30), none, none]) (ea_at dt_X3_takesCounsel 3 rfl) (ea_lt rfl) rfl ?_
  refine ev_aload_n (ea_at dt_X3_takesCounsel 4 rfl) rfl ?_
  refine ev_getI (ea_at dt_X3_takesCounsel 5 rfl) fl_X3_130 sh_30 rfl ?_
  refine ev_i (fun x1 => ?_)
  refine ev_iconst (ea_at dt_X3_takesCounsel 6 rfl) ic_4 ?_
  refine ev_icmp_lt (tgt := 24) (ea_at dt_X3_takesCounsel 7 rfl) rfl (fun _ => ?_) (fun _ => ?_)
  · refine ev_aload_n (ea_at dt_X3_takesCounsel 12 rfl) rfl ?_
    refine ev_getR (ea_at dt_X3_takesCounsel 13 rfl) fl_X3_14 sh_46 rfl ?_
    refine ev_clU (F1 := F_X9_step) (fun rY mY hY => ea_runV (As := []) (ea_at dt_X3_takesCounsel 14 rfl) ml_X3_96 mv_X9_step (ok_X9_step G 47 m is_Reader_47 rY mY hY) sh_47 rfl rfl rfl (Nat.le_of_ble_eq_true rfl) rfl) rfl (fun r3 m2 => ?_)
    refine ev_aload_n (ea_at dt_X3_takesCounsel 15 rfl) rfl ?_
    refine ev_getR (ea_at dt_X3_takesCounsel 16 rfl) fl_X3_14 sh_46 rfl ?_
    refine ev_getI (ea_at dt_X3_takesCounsel 17 rfl) fl_X3_28 sh_47 rfl ?_
    refine ev_i (fun x4 => ?_)
    refine ev_iconst (ea_at dt_X3_takesCounsel 18 rfl) ic_2 ?_
    refine ev_icmp_ne (tgt := 67) (ea_at dt_X3_takesCounsel 19 rfl) rfl (fun _ => ?_) (fun _ => ?_)
    · refine ev_aload_n (ea_at dt_X3_takesCounsel 20 rfl) rfl ?_
      refine ev_getR (ea_at dt_X3_takesCounsel 21 rfl) fl_X3_14 sh_46 rfl ?_
      refine ev_getI (ea_at dt_X3_takesCounsel 22 rfl) fl_X3_135 sh_47 rfl ?_
      refine ev_i (fun x5 => ?_)
      refine ev_aload_n (ea_at dt_X3_takesCounsel 23 rfl) rfl ?_
      refine ev_getR (ea_at dt_X3_takesCounsel 24 rfl) fl_X3_14 sh_46 rfl ?_
      refine ev_getI (ea_at dt_X3_takesCounsel 25 rfl) fl_X3_138 sh_47 rfl ?_
      refine ev_i (fun x6 => ?_)
      refine ev_isub (ea_at dt_X3_takesCounsel 26 rfl) ?_
      refine ev_aload_n (ea_at dt_X3_takesCounsel 27 rfl) rfl ?_
      refine ev_getR (ea_at dt_X3_takesCounsel 28 rfl) fl_X3_20 sh_46 rfl ?_
      refine ev_getI (ea_at dt_X3_takesCounsel 29 rfl) fl_X3_93 sh_24 rfl ?_
      refine ev_i (fun x7 => ?_)
      refine ev_icmp_eq (tgt := 75) (ea_at dt_X3_takesCounsel 30 rfl) rfl (fun _ => ?_) (fun _ => ?_)
      · refine ev_iconst (ea_at dt_X3_takesCounsel 35 rfl) ic_0 ?_
        refine ev_istore_n (ls' := [some (.ref 46), some (.ref 30), some (.int 0), none]) (ea_at dt_X3_takesCounsel 36 rfl) (ea_lt rfl) rfl ?_
        refine ev_drop (l' := [some (.ref 46), some (.ref 30), some (.int 0), none]) ⟨Or.inr rfl, Or.inr rfl, Or.inr rfl, Or.inl rfl, trivial⟩ ?_
        refine ev_bind (lp_X3_takesCounsel_77 G   (fun x77s h => ?_) ea_fuel (0, m2))
        obtain ⟨t1, e1, q1⟩ := h
        refine (?_ : ea_E G F_X3_takesCounsel (0, rZ, mZ) 130 [some (.ref 46), some (.ref 30), none, none] [] x77s 0 0 _ (fun t => t = (rZ, mZ))) t1 e1 q1
        refine ev_aload_n (ea_at dt_X3_takesCounsel 66 rfl) rfl ?_
        refine ev_dup (ea_at dt_X3_takesCounsel 67 rfl) rfl ?_
        refine ev_getI (ea_at dt_X3_takesCounsel 68 rfl) fl_X3_130 sh_30 rfl ?_
        refine ev_i (fun x15 => ?_)
        refine ev_iconst (ea_at dt_X3_takesCounsel 69 rfl) ic_1 ?_
        refine ev_iadd (ea_at dt_X3_takesCounsel 70 rfl) ?_
        refine ev_putI (ea_at dt_X3_takesCounsel 71 rfl) fl_X3_130 fp_1_0 sh_30 rfl ?_
        refine ev_m (fun m16 => ?_)
        refine ev_aload_n (ea_at dt_X3_takesCounsel 72 rfl) rfl ?_
        refine ev_getR (ea_at dt_X3_takesCounsel 73 rfl) fl_X3_14 sh_46 rfl ?_
        refine ev_clU (F1 := F_X9_step) (fun rY mY hY => ea_runV (As := []) (ea_at dt_X3_takesCounsel 74 rfl) ml_X3_96 mv_X9_step (ok_X9_step G 47 m16 is_Reader_47 rY mY hY) sh_47 rfl rfl rfl (Nat.le_of_ble_eq_true rfl) rfl) rfl (fun r18 m17 => ?_)
        refine ev_iconst (ea_at dt_X3_takesCounsel 75 rfl) ic_1 ?_
        exact ev_zret (by decide) (ea_at dt_X3_takesCounsel 76 rfl) rfl ⟨by decide, by decide⟩ (fun h => hR _ h)
      · exact ev_drop (l' := [some (.ref 46), none, none, none]) ⟨Or.inr rfl, Or.inl rfl, Or.inl rfl, Or.inl rfl, trivial⟩ (jn_X3_takesCounsel_67 G m2  hR)
    · exact ev_drop (l' := [some (.ref 46), none, none, none]) ⟨Or.inr rfl, Or.inl rfl, Or.inl rfl, Or.inl rfl, trivial⟩ (jn_X3_takesCounsel_67 G m2  hR)
  · refine ev_aload_n (ea_at dt_X3_takesCounsel 8 rfl) rfl ?_
    refine ev_getR (ea_at dt_X3_takesCounsel 9 rfl) fl_X3_14 sh_46 rfl ?_
    refine ev_clI (F1 := F_X9_refuse) (fun rY mY hY => ea_runV (As := []) (ea_at dt_X3_takesCounsel 10 rfl) ml_X3_36 mv_X9_refuse (ok_X9_refuse G 47 m is_Reader_47 rY mY hY) sh_47 rfl rfl rfl (Nat.le_of_ble_eq_true rfl) rfl) rfl (fun r23 m22 => ?_)
    exact ev_zretG (ea_at dt_X3_takesCounsel 11 rfl) rfl ⟨by decide, by decide⟩ (fun h => hR _ h)
def F_X3_takesCase : ea_F := (ea_rm 15 0 0, cX3_takesCase, RX3, some .boolean, 4, [], 0, 0)
def D_X3_takesCase : List (Nat × Instr × Nat) := [(0, .aload_n 0, 1), (1, .getfield 20, 3), (4, .getfield 126, 3), (7, .astore_n 1, 1), (8, .aload_n 1, 1), (9, .getfield 147, 3), (12, .istore_n 2, 1), (13, .iload_n 2, 1), (14, .bipush 12, 2), (16, .if_icmp .lt 11, 3), (19, .aload_n 0, 1), (20, .getfield 14, 3), (23, .invokevirtual 36, 3), (26, .ireturn, 1), (27, .aload_n 0, 1), (28, .getfield 14, 3), (31, .invokevirtual 96, 3), (34, .aload_n 0, 1), (35, .getfield 14, 3), (38, .iconst 0, 1), (39, .aload_n 1, 1), (40, .getfield 130, 3), (43, .iconst 1, 1), (44, .isub, 1), (45, .invokevirtual 150, 3), (48, .ifCond .ne 5, 3), (51, .iconst 0, 1), (52, .ireturn, 1), (53, .aload_n 1, 1), (54, .getfield 154, 3), (57, .iload_n 2, 1), (58, .aload_n 0, 1), (59, .getfield 14, 3), (62, .getfield 86, 3), (65, .iastore, 1), (66, .aload_n 0, 1), (67, .getfield 14, 3), (70, .getfield 138, 3), (73, .istore_n 3, 1), (74, .aload_n 0, 1), (75, .getfield 14, 3), (78, .iconst 0, 1), (79, .aload_n 1, 1), (80, .getfield 130, 3), (83, .iconst 1, 1), (84, .isub, 1), (85, .invokevirtual 150, 3), (88, .ifCond .ne 5, 3), (91, .iconst 0, 1), (92, .ireturn, 1), (93, .aload_n 1, 1), (94, .getfield 157, 3), (97, .iload_n 2, 1), (98, .aload_n 0, 1), (99, .getfield 14, 3), (102, .getfield 86, 3), (105, .iastore, 1), (106, .aload_n 1, 1), (107, .getfield 157, 3), (110, .iload_n 2, 1), (111, .iaload, 1), (112, .aload_n 1, 1), (113, .getfield 154, 3), (116, .iload_n 2, 1), (117, .iaload, 1), (118, .if_icmp .ne 13, 3), (121, .aload_n 0, 1), (122, .getfield 14, 3), (125, .iload_n 3, 1), (126, .putfield 43, 3), (129, .iconst 0, 1), (130, .ireturn, 1), (131, .aload_n 0, 1), (132, .getfield 14, 3), (135, .ldc 160, 2), (137, .invokevirtual 111, 3), (140, .ifCond .eq 20, 3), (143, .aload_n 0, 1), (144, .getfield 14, 3), (147, .aload_n 0, 1), (148, .getfield 20, 3), (151, .getfield 93, 3), (154, .invokevirtual 114, 3), (157, .ifCond .ne 5, 3), (160, .iconst 0, 1), (161, .ireturn, 1), (162, .aload_n 1, 1), (163, .getfield 162, 3), (166, .iload_n 2, 1), (167, .aload_n 0, 1), (168, .getfield 14, 3), (171, .getfield 86, 3), (174, .iastore, 1), (175, .aload_n 1, 1), (176, .getfield 164, 3), (179, .iload_n 2, 1), (180, .iconst 0, 1), (181, .iastore, 1), (182, .aload_n 1, 1), (183, .dup, 1), (184, .getfield 147, 3), (187, .iconst 1, 1), (188, .iadd, 1), (189, .putfield 147, 3), (192, .iconst 1, 1), (193, .ireturn, 1)]
theorem dt_X3_takesCase : ∀ q ∈ D_X3_takesCase, decode cX3_takesCase q.1 = .ok q.2 := by decide +kernel
theorem mv_X3_takesCase : ea_MV yX3_takesCase (F_X3_takesCase) 0 := ⟨⟨List.mem_append_right _ (List.mem_of_getElem? (i := 6) (by decide +kernel)), List.mem_append_right _ (List.mem_of_getElem? (i := 763) (by decide +kernel)), ⟨by decide, by decide⟩, by decide +kernel⟩, List.mem_append_right _ (List.mem_of_getElem? (i := 762) (by decide +kernel)), List.mem_append_left _ (List.mem_of_getElem? (i := 12) (by decide +kernel))⟩
def f_X3_takesCase (m : ea_M) : Option (Int32 × ea_M) :=
  ea_bd (m 30 1) fun x1 =>
  if x1 < 12 then
  ea_cl (f_X9_step 47 m) fun r3 m2 =>
  ea_bd (m2 30 0) fun x4 =>
  ea_cl (f_X9_takesNumber 47 0 (x4 - 1) m2) fun r6 m5 =>
  if r6 = 0 then
  some (0, m5)
  else
  ea_bd (m5 47 5) fun x7 =>
  ea_g x1 12 (ea_bd (ea_st m5 32 (Int32.toNatClampNeg x1) x7) fun m8 =>
  ea_bd (m8 47 3) fun x9 =>
  ea_bd (m8 30 0) fun x10 =>
  ea_cl (f_X9_takesNumber 47 0 (x10 - 1) m8) fun r12 m11 =>
  if r12 = 0 then
  some (0, m11)
  else
  ea_bd (m11 47 5) fun x13 =>
  ea_g x1 12 (ea_bd (ea_st m11 33 (Int32.toNatClampNeg x1) x13) fun m14 =>
  ea_g x1 12 (ea_bd (m14 33 (Int32.toNatClampNeg x1)) fun x15 =>
  ea_g x1 12 (ea_bd (m14 32 (Int32.toNatClampNeg x1)) fun x16 =>
  if x15 = x16 then
  ea_bd (ea_st m14 47 6 x9) fun m17 =>
  some (0, m17)
  else
  ea_cl (f_X9_takes 47 7 m14) fun r19 m18 =>
  if r19 = 0 then
  some (0, m18)
  else
  ea_bd (m18 24 8) fun x20 =>
  ea_cl (f_X9_takesLetters 47 x20 m18) fun r22 m21 =>
  if r22 = 0 then
  some (0, m21)
  else
  ea_bd (m21 47 5) fun x23 =>
  ea_g x1 12 (ea_bd (ea_st m21 34 (Int32.toNatClampNeg x1) x23) fun m24 =>
  ea_g x1 12 (ea_bd (ea_st m24 35 (Int32.toNatClampNeg x1) 0) fun m25 =>
  ea_bd (m25 30 1) fun x26 =>
  ea_bd (ea_st m25 30 1 (x26 + 1)) fun m27 =>
  some (1, m27)))))))
  else
  ea_cl (f_X9_refuse 47 m) fun r29 m28 =>
  ea_gz r29 (some (r29, m28))
set_option maxHeartbeats 300000 in
theorem ok_X3_takesCase (G : ea_G) (m : ea_M)  (rZ : Int32) (mZ : ea_M) (hZ : f_X3_takesCase m = some (rZ, mZ)) : ea_Met G yX3_takesCase F_X3_takesCase [.ref 46] m (0, rZ, mZ) := by
  refine ea_met (F := F_X3_takesCase) (by decide +kernel) rfl rfl (Nat.le_of_ble_eq_true rfl) (by simp only [List.mem_cons, List.not_mem_nil, or_false]; intro v hv; rcases hv with rfl <;> rfl) ((?_ : ea_E G F_X3_takesCase (0, rZ, mZ) 0 [some (.ref 46), none, none, none] [] m 0 0 (f_X3_takesCase m) (fun t => t = (rZ, mZ))) (rZ, mZ) hZ rfl)
  have hR : ∀ t : Int32 × ea_M, t = (rZ, mZ) → ((0, rZ, mZ) : ea_O) = (0, t) := fun t h => by rw [h]
  unfold f_X3_takesCase
  refine ev_aload_n (ea_at dt_X3_takesCase 0 rfl) rfl ?_
  refine ev_getR (ea_at dt_X3_takesCase 1 rfl) fl_X3_20 sh_46 rfl ?_
  refine ev_getR (ea_at dt_X3_takesCase 2 rfl) fl_X3_126 sh_24 rfl ?_
  refine ev_astore_n (ls' := [some (.ref 46), some (.ref 30), none, none]) (ea_at dt_X3_takesCase 3 rfl) (ea_lt rfl) rfl ?_
  refine ev_aload_n (ea_at dt_X3_takesCase 4 rfl) rfl ?_
  refine ev_getI (ea_at dt_X3_takesCase 5 rfl) fl_X3_147 sh_30 rfl ?_
  refine ev_i (fun x1 => ?_)
  refine ev_istore_n (ls' := [some (.ref 46), some (.ref 30), some (.int x1), none]) (ea_at dt_X3_takesCase 6 rfl) (ea_lt rfl) rfl ?_
  refine ev_iload_n (ea_at dt_X3_takesCase 7 rfl) rfl ?_
  refine ev_bipush (ea_at dt_X3_takesCase 8 rfl) bp_12 ?_
  refine ev_icmp_lt (tgt := 27) (ea_at dt_X3_takesCase 9 rfl) rfl (fun _ => ?_) (fun _ => ?_)
  · refine ev_aload_n (ea_at dt_X3_takesCase 14 rfl) rfl ?_
    refine ev_getR (ea_at dt_X3_takesCase 15 rfl) fl_X3_14 sh_46 rfl ?_
    refine ev_clU (F1 := F_X9_step) (fun rY mY hY => ea_runV (As := []) (ea_at dt_X3_takesCase 16 rfl) ml_X3_96 mv_X9_step (ok_X9_step G 47 m is_Reader_47 rY mY hY) sh_47 rfl rfl rfl (Nat.le_of_ble_eq_true rfl) rfl) rfl (fun r3 m2 => ?_)
    refine ev_aload_n (ea_at dt_X3_takesCase 17 rfl) rfl ?_
    refine ev_getR (ea_at dt_X3_takesCase 18 rfl) fl_X3_14 sh_46 rfl ?_
    refine ev_iconst (ea_at dt_X3_takesCase 19 rfl) ic_0 ?_
    refine ev_aload_n (ea_at dt_X3_takesCase 20 rfl) rfl ?_
    refine ev_getI (ea_at dt_X3_takesCase 21 rfl) fl_X3_130 sh_30 rfl ?_
    refine ev_i (fun x4 => ?_)
    refine ev_iconst (ea_at dt_X3_takesCase 22 rfl) ic_1 ?_
    refine ev_isub (ea_at dt_X3_takesCase 23 rfl) ?_
    refine ev_clI (F1 := F_X9_takesNumber) (fun rY mY hY => ea_runV (As := [.int 0, .int (x4 - 1)]) (ea_at dt_X3_takesCase 24 rfl) ml_X3_150 mv_X9_takesNumber (ok_X9_takesNumber G 47 0 (x4 - 1) m2 is_Reader_47 rY mY hY) sh_47 rfl rfl rfl (Nat.le_of_ble_eq_true rfl) rfl) rfl (fun r6 m5 => ?_)
    refine ev_if_ne (tgt := 53) (ea_at dt_X3_takesCase 25 rfl) rfl (fun _ => ?_) (fun _ => ?_)
    · refine ev_iconst (ea_at dt_X3_takesCase 26 rfl) ic_0 ?_
      exact ev_zret (by decide) (ea_at dt_X3_takesCase 27 rfl) rfl ⟨by decide, by decide⟩ (fun h => hR _ h)
    · refine ev_aload_n (ea_at dt_X3_takesCase 28 rfl) rfl ?_
      refine ev_getR (ea_at dt_X3_takesCase 29 rfl) fl_X3_154 sh_30 rfl ?_
      refine ev_iload_n (ea_at dt_X3_takesCase 30 rfl) rfl ?_
      refine ev_aload_n (ea_at dt_X3_takesCase 31 rfl) rfl ?_
      refine ev_getR (ea_at dt_X3_takesCase 32 rfl) fl_X3_14 sh_46 rfl ?_
      refine ev_getI (ea_at dt_X3_takesCase 33 rfl) fl_X3_86 sh_47 rfl ?_
      refine ev_i (fun x7 => ?_)
      refine ev_iastore (ea_at dt_X3_takesCase 34 rfl) sh_32 (by decide) ?_
      refine ev_m (fun m8 => ?_)
      refine ev_aload_n (ea_at dt_X3_takesCase 35 rfl) rfl ?_
      refine ev_getR (ea_at dt_X3_takesCase 36 rfl) fl_X3_14 sh_46 rfl ?_
      refine ev_getI (ea_at dt_X3_takesCase 37 rfl) fl_X3_138 sh_47 rfl ?_
      refine ev_i (fun x9 => ?_)
      refine ev_istore_n (ls' := [some (.ref 46), some (.ref 30), some (.int x1), some (.int x9)]) (ea_at dt_X3_takesCase 38 rfl) (ea_lt rfl) rfl ?_
      refine ev_aload_n (ea_at dt_X3_takesCase 39 rfl) rfl ?_
      refine ev_getR (ea_at dt_X3_takesCase 40 rfl) fl_X3_14 sh_46 rfl ?_
      refine ev_iconst (ea_at dt_X3_takesCase 41 rfl) ic_0 ?_
      refine ev_aload_n (ea_at dt_X3_takesCase 42 rfl) rfl ?_
      refine ev_getI (ea_at dt_X3_takesCase 43 rfl) fl_X3_130 sh_30 rfl ?_
      refine ev_i (fun x10 => ?_)
      refine ev_iconst (ea_at dt_X3_takesCase 44 rfl) ic_1 ?_
      refine ev_isub (ea_at dt_X3_takesCase 45 rfl) ?_
      refine ev_clI (F1 := F_X9_takesNumber) (fun rY mY hY => ea_runV (As := [.int 0, .int (x10 - 1)]) (ea_at dt_X3_takesCase 46 rfl) ml_X3_150 mv_X9_takesNumber (ok_X9_takesNumber G 47 0 (x10 - 1) m8 is_Reader_47 rY mY hY) sh_47 rfl rfl rfl (Nat.le_of_ble_eq_true rfl) rfl) rfl (fun r12 m11 => ?_)
      refine ev_if_ne (tgt := 93) (ea_at dt_X3_takesCase 47 rfl) rfl (fun _ => ?_) (fun _ => ?_)
      · refine ev_iconst (ea_at dt_X3_takesCase 48 rfl) ic_0 ?_
        exact ev_zret (by decide) (ea_at dt_X3_takesCase 49 rfl) rfl ⟨by decide, by decide⟩ (fun h => hR _ h)
      · refine ev_aload_n (ea_at dt_X3_takesCase 50 rfl) rfl ?_
        refine ev_getR (ea_at dt_X3_takesCase 51 rfl) fl_X3_157 sh_30 rfl ?_
        refine ev_iload_n (ea_at dt_X3_takesCase 52 rfl) rfl ?_
        refine ev_aload_n (ea_at dt_X3_takesCase 53 rfl) rfl ?_
        refine ev_getR (ea_at dt_X3_takesCase 54 rfl) fl_X3_14 sh_46 rfl ?_
        refine ev_getI (ea_at dt_X3_takesCase 55 rfl) fl_X3_86 sh_47 rfl ?_
        refine ev_i (fun x13 => ?_)
        refine ev_iastore (ea_at dt_X3_takesCase 56 rfl) sh_33 (by decide) ?_
        refine ev_m (fun m14 => ?_)
        refine ev_aload_n (ea_at dt_X3_takesCase 57 rfl) rfl ?_
        refine ev_getR (ea_at dt_X3_takesCase 58 rfl) fl_X3_157 sh_30 rfl ?_
        refine ev_iload_n (ea_at dt_X3_takesCase 59 rfl) rfl ?_
        refine ev_iaload (ea_at dt_X3_takesCase 60 rfl) sh_33 (by decide) ?_
        refine ev_i (fun x15 => ?_)
        refine ev_aload_n (ea_at dt_X3_takesCase 61 rfl) rfl ?_
        refine ev_getR (ea_at dt_X3_takesCase 62 rfl) fl_X3_154 sh_30 rfl ?_
        refine ev_iload_n (ea_at dt_X3_takesCase 63 rfl) rfl ?_
        refine ev_iaload (ea_at dt_X3_takesCase 64 rfl) sh_32 (by decide) ?_
        refine ev_i (fun x16 => ?_)
        refine ev_icmp_ne (tgt := 131) (ea_at dt_X3_takesCase 65 rfl) rfl (fun _ => ?_) (fun _ => ?_)
        · refine ev_aload_n (ea_at dt_X3_takesCase 66 rfl) rfl ?_
          refine ev_getR (ea_at dt_X3_takesCase 67 rfl) fl_X3_14 sh_46 rfl ?_
          refine ev_iload_n (ea_at dt_X3_takesCase 68 rfl) rfl ?_
          refine ev_putI (ea_at dt_X3_takesCase 69 rfl) fl_X3_43 fp_9_6 sh_47 rfl ?_
          refine ev_m (fun m17 => ?_)
          refine ev_iconst (ea_at dt_X3_takesCase 70 rfl) ic_0 ?_
          exact ev_zret (by decide) (ea_at dt_X3_takesCase 71 rfl) rfl ⟨by decide, by decide⟩ (fun h => hR _ h)
        · refine ev_aload_n (ea_at dt_X3_takesCase 72 rfl) rfl ?_
          refine ev_getR (ea_at dt_X3_takesCase 73 rfl) fl_X3_14 sh_46 rfl ?_
          refine ev_ldcS (j := 7) (ea_at dt_X3_takesCase 74 rfl) rfl ?_
          refine ev_clI (F1 := F_X9_takes) (fun rY mY hY => ea_runV (As := [.ref (1000 + 7)]) (ea_at dt_X3_takesCase 75 rfl) ml_X3_111 mv_X9_takes (ok_X9_takes G 47 7 m14 is_Reader_47 (by decide) rY mY hY) sh_47 rfl rfl rfl (Nat.le_of_ble_eq_true rfl) rfl) rfl (fun r19 m18 => ?_)
          refine ev_if_eq (tgt := 160) (ea_at dt_X3_takesCase 76 rfl) rfl (fun _ => ?_) (fun _ => ?_)
          · refine ev_iconst (ea_at dt_X3_takesCase 84 rfl) ic_0 ?_
            exact ev_zret (by decide) (ea_at dt_X3_takesCase 85 rfl) rfl ⟨by decide, by decide⟩ (fun h => hR _ h)
          · refine ev_aload_n (ea_at dt_X3_takesCase 77 rfl) rfl ?_
            refine ev_getR (ea_at dt_X3_takesCase 78 rfl) fl_X3_14 sh_46 rfl ?_
            refine ev_aload_n (ea_at dt_X3_takesCase 79 rfl) rfl ?_
            refine ev_getR (ea_at dt_X3_takesCase 80 rfl) fl_X3_20 sh_46 rfl ?_
            refine ev_getI (ea_at dt_X3_takesCase 81 rfl) fl_X3_93 sh_24 rfl ?_
            refine ev_i (fun x20 => ?_)
            refine ev_clI (F1 := F_X9_takesLetters) (fun rY mY hY => ea_runV (As := [.int x20]) (ea_at dt_X3_takesCase 82 rfl) ml_X3_114 mv_X9_takesLetters (ok_X9_takesLetters G 47 x20 m18 is_Reader_47 rY mY hY) sh_47 rfl rfl rfl (Nat.le_of_ble_eq_true rfl) rfl) rfl (fun r22 m21 => ?_)
            refine ev_if_ne (tgt := 162) (ea_at dt_X3_takesCase 83 rfl) rfl (fun _ => ?_) (fun _ => ?_)
            · refine ev_iconst (ea_at dt_X3_takesCase 84 rfl) ic_0 ?_
              exact ev_zret (by decide) (ea_at dt_X3_takesCase 85 rfl) rfl ⟨by decide, by decide⟩ (fun h => hR _ h)
            · refine ev_aload_n (ea_at dt_X3_takesCase 86 rfl) rfl ?_
              refine ev_getR (ea_at dt_X3_takesCase 87 rfl) fl_X3_162 sh_30 rfl ?_
              refine ev_iload_n (ea_at dt_X3_takesCase 88 rfl) rfl ?_
              refine ev_aload_n (ea_at dt_X3_takesCase 89 rfl) rfl ?_
              refine ev_getR (ea_at dt_X3_takesCase 90 rfl) fl_X3_14 sh_46 rfl ?_
              refine ev_getI (ea_at dt_X3_takesCase 91 rfl) fl_X3_86 sh_47 rfl ?_
              refine ev_i (fun x23 => ?_)
              refine ev_iastore (ea_at dt_X3_takesCase 92 rfl) sh_34 (by decide) ?_
              refine ev_m (fun m24 => ?_)
              refine ev_aload_n (ea_at dt_X3_takesCase 93 rfl) rfl ?_
              refine ev_getR (ea_at dt_X3_takesCase 94 rfl) fl_X3_164 sh_30 rfl ?_
              refine ev_iload_n (ea_at dt_X3_takesCase 95 rfl) rfl ?_
              refine ev_iconst (ea_at dt_X3_takesCase 96 rfl) ic_0 ?_
              refine ev_iastore (ea_at dt_X3_takesCase 97 rfl) sh_35 (by decide) ?_
              refine ev_m (fun m25 => ?_)
              refine ev_aload_n (ea_at dt_X3_takesCase 98 rfl) rfl ?_
              refine ev_dup (ea_at dt_X3_takesCase 99 rfl) rfl ?_
              refine ev_getI (ea_at dt_X3_takesCase 100 rfl) fl_X3_147 sh_30 rfl ?_
              refine ev_i (fun x26 => ?_)
              refine ev_iconst (ea_at dt_X3_takesCase 101 rfl) ic_1 ?_
              refine ev_iadd (ea_at dt_X3_takesCase 102 rfl) ?_
              refine ev_putI (ea_at dt_X3_takesCase 103 rfl) fl_X3_147 fp_1_1 sh_30 rfl ?_
              refine ev_m (fun m27 => ?_)
              refine ev_iconst (ea_at dt_X3_takesCase 104 rfl) ic_1 ?_
              exact ev_zret (by decide) (ea_at dt_X3_takesCase 105 rfl) rfl ⟨by decide, by decide⟩ (fun h => hR _ h)
  · refine ev_aload_n (ea_at dt_X3_takesCase 10 rfl) rfl ?_
    refine ev_getR (ea_at dt_X3_takesCase 11 rfl) fl_X3_14 sh_46 rfl ?_
    refine ev_clI (F1 := F_X9_refuse) (fun rY mY hY => ea_runV (As := []) (ea_at dt_X3_takesCase 12 rfl) ml_X3_36 mv_X9_refuse (ok_X9_refuse G 47 m is_Reader_47 rY mY hY) sh_47 rfl rfl rfl (Nat.le_of_ble_eq_true rfl) rfl) rfl (fun r29 m28 => ?_)
    exact ev_zretG (ea_at dt_X3_takesCase 13 rfl) rfl ⟨by decide, by decide⟩ (fun h => hR _ h)
def F_X3_takesTower : ea_F := (ea_rm 16 0 0, cX3_takesTower, RX3, some .boolean, 1, [], 0, 0)
def D_X3_takesTower : List (Nat × Instr × Nat) := [(0, .aload_n 0, 1), (1, .getfield 14, 3), (4, .ldc 65, 2), (6, .iconst 0, 1), (7, .bipush 15, 2), (9, .invokevirtual 82, 3), (12, .ifCond .ne 5, 3), (15, .iconst 0, 1), (16, .ireturn, 1), (17, .aload_n 0, 1), (18, .getfield 20, 3), (21, .aload_n 0, 1), (22, .getfield 14, 3), (25, .getfield 86, 3), (28, .putfield 167, 3), (31, .aload_n 0, 1), (32, .getfield 14, 3), (35, .ldc 169, 2), (37, .iconst 1, 1), (38, .bipush 12, 2), (40, .invokevirtual 82, 3), (43, .ifCond .ne 5, 3), (46, .iconst 0, 1), (47, .ireturn, 1), (48, .aload_n 0, 1), (49, .getfield 20, 3), (52, .aload_n 0, 1), (53, .getfield 14, 3), (56, .getfield 86, 3), (59, .putfield 171, 3), (62, .iconst 1, 1), (63, .ireturn, 1)]
theorem dt_X3_takesTower : ∀ q ∈ D_X3_takesTower, decode cX3_takesTower q.1 = .ok q.2 := by decide +kernel
theorem mv_X3_takesTower : ea_MV yX3_takesTower (F_X3_takesTower) 0 := ⟨⟨List.mem_append_right _ (List.mem_of_getElem? (i := 6) (by decide +kernel)), List.mem_append_right _ (List.mem_of_getElem? (i := 770) (by decide +kernel)), ⟨by decide, by decide⟩, by decide +kernel⟩, List.mem_append_right _ (List.mem_of_getElem? (i := 769) (by decide +kernel)), List.mem_append_left _ (List.mem_of_getElem? (i := 13) (by decide +kernel))⟩
def f_X3_takesTower (m : ea_M) : Option (Int32 × ea_M) :=
  ea_cl (f_X9_takesNamed 47 8 0 15 m) fun r2 m1 =>
  if r2 = 0 then
  some (0, m1)
  else
  ea_bd (m1 47 5) fun x3 =>
  ea_bd (ea_st m1 24 0 x3) fun m4 =>
  ea_cl (f_X9_takesNamed 47 9 1 12 m4) fun r6 m5 =>
  if r6 = 0 then
  some (0, m5)
  else
  ea_bd (m5 47 5) fun x7 =>
  ea_bd (ea_st m5 24 1 x7) fun m8 =>
  some (1, m8)
set_option maxHeartbeats 300000 in
theorem ok_X3_takesTower (G : ea_G) (m : ea_M)  (rZ : Int32) (mZ : ea_M) (hZ : f_X3_takesTower m = some (rZ, mZ)) : ea_Met G yX3_takesTower F_X3_takesTower [.ref 46] m (0, rZ, mZ) := by
  refine ea_met (F := F_X3_takesTower) (by decide +kernel) rfl rfl (Nat.le_of_ble_eq_true rfl) (by simp only [List.mem_cons, List.not_mem_nil, or_false]; intro v hv; rcases hv with rfl <;> rfl) ((?_ : ea_E G F_X3_takesTower (0, rZ, mZ) 0 [some (.ref 46)] [] m 0 0 (f_X3_takesTower m) (fun t => t = (rZ, mZ))) (rZ, mZ) hZ rfl)
  have hR : ∀ t : Int32 × ea_M, t = (rZ, mZ) → ((0, rZ, mZ) : ea_O) = (0, t) := fun t h => by rw [h]
  unfold f_X3_takesTower
  refine ev_aload_n (ea_at dt_X3_takesTower 0 rfl) rfl ?_
  refine ev_getR (ea_at dt_X3_takesTower 1 rfl) fl_X3_14 sh_46 rfl ?_
  refine ev_ldcS (j := 8) (ea_at dt_X3_takesTower 2 rfl) rfl ?_
  refine ev_iconst (ea_at dt_X3_takesTower 3 rfl) ic_0 ?_
  refine ev_bipush (ea_at dt_X3_takesTower 4 rfl) bp_15 ?_
  refine ev_clI (F1 := F_X9_takesNamed) (fun rY mY hY => ea_runV (As := [.ref (1000 + 8), .int 0, .int 15]) (ea_at dt_X3_takesTower 5 rfl) ml_X3_82 mv_X9_takesNamed (ok_X9_takesNamed G 47 8 0 15 m is_Reader_47 (by decide) rY mY hY) sh_47 rfl rfl rfl (Nat.le_of_ble_eq_true rfl) rfl) rfl (fun r2 m1 => ?_)
  refine ev_if_ne (tgt := 17) (ea_at dt_X3_takesTower 6 rfl) rfl (fun _ => ?_) (fun _ => ?_)
  · refine ev_iconst (ea_at dt_X3_takesTower 7 rfl) ic_0 ?_
    exact ev_zret (by decide) (ea_at dt_X3_takesTower 8 rfl) rfl ⟨by decide, by decide⟩ (fun h => hR _ h)
  · refine ev_aload_n (ea_at dt_X3_takesTower 9 rfl) rfl ?_
    refine ev_getR (ea_at dt_X3_takesTower 10 rfl) fl_X3_20 sh_46 rfl ?_
    refine ev_aload_n (ea_at dt_X3_takesTower 11 rfl) rfl ?_
    refine ev_getR (ea_at dt_X3_takesTower 12 rfl) fl_X3_14 sh_46 rfl ?_
    refine ev_getI (ea_at dt_X3_takesTower 13 rfl) fl_X3_86 sh_47 rfl ?_
    refine ev_i (fun x3 => ?_)
    refine ev_putI (ea_at dt_X3_takesTower 14 rfl) fl_X3_167 fp_2_0 sh_24 rfl ?_
    refine ev_m (fun m4 => ?_)
    refine ev_aload_n (ea_at dt_X3_takesTower 15 rfl) rfl ?_
    refine ev_getR (ea_at dt_X3_takesTower 16 rfl) fl_X3_14 sh_46 rfl ?_
    refine ev_ldcS (j := 9) (ea_at dt_X3_takesTower 17 rfl) rfl ?_
    refine ev_iconst (ea_at dt_X3_takesTower 18 rfl) ic_1 ?_
    refine ev_bipush (ea_at dt_X3_takesTower 19 rfl) bp_12 ?_
    refine ev_clI (F1 := F_X9_takesNamed) (fun rY mY hY => ea_runV (As := [.ref (1000 + 9), .int 1, .int 12]) (ea_at dt_X3_takesTower 20 rfl) ml_X3_82 mv_X9_takesNamed (ok_X9_takesNamed G 47 9 1 12 m4 is_Reader_47 (by decide) rY mY hY) sh_47 rfl rfl rfl (Nat.le_of_ble_eq_true rfl) rfl) rfl (fun r6 m5 => ?_)
    refine ev_if_ne (tgt := 48) (ea_at dt_X3_takesTower 21 rfl) rfl (fun _ => ?_) (fun _ => ?_)
    · refine ev_iconst (ea_at dt_X3_takesTower 22 rfl) ic_0 ?_
      exact ev_zret (by decide) (ea_at dt_X3_takesTower 23 rfl) rfl ⟨by decide, by decide⟩ (fun h => hR _ h)
    · refine ev_aload_n (ea_at dt_X3_takesTower 24 rfl) rfl ?_
      refine ev_getR (ea_at dt_X3_takesTower 25 rfl) fl_X3_20 sh_46 rfl ?_
      refine ev_aload_n (ea_at dt_X3_takesTower 26 rfl) rfl ?_
      refine ev_getR (ea_at dt_X3_takesTower 27 rfl) fl_X3_14 sh_46 rfl ?_
      refine ev_getI (ea_at dt_X3_takesTower 28 rfl) fl_X3_86 sh_47 rfl ?_
      refine ev_i (fun x7 => ?_)
      refine ev_putI (ea_at dt_X3_takesTower 29 rfl) fl_X3_171 fp_2_1 sh_24 rfl ?_
      refine ev_m (fun m8 => ?_)
      refine ev_iconst (ea_at dt_X3_takesTower 30 rfl) ic_1 ?_
      exact ev_zret (by decide) (ea_at dt_X3_takesTower 31 rfl) rfl ⟨by decide, by decide⟩ (fun h => hR _ h)
def F_X3_takesYard : ea_F := (ea_rm 16 0 0, cX3_takesYard, RX3, some .boolean, 1, [], 0, 0)
def D_X3_takesYard : List (Nat × Instr × Nat) := [(0, .aload_n 0, 1), (1, .getfield 14, 3), (4, .ldc 70, 2), (6, .iconst 0, 1), (7, .bipush 15, 2), (9, .invokevirtual 82, 3), (12, .ifCond .ne 5, 3), (15, .iconst 0, 1), (16, .ireturn, 1), (17, .aload_n 0, 1), (18, .getfield 20, 3), (21, .aload_n 0, 1), (22, .getfield 14, 3), (25, .getfield 86, 3), (28, .putfield 173, 3), (31, .aload_n 0, 1), (32, .getfield 14, 3), (35, .ldc 176, 2), (37, .aload_n 0, 1), (38, .getfield 20, 3), (41, .getfield 173, 3), (44, .bipush 15, 2), (46, .invokevirtual 82, 3), (49, .ifCond .ne 5, 3), (52, .iconst 0, 1), (53, .ireturn, 1), (54, .aload_n 0, 1), (55, .getfield 20, 3), (58, .aload_n 0, 1), (59, .getfield 14, 3), (62, .getfield 86, 3), (65, .putfield 178, 3), (68, .iconst 1, 1), (69, .ireturn, 1)]
theorem dt_X3_takesYard : ∀ q ∈ D_X3_takesYard, decode cX3_takesYard q.1 = .ok q.2 := by decide +kernel
theorem mv_X3_takesYard : ea_MV yX3_takesYard (F_X3_takesYard) 0 := ⟨⟨List.mem_append_right _ (List.mem_of_getElem? (i := 6) (by decide +kernel)), List.mem_append_right _ (List.mem_of_getElem? (i := 776) (by decide +kernel)), ⟨by decide, by decide⟩, by decide +kernel⟩, List.mem_append_right _ (List.mem_of_getElem? (i := 775) (by decide +kernel)), List.mem_append_left _ (List.mem_of_getElem? (i := 14) (by decide +kernel))⟩
def f_X3_takesYard (m : ea_M) : Option (Int32 × ea_M) :=
  ea_cl (f_X9_takesNamed 47 10 0 15 m) fun r2 m1 =>
  if r2 = 0 then
  some (0, m1)
  else
  ea_bd (m1 47 5) fun x3 =>
  ea_bd (ea_st m1 24 2 x3) fun m4 =>
  ea_bd (m4 24 2) fun x5 =>
  ea_cl (f_X9_takesNamed 47 11 x5 15 m4) fun r7 m6 =>
  if r7 = 0 then
  some (0, m6)
  else
  ea_bd (m6 47 5) fun x8 =>
  ea_bd (ea_st m6 24 3 x8) fun m9 =>
  some (1, m9)
set_option maxHeartbeats 300000 in
theorem ok_X3_takesYard (G : ea_G) (m : ea_M)  (rZ : Int32) (mZ : ea_M) (hZ : f_X3_takesYard m = some (rZ, mZ)) : ea_Met G yX3_takesYard F_X3_takesYard [.ref 46] m (0, rZ, mZ) := by
  refine ea_met (F := F_X3_takesYard) (by decide +kernel) rfl rfl (Nat.le_of_ble_eq_true rfl) (by simp only [List.mem_cons, List.not_mem_nil, or_false]; intro v hv; rcases hv with rfl <;> rfl) ((?_ : ea_E G F_X3_takesYard (0, rZ, mZ) 0 [some (.ref 46)] [] m 0 0 (f_X3_takesYard m) (fun t => t = (rZ, mZ))) (rZ, mZ) hZ rfl)
  have hR : ∀ t : Int32 × ea_M, t = (rZ, mZ) → ((0, rZ, mZ) : ea_O) = (0, t) := fun t h => by rw [h]
  unfold f_X3_takesYard
  refine ev_aload_n (ea_at dt_X3_takesYard 0 rfl) rfl ?_
  refine ev_getR (ea_at dt_X3_takesYard 1 rfl) fl_X3_14 sh_46 rfl ?_
  refine ev_ldcS (j := 10) (ea_at dt_X3_takesYard 2 rfl) rfl ?_
  refine ev_iconst (ea_at dt_X3_takesYard 3 rfl) ic_0 ?_
  refine ev_bipush (ea_at dt_X3_takesYard 4 rfl) bp_15 ?_
  refine ev_clI (F1 := F_X9_takesNamed) (fun rY mY hY => ea_runV (As := [.ref (1000 + 10), .int 0, .int 15]) (ea_at dt_X3_takesYard 5 rfl) ml_X3_82 mv_X9_takesNamed (ok_X9_takesNamed G 47 10 0 15 m is_Reader_47 (by decide) rY mY hY) sh_47 rfl rfl rfl (Nat.le_of_ble_eq_true rfl) rfl) rfl (fun r2 m1 => ?_)
  refine ev_if_ne (tgt := 17) (ea_at dt_X3_takesYard 6 rfl) rfl (fun _ => ?_) (fun _ => ?_)
  · refine ev_iconst (ea_at dt_X3_takesYard 7 rfl) ic_0 ?_
    exact ev_zret (by decide) (ea_at dt_X3_takesYard 8 rfl) rfl ⟨by decide, by decide⟩ (fun h => hR _ h)
  · refine ev_aload_n (ea_at dt_X3_takesYard 9 rfl) rfl ?_
    refine ev_getR (ea_at dt_X3_takesYard 10 rfl) fl_X3_20 sh_46 rfl ?_
    refine ev_aload_n (ea_at dt_X3_takesYard 11 rfl) rfl ?_
    refine ev_getR (ea_at dt_X3_takesYard 12 rfl) fl_X3_14 sh_46 rfl ?_
    refine ev_getI (ea_at dt_X3_takesYard 13 rfl) fl_X3_86 sh_47 rfl ?_
    refine ev_i (fun x3 => ?_)
    refine ev_putI (ea_at dt_X3_takesYard 14 rfl) fl_X3_173 fp_2_2 sh_24 rfl ?_
    refine ev_m (fun m4 => ?_)
    refine ev_aload_n (ea_at dt_X3_takesYard 15 rfl) rfl ?_
    refine ev_getR (ea_at dt_X3_takesYard 16 rfl) fl_X3_14 sh_46 rfl ?_
    refine ev_ldcS (j := 11) (ea_at dt_X3_takesYard 17 rfl) rfl ?_
    refine ev_aload_n (ea_at dt_X3_takesYard 18 rfl) rfl ?_
    refine ev_getR (ea_at dt_X3_takesYard 19 rfl) fl_X3_20 sh_46 rfl ?_
    refine ev_getI (ea_at dt_X3_takesYard 20 rfl) fl_X3_173 sh_24 rfl ?_
    refine ev_i (fun x5 => ?_)
    refine ev_bipush (ea_at dt_X3_takesYard 21 rfl) bp_15 ?_
    refine ev_clI (F1 := F_X9_takesNamed) (fun rY mY hY => ea_runV (As := [.ref (1000 + 11), .int x5, .int 15]) (ea_at dt_X3_takesYard 22 rfl) ml_X3_82 mv_X9_takesNamed (ok_X9_takesNamed G 47 11 x5 15 m4 is_Reader_47 (by decide) rY mY hY) sh_47 rfl rfl rfl (Nat.le_of_ble_eq_true rfl) rfl) rfl (fun r7 m6 => ?_)
    refine ev_if_ne (tgt := 54) (ea_at dt_X3_takesYard 23 rfl) rfl (fun _ => ?_) (fun _ => ?_)
    · refine ev_iconst (ea_at dt_X3_takesYard 24 rfl) ic_0 ?_
      exact ev_zret (by decide) (ea_at dt_X3_takesYard 25 rfl) rfl ⟨by decide, by decide⟩ (fun h => hR _ h)
    · refine ev_aload_n (ea_at dt_X3_takesYard 26 rfl) rfl ?_
      refine ev_getR (ea_at dt_X3_takesYard 27 rfl) fl_X3_20 sh_46 rfl ?_
      refine ev_aload_n (ea_at dt_X3_takesYard 28 rfl) rfl ?_
      refine ev_getR (ea_at dt_X3_takesYard 29 rfl) fl_X3_14 sh_46 rfl ?_
      refine ev_getI (ea_at dt_X3_takesYard 30 rfl) fl_X3_86 sh_47 rfl ?_
      refine ev_i (fun x8 => ?_)
      refine ev_putI (ea_at dt_X3_takesYard 31 rfl) fl_X3_178 fp_2_3 sh_24 rfl ?_
      refine ev_m (fun m9 => ?_)
      refine ev_iconst (ea_at dt_X3_takesYard 32 rfl) ic_1 ?_
      exact ev_zret (by decide) (ea_at dt_X3_takesYard 33 rfl) rfl ⟨by decide, by decide⟩ (fun h => hR _ h)
def F_X3_takesWind : ea_F := (ea_rm 16 0 0, cX3_takesWind, RX3, some .boolean, 3, [], 0, 0)
def D_X3_takesWind : List (Nat × Instr × Nat) := [(0, .aload_n 0, 1), (1, .getfield 14, 3), (4, .ldc 75, 2), (6, .iconst 0, 1), (7, .bipush 12, 2), (9, .invokevirtual 82, 3), (12, .ifCond .ne 5, 3), (15, .iconst 0, 1), (16, .ireturn, 1), (17, .aload_n 0, 1), (18, .getfield 14, 3), (21, .getfield 86, 3), (24, .istore_n 1, 1), (25, .aload_n 0, 1), (26, .getfield 14, 3), (29, .ldc 180, 2), (31, .invokevirtual 48, 3), (34, .istore_n 2, 1), (35, .aload_n 0, 1), (36, .getfield 14, 3), (39, .iload_n 2, 1), (40, .ifCond .eq 8, 3), (43, .ldc 180, 2), (45, .goto 5, 3), (48, .ldc 182, 2), (50, .iconst 0, 1), (51, .iconst 3, 1), (52, .invokevirtual 82, 3), (55, .ifCond .ne 5, 3), (58, .iconst 0, 1), (59, .ireturn, 1), (60, .aload_n 0, 1), (61, .getfield 20, 3), (64, .getfield 184, 3), (67, .iload_n 1, 1), (68, .iload_n 2, 1), (69, .ifCond .eq 14, 3), (72, .aload_n 0, 1), (73, .getfield 14, 3), (76, .getfield 86, 3), (79, .ineg, 1), (80, .goto 10, 3), (83, .aload_n 0, 1), (84, .getfield 14, 3), (87, .getfield 86, 3), (90, .iastore, 1), (91, .iconst 1, 1), (92, .ireturn, 1)]
theorem dt_X3_takesWind : ∀ q ∈ D_X3_takesWind, decode cX3_takesWind q.1 = .ok q.2 := by decide +kernel
theorem mv_X3_takesWind : ea_MV yX3_takesWind (F_X3_takesWind) 0 := ⟨⟨List.mem_append_right _ (List.mem_of_getElem? (i := 6) (by decide +kernel)), List.mem_append_right _ (List.mem_of_getElem? (i := 782) (by decide +kernel)), ⟨by decide, by decide⟩, by decide +kernel⟩, List.mem_append_right _ (List.mem_of_getElem? (i := 781) (by decide +kernel)), List.mem_append_left _ (List.mem_of_getElem? (i := 15) (by decide +kernel))⟩
def f_X3_takesWind_j90 (x13 : Int32) (x14 : Int32) (m15 : ea_M) : Option (Int32 × ea_M) :=
  ea_g x13 13 (ea_bd (ea_st m15 25 (Int32.toNatClampNeg x13) x14) fun m16 =>
  some (1, m16))
def f_X3_takesWind_j50 (x6 : Int32) (x7 : Int32) (j8 : Nat) (m9 : ea_M) : Option (Int32 × ea_M) :=
  ea_cl (f_X9_takesNamed 47 j8 0 3 m9) fun r11 m10 =>
  if r11 = 0 then
  some (0, m10)
  else
  if x7 = 0 then
  ea_bd (m10 47 5) fun x12 =>
  f_X3_takesWind_j90 x6 x12 m10
  else
  ea_bd (m10 47 5) fun x17 =>
  f_X3_takesWind_j90 x6 (-x17) m10
def f_X3_takesWind (m : ea_M) : Option (Int32 × ea_M) :=
  ea_cl (f_X9_takesNamed 47 12 0 12 m) fun r2 m1 =>
  if r2 = 0 then
  some (0, m1)
  else
  ea_bd (m1 47 5) fun x3 =>
  ea_cl (f_X9_sees 47 13 m1) fun r5 m4 =>
  if r5 = 0 then
  f_X3_takesWind_j50 x3 r5 14 m4
  else
  f_X3_takesWind_j50 x3 r5 13 m4
set_option maxHeartbeats 300000 in
theorem jn_X3_takesWind_90 (G : ea_G) {res : ea_O}  (x13 : Int32) (x14 : Int32) (m15 : ea_M)  {Φ : (Int32 × ea_M) → Prop} (hR : ∀ t : Int32 × ea_M, Φ t → res = (0, t)) : ea_E G F_X3_takesWind res 90 [none, none, none] [.int x14, .int x13, .ref 25] m15 0 0 (f_X3_takesWind_j90 x13 x14 m15) Φ := by
  unfold f_X3_takesWind_j90
  refine ev_iastore (ea_at dt_X3_takesWind 45 rfl) sh_25 (by decide) ?_
  refine ev_m (fun m16 => ?_)
  refine ev_iconst (ea_at dt_X3_takesWind 46 rfl) ic_1 ?_
  exact ev_zret (by decide) (ea_at dt_X3_takesWind 47 rfl) rfl ⟨by decide, by decide⟩ (fun h => hR _ h)
set_option maxHeartbeats 300000 in
theorem jn_X3_takesWind_50 (G : ea_G) {res : ea_O}  (x6 : Int32) (x7 : Int32) (j8 : Nat) (m9 : ea_M) (hj8 : j8 < ea_str.length) {Φ : (Int32 × ea_M) → Prop} (hR : ∀ t : Int32 × ea_M, Φ t → res = (0, t)) : ea_E G F_X3_takesWind res 50 [some (.ref 46), some (.int x6), some (.int x7)] [.ref (1000 + j8), .ref 47] m9 0 0 (f_X3_takesWind_j50 x6 x7 j8 m9) Φ := by
  unfold f_X3_takesWind_j50
  refine ev_iconst (ea_at dt_X3_takesWind 25 rfl) ic_0 ?_
  refine ev_iconst (ea_at dt_X3_takesWind 26 rfl) ic_3 ?_
  refine ev_clI (F1 := F_X9_takesNamed) (fun rY mY hY => ea_runV (As := [.ref (1000 + j8), .int 0, .int 3]) (ea_at dt_X3_takesWind 27 rfl) ml_X3_82 mv_X9_takesNamed (ok_X9_takesNamed G 47 j8 0 3 m9 is_Reader_47 hj8 rY mY hY) sh_47 rfl rfl rfl (Nat.le_of_ble_eq_true rfl) rfl) rfl (fun r11 m10 => ?_)
  refine ev_if_ne (tgt := 60) (ea_at dt_X3_takesWind 28 rfl) rfl (fun _ => ?_) (fun _ => ?_)
  · refine ev_iconst (ea_at dt_X3_takesWind 29 rfl) ic_0 ?_
    exact ev_zret (by decide) (ea_at dt_X3_takesWind 30 rfl) rfl ⟨by decide, by decide⟩ (fun h => hR _ h)
  · refine ev_aload_n (ea_at dt_X3_takesWind 31 rfl) rfl ?_
    refine ev_getR (ea_at dt_X3_takesWind 32 rfl) fl_X3_20 sh_46 rfl ?_
    refine ev_getR (ea_at dt_X3_takesWind 33 rfl) fl_X3_184 sh_24 rfl ?_
    refine ev_iload_n (ea_at dt_X3_takesWind 34 rfl) rfl ?_
    refine ev_iload_n (ea_at dt_X3_takesWind 35 rfl) rfl ?_
    refine ev_if_eq (tgt := 83) (ea_at dt_X3_takesWind 36 rfl) rfl (fun _ => ?_) (fun _ => ?_)
    · refine ev_aload_n (ea_at dt_X3_takesWind 42 rfl) rfl ?_
      refine ev_getR (ea_at dt_X3_takesWind 43 rfl) fl_X3_14 sh_46 rfl ?_
      refine ev_getI (ea_at dt_X3_takesWind 44 rfl) fl_X3_86 sh_47 rfl ?_
      refine ev_i (fun x12 => ?_)
      exact ev_drop (l' := [none, none, none]) ⟨Or.inl rfl, Or.inl rfl, Or.inl rfl, trivial⟩ (jn_X3_takesWind_90 G x6 x12 m10  hR)
    · refine ev_aload_n (ea_at dt_X3_takesWind 37 rfl) rfl ?_
      refine ev_getR (ea_at dt_X3_takesWind 38 rfl) fl_X3_14 sh_46 rfl ?_
      refine ev_getI (ea_at dt_X3_takesWind 39 rfl) fl_X3_86 sh_47 rfl ?_
      refine ev_i (fun x17 => ?_)
      refine ev_ineg (ea_at dt_X3_takesWind 40 rfl) ?_
      refine ev_goto (tgt := 90) (ea_at dt_X3_takesWind 41 rfl) rfl ?_
      exact ev_drop (l' := [none, none, none]) ⟨Or.inl rfl, Or.inl rfl, Or.inl rfl, trivial⟩ (jn_X3_takesWind_90 G x6 (-x17) m10  hR)
set_option maxHeartbeats 300000 in
theorem ok_X3_takesWind (G : ea_G) (m : ea_M)  (rZ : Int32) (mZ : ea_M) (hZ : f_X3_takesWind m = some (rZ, mZ)) : ea_Met G yX3_takesWind F_X3_takesWind [.ref 46] m (0, rZ, mZ) := by
  refine ea_met (F := F_X3_takesWind) (by decide +kernel) rfl rfl (Nat.le_of_ble_eq_true rfl) (by simp only [List.mem_cons, List.not_mem_nil, or_false]; intro v hv; rcases hv with rfl <;> rfl) ((?_ : ea_E G F_X3_takesWind (0, rZ, mZ) 0 [some (.ref 46), none, none] [] m 0 0 (f_X3_takesWind m) (fun t => t = (rZ, mZ))) (rZ, mZ) hZ rfl)
  have hR : ∀ t : Int32 × ea_M, t = (rZ, mZ) → ((0, rZ, mZ) : ea_O) = (0, t) := fun t h => by rw [h]
  unfold f_X3_takesWind
  refine ev_aload_n (ea_at dt_X3_takesWind 0 rfl) rfl ?_
  refine ev_getR (ea_at dt_X3_takesWind 1 rfl) fl_X3_14 sh_46 rfl ?_
  refine ev_ldcS (j := 12) (ea_at dt_X3_takesWind 2 rfl) rfl ?_
  refine ev_iconst (ea_at dt_X3_takesWind 3 rfl) ic_0 ?_
  refine ev_bipush (ea_at dt_X3_takesWind 4 rfl) bp_12 ?_
  refine ev_clI (F1 := F_X9_takesNamed) (fun rY mY hY => ea_runV (As := [.ref (1000 + 12), .int 0, .int 12]) (ea_at dt_X3_takesWind 5 rfl) ml_X3_82 mv_X9_takesNamed (ok_X9_takesNamed G 47 12 0 12 m is_Reader_47 (by decide) rY mY hY) sh_47 rfl rfl rfl (Nat.le_of_ble_eq_true rfl) rfl) rfl (fun r2 m1 => ?_)
  refine ev_if_ne (tgt := 17) (ea_at dt_X3_takesWind 6 rfl) rfl (fun _ => ?_) (fun _ => ?_)
  · refine ev_iconst (ea_at dt_X3_takesWind 7 rfl) ic_0 ?_
    exact ev_zret (by decide) (ea_at dt_X3_takesWind 8 rfl) rfl ⟨by decide, by decide⟩ (fun h => hR _ h)
  · refine ev_aload_n (ea_at dt_X3_takesWind 9 rfl) rfl ?_
    refine ev_getR (ea_at dt_X3_takesWind 10 rfl) fl_X3_14 sh_46 rfl ?_
    refine ev_getI (ea_at dt_X3_takesWind 11 rfl) fl_X3_86 sh_47 rfl ?_
    refine ev_i (fun x3 => ?_)
    refine ev_istore_n (ls' := [some (.ref 46), some (.int x3), none]) (ea_at dt_X3_takesWind 12 rfl) (ea_lt rfl) rfl ?_
    refine ev_aload_n (ea_at dt_X3_takesWind 13 rfl) rfl ?_
    refine ev_getR (ea_at dt_X3_takesWind 14 rfl) fl_X3_14 sh_46 rfl ?_
    refine ev_ldcS (j := 13) (ea_at dt_X3_takesWind 15 rfl) rfl ?_
    refine ev_clI (F1 := F_X9_sees) (fun rY mY hY => ea_runV (As := [.ref (1000 + 13)]) (ea_at dt_X3_takesWind 16 rfl) ml_X3_48 mv_X9_sees (ok_X9_sees G 47 13 m1 is_Reader_47 (by decide) rY mY hY) sh_47 rfl rfl rfl (Nat.le_of_ble_eq_true rfl) rfl) rfl (fun r5 m4 => ?_)
    refine ev_istore_n (ls' := [some (.ref 46), some (.int x3), some (.int r5)]) (ea_at dt_X3_takesWind 17 rfl) (ea_lt rfl) rfl ?_
    refine ev_aload_n (ea_at dt_X3_takesWind 18 rfl) rfl ?_
    refine ev_getR (ea_at dt_X3_takesWind 19 rfl) fl_X3_14 sh_46 rfl ?_
    refine ev_iload_n (ea_at dt_X3_takesWind 20 rfl) rfl ?_
    refine ev_if_eq (tgt := 48) (ea_at dt_X3_takesWind 21 rfl) rfl (fun _ => ?_) (fun _ => ?_)
    · refine ev_ldcS (j := 14) (ea_at dt_X3_takesWind 24 rfl) rfl ?_
      exact ev_drop (l' := [some (.ref 46), some (.int x3), some (.int r5)]) ⟨Or.inr rfl, Or.inr rfl, Or.inr rfl, trivial⟩ (jn_X3_takesWind_50 G x3 r5 14 m4 (by decide) hR)
    · refine ev_ldcS (j := 13) (ea_at dt_X3_takesWind 22 rfl) rfl ?_
      refine ev_goto (tgt := 50) (ea_at dt_X3_takesWind 23 rfl) rfl ?_
      exact ev_drop (l' := [some (.ref 46), some (.int x3), some (.int r5)]) ⟨Or.inr rfl, Or.inr rfl, Or.inr rfl, trivial⟩ (jn_X3_takesWind_50 G x3 r5 13 m4 (by decide) hR)
