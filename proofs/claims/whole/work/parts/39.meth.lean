def F_L_when : ea_F := (ea_rm 15 2 12, cL_when, RL, some .int, 5, [(0, 10, 13, 24)], 2, 12)
def D_L_when : List (Nat × Instr × Nat) := [(0, .aload_n 3, 1), (1, .iconst 0, 1), (2, .aload_n 0, 1), (3, .iload_n 1, 1), (4, .iload_n 2, 1), (5, .invokevirtual 83, 3), (8, .i2l, 1), (9, .lastore, 1), (10, .goto 7, 3), (13, .astore 4, 2), (15, .iconst 1, 1), (16, .ireturn, 1), (17, .iconst 0, 1), (18, .ireturn, 1)]
theorem dt_L_when : ∀ q ∈ D_L_when, decode cL_when q.1 = .ok q.2 := by decide +kernel
theorem mv_L_when : ea_MSH yL_when (F_L_when) 4 := ⟨⟨List.mem_append_right _ (List.mem_of_getElem? (i := 0) (by decide +kernel)), List.mem_append_right _ (List.mem_of_getElem? (i := 1250) (by decide +kernel)), ⟨by decide, by decide⟩, by decide +kernel⟩, List.mem_append_right _ (List.mem_of_getElem? (i := 1249) (by decide +kernel))⟩
def f_L_when (p2 : Int32) (p3 : Int32) (m : ea_M) : Option (Int32 × ea_M) :=
  ea_cx (f_X11_when p2 p3 m) (fun r2 m1 =>
  ea_bd (ea_st m1 287 0 r2) fun m3 =>
  some (0, m3)) (fun kx m4 => if kx = 1 then
  some (1, m4)
  else none)
set_option maxHeartbeats 300000 in
theorem ok_L_when (G : ea_G) (p2 : Int32) (p3 : Int32) (m : ea_M)  (rZ : Int32) (mZ : ea_M) (hZ : f_L_when p2 p3 m = some (rZ, mZ)) : ea_MetH G yL_when F_L_when [.ref 0, .int p2, .int p3, .ref 287] m (0, rZ, mZ) := by
  refine ea_metH (F := F_L_when) rfl rfl (Nat.le_of_ble_eq_true rfl) (by simp only [List.mem_cons, List.not_mem_nil, or_false]; intro v hv; rcases hv with rfl | rfl | rfl | rfl <;> rfl) ((?_ : ea_E G F_L_when (0, rZ, mZ) 0 [some (.ref 0), some (.int p2), some (.int p3), some (.ref 287), none] [] m 0 0 (f_L_when p2 p3 m) (fun t => t = (rZ, mZ))) (rZ, mZ) hZ rfl)
  have hR : ∀ t : Int32 × ea_M, t = (rZ, mZ) → ((0, rZ, mZ) : ea_O) = (0, t) := fun t h => by rw [h]
  unfold f_L_when
  refine ev_aload_n (ea_at dt_L_when 0 rfl) rfl ?_
  refine ev_iconst (ea_at dt_L_when 1 rfl) ic_0 ?_
  refine ev_aload_n (ea_at dt_L_when 2 rfl) rfl ?_
  refine ev_iload_n (ea_at dt_L_when 3 rfl) rfl ?_
  refine ev_iload_n (ea_at dt_L_when 4 rfl) rfl ?_
  refine ev_cxC (F1 := F_X11_when) (fun zY hY => ea_runV (As := [.int p2, .int p3]) (ea_at dt_L_when 5 rfl) ml_L_83 mv_X11_when (ok_X11_when G p2 p3 m  zY hY) sh_0 rfl rfl rfl (Nat.le_of_ble_eq_true rfl) rfl) rfl (fun kx m4 t hkx e q => ?_) (fun r2 m1 => ?_)
  · by_cases hk : kx = 1
    · rw [if_pos hk] at e
      subst hk
      refine ea_caught2 (pre := []) (name := "java/lang/IndexOutOfBoundsException") rfl (fun z hz => by cases hz) (by decide) (by decide) cl_L_24 cast_1 (ea_at dt_L_when 9 rfl) (by decide) ?_
      refine (?_ : ea_E G F_L_when (0, rZ, mZ) 15 [some (.ref 0), some (.int p2), some (.int p3), some (.ref 287), none] [] m4 2 12 _ (fun t => t = (rZ, mZ))) t e q
      refine ev_iconst (ea_at dt_L_when 10 rfl) ic_1 ?_
      exact ev_iret (ea_at dt_L_when 11 rfl) rfl ⟨by decide, by decide⟩ (fun h => hR _ h)
    · rw [if_neg hk] at e
      cases e
  · refine ev_i2l (ea_at dt_L_when 6 rfl) ?_
    refine ev_lastoreC (j := 0) (ea_at dt_L_when 7 rfl) sh_287 (by decide) (by decide) (by decide) ?_
    refine ev_m (fun m3 => ?_)
    refine ev_goto (tgt := 17) (ea_at dt_L_when 8 rfl) rfl ?_
    refine ev_iconst (ea_at dt_L_when 12 rfl) ic_0 ?_
    exact ev_iret (ea_at dt_L_when 13 rfl) rfl ⟨by decide, by decide⟩ (fun h => hR _ h)
def F_L_surest : ea_F := (ea_rm 16 2 12, cL_surest, RL, some .int, 6, [(0, 12, 15, 24), (0, 12, 19, 46)], 2, 12)
def D_L_surest : List (Nat × Instr × Nat) := [(0, .aload 4, 2), (2, .iconst 0, 1), (3, .aload_n 0, 1), (4, .iload_n 1, 1), (5, .iload_n 2, 1), (6, .iload_n 3, 1), (7, .invokevirtual 86, 3), (10, .i2l, 1), (11, .lastore, 1), (12, .goto 11, 3), (15, .astore 5, 2), (17, .iconst 1, 1), (18, .ireturn, 1), (19, .astore 5, 2), (21, .iconst 2, 1), (22, .ireturn, 1), (23, .iconst 0, 1), (24, .ireturn, 1)]
theorem dt_L_surest : ∀ q ∈ D_L_surest, decode cL_surest q.1 = .ok q.2 := by decide +kernel
theorem mv_L_surest : ea_MSH yL_surest (F_L_surest) 5 := ⟨⟨List.mem_append_right _ (List.mem_of_getElem? (i := 0) (by decide +kernel)), List.mem_append_right _ (List.mem_of_getElem? (i := 1257) (by decide +kernel)), ⟨by decide, by decide⟩, by decide +kernel⟩, List.mem_append_right _ (List.mem_of_getElem? (i := 1256) (by decide +kernel))⟩
def f_L_surest (p2 : Int32) (p3 : Int32) (p4 : Int32) (m : ea_M) : Option (Int32 × ea_M) :=
  ea_cx (f_X11_surest p2 p3 p4 m) (fun r2 m1 =>
  ea_bd (ea_st m1 287 0 r2) fun m3 =>
  some (0, m3)) (fun kx m4 => if kx = 1 then
  some (1, m4)
  else if kx = 3 then
  some (2, m4)
  else none)
set_option maxHeartbeats 300000 in
theorem ok_L_surest (G : ea_G) (p2 : Int32) (p3 : Int32) (p4 : Int32) (m : ea_M)  (rZ : Int32) (mZ : ea_M) (hZ : f_L_surest p2 p3 p4 m = some (rZ, mZ)) : ea_MetH G yL_surest F_L_surest [.ref 0, .int p2, .int p3, .int p4, .ref 287] m (0, rZ, mZ) := by
  refine ea_metH (F := F_L_surest) rfl rfl (Nat.le_of_ble_eq_true rfl) (by simp only [List.mem_cons, List.not_mem_nil, or_false]; intro v hv; rcases hv with rfl | rfl | rfl | rfl | rfl <;> rfl) ((?_ : ea_E G F_L_surest (0, rZ, mZ) 0 [some (.ref 0), some (.int p2), some (.int p3), some (.int p4), some (.ref 287), none] [] m 0 0 (f_L_surest p2 p3 p4 m) (fun t => t = (rZ, mZ))) (rZ, mZ) hZ rfl)
  have hR : ∀ t : Int32 × ea_M, t = (rZ, mZ) → ((0, rZ, mZ) : ea_O) = (0, t) := fun t h => by rw [h]
  unfold f_L_surest
  refine ev_aload (ea_at dt_L_surest 0 rfl) rfl ?_
  refine ev_iconst (ea_at dt_L_surest 1 rfl) ic_0 ?_
  refine ev_aload_n (ea_at dt_L_surest 2 rfl) rfl ?_
  refine ev_iload_n (ea_at dt_L_surest 3 rfl) rfl ?_
  refine ev_iload_n (ea_at dt_L_surest 4 rfl) rfl ?_
  refine ev_iload_n (ea_at dt_L_surest 5 rfl) rfl ?_
  refine ev_cxC (F1 := F_X11_surest) (fun zY hY => ea_runV (As := [.int p2, .int p3, .int p4]) (ea_at dt_L_surest 6 rfl) ml_L_86 mv_X11_surest (ok_X11_surest G p2 p3 p4 m  zY hY) sh_0 rfl rfl rfl (Nat.le_of_ble_eq_true rfl) rfl) rfl (fun kx m4 t hkx e q => ?_) (fun r2 m1 => ?_)
  · by_cases hk : kx = 1
    · rw [if_pos hk] at e
      subst hk
      refine ea_caught2 (pre := []) (name := "java/lang/IndexOutOfBoundsException") rfl (fun z hz => by cases hz) (by decide) (by decide) cl_L_24 cast_1 (ea_at dt_L_surest 10 rfl) (by decide) ?_
      refine (?_ : ea_E G F_L_surest (0, rZ, mZ) 17 [some (.ref 0), some (.int p2), some (.int p3), some (.int p4), some (.ref 287), none] [] m4 2 12 _ (fun t => t = (rZ, mZ))) t e q
      refine ev_iconst (ea_at dt_L_surest 11 rfl) ic_1 ?_
      exact ev_iret (ea_at dt_L_surest 12 rfl) rfl ⟨by decide, by decide⟩ (fun h => hR _ h)
    · rw [if_neg hk] at e
      by_cases hk : kx = 3
      · rw [if_pos hk] at e
        subst hk
        refine ea_caught2 (pre := [(0, 12, 15, 24)]) (name := "java/lang/IllegalStateException") rfl (fun z hz => by simp only [List.mem_cons, List.not_mem_nil, or_false] at hz; rcases hz with rfl <;> first | exact ⟨by decide, _, cl_L_24, by decide⟩) (by decide) (by decide) cl_L_46 cast_3 (ea_at dt_L_surest 13 rfl) (by decide) ?_
        refine (?_ : ea_E G F_L_surest (0, rZ, mZ) 21 [some (.ref 0), some (.int p2), some (.int p3), some (.int p4), some (.ref 287), none] [] m4 2 12 _ (fun t => t = (rZ, mZ))) t e q
        refine ev_iconst (ea_at dt_L_surest 14 rfl) ic_2 ?_
        exact ev_iret (ea_at dt_L_surest 15 rfl) rfl ⟨by decide, by decide⟩ (fun h => hR _ h)
      · rw [if_neg hk] at e
        cases e
  · refine ev_i2l (ea_at dt_L_surest 7 rfl) ?_
    refine ev_lastoreC (j := 0) (ea_at dt_L_surest 8 rfl) sh_287 (by decide) (by decide) (by decide) ?_
    refine ev_m (fun m3 => ?_)
    refine ev_goto (tgt := 23) (ea_at dt_L_surest 9 rfl) rfl ?_
    refine ev_iconst (ea_at dt_L_surest 16 rfl) ic_0 ?_
    exact ev_iret (ea_at dt_L_surest 17 rfl) rfl ⟨by decide, by decide⟩ (fun h => hR _ h)
def F_L_rests : ea_F := (ea_rm 16 2 12, cL_rests, RL, some .int, 5, [(0, 10, 13, 24), (0, 10, 17, 46)], 2, 12)
def D_L_rests : List (Nat × Instr × Nat) := [(0, .aload_n 3, 1), (1, .iconst 0, 1), (2, .aload_n 0, 1), (3, .iload_n 1, 1), (4, .iload_n 2, 1), (5, .invokevirtual 90, 3), (8, .i2l, 1), (9, .lastore, 1), (10, .goto 11, 3), (13, .astore 4, 2), (15, .iconst 1, 1), (16, .ireturn, 1), (17, .astore 4, 2), (19, .iconst 2, 1), (20, .ireturn, 1), (21, .iconst 0, 1), (22, .ireturn, 1)]
theorem dt_L_rests : ∀ q ∈ D_L_rests, decode cL_rests q.1 = .ok q.2 := by decide +kernel
theorem mv_L_rests : ea_MSH yL_rests (F_L_rests) 4 := ⟨⟨List.mem_append_right _ (List.mem_of_getElem? (i := 0) (by decide +kernel)), List.mem_append_right _ (List.mem_of_getElem? (i := 1276) (by decide +kernel)), ⟨by decide, by decide⟩, by decide +kernel⟩, List.mem_append_right _ (List.mem_of_getElem? (i := 1275) (by decide +kernel))⟩
def f_L_rests (p2 : Int32) (p3 : Int32) (m : ea_M) : Option (Int32 × ea_M) :=
  ea_cx (f_X11_rests p2 p3 m) (fun r2 m1 =>
  ea_bd (ea_st m1 287 0 r2) fun m3 =>
  some (0, m3)) (fun kx m4 => if kx = 1 then
  some (1, m4)
  else if kx = 3 then
  some (2, m4)
  else none)
set_option maxHeartbeats 300000 in
theorem ok_L_rests (G : ea_G) (p2 : Int32) (p3 : Int32) (m : ea_M)  (rZ : Int32) (mZ : ea_M) (hZ : f_L_rests p2 p3 m = some (rZ, mZ)) : ea_MetH G yL_rests F_L_rests [.ref 0, .int p2, .int p3, .ref 287] m (0, rZ, mZ) := by
  refine ea_metH (F := F_L_rests) rfl rfl (Nat.le_of_ble_eq_true rfl) (by simp only [List.mem_cons, List.not_mem_nil, or_false]; intro v hv; rcases hv with rfl | rfl | rfl | rfl <;> rfl) ((?_ : ea_E G F_L_rests (0, rZ, mZ) 0 [some (.ref 0), some (.int p2), some (.int p3), some (.ref 287), none] [] m 0 0 (f_L_rests p2 p3 m) (fun t => t = (rZ, mZ))) (rZ, mZ) hZ rfl)
  have hR : ∀ t : Int32 × ea_M, t = (rZ, mZ) → ((0, rZ, mZ) : ea_O) = (0, t) := fun t h => by rw [h]
  unfold f_L_rests
  refine ev_aload_n (ea_at dt_L_rests 0 rfl) rfl ?_
  refine ev_iconst (ea_at dt_L_rests 1 rfl) ic_0 ?_
  refine ev_aload_n (ea_at dt_L_rests 2 rfl) rfl ?_
  refine ev_iload_n (ea_at dt_L_rests 3 rfl) rfl ?_
  refine ev_iload_n (ea_at dt_L_rests 4 rfl) rfl ?_
  refine ev_cxC (F1 := F_X11_rests) (fun zY hY => ea_runV (As := [.int p2, .int p3]) (ea_at dt_L_rests 5 rfl) ml_L_90 mv_X11_rests (ok_X11_rests G p2 p3 m  zY hY) sh_0 rfl rfl rfl (Nat.le_of_ble_eq_true rfl) rfl) rfl (fun kx m4 t hkx e q => ?_) (fun r2 m1 => ?_)
  · by_cases hk : kx = 1
    · rw [if_pos hk] at e
      subst hk
      refine ea_caught2 (pre := []) (name := "java/lang/IndexOutOfBoundsException") rfl (fun z hz => by cases hz) (by decide) (by decide) cl_L_24 cast_1 (ea_at dt_L_rests 9 rfl) (by decide) ?_
      refine (?_ : ea_E G F_L_rests (0, rZ, mZ) 15 [some (.ref 0), some (.int p2), some (.int p3), some (.ref 287), none] [] m4 2 12 _ (fun t => t = (rZ, mZ))) t e q
      refine ev_iconst (ea_at dt_L_rests 10 rfl) ic_1 ?_
      exact ev_iret (ea_at dt_L_rests 11 rfl) rfl ⟨by decide, by decide⟩ (fun h => hR _ h)
    · rw [if_neg hk] at e
      by_cases hk : kx = 3
      · rw [if_pos hk] at e
        subst hk
        refine ea_caught2 (pre := [(0, 10, 13, 24)]) (name := "java/lang/IllegalStateException") rfl (fun z hz => by simp only [List.mem_cons, List.not_mem_nil, or_false] at hz; rcases hz with rfl <;> first | exact ⟨by decide, _, cl_L_24, by decide⟩) (by decide) (by decide) cl_L_46 cast_3 (ea_at dt_L_rests 12 rfl) (by decide) ?_
        refine (?_ : ea_E G F_L_rests (0, rZ, mZ) 19 [some (.ref 0), some (.int p2), some (.int p3), some (.ref 287), none] [] m4 2 12 _ (fun t => t = (rZ, mZ))) t e q
        refine ev_iconst (ea_at dt_L_rests 13 rfl) ic_2 ?_
        exact ev_iret (ea_at dt_L_rests 14 rfl) rfl ⟨by decide, by decide⟩ (fun h => hR _ h)
      · rw [if_neg hk] at e
        cases e
  · refine ev_i2l (ea_at dt_L_rests 6 rfl) ?_
    refine ev_lastoreC (j := 0) (ea_at dt_L_rests 7 rfl) sh_287 (by decide) (by decide) (by decide) ?_
    refine ev_m (fun m3 => ?_)
    refine ev_goto (tgt := 21) (ea_at dt_L_rests 8 rfl) rfl ?_
    refine ev_iconst (ea_at dt_L_rests 15 rfl) ic_0 ?_
    exact ev_iret (ea_at dt_L_rests 16 rfl) rfl ⟨by decide, by decide⟩ (fun h => hR _ h)
def F_L_fair : ea_F := (ea_rm 16 2 12, cL_fair, RL, some .int, 4, [(0, 9, 12, 24), (0, 9, 15, 46)], 2, 12)
def D_L_fair : List (Nat × Instr × Nat) := [(0, .aload_n 2, 1), (1, .iconst 0, 1), (2, .aload_n 0, 1), (3, .iload_n 1, 1), (4, .invokevirtual 93, 3), (7, .i2l, 1), (8, .lastore, 1), (9, .goto 9, 3), (12, .astore_n 3, 1), (13, .iconst 1, 1), (14, .ireturn, 1), (15, .astore_n 3, 1), (16, .iconst 2, 1), (17, .ireturn, 1), (18, .iconst 0, 1), (19, .ireturn, 1)]
theorem dt_L_fair : ∀ q ∈ D_L_fair, decode cL_fair q.1 = .ok q.2 := by decide +kernel
theorem mv_L_fair : ea_MSH yL_fair (F_L_fair) 3 := ⟨⟨List.mem_append_right _ (List.mem_of_getElem? (i := 0) (by decide +kernel)), List.mem_append_right _ (List.mem_of_getElem? (i := 1287) (by decide +kernel)), ⟨by decide, by decide⟩, by decide +kernel⟩, List.mem_append_right _ (List.mem_of_getElem? (i := 1286) (by decide +kernel))⟩
def f_L_fair (p2 : Int32) (m : ea_M) : Option (Int32 × ea_M) :=
  ea_cx (f_X11_fair p2 m) (fun r2 m1 =>
  ea_bd (ea_st m1 287 0 r2) fun m3 =>
  some (0, m3)) (fun kx m4 => if kx = 1 then
  some (1, m4)
  else if kx = 3 then
  some (2, m4)
  else none)
set_option maxHeartbeats 300000 in
theorem ok_L_fair (G : ea_G) (p2 : Int32) (m : ea_M)  (rZ : Int32) (mZ : ea_M) (hZ : f_L_fair p2 m = some (rZ, mZ)) : ea_MetH G yL_fair F_L_fair [.ref 0, .int p2, .ref 287] m (0, rZ, mZ) := by
  refine ea_metH (F := F_L_fair) rfl rfl (Nat.le_of_ble_eq_true rfl) (by simp only [List.mem_cons, List.not_mem_nil, or_false]; intro v hv; rcases hv with rfl | rfl | rfl <;> rfl) ((?_ : ea_E G F_L_fair (0, rZ, mZ) 0 [some (.ref 0), some (.int p2), some (.ref 287), none] [] m 0 0 (f_L_fair p2 m) (fun t => t = (rZ, mZ))) (rZ, mZ) hZ rfl)
  have hR : ∀ t : Int32 × ea_M, t = (rZ, mZ) → ((0, rZ, mZ) : ea_O) = (0, t) := fun t h => by rw [h]
  unfold f_L_fair
  refine ev_aload_n (ea_at dt_L_fair 0 rfl) rfl ?_
  refine ev_iconst (ea_at dt_L_fair 1 rfl) ic_0 ?_
  refine ev_aload_n (ea_at dt_L_fair 2 rfl) rfl ?_
  refine ev_iload_n (ea_at dt_L_fair 3 rfl) rfl ?_
  refine ev_cxC (F1 := F_X11_fair) (fun zY hY => ea_runV (As := [.int p2]) (ea_at dt_L_fair 4 rfl) ml_L_93 mv_X11_fair (ok_X11_fair G p2 m  zY hY) sh_0 rfl rfl rfl (Nat.le_of_ble_eq_true rfl) rfl) rfl (fun kx m4 t hkx e q => ?_) (fun r2 m1 => ?_)
  · by_cases hk : kx = 1
    · rw [if_pos hk] at e
      subst hk
      refine ea_caught (pre := []) (name := "java/lang/IndexOutOfBoundsException") rfl (fun z hz => by cases hz) (by decide) (by decide) cl_L_24 cast_1 (ea_at dt_L_fair 8 rfl) (by decide) ?_
      refine (?_ : ea_E G F_L_fair (0, rZ, mZ) 13 [some (.ref 0), some (.int p2), some (.ref 287), none] [] m4 2 12 _ (fun t => t = (rZ, mZ))) t e q
      refine ev_iconst (ea_at dt_L_fair 9 rfl) ic_1 ?_
      exact ev_iret (ea_at dt_L_fair 10 rfl) rfl ⟨by decide, by decide⟩ (fun h => hR _ h)
    · rw [if_neg hk] at e
      by_cases hk : kx = 3
      · rw [if_pos hk] at e
        subst hk
        refine ea_caught (pre := [(0, 9, 12, 24)]) (name := "java/lang/IllegalStateException") rfl (fun z hz => by simp only [List.mem_cons, List.not_mem_nil, or_false] at hz; rcases hz with rfl <;> first | exact ⟨by decide, _, cl_L_24, by decide⟩) (by decide) (by decide) cl_L_46 cast_3 (ea_at dt_L_fair 11 rfl) (by decide) ?_
        refine (?_ : ea_E G F_L_fair (0, rZ, mZ) 16 [some (.ref 0), some (.int p2), some (.ref 287), none] [] m4 2 12 _ (fun t => t = (rZ, mZ))) t e q
        refine ev_iconst (ea_at dt_L_fair 12 rfl) ic_2 ?_
        exact ev_iret (ea_at dt_L_fair 13 rfl) rfl ⟨by decide, by decide⟩ (fun h => hR _ h)
      · rw [if_neg hk] at e
        cases e
  · refine ev_i2l (ea_at dt_L_fair 5 rfl) ?_
    refine ev_lastoreC (j := 0) (ea_at dt_L_fair 6 rfl) sh_287 (by decide) (by decide) (by decide) ?_
    refine ev_m (fun m3 => ?_)
    refine ev_goto (tgt := 18) (ea_at dt_L_fair 7 rfl) rfl ?_
    refine ev_iconst (ea_at dt_L_fair 14 rfl) ic_0 ?_
    exact ev_iret (ea_at dt_L_fair 15 rfl) rfl ⟨by decide, by decide⟩ (fun h => hR _ h)
def F_L_songs : ea_F := (ea_rm 11 1 6, cL_songs, RL, some .int, 4, [(0, 9, 12, 13)], 1, 6)
def D_L_songs : List (Nat × Instr × Nat) := [(0, .aload_n 2, 1), (1, .iconst 0, 1), (2, .aload_n 0, 1), (3, .iload_n 1, 1), (4, .invokevirtual 96, 3), (7, .i2l, 1), (8, .lastore, 1), (9, .goto 6, 3), (12, .astore_n 3, 1), (13, .iconst 1, 1), (14, .ireturn, 1), (15, .iconst 0, 1), (16, .ireturn, 1)]
theorem dt_L_songs : ∀ q ∈ D_L_songs, decode cL_songs q.1 = .ok q.2 := by decide +kernel
theorem mv_L_songs : ea_MSH yL_songs (F_L_songs) 3 := ⟨⟨List.mem_append_right _ (List.mem_of_getElem? (i := 0) (by decide +kernel)), List.mem_append_right _ (List.mem_of_getElem? (i := 1298) (by decide +kernel)), ⟨by decide, by decide⟩, by decide +kernel⟩, List.mem_append_right _ (List.mem_of_getElem? (i := 1297) (by decide +kernel))⟩
def f_L_songs (p2 : Int32) (m : ea_M) : Option (Int32 × ea_M) :=
  ea_cx (f_X11_songs p2 m) (fun r2 m1 =>
  ea_bd (ea_st m1 287 0 r2) fun m3 =>
  some (0, m3)) (fun kx m4 => if kx = 2 then
  some (1, m4)
  else none)
set_option maxHeartbeats 300000 in
theorem ok_L_songs (G : ea_G) (p2 : Int32) (m : ea_M)  (rZ : Int32) (mZ : ea_M) (hZ : f_L_songs p2 m = some (rZ, mZ)) : ea_MetH G yL_songs F_L_songs [.ref 0, .int p2, .ref 287] m (0, rZ, mZ) := by
  refine ea_metH (F := F_L_songs) rfl rfl (Nat.le_of_ble_eq_true rfl) (by simp only [List.mem_cons, List.not_mem_nil, or_false]; intro v hv; rcases hv with rfl | rfl | rfl <;> rfl) ((?_ : ea_E G F_L_songs (0, rZ, mZ) 0 [some (.ref 0), some (.int p2), some (.ref 287), none] [] m 0 0 (f_L_songs p2 m) (fun t => t = (rZ, mZ))) (rZ, mZ) hZ rfl)
  have hR : ∀ t : Int32 × ea_M, t = (rZ, mZ) → ((0, rZ, mZ) : ea_O) = (0, t) := fun t h => by rw [h]
  unfold f_L_songs
  refine ev_aload_n (ea_at dt_L_songs 0 rfl) rfl ?_
  refine ev_iconst (ea_at dt_L_songs 1 rfl) ic_0 ?_
  refine ev_aload_n (ea_at dt_L_songs 2 rfl) rfl ?_
  refine ev_iload_n (ea_at dt_L_songs 3 rfl) rfl ?_
  refine ev_cxC (F1 := F_X11_songs) (fun zY hY => ea_runV (As := [.int p2]) (ea_at dt_L_songs 4 rfl) ml_L_96 mv_X11_songs (ok_X11_songs G p2 m  zY hY) sh_0 rfl rfl rfl (Nat.le_of_ble_eq_true rfl) rfl) rfl (fun kx m4 t hkx e q => ?_) (fun r2 m1 => ?_)
  · by_cases hk : kx = 2
    · rw [if_pos hk] at e
      subst hk
      refine ea_caught (pre := []) (name := "java/lang/IllegalArgumentException") rfl (fun z hz => by cases hz) (by decide) (by decide) cl_L_13 cast_2 (ea_at dt_L_songs 8 rfl) (by decide) ?_
      refine (?_ : ea_E G F_L_songs (0, rZ, mZ) 13 [some (.ref 0), some (.int p2), some (.ref 287), none] [] m4 1 6 _ (fun t => t = (rZ, mZ))) t e q
      refine ev_iconst (ea_at dt_L_songs 9 rfl) ic_1 ?_
      exact ev_iret (ea_at dt_L_songs 10 rfl) rfl ⟨by decide, by decide⟩ (fun h => hR _ h)
    · rw [if_neg hk] at e
      cases e
  · refine ev_i2l (ea_at dt_L_songs 5 rfl) ?_
    refine ev_lastoreC (j := 0) (ea_at dt_L_songs 6 rfl) sh_287 (by decide) (by decide) (by decide) ?_
    refine ev_m (fun m3 => ?_)
    refine ev_goto (tgt := 15) (ea_at dt_L_songs 7 rfl) rfl ?_
    refine ev_iconst (ea_at dt_L_songs 11 rfl) ic_0 ?_
    exact ev_iret (ea_at dt_L_songs 12 rfl) rfl ⟨by decide, by decide⟩ (fun h => hR _ h)
def F_L_ask : ea_F := (ea_rm 12 1 6, cL_ask, RL, some .int, 3, [(0, 8, 11, 13)], 1, 6)
def D_L_ask : List (Nat × Instr × Nat) := [(0, .aload_n 1, 1), (1, .iconst 0, 1), (2, .aload_n 0, 1), (3, .invokevirtual 100, 3), (6, .i2l, 1), (7, .lastore, 1), (8, .goto 6, 3), (11, .astore_n 2, 1), (12, .iconst 1, 1), (13, .ireturn, 1), (14, .iconst 0, 1), (15, .ireturn, 1)]
theorem dt_L_ask : ∀ q ∈ D_L_ask, decode cL_ask q.1 = .ok q.2 := by decide +kernel
theorem mv_L_ask : ea_MSH yL_ask (F_L_ask) 2 := ⟨⟨List.mem_append_right _ (List.mem_of_getElem? (i := 0) (by decide +kernel)), List.mem_append_right _ (List.mem_of_getElem? (i := 1318) (by decide +kernel)), ⟨by decide, by decide⟩, by decide +kernel⟩, List.mem_append_right _ (List.mem_of_getElem? (i := 1317) (by decide +kernel))⟩
def f_L_ask (m : ea_M) : Option (Int32 × ea_M) :=
  ea_cx (f_X11_ask m) (fun r2 m1 =>
  ea_bd (ea_st m1 287 0 r2) fun m3 =>
  some (0, m3)) (fun kx m4 => if kx = 2 then
  some (1, m4)
  else none)
set_option maxHeartbeats 300000 in
theorem ok_L_ask (G : ea_G) (m : ea_M)  (rZ : Int32) (mZ : ea_M) (hZ : f_L_ask m = some (rZ, mZ)) : ea_MetH G yL_ask F_L_ask [.ref 0, .ref 287] m (0, rZ, mZ) := by
  refine ea_metH (F := F_L_ask) rfl rfl (Nat.le_of_ble_eq_true rfl) (by simp only [List.mem_cons, List.not_mem_nil, or_false]; intro v hv; rcases hv with rfl | rfl <;> rfl) ((?_ : ea_E G F_L_ask (0, rZ, mZ) 0 [some (.ref 0), some (.ref 287), none] [] m 0 0 (f_L_ask m) (fun t => t = (rZ, mZ))) (rZ, mZ) hZ rfl)
  have hR : ∀ t : Int32 × ea_M, t = (rZ, mZ) → ((0, rZ, mZ) : ea_O) = (0, t) := fun t h => by rw [h]
  unfold f_L_ask
  refine ev_aload_n (ea_at dt_L_ask 0 rfl) rfl ?_
  refine ev_iconst (ea_at dt_L_ask 1 rfl) ic_0 ?_
  refine ev_aload_n (ea_at dt_L_ask 2 rfl) rfl ?_
  refine ev_cxC (F1 := F_X11_ask) (fun zY hY => ea_runV (As := []) (ea_at dt_L_ask 3 rfl) ml_L_100 mv_X11_ask (ok_X11_ask G m  zY hY) sh_0 rfl rfl rfl (Nat.le_of_ble_eq_true rfl) rfl) rfl (fun kx m4 t hkx e q => ?_) (fun r2 m1 => ?_)
  · by_cases hk : kx = 2
    · rw [if_pos hk] at e
      subst hk
      refine ea_caught (pre := []) (name := "java/lang/IllegalArgumentException") rfl (fun z hz => by cases hz) (by decide) (by decide) cl_L_13 cast_2 (ea_at dt_L_ask 7 rfl) (by decide) ?_
      refine (?_ : ea_E G F_L_ask (0, rZ, mZ) 12 [some (.ref 0), some (.ref 287), none] [] m4 1 6 _ (fun t => t = (rZ, mZ))) t e q
      refine ev_iconst (ea_at dt_L_ask 8 rfl) ic_1 ?_
      exact ev_iret (ea_at dt_L_ask 9 rfl) rfl ⟨by decide, by decide⟩ (fun h => hR _ h)
    · rw [if_neg hk] at e
      cases e
  · refine ev_i2l (ea_at dt_L_ask 4 rfl) ?_
    refine ev_lastoreC (j := 0) (ea_at dt_L_ask 5 rfl) sh_287 (by decide) (by decide) (by decide) ?_
    refine ev_m (fun m3 => ?_)
    refine ev_goto (tgt := 14) (ea_at dt_L_ask 6 rfl) rfl ?_
    refine ev_iconst (ea_at dt_L_ask 10 rfl) ic_0 ?_
    exact ev_iret (ea_at dt_L_ask 11 rfl) rfl ⟨by decide, by decide⟩ (fun h => hR _ h)
def F_L_tell : ea_F := (ea_rm 16 2 12, cL_tell, RL, some .int, 5, [(0, 10, 13, 24), (0, 10, 17, 13)], 2, 12)
def D_L_tell : List (Nat × Instr × Nat) := [(0, .aload_n 3, 1), (1, .iconst 0, 1), (2, .aload_n 0, 1), (3, .iload_n 1, 1), (4, .iload_n 2, 1), (5, .invokevirtual 103, 3), (8, .i2l, 1), (9, .lastore, 1), (10, .goto 11, 3), (13, .astore 4, 2), (15, .iconst 1, 1), (16, .ireturn, 1), (17, .astore 4, 2), (19, .iconst 2, 1), (20, .ireturn, 1), (21, .iconst 0, 1), (22, .ireturn, 1)]
theorem dt_L_tell : ∀ q ∈ D_L_tell, decode cL_tell q.1 = .ok q.2 := by decide +kernel
theorem mv_L_tell : ea_MSH yL_tell (F_L_tell) 4 := ⟨⟨List.mem_append_right _ (List.mem_of_getElem? (i := 0) (by decide +kernel)), List.mem_append_right _ (List.mem_of_getElem? (i := 1330) (by decide +kernel)), ⟨by decide, by decide⟩, by decide +kernel⟩, List.mem_append_right _ (List.mem_of_getElem? (i := 1329) (by decide +kernel))⟩
def f_L_tell (p2 : Int32) (p3 : Int32) (m : ea_M) : Option (Int32 × ea_M) :=
  ea_cx (f_X11_tell p2 p3 m) (fun r2 m1 =>
  ea_bd (ea_st m1 287 0 r2) fun m3 =>
  some (0, m3)) (fun kx m4 => if kx = 1 then
  some (1, m4)
  else if kx = 2 then
  some (2, m4)
  else none)
set_option maxHeartbeats 300000 in
theorem ok_L_tell (G : ea_G) (p2 : Int32) (p3 : Int32) (m : ea_M)  (rZ : Int32) (mZ : ea_M) (hZ : f_L_tell p2 p3 m = some (rZ, mZ)) : ea_MetH G yL_tell F_L_tell [.ref 0, .int p2, .int p3, .ref 287] m (0, rZ, mZ) := by
  refine ea_metH (F := F_L_tell) rfl rfl (Nat.le_of_ble_eq_true rfl) (by simp only [List.mem_cons, List.not_mem_nil, or_false]; intro v hv; rcases hv with rfl | rfl | rfl | rfl <;> rfl) ((?_ : ea_E G F_L_tell (0, rZ, mZ) 0 [some (.ref 0), some (.int p2), some (.int p3), some (.ref 287), none] [] m 0 0 (f_L_tell p2 p3 m) (fun t => t = (rZ, mZ))) (rZ, mZ) hZ rfl)
  have hR : ∀ t : Int32 × ea_M, t = (rZ, mZ) → ((0, rZ, mZ) : ea_O) = (0, t) := fun t h => by rw [h]
  unfold f_L_tell
  refine ev_aload_n (ea_at dt_L_tell 0 rfl) rfl ?_
  refine ev_iconst (ea_at dt_L_tell 1 rfl) ic_0 ?_
  refine ev_aload_n (ea_at dt_L_tell 2 rfl) rfl ?_
  refine ev_iload_n (ea_at dt_L_tell 3 rfl) rfl ?_
  refine ev_iload_n (ea_at dt_L_tell 4 rfl) rfl ?_
  refine ev_cxC (F1 := F_X11_tell) (fun zY hY => ea_runV (As := [.int p2, .int p3]) (ea_at dt_L_tell 5 rfl) ml_L_103 mv_X11_tell (ok_X11_tell G p2 p3 m  zY hY) sh_0 rfl rfl rfl (Nat.le_of_ble_eq_true rfl) rfl) rfl (fun kx m4 t hkx e q => ?_) (fun r2 m1 => ?_)
  · by_cases hk : kx = 1
    · rw [if_pos hk] at e
      subst hk
      refine ea_caught2 (pre := []) (name := "java/lang/IndexOutOfBoundsException") rfl (fun z hz => by cases hz) (by decide) (by decide) cl_L_24 cast_1 (ea_at dt_L_tell 9 rfl) (by decide) ?_
      refine (?_ : ea_E G F_L_tell (0, rZ, mZ) 15 [some (.ref 0), some (.int p2), some (.int p3), some (.ref 287), none] [] m4 2 12 _ (fun t => t = (rZ, mZ))) t e q
      refine ev_iconst (ea_at dt_L_tell 10 rfl) ic_1 ?_
      exact ev_iret (ea_at dt_L_tell 11 rfl) rfl ⟨by decide, by decide⟩ (fun h => hR _ h)
    · rw [if_neg hk] at e
      by_cases hk : kx = 2
      · rw [if_pos hk] at e
        subst hk
        refine ea_caught2 (pre := [(0, 10, 13, 24)]) (name := "java/lang/IllegalArgumentException") rfl (fun z hz => by simp only [List.mem_cons, List.not_mem_nil, or_false] at hz; rcases hz with rfl <;> first | exact ⟨by decide, _, cl_L_24, by decide⟩) (by decide) (by decide) cl_L_13 cast_2 (ea_at dt_L_tell 12 rfl) (by decide) ?_
        refine (?_ : ea_E G F_L_tell (0, rZ, mZ) 19 [some (.ref 0), some (.int p2), some (.int p3), some (.ref 287), none] [] m4 2 12 _ (fun t => t = (rZ, mZ))) t e q
        refine ev_iconst (ea_at dt_L_tell 13 rfl) ic_2 ?_
        exact ev_iret (ea_at dt_L_tell 14 rfl) rfl ⟨by decide, by decide⟩ (fun h => hR _ h)
      · rw [if_neg hk] at e
        cases e
  · refine ev_i2l (ea_at dt_L_tell 6 rfl) ?_
    refine ev_lastoreC (j := 0) (ea_at dt_L_tell 7 rfl) sh_287 (by decide) (by decide) (by decide) ?_
    refine ev_m (fun m3 => ?_)
    refine ev_goto (tgt := 21) (ea_at dt_L_tell 8 rfl) rfl ?_
    refine ev_iconst (ea_at dt_L_tell 15 rfl) ic_0 ?_
    exact ev_iret (ea_at dt_L_tell 16 rfl) rfl ⟨by decide, by decide⟩ (fun h => hR _ h)
def F_L_lasts : ea_F := (ea_rm 10 3 18, cL_lasts, RL, some .int, 6, [(0, 12, 15, 24), (0, 12, 19, 13)], 3, 18)
def D_L_lasts : List (Nat × Instr × Nat) := [(0, .aload 4, 2), (2, .iconst 0, 1), (3, .aload_n 0, 1), (4, .iload_n 1, 1), (5, .iload_n 2, 1), (6, .iload_n 3, 1), (7, .invokevirtual 106, 3), (10, .i2l, 1), (11, .lastore, 1), (12, .goto 11, 3), (15, .astore 5, 2), (17, .iconst 1, 1), (18, .ireturn, 1), (19, .astore 5, 2), (21, .iconst 2, 1), (22, .ireturn, 1), (23, .iconst 0, 1), (24, .ireturn, 1)]
theorem dt_L_lasts : ∀ q ∈ D_L_lasts, decode cL_lasts q.1 = .ok q.2 := by decide +kernel
theorem mv_L_lasts : ea_MSH yL_lasts (F_L_lasts) 5 := ⟨⟨List.mem_append_right _ (List.mem_of_getElem? (i := 0) (by decide +kernel)), List.mem_append_right _ (List.mem_of_getElem? (i := 1337) (by decide +kernel)), ⟨by decide, by decide⟩, by decide +kernel⟩, List.mem_append_right _ (List.mem_of_getElem? (i := 1336) (by decide +kernel))⟩
def f_L_lasts (p2 : Int32) (p3 : Int32) (p4 : Int32) (m : ea_M) : Option (Int32 × ea_M) :=
  ea_cx (f_X11_lasts p2 p3 p4 m) (fun r2 m1 =>
  ea_bd (ea_st m1 287 0 r2) fun m3 =>
  some (0, m3)) (fun kx m4 => if kx = 1 then
  some (1, m4)
  else if kx = 2 then
  some (2, m4)
  else none)
set_option maxHeartbeats 300000 in
theorem ok_L_lasts (G : ea_G) (p2 : Int32) (p3 : Int32) (p4 : Int32) (m : ea_M)  (rZ : Int32) (mZ : ea_M) (hZ : f_L_lasts p2 p3 p4 m = some (rZ, mZ)) : ea_MetH G yL_lasts F_L_lasts [.ref 0, .int p2, .int p3, .int p4, .ref 287] m (0, rZ, mZ) := by
  refine ea_metH (F := F_L_lasts) rfl rfl (Nat.le_of_ble_eq_true rfl) (by simp only [List.mem_cons, List.not_mem_nil, or_false]; intro v hv; rcases hv with rfl | rfl | rfl | rfl | rfl <;> rfl) ((?_ : ea_E G F_L_lasts (0, rZ, mZ) 0 [some (.ref 0), some (.int p2), some (.int p3), some (.int p4), some (.ref 287), none] [] m 0 0 (f_L_lasts p2 p3 p4 m) (fun t => t = (rZ, mZ))) (rZ, mZ) hZ rfl)
  have hR : ∀ t : Int32 × ea_M, t = (rZ, mZ) → ((0, rZ, mZ) : ea_O) = (0, t) := fun t h => by rw [h]
  unfold f_L_lasts
  refine ev_aload (ea_at dt_L_lasts 0 rfl) rfl ?_
  refine ev_iconst (ea_at dt_L_lasts 1 rfl) ic_0 ?_
  refine ev_aload_n (ea_at dt_L_lasts 2 rfl) rfl ?_
  refine ev_iload_n (ea_at dt_L_lasts 3 rfl) rfl ?_
  refine ev_iload_n (ea_at dt_L_lasts 4 rfl) rfl ?_
  refine ev_iload_n (ea_at dt_L_lasts 5 rfl) rfl ?_
  refine ev_cxC (F1 := F_X11_lasts) (fun zY hY => ea_runV (As := [.int p2, .int p3, .int p4]) (ea_at dt_L_lasts 6 rfl) ml_L_106 mv_X11_lasts (ok_X11_lasts G p2 p3 p4 m  zY hY) sh_0 rfl rfl rfl (Nat.le_of_ble_eq_true rfl) rfl) rfl (fun kx m4 t hkx e q => ?_) (fun r2 m1 => ?_)
  · by_cases hk : kx = 1
    · rw [if_pos hk] at e
      subst hk
      refine ea_caught2 (pre := []) (name := "java/lang/IndexOutOfBoundsException") rfl (fun z hz => by cases hz) (by decide) (by decide) cl_L_24 cast_1 (ea_at dt_L_lasts 10 rfl) (by decide) ?_
      refine (?_ : ea_E G F_L_lasts (0, rZ, mZ) 17 [some (.ref 0), some (.int p2), some (.int p3), some (.int p4), some (.ref 287), none] [] m4 3 18 _ (fun t => t = (rZ, mZ))) t e q
      refine ev_iconst (ea_at dt_L_lasts 11 rfl) ic_1 ?_
      exact ev_iret (ea_at dt_L_lasts 12 rfl) rfl ⟨by decide, by decide⟩ (fun h => hR _ h)
    · rw [if_neg hk] at e
      by_cases hk : kx = 2
      · rw [if_pos hk] at e
        subst hk
        refine ea_caught2 (pre := [(0, 12, 15, 24)]) (name := "java/lang/IllegalArgumentException") rfl (fun z hz => by simp only [List.mem_cons, List.not_mem_nil, or_false] at hz; rcases hz with rfl <;> first | exact ⟨by decide, _, cl_L_24, by decide⟩) (by decide) (by decide) cl_L_13 cast_2 (ea_at dt_L_lasts 13 rfl) (by decide) ?_
        refine (?_ : ea_E G F_L_lasts (0, rZ, mZ) 21 [some (.ref 0), some (.int p2), some (.int p3), some (.int p4), some (.ref 287), none] [] m4 3 18 _ (fun t => t = (rZ, mZ))) t e q
        refine ev_iconst (ea_at dt_L_lasts 14 rfl) ic_2 ?_
        exact ev_iret (ea_at dt_L_lasts 15 rfl) rfl ⟨by decide, by decide⟩ (fun h => hR _ h)
      · rw [if_neg hk] at e
        cases e
  · refine ev_i2l (ea_at dt_L_lasts 7 rfl) ?_
    refine ev_lastoreC (j := 0) (ea_at dt_L_lasts 8 rfl) sh_287 (by decide) (by decide) (by decide) ?_
    refine ev_m (fun m3 => ?_)
    refine ev_goto (tgt := 23) (ea_at dt_L_lasts 9 rfl) rfl ?_
    refine ev_iconst (ea_at dt_L_lasts 16 rfl) ic_0 ?_
    exact ev_iret (ea_at dt_L_lasts 17 rfl) rfl ⟨by decide, by decide⟩ (fun h => hR _ h)
def F_L_won : ea_F := (ea_rm 10 1 6, cL_won, RL, some .int, 5, [(0, 10, 13, 24)], 1, 6)
def D_L_won : List (Nat × Instr × Nat) := [(0, .aload_n 3, 1), (1, .iconst 0, 1), (2, .aload_n 0, 1), (3, .iload_n 1, 1), (4, .iload_n 2, 1), (5, .invokevirtual 109, 3), (8, .i2l, 1), (9, .lastore, 1), (10, .goto 7, 3), (13, .astore 4, 2), (15, .iconst 1, 1), (16, .ireturn, 1), (17, .iconst 0, 1), (18, .ireturn, 1)]
theorem dt_L_won : ∀ q ∈ D_L_won, decode cL_won q.1 = .ok q.2 := by decide +kernel
theorem mv_L_won : ea_MSH yL_won (F_L_won) 4 := ⟨⟨List.mem_append_right _ (List.mem_of_getElem? (i := 0) (by decide +kernel)), List.mem_append_right _ (List.mem_of_getElem? (i := 1344) (by decide +kernel)), ⟨by decide, by decide⟩, by decide +kernel⟩, List.mem_append_right _ (List.mem_of_getElem? (i := 1343) (by decide +kernel))⟩
def f_L_won (p2 : Int32) (p3 : Int32) (m : ea_M) : Option (Int32 × ea_M) :=
  ea_cx (f_X11_won p2 p3 m) (fun r2 m1 =>
  ea_bd (ea_st m1 287 0 r2) fun m3 =>
  some (0, m3)) (fun kx m4 => if kx = 1 then
  some (1, m4)
  else none)
set_option maxHeartbeats 300000 in
theorem ok_L_won (G : ea_G) (p2 : Int32) (p3 : Int32) (m : ea_M)  (rZ : Int32) (mZ : ea_M) (hZ : f_L_won p2 p3 m = some (rZ, mZ)) : ea_MetH G yL_won F_L_won [.ref 0, .int p2, .int p3, .ref 287] m (0, rZ, mZ) := by
  refine ea_metH (F := F_L_won) rfl rfl (Nat.le_of_ble_eq_true rfl) (by simp only [List.mem_cons, List.not_mem_nil, or_false]; intro v hv; rcases hv with rfl | rfl | rfl | rfl <;> rfl) ((?_ : ea_E G F_L_won (0, rZ, mZ) 0 [some (.ref 0), some (.int p2), some (.int p3), some (.ref 287), none] [] m 0 0 (f_L_won p2 p3 m) (fun t => t = (rZ, mZ))) (rZ, mZ) hZ rfl)
  have hR : ∀ t : Int32 × ea_M, t = (rZ, mZ) → ((0, rZ, mZ) : ea_O) = (0, t) := fun t h => by rw [h]
  unfold f_L_won
  refine ev_aload_n (ea_at dt_L_won 0 rfl) rfl ?_
  refine ev_iconst (ea_at dt_L_won 1 rfl) ic_0 ?_
  refine ev_aload_n (ea_at dt_L_won 2 rfl) rfl ?_
  refine ev_iload_n (ea_at dt_L_won 3 rfl) rfl ?_
  refine ev_iload_n (ea_at dt_L_won 4 rfl) rfl ?_
  refine ev_cxC (F1 := F_X11_won) (fun zY hY => ea_runV (As := [.int p2, .int p3]) (ea_at dt_L_won 5 rfl) ml_L_109 mv_X11_won (ok_X11_won G p2 p3 m  zY hY) sh_0 rfl rfl rfl (Nat.le_of_ble_eq_true rfl) rfl) rfl (fun kx m4 t hkx e q => ?_) (fun r2 m1 => ?_)
  · by_cases hk : kx = 1
    · rw [if_pos hk] at e
      subst hk
      refine ea_caught2 (pre := []) (name := "java/lang/IndexOutOfBoundsException") rfl (fun z hz => by cases hz) (by decide) (by decide) cl_L_24 cast_1 (ea_at dt_L_won 9 rfl) (by decide) ?_
      refine (?_ : ea_E G F_L_won (0, rZ, mZ) 15 [some (.ref 0), some (.int p2), some (.int p3), some (.ref 287), none] [] m4 1 6 _ (fun t => t = (rZ, mZ))) t e q
      refine ev_iconst (ea_at dt_L_won 10 rfl) ic_1 ?_
      exact ev_iret (ea_at dt_L_won 11 rfl) rfl ⟨by decide, by decide⟩ (fun h => hR _ h)
    · rw [if_neg hk] at e
      cases e
  · refine ev_i2l (ea_at dt_L_won 6 rfl) ?_
    refine ev_lastoreC (j := 0) (ea_at dt_L_won 7 rfl) sh_287 (by decide) (by decide) (by decide) ?_
    refine ev_m (fun m3 => ?_)
    refine ev_goto (tgt := 17) (ea_at dt_L_won 8 rfl) rfl ?_
    refine ev_iconst (ea_at dt_L_won 12 rfl) ic_0 ?_
    exact ev_iret (ea_at dt_L_won 13 rfl) rfl ⟨by decide, by decide⟩ (fun h => hR _ h)
def F_L_widest : ea_F := (ea_rm 15 1 6, cL_widest, RL, some .int, 4, [(0, 9, 12, 24)], 1, 6)
def D_L_widest : List (Nat × Instr × Nat) := [(0, .aload_n 2, 1), (1, .iconst 0, 1), (2, .aload_n 0, 1), (3, .iload_n 1, 1), (4, .invokevirtual 112, 3), (7, .i2l, 1), (8, .lastore, 1), (9, .goto 6, 3), (12, .astore_n 3, 1), (13, .iconst 1, 1), (14, .ireturn, 1), (15, .iconst 0, 1), (16, .ireturn, 1)]
theorem dt_L_widest : ∀ q ∈ D_L_widest, decode cL_widest q.1 = .ok q.2 := by decide +kernel
theorem mv_L_widest : ea_MSH yL_widest (F_L_widest) 3 := ⟨⟨List.mem_append_right _ (List.mem_of_getElem? (i := 0) (by decide +kernel)), List.mem_append_right _ (List.mem_of_getElem? (i := 1351) (by decide +kernel)), ⟨by decide, by decide⟩, by decide +kernel⟩, List.mem_append_right _ (List.mem_of_getElem? (i := 1350) (by decide +kernel))⟩
def f_L_widest (p2 : Int32) (m : ea_M) : Option (Int32 × ea_M) :=
  ea_cx (f_X11_widest p2 m) (fun r2 m1 =>
  ea_bd (ea_st m1 287 0 r2) fun m3 =>
  some (0, m3)) (fun kx m4 => if kx = 1 then
  some (1, m4)
  else none)
set_option maxHeartbeats 300000 in
theorem ok_L_widest (G : ea_G) (p2 : Int32) (m : ea_M)  (rZ : Int32) (mZ : ea_M) (hZ : f_L_widest p2 m = some (rZ, mZ)) : ea_MetH G yL_widest F_L_widest [.ref 0, .int p2, .ref 287] m (0, rZ, mZ) := by
  refine ea_metH (F := F_L_widest) rfl rfl (Nat.le_of_ble_eq_true rfl) (by simp only [List.mem_cons, List.not_mem_nil, or_false]; intro v hv; rcases hv with rfl | rfl | rfl <;> rfl) ((?_ : ea_E G F_L_widest (0, rZ, mZ) 0 [some (.ref 0), some (.int p2), some (.ref 287), none] [] m 0 0 (f_L_widest p2 m) (fun t => t = (rZ, mZ))) (rZ, mZ) hZ rfl)
  have hR : ∀ t : Int32 × ea_M, t = (rZ, mZ) → ((0, rZ, mZ) : ea_O) = (0, t) := fun t h => by rw [h]
  unfold f_L_widest
  refine ev_aload_n (ea_at dt_L_widest 0 rfl) rfl ?_
  refine ev_iconst (ea_at dt_L_widest 1 rfl) ic_0 ?_
  refine ev_aload_n (ea_at dt_L_widest 2 rfl) rfl ?_
  refine ev_iload_n (ea_at dt_L_widest 3 rfl) rfl ?_
  refine ev_cxC (F1 := F_X11_widest) (fun zY hY => ea_runV (As := [.int p2]) (ea_at dt_L_widest 4 rfl) ml_L_112 mv_X11_widest (ok_X11_widest G p2 m  zY hY) sh_0 rfl rfl rfl (Nat.le_of_ble_eq_true rfl) rfl) rfl (fun kx m4 t hkx e q => ?_) (fun r2 m1 => ?_)
  · by_cases hk : kx = 1
    · rw [if_pos hk] at e
      subst hk
      refine ea_caught (pre := []) (name := "java/lang/IndexOutOfBoundsException") rfl (fun z hz => by cases hz) (by decide) (by decide) cl_L_24 cast_1 (ea_at dt_L_widest 8 rfl) (by decide) ?_
      refine (?_ : ea_E G F_L_widest (0, rZ, mZ) 13 [some (.ref 0), some (.int p2), some (.ref 287), none] [] m4 1 6 _ (fun t => t = (rZ, mZ))) t e q
      refine ev_iconst (ea_at dt_L_widest 9 rfl) ic_1 ?_
      exact ev_iret (ea_at dt_L_widest 10 rfl) rfl ⟨by decide, by decide⟩ (fun h => hR _ h)
    · rw [if_neg hk] at e
      cases e
  · refine ev_i2l (ea_at dt_L_widest 5 rfl) ?_
    refine ev_lastoreC (j := 0) (ea_at dt_L_widest 6 rfl) sh_287 (by decide) (by decide) (by decide) ?_
    refine ev_m (fun m3 => ?_)
    refine ev_goto (tgt := 15) (ea_at dt_L_widest 7 rfl) rfl ?_
    refine ev_iconst (ea_at dt_L_widest 11 rfl) ic_0 ?_
    exact ev_iret (ea_at dt_L_widest 12 rfl) rfl ⟨by decide, by decide⟩ (fun h => hR _ h)
def F_L_trial : ea_F := (ea_rm 16 3 18, cL_trial, RL, some .int, 6, [(0, 12, 15, 24), (0, 12, 19, 13)], 3, 18)
def D_L_trial : List (Nat × Instr × Nat) := [(0, .aload 4, 2), (2, .iconst 0, 1), (3, .aload_n 0, 1), (4, .iload_n 1, 1), (5, .iload_n 2, 1), (6, .iload_n 3, 1), (7, .invokevirtual 115, 3), (10, .i2l, 1), (11, .lastore, 1), (12, .goto 11, 3), (15, .astore 5, 2), (17, .iconst 1, 1), (18, .ireturn, 1), (19, .astore 5, 2), (21, .iconst 2, 1), (22, .ireturn, 1), (23, .iconst 0, 1), (24, .ireturn, 1)]
theorem dt_L_trial : ∀ q ∈ D_L_trial, decode cL_trial q.1 = .ok q.2 := by decide +kernel
theorem mv_L_trial : ea_MSH yL_trial (F_L_trial) 5 := ⟨⟨List.mem_append_right _ (List.mem_of_getElem? (i := 0) (by decide +kernel)), List.mem_append_right _ (List.mem_of_getElem? (i := 1358) (by decide +kernel)), ⟨by decide, by decide⟩, by decide +kernel⟩, List.mem_append_right _ (List.mem_of_getElem? (i := 1357) (by decide +kernel))⟩
def f_L_trial (p2 : Int32) (p3 : Int32) (p4 : Int32) (m : ea_M) : Option (Int32 × ea_M) :=
  ea_cx (f_X11_trial p2 p3 p4 m) (fun r2 m1 =>
  ea_bd (ea_st m1 287 0 r2) fun m3 =>
  some (0, m3)) (fun kx m4 => if kx = 1 then
  some (1, m4)
  else if kx = 2 then
  some (2, m4)
  else none)
set_option maxHeartbeats 300000 in
theorem ok_L_trial (G : ea_G) (p2 : Int32) (p3 : Int32) (p4 : Int32) (m : ea_M)  (rZ : Int32) (mZ : ea_M) (hZ : f_L_trial p2 p3 p4 m = some (rZ, mZ)) : ea_MetH G yL_trial F_L_trial [.ref 0, .int p2, .int p3, .int p4, .ref 287] m (0, rZ, mZ) := by
  refine ea_metH (F := F_L_trial) rfl rfl (Nat.le_of_ble_eq_true rfl) (by simp only [List.mem_cons, List.not_mem_nil, or_false]; intro v hv; rcases hv with rfl | rfl | rfl | rfl | rfl <;> rfl) ((?_ : ea_E G F_L_trial (0, rZ, mZ) 0 [some (.ref 0), some (.int p2), some (.int p3), some (.int p4), some (.ref 287), none] [] m 0 0 (f_L_trial p2 p3 p4 m) (fun t => t = (rZ, mZ))) (rZ, mZ) hZ rfl)
  have hR : ∀ t : Int32 × ea_M, t = (rZ, mZ) → ((0, rZ, mZ) : ea_O) = (0, t) := fun t h => by rw [h]
  unfold f_L_trial
  refine ev_aload (ea_at dt_L_trial 0 rfl) rfl ?_
  refine ev_iconst (ea_at dt_L_trial 1 rfl) ic_0 ?_
  refine ev_aload_n (ea_at dt_L_trial 2 rfl) rfl ?_
  refine ev_iload_n (ea_at dt_L_trial 3 rfl) rfl ?_
  refine ev_iload_n (ea_at dt_L_trial 4 rfl) rfl ?_
  refine ev_iload_n (ea_at dt_L_trial 5 rfl) rfl ?_
  refine ev_cxC (F1 := F_X11_trial) (fun zY hY => ea_runV (As := [.int p2, .int p3, .int p4]) (ea_at dt_L_trial 6 rfl) ml_L_115 mv_X11_trial (ok_X11_trial G p2 p3 p4 m  zY hY) sh_0 rfl rfl rfl (Nat.le_of_ble_eq_true rfl) rfl) rfl (fun kx m4 t hkx e q => ?_) (fun r2 m1 => ?_)
  · by_cases hk : kx = 1
    · rw [if_pos hk] at e
      subst hk
      refine ea_caught2 (pre := []) (name := "java/lang/IndexOutOfBoundsException") rfl (fun z hz => by cases hz) (by decide) (by decide) cl_L_24 cast_1 (ea_at dt_L_trial 10 rfl) (by decide) ?_
      refine (?_ : ea_E G F_L_trial (0, rZ, mZ) 17 [some (.ref 0), some (.int p2), some (.int p3), some (.int p4), some (.ref 287), none] [] m4 3 18 _ (fun t => t = (rZ, mZ))) t e q
      refine ev_iconst (ea_at dt_L_trial 11 rfl) ic_1 ?_
      exact ev_iret (ea_at dt_L_trial 12 rfl) rfl ⟨by decide, by decide⟩ (fun h => hR _ h)
    · rw [if_neg hk] at e
      by_cases hk : kx = 2
      · rw [if_pos hk] at e
        subst hk
        refine ea_caught2 (pre := [(0, 12, 15, 24)]) (name := "java/lang/IllegalArgumentException") rfl (fun z hz => by simp only [List.mem_cons, List.not_mem_nil, or_false] at hz; rcases hz with rfl <;> first | exact ⟨by decide, _, cl_L_24, by decide⟩) (by decide) (by decide) cl_L_13 cast_2 (ea_at dt_L_trial 13 rfl) (by decide) ?_
        refine (?_ : ea_E G F_L_trial (0, rZ, mZ) 21 [some (.ref 0), some (.int p2), some (.int p3), some (.int p4), some (.ref 287), none] [] m4 3 18 _ (fun t => t = (rZ, mZ))) t e q
        refine ev_iconst (ea_at dt_L_trial 14 rfl) ic_2 ?_
        exact ev_iret (ea_at dt_L_trial 15 rfl) rfl ⟨by decide, by decide⟩ (fun h => hR _ h)
      · rw [if_neg hk] at e
        cases e
  · refine ev_i2l (ea_at dt_L_trial 7 rfl) ?_
    refine ev_lastoreC (j := 0) (ea_at dt_L_trial 8 rfl) sh_287 (by decide) (by decide) (by decide) ?_
    refine ev_m (fun m3 => ?_)
    refine ev_goto (tgt := 23) (ea_at dt_L_trial 9 rfl) rfl ?_
    refine ev_iconst (ea_at dt_L_trial 16 rfl) ic_0 ?_
    exact ev_iret (ea_at dt_L_trial 17 rfl) rfl ⟨by decide, by decide⟩ (fun h => hR _ h)
def F_L_span : ea_F := (ea_rm 16 3 18, cL_span, RL, some .int, 7, [(0, 14, 17, 24), (0, 14, 21, 13)], 3, 18)
def D_L_span : List (Nat × Instr × Nat) := [(0, .aload 5, 2), (2, .iconst 0, 1), (3, .aload_n 0, 1), (4, .iload_n 1, 1), (5, .iload_n 2, 1), (6, .iload_n 3, 1), (7, .iload 4, 2), (9, .invokevirtual 118, 3), (12, .i2l, 1), (13, .lastore, 1), (14, .goto 11, 3), (17, .astore 6, 2), (19, .iconst 1, 1), (20, .ireturn, 1), (21, .astore 6, 2), (23, .iconst 2, 1), (24, .ireturn, 1), (25, .iconst 0, 1), (26, .ireturn, 1)]
theorem dt_L_span : ∀ q ∈ D_L_span, decode cL_span q.1 = .ok q.2 := by decide +kernel
theorem mv_L_span : ea_MSH yL_span (F_L_span) 6 := ⟨⟨List.mem_append_right _ (List.mem_of_getElem? (i := 0) (by decide +kernel)), List.mem_append_right _ (List.mem_of_getElem? (i := 1373) (by decide +kernel)), ⟨by decide, by decide⟩, by decide +kernel⟩, List.mem_append_right _ (List.mem_of_getElem? (i := 1372) (by decide +kernel))⟩
def f_L_span (p2 : Int32) (p3 : Int32) (p4 : Int32) (p5 : Int32) (m : ea_M) : Option (Int32 × ea_M) :=
  ea_cx (f_X11_span p2 p3 p4 p5 m) (fun r2 m1 =>
  ea_bd (ea_st m1 287 0 r2) fun m3 =>
  some (0, m3)) (fun kx m4 => if kx = 1 then
  some (1, m4)
  else if kx = 2 then
  some (2, m4)
  else none)
set_option maxHeartbeats 300000 in
theorem ok_L_span (G : ea_G) (p2 : Int32) (p3 : Int32) (p4 : Int32) (p5 : Int32) (m : ea_M)  (rZ : Int32) (mZ : ea_M) (hZ : f_L_span p2 p3 p4 p5 m = some (rZ, mZ)) : ea_MetH G yL_span F_L_span [.ref 0, .int p2, .int p3, .int p4, .int p5, .ref 287] m (0, rZ, mZ) := by
  refine ea_metH (F := F_L_span) rfl rfl (Nat.le_of_ble_eq_true rfl) (by simp only [List.mem_cons, List.not_mem_nil, or_false]; intro v hv; rcases hv with rfl | rfl | rfl | rfl | rfl | rfl <;> rfl) ((?_ : ea_E G F_L_span (0, rZ, mZ) 0 [some (.ref 0), some (.int p2), some (.int p3), some (.int p4), some (.int p5), some (.ref 287), none] [] m 0 0 (f_L_span p2 p3 p4 p5 m) (fun t => t = (rZ, mZ))) (rZ, mZ) hZ rfl)
  have hR : ∀ t : Int32 × ea_M, t = (rZ, mZ) → ((0, rZ, mZ) : ea_O) = (0, t) := fun t h => by rw [h]
  unfold f_L_span
  refine ev_aload (ea_at dt_L_span 0 rfl) rfl ?_
  refine ev_iconst (ea_at dt_L_span 1 rfl) ic_0 ?_
  refine ev_aload_n (ea_at dt_L_span 2 rfl) rfl ?_
  refine ev_iload_n (ea_at dt_L_span 3 rfl) rfl ?_
  refine ev_iload_n (ea_at dt_L_span 4 rfl) rfl ?_
  refine ev_iload_n (ea_at dt_L_span 5 rfl) rfl ?_
  refine ev_iload (ea_at dt_L_span 6 rfl) rfl ?_
  refine ev_cxC (F1 := F_X11_span) (fun zY hY => ea_runV (As := [.int p2, .int p3, .int p4, .int p5]) (ea_at dt_L_span 7 rfl) ml_L_118 mv_X11_span (ok_X11_span G p2 p3 p4 p5 m  zY hY) sh_0 rfl rfl rfl (Nat.le_of_ble_eq_true rfl) rfl) rfl (fun kx m4 t hkx e q => ?_) (fun r2 m1 => ?_)
  · by_cases hk : kx = 1
    · rw [if_pos hk] at e
      subst hk
      refine ea_caught2 (pre := []) (name := "java/lang/IndexOutOfBoundsException") rfl (fun z hz => by cases hz) (by decide) (by decide) cl_L_24 cast_1 (ea_at dt_L_span 11 rfl) (by decide) ?_
      refine (?_ : ea_E G F_L_span (0, rZ, mZ) 19 [some (.ref 0), some (.int p2), some (.int p3), some (.int p4), some (.int p5), some (.ref 287), none] [] m4 3 18 _ (fun t => t = (rZ, mZ))) t e q
      refine ev_iconst (ea_at dt_L_span 12 rfl) ic_1 ?_
      exact ev_iret (ea_at dt_L_span 13 rfl) rfl ⟨by decide, by decide⟩ (fun h => hR _ h)
    · rw [if_neg hk] at e
      by_cases hk : kx = 2
      · rw [if_pos hk] at e
        subst hk
        refine ea_caught2 (pre := [(0, 14, 17, 24)]) (name := "java/lang/IllegalArgumentException") rfl (fun z hz => by simp only [List.mem_cons, List.not_mem_nil, or_false] at hz; rcases hz with rfl <;> first | exact ⟨by decide, _, cl_L_24, by decide⟩) (by decide) (by decide) cl_L_13 cast_2 (ea_at dt_L_span 14 rfl) (by decide) ?_
        refine (?_ : ea_E G F_L_span (0, rZ, mZ) 23 [some (.ref 0), some (.int p2), some (.int p3), some (.int p4), some (.int p5), some (.ref 287), none] [] m4 3 18 _ (fun t => t = (rZ, mZ))) t e q
        refine ev_iconst (ea_at dt_L_span 15 rfl) ic_2 ?_
        exact ev_iret (ea_at dt_L_span 16 rfl) rfl ⟨by decide, by decide⟩ (fun h => hR _ h)
      · rw [if_neg hk] at e
        cases e
  · refine ev_i2l (ea_at dt_L_span 8 rfl) ?_
    refine ev_lastoreC (j := 0) (ea_at dt_L_span 9 rfl) sh_287 (by decide) (by decide) (by decide) ?_
    refine ev_m (fun m3 => ?_)
    refine ev_goto (tgt := 25) (ea_at dt_L_span 10 rfl) rfl ?_
    refine ev_iconst (ea_at dt_L_span 17 rfl) ic_0 ?_
    exact ev_iret (ea_at dt_L_span 18 rfl) rfl ⟨by decide, by decide⟩ (fun h => hR _ h)
def F_L_led : ea_F := (ea_rm 10 1 6, cL_led, RL, some .int, 5, [(0, 10, 13, 24)], 1, 6)
def D_L_led : List (Nat × Instr × Nat) := [(0, .aload_n 3, 1), (1, .iconst 0, 1), (2, .aload_n 0, 1), (3, .iload_n 1, 1), (4, .iload_n 2, 1), (5, .invokevirtual 122, 3), (8, .i2l, 1), (9, .lastore, 1), (10, .goto 7, 3), (13, .astore 4, 2), (15, .iconst 1, 1), (16, .ireturn, 1), (17, .iconst 0, 1), (18, .ireturn, 1)]
theorem dt_L_led : ∀ q ∈ D_L_led, decode cL_led q.1 = .ok q.2 := by decide +kernel
theorem mv_L_led : ea_MSH yL_led (F_L_led) 4 := ⟨⟨List.mem_append_right _ (List.mem_of_getElem? (i := 0) (by decide +kernel)), List.mem_append_right _ (List.mem_of_getElem? (i := 1380) (by decide +kernel)), ⟨by decide, by decide⟩, by decide +kernel⟩, List.mem_append_right _ (List.mem_of_getElem? (i := 1379) (by decide +kernel))⟩
def f_L_led (p2 : Int32) (p3 : Int32) (m : ea_M) : Option (Int32 × ea_M) :=
  ea_cx (f_X11_led p2 p3 m) (fun r2 m1 =>
  ea_bd (ea_st m1 287 0 r2) fun m3 =>
  some (0, m3)) (fun kx m4 => if kx = 1 then
  some (1, m4)
  else none)
set_option maxHeartbeats 300000 in
theorem ok_L_led (G : ea_G) (p2 : Int32) (p3 : Int32) (m : ea_M)  (rZ : Int32) (mZ : ea_M) (hZ : f_L_led p2 p3 m = some (rZ, mZ)) : ea_MetH G yL_led F_L_led [.ref 0, .int p2, .int p3, .ref 287] m (0, rZ, mZ) := by
  refine ea_metH (F := F_L_led) rfl rfl (Nat.le_of_ble_eq_true rfl) (by simp only [List.mem_cons, List.not_mem_nil, or_false]; intro v hv; rcases hv with rfl | rfl | rfl | rfl <;> rfl) ((?_ : ea_E G F_L_led (0, rZ, mZ) 0 [some (.ref 0), some (.int p2), some (.int p3), some (.ref 287), none] [] m 0 0 (f_L_led p2 p3 m) (fun t => t = (rZ, mZ))) (rZ, mZ) hZ rfl)
  have hR : ∀ t : Int32 × ea_M, t = (rZ, mZ) → ((0, rZ, mZ) : ea_O) = (0, t) := fun t h => by rw [h]
  unfold f_L_led
  refine ev_aload_n (ea_at dt_L_led 0 rfl) rfl ?_
  refine ev_iconst (ea_at dt_L_led 1 rfl) ic_0 ?_
  refine ev_aload_n (ea_at dt_L_led 2 rfl) rfl ?_
  refine ev_iload_n (ea_at dt_L_led 3 rfl) rfl ?_
  refine ev_iload_n (ea_at dt_L_led 4 rfl) rfl ?_
  refine ev_cxC (F1 := F_X11_led) (fun zY hY => ea_runV (As := [.int p2, .int p3]) (ea_at dt_L_led 5 rfl) ml_L_122 mv_X11_led (ok_X11_led G p2 p3 m  zY hY) sh_0 rfl rfl rfl (Nat.le_of_ble_eq_true rfl) rfl) rfl (fun kx m4 t hkx e q => ?_) (fun r2 m1 => ?_)
  · by_cases hk : kx = 1
    · rw [if_pos hk] at e
      subst hk
      refine ea_caught2 (pre := []) (name := "java/lang/IndexOutOfBoundsException") rfl (fun z hz => by cases hz) (by decide) (by decide) cl_L_24 cast_1 (ea_at dt_L_led 9 rfl) (by decide) ?_
      refine (?_ : ea_E G F_L_led (0, rZ, mZ) 15 [some (.ref 0), some (.int p2), some (.int p3), some (.ref 287), none] [] m4 1 6 _ (fun t => t = (rZ, mZ))) t e q
      refine ev_iconst (ea_at dt_L_led 10 rfl) ic_1 ?_
      exact ev_iret (ea_at dt_L_led 11 rfl) rfl ⟨by decide, by decide⟩ (fun h => hR _ h)
    · rw [if_neg hk] at e
      cases e
  · refine ev_i2l (ea_at dt_L_led 6 rfl) ?_
    refine ev_lastoreC (j := 0) (ea_at dt_L_led 7 rfl) sh_287 (by decide) (by decide) (by decide) ?_
    refine ev_m (fun m3 => ?_)
    refine ev_goto (tgt := 17) (ea_at dt_L_led 8 rfl) rfl ?_
    refine ev_iconst (ea_at dt_L_led 12 rfl) ic_0 ?_
    exact ev_iret (ea_at dt_L_led 13 rfl) rfl ⟨by decide, by decide⟩ (fun h => hR _ h)
def F_L_log : ea_F := (ea_rm 10 1 6, cL_log, RL, some .int, 5, [(0, 10, 13, 26)], 1, 6)
def D_L_log : List (Nat × Instr × Nat) := [(0, .aload_n 3, 1), (1, .iconst 0, 1), (2, .aload_n 0, 1), (3, .iload_n 1, 1), (4, .iload_n 2, 1), (5, .invokevirtual 125, 3), (8, .i2l, 1), (9, .lastore, 1), (10, .goto 7, 3), (13, .astore 4, 2), (15, .iconst 1, 1), (16, .ireturn, 1), (17, .iconst 0, 1), (18, .ireturn, 1)]
theorem dt_L_log : ∀ q ∈ D_L_log, decode cL_log q.1 = .ok q.2 := by decide +kernel
theorem mv_L_log : ea_MSH yL_log (F_L_log) 4 := ⟨⟨List.mem_append_right _ (List.mem_of_getElem? (i := 0) (by decide +kernel)), List.mem_append_right _ (List.mem_of_getElem? (i := 1391) (by decide +kernel)), ⟨by decide, by decide⟩, by decide +kernel⟩, List.mem_append_right _ (List.mem_of_getElem? (i := 1390) (by decide +kernel))⟩
def f_L_log (p2 : Int32) (p3 : Int32) (m : ea_M) : Option (Int32 × ea_M) :=
  ea_cx (f_X11_log p2 p3 m) (fun r2 m1 =>
  ea_bd (ea_st m1 287 0 r2) fun m3 =>
  some (0, m3)) (fun kx m4 => if kx = 4 then
  some (1, m4)
  else none)
set_option maxHeartbeats 300000 in
theorem ok_L_log (G : ea_G) (p2 : Int32) (p3 : Int32) (m : ea_M)  (rZ : Int32) (mZ : ea_M) (hZ : f_L_log p2 p3 m = some (rZ, mZ)) : ea_MetH G yL_log F_L_log [.ref 0, .int p2, .int p3, .ref 287] m (0, rZ, mZ) := by
  refine ea_metH (F := F_L_log) rfl rfl (Nat.le_of_ble_eq_true rfl) (by simp only [List.mem_cons, List.not_mem_nil, or_false]; intro v hv; rcases hv with rfl | rfl | rfl | rfl <;> rfl) ((?_ : ea_E G F_L_log (0, rZ, mZ) 0 [some (.ref 0), some (.int p2), some (.int p3), some (.ref 287), none] [] m 0 0 (f_L_log p2 p3 m) (fun t => t = (rZ, mZ))) (rZ, mZ) hZ rfl)
  have hR : ∀ t : Int32 × ea_M, t = (rZ, mZ) → ((0, rZ, mZ) : ea_O) = (0, t) := fun t h => by rw [h]
  unfold f_L_log
  refine ev_aload_n (ea_at dt_L_log 0 rfl) rfl ?_
  refine ev_iconst (ea_at dt_L_log 1 rfl) ic_0 ?_
  refine ev_aload_n (ea_at dt_L_log 2 rfl) rfl ?_
  refine ev_iload_n (ea_at dt_L_log 3 rfl) rfl ?_
  refine ev_iload_n (ea_at dt_L_log 4 rfl) rfl ?_
  refine ev_cxC (F1 := F_X11_log) (fun zY hY => ea_runV (As := [.int p2, .int p3]) (ea_at dt_L_log 5 rfl) ml_L_125 mv_X11_log (ok_X11_log G p2 p3 m  zY hY) sh_0 rfl rfl rfl (Nat.le_of_ble_eq_true rfl) rfl) rfl (fun kx m4 t hkx e q => ?_) (fun r2 m1 => ?_)
  · by_cases hk : kx = 4
    · rw [if_pos hk] at e
      subst hk
      refine ea_caught2 (pre := []) (name := "java/util/NoSuchElementException") rfl (fun z hz => by cases hz) (by decide) (by decide) cl_L_26 cast_4 (ea_at dt_L_log 9 rfl) (by decide) ?_
      refine (?_ : ea_E G F_L_log (0, rZ, mZ) 15 [some (.ref 0), some (.int p2), some (.int p3), some (.ref 287), none] [] m4 1 6 _ (fun t => t = (rZ, mZ))) t e q
      refine ev_iconst (ea_at dt_L_log 10 rfl) ic_1 ?_
      exact ev_iret (ea_at dt_L_log 11 rfl) rfl ⟨by decide, by decide⟩ (fun h => hR _ h)
    · rw [if_neg hk] at e
      cases e
  · refine ev_i2l (ea_at dt_L_log 6 rfl) ?_
    refine ev_lastoreC (j := 0) (ea_at dt_L_log 7 rfl) sh_287 (by decide) (by decide) (by decide) ?_
    refine ev_m (fun m3 => ?_)
    refine ev_goto (tgt := 17) (ea_at dt_L_log 8 rfl) rfl ?_
    refine ev_iconst (ea_at dt_L_log 12 rfl) ic_0 ?_
    exact ev_iret (ea_at dt_L_log 13 rfl) rfl ⟨by decide, by decide⟩ (fun h => hR _ h)
