section EVT
variable {τ : Type} {G : ea_G} {F : ea_F} {res : ea_O} {pc : Nat} {ls : List (Option Value)} {st : List Value} {m : ea_M} {k n : Nat} {x : Option τ} {Φ : τ → Prop}
def ea_tl (j : Nat) : Nat := (ea_str.getD j ("", 0, "")).2.2.length
def ea_tc (j i : Nat) : Int32 := nI ((ea_str.getD j ("", 0, "")).2.2.toList.getD i ' ').toNat
def ea_gc {τ : Type} (v : Int32) (x : Option τ) : Option τ := if 0 ≤ v ∧ v ≤ 65535 then x else none
theorem ea_fm_cat (G : ea_G) : (ea_fm G).category = 1 := by unfold ea_fm; split <;> rfl
theorem ev_sval {idx j : Nat} (d : decode (ea_cc F) pc = .ok (.getfield idx, 3)) (hw : Cond.fieldLink (ea_own F) idx "java/lang/String" "value" "[B" ∈ lw_tbl) (hj : j < ea_str.length) (h : ea_E G F res (pc + 3) ls (.ref (3000 + j) :: st) m k n x Φ) : ea_E G F res pc ls (.ref (1000 + j) :: st) m k n x Φ :=
  fun t e q p e' s mi args below meth c H locs lsA hh hl => vk_getf hh.1 hh.2.1 (hh.2.2.2.1.2.2.2.1 j hj).2.2.2.1 hh.2.2.2.2.1 hh.2.2.1.2.2.1 (hh.2.2.2.1.1 _ hw rfl args) (fun _ z => z) d (h t e q p e' s mi args below meth c H locs lsA hh hl)
theorem ev_scod {idx j : Nat} (d : decode (ea_cc F) pc = .ok (.getfield idx, 3)) (hw : Cond.fieldLink (ea_own F) idx "java/lang/String" "coder" "B" ∈ lw_tbl) (hj : j < ea_str.length) (h : ea_E G F res (pc + 3) ls (.int 0 :: st) m k n x Φ) : ea_E G F res pc ls (.ref (1000 + j) :: st) m k n x Φ :=
  fun t e q p e' s mi args below meth c H locs lsA hh hl => vk_getf hh.1 hh.2.1 (hh.2.2.2.1.2.2.2.1 j hj).2.2.1 hh.2.2.2.2.1 hh.2.2.1.2.2.1 (hh.2.2.2.1.1 _ hw rfl args) (fun _ z => z) d (h t e q p e' s mi args below meth c H locs lsA hh hl)
theorem ev_scomp {idx : Nat} (d : decode (ea_cc F) pc = .ok (.getstatic idx, 3)) (hw : Cond.fieldLink (ea_own F) idx "java/lang/String" "COMPACT_STRINGS" "Z" ∈ lw_tbl) (h : ea_E G F res (pc + 3) ls (.int 1 :: st) m k n x Φ) : ea_E G F res pc ls st m k n x Φ :=
  fun t e q p e' s mi args below meth c H locs lsA hh hl => va_gets hh.1 hh.2.1 hh.2.2.2.1.2.2.2.2.1.1 hh.2.2.2.2.1 hh.2.2.1.2.2.1 (hh.2.2.2.1.1 _ hw rfl args) (fun _ z => z) d (h t e q p e' s mi args below meth c H locs lsA hh hl)
theorem ev_sfm {idx : Nat} (d : decode (ea_cc F) pc = .ok (.getstatic idx, 3)) (hw : Cond.fieldLink (ea_own F) idx "jdk/internal/util/Preconditions" "SIOOBE_FORMATTER" "Ljava/util/function/BiFunction;" ∈ lw_tbl) (h : ea_E G F res (pc + 3) ls (ea_fm G :: st) m k n x Φ) : ea_E G F res pc ls st m k n x Φ :=
  fun t e q p e' s mi args below meth c H locs lsA hh hl => va_gets hh.1 hh.2.1 hh.2.2.2.1.2.2.2.2.1.2.2.2 hh.2.2.2.2.1 hh.2.2.1.2.2.1 (hh.2.2.2.1.1 _ hw rfl args) (fun _ z => z) d (h t e q p e' s mi args below meth c H locs lsA hh hl)
theorem ev_salen {j : Nat} (d : decode (ea_cc F) pc = .ok (.arraylength, 1)) (hj : j < ea_str.length) (h : ea_E G F res (pc + 1) ls (.int (nI (ea_tl j)) :: st) m k n x Φ) : ea_E G F res pc ls (.ref (3000 + j) :: st) m k n x Φ :=
  fun t e q p e' s mi args below meth c H locs lsA hh hl => va_tlen hh.1 hh.2.1 (hh.2.2.2.1.2.2.2.1 j hj).2.2.2.2 hh.2.2.2.2.1 rfl d (h t e q p e' s mi args below meth c H locs lsA hh hl)
theorem ev_sbal {j : Nat} {i : Int32} (d : decode (ea_cc F) pc = .ok (.baload, 1)) (hj : j < ea_str.length) (h : ea_E G F res (pc + 1) ls (.int (ea_tc j i.toNatClampNeg) :: st) m k n x Φ) : ea_E G F res pc ls (.int i :: .ref (3000 + j) :: st) m k n (ea_g i (ea_tl j) x) Φ :=
  fun t e q p e' s mi args below meth c H locs lsA hh hl => va_tb hh.1 hh.2.1 (hh.2.2.2.1.2.2.2.1 j hj).2.2.2.2 hh.2.2.2.2.1 (ea_g_some e).1 rfl d (h t (ea_g_some e).2 q p e' s mi args below meth c H locs lsA hh hl)
theorem ev_i2c {a : Int32} (d : decode (ea_cc F) pc = .ok (.i2c, 1)) (h : ea_E G F res (pc + 1) ls (.int (a.toUInt32 % 65536).toInt32 :: st) m k n x Φ) : ea_E G F res pc ls (.int a :: st) m k n x Φ :=
  fun t e q p e' s mi args below meth c H locs lsA hh hl => lv_i2c hh.1 hh.2.1 d rfl (h t e q p e' s mi args below meth c H locs lsA hh hl)
theorem ev_nret {t0 : τ} {v : Int32} {ty : FieldType} (hn : narrow ty (.int v) = .int v) (d : decode (ea_cc F) pc = .ok (.ireturn, 1)) (hr : ea_ret F = some ty) (hk : k ≤ ea_mc F ∧ n ≤ ea_ms F) (hq : Φ t0 → res = (0, v, m)) : ea_E G F res pc ls [.int v] m k n (some t0) Φ := by
  intro t e q p e' s mi args below meth c H locs lsA hh hl
  cases e
  have e1 := hq q
  subst e1
  refine W.widen hk.1 hk.2 (vx_ret (W.zret hh.1 hh.2.1 (hh.2.2.1.1.trans hr) hn (fun t ht hW => ⟨rfl, by rw [hr], by rw [ht]; exact hh.2.2.2.2.2, hh.2.2.2.2.1.F ht⟩) (fun z hz => hh.2.2.2.2.1.2.2 z hz) d hh.2.2.1.2.2.2.1))
theorem ea_narc {v : Int32} (h : 0 ≤ v ∧ v ≤ 65535) : narrow .char (.int v) = .int v := by
  have h0 : ¬ v < 0 := Int32.not_lt.mpr h.1
  obtain ⟨j, hj, rfl⟩ := nI_of h0
  have h1 : j ≤ 65535 := (nI_leI (a := j) (b := 65535) hj (by decide)).mp h.2
  exact (pk_charN (by omega)).1
theorem ev_cretG {t0 : τ} {v : Int32} (d : decode (ea_cc F) pc = .ok (.ireturn, 1)) (hr : ea_ret F = some .char) (hk : k ≤ ea_mc F ∧ n ≤ ea_ms F) (hq : Φ t0 → res = (0, v, m)) : ea_E G F res pc ls [.int v] m k n (ea_gc v (some t0)) Φ := by
  intro t e q
  unfold ea_gc at e
  split at e
  · rename_i hv
    exact ev_nret (ea_narc hv) d hr hk hq t e q
  · cases e
theorem ev_throwN {t0 : τ} {cls tx : String} {kx ik is ic j : Nat} (d0 : decode (ea_cc F) pc = .ok (.new ik, 3)) (d3 : decode (ea_cc F) (pc + 3) = .ok (.dup, 1)) (d4 : decode (ea_cc F) (pc + 4) = .ok (.ldc is, 2)) (d6 : decode (ea_cc F) (pc + 6) = .ok (.invokespecial ic, 3)) (d9 : decode (ea_cc F) (pc + 9) = .ok (.athrow, 1))
    (htb : ea_tb F = []) (hkx : 0 < kx) (hcls : ea_exn kx = cls) (hw1 : Cond.classLink (ea_own F) ik cls ∈ lw_tbl) (hw2 : Cond.initialized cls ∈ lw_tbl) (hw3 : Cond.methodLink (ea_own F) ic (Jvm.Bundle.initS cls) ∈ lw_tbl) (hj : ea_str[j]? = some (ea_own F, is, tx))
    (hr : 5 < (ea_R F).frames ∧ (st.map fun v => v.category).sum + 82 ≤ (ea_R F).locals ∧ k + 1 ≤ (ea_R F).cells ∧ n + 6 ≤ (ea_R F).slots ∧ k + 1 ≤ ea_mc F ∧ n + 6 ≤ ea_ms F) (hq : Φ t0 → ∃ v, res = (kx, v, m)) : ea_E G F res pc ls st m k n (some t0) Φ := sorry
theorem ev_throwNW {t0 : τ} {cls tx : String} {kx ik is ic j : Nat} (d0 : decode (ea_cc F) pc = .ok (.new ik, 3)) (d3 : decode (ea_cc F) (pc + 3) = .ok (.dup, 1)) (d4 : decode (ea_cc F) (pc + 4) = .ok (.ldc_w is, 3)) (d6 : decode (ea_cc F) (pc + 7) = .ok (.invokespecial ic, 3)) (d9 : decode (ea_cc F) (pc + 10) = .ok (.athrow, 1))
    (htb : ea_tb F = []) (hkx : 0 < kx) (hcls : ea_exn kx = cls) (hw1 : Cond.classLink (ea_own F) ik cls ∈ lw_tbl) (hw2 : Cond.initialized cls ∈ lw_tbl) (hw3 : Cond.methodLink (ea_own F) ic (Jvm.Bundle.initS cls) ∈ lw_tbl) (hj : ea_str[j]? = some (ea_own F, is, tx))
    (hr : 5 < (ea_R F).frames ∧ (st.map fun v => v.category).sum + 82 ≤ (ea_R F).locals ∧ k + 1 ≤ (ea_R F).cells ∧ n + 6 ≤ (ea_R F).slots ∧ k + 1 ≤ ea_mc F ∧ n + 6 ≤ ea_ms F) (hq : Φ t0 → ∃ v, res = (kx, v, m)) : ea_E G F res pc ls st m k n (some t0) Φ := sorry
end EVT

theorem fs_J0_1053 : Cond.fieldLink RJ0 1053 "jdk/internal/util/Preconditions" "SIOOBE_FORMATTER" "Ljava/util/function/BiFunction;" ∈ lw_tbl := List.mem_append_right _ (List.mem_of_getElem? (i := 698) (by decide +kernel))
theorem fs_J0_15 : Cond.fieldLink RJ0 15 "java/lang/String" "coder" "B" ∈ lw_tbl := List.mem_append_right _ (List.mem_of_getElem? (i := 2078) (by decide +kernel))
theorem fs_J0_38 : Cond.fieldLink RJ0 38 "java/lang/String" "COMPACT_STRINGS" "Z" ∈ lw_tbl := List.mem_append_right _ (List.mem_of_getElem? (i := 682) (by decide +kernel))
theorem fs_J0_9 : Cond.fieldLink RJ0 9 "java/lang/String" "value" "[B" ∈ lw_tbl := List.mem_append_right _ (List.mem_of_getElem? (i := 2077) (by decide +kernel))
theorem ml_J0_1059 : Cond.methodLink RJ0 1059 yJ3_checkIndex_8e157 ∈ lw_tbl := List.mem_append_right _ (List.mem_of_getElem? (i := 700) (by decide +kernel))
theorem ml_J0_335 : Cond.methodLink RJ0 335 yJ0_coder_7d493 ∈ lw_tbl := List.mem_append_right _ (List.mem_of_getElem? (i := 678) (by decide +kernel))
theorem ml_J0_492 : Cond.methodLink RJ0 492 yJ0_isLatin1_aae02 ∈ lw_tbl := List.mem_append_right _ (List.mem_of_getElem? (i := 688) (by decide +kernel))
theorem ml_J0_495 : Cond.methodLink RJ0 495 yJ1_charAt_3b067 ∈ lw_tbl := List.mem_append_right _ (List.mem_of_getElem? (i := 692) (by decide +kernel))
theorem ml_J1_9 : Cond.methodLink RJ1 9 yJ0_checkIndex_df160 ∈ lw_tbl := List.mem_append_right _ (List.mem_of_getElem? (i := 695) (by decide +kernel))
def F_J0_coder_7d493 : ea_F := (ea_rm 8 0 0, cJ0_coder_7d493, RJ0, some .byte, 1, [], 0, 0)
def D_J0_coder_7d493 : List (Nat × Instr × Nat) := [(0, .getstatic 38, 3), (3, .ifCond .eq 10, 3), (6, .aload_n 0, 1), (7, .getfield 15, 3), (10, .goto 4, 3), (13, .iconst 1, 1), (14, .ireturn, 1)]
theorem dt_J0_coder_7d493 : ∀ q ∈ D_J0_coder_7d493, decode cJ0_coder_7d493 q.1 = .ok q.2 := by decide +kernel
theorem mv_J0_coder_7d493 : ea_MV yJ0_coder_7d493 F_J0_coder_7d493 0 := ⟨⟨List.mem_append_right _ (List.mem_of_getElem? (i := 16) (by decide +kernel)), List.mem_append_right _ (List.mem_of_getElem? (i := 681) (by decide +kernel)), ⟨by decide, by decide⟩, by decide +kernel⟩, List.mem_append_right _ (List.mem_of_getElem? (i := 679) (by decide +kernel)), List.mem_append_right _ (List.mem_of_getElem? (i := 680) (by decide +kernel))⟩
def f_J0_coder_7d493 (j : Nat) (m : ea_M) : Option (Int32 × ea_M) :=
  if (1 : Int32) = 0 then
  some (1, m)
  else
  some (0, m)
set_option maxHeartbeats 300000 in
theorem ok_J0_coder_7d493 (G : ea_G) (j : Nat) (m : ea_M) (hj : j < ea_str.length) (rZ : Int32) (mZ : ea_M) (hZ : f_J0_coder_7d493 j m = some (rZ, mZ)) : ea_Met G yJ0_coder_7d493 F_J0_coder_7d493 [.ref (1000 + j)] m (0, rZ, mZ) := by
  refine ea_met (F := F_J0_coder_7d493) (by decide +kernel) rfl rfl (Nat.le_of_ble_eq_true rfl) (by simp only [List.mem_cons, List.not_mem_nil, or_false]; intro v hv; rcases hv with rfl <;> first | rfl | exact ea_fm_cat G) ((?_ : ea_E G F_J0_coder_7d493 (0, rZ, mZ) 0 [some (.ref (1000 + j))] [] m 0 0 (f_J0_coder_7d493 j m) (fun t => t = (rZ, mZ))) (rZ, mZ) hZ rfl)
  have hR : ∀ t : Int32 × ea_M, t = (rZ, mZ) → ((0, rZ, mZ) : ea_O) = (0, t) := fun t h => by rw [h]
  unfold f_J0_coder_7d493
  refine ev_scomp (ea_at dt_J0_coder_7d493 0 rfl) fs_J0_38 ?_
  refine ev_if_eq (tgt := 13) (ea_at dt_J0_coder_7d493 1 rfl) rfl (fun _ => ?_) (fun _ => ?_)
  · refine ev_iconst (ea_at dt_J0_coder_7d493 5 rfl) ic_1 ?_
    exact ev_nret (by decide) (ea_at dt_J0_coder_7d493 6 rfl) rfl ⟨by decide, by decide⟩ (fun h => hR _ h)
  · refine ev_aload_n (ea_at dt_J0_coder_7d493 2 rfl) rfl ?_
    refine ev_scod (ea_at dt_J0_coder_7d493 3 rfl) fs_J0_15 hj ?_
    refine ev_goto (tgt := 14) (ea_at dt_J0_coder_7d493 4 rfl) rfl ?_
    exact ev_nret (by decide) (ea_at dt_J0_coder_7d493 6 rfl) rfl ⟨by decide, by decide⟩ (fun h => hR _ h)
def F_J0_length_8abf5 : ea_F := (ea_rm 9 0 0, cJ0_length_8abf5, RJ0, some .int, 1, [], 0, 0)
def D_J0_length_8abf5 : List (Nat × Instr × Nat) := [(0, .aload_n 0, 1), (1, .getfield 9, 3), (4, .arraylength, 1), (5, .aload_n 0, 1), (6, .invokevirtual 335, 3), (9, .ishr, 1), (10, .ireturn, 1)]
theorem dt_J0_length_8abf5 : ∀ q ∈ D_J0_length_8abf5, decode cJ0_length_8abf5 q.1 = .ok q.2 := by decide +kernel
theorem mv_J0_length_8abf5 : ea_MV yJ0_length_8abf5 F_J0_length_8abf5 0 := ⟨⟨List.mem_append_right _ (List.mem_of_getElem? (i := 16) (by decide +kernel)), List.mem_append_right _ (List.mem_of_getElem? (i := 677) (by decide +kernel)), ⟨by decide, by decide⟩, by decide +kernel⟩, List.mem_append_right _ (List.mem_of_getElem? (i := 675) (by decide +kernel)), List.mem_append_right _ (List.mem_of_getElem? (i := 676) (by decide +kernel))⟩
def f_J0_length_8abf5 (j : Nat) (m : ea_M) : Option (Int32 × ea_M) :=
  ea_cl (f_J0_coder_7d493 j m) fun r2 m1 =>
  some ((nI (ea_tl j)) >>> (r2 &&& 31), m1)
set_option maxHeartbeats 300000 in
theorem ok_J0_length_8abf5 (G : ea_G) (j : Nat) (m : ea_M) (hj : j < ea_str.length) (rZ : Int32) (mZ : ea_M) (hZ : f_J0_length_8abf5 j m = some (rZ, mZ)) : ea_Met G yJ0_length_8abf5 F_J0_length_8abf5 [.ref (1000 + j)] m (0, rZ, mZ) := by
  refine ea_met (F := F_J0_length_8abf5) (by decide +kernel) rfl rfl (Nat.le_of_ble_eq_true rfl) (by simp only [List.mem_cons, List.not_mem_nil, or_false]; intro v hv; rcases hv with rfl <;> first | rfl | exact ea_fm_cat G) ((?_ : ea_E G F_J0_length_8abf5 (0, rZ, mZ) 0 [some (.ref (1000 + j))] [] m 0 0 (f_J0_length_8abf5 j m) (fun t => t = (rZ, mZ))) (rZ, mZ) hZ rfl)
  have hR : ∀ t : Int32 × ea_M, t = (rZ, mZ) → ((0, rZ, mZ) : ea_O) = (0, t) := fun t h => by rw [h]
  unfold f_J0_length_8abf5
  refine ev_aload_n (ea_at dt_J0_length_8abf5 0 rfl) rfl ?_
  refine ev_sval (ea_at dt_J0_length_8abf5 1 rfl) fs_J0_9 hj ?_
  refine ev_salen (ea_at dt_J0_length_8abf5 2 rfl) hj ?_
  refine ev_aload_n (ea_at dt_J0_length_8abf5 3 rfl) rfl ?_
  refine ev_clI (F1 := F_J0_coder_7d493) (fun rY mY hY => ea_runVS (As := []) (ea_at dt_J0_length_8abf5 4 rfl) ml_J0_335 mv_J0_coder_7d493 (ok_J0_coder_7d493 G j m hj rY mY hY) hj rfl rfl (Nat.le_of_ble_eq_true rfl) rfl) rfl (fun r2 m1 => ?_)
  refine ev_ishr (ea_at dt_J0_length_8abf5 5 rfl) ?_
  exact ev_iret (ea_at dt_J0_length_8abf5 6 rfl) rfl ⟨by decide, by decide⟩ (fun h => hR _ h)
def F_J0_isLatin1_aae02 : ea_F := (ea_rm 8 0 0, cJ0_isLatin1_aae02, RJ0, some .boolean, 1, [], 0, 0)
def D_J0_isLatin1_aae02 : List (Nat × Instr × Nat) := [(0, .getstatic 38, 3), (3, .ifCond .eq 14, 3), (6, .aload_n 0, 1), (7, .getfield 15, 3), (10, .ifCond .ne 7, 3), (13, .iconst 1, 1), (14, .goto 4, 3), (17, .iconst 0, 1), (18, .ireturn, 1)]
theorem dt_J0_isLatin1_aae02 : ∀ q ∈ D_J0_isLatin1_aae02, decode cJ0_isLatin1_aae02 q.1 = .ok q.2 := by decide +kernel
theorem mv_J0_isLatin1_aae02 : ea_MV yJ0_isLatin1_aae02 F_J0_isLatin1_aae02 0 := ⟨⟨List.mem_append_right _ (List.mem_of_getElem? (i := 16) (by decide +kernel)), List.mem_append_right _ (List.mem_of_getElem? (i := 691) (by decide +kernel)), ⟨by decide, by decide⟩, by decide +kernel⟩, List.mem_append_right _ (List.mem_of_getElem? (i := 689) (by decide +kernel)), List.mem_append_right _ (List.mem_of_getElem? (i := 690) (by decide +kernel))⟩
def f_J0_isLatin1_aae02 (j : Nat) (m : ea_M) : Option (Int32 × ea_M) :=
  if (1 : Int32) = 0 then
  some (0, m)
  else
  if (0 : Int32) = 0 then
  some (1, m)
  else
  some (0, m)
set_option maxHeartbeats 300000 in
theorem ok_J0_isLatin1_aae02 (G : ea_G) (j : Nat) (m : ea_M) (hj : j < ea_str.length) (rZ : Int32) (mZ : ea_M) (hZ : f_J0_isLatin1_aae02 j m = some (rZ, mZ)) : ea_Met G yJ0_isLatin1_aae02 F_J0_isLatin1_aae02 [.ref (1000 + j)] m (0, rZ, mZ) := by
  refine ea_met (F := F_J0_isLatin1_aae02) (by decide +kernel) rfl rfl (Nat.le_of_ble_eq_true rfl) (by simp only [List.mem_cons, List.not_mem_nil, or_false]; intro v hv; rcases hv with rfl <;> first | rfl | exact ea_fm_cat G) ((?_ : ea_E G F_J0_isLatin1_aae02 (0, rZ, mZ) 0 [some (.ref (1000 + j))] [] m 0 0 (f_J0_isLatin1_aae02 j m) (fun t => t = (rZ, mZ))) (rZ, mZ) hZ rfl)
  have hR : ∀ t : Int32 × ea_M, t = (rZ, mZ) → ((0, rZ, mZ) : ea_O) = (0, t) := fun t h => by rw [h]
  unfold f_J0_isLatin1_aae02
  refine ev_scomp (ea_at dt_J0_isLatin1_aae02 0 rfl) fs_J0_38 ?_
  refine ev_if_eq (tgt := 17) (ea_at dt_J0_isLatin1_aae02 1 rfl) rfl (fun _ => ?_) (fun _ => ?_)
  · refine ev_iconst (ea_at dt_J0_isLatin1_aae02 7 rfl) ic_0 ?_
    exact ev_zret (by decide) (ea_at dt_J0_isLatin1_aae02 8 rfl) rfl ⟨by decide, by decide⟩ (fun h => hR _ h)
  · refine ev_aload_n (ea_at dt_J0_isLatin1_aae02 2 rfl) rfl ?_
    refine ev_scod (ea_at dt_J0_isLatin1_aae02 3 rfl) fs_J0_15 hj ?_
    refine ev_if_ne (tgt := 17) (ea_at dt_J0_isLatin1_aae02 4 rfl) rfl (fun _ => ?_) (fun _ => ?_)
    · refine ev_iconst (ea_at dt_J0_isLatin1_aae02 5 rfl) ic_1 ?_
      refine ev_goto (tgt := 18) (ea_at dt_J0_isLatin1_aae02 6 rfl) rfl ?_
      exact ev_zret (by decide) (ea_at dt_J0_isLatin1_aae02 8 rfl) rfl ⟨by decide, by decide⟩ (fun h => hR _ h)
    · refine ev_iconst (ea_at dt_J0_isLatin1_aae02 7 rfl) ic_0 ?_
      exact ev_zret (by decide) (ea_at dt_J0_isLatin1_aae02 8 rfl) rfl ⟨by decide, by decide⟩ (fun h => hR _ h)
def F_J3_checkIndex_8e157 : ea_F := (ea_rm 8 0 0, cJ3_checkIndex_8e157, RJ3, some .int, 3, [], 0, 0)
def D_J3_checkIndex_8e157 : List (Nat × Instr × Nat) := [(0, .iload_n 0, 1), (1, .ifCond .lt 8, 3), (4, .iload_n 0, 1), (5, .iload_n 1, 1), (6, .if_icmp .lt 10, 3), (9, .aload_n 2, 1), (10, .iload_n 0, 1), (11, .iload_n 1, 1), (12, .invokestatic 95, 3), (15, .athrow, 1), (16, .iload_n 0, 1), (17, .ireturn, 1)]
theorem dt_J3_checkIndex_8e157 : ∀ q ∈ D_J3_checkIndex_8e157, decode cJ3_checkIndex_8e157 q.1 = .ok q.2 := by decide +kernel
theorem mv_J3_checkIndex_8e157 : ea_MS yJ3_checkIndex_8e157 F_J3_checkIndex_8e157 3 := ⟨⟨List.mem_append_right _ (List.mem_of_getElem? (i := 18) (by decide +kernel)), List.mem_append_right _ (List.mem_of_getElem? (i := 702) (by decide +kernel)), ⟨by decide, by decide⟩, by decide +kernel⟩, List.mem_append_right _ (List.mem_of_getElem? (i := 701) (by decide +kernel))⟩
def f_J3_checkIndex_8e157 (p1 : Int32) (p2 : Int32) (m : ea_M) : Option (Int32 × ea_M) :=
  if p1 < 0 then
  none
  else
  if p1 < p2 then
  some (p1, m)
  else
  none
set_option maxHeartbeats 300000 in
theorem ok_J3_checkIndex_8e157 (G : ea_G) (p1 : Int32) (p2 : Int32) (m : ea_M)  (rZ : Int32) (mZ : ea_M) (hZ : f_J3_checkIndex_8e157 p1 p2 m = some (rZ, mZ)) : ea_Met G yJ3_checkIndex_8e157 F_J3_checkIndex_8e157 [.int p1, .int p2, ea_fm G] m (0, rZ, mZ) := by
  refine ea_met (F := F_J3_checkIndex_8e157) (by decide +kernel) rfl rfl (Nat.le_of_ble_eq_true rfl) (by simp only [List.mem_cons, List.not_mem_nil, or_false]; intro v hv; rcases hv with rfl | rfl | rfl <;> first | rfl | exact ea_fm_cat G) ((?_ : ea_E G F_J3_checkIndex_8e157 (0, rZ, mZ) 0 [some (.int p1), some (.int p2), some (ea_fm G)] [] m 0 0 (f_J3_checkIndex_8e157 p1 p2 m) (fun t => t = (rZ, mZ))) (rZ, mZ) hZ rfl)
  have hR : ∀ t : Int32 × ea_M, t = (rZ, mZ) → ((0, rZ, mZ) : ea_O) = (0, t) := fun t h => by rw [h]
  unfold f_J3_checkIndex_8e157
  refine ev_iload_n (ea_at dt_J3_checkIndex_8e157 0 rfl) rfl ?_
  refine ev_if_lt (tgt := 9) (ea_at dt_J3_checkIndex_8e157 1 rfl) rfl (fun _ => ?_) (fun _ => ?_)
  · exact ev_none
  · refine ev_iload_n (ea_at dt_J3_checkIndex_8e157 2 rfl) rfl ?_
    refine ev_iload_n (ea_at dt_J3_checkIndex_8e157 3 rfl) rfl ?_
    refine ev_icmp_lt (tgt := 16) (ea_at dt_J3_checkIndex_8e157 4 rfl) rfl (fun _ => ?_) (fun _ => ?_)
    · refine ev_iload_n (ea_at dt_J3_checkIndex_8e157 10 rfl) rfl ?_
      exact ev_iret (ea_at dt_J3_checkIndex_8e157 11 rfl) rfl ⟨by decide, by decide⟩ (fun h => hR _ h)
    · exact ev_none
def F_J0_checkIndex_df160 : ea_F := (ea_rm 9 0 0, cJ0_checkIndex_df160, RJ0, none, 2, [], 0, 0)
def D_J0_checkIndex_df160 : List (Nat × Instr × Nat) := [(0, .iload_n 0, 1), (1, .iload_n 1, 1), (2, .getstatic 1053, 3), (5, .invokestatic 1059, 3), (8, .pop, 1), (9, .return_, 1)]
theorem dt_J0_checkIndex_df160 : ∀ q ∈ D_J0_checkIndex_df160, decode cJ0_checkIndex_df160 q.1 = .ok q.2 := by decide +kernel
theorem mv_J0_checkIndex_df160 : ea_MS yJ0_checkIndex_df160 F_J0_checkIndex_df160 2 := ⟨⟨List.mem_append_right _ (List.mem_of_getElem? (i := 16) (by decide +kernel)), List.mem_append_right _ (List.mem_of_getElem? (i := 697) (by decide +kernel)), ⟨by decide, by decide⟩, by decide +kernel⟩, List.mem_append_right _ (List.mem_of_getElem? (i := 696) (by decide +kernel))⟩
def f_J0_checkIndex_df160 (p1 : Int32) (p2 : Int32) (m : ea_M) : Option (Int32 × ea_M) :=
  ea_cl (f_J3_checkIndex_8e157 p1 p2 m) fun r2 m1 =>
  some (0, m1)
set_option maxHeartbeats 300000 in
theorem ok_J0_checkIndex_df160 (G : ea_G) (p1 : Int32) (p2 : Int32) (m : ea_M)  (rZ : Int32) (mZ : ea_M) (hZ : f_J0_checkIndex_df160 p1 p2 m = some (rZ, mZ)) : ea_Met G yJ0_checkIndex_df160 F_J0_checkIndex_df160 [.int p1, .int p2] m (0, rZ, mZ) := by
  refine ea_met (F := F_J0_checkIndex_df160) (by decide +kernel) rfl rfl (Nat.le_of_ble_eq_true rfl) (by simp only [List.mem_cons, List.not_mem_nil, or_false]; intro v hv; rcases hv with rfl | rfl <;> first | rfl | exact ea_fm_cat G) ((?_ : ea_E G F_J0_checkIndex_df160 (0, rZ, mZ) 0 [some (.int p1), some (.int p2)] [] m 0 0 (f_J0_checkIndex_df160 p1 p2 m) (fun t => t = (rZ, mZ))) (rZ, mZ) hZ rfl)
  have hR : ∀ t : Int32 × ea_M, t = (rZ, mZ) → ((0, rZ, mZ) : ea_O) = (0, t) := fun t h => by rw [h]
  unfold f_J0_checkIndex_df160
  refine ev_iload_n (ea_at dt_J0_checkIndex_df160 0 rfl) rfl ?_
  refine ev_iload_n (ea_at dt_J0_checkIndex_df160 1 rfl) rfl ?_
  refine ev_sfm (ea_at dt_J0_checkIndex_df160 2 rfl) fs_J0_1053 ?_
  refine ev_clI (F1 := F_J3_checkIndex_8e157) (fun rY mY hY => ea_runS (As := [.int p1, .int p2, ea_fm G]) (ea_at dt_J0_checkIndex_df160 3 rfl) ml_J0_1059 mv_J3_checkIndex_8e157 (ok_J3_checkIndex_8e157 G p1 p2 m  rY mY hY) rfl rfl (Nat.le_of_ble_eq_true rfl) rfl) rfl (fun r2 m1 => ?_)
  refine ev_pop (ea_at dt_J0_checkIndex_df160 4 rfl) rfl ?_
  exact ev_vret (ea_at dt_J0_checkIndex_df160 5 rfl) rfl ⟨by decide, by decide⟩ (fun h => ⟨0, hR _ h⟩)
def F_J1_charAt_3b067 : ea_F := (ea_rm 10 0 0, cJ1_charAt_3b067, RJ1, some .char, 2, [], 0, 0)
def D_J1_charAt_3b067 : List (Nat × Instr × Nat) := [(0, .iload_n 1, 1), (1, .aload_n 0, 1), (2, .arraylength, 1), (3, .invokestatic 9, 3), (6, .aload_n 0, 1), (7, .iload_n 1, 1), (8, .baload, 1), (9, .sipush 255, 3), (12, .iand, 1), (13, .i2c, 1), (14, .ireturn, 1)]
theorem dt_J1_charAt_3b067 : ∀ q ∈ D_J1_charAt_3b067, decode cJ1_charAt_3b067 q.1 = .ok q.2 := by decide +kernel
theorem mv_J1_charAt_3b067 : ea_MS yJ1_charAt_3b067 F_J1_charAt_3b067 2 := ⟨⟨List.mem_append_right _ (List.mem_of_getElem? (i := 17) (by decide +kernel)), List.mem_append_right _ (List.mem_of_getElem? (i := 694) (by decide +kernel)), ⟨by decide, by decide⟩, by decide +kernel⟩, List.mem_append_right _ (List.mem_of_getElem? (i := 693) (by decide +kernel))⟩
def f_J1_charAt_3b067 (j : Nat) (p2 : Int32) (m : ea_M) : Option (Int32 × ea_M) :=
  ea_cl (f_J0_checkIndex_df160 p2 (nI (ea_tl j)) m) fun r2 m1 =>
  ea_g p2 (ea_tl j) (ea_bd (ea_tc j (Int32.toNatClampNeg p2)) fun x3 =>
  ea_bd ((Int32.toUInt32 (x3 &&& 255) % 65536).toInt32) fun x4 =>
  ea_gc x4 (some (x4, m1)))
set_option maxHeartbeats 300000 in
theorem ok_J1_charAt_3b067 (G : ea_G) (j : Nat) (p2 : Int32) (m : ea_M) (hj : j < ea_str.length) (rZ : Int32) (mZ : ea_M) (hZ : f_J1_charAt_3b067 j p2 m = some (rZ, mZ)) : ea_Met G yJ1_charAt_3b067 F_J1_charAt_3b067 [.ref (3000 + j), .int p2] m (0, rZ, mZ) := by
  refine ea_met (F := F_J1_charAt_3b067) (by decide +kernel) rfl rfl (Nat.le_of_ble_eq_true rfl) (by simp only [List.mem_cons, List.not_mem_nil, or_false]; intro v hv; rcases hv with rfl | rfl <;> first | rfl | exact ea_fm_cat G) ((?_ : ea_E G F_J1_charAt_3b067 (0, rZ, mZ) 0 [some (.ref (3000 + j)), some (.int p2)] [] m 0 0 (f_J1_charAt_3b067 j p2 m) (fun t => t = (rZ, mZ))) (rZ, mZ) hZ rfl)
  have hR : ∀ t : Int32 × ea_M, t = (rZ, mZ) → ((0, rZ, mZ) : ea_O) = (0, t) := fun t h => by rw [h]
  unfold f_J1_charAt_3b067
  refine ev_iload_n (ea_at dt_J1_charAt_3b067 0 rfl) rfl ?_
  refine ev_aload_n (ea_at dt_J1_charAt_3b067 1 rfl) rfl ?_
  refine ev_salen (ea_at dt_J1_charAt_3b067 2 rfl) hj ?_
  refine ev_clU (F1 := F_J0_checkIndex_df160) (fun rY mY hY => ea_runS (As := [.int p2, .int (nI (ea_tl j))]) (ea_at dt_J1_charAt_3b067 3 rfl) ml_J1_9 mv_J0_checkIndex_df160 (ok_J0_checkIndex_df160 G p2 (nI (ea_tl j)) m  rY mY hY) rfl rfl (Nat.le_of_ble_eq_true rfl) rfl) rfl (fun r2 m1 => ?_)
  refine ev_aload_n (ea_at dt_J1_charAt_3b067 4 rfl) rfl ?_
  refine ev_iload_n (ea_at dt_J1_charAt_3b067 5 rfl) rfl ?_
  refine ev_sbal (ea_at dt_J1_charAt_3b067 6 rfl) hj ?_
  refine ev_i (fun x3 => ?_)
  refine ev_sipush (ea_at dt_J1_charAt_3b067 7 rfl) sp_255 ?_
  refine ev_iand (ea_at dt_J1_charAt_3b067 8 rfl) ?_
  refine ev_i2c (ea_at dt_J1_charAt_3b067 9 rfl) ?_
  refine ev_i (fun x4 => ?_)
  exact ev_cretG (ea_at dt_J1_charAt_3b067 10 rfl) rfl ⟨by decide, by decide⟩ (fun h => hR _ h)
def F_J0_charAt_5068e : ea_F := (ea_rm 12 0 0, cJ0_charAt_5068e, RJ0, some .char, 2, [], 0, 0)
def D_J0_charAt_5068e : List (Nat × Instr × Nat) := [(0, .aload_n 0, 1), (1, .invokevirtual 492, 3), (4, .ifCond .eq 12, 3), (7, .aload_n 0, 1), (8, .getfield 9, 3), (11, .iload_n 1, 1), (12, .invokestatic 495, 3), (15, .ireturn, 1), (16, .aload_n 0, 1), (17, .getfield 9, 3), (20, .iload_n 1, 1), (21, .invokestatic 498, 3), (24, .ireturn, 1)]
theorem dt_J0_charAt_5068e : ∀ q ∈ D_J0_charAt_5068e, decode cJ0_charAt_5068e q.1 = .ok q.2 := by decide +kernel
theorem mv_J0_charAt_5068e : ea_MV yJ0_charAt_5068e F_J0_charAt_5068e 1 := ⟨⟨List.mem_append_right _ (List.mem_of_getElem? (i := 16) (by decide +kernel)), List.mem_append_right _ (List.mem_of_getElem? (i := 687) (by decide +kernel)), ⟨by decide, by decide⟩, by decide +kernel⟩, List.mem_append_right _ (List.mem_of_getElem? (i := 685) (by decide +kernel)), List.mem_append_right _ (List.mem_of_getElem? (i := 686) (by decide +kernel))⟩
def f_J0_charAt_5068e (j : Nat) (p1 : Int32) (m : ea_M) : Option (Int32 × ea_M) :=
  ea_cl (f_J0_isLatin1_aae02 j m) fun r2 m1 =>
  if r2 = 0 then
  none
  else
  ea_cl (f_J1_charAt_3b067 j p1 m1) fun r4 m3 =>
  ea_gc r4 (some (r4, m3))
set_option maxHeartbeats 300000 in
theorem ok_J0_charAt_5068e (G : ea_G) (j : Nat) (p1 : Int32) (m : ea_M) (hj : j < ea_str.length) (rZ : Int32) (mZ : ea_M) (hZ : f_J0_charAt_5068e j p1 m = some (rZ, mZ)) : ea_Met G yJ0_charAt_5068e F_J0_charAt_5068e [.ref (1000 + j), .int p1] m (0, rZ, mZ) := by
  refine ea_met (F := F_J0_charAt_5068e) (by decide +kernel) rfl rfl (Nat.le_of_ble_eq_true rfl) (by simp only [List.mem_cons, List.not_mem_nil, or_false]; intro v hv; rcases hv with rfl | rfl <;> first | rfl | exact ea_fm_cat G) ((?_ : ea_E G F_J0_charAt_5068e (0, rZ, mZ) 0 [some (.ref (1000 + j)), some (.int p1)] [] m 0 0 (f_J0_charAt_5068e j p1 m) (fun t => t = (rZ, mZ))) (rZ, mZ) hZ rfl)
  have hR : ∀ t : Int32 × ea_M, t = (rZ, mZ) → ((0, rZ, mZ) : ea_O) = (0, t) := fun t h => by rw [h]
  unfold f_J0_charAt_5068e
  refine ev_aload_n (ea_at dt_J0_charAt_5068e 0 rfl) rfl ?_
  refine ev_clI (F1 := F_J0_isLatin1_aae02) (fun rY mY hY => ea_runVS (As := []) (ea_at dt_J0_charAt_5068e 1 rfl) ml_J0_492 mv_J0_isLatin1_aae02 (ok_J0_isLatin1_aae02 G j m hj rY mY hY) hj rfl rfl (Nat.le_of_ble_eq_true rfl) rfl) rfl (fun r2 m1 => ?_)
  refine ev_if_eq (tgt := 16) (ea_at dt_J0_charAt_5068e 2 rfl) rfl (fun _ => ?_) (fun _ => ?_)
  · exact ev_none
  · refine ev_aload_n (ea_at dt_J0_charAt_5068e 3 rfl) rfl ?_
    refine ev_sval (ea_at dt_J0_charAt_5068e 4 rfl) fs_J0_9 hj ?_
    refine ev_iload_n (ea_at dt_J0_charAt_5068e 5 rfl) rfl ?_
    refine ev_clI (F1 := F_J1_charAt_3b067) (fun rY mY hY => ea_runS (As := [.ref (3000 + j), .int p1]) (ea_at dt_J0_charAt_5068e 6 rfl) ml_J0_495 mv_J1_charAt_3b067 (ok_J1_charAt_3b067 G j p1 m1 hj rY mY hY) rfl rfl (Nat.le_of_ble_eq_true rfl) rfl) rfl (fun r4 m3 => ?_)
    exact ev_cretG (ea_at dt_J0_charAt_5068e 7 rfl) rfl ⟨by decide, by decide⟩ (fun h => hR _ h)
theorem ea_tl_small : ∀ q ∈ ea_str, q.2.2.length < 100 ∧ ∀ c ∈ q.2.2.toList, c.toNat < 128 := by decide +kernel
theorem ea_tl_lt {j : Nat} (hj : j < ea_str.length) : ea_tl j < 100 := by
  unfold ea_tl
  rw [List.getD_eq_getElem?_getD, List.getElem?_eq_getElem hj]
  exact (ea_tl_small _ (List.getElem_mem hj)).1
theorem ea_tc_of {j : Nat} (hj : j < ea_str.length) (i : Nat) : ∃ c : Nat, c < 128 ∧ ea_tc j i = nI c := by
  unfold ea_tc
  have e1 : ea_str.getD j ("", 0, "") = ea_str[j] := by rw [List.getD_eq_getElem?_getD, List.getElem?_eq_getElem hj]; rfl
  rw [e1]
  refine ⟨_, ?_, rfl⟩
  rw [List.getD_eq_getElem?_getD]
  cases hc : (ea_str[j]).2.2.toList[i]? with
  | none => exact (by decide : (' ' : Char).toNat < 128)
  | some c => exact (ea_tl_small _ (List.getElem_mem hj)).2 c (List.mem_of_getElem? hc)
theorem ea_coder_eq (j : Nat) (m : ea_M) : f_J0_coder_7d493 j m = some (0, m) := if_neg (by decide)
theorem ea_latin_eq (j : Nat) (m : ea_M) : f_J0_isLatin1_aae02 j m = some (1, m) := by
  unfold f_J0_isLatin1_aae02
  rw [if_neg (by decide), if_pos rfl]
theorem ea_len_eq (j : Nat) (m : ea_M) : f_J0_length_8abf5 j m = ea_slen j m := by
  unfold f_J0_length_8abf5 ea_cl
  rw [ea_coder_eq]
  show some (nI (ea_tl j) >>> ((0 : Int32) &&& 31), m) = _
  rw [sb_shr0]
  rfl
theorem ok_ea_slen (G : ea_G) (j : Nat) (m : ea_M) (hj : j < ea_str.length) (r : Int32) (m1 : ea_M) (h : ea_slen j m = some (r, m1)) : ea_Met G yJ0_length_8abf5 F_J0_length_8abf5 [.ref (1000 + j)] m (0, r, m1) :=
  ok_J0_length_8abf5 G j m hj r m1 (by rw [ea_len_eq]; exact h)
theorem ea_g_in {β : Type} {i : Int32} {nn : Nat} {x : Option β} (h : vp_in i nn) : ea_g i nn x = x := by
  unfold ea_g; rw [if_neg h]
theorem ea_latchr_eq {j n : Nat} (hj : j < ea_str.length) (hn : n < ea_tl j) (m : ea_M) : f_J1_charAt_3b067 j (nI n) m = some (ea_tc j n, m) := by
  have hl := ea_tl_lt hj
  unfold f_J1_charAt_3b067 f_J0_checkIndex_df160 f_J3_checkIndex_8e157
  rw [if_neg (nI_pos (by omega)), if_pos (nI_lt hn (by omega))]
  show ea_g (nI n) (ea_tl j) _ = _
  rw [ea_g_in (vp_in_nI hn (by omega)), nI_clamp (by omega)]
  obtain ⟨c, hc, e⟩ := ea_tc_of hj n
  rw [e]
  show ea_gc ((nI c &&& 255).toUInt32 % 65536).toInt32 _ = _
  rw [pk_andN (by omega) 8 (by decide), Nat.mod_eq_of_lt (by omega)]
  rw [pk_char, pk_tn (by omega), Nat.mod_eq_of_lt (by omega)]
  unfold ea_gc
  rw [if_pos ⟨nI_pos' (by omega), (nI_leI (b := 65535) (by omega) (by decide)).mpr (by omega)⟩]
theorem ea_chr_eq {j n : Nat} (hj : j < ea_str.length) (hn : n < ea_tl j) (m : ea_M) : f_J0_charAt_5068e j (nI n) m = some (ea_tc j n, m) := by
  unfold f_J0_charAt_5068e ea_cl
  rw [ea_latin_eq]
  show (if (1 : Int32) = 0 then none else _) = _
  rw [if_neg (by decide), ea_latchr_eq hj hn]
  obtain ⟨c, hc, e⟩ := ea_tc_of hj n
  rw [e]
  show ea_gc (nI c) _ = _
  unfold ea_gc
  rw [if_pos ⟨nI_pos' (by omega), (nI_leI (b := 65535) (by omega) (by decide)).mpr (by omega)⟩]
theorem ok_ea_schr (G : ea_G) (j : Nat) (i : Int32) (m : ea_M) (hj : j < ea_str.length) (r : Int32) (m1 : ea_M) (h : ea_schr j i m = some (r, m1)) : ea_Met G yJ0_charAt_5068e F_J0_charAt_5068e [.ref (1000 + j), .int i] m (0, r, m1) := by
  obtain ⟨h1, h2⟩ := ea_g_some h
  obtain ⟨n, hn, rfl⟩ := vp_in_of h1 (by have := ea_tl_lt hj; unfold ea_tl at this; omega)
  rw [nI_clamp (by have := ea_tl_lt hj; unfold ea_tl at this; omega)] at h2
  refine ok_J0_charAt_5068e G j (nI n) m hj r m1 ?_
  rw [ea_chr_eq hj hn]
  exact h2

