section JOINS
variable {G : ea_G} {i : Nat} {m : ea_M} {I : ea_M → Prop}
/-- both sides, one behind the other: the reference's thrown is the class's kind, and the answers are alike -/
def eb_P (I : ea_M → Prop) (x : Option (Int32 × ea_M)) (f : ea_M → Option (Int32 × ea_M)) : Prop := eb_W x (fun z => eb_W (f z.2) (fun y => y.2 272 0 = z.1 ∧ (z.1 = 0 → y.2 287 0 = y.1) ∧ I y.2))
def eb_P2 (I : ea_M → Prop) (x : Option (Int32 × ea_M)) (f : ea_M → Option (Int32 × ea_M)) : Prop := eb_W x (fun z => eb_W (f z.2) (fun y => z.1 = y.1 ∧ I y.2))
def eb_bo (x : Int32) : Prop := x = 0 ∨ x = 1
theorem eb_bo0 : eb_bo 0 := Or.inl rfl
theorem eb_bo1 : eb_bo 1 := Or.inr rfl
theorem eb_cmp (x : Int64) : lg_cmp x x = 0 := by
  unfold lg_cmp
  rw [if_neg (by rw [gt_iff_lt, Int64.lt_iff_toInt_lt]; omega), if_pos rfl]
theorem eb_tail {k v : Int32} {m2 : ea_M} {J : ea_M → Option ((Int32 × ea_M) ⊕ ((Int32 × ea_M) ⊕ ea_M))} (hL : ea_L G ≤ 3072) (hi : i + 6 ≤ ea_L G) (hJ : ∀ m, J m = f_L_law__j2845 G (nI i) m) (h1 : m2 272 0 = k) (h2 : k = 0 → m2 287 0 = v) (hI : I m2) :
    eb_W (ea_cl (f_X12_thrown m2) fun r m4 => if r = k then if k = 0 then if (lg_cmp ((m4 287 0).toInt64) v.toInt64) = 0 then J m4 else some (.inr (.inl (0, m4))) else J m4 else some (.inr (.inl (0, m4)))) (eb_go I i) := by
  show eb_W (if m2 272 0 = k then if k = 0 then if (lg_cmp ((m2 287 0).toInt64) v.toInt64) = 0 then J m2 else some (.inr (.inl (0, m2))) else J m2 else some (.inr (.inl (0, m2)))) (eb_go I i)
  refine eb_if h1 (eb_ite (fun hk => eb_if ?_ ?_) fun _ => ?_)
  · rw [h2 hk]
    exact eb_cmp _
  · rw [hJ]
    exact eb_next hL hi hI
  · rw [hJ]
    exact eb_next hL hi hI
theorem eb_jn_court (hL : ea_L G ≤ 3072) (hi : i + 6 ≤ ea_L G) (hP : eb_P I (f_L_court m) (f_X12_court)) : eb_W (f_L_law__j330 G (nI i) m) (eb_go I i) := by
  unfold f_L_law__j330
  refine eb_cl hP fun r1 m1 h1 => ?_
  refine eb_cl h1 fun r2 m2 h2 => ?_
  exact eb_tail hL hi (fun _ => rfl) h2.1 h2.2.1 h2.2.2
theorem eb_jn_law (hL : ea_L G ≤ 3072) (hi : i + 6 ≤ ea_L G) (hP : eb_P I (f_L_law m) (f_X12_law)) : eb_W (f_L_law__j374 G (nI i) m) (eb_go I i) := by
  unfold f_L_law__j374
  refine eb_cl hP fun r1 m1 h1 => ?_
  refine eb_cl h1 fun r2 m2 h2 => ?_
  exact eb_tail hL hi (fun _ => rfl) h2.1 h2.2.1 h2.2.2
theorem eb_jn_bird (hL : ea_L G ≤ 3072) (hi : i + 6 ≤ ea_L G) (hP : ∀ p1 p2 : Int32, eb_P I (f_L_bird p1 p2 m) (f_X12_bird p1 p2)) : eb_W (f_L_law__j431 G (nI i) m) (eb_go I i) := by
  unfold f_L_law__j431
  refine eb_wd hL 1 (by omega) rfl ?_
  refine eb_wd hL 2 (by omega) rfl ?_
  refine eb_cl (hP (ea_xs G (i + 1)) (ea_xs G (i + 2))) fun r1 m1 h1 => ?_
  refine eb_wd hL 1 (by omega) rfl ?_
  refine eb_wd hL 2 (by omega) rfl ?_
  refine eb_cl h1 fun r2 m2 h2 => ?_
  exact eb_tail hL hi (fun _ => rfl) h2.1 h2.2.1 h2.2.2
theorem eb_jn_stock (hL : ea_L G ≤ 3072) (hi : i + 6 ≤ ea_L G) (hP : ∀ p1 p2 : Int32, eb_P I (f_L_stock p1 p2 m) (f_X12_stock p1 p2)) : eb_W (f_L_law__j499 G (nI i) m) (eb_go I i) := by
  unfold f_L_law__j499
  refine eb_wd hL 1 (by omega) rfl ?_
  refine eb_wd hL 2 (by omega) rfl ?_
  refine eb_cl (hP (ea_xs G (i + 1)) (ea_xs G (i + 2))) fun r1 m1 h1 => ?_
  refine eb_wd hL 1 (by omega) rfl ?_
  refine eb_wd hL 2 (by omega) rfl ?_
  refine eb_cl h1 fun r2 m2 h2 => ?_
  exact eb_tail hL hi (fun _ => rfl) h2.1 h2.2.1 h2.2.2
theorem eb_jn_matter (hL : ea_L G ≤ 3072) (hi : i + 6 ≤ ea_L G) (hP : ∀ p1 p2 : Int32, eb_P I (f_L_matter p1 p2 m) (f_X12_matter p1 p2)) : eb_W (f_L_law__j567 G (nI i) m) (eb_go I i) := by
  unfold f_L_law__j567
  refine eb_wd hL 1 (by omega) rfl ?_
  refine eb_wd hL 2 (by omega) rfl ?_
  refine eb_cl (hP (ea_xs G (i + 1)) (ea_xs G (i + 2))) fun r1 m1 h1 => ?_
  refine eb_wd hL 1 (by omega) rfl ?_
  refine eb_wd hL 2 (by omega) rfl ?_
  refine eb_cl h1 fun r2 m2 h2 => ?_
  exact eb_tail hL hi (fun _ => rfl) h2.1 h2.2.1 h2.2.2
theorem eb_jn_wind (hL : ea_L G ≤ 3072) (hi : i + 6 ≤ ea_L G) (hP : ∀ p1 : Int32, eb_P I (f_L_wind p1 m) (f_X12_wind p1)) : eb_W (f_L_law__j635 G (nI i) m) (eb_go I i) := by
  unfold f_L_law__j635
  refine eb_wd hL 1 (by omega) rfl ?_
  refine eb_cl (hP (ea_xs G (i + 1))) fun r1 m1 h1 => ?_
  refine eb_wd hL 1 (by omega) rfl ?_
  refine eb_cl h1 fun r2 m2 h2 => ?_
  exact eb_tail hL hi (fun _ => rfl) h2.1 h2.2.1 h2.2.2
theorem eb_jn_moves (hL : ea_L G ≤ 3072) (hi : i + 6 ≤ ea_L G) (hP : ∀ p1 p2 p3 p4 p5 : Int32, eb_bo p5 → eb_P I (f_L_moves p1 p2 p3 p4 p5 m) (f_X12_moves p1 p2 p3 p4 p5)) : eb_W (f_L_law__j691 G (nI i) m) (eb_go I i) := by
  unfold f_L_law__j691
  refine eb_wd hL 1 (by omega) rfl ?_
  refine eb_wd hL 2 (by omega) rfl ?_
  refine eb_wd hL 3 (by omega) rfl ?_
  refine eb_wd hL 4 (by omega) rfl ?_
  refine eb_wd hL 5 (by omega) rfl ?_
  refine eb_ite (fun e1 => ?_) fun e1 => ?_
  · unfold f_L_law__j730
    refine eb_cl (hP (ea_xs G (i + 1)) (ea_xs G (i + 2)) (ea_xs G (i + 3)) (ea_xs G (i + 4)) 0 eb_bo0) fun r1 m1 h1 => ?_
    refine eb_wd hL 1 (by omega) rfl ?_
    refine eb_wd hL 2 (by omega) rfl ?_
    refine eb_wd hL 3 (by omega) rfl ?_
    refine eb_wd hL 4 (by omega) rfl ?_
    refine eb_wd hL 5 (by omega) rfl ?_
    refine eb_ite (fun e2 => ?_) fun e2 => ?_
    · unfold f_L_law__j775
      refine eb_cl h1 fun r2 m2 h2 => ?_
      exact eb_tail hL hi (fun _ => rfl) h2.1 h2.2.1 h2.2.2
    · exact absurd e1 e2
  · unfold f_L_law__j730
    refine eb_cl (hP (ea_xs G (i + 1)) (ea_xs G (i + 2)) (ea_xs G (i + 3)) (ea_xs G (i + 4)) 1 eb_bo1) fun r1 m1 h1 => ?_
    refine eb_wd hL 1 (by omega) rfl ?_
    refine eb_wd hL 2 (by omega) rfl ?_
    refine eb_wd hL 3 (by omega) rfl ?_
    refine eb_wd hL 4 (by omega) rfl ?_
    refine eb_wd hL 5 (by omega) rfl ?_
    refine eb_ite (fun e2 => ?_) fun e2 => ?_
    · exact absurd e2 e1
    · unfold f_L_law__j775
      refine eb_cl h1 fun r2 m2 h2 => ?_
      exact eb_tail hL hi (fun _ => rfl) h2.1 h2.2.1 h2.2.2
theorem eb_jn_call (hL : ea_L G ≤ 3072) (hi : i + 6 ≤ ea_L G) (hP : ∀ p1 p2 p3 : Int32, eb_P I (f_L_call p1 p2 p3 m) (f_X12_call p1 p2 p3)) : eb_W (f_L_law__j811 G (nI i) m) (eb_go I i) := by
  unfold f_L_law__j811
  refine eb_wd hL 1 (by omega) rfl ?_
  refine eb_wd hL 2 (by omega) rfl ?_
  refine eb_wd hL 3 (by omega) rfl ?_
  refine eb_cl (hP (ea_xs G (i + 1)) (ea_xs G (i + 2)) (ea_xs G (i + 3))) fun r1 m1 h1 => ?_
  refine eb_wd hL 1 (by omega) rfl ?_
  refine eb_wd hL 2 (by omega) rfl ?_
  refine eb_wd hL 3 (by omega) rfl ?_
  refine eb_cl h1 fun r2 m2 h2 => ?_
  exact eb_tail hL hi (fun _ => rfl) h2.1 h2.2.1 h2.2.2
theorem eb_jn_hour (hL : ea_L G ≤ 3072) (hi : i + 6 ≤ ea_L G) (hP : ∀ p1 : Int32, eb_P I (f_L_hour p1 m) (f_X12_hour p1)) : eb_W (f_L_law__j891 G (nI i) m) (eb_go I i) := by
  unfold f_L_law__j891
  refine eb_wd hL 1 (by omega) rfl ?_
  refine eb_cl (hP (ea_xs G (i + 1))) fun r1 m1 h1 => ?_
  refine eb_wd hL 1 (by omega) rfl ?_
  refine eb_cl h1 fun r2 m2 h2 => ?_
  exact eb_tail hL hi (fun _ => rfl) h2.1 h2.2.1 h2.2.2
theorem eb_jn_blow (hL : ea_L G ≤ 3072) (hi : i + 6 ≤ ea_L G) (hP : ∀ p1 p2 : Int32, eb_P I (f_L_blow p1 p2 m) (f_X12_blow p1 p2)) : eb_W (f_L_law__j947 G (nI i) m) (eb_go I i) := by
  unfold f_L_law__j947
  refine eb_wd hL 1 (by omega) rfl ?_
  refine eb_wd hL 2 (by omega) rfl ?_
  refine eb_cl (hP (ea_xs G (i + 1)) (ea_xs G (i + 2))) fun r1 m1 h1 => ?_
  refine eb_wd hL 1 (by omega) rfl ?_
  refine eb_wd hL 2 (by omega) rfl ?_
  refine eb_cl h1 fun r2 m2 h2 => ?_
  exact eb_tail hL hi (fun _ => rfl) h2.1 h2.2.1 h2.2.2
theorem eb_jn_give (hL : ea_L G ≤ 3072) (hi : i + 6 ≤ ea_L G) (hP : ∀ p1 p2 p3 p4 : Int32, eb_P I (f_L_give p1 p2 p3 p4 m) (f_X12_give p1 p2 p3 p4)) : eb_W (f_L_law__j1015 G (nI i) m) (eb_go I i) := by
  unfold f_L_law__j1015
  refine eb_wd hL 1 (by omega) rfl ?_
  refine eb_wd hL 2 (by omega) rfl ?_
  refine eb_wd hL 3 (by omega) rfl ?_
  refine eb_wd hL 4 (by omega) rfl ?_
  refine eb_cl (hP (ea_xs G (i + 1)) (ea_xs G (i + 2)) (ea_xs G (i + 3)) (ea_xs G (i + 4))) fun r1 m1 h1 => ?_
  refine eb_wd hL 1 (by omega) rfl ?_
  refine eb_wd hL 2 (by omega) rfl ?_
  refine eb_wd hL 3 (by omega) rfl ?_
  refine eb_wd hL 4 (by omega) rfl ?_
  refine eb_cl h1 fun r2 m2 h2 => ?_
  exact eb_tail hL hi (fun _ => rfl) h2.1 h2.2.1 h2.2.2
theorem eb_jn_appeal (hL : ea_L G ≤ 3072) (hi : i + 6 ≤ ea_L G) (hP : ∀ p1 : Int32, eb_P I (f_L_appeal p1 m) (f_X12_appeal p1)) : eb_W (f_L_law__j1107 G (nI i) m) (eb_go I i) := by
  unfold f_L_law__j1107
  refine eb_wd hL 1 (by omega) rfl ?_
  refine eb_cl (hP (ea_xs G (i + 1))) fun r1 m1 h1 => ?_
  refine eb_wd hL 1 (by omega) rfl ?_
  refine eb_cl h1 fun r2 m2 h2 => ?_
  exact eb_tail hL hi (fun _ => rfl) h2.1 h2.2.1 h2.2.2
theorem eb_jn_weeks (hL : ea_L G ≤ 3072) (hi : i + 6 ≤ ea_L G) (hP : ∀ p1 : Int32, eb_P I (f_L_weeks p1 m) (f_X12_weeks p1)) : eb_W (f_L_law__j1163 G (nI i) m) (eb_go I i) := by
  unfold f_L_law__j1163
  refine eb_wd hL 1 (by omega) rfl ?_
  refine eb_cl (hP (ea_xs G (i + 1))) fun r1 m1 h1 => ?_
  refine eb_wd hL 1 (by omega) rfl ?_
  refine eb_cl h1 fun r2 m2 h2 => ?_
  exact eb_tail hL hi (fun _ => rfl) h2.1 h2.2.1 h2.2.2
theorem eb_jn_ways (hL : ea_L G ≤ 3072) (hi : i + 6 ≤ ea_L G) (hP : ∀ p1 p2 : Int32, eb_P I (f_L_ways p1 p2 m) (f_X12_ways p1 p2)) : eb_W (f_L_law__j1219 G (nI i) m) (eb_go I i) := by
  unfold f_L_law__j1219
  refine eb_wd hL 1 (by omega) rfl ?_
  refine eb_wd hL 2 (by omega) rfl ?_
  refine eb_cl (hP (ea_xs G (i + 1)) (ea_xs G (i + 2))) fun r1 m1 h1 => ?_
  refine eb_wd hL 1 (by omega) rfl ?_
  refine eb_wd hL 2 (by omega) rfl ?_
  refine eb_cl h1 fun r2 m2 h2 => ?_
  exact eb_tail hL hi (fun _ => rfl) h2.1 h2.2.1 h2.2.2
theorem eb_jn_lands (hL : ea_L G ≤ 3072) (hi : i + 6 ≤ ea_L G) (hP : ∀ p1 p2 : Int32, eb_P I (f_L_lands p1 p2 m) (f_X12_lands p1 p2)) : eb_W (f_L_law__j1287 G (nI i) m) (eb_go I i) := by
  unfold f_L_law__j1287
  refine eb_wd hL 1 (by omega) rfl ?_
  refine eb_wd hL 2 (by omega) rfl ?_
  refine eb_cl (hP (ea_xs G (i + 1)) (ea_xs G (i + 2))) fun r1 m1 h1 => ?_
  refine eb_wd hL 1 (by omega) rfl ?_
  refine eb_wd hL 2 (by omega) rfl ?_
  refine eb_cl h1 fun r2 m2 h2 => ?_
  exact eb_tail hL hi (fun _ => rfl) h2.1 h2.2.1 h2.2.2
theorem eb_jn_good (hL : ea_L G ≤ 3072) (hi : i + 6 ≤ ea_L G) (hP : ∀ p1 p2 : Int32, eb_P I (f_L_good p1 p2 m) (f_X12_good p1 p2)) : eb_W (f_L_law__j1355 G (nI i) m) (eb_go I i) := by
  unfold f_L_law__j1355
  refine eb_wd hL 1 (by omega) rfl ?_
  refine eb_wd hL 2 (by omega) rfl ?_
  refine eb_cl (hP (ea_xs G (i + 1)) (ea_xs G (i + 2))) fun r1 m1 h1 => ?_
  refine eb_wd hL 1 (by omega) rfl ?_
  refine eb_wd hL 2 (by omega) rfl ?_
  refine eb_cl h1 fun r2 m2 h2 => ?_
  exact eb_tail hL hi (fun _ => rfl) h2.1 h2.2.1 h2.2.2
theorem eb_jn_straight (hL : ea_L G ≤ 3072) (hi : i + 6 ≤ ea_L G) (hP : ∀ p1 p2 : Int32, eb_bo p2 → eb_P I (f_L_straight p1 p2 m) (f_X12_straight p1 p2)) : eb_W (f_L_law__j1423 G (nI i) m) (eb_go I i) := by
  unfold f_L_law__j1423
  refine eb_wd hL 1 (by omega) rfl ?_
  refine eb_wd hL 2 (by omega) rfl ?_
  refine eb_ite (fun e1 => ?_) fun e1 => ?_
  · unfold f_L_law__j1444
    refine eb_cl (hP (ea_xs G (i + 1)) 0 eb_bo0) fun r1 m1 h1 => ?_
    refine eb_wd hL 1 (by omega) rfl ?_
    refine eb_wd hL 2 (by omega) rfl ?_
    refine eb_ite (fun e2 => ?_) fun e2 => ?_
    · unfold f_L_law__j1471
      refine eb_cl h1 fun r2 m2 h2 => ?_
      exact eb_tail hL hi (fun _ => rfl) h2.1 h2.2.1 h2.2.2
    · exact absurd e1 e2
  · unfold f_L_law__j1444
    refine eb_cl (hP (ea_xs G (i + 1)) 1 eb_bo1) fun r1 m1 h1 => ?_
    refine eb_wd hL 1 (by omega) rfl ?_
    refine eb_wd hL 2 (by omega) rfl ?_
    refine eb_ite (fun e2 => ?_) fun e2 => ?_
    · exact absurd e2 e1
    · unfold f_L_law__j1471
      refine eb_cl h1 fun r2 m2 h2 => ?_
      exact eb_tail hL hi (fun _ => rfl) h2.1 h2.2.1 h2.2.2
theorem eb_jn_odds (hL : ea_L G ≤ 3072) (hi : i + 6 ≤ ea_L G) (hP : ∀ p1 p2 p3 : Int32, eb_P I (f_L_odds p1 p2 p3 m) (f_X12_odds p1 p2 p3)) : eb_W (f_L_law__j1507 G (nI i) m) (eb_go I i) := by
  unfold f_L_law__j1507
  refine eb_wd hL 1 (by omega) rfl ?_
  refine eb_wd hL 2 (by omega) rfl ?_
  refine eb_wd hL 3 (by omega) rfl ?_
  refine eb_cl (hP (ea_xs G (i + 1)) (ea_xs G (i + 2)) (ea_xs G (i + 3))) fun r1 m1 h1 => ?_
  refine eb_wd hL 1 (by omega) rfl ?_
  refine eb_wd hL 2 (by omega) rfl ?_
  refine eb_wd hL 3 (by omega) rfl ?_
  refine eb_cl h1 fun r2 m2 h2 => ?_
  exact eb_tail hL hi (fun _ => rfl) h2.1 h2.2.1 h2.2.2
theorem eb_jn_best (hL : ea_L G ≤ 3072) (hi : i + 6 ≤ ea_L G) (hP : ∀ p1 p2 : Int32, eb_P I (f_L_best p1 p2 m) (f_X12_best p1 p2)) : eb_W (f_L_law__j1587 G (nI i) m) (eb_go I i) := by
  unfold f_L_law__j1587
  refine eb_wd hL 1 (by omega) rfl ?_
  refine eb_wd hL 2 (by omega) rfl ?_
  refine eb_cl (hP (ea_xs G (i + 1)) (ea_xs G (i + 2))) fun r1 m1 h1 => ?_
  refine eb_wd hL 1 (by omega) rfl ?_
  refine eb_wd hL 2 (by omega) rfl ?_
  refine eb_cl h1 fun r2 m2 h2 => ?_
  exact eb_tail hL hi (fun _ => rfl) h2.1 h2.2.1 h2.2.2
theorem eb_jn_when (hL : ea_L G ≤ 3072) (hi : i + 6 ≤ ea_L G) (hP : ∀ p1 p2 : Int32, eb_P I (f_L_when p1 p2 m) (f_X12_when p1 p2)) : eb_W (f_L_law__j1655 G (nI i) m) (eb_go I i) := by
  unfold f_L_law__j1655
  refine eb_wd hL 1 (by omega) rfl ?_
  refine eb_wd hL 2 (by omega) rfl ?_
  refine eb_cl (hP (ea_xs G (i + 1)) (ea_xs G (i + 2))) fun r1 m1 h1 => ?_
  refine eb_wd hL 1 (by omega) rfl ?_
  refine eb_wd hL 2 (by omega) rfl ?_
  refine eb_cl h1 fun r2 m2 h2 => ?_
  exact eb_tail hL hi (fun _ => rfl) h2.1 h2.2.1 h2.2.2
theorem eb_jn_surest (hL : ea_L G ≤ 3072) (hi : i + 6 ≤ ea_L G) (hP : ∀ p1 p2 p3 : Int32, eb_bo p2 → eb_bo p3 → eb_P I (f_L_surest p1 p2 p3 m) (f_X12_surest p1 p2 p3)) : eb_W (f_L_law__j1723 G (nI i) m) (eb_go I i) := by
  unfold f_L_law__j1723
  refine eb_wd hL 1 (by omega) rfl ?_
  refine eb_wd hL 2 (by omega) rfl ?_
  refine eb_ite (fun e1 => ?_) fun e1 => ?_
  · unfold f_L_law__j1744
    refine eb_wd hL 3 (by omega) rfl ?_
    refine eb_ite (fun e2 => ?_) fun e2 => ?_
    · unfold f_L_law__j1758
      refine eb_cl (hP (ea_xs G (i + 1)) 0 0 eb_bo0 eb_bo0) fun r1 m1 h1 => ?_
      refine eb_wd hL 1 (by omega) rfl ?_
      refine eb_wd hL 2 (by omega) rfl ?_
      refine eb_ite (fun e3 => ?_) fun e3 => ?_
      · unfold f_L_law__j1785
        refine eb_wd hL 3 (by omega) rfl ?_
        refine eb_ite (fun e4 => ?_) fun e4 => ?_
        · unfold f_L_law__j1799
          refine eb_cl h1 fun r2 m2 h2 => ?_
          exact eb_tail hL hi (fun _ => rfl) h2.1 h2.2.1 h2.2.2
        · exact absurd e2 e4
      · exact absurd e1 e3
    · unfold f_L_law__j1758
      refine eb_cl (hP (ea_xs G (i + 1)) 0 1 eb_bo0 eb_bo1) fun r1 m1 h1 => ?_
      refine eb_wd hL 1 (by omega) rfl ?_
      refine eb_wd hL 2 (by omega) rfl ?_
      refine eb_ite (fun e3 => ?_) fun e3 => ?_
      · unfold f_L_law__j1785
        refine eb_wd hL 3 (by omega) rfl ?_
        refine eb_ite (fun e4 => ?_) fun e4 => ?_
        · exact absurd e4 e2
        · unfold f_L_law__j1799
          refine eb_cl h1 fun r2 m2 h2 => ?_
          exact eb_tail hL hi (fun _ => rfl) h2.1 h2.2.1 h2.2.2
      · exact absurd e1 e3
  · unfold f_L_law__j1744
    refine eb_wd hL 3 (by omega) rfl ?_
    refine eb_ite (fun e2 => ?_) fun e2 => ?_
    · unfold f_L_law__j1758
      refine eb_cl (hP (ea_xs G (i + 1)) 1 0 eb_bo1 eb_bo0) fun r1 m1 h1 => ?_
      refine eb_wd hL 1 (by omega) rfl ?_
      refine eb_wd hL 2 (by omega) rfl ?_
      refine eb_ite (fun e3 => ?_) fun e3 => ?_
      · exact absurd e3 e1
      · unfold f_L_law__j1785
        refine eb_wd hL 3 (by omega) rfl ?_
        refine eb_ite (fun e4 => ?_) fun e4 => ?_
        · unfold f_L_law__j1799
          refine eb_cl h1 fun r2 m2 h2 => ?_
          exact eb_tail hL hi (fun _ => rfl) h2.1 h2.2.1 h2.2.2
        · exact absurd e2 e4
    · unfold f_L_law__j1758
      refine eb_cl (hP (ea_xs G (i + 1)) 1 1 eb_bo1 eb_bo1) fun r1 m1 h1 => ?_
      refine eb_wd hL 1 (by omega) rfl ?_
      refine eb_wd hL 2 (by omega) rfl ?_
      refine eb_ite (fun e3 => ?_) fun e3 => ?_
      · exact absurd e3 e1
      · unfold f_L_law__j1785
        refine eb_wd hL 3 (by omega) rfl ?_
        refine eb_ite (fun e4 => ?_) fun e4 => ?_
        · exact absurd e4 e2
        · unfold f_L_law__j1799
          refine eb_cl h1 fun r2 m2 h2 => ?_
          exact eb_tail hL hi (fun _ => rfl) h2.1 h2.2.1 h2.2.2
theorem eb_jn_rests (hL : ea_L G ≤ 3072) (hi : i + 6 ≤ ea_L G) (hP : ∀ p1 p2 : Int32, eb_bo p2 → eb_P I (f_L_rests p1 p2 m) (f_X12_rests p1 p2)) : eb_W (f_L_law__j1835 G (nI i) m) (eb_go I i) := by
  unfold f_L_law__j1835
  refine eb_wd hL 1 (by omega) rfl ?_
  refine eb_wd hL 2 (by omega) rfl ?_
  refine eb_ite (fun e1 => ?_) fun e1 => ?_
  · unfold f_L_law__j1856
    refine eb_cl (hP (ea_xs G (i + 1)) 0 eb_bo0) fun r1 m1 h1 => ?_
    refine eb_wd hL 1 (by omega) rfl ?_
    refine eb_wd hL 2 (by omega) rfl ?_
    refine eb_ite (fun e2 => ?_) fun e2 => ?_
    · unfold f_L_law__j1883
      refine eb_cl h1 fun r2 m2 h2 => ?_
      exact eb_tail hL hi (fun _ => rfl) h2.1 h2.2.1 h2.2.2
    · exact absurd e1 e2
  · unfold f_L_law__j1856
    refine eb_cl (hP (ea_xs G (i + 1)) 1 eb_bo1) fun r1 m1 h1 => ?_
    refine eb_wd hL 1 (by omega) rfl ?_
    refine eb_wd hL 2 (by omega) rfl ?_
    refine eb_ite (fun e2 => ?_) fun e2 => ?_
    · exact absurd e2 e1
    · unfold f_L_law__j1883
      refine eb_cl h1 fun r2 m2 h2 => ?_
      exact eb_tail hL hi (fun _ => rfl) h2.1 h2.2.1 h2.2.2
theorem eb_jn_fair (hL : ea_L G ≤ 3072) (hi : i + 6 ≤ ea_L G) (hP : ∀ p1 : Int32, eb_P I (f_L_fair p1 m) (f_X12_fair p1)) : eb_W (f_L_law__j1919 G (nI i) m) (eb_go I i) := by
  unfold f_L_law__j1919
  refine eb_wd hL 1 (by omega) rfl ?_
  refine eb_cl (hP (ea_xs G (i + 1))) fun r1 m1 h1 => ?_
  refine eb_wd hL 1 (by omega) rfl ?_
  refine eb_cl h1 fun r2 m2 h2 => ?_
  exact eb_tail hL hi (fun _ => rfl) h2.1 h2.2.1 h2.2.2
theorem eb_jn_songs (hL : ea_L G ≤ 3072) (hi : i + 6 ≤ ea_L G) (hP : ∀ p1 : Int32, eb_bo p1 → eb_P I (f_L_songs p1 m) (f_X12_songs p1)) : eb_W (f_L_law__j1975 G (nI i) m) (eb_go I i) := by
  unfold f_L_law__j1975
  refine eb_wd hL 1 (by omega) rfl ?_
  refine eb_ite (fun e1 => ?_) fun e1 => ?_
  · unfold f_L_law__j1990
    refine eb_cl (hP 0 eb_bo0) fun r1 m1 h1 => ?_
    refine eb_wd hL 1 (by omega) rfl ?_
    refine eb_ite (fun e2 => ?_) fun e2 => ?_
    · unfold f_L_law__j2011
      refine eb_cl h1 fun r2 m2 h2 => ?_
      exact eb_tail hL hi (fun _ => rfl) h2.1 h2.2.1 h2.2.2
    · exact absurd e1 e2
  · unfold f_L_law__j1990
    refine eb_cl (hP 1 eb_bo1) fun r1 m1 h1 => ?_
    refine eb_wd hL 1 (by omega) rfl ?_
    refine eb_ite (fun e2 => ?_) fun e2 => ?_
    · exact absurd e2 e1
    · unfold f_L_law__j2011
      refine eb_cl h1 fun r2 m2 h2 => ?_
      exact eb_tail hL hi (fun _ => rfl) h2.1 h2.2.1 h2.2.2
theorem eb_jn_ask (hL : ea_L G ≤ 3072) (hi : i + 6 ≤ ea_L G) (hP : eb_P I (f_L_ask m) (f_X12_ask)) : eb_W (f_L_law__j2047 G (nI i) m) (eb_go I i) := by
  unfold f_L_law__j2047
  refine eb_cl hP fun r1 m1 h1 => ?_
  refine eb_cl h1 fun r2 m2 h2 => ?_
  exact eb_tail hL hi (fun _ => rfl) h2.1 h2.2.1 h2.2.2
theorem eb_jn_tell (hL : ea_L G ≤ 3072) (hi : i + 6 ≤ ea_L G) (hP : ∀ p1 p2 : Int32, eb_P I (f_L_tell p1 p2 m) (f_X12_tell p1 p2)) : eb_W (f_L_law__j2091 G (nI i) m) (eb_go I i) := by
  unfold f_L_law__j2091
  refine eb_wd hL 1 (by omega) rfl ?_
  refine eb_wd hL 2 (by omega) rfl ?_
  refine eb_cl (hP (ea_xs G (i + 1)) (ea_xs G (i + 2))) fun r1 m1 h1 => ?_
  refine eb_wd hL 1 (by omega) rfl ?_
  refine eb_wd hL 2 (by omega) rfl ?_
  refine eb_cl h1 fun r2 m2 h2 => ?_
  exact eb_tail hL hi (fun _ => rfl) h2.1 h2.2.1 h2.2.2
theorem eb_jn_alike (hL : ea_L G ≤ 3072) (hi : i + 6 ≤ ea_L G) (hP : eb_P2 I (f_X11_alike m) (f_X12_alike)) : eb_W (f_L_law__j2159 G (nI i) m) (eb_go I i) := by
  unfold f_L_law__j2159
  refine eb_cl hP fun r1 m1 h1 => ?_
  refine eb_cl h1 fun r2 m2 h2 => ?_
  exact eb_if h2.1 (eb_next hL hi h2.2)
theorem eb_jn_lasts (hL : ea_L G ≤ 3072) (hi : i + 6 ≤ ea_L G) (hP : ∀ p1 p2 p3 : Int32, eb_P I (f_L_lasts p1 p2 p3 m) (f_X12_lasts p1 p2 p3)) : eb_W (f_L_law__j2172 G (nI i) m) (eb_go I i) := by
  unfold f_L_law__j2172
  refine eb_wd hL 1 (by omega) rfl ?_
  refine eb_wd hL 2 (by omega) rfl ?_
  refine eb_wd hL 3 (by omega) rfl ?_
  refine eb_cl (hP (ea_xs G (i + 1)) (ea_xs G (i + 2)) (ea_xs G (i + 3))) fun r1 m1 h1 => ?_
  refine eb_wd hL 1 (by omega) rfl ?_
  refine eb_wd hL 2 (by omega) rfl ?_
  refine eb_wd hL 3 (by omega) rfl ?_
  refine eb_cl h1 fun r2 m2 h2 => ?_
  exact eb_tail hL hi (fun _ => rfl) h2.1 h2.2.1 h2.2.2
theorem eb_jn_rich (hL : ea_L G ≤ 3072) (hi : i + 6 ≤ ea_L G) (hP : eb_P2 I (f_X11_rich m) (f_X12_rich)) : eb_W (f_L_law__j2252 G (nI i) m) (eb_go I i) := by
  unfold f_L_law__j2252
  refine eb_cl hP fun r1 m1 h1 => ?_
  refine eb_cl h1 fun r2 m2 h2 => ?_
  exact eb_if h2.1 (eb_next hL hi h2.2)
theorem eb_jn_won (hL : ea_L G ≤ 3072) (hi : i + 6 ≤ ea_L G) (hP : ∀ p1 p2 : Int32, eb_bo p2 → eb_P I (f_L_won p1 p2 m) (f_X12_won p1 p2)) : eb_W (f_L_law__j2265 G (nI i) m) (eb_go I i) := by
  unfold f_L_law__j2265
  refine eb_wd hL 1 (by omega) rfl ?_
  refine eb_wd hL 2 (by omega) rfl ?_
  refine eb_ite (fun e1 => ?_) fun e1 => ?_
  · unfold f_L_law__j2286
    refine eb_cl (hP (ea_xs G (i + 1)) 0 eb_bo0) fun r1 m1 h1 => ?_
    refine eb_wd hL 1 (by omega) rfl ?_
    refine eb_wd hL 2 (by omega) rfl ?_
    refine eb_ite (fun e2 => ?_) fun e2 => ?_
    · unfold f_L_law__j2313
      refine eb_cl h1 fun r2 m2 h2 => ?_
      exact eb_tail hL hi (fun _ => rfl) h2.1 h2.2.1 h2.2.2
    · exact absurd e1 e2
  · unfold f_L_law__j2286
    refine eb_cl (hP (ea_xs G (i + 1)) 1 eb_bo1) fun r1 m1 h1 => ?_
    refine eb_wd hL 1 (by omega) rfl ?_
    refine eb_wd hL 2 (by omega) rfl ?_
    refine eb_ite (fun e2 => ?_) fun e2 => ?_
    · exact absurd e2 e1
    · unfold f_L_law__j2313
      refine eb_cl h1 fun r2 m2 h2 => ?_
      exact eb_tail hL hi (fun _ => rfl) h2.1 h2.2.1 h2.2.2
theorem eb_jn_cover (hL : ea_L G ≤ 3072) (hi : i + 6 ≤ ea_L G) (hP : eb_P2 I (f_X11_cover m) (f_X12_cover)) : eb_W (f_L_law__j2349 G (nI i) m) (eb_go I i) := by
  unfold f_L_law__j2349
  refine eb_cl hP fun r1 m1 h1 => ?_
  refine eb_cl h1 fun r2 m2 h2 => ?_
  exact eb_if h2.1 (eb_next hL hi h2.2)
theorem eb_jn_widest (hL : ea_L G ≤ 3072) (hi : i + 6 ≤ ea_L G) (hP : ∀ p1 : Int32, eb_P I (f_L_widest p1 m) (f_X12_widest p1)) : eb_W (f_L_law__j2362 G (nI i) m) (eb_go I i) := by
  unfold f_L_law__j2362
  refine eb_wd hL 1 (by omega) rfl ?_
  refine eb_cl (hP (ea_xs G (i + 1))) fun r1 m1 h1 => ?_
  refine eb_wd hL 1 (by omega) rfl ?_
  refine eb_cl h1 fun r2 m2 h2 => ?_
  exact eb_tail hL hi (fun _ => rfl) h2.1 h2.2.1 h2.2.2
theorem eb_jn_trial (hL : ea_L G ≤ 3072) (hi : i + 6 ≤ ea_L G) (hP : ∀ p1 p2 p3 : Int32, eb_P I (f_L_trial p1 p2 p3 m) (f_X12_trial p1 p2 p3)) : eb_W (f_L_law__j2418 G (nI i) m) (eb_go I i) := by
  unfold f_L_law__j2418
  refine eb_wd hL 1 (by omega) rfl ?_
  refine eb_wd hL 2 (by omega) rfl ?_
  refine eb_wd hL 3 (by omega) rfl ?_
  refine eb_cl (hP (ea_xs G (i + 1)) (ea_xs G (i + 2)) (ea_xs G (i + 3))) fun r1 m1 h1 => ?_
  refine eb_wd hL 1 (by omega) rfl ?_
  refine eb_wd hL 2 (by omega) rfl ?_
  refine eb_wd hL 3 (by omega) rfl ?_
  refine eb_cl h1 fun r2 m2 h2 => ?_
  exact eb_tail hL hi (fun _ => rfl) h2.1 h2.2.1 h2.2.2
theorem eb_jn_span (hL : ea_L G ≤ 3072) (hi : i + 6 ≤ ea_L G) (hP : ∀ p1 p2 p3 p4 : Int32, eb_bo p4 → eb_P I (f_L_span p1 p2 p3 p4 m) (f_X12_span p1 p2 p3 p4)) : eb_W (f_L_law__j2498 G (nI i) m) (eb_go I i) := by
  unfold f_L_law__j2498
  refine eb_wd hL 1 (by omega) rfl ?_
  refine eb_wd hL 2 (by omega) rfl ?_
  refine eb_wd hL 3 (by omega) rfl ?_
  refine eb_wd hL 4 (by omega) rfl ?_
  refine eb_ite (fun e1 => ?_) fun e1 => ?_
  · unfold f_L_law__j2531
    refine eb_cl (hP (ea_xs G (i + 1)) (ea_xs G (i + 2)) (ea_xs G (i + 3)) 0 eb_bo0) fun r1 m1 h1 => ?_
    refine eb_wd hL 1 (by omega) rfl ?_
    refine eb_wd hL 2 (by omega) rfl ?_
    refine eb_wd hL 3 (by omega) rfl ?_
    refine eb_wd hL 4 (by omega) rfl ?_
    refine eb_ite (fun e2 => ?_) fun e2 => ?_
    · unfold f_L_law__j2570
      refine eb_cl h1 fun r2 m2 h2 => ?_
      exact eb_tail hL hi (fun _ => rfl) h2.1 h2.2.1 h2.2.2
    · exact absurd e1 e2
  · unfold f_L_law__j2531
    refine eb_cl (hP (ea_xs G (i + 1)) (ea_xs G (i + 2)) (ea_xs G (i + 3)) 1 eb_bo1) fun r1 m1 h1 => ?_
    refine eb_wd hL 1 (by omega) rfl ?_
    refine eb_wd hL 2 (by omega) rfl ?_
    refine eb_wd hL 3 (by omega) rfl ?_
    refine eb_wd hL 4 (by omega) rfl ?_
    refine eb_ite (fun e2 => ?_) fun e2 => ?_
    · exact absurd e2 e1
    · unfold f_L_law__j2570
      refine eb_cl h1 fun r2 m2 h2 => ?_
      exact eb_tail hL hi (fun _ => rfl) h2.1 h2.2.1 h2.2.2
theorem eb_jn_led (hL : ea_L G ≤ 3072) (hi : i + 6 ≤ ea_L G) (hP : ∀ p1 p2 : Int32, eb_bo p2 → eb_P I (f_L_led p1 p2 m) (f_X12_led p1 p2)) : eb_W (f_L_law__j2606 G (nI i) m) (eb_go I i) := by
  unfold f_L_law__j2606
  refine eb_wd hL 1 (by omega) rfl ?_
  refine eb_wd hL 2 (by omega) rfl ?_
  refine eb_ite (fun e1 => ?_) fun e1 => ?_
  · unfold f_L_law__j2627
    refine eb_cl (hP (ea_xs G (i + 1)) 0 eb_bo0) fun r1 m1 h1 => ?_
    refine eb_wd hL 1 (by omega) rfl ?_
    refine eb_wd hL 2 (by omega) rfl ?_
    refine eb_ite (fun e2 => ?_) fun e2 => ?_
    · unfold f_L_law__j2654
      refine eb_cl h1 fun r2 m2 h2 => ?_
      exact eb_tail hL hi (fun _ => rfl) h2.1 h2.2.1 h2.2.2
    · exact absurd e1 e2
  · unfold f_L_law__j2627
    refine eb_cl (hP (ea_xs G (i + 1)) 1 eb_bo1) fun r1 m1 h1 => ?_
    refine eb_wd hL 1 (by omega) rfl ?_
    refine eb_wd hL 2 (by omega) rfl ?_
    refine eb_ite (fun e2 => ?_) fun e2 => ?_
    · exact absurd e2 e1
    · unfold f_L_law__j2654
      refine eb_cl h1 fun r2 m2 h2 => ?_
      exact eb_tail hL hi (fun _ => rfl) h2.1 h2.2.1 h2.2.2
theorem eb_jn_log (hL : ea_L G ≤ 3072) (hi : i + 6 ≤ ea_L G) (hP : ∀ p1 p2 : Int32, eb_P I (f_L_log p1 p2 m) (f_X12_log p1 p2)) : eb_W (f_L_law__j2690 G (nI i) m) (eb_go I i) := by
  unfold f_L_law__j2690
  refine eb_wd hL 1 (by omega) rfl ?_
  refine eb_wd hL 2 (by omega) rfl ?_
  refine eb_cl (hP (ea_xs G (i + 1)) (ea_xs G (i + 2))) fun r1 m1 h1 => ?_
  refine eb_wd hL 1 (by omega) rfl ?_
  refine eb_wd hL 2 (by omega) rfl ?_
  refine eb_cl h1 fun r2 m2 h2 => ?_
  exact eb_tail hL hi (fun _ => rfl) h2.1 h2.2.1 h2.2.2
theorem eb_jn_seed (hL : ea_L G ≤ 3072) (hi : i + 6 ≤ ea_L G) (hP : ∀ p1 : Int32, eb_P2 I (f_X11_seed p1 m) (f_X12_seed p1)) : eb_W (f_L_law__j2758 G (nI i) m) (eb_go I i) := by
  unfold f_L_law__j2758
  refine eb_wd hL 1 (by omega) rfl ?_
  refine eb_cl (hP (ea_xs G (i + 1))) fun r1 m1 h1 => ?_
  refine eb_wd hL 1 (by omega) rfl ?_
  refine eb_cl h1 fun r2 m2 h2 => ?_
  exact eb_if h2.1 (eb_next hL hi h2.2)
theorem eb_jn_undo (hL : ea_L G ≤ 3072) (hi : i + 6 ≤ ea_L G) (hP : eb_P2 I (f_X11_undo m) (f_X12_undo)) : eb_W (f_L_law__j2783 G (nI i) m) (eb_go I i) := by
  unfold f_L_law__j2783
  refine eb_cl hP fun r1 m1 h1 => ?_
  refine eb_cl h1 fun r2 m2 h2 => ?_
  exact eb_if h2.1 (eb_next hL hi h2.2)
theorem eb_jn_image (hL : ea_L G ≤ 3072) (hi : i + 6 ≤ ea_L G) (hP : eb_P2 I (f_X11_image m) (f_X12_image)) : eb_W (f_L_law__j2796 G (nI i) m) (eb_go I i) := by
  unfold f_L_law__j2796
  refine eb_cl hP fun r1 m1 h1 => ?_
  refine eb_cl h1 fun r2 m2 h2 => ?_
  exact eb_next hL hi h2.2
theorem eb_jn_back (hL : ea_L G ≤ 3072) (hi : i + 6 ≤ ea_L G) (hP : eb_P2 I (f_X11_back m) (f_X12_back)) : eb_W (f_L_law__j2807 G (nI i) m) (eb_go I i) := by
  unfold f_L_law__j2807
  refine eb_cl hP fun r1 m1 h1 => ?_
  refine eb_cl h1 fun r2 m2 h2 => ?_
  exact eb_if h2.1 (eb_next hL hi h2.2)
theorem eb_jn_count (hL : ea_L G ≤ 3072) (hi : i + 6 ≤ ea_L G) (hP : ∀ p1 : Int32, eb_P2 I (f_X11_count p1 m) (f_X12_count p1)) : eb_W (f_L_law__j2820 G (nI i) m) (eb_go I i) := by
  unfold f_L_law__j2820
  refine eb_wd hL 1 (by omega) rfl ?_
  refine eb_cl (hP (ea_xs G (i + 1))) fun r1 m1 h1 => ?_
  refine eb_wd hL 1 (by omega) rfl ?_
  refine eb_cl h1 fun r2 m2 h2 => ?_
  exact eb_if h2.1 (eb_next hL hi h2.2)
end JOINS
