section ALLP
variable {G : ea_G} {i : Nat} {m : ea_M}
theorem ez_step (hL : ea_L G ≤ 3072) (hi : i + 6 ≤ ea_L G) (h : eb_I m) : eb_W (f_L_law__s23 G (nI i, m)) (eb_go eb_I i) := by
  have hT := h.1.2.2.2.2.1
  unfold f_L_law__s23
  dsimp only
  rw [if_pos (show Int32.toNatClampNeg (nI i) ≤ 4000 by rw [nI_clamp (by omega)]; omega), if_neg (show ¬ nI (ea_L G) - 6 < nI i from (show ¬ nI (ea_L G) - nI 6 < nI i by rw [pk_sub (by omega)]; exact nI_nlt (by omega) (by omega))), eb_gN (by omega) (by omega), eb_bdR]
  generalize ea_xs G (Int32.toNatClampNeg (nI i)) &&& 63 = x
  refine eb_ite (fun _ => eb_call0 hL hi hT fun m1 h1 h2 => eb_I_TF h h1 h2) fun _ => ?_
  refine eb_ite (fun _ => eb_call1 hL hi hT fun m1 h1 h2 => eb_I_TF h h1 h2) fun _ => ?_
  refine eb_ite (fun _ => eb_jn_court hL hi (eb_p_court h)) fun _ => ?_
  refine eb_ite (fun _ => eb_jn_law hL hi (eb_p_law h)) fun _ => ?_
  refine eb_ite (fun _ => eb_call4 hL hi h.1.2.2.2.2.2 (eb_I_cg (eb_E0 m) h)) fun _ => ?_
  refine eb_ite (fun _ => eb_jn_bird hL hi fun p1 p2 => eb_p_bird p1 p2 h) fun _ => ?_
  refine eb_ite (fun _ => eb_jn_stock hL hi fun p1 p2 => eb_p_stock p1 p2 h) fun _ => ?_
  refine eb_ite (fun _ => eb_jn_matter hL hi fun p1 p2 => eb_p_matter p1 p2 h) fun _ => ?_
  refine eb_ite (fun _ => eb_jn_wind hL hi fun p1 => eb_p_wind p1 h) fun _ => ?_
  refine eb_ite (fun _ => eb_jn_moves hL hi fun p1 p2 p3 p4 p5 b5 => eb_p_moves p1 p2 p3 p4 p5 b5 h) fun _ => ?_
  refine eb_ite (fun _ => eb_jn_call hL hi fun p1 p2 p3 => eb_p_call p1 p2 p3 h) fun _ => ?_
  refine eb_ite (fun _ => eb_jn_hour hL hi fun p1 => eb_p_hour p1 h) fun _ => ?_
  refine eb_ite (fun _ => eb_jn_blow hL hi fun p1 p2 => eb_p_blow p1 p2 h) fun _ => ?_
  refine eb_ite (fun _ => eb_jn_give hL hi fun p1 p2 p3 p4 => eb_p_give p1 p2 p3 p4 h) fun _ => ?_
  refine eb_ite (fun _ => eb_jn_appeal hL hi fun p1 => eb_p_appeal p1 h) fun _ => ?_
  refine eb_ite (fun _ => eb_jn_weeks hL hi fun p1 => eb_p_weeks p1 h) fun _ => ?_
  refine eb_ite (fun _ => eb_jn_ways hL hi fun p1 p2 => eb_p_ways p1 p2 h) fun _ => ?_
  refine eb_ite (fun _ => eb_jn_lands hL hi fun p1 p2 => eb_p_lands p1 p2 h) fun _ => ?_
  refine eb_ite (fun _ => eb_jn_good hL hi fun p1 p2 => eb_p_good p1 p2 h) fun _ => ?_
  refine eb_ite (fun _ => eb_jn_straight hL hi fun p1 p2 b2 => eb_p_straight p1 p2 b2 h) fun _ => ?_
  refine eb_ite (fun _ => eb_jn_odds hL hi fun p1 p2 p3 => eb_p_odds p1 p2 p3 h) fun _ => ?_
  refine eb_ite (fun _ => eb_jn_best hL hi fun p1 p2 => eb_p_best p1 p2 h) fun _ => ?_
  refine eb_ite (fun _ => eb_jn_when hL hi fun p1 p2 => eb_p_when p1 p2 h) fun _ => ?_
  refine eb_ite (fun _ => eb_jn_surest hL hi fun p1 p2 p3 b2 b3 => eb_p_surest p1 p2 p3 b2 b3 h) fun _ => ?_
  refine eb_ite (fun _ => eb_jn_rests hL hi fun p1 p2 b2 => eb_p_rests p1 p2 b2 h) fun _ => ?_
  refine eb_ite (fun _ => eb_jn_fair hL hi fun p1 => eb_p_fair p1 h) fun _ => ?_
  refine eb_ite (fun _ => eb_jn_songs hL hi fun p1 b1 => eb_p_songs p1 b1 h) fun _ => ?_
  refine eb_ite (fun _ => eb_jn_ask hL hi (eb_p_ask h)) fun _ => ?_
  refine eb_ite (fun _ => eb_jn_tell hL hi fun p1 p2 => eb_p_tell p1 p2 h) fun _ => ?_
  refine eb_ite (fun _ => eb_jn_alike hL hi (eb_p_alike h)) fun _ => ?_
  refine eb_ite (fun _ => eb_jn_lasts hL hi fun p1 p2 p3 => eb_p_lasts p1 p2 p3 h) fun _ => ?_
  refine eb_ite (fun _ => eb_jn_rich hL hi (eb_p_rich h)) fun _ => ?_
  refine eb_ite (fun _ => eb_jn_won hL hi fun p1 p2 b2 => eb_p_won p1 p2 b2 h) fun _ => ?_
  refine eb_ite (fun _ => eb_jn_cover hL hi (eb_p_cover h)) fun _ => ?_
  refine eb_ite (fun _ => eb_jn_widest hL hi fun p1 => eb_p_widest p1 h) fun _ => ?_
  refine eb_ite (fun _ => eb_jn_trial hL hi fun p1 p2 p3 => eb_p_trial p1 p2 p3 h) fun _ => ?_
  refine eb_ite (fun _ => eb_jn_span hL hi fun p1 p2 p3 p4 b4 => eb_p_span p1 p2 p3 p4 b4 h) fun _ => ?_
  refine eb_ite (fun _ => eb_jn_led hL hi fun p1 p2 b2 => eb_p_led p1 p2 b2 h) fun _ => ?_
  refine eb_ite (fun _ => eb_jn_log hL hi fun p1 p2 => eb_p_log p1 p2 h) fun _ => ?_
  refine eb_ite (fun _ => eb_callSeed hL hi h.1.1.1.2.2.2.2.2.2.1 fun p => eb_I_seed h p) fun _ => ?_
  refine eb_ite (fun _ => eb_jn_undo hL hi (eb_p_undo h)) fun _ => ?_
  refine eb_ite (fun _ => eb_jn_image hL hi (eb_p_image h)) fun _ => ?_
  refine eb_ite (fun _ => eb_jn_back hL hi (eb_p_back h)) fun _ => ?_
  refine eb_ite (fun _ => eb_jn_count hL hi fun p1 => eb_p_count p1 h) fun _ => ?_
  exact eb_next hL hi h
theorem ez_all (hL : ea_L G ≤ 3072) (h : eb_I m) : ∃ mZ, f_L_law_ G m = some (1, mZ) := eb_law G hL eb_I (fun i m hi h => ez_step hL hi h) m h
end ALLP
