set_option maxHeartbeats 4000000 in
set_option maxRecDepth 100000 in
theorem c_X5_write (g : Gx) (l : Launch) (x_a : Nat → Nat) (x_la : Nat → Nat) (x_na : Nat → Nat) (x_ra : Nat → Nat) (x_aa : Nat → Nat) (x_da : Nat → Nat) (x_sd : Int64) (t_a : Nat → Nat) (t_n : Nat) (t_F : Nat → Int32)  (x : Int32) (hn : t_n ≤ 48) : Cd g l yX5_write mX5_write ({ frames := 1, cells := 0, slots := 0, locals := 21 } : Room) [.ref (x_a 0), .int x] ((wX g x_a t_a x_la x_na x_ra x_aa x_da x_sd) ++ (wT g t_a t_n t_F)) (some (.int (wrR t_n x))) ((wX g x_a t_a x_la x_na x_ra x_aa x_da x_sd) ++ (wT g t_a (wrN t_n x) (wrF t_F t_n x))) := by
  refine Ct.of (lv := [(0, .ref (x_a 0)), (1, .int x)]) ⟨by decide +kernel, rfl, Nat.le_of_ble_eq_true rfl⟩ rfl (fun E A sz Q X hQ => ?_)
  refine V_iload_n nX5_write_0 rfl ?_
  refine V_if_lt (tgt := 11) nX5_write_1 rfl (fun h1 => ?_) (fun h1 => ?_)
  · skip
    refine V_bipush (v := (-2)) nX5_write_11 (by decide) ?_
    exact R_i rfl X hQ nX5_write_13 (by simp only [List.map_append, wT_fst, wX_fst]) (⟨by simp [wrR, wrN, wrF, wrOk, h1], by simp [wrR, wrN, wrF, wrOk, h1]⟩)
  · skip
    refine V_iload_n nX5_write_4 rfl ?_
    refine V_sipush (v := (nI 255)) nX5_write_5 (by decide) ?_
    refine V_icmp_le (tgt := 14) nX5_write_8 rfl (fun h8 => ?_) (fun h8 => ?_)
    · skip
      refine V_aload_n nX5_write_14 rfl ?_
      refine V_get5 0 0 (by decide) f_RX5_10 nX5_write_15 rfl rfl ?_
      refine V_get3 1 1 (by decide) f_RX5_65 nX5_write_18 rfl rfl ?_
      refine V_bipush (v := (nI 48)) nX5_write_21 (by decide) ?_
      refine V_icmp_lt_N (tgt := 29) nX5_write_23 rfl (by omega) (by omega) (fun h23 => ?_) (fun h23 => ?_)
      · skip
        have n23 : ¬ 48 ≤ t_n := by omega
        refine V_aload_n nX5_write_29 rfl ?_
        refine V_get5 0 0 (by decide) f_RX5_10 nX5_write_30 rfl rfl ?_
        refine V_iload_n nX5_write_33 rfl ?_
        refine V_blk (ws' := ((wT g t_a t_n t_F)) ++ ((wX g x_a t_a x_la x_na x_ra x_aa x_da x_sd))) [wX g x_a t_a x_la x_na x_ra x_aa x_da x_sd, wT g t_a t_n t_F] [1, 0] rfl (by simp only [List.flatten_cons, List.flatten_nil, List.append_nil, List.append_assoc]) (by show List.flatten [wT g t_a t_n t_F, wX g x_a t_a x_la x_na x_ra x_aa x_da x_sd] = _; simp only [List.flatten_cons, List.flatten_nil, List.append_nil, List.append_assoc]) ?_
        refine V_cVv (C := (RX3, TX3, 2)) (ci := 3) (ws' := ((wT g t_a (t_n + 1) (upd t_F t_n x))) ++ ((wX g x_a t_a x_la x_na x_ra x_aa x_da x_sd))) (List.range _) 1 X (c_X3_append g l t_a t_n t_F  x (by omega)) k_RX5_69 hy_X3_append (by decide) (range_at _ _) (range_nd _) 0 rfl rfl nX5_write_34 rfl rfl (Nat.le_of_ble_eq_true rfl) (wput_range _ _ _ (by simp only [List.length_append, wT_len])) ?_
        refine V_blk (ws' := (wX g x_a t_a x_la x_na x_ra x_aa x_da x_sd) ++ (wT g t_a (t_n + 1) (upd t_F t_n x))) [wT g t_a (t_n + 1) (upd t_F t_n x), wX g x_a t_a x_la x_na x_ra x_aa x_da x_sd] [1, 0] rfl (by simp only [List.flatten_cons, List.flatten_nil, List.append_nil, List.append_assoc]) (by show List.flatten [wX g x_a t_a x_la x_na x_ra x_aa x_da x_sd, wT g t_a (t_n + 1) (upd t_F t_n x)] = _; simp only [List.flatten_cons, List.flatten_nil, List.append_nil, List.append_assoc]) ?_
        refine V_aload_n nX5_write_37 rfl ?_
        refine V_get5 0 0 (by decide) f_RX5_10 nX5_write_38 rfl rfl ?_
        refine V_get3 1 1 (by decide) f_RX5_65 nX5_write_41 rfl rfl ?_
        exact R_i rfl X hQ nX5_write_44 (by simp only [List.map_append, wT_fst, wX_fst]) (⟨by simp [wrR, wrN, wrF, wrOk, h1, h8, h23, n23], by simp [wrR, wrN, wrF, wrOk, h1, h8, h23, n23]⟩)
      · skip
        have n23 : ¬ t_n < 48 := by omega
        refine V_bipush (v := (-4)) nX5_write_26 (by decide) ?_
        exact R_i rfl X hQ nX5_write_28 (by simp only [List.map_append, wT_fst, wX_fst]) (⟨by simp [wrR, wrN, wrF, wrOk, h1, h8, h23, n23], by simp [wrR, wrN, wrF, wrOk, h1, h8, h23, n23]⟩)
    · skip
      refine V_bipush (v := (-2)) nX5_write_11 (by decide) ?_
      exact R_i rfl X hQ nX5_write_13 (by simp only [List.map_append, wT_fst, wX_fst]) (⟨by simp [wrR, wrN, wrF, wrOk, h1, h8], by simp [wrR, wrN, wrF, wrOk, h1, h8]⟩)

set_option maxHeartbeats 4000000 in
set_option maxRecDepth 100000 in
theorem c_X5_wipe (g : Gx) (l : Launch) (x_a : Nat → Nat) (x_la : Nat → Nat) (x_na : Nat → Nat) (x_ra : Nat → Nat) (x_aa : Nat → Nat) (x_da : Nat → Nat) (x_sd : Int64) (t_a : Nat → Nat) (t_n : Nat) (t_F : Nat → Int32)    : Cd g l yX5_wipe mX5_wipe ({ frames := 0, cells := 0, slots := 0, locals := 0 } : Room) [.ref (x_a 0)] ((wX g x_a t_a x_la x_na x_ra x_aa x_da x_sd) ++ (wT g t_a t_n t_F)) (some (.int (nI t_n))) ((wX g x_a t_a x_la x_na x_ra x_aa x_da x_sd) ++ (wT g t_a 0 t_F)) := by
  refine Ct.of (lv := [(0, .ref (x_a 0))]) ⟨by decide +kernel, rfl, Nat.le_of_ble_eq_true rfl⟩ rfl (fun E A sz Q X hQ => ?_)
  refine V_aload_n nX5_wipe_0 rfl ?_
  refine V_get5 0 0 (by decide) f_RX5_10 nX5_wipe_1 rfl rfl ?_
  refine V_get3 1 1 (by decide) f_RX5_65 nX5_wipe_4 rfl rfl ?_
  refine V_istore_n (lv' := [(0, .ref (x_a 0)), (1, .int (nI t_n))]) nX5_wipe_7 (by decide) rfl ?_
  refine V_aload_n nX5_wipe_8 rfl ?_
  refine V_get5 0 0 (by decide) f_RX5_10 nX5_wipe_9 rfl rfl ?_
  refine V_iconst (v := (nI 0)) nX5_wipe_12 rfl ?_
  refine V_put3 (ws' := (wX g x_a t_a x_la x_na x_ra x_aa x_da x_sd) ++ (wT g t_a 0 t_F)) 1 1 (by decide) f_RX5_65 rfl rfl rfl rfl nX5_wipe_13 rfl (Nat.le_of_ble_eq_true rfl) rfl ?_
  refine V_iload_n nX5_wipe_16 rfl ?_
  exact R_i rfl X hQ nX5_wipe_17 (by simp only [List.map_append, wT_fst, wX_fst]) (⟨rfl, rfl⟩)

set_option maxHeartbeats 4000000 in
set_option maxRecDepth 100000 in
theorem c_X5_fault (g : Gx) (l : Launch) (x_a : Nat → Nat) (x_la : Nat → Nat) (x_na : Nat → Nat) (x_ra : Nat → Nat) (x_aa : Nat → Nat) (x_da : Nat → Nat) (x_sd : Int64) (t_a : Nat → Nat) (t_n : Nat) (t_F : Nat → Int32)   (hn : t_n ≤ 48) : Cd g l yX5_fault mX5_fault ({ frames := 2, cells := 0, slots := 0, locals := 51 } : Room) [.ref (x_a 0)] ((wX g x_a t_a x_la x_na x_ra x_aa x_da x_sd) ++ (wT g t_a t_n t_F)) (some (.int (oI (faultT t_F t_n)))) ((wX g x_a t_a x_la x_na x_ra x_aa x_da x_sd) ++ (wT g t_a t_n t_F)) := by
  refine Ct.of (lv := [(0, .ref (x_a 0))]) ⟨by decide +kernel, rfl, Nat.le_of_ble_eq_true rfl⟩ rfl (fun E A sz Q X hQ => ?_)
  refine V_aload_n nX5_fault_0 rfl ?_
  refine V_get5 0 0 (by decide) f_RX5_10 nX5_fault_1 rfl rfl ?_
  refine V_blk (ws' := ((wT g t_a t_n t_F)) ++ ((wX g x_a t_a x_la x_na x_ra x_aa x_da x_sd))) [wX g x_a t_a x_la x_na x_ra x_aa x_da x_sd, wT g t_a t_n t_F] [1, 0] rfl (by simp only [List.flatten_cons, List.flatten_nil, List.append_nil, List.append_assoc]) (by show List.flatten [wT g t_a t_n t_F, wX g x_a t_a x_la x_na x_ra x_aa x_da x_sd] = _; simp only [List.flatten_cons, List.flatten_nil, List.append_nil, List.append_assoc]) ?_
  refine V_cVi (C := (RX3, TX3, 2)) (ci := 3) (ws' := ((wT g t_a t_n t_F)) ++ ((wX g x_a t_a x_la x_na x_ra x_aa x_da x_sd))) (List.range _) 0 X (c_X3_firstFault g l t_a t_n t_F   (by omega)) k_RX5_73 hy_X3_firstFault (by decide) (range_at _ _) (range_nd _) 0 rfl rfl nX5_fault_4 rfl rfl (Nat.le_of_ble_eq_true rfl) (wput_range _ _ _ (by simp only [List.length_append, wT_len])) ?_
  refine V_blk (ws' := (wX g x_a t_a x_la x_na x_ra x_aa x_da x_sd) ++ (wT g t_a t_n t_F)) [wT g t_a t_n t_F, wX g x_a t_a x_la x_na x_ra x_aa x_da x_sd] [1, 0] rfl (by simp only [List.flatten_cons, List.flatten_nil, List.append_nil, List.append_assoc]) (by show List.flatten [wX g x_a t_a x_la x_na x_ra x_aa x_da x_sd, wT g t_a t_n t_F] = _; simp only [List.flatten_cons, List.flatten_nil, List.append_nil, List.append_assoc]) ?_
  exact R_i rfl X hQ nX5_fault_7 (by simp only [List.map_append, wT_fst, wX_fst]) (⟨rfl, rfl⟩)

set_option maxHeartbeats 4000000 in
set_option maxRecDepth 100000 in
theorem c_X5_about (g : Gx) (l : Launch) (x_a : Nat → Nat) (x_sd : Int64) (t_a : Nat → Nat) (t_n : Nat) (t_F : Nat → Int32) (l_a : Nat → Nat) (l_nf : Nat) (l_ne : Nat) (l_pl : Nat → Int32) (l_yl : Nat → Int32) (l_nd : Nat → Int32) (l_hm : Nat → Int32) (l_wk : Nat → Int32) (l_kd : Nat → Int32) (n_a : Nat → Nat) (n_lo : Nat → Int32) (n_sk : Nat → Int32) (n_db : Nat → Int32) (n_yr : Int32) (n_vi : Nat → Int32) (n_wy : Nat → Int32) (r_a : Nat → Nat) (r_lo : Nat → Int32) (r_sk : Nat → Int32) (r_db : Nat → Int32) (r_yr : Int32) (r_vi : Nat → Int32) (r_wy : Nat → Int32) (q_a : Nat → Nat) (q_fi : Nat) (q_co : Nat) (d_a : Nat → Nat) (d_cp : Nat → Int32) (d_ci : Nat → Int32) (d_n : Nat) (rg : Nat → Nat → Nat) (x : Int32) (hnf : l_nf ≤ 4) (hne : l_ne ≤ 5) : Ct g l yX5_about mX5_about ({ frames := 5, cells := 0, slots := 0, locals := 119 } : Room) [.ref (x_a 0), .int x] ((wX g x_a t_a l_a n_a r_a q_a d_a x_sd) ++ (wT g t_a t_n t_F) ++ (wL g l_a l_nf l_ne l_pl l_yl l_nd l_hm l_wk l_kd) ++ (wC g n_a l_a n_lo n_sk n_db n_yr n_vi n_wy) ++ (wC g r_a l_a r_lo r_sk r_db r_yr r_vi r_wy) ++ (wA g q_a (fun j => some (rg j 0)) q_fi q_co) ++ (wD g d_a d_cp d_ci d_n)) (fun r w' => ∃ (z_lo : Nat → Int32) (z_sk : Nat → Int32) (z_db : Nat → Int32) (z_yr : Int32) (z_vi : Nat → Int32) (z_wy : Nat → Int32), r = (some (.int (abR (l_nf, l_ne, l_pl, l_yl, l_nd, l_hm, l_wk, l_kd) n_lo n_sk n_db n_yr q_co d_n t_n x))) ∧ w' = (wX g x_a t_a l_a n_a r_a q_a d_a x_sd) ++ (wT g t_a t_n t_F) ++ (wL g l_a l_nf l_ne l_pl l_yl l_nd l_hm l_wk l_kd) ++ (wC g n_a l_a n_lo n_sk n_db n_yr n_vi n_wy) ++ (wC g r_a l_a z_lo z_sk z_db z_yr z_vi z_wy) ++ (wA g q_a (fun j => some (rg j 0)) q_fi q_co) ++ (wD g d_a d_cp d_ci d_n)) := by
  refine Ct.of (lv := [(0, .ref (x_a 0)), (1, .int x)]) ⟨by decide +kernel, rfl, Nat.le_of_ble_eq_true rfl⟩ rfl (fun E A sz Q X hQ => ?_)
  refine V_iload_n nX5_about_0 rfl ?_
  rcases (show x.toInt = 0 ∨ x.toInt = 1 ∨ x.toInt = 2 ∨ x.toInt = 3 ∨ x.toInt = 4 ∨ x.toInt = 5 ∨ x.toInt = 6 ∨ x.toInt = 7 ∨ x.toInt = 8 ∨ x.toInt = 9 ∨ x.toInt = 10 ∨ (x.toInt < 0 ∨ 10 < x.toInt) by omega) with hw | hw | hw | hw | hw | hw | hw | hw | hw | hw | hw | hw
  · skip
    refine V_tableIn (off := 59) (tgt := 60) nX5_about_1 (by omega) (by omega) (by rw [hw]; rfl) rfl ?_
    refine V_aload_n nX5_about_60 rfl ?_
    refine V_get5 0 1 (by decide) f_RX5_19 nX5_about_61 rfl rfl ?_
    refine V_get2 3 6 (by decide) f_RX5_87 nX5_about_64 rfl rfl ?_
    exact R_i rfl X hQ nX5_about_67 (by simp only [List.map_append, wA_fst, wC_fst, wD_fst, wL_fst, wT_fst, wX_fst]) (⟨_, _, _, _, _, _, by simp [abR, hw]; try rfl, rfl⟩)
  · skip
    refine V_tableIn (off := 67) (tgt := 68) nX5_about_1 (by omega) (by omega) (by rw [hw]; rfl) rfl ?_
    refine V_aload_n nX5_about_68 rfl ?_
    refine V_get5 0 1 (by decide) f_RX5_19 nX5_about_69 rfl rfl ?_
    refine V_get2 3 7 (by decide) f_RX5_90 nX5_about_72 rfl rfl ?_
    exact R_i rfl X hQ nX5_about_75 (by simp only [List.map_append, wA_fst, wC_fst, wD_fst, wL_fst, wT_fst, wX_fst]) (⟨_, _, _, _, _, _, by simp [abR, hw]; try rfl, rfl⟩)
  · skip
    refine V_tableIn (off := 75) (tgt := 76) nX5_about_1 (by omega) (by omega) (by rw [hw]; rfl) rfl ?_
    refine V_aload_n nX5_about_76 rfl ?_
    refine V_get5 0 2 (by decide) f_RX5_28 nX5_about_77 rfl rfl ?_
    refine V_get1 10 4 (by decide) f_RX5_93 nX5_about_80 rfl rfl ?_
    exact R_i rfl X hQ nX5_about_83 (by simp only [List.map_append, wA_fst, wC_fst, wD_fst, wL_fst, wT_fst, wX_fst]) (⟨_, _, _, _, _, _, by simp [abR, hw]; try rfl, rfl⟩)
  · skip
    refine V_tableIn (off := 83) (tgt := 84) nX5_about_1 (by omega) (by omega) (by rw [hw]; rfl) rfl ?_
    refine V_aload_n nX5_about_84 rfl ?_
    refine V_get5 0 2 (by decide) f_RX5_28 nX5_about_85 rfl rfl ?_
    refine V_blk (ws' := ((wC g n_a l_a n_lo n_sk n_db n_yr n_vi n_wy) ++ (wL g l_a l_nf l_ne l_pl l_yl l_nd l_hm l_wk l_kd)) ++ ((wX g x_a t_a l_a n_a r_a q_a d_a x_sd) ++ (wT g t_a t_n t_F) ++ (wC g r_a l_a r_lo r_sk r_db r_yr r_vi r_wy) ++ (wA g q_a (fun j => some (rg j 0)) q_fi q_co) ++ (wD g d_a d_cp d_ci d_n))) [wX g x_a t_a l_a n_a r_a q_a d_a x_sd, wT g t_a t_n t_F, wL g l_a l_nf l_ne l_pl l_yl l_nd l_hm l_wk l_kd, wC g n_a l_a n_lo n_sk n_db n_yr n_vi n_wy, wC g r_a l_a r_lo r_sk r_db r_yr r_vi r_wy, wA g q_a (fun j => some (rg j 0)) q_fi q_co, wD g d_a d_cp d_ci d_n] [3, 2, 0, 1, 4, 5, 6] rfl (by simp only [List.flatten_cons, List.flatten_nil, List.append_nil, List.append_assoc]) (by show List.flatten [wC g n_a l_a n_lo n_sk n_db n_yr n_vi n_wy, wL g l_a l_nf l_ne l_pl l_yl l_nd l_hm l_wk l_kd, wX g x_a t_a l_a n_a r_a q_a d_a x_sd, wT g t_a t_n t_F, wC g r_a l_a r_lo r_sk r_db r_yr r_vi r_wy, wA g q_a (fun j => some (rg j 0)) q_fi q_co, wD g d_a d_cp d_ci d_n] = _; simp only [List.flatten_cons, List.flatten_nil, List.append_nil, List.append_assoc]) ?_
    refine V_cVi (C := (RX1, TX1, 7)) (ci := 1) (ws' := ((wC g n_a l_a n_lo n_sk n_db n_yr n_vi n_wy) ++ (wL g l_a l_nf l_ne l_pl l_yl l_nd l_hm l_wk l_kd)) ++ ((wX g x_a t_a l_a n_a r_a q_a d_a x_sd) ++ (wT g t_a t_n t_F) ++ (wC g r_a l_a r_lo r_sk r_db r_yr r_vi r_wy) ++ (wA g q_a (fun j => some (rg j 0)) q_fi q_co) ++ (wD g d_a d_cp d_ci d_n))) (List.range _) 0 X (c_X1_allLoaves g l n_a n_lo n_sk n_db n_yr n_vi n_wy l_a l_nf l_ne l_pl l_yl l_nd l_hm l_wk l_kd   (by omega)) k_RX5_96 hy_X1_allLoaves (by decide) (range_at _ _) (range_nd _) 0 rfl rfl nX5_about_88 rfl rfl (Nat.le_of_ble_eq_true rfl) (wput_range _ _ _ (by simp only [List.length_append, wC_len, wL_len])) ?_
    refine V_blk (ws' := (wX g x_a t_a l_a n_a r_a q_a d_a x_sd) ++ (wT g t_a t_n t_F) ++ (wL g l_a l_nf l_ne l_pl l_yl l_nd l_hm l_wk l_kd) ++ (wC g n_a l_a n_lo n_sk n_db n_yr n_vi n_wy) ++ (wC g r_a l_a r_lo r_sk r_db r_yr r_vi r_wy) ++ (wA g q_a (fun j => some (rg j 0)) q_fi q_co) ++ (wD g d_a d_cp d_ci d_n)) [wC g n_a l_a n_lo n_sk n_db n_yr n_vi n_wy, wL g l_a l_nf l_ne l_pl l_yl l_nd l_hm l_wk l_kd, wX g x_a t_a l_a n_a r_a q_a d_a x_sd, wT g t_a t_n t_F, wC g r_a l_a r_lo r_sk r_db r_yr r_vi r_wy, wA g q_a (fun j => some (rg j 0)) q_fi q_co, wD g d_a d_cp d_ci d_n] [2, 3, 1, 0, 4, 5, 6] rfl (by simp only [List.flatten_cons, List.flatten_nil, List.append_nil, List.append_assoc]) (by show List.flatten [wX g x_a t_a l_a n_a r_a q_a d_a x_sd, wT g t_a t_n t_F, wL g l_a l_nf l_ne l_pl l_yl l_nd l_hm l_wk l_kd, wC g n_a l_a n_lo n_sk n_db n_yr n_vi n_wy, wC g r_a l_a r_lo r_sk r_db r_yr r_vi r_wy, wA g q_a (fun j => some (rg j 0)) q_fi q_co, wD g d_a d_cp d_ci d_n] = _; simp only [List.flatten_cons, List.flatten_nil, List.append_nil, List.append_assoc]) ?_
    exact R_i rfl X hQ nX5_about_91 (by simp only [List.map_append, wA_fst, wC_fst, wD_fst, wL_fst, wT_fst, wX_fst]) (⟨_, _, _, _, _, _, by simp [abR, hw]; try rfl, rfl⟩)
  · skip
    refine V_tableIn (off := 91) (tgt := 92) nX5_about_1 (by omega) (by omega) (by rw [hw]; rfl) rfl ?_
    refine V_aload_n nX5_about_92 rfl ?_
    refine V_get5 0 2 (by decide) f_RX5_28 nX5_about_93 rfl rfl ?_
    refine V_blk (ws' := ((wC g n_a l_a n_lo n_sk n_db n_yr n_vi n_wy) ++ (wL g l_a l_nf l_ne l_pl l_yl l_nd l_hm l_wk l_kd)) ++ ((wX g x_a t_a l_a n_a r_a q_a d_a x_sd) ++ (wT g t_a t_n t_F) ++ (wC g r_a l_a r_lo r_sk r_db r_yr r_vi r_wy) ++ (wA g q_a (fun j => some (rg j 0)) q_fi q_co) ++ (wD g d_a d_cp d_ci d_n))) [wX g x_a t_a l_a n_a r_a q_a d_a x_sd, wT g t_a t_n t_F, wL g l_a l_nf l_ne l_pl l_yl l_nd l_hm l_wk l_kd, wC g n_a l_a n_lo n_sk n_db n_yr n_vi n_wy, wC g r_a l_a r_lo r_sk r_db r_yr r_vi r_wy, wA g q_a (fun j => some (rg j 0)) q_fi q_co, wD g d_a d_cp d_ci d_n] [3, 2, 0, 1, 4, 5, 6] rfl (by simp only [List.flatten_cons, List.flatten_nil, List.append_nil, List.append_assoc]) (by show List.flatten [wC g n_a l_a n_lo n_sk n_db n_yr n_vi n_wy, wL g l_a l_nf l_ne l_pl l_yl l_nd l_hm l_wk l_kd, wX g x_a t_a l_a n_a r_a q_a d_a x_sd, wT g t_a t_n t_F, wC g r_a l_a r_lo r_sk r_db r_yr r_vi r_wy, wA g q_a (fun j => some (rg j 0)) q_fi q_co, wD g d_a d_cp d_ci d_n] = _; simp only [List.flatten_cons, List.flatten_nil, List.append_nil, List.append_assoc]) ?_
    refine V_cVi (C := (RX1, TX1, 7)) (ci := 1) (ws' := ((wC g n_a l_a n_lo n_sk n_db n_yr n_vi n_wy) ++ (wL g l_a l_nf l_ne l_pl l_yl l_nd l_hm l_wk l_kd)) ++ ((wX g x_a t_a l_a n_a r_a q_a d_a x_sd) ++ (wT g t_a t_n t_F) ++ (wC g r_a l_a r_lo r_sk r_db r_yr r_vi r_wy) ++ (wA g q_a (fun j => some (rg j 0)) q_fi q_co) ++ (wD g d_a d_cp d_ci d_n))) (List.range _) 0 X (c_X1_allSeed g l n_a n_lo n_sk n_db n_yr n_vi n_wy l_a l_nf l_ne l_pl l_yl l_nd l_hm l_wk l_kd   (by omega)) k_RX5_99 hy_X1_allSeed (by decide) (range_at _ _) (range_nd _) 0 rfl rfl nX5_about_96 rfl rfl (Nat.le_of_ble_eq_true rfl) (wput_range _ _ _ (by simp only [List.length_append, wC_len, wL_len])) ?_
    refine V_blk (ws' := (wX g x_a t_a l_a n_a r_a q_a d_a x_sd) ++ (wT g t_a t_n t_F) ++ (wL g l_a l_nf l_ne l_pl l_yl l_nd l_hm l_wk l_kd) ++ (wC g n_a l_a n_lo n_sk n_db n_yr n_vi n_wy) ++ (wC g r_a l_a r_lo r_sk r_db r_yr r_vi r_wy) ++ (wA g q_a (fun j => some (rg j 0)) q_fi q_co) ++ (wD g d_a d_cp d_ci d_n)) [wC g n_a l_a n_lo n_sk n_db n_yr n_vi n_wy, wL g l_a l_nf l_ne l_pl l_yl l_nd l_hm l_wk l_kd, wX g x_a t_a l_a n_a r_a q_a d_a x_sd, wT g t_a t_n t_F, wC g r_a l_a r_lo r_sk r_db r_yr r_vi r_wy, wA g q_a (fun j => some (rg j 0)) q_fi q_co, wD g d_a d_cp d_ci d_n] [2, 3, 1, 0, 4, 5, 6] rfl (by simp only [List.flatten_cons, List.flatten_nil, List.append_nil, List.append_assoc]) (by show List.flatten [wX g x_a t_a l_a n_a r_a q_a d_a x_sd, wT g t_a t_n t_F, wL g l_a l_nf l_ne l_pl l_yl l_nd l_hm l_wk l_kd, wC g n_a l_a n_lo n_sk n_db n_yr n_vi n_wy, wC g r_a l_a r_lo r_sk r_db r_yr r_vi r_wy, wA g q_a (fun j => some (rg j 0)) q_fi q_co, wD g d_a d_cp d_ci d_n] = _; simp only [List.flatten_cons, List.flatten_nil, List.append_nil, List.append_assoc]) ?_
    exact R_i rfl X hQ nX5_about_99 (by simp only [List.map_append, wA_fst, wC_fst, wD_fst, wL_fst, wT_fst, wX_fst]) (⟨_, _, _, _, _, _, by simp [abR, hw]; try rfl, rfl⟩)
  · skip
    refine V_tableIn (off := 99) (tgt := 100) nX5_about_1 (by omega) (by omega) (by rw [hw]; rfl) rfl ?_
    refine V_aload_n nX5_about_100 rfl ?_
    refine V_get5 0 2 (by decide) f_RX5_28 nX5_about_101 rfl rfl ?_
    refine V_blk (ws' := ((wC g n_a l_a n_lo n_sk n_db n_yr n_vi n_wy) ++ (wL g l_a l_nf l_ne l_pl l_yl l_nd l_hm l_wk l_kd)) ++ ((wX g x_a t_a l_a n_a r_a q_a d_a x_sd) ++ (wT g t_a t_n t_F) ++ (wC g r_a l_a r_lo r_sk r_db r_yr r_vi r_wy) ++ (wA g q_a (fun j => some (rg j 0)) q_fi q_co) ++ (wD g d_a d_cp d_ci d_n))) [wX g x_a t_a l_a n_a r_a q_a d_a x_sd, wT g t_a t_n t_F, wL g l_a l_nf l_ne l_pl l_yl l_nd l_hm l_wk l_kd, wC g n_a l_a n_lo n_sk n_db n_yr n_vi n_wy, wC g r_a l_a r_lo r_sk r_db r_yr r_vi r_wy, wA g q_a (fun j => some (rg j 0)) q_fi q_co, wD g d_a d_cp d_ci d_n] [3, 2, 0, 1, 4, 5, 6] rfl (by simp only [List.flatten_cons, List.flatten_nil, List.append_nil, List.append_assoc]) (by show List.flatten [wC g n_a l_a n_lo n_sk n_db n_yr n_vi n_wy, wL g l_a l_nf l_ne l_pl l_yl l_nd l_hm l_wk l_kd, wX g x_a t_a l_a n_a r_a q_a d_a x_sd, wT g t_a t_n t_F, wC g r_a l_a r_lo r_sk r_db r_yr r_vi r_wy, wA g q_a (fun j => some (rg j 0)) q_fi q_co, wD g d_a d_cp d_ci d_n] = _; simp only [List.flatten_cons, List.flatten_nil, List.append_nil, List.append_assoc]) ?_
    refine V_cVi (C := (RX1, TX1, 7)) (ci := 1) (ws' := ((wC g n_a l_a n_lo n_sk n_db n_yr n_vi n_wy) ++ (wL g l_a l_nf l_ne l_pl l_yl l_nd l_hm l_wk l_kd)) ++ ((wX g x_a t_a l_a n_a r_a q_a d_a x_sd) ++ (wT g t_a t_n t_F) ++ (wC g r_a l_a r_lo r_sk r_db r_yr r_vi r_wy) ++ (wA g q_a (fun j => some (rg j 0)) q_fi q_co) ++ (wD g d_a d_cp d_ci d_n))) (List.range _) 0 X (c_X1_allDebts g l n_a n_lo n_sk n_db n_yr n_vi n_wy l_a l_nf l_ne l_pl l_yl l_nd l_hm l_wk l_kd   (by omega) (by omega)) k_RX5_102 hy_X1_allDebts (by decide) (range_at _ _) (range_nd _) 0 rfl rfl nX5_about_104 rfl rfl (Nat.le_of_ble_eq_true rfl) (wput_range _ _ _ (by simp only [List.length_append, wC_len, wL_len])) ?_
    refine V_blk (ws' := (wX g x_a t_a l_a n_a r_a q_a d_a x_sd) ++ (wT g t_a t_n t_F) ++ (wL g l_a l_nf l_ne l_pl l_yl l_nd l_hm l_wk l_kd) ++ (wC g n_a l_a n_lo n_sk n_db n_yr n_vi n_wy) ++ (wC g r_a l_a r_lo r_sk r_db r_yr r_vi r_wy) ++ (wA g q_a (fun j => some (rg j 0)) q_fi q_co) ++ (wD g d_a d_cp d_ci d_n)) [wC g n_a l_a n_lo n_sk n_db n_yr n_vi n_wy, wL g l_a l_nf l_ne l_pl l_yl l_nd l_hm l_wk l_kd, wX g x_a t_a l_a n_a r_a q_a d_a x_sd, wT g t_a t_n t_F, wC g r_a l_a r_lo r_sk r_db r_yr r_vi r_wy, wA g q_a (fun j => some (rg j 0)) q_fi q_co, wD g d_a d_cp d_ci d_n] [2, 3, 1, 0, 4, 5, 6] rfl (by simp only [List.flatten_cons, List.flatten_nil, List.append_nil, List.append_assoc]) (by show List.flatten [wX g x_a t_a l_a n_a r_a q_a d_a x_sd, wT g t_a t_n t_F, wL g l_a l_nf l_ne l_pl l_yl l_nd l_hm l_wk l_kd, wC g n_a l_a n_lo n_sk n_db n_yr n_vi n_wy, wC g r_a l_a r_lo r_sk r_db r_yr r_vi r_wy, wA g q_a (fun j => some (rg j 0)) q_fi q_co, wD g d_a d_cp d_ci d_n] = _; simp only [List.flatten_cons, List.flatten_nil, List.append_nil, List.append_assoc]) ?_
    exact R_i rfl X hQ nX5_about_107 (by simp only [List.map_append, wA_fst, wC_fst, wD_fst, wL_fst, wT_fst, wX_fst]) (⟨_, _, _, _, _, _, by simp [abR, hw]; try rfl, rfl⟩)
  · skip
    refine V_tableIn (off := 107) (tgt := 108) nX5_about_1 (by omega) (by omega) (by rw [hw]; rfl) rfl ?_
    refine V_aload_n nX5_about_108 rfl ?_
    refine V_get5 0 2 (by decide) f_RX5_28 nX5_about_109 rfl rfl ?_
    refine V_blk (ws' := ((wC g n_a l_a n_lo n_sk n_db n_yr n_vi n_wy) ++ (wL g l_a l_nf l_ne l_pl l_yl l_nd l_hm l_wk l_kd)) ++ ((wX g x_a t_a l_a n_a r_a q_a d_a x_sd) ++ (wT g t_a t_n t_F) ++ (wC g r_a l_a r_lo r_sk r_db r_yr r_vi r_wy) ++ (wA g q_a (fun j => some (rg j 0)) q_fi q_co) ++ (wD g d_a d_cp d_ci d_n))) [wX g x_a t_a l_a n_a r_a q_a d_a x_sd, wT g t_a t_n t_F, wL g l_a l_nf l_ne l_pl l_yl l_nd l_hm l_wk l_kd, wC g n_a l_a n_lo n_sk n_db n_yr n_vi n_wy, wC g r_a l_a r_lo r_sk r_db r_yr r_vi r_wy, wA g q_a (fun j => some (rg j 0)) q_fi q_co, wD g d_a d_cp d_ci d_n] [3, 2, 0, 1, 4, 5, 6] rfl (by simp only [List.flatten_cons, List.flatten_nil, List.append_nil, List.append_assoc]) (by show List.flatten [wC g n_a l_a n_lo n_sk n_db n_yr n_vi n_wy, wL g l_a l_nf l_ne l_pl l_yl l_nd l_hm l_wk l_kd, wX g x_a t_a l_a n_a r_a q_a d_a x_sd, wT g t_a t_n t_F, wC g r_a l_a r_lo r_sk r_db r_yr r_vi r_wy, wA g q_a (fun j => some (rg j 0)) q_fi q_co, wD g d_a d_cp d_ci d_n] = _; simp only [List.flatten_cons, List.flatten_nil, List.append_nil, List.append_assoc]) ?_
    refine V_cVi (C := (RX1, TX1, 7)) (ci := 1) (ws' := ((wC g n_a l_a n_lo n_sk n_db n_yr n_vi n_wy) ++ (wL g l_a l_nf l_ne l_pl l_yl l_nd l_hm l_wk l_kd)) ++ ((wX g x_a t_a l_a n_a r_a q_a d_a x_sd) ++ (wT g t_a t_n t_F) ++ (wC g r_a l_a r_lo r_sk r_db r_yr r_vi r_wy) ++ (wA g q_a (fun j => some (rg j 0)) q_fi q_co) ++ (wD g d_a d_cp d_ci d_n))) (List.range _) 0 X (c_X1_sownFields g l n_a n_lo n_sk n_db n_yr n_vi n_wy l_a l_nf l_ne l_pl l_yl l_nd l_hm l_wk l_kd   (by omega)) k_RX5_105 hy_X1_sownFields (by decide) (range_at _ _) (range_nd _) 0 rfl rfl nX5_about_112 rfl rfl (Nat.le_of_ble_eq_true rfl) (wput_range _ _ _ (by simp only [List.length_append, wC_len, wL_len])) ?_
    refine V_blk (ws' := (wX g x_a t_a l_a n_a r_a q_a d_a x_sd) ++ (wT g t_a t_n t_F) ++ (wL g l_a l_nf l_ne l_pl l_yl l_nd l_hm l_wk l_kd) ++ (wC g n_a l_a n_lo n_sk n_db n_yr n_vi n_wy) ++ (wC g r_a l_a r_lo r_sk r_db r_yr r_vi r_wy) ++ (wA g q_a (fun j => some (rg j 0)) q_fi q_co) ++ (wD g d_a d_cp d_ci d_n)) [wC g n_a l_a n_lo n_sk n_db n_yr n_vi n_wy, wL g l_a l_nf l_ne l_pl l_yl l_nd l_hm l_wk l_kd, wX g x_a t_a l_a n_a r_a q_a d_a x_sd, wT g t_a t_n t_F, wC g r_a l_a r_lo r_sk r_db r_yr r_vi r_wy, wA g q_a (fun j => some (rg j 0)) q_fi q_co, wD g d_a d_cp d_ci d_n] [2, 3, 1, 0, 4, 5, 6] rfl (by simp only [List.flatten_cons, List.flatten_nil, List.append_nil, List.append_assoc]) (by show List.flatten [wX g x_a t_a l_a n_a r_a q_a d_a x_sd, wT g t_a t_n t_F, wL g l_a l_nf l_ne l_pl l_yl l_nd l_hm l_wk l_kd, wC g n_a l_a n_lo n_sk n_db n_yr n_vi n_wy, wC g r_a l_a r_lo r_sk r_db r_yr r_vi r_wy, wA g q_a (fun j => some (rg j 0)) q_fi q_co, wD g d_a d_cp d_ci d_n] = _; simp only [List.flatten_cons, List.flatten_nil, List.append_nil, List.append_assoc]) ?_
    exact R_i rfl X hQ nX5_about_115 (by simp only [List.map_append, wA_fst, wC_fst, wD_fst, wL_fst, wT_fst, wX_fst]) (⟨_, _, _, _, _, _, by simp [abR, hw]; try rfl, rfl⟩)
  · skip
    refine V_tableIn (off := 115) (tgt := 116) nX5_about_1 (by omega) (by omega) (by rw [hw]; rfl) rfl ?_
    refine V_aload_n nX5_about_116 rfl ?_
    refine V_aload_n nX5_about_117 rfl ?_
    refine V_get5 0 1 (by decide) f_RX5_19 nX5_about_118 rfl rfl ?_
    refine V_blk (ws' := ((wL g l_a l_nf l_ne l_pl l_yl l_nd l_hm l_wk l_kd)) ++ ((wX g x_a t_a l_a n_a r_a q_a d_a x_sd) ++ (wT g t_a t_n t_F) ++ (wC g n_a l_a n_lo n_sk n_db n_yr n_vi n_wy) ++ (wC g r_a l_a r_lo r_sk r_db r_yr r_vi r_wy) ++ (wA g q_a (fun j => some (rg j 0)) q_fi q_co) ++ (wD g d_a d_cp d_ci d_n))) [wX g x_a t_a l_a n_a r_a q_a d_a x_sd, wT g t_a t_n t_F, wL g l_a l_nf l_ne l_pl l_yl l_nd l_hm l_wk l_kd, wC g n_a l_a n_lo n_sk n_db n_yr n_vi n_wy, wC g r_a l_a r_lo r_sk r_db r_yr r_vi r_wy, wA g q_a (fun j => some (rg j 0)) q_fi q_co, wD g d_a d_cp d_ci d_n] [2, 0, 1, 3, 4, 5, 6] rfl (by simp only [List.flatten_cons, List.flatten_nil, List.append_nil, List.append_assoc]) (by show List.flatten [wL g l_a l_nf l_ne l_pl l_yl l_nd l_hm l_wk l_kd, wX g x_a t_a l_a n_a r_a q_a d_a x_sd, wT g t_a t_n t_F, wC g n_a l_a n_lo n_sk n_db n_yr n_vi n_wy, wC g r_a l_a r_lo r_sk r_db r_yr r_vi r_wy, wA g q_a (fun j => some (rg j 0)) q_fi q_co, wD g d_a d_cp d_ci d_n] = _; simp only [List.flatten_cons, List.flatten_nil, List.append_nil, List.append_assoc]) ?_
    refine V_cVi (C := (RX2, TX2, 8)) (ci := 2) (ws' := ((wL g l_a l_nf l_ne l_pl l_yl l_nd l_hm l_wk l_kd)) ++ ((wX g x_a t_a l_a n_a r_a q_a d_a x_sd) ++ (wT g t_a t_n t_F) ++ (wC g n_a l_a n_lo n_sk n_db n_yr n_vi n_wy) ++ (wC g r_a l_a r_lo r_sk r_db r_yr r_vi r_wy) ++ (wA g q_a (fun j => some (rg j 0)) q_fi q_co) ++ (wD g d_a d_cp d_ci d_n))) (List.range _) 0 X (c_X2_allEaters g l l_a l_nf l_ne l_pl l_yl l_nd l_hm l_wk l_kd   (by omega)) k_RX5_108 hy_X2_allEaters (by decide) (range_at _ _) (range_nd _) 0 rfl rfl nX5_about_121 rfl rfl (Nat.le_of_ble_eq_true rfl) (wput_range _ _ _ (by simp only [List.length_append, wL_len])) ?_
    refine V_blk (ws' := (wX g x_a t_a l_a n_a r_a q_a d_a x_sd) ++ (wT g t_a t_n t_F) ++ (wL g l_a l_nf l_ne l_pl l_yl l_nd l_hm l_wk l_kd) ++ (wC g n_a l_a n_lo n_sk n_db n_yr n_vi n_wy) ++ (wC g r_a l_a r_lo r_sk r_db r_yr r_vi r_wy) ++ (wA g q_a (fun j => some (rg j 0)) q_fi q_co) ++ (wD g d_a d_cp d_ci d_n)) [wL g l_a l_nf l_ne l_pl l_yl l_nd l_hm l_wk l_kd, wX g x_a t_a l_a n_a r_a q_a d_a x_sd, wT g t_a t_n t_F, wC g n_a l_a n_lo n_sk n_db n_yr n_vi n_wy, wC g r_a l_a r_lo r_sk r_db r_yr r_vi r_wy, wA g q_a (fun j => some (rg j 0)) q_fi q_co, wD g d_a d_cp d_ci d_n] [1, 2, 0, 3, 4, 5, 6] rfl (by simp only [List.flatten_cons, List.flatten_nil, List.append_nil, List.append_assoc]) (by show List.flatten [wX g x_a t_a l_a n_a r_a q_a d_a x_sd, wT g t_a t_n t_F, wL g l_a l_nf l_ne l_pl l_yl l_nd l_hm l_wk l_kd, wC g n_a l_a n_lo n_sk n_db n_yr n_vi n_wy, wC g r_a l_a r_lo r_sk r_db r_yr r_vi r_wy, wA g q_a (fun j => some (rg j 0)) q_fi q_co, wD g d_a d_cp d_ci d_n] = _; simp only [List.flatten_cons, List.flatten_nil, List.append_nil, List.append_assoc]) ?_
    refine V_blk (ws' := ((wX g x_a t_a l_a n_a r_a q_a d_a x_sd) ++ (wL g l_a l_nf l_ne l_pl l_yl l_nd l_hm l_wk l_kd) ++ (wC g n_a l_a n_lo n_sk n_db n_yr n_vi n_wy) ++ (wC g r_a l_a r_lo r_sk r_db r_yr r_vi r_wy)) ++ ((wT g t_a t_n t_F) ++ (wA g q_a (fun j => some (rg j 0)) q_fi q_co) ++ (wD g d_a d_cp d_ci d_n))) [wX g x_a t_a l_a n_a r_a q_a d_a x_sd, wT g t_a t_n t_F, wL g l_a l_nf l_ne l_pl l_yl l_nd l_hm l_wk l_kd, wC g n_a l_a n_lo n_sk n_db n_yr n_vi n_wy, wC g r_a l_a r_lo r_sk r_db r_yr r_vi r_wy, wA g q_a (fun j => some (rg j 0)) q_fi q_co, wD g d_a d_cp d_ci d_n] [0, 2, 3, 4, 1, 5, 6] rfl (by simp only [List.flatten_cons, List.flatten_nil, List.append_nil, List.append_assoc]) (by show List.flatten [wX g x_a t_a l_a n_a r_a q_a d_a x_sd, wL g l_a l_nf l_ne l_pl l_yl l_nd l_hm l_wk l_kd, wC g n_a l_a n_lo n_sk n_db n_yr n_vi n_wy, wC g r_a l_a r_lo r_sk r_db r_yr r_vi r_wy, wT g t_a t_n t_F, wA g q_a (fun j => some (rg j 0)) q_fi q_co, wD g d_a d_cp d_ci d_n] = _; simp only [List.flatten_cons, List.flatten_nil, List.append_nil, List.append_assoc]) ?_
    refine V_cVi (C := (RX5, TX5, 10)) (ci := 5) (ws' := ((wX g x_a t_a l_a n_a r_a q_a d_a x_sd) ++ (wL g l_a l_nf l_ne l_pl l_yl l_nd l_hm l_wk l_kd) ++ (wC g n_a l_a n_lo n_sk n_db n_yr n_vi n_wy) ++ (wC g r_a l_a ((marC (l_nf, l_ne, l_pl, l_yl, l_nd, l_hm, l_wk, l_kd) (2 ^ l_ne - 1) (n_lo, n_sk, n_db, n_yr, r_vi, r_wy)).1) ((marC (l_nf, l_ne, l_pl, l_yl, l_nd, l_hm, l_wk, l_kd) (2 ^ l_ne - 1) (n_lo, n_sk, n_db, n_yr, r_vi, r_wy)).2.1) ((marC (l_nf, l_ne, l_pl, l_yl, l_nd, l_hm, l_wk, l_kd) (2 ^ l_ne - 1) (n_lo, n_sk, n_db, n_yr, r_vi, r_wy)).2.2.1) ((marC (l_nf, l_ne, l_pl, l_yl, l_nd, l_hm, l_wk, l_kd) (2 ^ l_ne - 1) (n_lo, n_sk, n_db, n_yr, r_vi, r_wy)).2.2.2.1) ((marC (l_nf, l_ne, l_pl, l_yl, l_nd, l_hm, l_wk, l_kd) (2 ^ l_ne - 1) (n_lo, n_sk, n_db, n_yr, r_vi, r_wy)).2.2.2.2.1) ((marC (l_nf, l_ne, l_pl, l_yl, l_nd, l_hm, l_wk, l_kd) (2 ^ l_ne - 1) (n_lo, n_sk, n_db, n_yr, r_vi, r_wy)).2.2.2.2.2))) ++ ((wT g t_a t_n t_F) ++ (wA g q_a (fun j => some (rg j 0)) q_fi q_co) ++ (wD g d_a d_cp d_ci d_n))) (List.range _) 1 X (c_X5_sownIfCome g l x_a t_a q_a d_a x_sd l_a l_nf l_ne l_pl l_yl l_nd l_hm l_wk l_kd n_a n_lo n_sk n_db n_yr n_vi n_wy r_a r_lo r_sk r_db r_yr r_vi r_wy  (2 ^ l_ne - 1) (by omega) (by omega) (by have := allN_lt (L := (l_nf, l_ne, l_pl, l_yl, l_nd, l_hm, l_wk, l_kd)) hne; have e : allN (l_nf, l_ne, l_pl, l_yl, l_nd, l_hm, l_wk, l_kd) = 2 ^ l_ne - 1 := rfl; omega)) k_RX5_111 hy_X5_sownIfCome (by decide) (range_at _ _) (range_nd _) 0 rfl rfl nX5_about_124 rfl rfl (Nat.le_of_ble_eq_true rfl) (wput_range _ _ _ (by simp only [List.length_append, wC_len, wL_len, wX_len])) ?_
    refine V_blk (ws' := (wX g x_a t_a l_a n_a r_a q_a d_a x_sd) ++ (wT g t_a t_n t_F) ++ (wL g l_a l_nf l_ne l_pl l_yl l_nd l_hm l_wk l_kd) ++ (wC g n_a l_a n_lo n_sk n_db n_yr n_vi n_wy) ++ (wC g r_a l_a ((marC (l_nf, l_ne, l_pl, l_yl, l_nd, l_hm, l_wk, l_kd) (2 ^ l_ne - 1) (n_lo, n_sk, n_db, n_yr, r_vi, r_wy)).1) ((marC (l_nf, l_ne, l_pl, l_yl, l_nd, l_hm, l_wk, l_kd) (2 ^ l_ne - 1) (n_lo, n_sk, n_db, n_yr, r_vi, r_wy)).2.1) ((marC (l_nf, l_ne, l_pl, l_yl, l_nd, l_hm, l_wk, l_kd) (2 ^ l_ne - 1) (n_lo, n_sk, n_db, n_yr, r_vi, r_wy)).2.2.1) ((marC (l_nf, l_ne, l_pl, l_yl, l_nd, l_hm, l_wk, l_kd) (2 ^ l_ne - 1) (n_lo, n_sk, n_db, n_yr, r_vi, r_wy)).2.2.2.1) ((marC (l_nf, l_ne, l_pl, l_yl, l_nd, l_hm, l_wk, l_kd) (2 ^ l_ne - 1) (n_lo, n_sk, n_db, n_yr, r_vi, r_wy)).2.2.2.2.1) ((marC (l_nf, l_ne, l_pl, l_yl, l_nd, l_hm, l_wk, l_kd) (2 ^ l_ne - 1) (n_lo, n_sk, n_db, n_yr, r_vi, r_wy)).2.2.2.2.2)) ++ (wA g q_a (fun j => some (rg j 0)) q_fi q_co) ++ (wD g d_a d_cp d_ci d_n)) [wX g x_a t_a l_a n_a r_a q_a d_a x_sd, wL g l_a l_nf l_ne l_pl l_yl l_nd l_hm l_wk l_kd, wC g n_a l_a n_lo n_sk n_db n_yr n_vi n_wy, wC g r_a l_a ((marC (l_nf, l_ne, l_pl, l_yl, l_nd, l_hm, l_wk, l_kd) (2 ^ l_ne - 1) (n_lo, n_sk, n_db, n_yr, r_vi, r_wy)).1) ((marC (l_nf, l_ne, l_pl, l_yl, l_nd, l_hm, l_wk, l_kd) (2 ^ l_ne - 1) (n_lo, n_sk, n_db, n_yr, r_vi, r_wy)).2.1) ((marC (l_nf, l_ne, l_pl, l_yl, l_nd, l_hm, l_wk, l_kd) (2 ^ l_ne - 1) (n_lo, n_sk, n_db, n_yr, r_vi, r_wy)).2.2.1) ((marC (l_nf, l_ne, l_pl, l_yl, l_nd, l_hm, l_wk, l_kd) (2 ^ l_ne - 1) (n_lo, n_sk, n_db, n_yr, r_vi, r_wy)).2.2.2.1) ((marC (l_nf, l_ne, l_pl, l_yl, l_nd, l_hm, l_wk, l_kd) (2 ^ l_ne - 1) (n_lo, n_sk, n_db, n_yr, r_vi, r_wy)).2.2.2.2.1) ((marC (l_nf, l_ne, l_pl, l_yl, l_nd, l_hm, l_wk, l_kd) (2 ^ l_ne - 1) (n_lo, n_sk, n_db, n_yr, r_vi, r_wy)).2.2.2.2.2), wT g t_a t_n t_F, wA g q_a (fun j => some (rg j 0)) q_fi q_co, wD g d_a d_cp d_ci d_n] [0, 4, 1, 2, 3, 5, 6] rfl (by simp only [List.flatten_cons, List.flatten_nil, List.append_nil, List.append_assoc]) (by show List.flatten [wX g x_a t_a l_a n_a r_a q_a d_a x_sd, wT g t_a t_n t_F, wL g l_a l_nf l_ne l_pl l_yl l_nd l_hm l_wk l_kd, wC g n_a l_a n_lo n_sk n_db n_yr n_vi n_wy, wC g r_a l_a ((marC (l_nf, l_ne, l_pl, l_yl, l_nd, l_hm, l_wk, l_kd) (2 ^ l_ne - 1) (n_lo, n_sk, n_db, n_yr, r_vi, r_wy)).1) ((marC (l_nf, l_ne, l_pl, l_yl, l_nd, l_hm, l_wk, l_kd) (2 ^ l_ne - 1) (n_lo, n_sk, n_db, n_yr, r_vi, r_wy)).2.1) ((marC (l_nf, l_ne, l_pl, l_yl, l_nd, l_hm, l_wk, l_kd) (2 ^ l_ne - 1) (n_lo, n_sk, n_db, n_yr, r_vi, r_wy)).2.2.1) ((marC (l_nf, l_ne, l_pl, l_yl, l_nd, l_hm, l_wk, l_kd) (2 ^ l_ne - 1) (n_lo, n_sk, n_db, n_yr, r_vi, r_wy)).2.2.2.1) ((marC (l_nf, l_ne, l_pl, l_yl, l_nd, l_hm, l_wk, l_kd) (2 ^ l_ne - 1) (n_lo, n_sk, n_db, n_yr, r_vi, r_wy)).2.2.2.2.1) ((marC (l_nf, l_ne, l_pl, l_yl, l_nd, l_hm, l_wk, l_kd) (2 ^ l_ne - 1) (n_lo, n_sk, n_db, n_yr, r_vi, r_wy)).2.2.2.2.2), wA g q_a (fun j => some (rg j 0)) q_fi q_co, wD g d_a d_cp d_ci d_n] = _; simp only [List.flatten_cons, List.flatten_nil, List.append_nil, List.append_assoc]) ?_
    exact R_i rfl X hQ nX5_about_127 (by simp only [List.map_append, wA_fst, wC_fst, wD_fst, wL_fst, wT_fst, wX_fst]) (⟨_, _, _, _, _, _, by simp [abR, hw]; try rfl, rfl⟩)
  · skip
    refine V_tableIn (off := 127) (tgt := 128) nX5_about_1 (by omega) (by omega) (by rw [hw]; rfl) rfl ?_
    refine V_aload_n nX5_about_128 rfl ?_
    refine V_get5 0 4 (by decide) f_RX5_38 nX5_about_129 rfl rfl ?_
    refine V_get0 22 2 (by decide) f_RX5_84 nX5_about_132 rfl rfl ?_
    exact R_i rfl X hQ nX5_about_135 (by simp only [List.map_append, wA_fst, wC_fst, wD_fst, wL_fst, wT_fst, wX_fst]) (⟨_, _, _, _, _, _, by simp [abR, hw]; try rfl, rfl⟩)
  · skip
    refine V_tableIn (off := 135) (tgt := 136) nX5_about_1 (by omega) (by omega) (by rw [hw]; rfl) rfl ?_
    refine V_aload_n nX5_about_136 rfl ?_
    refine V_get5 0 5 (by decide) f_RX5_45 nX5_about_137 rfl rfl ?_
    refine V_get4 24 2 (by decide) f_RX5_115 nX5_about_140 rfl rfl ?_
    exact R_i rfl X hQ nX5_about_143 (by simp only [List.map_append, wA_fst, wC_fst, wD_fst, wL_fst, wT_fst, wX_fst]) (⟨_, _, _, _, _, _, by simp [abR, hw]; try rfl, rfl⟩)
  · skip
    refine V_tableIn (off := 143) (tgt := 144) nX5_about_1 (by omega) (by omega) (by rw [hw]; rfl) rfl ?_
    refine V_aload_n nX5_about_144 rfl ?_
    refine V_get5 0 0 (by decide) f_RX5_10 nX5_about_145 rfl rfl ?_
    refine V_get3 1 1 (by decide) f_RX5_65 nX5_about_148 rfl rfl ?_
    exact R_i rfl X hQ nX5_about_151 (by simp only [List.map_append, wA_fst, wC_fst, wD_fst, wL_fst, wT_fst, wX_fst]) (⟨_, _, _, _, _, _, by simp [abR, hw]; try rfl, rfl⟩)
  · skip
    have hw0 : ¬ x.toInt = 0 := by omega
    have hw1 : ¬ x.toInt = 1 := by omega
    have hw2 : ¬ x.toInt = 2 := by omega
    have hw3 : ¬ x.toInt = 3 := by omega
    have hw4 : ¬ x.toInt = 4 := by omega
    have hw5 : ¬ x.toInt = 5 := by omega
    have hw6 : ¬ x.toInt = 6 := by omega
    have hw7 : ¬ x.toInt = 7 := by omega
    have hw8 : ¬ x.toInt = 8 := by omega
    have hw9 : ¬ x.toInt = 9 := by omega
    have hw10 : ¬ x.toInt = 10 := by omega
    refine V_tableOut (tgt := 152) nX5_about_1 hw rfl ?_
    refine V_bipush (v := (-2)) nX5_about_152 (by decide) ?_
    exact R_i rfl X hQ nX5_about_154 (by simp only [List.map_append, wA_fst, wC_fst, wD_fst, wL_fst, wT_fst, wX_fst]) (⟨_, _, _, _, _, _, by simp [abR, hw0, hw1, hw2, hw3, hw4, hw5, hw6, hw7, hw8, hw9, hw10]; try rfl, rfl⟩)

set_option maxHeartbeats 4000000 in
set_option maxRecDepth 100000 in
theorem c_X5_field (g : Gx) (l : Launch) (x_a : Nat → Nat) (x_ta : Nat → Nat) (x_ra : Nat → Nat) (x_aa : Nat → Nat) (x_da : Nat → Nat) (x_sd : Int64) (l_a : Nat → Nat) (l_nf : Nat) (l_ne : Nat) (l_pl : Nat → Int32) (l_yl : Nat → Int32) (l_nd : Nat → Int32) (l_hm : Nat → Int32) (l_wk : Nat → Int32) (l_kd : Nat → Int32) (n_a : Nat → Nat) (n_lo : Nat → Int32) (n_sk : Nat → Int32) (n_db : Nat → Int32) (n_yr : Int32) (n_vi : Nat → Int32) (n_wy : Nat → Int32)  (x : Int32) (y : Int32) (hnf : l_nf ≤ 4) (hne : l_ne ≤ 5) : Cd g l yX5_field mX5_field ({ frames := 2, cells := 0, slots := 0, locals := 45 } : Room) [.ref (x_a 0), .int x, .int y] ((wX g x_a x_ta l_a n_a x_ra x_aa x_da x_sd) ++ (wL g l_a l_nf l_ne l_pl l_yl l_nd l_hm l_wk l_kd) ++ (wC g n_a l_a n_lo n_sk n_db n_yr n_vi n_wy)) (some (.int (fiR (l_nf, l_ne, l_pl, l_yl, l_nd, l_hm, l_wk, l_kd) n_lo n_sk n_db x y))) ((wX g x_a x_ta l_a n_a x_ra x_aa x_da x_sd) ++ (wL g l_a l_nf l_ne l_pl l_yl l_nd l_hm l_wk l_kd) ++ (wC g n_a l_a n_lo n_sk n_db n_yr n_vi n_wy)) := by
  refine Ct.of (lv := [(0, .ref (x_a 0)), (1, .int x), (2, .int y)]) ⟨by decide +kernel, rfl, Nat.le_of_ble_eq_true rfl⟩ rfl (fun E A sz Q X hQ => ?_)
  refine V_aload_n nX5_field_0 rfl ?_
  refine V_get5 0 1 (by decide) f_RX5_19 nX5_field_1 rfl rfl ?_
  refine V_iload_n nX5_field_4 rfl ?_
  refine V_blk (ws' := ((wL g l_a l_nf l_ne l_pl l_yl l_nd l_hm l_wk l_kd)) ++ ((wX g x_a x_ta l_a n_a x_ra x_aa x_da x_sd) ++ (wC g n_a l_a n_lo n_sk n_db n_yr n_vi n_wy))) [wX g x_a x_ta l_a n_a x_ra x_aa x_da x_sd, wL g l_a l_nf l_ne l_pl l_yl l_nd l_hm l_wk l_kd, wC g n_a l_a n_lo n_sk n_db n_yr n_vi n_wy] [1, 0, 2] rfl (by simp only [List.flatten_cons, List.flatten_nil, List.append_nil, List.append_assoc]) (by show List.flatten [wL g l_a l_nf l_ne l_pl l_yl l_nd l_hm l_wk l_kd, wX g x_a x_ta l_a n_a x_ra x_aa x_da x_sd, wC g n_a l_a n_lo n_sk n_db n_yr n_vi n_wy] = _; simp only [List.flatten_cons, List.flatten_nil, List.append_nil, List.append_assoc]) ?_
  refine V_cVi (C := (RX2, TX2, 8)) (ci := 2) (ws' := ((wL g l_a l_nf l_ne l_pl l_yl l_nd l_hm l_wk l_kd)) ++ ((wX g x_a x_ta l_a n_a x_ra x_aa x_da x_sd) ++ (wC g n_a l_a n_lo n_sk n_db n_yr n_vi n_wy))) (List.range _) 1 X (c_X2_hasField g l l_a l_nf l_ne l_pl l_yl l_nd l_hm l_wk l_kd  x (by omega)) k_RX5_116 hy_X2_hasField (by decide) (range_at _ _) (range_nd _) 0 rfl rfl nX5_field_5 rfl rfl (Nat.le_of_ble_eq_true rfl) (wput_range _ _ _ (by simp only [List.length_append, wL_len])) ?_
  refine V_blk (ws' := (wX g x_a x_ta l_a n_a x_ra x_aa x_da x_sd) ++ (wL g l_a l_nf l_ne l_pl l_yl l_nd l_hm l_wk l_kd) ++ (wC g n_a l_a n_lo n_sk n_db n_yr n_vi n_wy)) [wL g l_a l_nf l_ne l_pl l_yl l_nd l_hm l_wk l_kd, wX g x_a x_ta l_a n_a x_ra x_aa x_da x_sd, wC g n_a l_a n_lo n_sk n_db n_yr n_vi n_wy] [1, 0, 2] rfl (by simp only [List.flatten_cons, List.flatten_nil, List.append_nil, List.append_assoc]) (by show List.flatten [wX g x_a x_ta l_a n_a x_ra x_aa x_da x_sd, wL g l_a l_nf l_ne l_pl l_yl l_nd l_hm l_wk l_kd, wC g n_a l_a n_lo n_sk n_db n_yr n_vi n_wy] = _; simp only [List.flatten_cons, List.flatten_nil, List.append_nil, List.append_assoc]) ?_
  refine V_if_ne_b (tgt := 13) nX5_field_8 rfl (fun h8 => ?_) (fun h8 => ?_)
  · skip
    obtain ⟨a, hf_a, rfl⟩ := hasN_t h8 (by omega)
    have hix_a : ix (nI a) = a := ix_nI (by omega)
    refine V_iload_n nX5_field_13 rfl ?_
    rcases (show y.toInt = 0 ∨ y.toInt = 1 ∨ y.toInt = 2 ∨ y.toInt = 3 ∨ y.toInt = 4 ∨ y.toInt = 5 ∨ (y.toInt < 0 ∨ 5 < y.toInt) by omega) with hw | hw | hw | hw | hw | hw | hw
    · skip
      refine V_tableIn (off := 38) (tgt := 52) nX5_field_14 (by omega) (by omega) (by rw [hw]; rfl) rfl ?_
      refine V_aload_n nX5_field_52 rfl ?_
      refine V_get5 0 1 (by decide) f_RX5_19 nX5_field_53 rfl rfl ?_
      refine V_get2 1 0 (by decide) f_RX5_120 nX5_field_56 rfl rfl ?_
      refine V_iload_n nX5_field_59 rfl ?_
      refine V_iald 2 nX5_field_60 rfl (by omega) (by decide) rfl ?_
      exact R_i rfl X hQ nX5_field_61 (by simp only [List.map_append, wC_fst, wL_fst, wX_fst]) (⟨by simp [fiR, h8, hix_a, hw], rfl⟩)
    · skip
      refine V_tableIn (off := 48) (tgt := 62) nX5_field_14 (by omega) (by omega) (by rw [hw]; rfl) rfl ?_
      refine V_aload_n nX5_field_62 rfl ?_
      refine V_get5 0 1 (by decide) f_RX5_19 nX5_field_63 rfl rfl ?_
      refine V_get2 1 1 (by decide) f_RX5_123 nX5_field_66 rfl rfl ?_
      refine V_iload_n nX5_field_69 rfl ?_
      refine V_iald 3 nX5_field_70 rfl (by omega) (by decide) rfl ?_
      exact R_i rfl X hQ nX5_field_71 (by simp only [List.map_append, wC_fst, wL_fst, wX_fst]) (⟨by simp [fiR, h8, hix_a, hw], rfl⟩)
    · skip
      refine V_tableIn (off := 58) (tgt := 72) nX5_field_14 (by omega) (by omega) (by rw [hw]; rfl) rfl ?_
      refine V_aload_n nX5_field_72 rfl ?_
      refine V_get5 0 1 (by decide) f_RX5_19 nX5_field_73 rfl rfl ?_
      refine V_get2 1 2 (by decide) f_RX5_126 nX5_field_76 rfl rfl ?_
      refine V_iload_n nX5_field_79 rfl ?_
      refine V_iald 4 nX5_field_80 rfl (by omega) (by decide) rfl ?_
      exact R_i rfl X hQ nX5_field_81 (by simp only [List.map_append, wC_fst, wL_fst, wX_fst]) (⟨by simp [fiR, h8, hix_a, hw], rfl⟩)
    · skip
      refine V_tableIn (off := 68) (tgt := 82) nX5_field_14 (by omega) (by omega) (by rw [hw]; rfl) rfl ?_
      refine V_aload_n nX5_field_82 rfl ?_
      refine V_get5 0 2 (by decide) f_RX5_28 nX5_field_83 rfl rfl ?_
      refine V_get1 8 1 (by decide) f_RX5_129 nX5_field_86 rfl rfl ?_
      refine V_iload_n nX5_field_89 rfl ?_
      refine V_iald 9 nX5_field_90 rfl (by omega) (by decide) rfl ?_
      exact R_i rfl X hQ nX5_field_91 (by simp only [List.map_append, wC_fst, wL_fst, wX_fst]) (⟨by simp [fiR, h8, hix_a, hw], rfl⟩)
    · skip
      refine V_tableIn (off := 78) (tgt := 92) nX5_field_14 (by omega) (by omega) (by rw [hw]; rfl) rfl ?_
      refine V_aload_n nX5_field_92 rfl ?_
      refine V_get5 0 2 (by decide) f_RX5_28 nX5_field_93 rfl rfl ?_
      refine V_get1 8 2 (by decide) f_RX5_132 nX5_field_96 rfl rfl ?_
      refine V_iload_n nX5_field_99 rfl ?_
      refine V_iald 10 nX5_field_100 rfl (by omega) (by decide) rfl ?_
      exact R_i rfl X hQ nX5_field_101 (by simp only [List.map_append, wC_fst, wL_fst, wX_fst]) (⟨by simp [fiR, h8, hix_a, hw], rfl⟩)
    · skip
      refine V_tableIn (off := 88) (tgt := 102) nX5_field_14 (by omega) (by omega) (by rw [hw]; rfl) rfl ?_
      refine V_aload_n nX5_field_102 rfl ?_
      refine V_get5 0 2 (by decide) f_RX5_28 nX5_field_103 rfl rfl ?_
      refine V_iload_n nX5_field_106 rfl ?_
      refine V_blk (ws' := ((wC g n_a l_a n_lo n_sk n_db n_yr n_vi n_wy) ++ (wL g l_a l_nf l_ne l_pl l_yl l_nd l_hm l_wk l_kd)) ++ ((wX g x_a x_ta l_a n_a x_ra x_aa x_da x_sd))) [wX g x_a x_ta l_a n_a x_ra x_aa x_da x_sd, wL g l_a l_nf l_ne l_pl l_yl l_nd l_hm l_wk l_kd, wC g n_a l_a n_lo n_sk n_db n_yr n_vi n_wy] [2, 1, 0] rfl (by simp only [List.flatten_cons, List.flatten_nil, List.append_nil, List.append_assoc]) (by show List.flatten [wC g n_a l_a n_lo n_sk n_db n_yr n_vi n_wy, wL g l_a l_nf l_ne l_pl l_yl l_nd l_hm l_wk l_kd, wX g x_a x_ta l_a n_a x_ra x_aa x_da x_sd] = _; simp only [List.flatten_cons, List.flatten_nil, List.append_nil, List.append_assoc]) ?_
      refine V_cVi (C := (RX1, TX1, 7)) (ci := 1) (ws' := ((wC g n_a l_a n_lo n_sk n_db n_yr n_vi n_wy) ++ (wL g l_a l_nf l_ne l_pl l_yl l_nd l_hm l_wk l_kd)) ++ ((wX g x_a x_ta l_a n_a x_ra x_aa x_da x_sd))) (List.range _) 1 X (c_X1_debtorsOf g l n_a n_lo n_sk n_db n_yr n_vi n_wy l_a l_nf l_ne l_pl l_yl l_nd l_hm l_wk l_kd  a (by omega) (by omega)) k_RX5_135 hy_X1_debtorsOf (by decide) (range_at _ _) (range_nd _) 0 rfl rfl nX5_field_107 rfl rfl (Nat.le_of_ble_eq_true rfl) (wput_range _ _ _ (by simp only [List.length_append, wC_len, wL_len])) ?_
      refine V_blk (ws' := (wX g x_a x_ta l_a n_a x_ra x_aa x_da x_sd) ++ (wL g l_a l_nf l_ne l_pl l_yl l_nd l_hm l_wk l_kd) ++ (wC g n_a l_a n_lo n_sk n_db n_yr n_vi n_wy)) [wC g n_a l_a n_lo n_sk n_db n_yr n_vi n_wy, wL g l_a l_nf l_ne l_pl l_yl l_nd l_hm l_wk l_kd, wX g x_a x_ta l_a n_a x_ra x_aa x_da x_sd] [2, 1, 0] rfl (by simp only [List.flatten_cons, List.flatten_nil, List.append_nil, List.append_assoc]) (by show List.flatten [wX g x_a x_ta l_a n_a x_ra x_aa x_da x_sd, wL g l_a l_nf l_ne l_pl l_yl l_nd l_hm l_wk l_kd, wC g n_a l_a n_lo n_sk n_db n_yr n_vi n_wy] = _; simp only [List.flatten_cons, List.flatten_nil, List.append_nil, List.append_assoc]) ?_
      exact R_i rfl X hQ nX5_field_110 (by simp only [List.map_append, wC_fst, wL_fst, wX_fst]) (⟨by simp [fiR, h8, hix_a, hw], rfl⟩)
    · skip
      have hw0 : ¬ y.toInt = 0 := by omega
      have hw1 : ¬ y.toInt = 1 := by omega
      have hw2 : ¬ y.toInt = 2 := by omega
      have hw3 : ¬ y.toInt = 3 := by omega
      have hw4 : ¬ y.toInt = 4 := by omega
      have hw5 : ¬ y.toInt = 5 := by omega
      refine V_tableOut (tgt := 111) nX5_field_14 hw rfl ?_
      refine V_bipush (v := (-2)) nX5_field_111 (by decide) ?_
      exact R_i rfl X hQ nX5_field_113 (by simp only [List.map_append, wC_fst, wL_fst, wX_fst]) (⟨by simp [fiR, h8, hix_a, hw0, hw1, hw2, hw3, hw4, hw5], rfl⟩)
  · skip
    refine V_iconst (v := (-1)) nX5_field_11 (by decide) ?_
    exact R_i rfl X hQ nX5_field_12 (by simp only [List.map_append, wC_fst, wL_fst, wX_fst]) (⟨by simp [fiR, h8], rfl⟩)

set_option maxHeartbeats 4000000 in
set_option maxRecDepth 100000 in
theorem c_X5_eater (g : Gx) (l : Launch) (x_a : Nat → Nat) (x_ta : Nat → Nat) (x_aa : Nat → Nat) (x_da : Nat → Nat) (x_sd : Int64) (l_a : Nat → Nat) (l_nf : Nat) (l_ne : Nat) (l_pl : Nat → Int32) (l_yl : Nat → Int32) (l_nd : Nat → Int32) (l_hm : Nat → Int32) (l_wk : Nat → Int32) (l_kd : Nat → Int32) (n_a : Nat → Nat) (n_lo : Nat → Int32) (n_sk : Nat → Int32) (n_db : Nat → Int32) (n_yr : Int32) (n_vi : Nat → Int32) (n_wy : Nat → Int32) (r_a : Nat → Nat) (r_lo : Nat → Int32) (r_sk : Nat → Int32) (r_db : Nat → Int32) (r_yr : Int32) (r_vi : Nat → Int32) (r_wy : Nat → Int32)  (x : Int32) (y : Int32) (hnf : l_nf ≤ 4) (hne : l_ne ≤ 5) : Ct g l yX5_eater mX5_eater ({ frames := 5, cells := 0, slots := 0, locals := 119 } : Room) [.ref (x_a 0), .int x, .int y] ((wX g x_a x_ta l_a n_a r_a x_aa x_da x_sd) ++ (wL g l_a l_nf l_ne l_pl l_yl l_nd l_hm l_wk l_kd) ++ (wC g n_a l_a n_lo n_sk n_db n_yr n_vi n_wy) ++ (wC g r_a l_a r_lo r_sk r_db r_yr r_vi r_wy)) (fun r w' => ∃ (z_lo : Nat → Int32) (z_sk : Nat → Int32) (z_db : Nat → Int32) (z_yr : Int32) (z_vi : Nat → Int32) (z_wy : Nat → Int32), r = (some (.int (eaR (l_nf, l_ne, l_pl, l_yl, l_nd, l_hm, l_wk, l_kd) n_sk n_db x y))) ∧ w' = (wX g x_a x_ta l_a n_a r_a x_aa x_da x_sd) ++ (wL g l_a l_nf l_ne l_pl l_yl l_nd l_hm l_wk l_kd) ++ (wC g n_a l_a n_lo n_sk n_db n_yr n_vi n_wy) ++ (wC g r_a l_a z_lo z_sk z_db z_yr z_vi z_wy)) := by
  refine Ct.of (lv := [(0, .ref (x_a 0)), (1, .int x), (2, .int y)]) ⟨by decide +kernel, rfl, Nat.le_of_ble_eq_true rfl⟩ rfl (fun E A sz Q X hQ => ?_)
  refine V_aload_n nX5_eater_0 rfl ?_
  refine V_get5 0 1 (by decide) f_RX5_19 nX5_eater_1 rfl rfl ?_
  refine V_iload_n nX5_eater_4 rfl ?_
  refine V_blk (ws' := ((wL g l_a l_nf l_ne l_pl l_yl l_nd l_hm l_wk l_kd)) ++ ((wX g x_a x_ta l_a n_a r_a x_aa x_da x_sd) ++ (wC g n_a l_a n_lo n_sk n_db n_yr n_vi n_wy) ++ (wC g r_a l_a r_lo r_sk r_db r_yr r_vi r_wy))) [wX g x_a x_ta l_a n_a r_a x_aa x_da x_sd, wL g l_a l_nf l_ne l_pl l_yl l_nd l_hm l_wk l_kd, wC g n_a l_a n_lo n_sk n_db n_yr n_vi n_wy, wC g r_a l_a r_lo r_sk r_db r_yr r_vi r_wy] [1, 0, 2, 3] rfl (by simp only [List.flatten_cons, List.flatten_nil, List.append_nil, List.append_assoc]) (by show List.flatten [wL g l_a l_nf l_ne l_pl l_yl l_nd l_hm l_wk l_kd, wX g x_a x_ta l_a n_a r_a x_aa x_da x_sd, wC g n_a l_a n_lo n_sk n_db n_yr n_vi n_wy, wC g r_a l_a r_lo r_sk r_db r_yr r_vi r_wy] = _; simp only [List.flatten_cons, List.flatten_nil, List.append_nil, List.append_assoc]) ?_
  refine V_cVi (C := (RX2, TX2, 8)) (ci := 2) (ws' := ((wL g l_a l_nf l_ne l_pl l_yl l_nd l_hm l_wk l_kd)) ++ ((wX g x_a x_ta l_a n_a r_a x_aa x_da x_sd) ++ (wC g n_a l_a n_lo n_sk n_db n_yr n_vi n_wy) ++ (wC g r_a l_a r_lo r_sk r_db r_yr r_vi r_wy))) (List.range _) 1 X (c_X2_hasEater g l l_a l_nf l_ne l_pl l_yl l_nd l_hm l_wk l_kd  x (by omega)) k_RX5_138 hy_X2_hasEater (by decide) (range_at _ _) (range_nd _) 0 rfl rfl nX5_eater_5 rfl rfl (Nat.le_of_ble_eq_true rfl) (wput_range _ _ _ (by simp only [List.length_append, wL_len])) ?_
  refine V_blk (ws' := (wX g x_a x_ta l_a n_a r_a x_aa x_da x_sd) ++ (wL g l_a l_nf l_ne l_pl l_yl l_nd l_hm l_wk l_kd) ++ (wC g n_a l_a n_lo n_sk n_db n_yr n_vi n_wy) ++ (wC g r_a l_a r_lo r_sk r_db r_yr r_vi r_wy)) [wL g l_a l_nf l_ne l_pl l_yl l_nd l_hm l_wk l_kd, wX g x_a x_ta l_a n_a r_a x_aa x_da x_sd, wC g n_a l_a n_lo n_sk n_db n_yr n_vi n_wy, wC g r_a l_a r_lo r_sk r_db r_yr r_vi r_wy] [1, 0, 2, 3] rfl (by simp only [List.flatten_cons, List.flatten_nil, List.append_nil, List.append_assoc]) (by show List.flatten [wX g x_a x_ta l_a n_a r_a x_aa x_da x_sd, wL g l_a l_nf l_ne l_pl l_yl l_nd l_hm l_wk l_kd, wC g n_a l_a n_lo n_sk n_db n_yr n_vi n_wy, wC g r_a l_a r_lo r_sk r_db r_yr r_vi r_wy] = _; simp only [List.flatten_cons, List.flatten_nil, List.append_nil, List.append_assoc]) ?_
  refine V_if_ne_b (tgt := 13) nX5_eater_8 rfl (fun h8 => ?_) (fun h8 => ?_)
  · skip
    obtain ⟨a, hf_a, rfl⟩ := hasN_t h8 (by omega)
    have hix_a : ix (nI a) = a := ix_nI (by omega)
    refine V_iload_n nX5_eater_13 rfl ?_
    rcases (show y.toInt = 0 ∨ y.toInt = 1 ∨ y.toInt = 2 ∨ y.toInt = 3 ∨ y.toInt = 4 ∨ y.toInt = 5 ∨ (y.toInt < 0 ∨ 5 < y.toInt) by omega) with hw | hw | hw | hw | hw | hw | hw
    · skip
      refine V_tableIn (off := 38) (tgt := 52) nX5_eater_14 (by omega) (by omega) (by rw [hw]; rfl) rfl ?_
      refine V_aload_n nX5_eater_52 rfl ?_
      refine V_get5 0 1 (by decide) f_RX5_19 nX5_eater_53 rfl rfl ?_
      refine V_get2 1 3 (by decide) f_RX5_141 nX5_eater_56 rfl rfl ?_
      refine V_iload_n nX5_eater_59 rfl ?_
      refine V_iald 5 nX5_eater_60 rfl (by omega) (by decide) rfl ?_
      exact R_i rfl X hQ nX5_eater_61 (by simp only [List.map_append, wC_fst, wL_fst, wX_fst]) (⟨_, _, _, _, _, _, by simp [eaR, h8, hix_a, hw], rfl⟩)
    · skip
      refine V_tableIn (off := 48) (tgt := 62) nX5_eater_14 (by omega) (by omega) (by rw [hw]; rfl) rfl ?_
      refine V_aload_n nX5_eater_62 rfl ?_
      refine V_get5 0 1 (by decide) f_RX5_19 nX5_eater_63 rfl rfl ?_
      refine V_get2 1 4 (by decide) f_RX5_144 nX5_eater_66 rfl rfl ?_
      refine V_iload_n nX5_eater_69 rfl ?_
      refine V_iald 6 nX5_eater_70 rfl (by omega) (by decide) rfl ?_
      exact R_i rfl X hQ nX5_eater_71 (by simp only [List.map_append, wC_fst, wL_fst, wX_fst]) (⟨_, _, _, _, _, _, by simp [eaR, h8, hix_a, hw], rfl⟩)
    · skip
      refine V_tableIn (off := 58) (tgt := 72) nX5_eater_14 (by omega) (by omega) (by rw [hw]; rfl) rfl ?_
      refine V_aload_n nX5_eater_72 rfl ?_
      refine V_get5 0 1 (by decide) f_RX5_19 nX5_eater_73 rfl rfl ?_
      refine V_get2 1 5 (by decide) f_RX5_147 nX5_eater_76 rfl rfl ?_
      refine V_iload_n nX5_eater_79 rfl ?_
      refine V_iald 7 nX5_eater_80 rfl (by omega) (by decide) rfl ?_
      exact R_i rfl X hQ nX5_eater_81 (by simp only [List.map_append, wC_fst, wL_fst, wX_fst]) (⟨_, _, _, _, _, _, by simp [eaR, h8, hix_a, hw], rfl⟩)
    · skip
      refine V_tableIn (off := 68) (tgt := 82) nX5_eater_14 (by omega) (by omega) (by rw [hw]; rfl) rfl ?_
      refine V_aload_n nX5_eater_82 rfl ?_
      refine V_get5 0 2 (by decide) f_RX5_28 nX5_eater_83 rfl rfl ?_
      refine V_iload_n nX5_eater_86 rfl ?_
      refine V_blk (ws' := ((wC g n_a l_a n_lo n_sk n_db n_yr n_vi n_wy) ++ (wL g l_a l_nf l_ne l_pl l_yl l_nd l_hm l_wk l_kd)) ++ ((wX g x_a x_ta l_a n_a r_a x_aa x_da x_sd) ++ (wC g r_a l_a r_lo r_sk r_db r_yr r_vi r_wy))) [wX g x_a x_ta l_a n_a r_a x_aa x_da x_sd, wL g l_a l_nf l_ne l_pl l_yl l_nd l_hm l_wk l_kd, wC g n_a l_a n_lo n_sk n_db n_yr n_vi n_wy, wC g r_a l_a r_lo r_sk r_db r_yr r_vi r_wy] [2, 1, 0, 3] rfl (by simp only [List.flatten_cons, List.flatten_nil, List.append_nil, List.append_assoc]) (by show List.flatten [wC g n_a l_a n_lo n_sk n_db n_yr n_vi n_wy, wL g l_a l_nf l_ne l_pl l_yl l_nd l_hm l_wk l_kd, wX g x_a x_ta l_a n_a r_a x_aa x_da x_sd, wC g r_a l_a r_lo r_sk r_db r_yr r_vi r_wy] = _; simp only [List.flatten_cons, List.flatten_nil, List.append_nil, List.append_assoc]) ?_
      refine V_cVi (C := (RX1, TX1, 7)) (ci := 1) (ws' := ((wC g n_a l_a n_lo n_sk n_db n_yr n_vi n_wy) ++ (wL g l_a l_nf l_ne l_pl l_yl l_nd l_hm l_wk l_kd)) ++ ((wX g x_a x_ta l_a n_a r_a x_aa x_da x_sd) ++ (wC g r_a l_a r_lo r_sk r_db r_yr r_vi r_wy))) (List.range _) 1 X (c_X1_debtsOf g l n_a n_lo n_sk n_db n_yr n_vi n_wy l_a l_nf l_ne l_pl l_yl l_nd l_hm l_wk l_kd  a (by omega) (by omega)) k_RX5_150 hy_X1_debtsOf (by decide) (range_at _ _) (range_nd _) 0 rfl rfl nX5_eater_87 rfl rfl (Nat.le_of_ble_eq_true rfl) (wput_range _ _ _ (by simp only [List.length_append, wC_len, wL_len])) ?_
      refine V_blk (ws' := (wX g x_a x_ta l_a n_a r_a x_aa x_da x_sd) ++ (wL g l_a l_nf l_ne l_pl l_yl l_nd l_hm l_wk l_kd) ++ (wC g n_a l_a n_lo n_sk n_db n_yr n_vi n_wy) ++ (wC g r_a l_a r_lo r_sk r_db r_yr r_vi r_wy)) [wC g n_a l_a n_lo n_sk n_db n_yr n_vi n_wy, wL g l_a l_nf l_ne l_pl l_yl l_nd l_hm l_wk l_kd, wX g x_a x_ta l_a n_a r_a x_aa x_da x_sd, wC g r_a l_a r_lo r_sk r_db r_yr r_vi r_wy] [2, 1, 0, 3] rfl (by simp only [List.flatten_cons, List.flatten_nil, List.append_nil, List.append_assoc]) (by show List.flatten [wX g x_a x_ta l_a n_a r_a x_aa x_da x_sd, wL g l_a l_nf l_ne l_pl l_yl l_nd l_hm l_wk l_kd, wC g n_a l_a n_lo n_sk n_db n_yr n_vi n_wy, wC g r_a l_a r_lo r_sk r_db r_yr r_vi r_wy] = _; simp only [List.flatten_cons, List.flatten_nil, List.append_nil, List.append_assoc]) ?_
      exact R_i rfl X hQ nX5_eater_90 (by simp only [List.map_append, wC_fst, wL_fst, wX_fst]) (⟨_, _, _, _, _, _, by simp [eaR, h8, hix_a, hw], rfl⟩)
    · skip
      refine V_tableIn (off := 77) (tgt := 91) nX5_eater_14 (by omega) (by omega) (by rw [hw]; rfl) rfl ?_
      refine V_aload_n nX5_eater_91 rfl ?_
      refine V_aload_n nX5_eater_92 rfl ?_
      refine V_get5 0 1 (by decide) f_RX5_19 nX5_eater_93 rfl rfl ?_
      refine V_blk (ws' := ((wL g l_a l_nf l_ne l_pl l_yl l_nd l_hm l_wk l_kd)) ++ ((wX g x_a x_ta l_a n_a r_a x_aa x_da x_sd) ++ (wC g n_a l_a n_lo n_sk n_db n_yr n_vi n_wy) ++ (wC g r_a l_a r_lo r_sk r_db r_yr r_vi r_wy))) [wX g x_a x_ta l_a n_a r_a x_aa x_da x_sd, wL g l_a l_nf l_ne l_pl l_yl l_nd l_hm l_wk l_kd, wC g n_a l_a n_lo n_sk n_db n_yr n_vi n_wy, wC g r_a l_a r_lo r_sk r_db r_yr r_vi r_wy] [1, 0, 2, 3] rfl (by simp only [List.flatten_cons, List.flatten_nil, List.append_nil, List.append_assoc]) (by show List.flatten [wL g l_a l_nf l_ne l_pl l_yl l_nd l_hm l_wk l_kd, wX g x_a x_ta l_a n_a r_a x_aa x_da x_sd, wC g n_a l_a n_lo n_sk n_db n_yr n_vi n_wy, wC g r_a l_a r_lo r_sk r_db r_yr r_vi r_wy] = _; simp only [List.flatten_cons, List.flatten_nil, List.append_nil, List.append_assoc]) ?_
      refine V_cVi (C := (RX2, TX2, 8)) (ci := 2) (ws' := ((wL g l_a l_nf l_ne l_pl l_yl l_nd l_hm l_wk l_kd)) ++ ((wX g x_a x_ta l_a n_a r_a x_aa x_da x_sd) ++ (wC g n_a l_a n_lo n_sk n_db n_yr n_vi n_wy) ++ (wC g r_a l_a r_lo r_sk r_db r_yr r_vi r_wy))) (List.range _) 0 X (c_X2_allEaters g l l_a l_nf l_ne l_pl l_yl l_nd l_hm l_wk l_kd   (by omega)) k_RX5_108 hy_X2_allEaters (by decide) (range_at _ _) (range_nd _) 0 rfl rfl nX5_eater_96 rfl rfl (Nat.le_of_ble_eq_true rfl) (wput_range _ _ _ (by simp only [List.length_append, wL_len])) ?_
      refine V_blk (ws' := (wX g x_a x_ta l_a n_a r_a x_aa x_da x_sd) ++ (wL g l_a l_nf l_ne l_pl l_yl l_nd l_hm l_wk l_kd) ++ (wC g n_a l_a n_lo n_sk n_db n_yr n_vi n_wy) ++ (wC g r_a l_a r_lo r_sk r_db r_yr r_vi r_wy)) [wL g l_a l_nf l_ne l_pl l_yl l_nd l_hm l_wk l_kd, wX g x_a x_ta l_a n_a r_a x_aa x_da x_sd, wC g n_a l_a n_lo n_sk n_db n_yr n_vi n_wy, wC g r_a l_a r_lo r_sk r_db r_yr r_vi r_wy] [1, 0, 2, 3] rfl (by simp only [List.flatten_cons, List.flatten_nil, List.append_nil, List.append_assoc]) (by show List.flatten [wX g x_a x_ta l_a n_a r_a x_aa x_da x_sd, wL g l_a l_nf l_ne l_pl l_yl l_nd l_hm l_wk l_kd, wC g n_a l_a n_lo n_sk n_db n_yr n_vi n_wy, wC g r_a l_a r_lo r_sk r_db r_yr r_vi r_wy] = _; simp only [List.flatten_cons, List.flatten_nil, List.append_nil, List.append_assoc]) ?_
      refine V_blk (ws' := ((wX g x_a x_ta l_a n_a r_a x_aa x_da x_sd) ++ (wL g l_a l_nf l_ne l_pl l_yl l_nd l_hm l_wk l_kd) ++ (wC g n_a l_a n_lo n_sk n_db n_yr n_vi n_wy) ++ (wC g r_a l_a r_lo r_sk r_db r_yr r_vi r_wy)) ++ ([] : va_W)) [wX g x_a x_ta l_a n_a r_a x_aa x_da x_sd, wL g l_a l_nf l_ne l_pl l_yl l_nd l_hm l_wk l_kd, wC g n_a l_a n_lo n_sk n_db n_yr n_vi n_wy, wC g r_a l_a r_lo r_sk r_db r_yr r_vi r_wy] [0, 1, 2, 3] rfl (by simp only [List.flatten_cons, List.flatten_nil, List.append_nil, List.append_assoc]) (by show List.flatten [wX g x_a x_ta l_a n_a r_a x_aa x_da x_sd, wL g l_a l_nf l_ne l_pl l_yl l_nd l_hm l_wk l_kd, wC g n_a l_a n_lo n_sk n_db n_yr n_vi n_wy, wC g r_a l_a r_lo r_sk r_db r_yr r_vi r_wy] = _; simp only [List.flatten_cons, List.flatten_nil, List.append_nil, List.append_assoc]) ?_
      refine V_cVi (C := (RX5, TX5, 10)) (ci := 5) (ws' := ((wX g x_a x_ta l_a n_a r_a x_aa x_da x_sd) ++ (wL g l_a l_nf l_ne l_pl l_yl l_nd l_hm l_wk l_kd) ++ (wC g n_a l_a n_lo n_sk n_db n_yr n_vi n_wy) ++ (wC g r_a l_a ((marC (l_nf, l_ne, l_pl, l_yl, l_nd, l_hm, l_wk, l_kd) (2 ^ l_ne - 1) (n_lo, n_sk, n_db, n_yr, r_vi, r_wy)).1) ((marC (l_nf, l_ne, l_pl, l_yl, l_nd, l_hm, l_wk, l_kd) (2 ^ l_ne - 1) (n_lo, n_sk, n_db, n_yr, r_vi, r_wy)).2.1) ((marC (l_nf, l_ne, l_pl, l_yl, l_nd, l_hm, l_wk, l_kd) (2 ^ l_ne - 1) (n_lo, n_sk, n_db, n_yr, r_vi, r_wy)).2.2.1) ((marC (l_nf, l_ne, l_pl, l_yl, l_nd, l_hm, l_wk, l_kd) (2 ^ l_ne - 1) (n_lo, n_sk, n_db, n_yr, r_vi, r_wy)).2.2.2.1) ((marC (l_nf, l_ne, l_pl, l_yl, l_nd, l_hm, l_wk, l_kd) (2 ^ l_ne - 1) (n_lo, n_sk, n_db, n_yr, r_vi, r_wy)).2.2.2.2.1) ((marC (l_nf, l_ne, l_pl, l_yl, l_nd, l_hm, l_wk, l_kd) (2 ^ l_ne - 1) (n_lo, n_sk, n_db, n_yr, r_vi, r_wy)).2.2.2.2.2))) ++ ([] : va_W)) (List.range _) 1 X (c_X5_sownIfCome g l x_a x_ta x_aa x_da x_sd l_a l_nf l_ne l_pl l_yl l_nd l_hm l_wk l_kd n_a n_lo n_sk n_db n_yr n_vi n_wy r_a r_lo r_sk r_db r_yr r_vi r_wy  (2 ^ l_ne - 1) (by omega) (by omega) (by have := allN_lt (L := (l_nf, l_ne, l_pl, l_yl, l_nd, l_hm, l_wk, l_kd)) hne; have e : allN (l_nf, l_ne, l_pl, l_yl, l_nd, l_hm, l_wk, l_kd) = 2 ^ l_ne - 1 := rfl; omega)) k_RX5_111 hy_X5_sownIfCome (by decide) (range_at _ _) (range_nd _) 0 rfl rfl nX5_eater_99 rfl rfl (Nat.le_of_ble_eq_true rfl) (wput_range _ _ _ (by simp only [List.length_append, wC_len, wL_len, wX_len])) ?_
      refine V_blk (ws' := (wX g x_a x_ta l_a n_a r_a x_aa x_da x_sd) ++ (wL g l_a l_nf l_ne l_pl l_yl l_nd l_hm l_wk l_kd) ++ (wC g n_a l_a n_lo n_sk n_db n_yr n_vi n_wy) ++ (wC g r_a l_a ((marC (l_nf, l_ne, l_pl, l_yl, l_nd, l_hm, l_wk, l_kd) (2 ^ l_ne - 1) (n_lo, n_sk, n_db, n_yr, r_vi, r_wy)).1) ((marC (l_nf, l_ne, l_pl, l_yl, l_nd, l_hm, l_wk, l_kd) (2 ^ l_ne - 1) (n_lo, n_sk, n_db, n_yr, r_vi, r_wy)).2.1) ((marC (l_nf, l_ne, l_pl, l_yl, l_nd, l_hm, l_wk, l_kd) (2 ^ l_ne - 1) (n_lo, n_sk, n_db, n_yr, r_vi, r_wy)).2.2.1) ((marC (l_nf, l_ne, l_pl, l_yl, l_nd, l_hm, l_wk, l_kd) (2 ^ l_ne - 1) (n_lo, n_sk, n_db, n_yr, r_vi, r_wy)).2.2.2.1) ((marC (l_nf, l_ne, l_pl, l_yl, l_nd, l_hm, l_wk, l_kd) (2 ^ l_ne - 1) (n_lo, n_sk, n_db, n_yr, r_vi, r_wy)).2.2.2.2.1) ((marC (l_nf, l_ne, l_pl, l_yl, l_nd, l_hm, l_wk, l_kd) (2 ^ l_ne - 1) (n_lo, n_sk, n_db, n_yr, r_vi, r_wy)).2.2.2.2.2))) [wX g x_a x_ta l_a n_a r_a x_aa x_da x_sd, wL g l_a l_nf l_ne l_pl l_yl l_nd l_hm l_wk l_kd, wC g n_a l_a n_lo n_sk n_db n_yr n_vi n_wy, wC g r_a l_a ((marC (l_nf, l_ne, l_pl, l_yl, l_nd, l_hm, l_wk, l_kd) (2 ^ l_ne - 1) (n_lo, n_sk, n_db, n_yr, r_vi, r_wy)).1) ((marC (l_nf, l_ne, l_pl, l_yl, l_nd, l_hm, l_wk, l_kd) (2 ^ l_ne - 1) (n_lo, n_sk, n_db, n_yr, r_vi, r_wy)).2.1) ((marC (l_nf, l_ne, l_pl, l_yl, l_nd, l_hm, l_wk, l_kd) (2 ^ l_ne - 1) (n_lo, n_sk, n_db, n_yr, r_vi, r_wy)).2.2.1) ((marC (l_nf, l_ne, l_pl, l_yl, l_nd, l_hm, l_wk, l_kd) (2 ^ l_ne - 1) (n_lo, n_sk, n_db, n_yr, r_vi, r_wy)).2.2.2.1) ((marC (l_nf, l_ne, l_pl, l_yl, l_nd, l_hm, l_wk, l_kd) (2 ^ l_ne - 1) (n_lo, n_sk, n_db, n_yr, r_vi, r_wy)).2.2.2.2.1) ((marC (l_nf, l_ne, l_pl, l_yl, l_nd, l_hm, l_wk, l_kd) (2 ^ l_ne - 1) (n_lo, n_sk, n_db, n_yr, r_vi, r_wy)).2.2.2.2.2)] [0, 1, 2, 3] rfl (by simp only [List.flatten_cons, List.flatten_nil, List.append_nil, List.append_assoc]) (by show List.flatten [wX g x_a x_ta l_a n_a r_a x_aa x_da x_sd, wL g l_a l_nf l_ne l_pl l_yl l_nd l_hm l_wk l_kd, wC g n_a l_a n_lo n_sk n_db n_yr n_vi n_wy, wC g r_a l_a ((marC (l_nf, l_ne, l_pl, l_yl, l_nd, l_hm, l_wk, l_kd) (2 ^ l_ne - 1) (n_lo, n_sk, n_db, n_yr, r_vi, r_wy)).1) ((marC (l_nf, l_ne, l_pl, l_yl, l_nd, l_hm, l_wk, l_kd) (2 ^ l_ne - 1) (n_lo, n_sk, n_db, n_yr, r_vi, r_wy)).2.1) ((marC (l_nf, l_ne, l_pl, l_yl, l_nd, l_hm, l_wk, l_kd) (2 ^ l_ne - 1) (n_lo, n_sk, n_db, n_yr, r_vi, r_wy)).2.2.1) ((marC (l_nf, l_ne, l_pl, l_yl, l_nd, l_hm, l_wk, l_kd) (2 ^ l_ne - 1) (n_lo, n_sk, n_db, n_yr, r_vi, r_wy)).2.2.2.1) ((marC (l_nf, l_ne, l_pl, l_yl, l_nd, l_hm, l_wk, l_kd) (2 ^ l_ne - 1) (n_lo, n_sk, n_db, n_yr, r_vi, r_wy)).2.2.2.2.1) ((marC (l_nf, l_ne, l_pl, l_yl, l_nd, l_hm, l_wk, l_kd) (2 ^ l_ne - 1) (n_lo, n_sk, n_db, n_yr, r_vi, r_wy)).2.2.2.2.2)] = _; simp only [List.flatten_cons, List.flatten_nil, List.append_nil, List.append_assoc]) ?_
      refine V_pop nX5_eater_102 rfl ?_
      refine V_aload_n nX5_eater_103 rfl ?_
      refine V_get5 0 3 (by decide) f_RX5_32 nX5_eater_104 rfl rfl ?_
      refine V_get1 14 5 (by decide) f_RX5_153 nX5_eater_107 rfl rfl ?_
      refine V_iload_n nX5_eater_110 rfl ?_
      refine V_iald 18 nX5_eater_111 rfl (by omega) (by decide) rfl ?_
      exact R_i rfl X hQ nX5_eater_112 (by simp only [List.map_append, wC_fst, wL_fst, wX_fst]) (⟨_, _, _, _, _, _, by rw [show eaR (l_nf, l_ne, l_pl, l_yl, l_nd, l_hm, l_wk, l_kd) n_sk n_db (nI a) y = _ from by simp [eaR, h8, hix_a, hw]; exact rfl]; exact congrArg (fun z => some (Value.int z)) (viN_eq (L := (l_nf, l_ne, l_pl, l_yl, l_nd, l_hm, l_wk, l_kd)) hne hf_a n_sk n_db r_vi r_wy), rfl⟩)
    · skip
      refine V_tableIn (off := 99) (tgt := 113) nX5_eater_14 (by omega) (by omega) (by rw [hw]; rfl) rfl ?_
      refine V_aload_n nX5_eater_113 rfl ?_
      refine V_aload_n nX5_eater_114 rfl ?_
      refine V_get5 0 1 (by decide) f_RX5_19 nX5_eater_115 rfl rfl ?_
      refine V_blk (ws' := ((wL g l_a l_nf l_ne l_pl l_yl l_nd l_hm l_wk l_kd)) ++ ((wX g x_a x_ta l_a n_a r_a x_aa x_da x_sd) ++ (wC g n_a l_a n_lo n_sk n_db n_yr n_vi n_wy) ++ (wC g r_a l_a r_lo r_sk r_db r_yr r_vi r_wy))) [wX g x_a x_ta l_a n_a r_a x_aa x_da x_sd, wL g l_a l_nf l_ne l_pl l_yl l_nd l_hm l_wk l_kd, wC g n_a l_a n_lo n_sk n_db n_yr n_vi n_wy, wC g r_a l_a r_lo r_sk r_db r_yr r_vi r_wy] [1, 0, 2, 3] rfl (by simp only [List.flatten_cons, List.flatten_nil, List.append_nil, List.append_assoc]) (by show List.flatten [wL g l_a l_nf l_ne l_pl l_yl l_nd l_hm l_wk l_kd, wX g x_a x_ta l_a n_a r_a x_aa x_da x_sd, wC g n_a l_a n_lo n_sk n_db n_yr n_vi n_wy, wC g r_a l_a r_lo r_sk r_db r_yr r_vi r_wy] = _; simp only [List.flatten_cons, List.flatten_nil, List.append_nil, List.append_assoc]) ?_
      refine V_cVi (C := (RX2, TX2, 8)) (ci := 2) (ws' := ((wL g l_a l_nf l_ne l_pl l_yl l_nd l_hm l_wk l_kd)) ++ ((wX g x_a x_ta l_a n_a r_a x_aa x_da x_sd) ++ (wC g n_a l_a n_lo n_sk n_db n_yr n_vi n_wy) ++ (wC g r_a l_a r_lo r_sk r_db r_yr r_vi r_wy))) (List.range _) 0 X (c_X2_allEaters g l l_a l_nf l_ne l_pl l_yl l_nd l_hm l_wk l_kd   (by omega)) k_RX5_108 hy_X2_allEaters (by decide) (range_at _ _) (range_nd _) 0 rfl rfl nX5_eater_118 rfl rfl (Nat.le_of_ble_eq_true rfl) (wput_range _ _ _ (by simp only [List.length_append, wL_len])) ?_
      refine V_blk (ws' := (wX g x_a x_ta l_a n_a r_a x_aa x_da x_sd) ++ (wL g l_a l_nf l_ne l_pl l_yl l_nd l_hm l_wk l_kd) ++ (wC g n_a l_a n_lo n_sk n_db n_yr n_vi n_wy) ++ (wC g r_a l_a r_lo r_sk r_db r_yr r_vi r_wy)) [wL g l_a l_nf l_ne l_pl l_yl l_nd l_hm l_wk l_kd, wX g x_a x_ta l_a n_a r_a x_aa x_da x_sd, wC g n_a l_a n_lo n_sk n_db n_yr n_vi n_wy, wC g r_a l_a r_lo r_sk r_db r_yr r_vi r_wy] [1, 0, 2, 3] rfl (by simp only [List.flatten_cons, List.flatten_nil, List.append_nil, List.append_assoc]) (by show List.flatten [wX g x_a x_ta l_a n_a r_a x_aa x_da x_sd, wL g l_a l_nf l_ne l_pl l_yl l_nd l_hm l_wk l_kd, wC g n_a l_a n_lo n_sk n_db n_yr n_vi n_wy, wC g r_a l_a r_lo r_sk r_db r_yr r_vi r_wy] = _; simp only [List.flatten_cons, List.flatten_nil, List.append_nil, List.append_assoc]) ?_
      refine V_blk (ws' := ((wX g x_a x_ta l_a n_a r_a x_aa x_da x_sd) ++ (wL g l_a l_nf l_ne l_pl l_yl l_nd l_hm l_wk l_kd) ++ (wC g n_a l_a n_lo n_sk n_db n_yr n_vi n_wy) ++ (wC g r_a l_a r_lo r_sk r_db r_yr r_vi r_wy)) ++ ([] : va_W)) [wX g x_a x_ta l_a n_a r_a x_aa x_da x_sd, wL g l_a l_nf l_ne l_pl l_yl l_nd l_hm l_wk l_kd, wC g n_a l_a n_lo n_sk n_db n_yr n_vi n_wy, wC g r_a l_a r_lo r_sk r_db r_yr r_vi r_wy] [0, 1, 2, 3] rfl (by simp only [List.flatten_cons, List.flatten_nil, List.append_nil, List.append_assoc]) (by show List.flatten [wX g x_a x_ta l_a n_a r_a x_aa x_da x_sd, wL g l_a l_nf l_ne l_pl l_yl l_nd l_hm l_wk l_kd, wC g n_a l_a n_lo n_sk n_db n_yr n_vi n_wy, wC g r_a l_a r_lo r_sk r_db r_yr r_vi r_wy] = _; simp only [List.flatten_cons, List.flatten_nil, List.append_nil, List.append_assoc]) ?_
      refine V_cVi (C := (RX5, TX5, 10)) (ci := 5) (ws' := ((wX g x_a x_ta l_a n_a r_a x_aa x_da x_sd) ++ (wL g l_a l_nf l_ne l_pl l_yl l_nd l_hm l_wk l_kd) ++ (wC g n_a l_a n_lo n_sk n_db n_yr n_vi n_wy) ++ (wC g r_a l_a ((marC (l_nf, l_ne, l_pl, l_yl, l_nd, l_hm, l_wk, l_kd) (2 ^ l_ne - 1) (n_lo, n_sk, n_db, n_yr, r_vi, r_wy)).1) ((marC (l_nf, l_ne, l_pl, l_yl, l_nd, l_hm, l_wk, l_kd) (2 ^ l_ne - 1) (n_lo, n_sk, n_db, n_yr, r_vi, r_wy)).2.1) ((marC (l_nf, l_ne, l_pl, l_yl, l_nd, l_hm, l_wk, l_kd) (2 ^ l_ne - 1) (n_lo, n_sk, n_db, n_yr, r_vi, r_wy)).2.2.1) ((marC (l_nf, l_ne, l_pl, l_yl, l_nd, l_hm, l_wk, l_kd) (2 ^ l_ne - 1) (n_lo, n_sk, n_db, n_yr, r_vi, r_wy)).2.2.2.1) ((marC (l_nf, l_ne, l_pl, l_yl, l_nd, l_hm, l_wk, l_kd) (2 ^ l_ne - 1) (n_lo, n_sk, n_db, n_yr, r_vi, r_wy)).2.2.2.2.1) ((marC (l_nf, l_ne, l_pl, l_yl, l_nd, l_hm, l_wk, l_kd) (2 ^ l_ne - 1) (n_lo, n_sk, n_db, n_yr, r_vi, r_wy)).2.2.2.2.2))) ++ ([] : va_W)) (List.range _) 1 X (c_X5_sownIfCome g l x_a x_ta x_aa x_da x_sd l_a l_nf l_ne l_pl l_yl l_nd l_hm l_wk l_kd n_a n_lo n_sk n_db n_yr n_vi n_wy r_a r_lo r_sk r_db r_yr r_vi r_wy  (2 ^ l_ne - 1) (by omega) (by omega) (by have := allN_lt (L := (l_nf, l_ne, l_pl, l_yl, l_nd, l_hm, l_wk, l_kd)) hne; have e : allN (l_nf, l_ne, l_pl, l_yl, l_nd, l_hm, l_wk, l_kd) = 2 ^ l_ne - 1 := rfl; omega)) k_RX5_111 hy_X5_sownIfCome (by decide) (range_at _ _) (range_nd _) 0 rfl rfl nX5_eater_121 rfl rfl (Nat.le_of_ble_eq_true rfl) (wput_range _ _ _ (by simp only [List.length_append, wC_len, wL_len, wX_len])) ?_
      refine V_blk (ws' := (wX g x_a x_ta l_a n_a r_a x_aa x_da x_sd) ++ (wL g l_a l_nf l_ne l_pl l_yl l_nd l_hm l_wk l_kd) ++ (wC g n_a l_a n_lo n_sk n_db n_yr n_vi n_wy) ++ (wC g r_a l_a ((marC (l_nf, l_ne, l_pl, l_yl, l_nd, l_hm, l_wk, l_kd) (2 ^ l_ne - 1) (n_lo, n_sk, n_db, n_yr, r_vi, r_wy)).1) ((marC (l_nf, l_ne, l_pl, l_yl, l_nd, l_hm, l_wk, l_kd) (2 ^ l_ne - 1) (n_lo, n_sk, n_db, n_yr, r_vi, r_wy)).2.1) ((marC (l_nf, l_ne, l_pl, l_yl, l_nd, l_hm, l_wk, l_kd) (2 ^ l_ne - 1) (n_lo, n_sk, n_db, n_yr, r_vi, r_wy)).2.2.1) ((marC (l_nf, l_ne, l_pl, l_yl, l_nd, l_hm, l_wk, l_kd) (2 ^ l_ne - 1) (n_lo, n_sk, n_db, n_yr, r_vi, r_wy)).2.2.2.1) ((marC (l_nf, l_ne, l_pl, l_yl, l_nd, l_hm, l_wk, l_kd) (2 ^ l_ne - 1) (n_lo, n_sk, n_db, n_yr, r_vi, r_wy)).2.2.2.2.1) ((marC (l_nf, l_ne, l_pl, l_yl, l_nd, l_hm, l_wk, l_kd) (2 ^ l_ne - 1) (n_lo, n_sk, n_db, n_yr, r_vi, r_wy)).2.2.2.2.2))) [wX g x_a x_ta l_a n_a r_a x_aa x_da x_sd, wL g l_a l_nf l_ne l_pl l_yl l_nd l_hm l_wk l_kd, wC g n_a l_a n_lo n_sk n_db n_yr n_vi n_wy, wC g r_a l_a ((marC (l_nf, l_ne, l_pl, l_yl, l_nd, l_hm, l_wk, l_kd) (2 ^ l_ne - 1) (n_lo, n_sk, n_db, n_yr, r_vi, r_wy)).1) ((marC (l_nf, l_ne, l_pl, l_yl, l_nd, l_hm, l_wk, l_kd) (2 ^ l_ne - 1) (n_lo, n_sk, n_db, n_yr, r_vi, r_wy)).2.1) ((marC (l_nf, l_ne, l_pl, l_yl, l_nd, l_hm, l_wk, l_kd) (2 ^ l_ne - 1) (n_lo, n_sk, n_db, n_yr, r_vi, r_wy)).2.2.1) ((marC (l_nf, l_ne, l_pl, l_yl, l_nd, l_hm, l_wk, l_kd) (2 ^ l_ne - 1) (n_lo, n_sk, n_db, n_yr, r_vi, r_wy)).2.2.2.1) ((marC (l_nf, l_ne, l_pl, l_yl, l_nd, l_hm, l_wk, l_kd) (2 ^ l_ne - 1) (n_lo, n_sk, n_db, n_yr, r_vi, r_wy)).2.2.2.2.1) ((marC (l_nf, l_ne, l_pl, l_yl, l_nd, l_hm, l_wk, l_kd) (2 ^ l_ne - 1) (n_lo, n_sk, n_db, n_yr, r_vi, r_wy)).2.2.2.2.2)] [0, 1, 2, 3] rfl (by simp only [List.flatten_cons, List.flatten_nil, List.append_nil, List.append_assoc]) (by show List.flatten [wX g x_a x_ta l_a n_a r_a x_aa x_da x_sd, wL g l_a l_nf l_ne l_pl l_yl l_nd l_hm l_wk l_kd, wC g n_a l_a n_lo n_sk n_db n_yr n_vi n_wy, wC g r_a l_a ((marC (l_nf, l_ne, l_pl, l_yl, l_nd, l_hm, l_wk, l_kd) (2 ^ l_ne - 1) (n_lo, n_sk, n_db, n_yr, r_vi, r_wy)).1) ((marC (l_nf, l_ne, l_pl, l_yl, l_nd, l_hm, l_wk, l_kd) (2 ^ l_ne - 1) (n_lo, n_sk, n_db, n_yr, r_vi, r_wy)).2.1) ((marC (l_nf, l_ne, l_pl, l_yl, l_nd, l_hm, l_wk, l_kd) (2 ^ l_ne - 1) (n_lo, n_sk, n_db, n_yr, r_vi, r_wy)).2.2.1) ((marC (l_nf, l_ne, l_pl, l_yl, l_nd, l_hm, l_wk, l_kd) (2 ^ l_ne - 1) (n_lo, n_sk, n_db, n_yr, r_vi, r_wy)).2.2.2.1) ((marC (l_nf, l_ne, l_pl, l_yl, l_nd, l_hm, l_wk, l_kd) (2 ^ l_ne - 1) (n_lo, n_sk, n_db, n_yr, r_vi, r_wy)).2.2.2.2.1) ((marC (l_nf, l_ne, l_pl, l_yl, l_nd, l_hm, l_wk, l_kd) (2 ^ l_ne - 1) (n_lo, n_sk, n_db, n_yr, r_vi, r_wy)).2.2.2.2.2)] = _; simp only [List.flatten_cons, List.flatten_nil, List.append_nil, List.append_assoc]) ?_
      refine V_pop nX5_eater_124 rfl ?_
      refine V_aload_n nX5_eater_125 rfl ?_
      refine V_get5 0 3 (by decide) f_RX5_32 nX5_eater_126 rfl rfl ?_
      refine V_get1 14 6 (by decide) f_RX5_156 nX5_eater_129 rfl rfl ?_
      refine V_iload_n nX5_eater_132 rfl ?_
      refine V_iald 19 nX5_eater_133 rfl (by omega) (by decide) rfl ?_
      exact R_i rfl X hQ nX5_eater_134 (by simp only [List.map_append, wC_fst, wL_fst, wX_fst]) (⟨_, _, _, _, _, _, by rw [show eaR (l_nf, l_ne, l_pl, l_yl, l_nd, l_hm, l_wk, l_kd) n_sk n_db (nI a) y = _ from by simp [eaR, h8, hix_a, hw]; exact rfl]; exact congrArg (fun z => some (Value.int z)) (wyN_eq (L := (l_nf, l_ne, l_pl, l_yl, l_nd, l_hm, l_wk, l_kd)) hne hf_a n_sk n_db r_vi r_wy), rfl⟩)
    · skip
      have hw0 : ¬ y.toInt = 0 := by omega
      have hw1 : ¬ y.toInt = 1 := by omega
      have hw2 : ¬ y.toInt = 2 := by omega
      have hw3 : ¬ y.toInt = 3 := by omega
      have hw4 : ¬ y.toInt = 4 := by omega
      have hw5 : ¬ y.toInt = 5 := by omega
      refine V_tableOut (tgt := 135) nX5_eater_14 hw rfl ?_
      refine V_bipush (v := (-2)) nX5_eater_135 (by decide) ?_
      exact R_i rfl X hQ nX5_eater_137 (by simp only [List.map_append, wC_fst, wL_fst, wX_fst]) (⟨_, _, _, _, _, _, by simp [eaR, h8, hix_a, hw0, hw1, hw2, hw3, hw4, hw5], rfl⟩)
  · skip
    refine V_iconst (v := (-1)) nX5_eater_11 (by decide) ?_
    exact R_i rfl X hQ nX5_eater_12 (by simp only [List.map_append, wC_fst, wL_fst, wX_fst]) (⟨_, _, _, _, _, _, by simp [eaR, h8], rfl⟩)

set_option maxHeartbeats 4000000 in
set_option maxRecDepth 100000 in
theorem c_X5_owes (g : Gx) (l : Launch) (x_a : Nat → Nat) (x_ta : Nat → Nat) (x_ra : Nat → Nat) (x_aa : Nat → Nat) (x_da : Nat → Nat) (x_sd : Int64) (l_a : Nat → Nat) (l_nf : Nat) (l_ne : Nat) (l_pl : Nat → Int32) (l_yl : Nat → Int32) (l_nd : Nat → Int32) (l_hm : Nat → Int32) (l_wk : Nat → Int32) (l_kd : Nat → Int32) (n_a : Nat → Nat) (n_lo : Nat → Int32) (n_sk : Nat → Int32) (n_db : Nat → Int32) (n_yr : Int32) (n_vi : Nat → Int32) (n_wy : Nat → Int32)  (x : Int32) (y : Int32) (hnf : l_nf ≤ 4) (hne : l_ne ≤ 5) : Cd g l yX5_owes mX5_owes ({ frames := 1, cells := 0, slots := 0, locals := 22 } : Room) [.ref (x_a 0), .int x, .int y] ((wX g x_a x_ta l_a n_a x_ra x_aa x_da x_sd) ++ (wL g l_a l_nf l_ne l_pl l_yl l_nd l_hm l_wk l_kd) ++ (wC g n_a l_a n_lo n_sk n_db n_yr n_vi n_wy)) (some (.int (owR (l_nf, l_ne, l_pl, l_yl, l_nd, l_hm, l_wk, l_kd) n_db x y))) ((wX g x_a x_ta l_a n_a x_ra x_aa x_da x_sd) ++ (wL g l_a l_nf l_ne l_pl l_yl l_nd l_hm l_wk l_kd) ++ (wC g n_a l_a n_lo n_sk n_db n_yr n_vi n_wy)) := by
  refine Ct.of (lv := [(0, .ref (x_a 0)), (1, .int x), (2, .int y)]) ⟨by decide +kernel, rfl, Nat.le_of_ble_eq_true rfl⟩ rfl (fun E A sz Q X hQ => ?_)
  refine V_aload_n nX5_owes_0 rfl ?_
  refine V_get5 0 1 (by decide) f_RX5_19 nX5_owes_1 rfl rfl ?_
  refine V_iload_n nX5_owes_4 rfl ?_
  refine V_blk (ws' := ((wL g l_a l_nf l_ne l_pl l_yl l_nd l_hm l_wk l_kd)) ++ ((wX g x_a x_ta l_a n_a x_ra x_aa x_da x_sd) ++ (wC g n_a l_a n_lo n_sk n_db n_yr n_vi n_wy))) [wX g x_a x_ta l_a n_a x_ra x_aa x_da x_sd, wL g l_a l_nf l_ne l_pl l_yl l_nd l_hm l_wk l_kd, wC g n_a l_a n_lo n_sk n_db n_yr n_vi n_wy] [1, 0, 2] rfl (by simp only [List.flatten_cons, List.flatten_nil, List.append_nil, List.append_assoc]) (by show List.flatten [wL g l_a l_nf l_ne l_pl l_yl l_nd l_hm l_wk l_kd, wX g x_a x_ta l_a n_a x_ra x_aa x_da x_sd, wC g n_a l_a n_lo n_sk n_db n_yr n_vi n_wy] = _; simp only [List.flatten_cons, List.flatten_nil, List.append_nil, List.append_assoc]) ?_
  refine V_cVi (C := (RX2, TX2, 8)) (ci := 2) (ws' := ((wL g l_a l_nf l_ne l_pl l_yl l_nd l_hm l_wk l_kd)) ++ ((wX g x_a x_ta l_a n_a x_ra x_aa x_da x_sd) ++ (wC g n_a l_a n_lo n_sk n_db n_yr n_vi n_wy))) (List.range _) 1 X (c_X2_hasEater g l l_a l_nf l_ne l_pl l_yl l_nd l_hm l_wk l_kd  x (by omega)) k_RX5_138 hy_X2_hasEater (by decide) (range_at _ _) (range_nd _) 0 rfl rfl nX5_owes_5 rfl rfl (Nat.le_of_ble_eq_true rfl) (wput_range _ _ _ (by simp only [List.length_append, wL_len])) ?_
  refine V_blk (ws' := (wX g x_a x_ta l_a n_a x_ra x_aa x_da x_sd) ++ (wL g l_a l_nf l_ne l_pl l_yl l_nd l_hm l_wk l_kd) ++ (wC g n_a l_a n_lo n_sk n_db n_yr n_vi n_wy)) [wL g l_a l_nf l_ne l_pl l_yl l_nd l_hm l_wk l_kd, wX g x_a x_ta l_a n_a x_ra x_aa x_da x_sd, wC g n_a l_a n_lo n_sk n_db n_yr n_vi n_wy] [1, 0, 2] rfl (by simp only [List.flatten_cons, List.flatten_nil, List.append_nil, List.append_assoc]) (by show List.flatten [wX g x_a x_ta l_a n_a x_ra x_aa x_da x_sd, wL g l_a l_nf l_ne l_pl l_yl l_nd l_hm l_wk l_kd, wC g n_a l_a n_lo n_sk n_db n_yr n_vi n_wy] = _; simp only [List.flatten_cons, List.flatten_nil, List.append_nil, List.append_assoc]) ?_
  refine V_if_eq_b (tgt := 22) nX5_owes_8 rfl (fun h8 => ?_) (fun h8 => ?_)
  · skip
    refine V_iconst (v := (-1)) nX5_owes_22 (by decide) ?_
    exact R_i rfl X hQ nX5_owes_23 (by simp only [List.map_append, wC_fst, wL_fst, wX_fst]) (⟨by simp [owR, h8], rfl⟩)
  · skip
    obtain ⟨a, hf_a, rfl⟩ := hasN_t h8 (by omega)
    have hix_a : ix (nI a) = a := ix_nI (by omega)
    refine V_aload_n nX5_owes_11 rfl ?_
    refine V_get5 0 1 (by decide) f_RX5_19 nX5_owes_12 rfl rfl ?_
    refine V_iload_n nX5_owes_15 rfl ?_
    refine V_blk (ws' := ((wL g l_a l_nf l_ne l_pl l_yl l_nd l_hm l_wk l_kd)) ++ ((wX g x_a x_ta l_a n_a x_ra x_aa x_da x_sd) ++ (wC g n_a l_a n_lo n_sk n_db n_yr n_vi n_wy))) [wX g x_a x_ta l_a n_a x_ra x_aa x_da x_sd, wL g l_a l_nf l_ne l_pl l_yl l_nd l_hm l_wk l_kd, wC g n_a l_a n_lo n_sk n_db n_yr n_vi n_wy] [1, 0, 2] rfl (by simp only [List.flatten_cons, List.flatten_nil, List.append_nil, List.append_assoc]) (by show List.flatten [wL g l_a l_nf l_ne l_pl l_yl l_nd l_hm l_wk l_kd, wX g x_a x_ta l_a n_a x_ra x_aa x_da x_sd, wC g n_a l_a n_lo n_sk n_db n_yr n_vi n_wy] = _; simp only [List.flatten_cons, List.flatten_nil, List.append_nil, List.append_assoc]) ?_
    refine V_cVi (C := (RX2, TX2, 8)) (ci := 2) (ws' := ((wL g l_a l_nf l_ne l_pl l_yl l_nd l_hm l_wk l_kd)) ++ ((wX g x_a x_ta l_a n_a x_ra x_aa x_da x_sd) ++ (wC g n_a l_a n_lo n_sk n_db n_yr n_vi n_wy))) (List.range _) 1 X (c_X2_hasField g l l_a l_nf l_ne l_pl l_yl l_nd l_hm l_wk l_kd  y (by omega)) k_RX5_116 hy_X2_hasField (by decide) (range_at _ _) (range_nd _) 0 rfl rfl nX5_owes_16 rfl rfl (Nat.le_of_ble_eq_true rfl) (wput_range _ _ _ (by simp only [List.length_append, wL_len])) ?_
    refine V_blk (ws' := (wX g x_a x_ta l_a n_a x_ra x_aa x_da x_sd) ++ (wL g l_a l_nf l_ne l_pl l_yl l_nd l_hm l_wk l_kd) ++ (wC g n_a l_a n_lo n_sk n_db n_yr n_vi n_wy)) [wL g l_a l_nf l_ne l_pl l_yl l_nd l_hm l_wk l_kd, wX g x_a x_ta l_a n_a x_ra x_aa x_da x_sd, wC g n_a l_a n_lo n_sk n_db n_yr n_vi n_wy] [1, 0, 2] rfl (by simp only [List.flatten_cons, List.flatten_nil, List.append_nil, List.append_assoc]) (by show List.flatten [wX g x_a x_ta l_a n_a x_ra x_aa x_da x_sd, wL g l_a l_nf l_ne l_pl l_yl l_nd l_hm l_wk l_kd, wC g n_a l_a n_lo n_sk n_db n_yr n_vi n_wy] = _; simp only [List.flatten_cons, List.flatten_nil, List.append_nil, List.append_assoc]) ?_
    refine V_if_ne_b (tgt := 24) nX5_owes_19 rfl (fun h19 => ?_) (fun h19 => ?_)
    · skip
      obtain ⟨b, hf_b, rfl⟩ := hasN_t h19 (by omega)
      have hix_b : ix (nI b) = b := ix_nI (by omega)
      refine V_aload_n nX5_owes_24 rfl ?_
      refine V_get5 0 2 (by decide) f_RX5_28 nX5_owes_25 rfl rfl ?_
      refine V_iload_n nX5_owes_28 rfl ?_
      refine V_iload_n nX5_owes_29 rfl ?_
      refine V_blk (ws' := ((wC g n_a l_a n_lo n_sk n_db n_yr n_vi n_wy)) ++ ((wX g x_a x_ta l_a n_a x_ra x_aa x_da x_sd) ++ (wL g l_a l_nf l_ne l_pl l_yl l_nd l_hm l_wk l_kd))) [wX g x_a x_ta l_a n_a x_ra x_aa x_da x_sd, wL g l_a l_nf l_ne l_pl l_yl l_nd l_hm l_wk l_kd, wC g n_a l_a n_lo n_sk n_db n_yr n_vi n_wy] [2, 0, 1] rfl (by simp only [List.flatten_cons, List.flatten_nil, List.append_nil, List.append_assoc]) (by show List.flatten [wC g n_a l_a n_lo n_sk n_db n_yr n_vi n_wy, wX g x_a x_ta l_a n_a x_ra x_aa x_da x_sd, wL g l_a l_nf l_ne l_pl l_yl l_nd l_hm l_wk l_kd] = _; simp only [List.flatten_cons, List.flatten_nil, List.append_nil, List.append_assoc]) ?_
      refine V_cVi (C := (RX1, TX1, 7)) (ci := 1) (ws' := ((wC g n_a l_a n_lo n_sk n_db n_yr n_vi n_wy)) ++ ((wX g x_a x_ta l_a n_a x_ra x_aa x_da x_sd) ++ (wL g l_a l_nf l_ne l_pl l_yl l_nd l_hm l_wk l_kd))) (List.range _) 2 X (c_X1_debt g l n_a l_a n_lo n_sk n_db n_yr n_vi n_wy  a b (by omega) (by omega)) k_RX5_159 hy_X1_debt (by decide) (range_at _ _) (range_nd _) 0 rfl rfl nX5_owes_30 rfl rfl (Nat.le_of_ble_eq_true rfl) (wput_range _ _ _ (by simp only [List.length_append, wC_len])) ?_
      refine V_blk (ws' := (wX g x_a x_ta l_a n_a x_ra x_aa x_da x_sd) ++ (wL g l_a l_nf l_ne l_pl l_yl l_nd l_hm l_wk l_kd) ++ (wC g n_a l_a n_lo n_sk n_db n_yr n_vi n_wy)) [wC g n_a l_a n_lo n_sk n_db n_yr n_vi n_wy, wX g x_a x_ta l_a n_a x_ra x_aa x_da x_sd, wL g l_a l_nf l_ne l_pl l_yl l_nd l_hm l_wk l_kd] [1, 2, 0] rfl (by simp only [List.flatten_cons, List.flatten_nil, List.append_nil, List.append_assoc]) (by show List.flatten [wX g x_a x_ta l_a n_a x_ra x_aa x_da x_sd, wL g l_a l_nf l_ne l_pl l_yl l_nd l_hm l_wk l_kd, wC g n_a l_a n_lo n_sk n_db n_yr n_vi n_wy] = _; simp only [List.flatten_cons, List.flatten_nil, List.append_nil, List.append_assoc]) ?_
      exact R_i rfl X hQ nX5_owes_33 (by simp only [List.map_append, wC_fst, wL_fst, wX_fst]) (⟨by simp [owR, h8, hix_a, h19, hix_b], rfl⟩)
    · skip
      refine V_iconst (v := (-1)) nX5_owes_22 (by decide) ?_
      exact R_i rfl X hQ nX5_owes_23 (by simp only [List.map_append, wC_fst, wL_fst, wX_fst]) (⟨by simp [owR, h8, hix_a, h19], rfl⟩)

set_option maxHeartbeats 4000000 in
set_option maxRecDepth 100000 in
theorem c_X5_came (g : Gx) (l : Launch) (x_a : Nat → Nat) (x_ta : Nat → Nat) (x_la : Nat → Nat) (x_na : Nat → Nat) (x_ra : Nat → Nat) (x_aa : Nat → Nat) (x_sd : Int64) (d_a : Nat → Nat) (d_cp : Nat → Int32) (d_ci : Nat → Int32) (d_n : Nat)  (q : Int32) (c : Int32) (hd : d_n ≤ 6) : Cd g l yX5_came mX5_came ({ frames := 1, cells := 0, slots := 0, locals := 22 } : Room) [.ref (x_a 0), .int q, .int c] ((wX g x_a x_ta x_la x_na x_ra x_aa d_a x_sd) ++ (wD g d_a d_cp d_ci d_n)) (some (.int (cmR d_n q c))) ((wX g x_a x_ta x_la x_na x_ra x_aa d_a x_sd) ++ (wD g d_a (cmP d_cp d_n q c) (cmI d_ci d_n q c) (cmN d_n q c))) := by
  refine Ct.of (lv := [(0, .ref (x_a 0)), (1, .int q), (2, .int c)]) ⟨by decide +kernel, rfl, Nat.le_of_ble_eq_true rfl⟩ rfl (fun E A sz Q X hQ => ?_)
  refine V_iload_n nX5_came_0 rfl ?_
  refine V_if_lt (tgt := 19) nX5_came_1 rfl (fun h1 => ?_) (fun h1 => ?_)
  · skip
    refine V_bipush (v := (-2)) nX5_came_19 (by decide) ?_
    exact R_i rfl X hQ nX5_came_21 (by simp only [List.map_append, wD_fst, wX_fst]) (⟨by simp [cmR, cmN, cmP, cmI, cmOk, h1], by simp [cmR, cmN, cmP, cmI, cmOk, h1]⟩)
  · skip
    refine V_iload_n nX5_came_4 rfl ?_
    refine V_bipush (v := (nI 10)) nX5_came_5 (by decide) ?_
    refine V_icmp_ge (tgt := 19) nX5_came_7 rfl (fun h7 => ?_) (fun h7 => ?_)
    · skip
      refine V_bipush (v := (-2)) nX5_came_19 (by decide) ?_
      exact R_i rfl X hQ nX5_came_21 (by simp only [List.map_append, wD_fst, wX_fst]) (⟨by simp [cmR, cmN, cmP, cmI, cmOk, h1, h7], by simp [cmR, cmN, cmP, cmI, cmOk, h1, h7]⟩)
    · skip
      refine V_iload_n nX5_came_10 rfl ?_
      refine V_if_lt (tgt := 19) nX5_came_11 rfl (fun h11 => ?_) (fun h11 => ?_)
      · skip
        refine V_bipush (v := (-2)) nX5_came_19 (by decide) ?_
        exact R_i rfl X hQ nX5_came_21 (by simp only [List.map_append, wD_fst, wX_fst]) (⟨by simp [cmR, cmN, cmP, cmI, cmOk, h1, h7, h11], by simp [cmR, cmN, cmP, cmI, cmOk, h1, h7, h11]⟩)
      · skip
        refine V_iload_n nX5_came_14 rfl ?_
        refine V_iconst (v := (nI 1)) nX5_came_15 rfl ?_
        refine V_icmp_le (tgt := 22) nX5_came_16 rfl (fun h16 => ?_) (fun h16 => ?_)
        · skip
          refine V_aload_n nX5_came_22 rfl ?_
          refine V_get5 0 5 (by decide) f_RX5_45 nX5_came_23 rfl rfl ?_
          refine V_get4 1 2 (by decide) f_RX5_115 nX5_came_26 rfl rfl ?_
          refine V_bipush (v := (nI 6)) nX5_came_29 (by decide) ?_
          refine V_icmp_lt_N (tgt := 37) nX5_came_31 rfl (by omega) (by omega) (fun h31 => ?_) (fun h31 => ?_)
          · skip
            have n31 : ¬ 6 ≤ d_n := by omega
            refine V_aload_n nX5_came_37 rfl ?_
            refine V_get5 0 5 (by decide) f_RX5_45 nX5_came_38 rfl rfl ?_
            refine V_iload_n nX5_came_41 rfl ?_
            refine V_iload_n nX5_came_42 rfl ?_
            refine V_iconst (v := (nI 1)) nX5_came_43 rfl ?_
            refine V_joinb (b := decide (c = (nI 1))) (pj := 52) (st := [.int q, .ref (d_a 0)]) (fun J1 J2 => ?_) ?_
            · skip
              refine V_icmp_ne (tgt := 51) nX5_came_44 rfl (fun h44 => ?_) (fun h44 => ?_)
              · skip
                refine V_iconst (v := (nI 0)) nX5_came_51 rfl ?_
                exact J2 (by simp [h44])
              · skip
                refine V_iconst (v := (nI 1)) nX5_came_47 rfl ?_
                refine V_goto (tgt := 52) nX5_came_48 rfl ?_
                exact J1 (by simp [h44])
            refine V_blk (ws' := ((wD g d_a d_cp d_ci d_n)) ++ ((wX g x_a x_ta x_la x_na x_ra x_aa d_a x_sd))) [wX g x_a x_ta x_la x_na x_ra x_aa d_a x_sd, wD g d_a d_cp d_ci d_n] [1, 0] rfl (by simp only [List.flatten_cons, List.flatten_nil, List.append_nil, List.append_assoc]) (by show List.flatten [wD g d_a d_cp d_ci d_n, wX g x_a x_ta x_la x_na x_ra x_aa d_a x_sd] = _; simp only [List.flatten_cons, List.flatten_nil, List.append_nil, List.append_assoc]) ?_
            refine V_cVv (C := (RX4, TX4, 3)) (ci := 4) (ws' := ((wD g d_a (upd d_cp d_n q) (upd d_ci d_n (bI (decide (c = (nI 1))))) (d_n + 1))) ++ ((wX g x_a x_ta x_la x_na x_ra x_aa d_a x_sd))) (List.range _) 2 X (c_X4_add g l d_a d_cp d_ci d_n  q (decide (c = (nI 1))) (by omega)) k_RX5_216 hy_X4_add (by decide) (range_at _ _) (range_nd _) 0 rfl rfl nX5_came_52 rfl rfl (Nat.le_of_ble_eq_true rfl) (wput_range _ _ _ (by simp only [List.length_append, wD_len])) ?_
            refine V_blk (ws' := (wX g x_a x_ta x_la x_na x_ra x_aa d_a x_sd) ++ (wD g d_a (upd d_cp d_n q) (upd d_ci d_n (bI (decide (c = (nI 1))))) (d_n + 1))) [wD g d_a (upd d_cp d_n q) (upd d_ci d_n (bI (decide (c = (nI 1))))) (d_n + 1), wX g x_a x_ta x_la x_na x_ra x_aa d_a x_sd] [1, 0] rfl (by simp only [List.flatten_cons, List.flatten_nil, List.append_nil, List.append_assoc]) (by show List.flatten [wX g x_a x_ta x_la x_na x_ra x_aa d_a x_sd, wD g d_a (upd d_cp d_n q) (upd d_ci d_n (bI (decide (c = (nI 1))))) (d_n + 1)] = _; simp only [List.flatten_cons, List.flatten_nil, List.append_nil, List.append_assoc]) ?_
            refine V_aload_n nX5_came_55 rfl ?_
            refine V_get5 0 5 (by decide) f_RX5_45 nX5_came_56 rfl rfl ?_
            refine V_get4 1 2 (by decide) f_RX5_115 nX5_came_59 rfl rfl ?_
            exact R_i rfl X hQ nX5_came_62 (by simp only [List.map_append, wD_fst, wX_fst]) (⟨by simp [cmR, cmN, cmP, cmI, cmOk, h1, h7, h11, h16, h31, n31], by simp [cmR, cmN, cmP, cmI, cmOk, h1, h7, h11, h16, h31, n31]⟩)
          · skip
            have n31 : ¬ d_n < 6 := by omega
            refine V_bipush (v := (-4)) nX5_came_34 (by decide) ?_
            exact R_i rfl X hQ nX5_came_36 (by simp only [List.map_append, wD_fst, wX_fst]) (⟨by simp [cmR, cmN, cmP, cmI, cmOk, h1, h7, h11, h16, h31, n31], by simp [cmR, cmN, cmP, cmI, cmOk, h1, h7, h11, h16, h31, n31]⟩)
        · skip
          refine V_bipush (v := (-2)) nX5_came_19 (by decide) ?_
          exact R_i rfl X hQ nX5_came_21 (by simp only [List.map_append, wD_fst, wX_fst]) (⟨by simp [cmR, cmN, cmP, cmI, cmOk, h1, h7, h11, h16], by simp [cmR, cmN, cmP, cmI, cmOk, h1, h7, h11, h16]⟩)

set_option maxHeartbeats 4000000 in
set_option maxRecDepth 100000 in
theorem c_X5_forget (g : Gx) (l : Launch) (x_a : Nat → Nat) (x_ta : Nat → Nat) (x_la : Nat → Nat) (x_na : Nat → Nat) (x_ra : Nat → Nat) (x_aa : Nat → Nat) (x_sd : Int64) (d_a : Nat → Nat) (d_cp : Nat → Int32) (d_ci : Nat → Int32) (d_n : Nat)    : Cd g l yX5_forget mX5_forget ({ frames := 0, cells := 0, slots := 0, locals := 0 } : Room) [.ref (x_a 0)] ((wX g x_a x_ta x_la x_na x_ra x_aa d_a x_sd) ++ (wD g d_a d_cp d_ci d_n)) (some (.int (nI d_n))) ((wX g x_a x_ta x_la x_na x_ra x_aa d_a x_sd) ++ (wD g d_a d_cp d_ci 0)) := by
  refine Ct.of (lv := [(0, .ref (x_a 0))]) ⟨by decide +kernel, rfl, Nat.le_of_ble_eq_true rfl⟩ rfl (fun E A sz Q X hQ => ?_)
  refine V_aload_n nX5_forget_0 rfl ?_
  refine V_get5 0 5 (by decide) f_RX5_45 nX5_forget_1 rfl rfl ?_
  refine V_get4 1 2 (by decide) f_RX5_115 nX5_forget_4 rfl rfl ?_
  refine V_istore_n (lv' := [(0, .ref (x_a 0)), (1, .int (nI d_n))]) nX5_forget_7 (by decide) rfl ?_
  refine V_aload_n nX5_forget_8 rfl ?_
  refine V_get5 0 5 (by decide) f_RX5_45 nX5_forget_9 rfl rfl ?_
  refine V_iconst (v := (nI 0)) nX5_forget_12 rfl ?_
  refine V_put4 (ws' := (wX g x_a x_ta x_la x_na x_ra x_aa d_a x_sd) ++ (wD g d_a d_cp d_ci 0)) 1 2 (by decide) f_RX5_115 rfl rfl rfl rfl nX5_forget_13 rfl (Nat.le_of_ble_eq_true rfl) rfl ?_
  refine V_iload_n nX5_forget_16 rfl ?_
  exact R_i rfl X hQ nX5_forget_17 (by simp only [List.map_append, wD_fst, wX_fst]) (⟨rfl, rfl⟩)

set_option maxHeartbeats 4000000 in
set_option maxRecDepth 100000 in
theorem c_X5_seed (g : Gx) (l : Launch) (x_a : Nat → Nat) (x_ta : Nat → Nat) (x_la : Nat → Nat) (x_na : Nat → Nat) (x_ra : Nat → Nat) (x_aa : Nat → Nat) (x_da : Nat → Nat) (x_sd : Int64)  (v : Int64)  : Cd g l yX5_seed mX5_seed ({ frames := 0, cells := 0, slots := 0, locals := 0 } : Room) [.ref (x_a 0), .long v] (wX g x_a x_ta x_la x_na x_ra x_aa x_da x_sd) (some (.long x_sd)) (wX g x_a x_ta x_la x_na x_ra x_aa x_da v) := by
  refine Ct.of (lv := [(0, .ref (x_a 0)), (1, .long v)]) ⟨by decide +kernel, rfl, Nat.le_of_ble_eq_true rfl⟩ rfl (fun E A sz Q X hQ => ?_)
  refine V_aload_n nX5_seed_0 rfl ?_
  refine V_get5 0 9 (by decide) f_RX5_61 nX5_seed_1 rfl rfl ?_
  refine V_lstore_n (lv' := [(0, .ref (x_a 0)), (1, .long v), (3, .long x_sd)]) nX5_seed_4 (by decide) rfl ?_
  refine V_aload_n nX5_seed_5 rfl ?_
  refine V_lload_n nX5_seed_6 rfl ?_
  refine V_put5 (ws' := wX g x_a x_ta x_la x_na x_ra x_aa x_da v) 0 9 (by decide) f_RX5_61 rfl rfl rfl rfl nX5_seed_7 rfl (Nat.le_of_ble_eq_true rfl) rfl ?_
  refine V_lload_n nX5_seed_10 rfl ?_
  exact R_l rfl X hQ nX5_seed_11 (by simp only [List.map_append, wX_fst]) (⟨rfl, rfl⟩)
