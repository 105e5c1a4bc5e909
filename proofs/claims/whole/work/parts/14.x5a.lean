set_option maxHeartbeats 4000000 in
set_option maxRecDepth 100000 in
theorem c_J6_bitCount_0f7a4 (g : Gx) (l : Launch)   (k : Nat) (hk : k < 32) : Cd g l yJ6_bitCount_0f7a4 mJ6_bitCount_0f7a4 ({ frames := 0, cells := 0, slots := 0, locals := 0 } : Room) [.int (nI k)] ([]) (some (.int (nI (bcN k)))) ([]) := by
  refine Ct.of (lv := [(0, .int (nI k))]) ⟨by decide +kernel, rfl, Nat.le_of_ble_eq_true rfl⟩ rfl (fun E A sz Q X hQ => ?_)
  refine V_iload_n nJ6_bitCount_0f7a4_0 rfl ?_
  refine V_iload_n nJ6_bitCount_0f7a4_1 rfl ?_
  refine V_iconst (v := (nI 1)) nJ6_bitCount_0f7a4_2 rfl ?_
  refine V_iushr (v := ((nI k).toUInt32 >>> ((nI 1).toUInt32 &&& Int32.toUInt32 31)).toInt32) nJ6_bitCount_0f7a4_3 rfl ?_
  refine V_ldcw ct_RJ6_265 nJ6_bitCount_0f7a4_4 ?_
  refine V_iand (v := (((nI k).toUInt32 >>> ((nI 1).toUInt32 &&& Int32.toUInt32 31)).toInt32) &&& (1431655765 : Int32)) nJ6_bitCount_0f7a4_7 rfl ?_
  refine V_isub (v := (nI k) - ((((nI k).toUInt32 >>> ((nI 1).toUInt32 &&& Int32.toUInt32 31)).toInt32) &&& (1431655765 : Int32))) nJ6_bitCount_0f7a4_8 rfl ?_
  refine V_top (y := bs1 (nI k)) rfl ?_
  refine V_istore_n (lv' := [(0, .int (bs1 (nI k)))]) nJ6_bitCount_0f7a4_9 (by decide) rfl ?_
  refine V_iload_n nJ6_bitCount_0f7a4_10 rfl ?_
  refine V_ldcw ct_RJ6_266 nJ6_bitCount_0f7a4_11 ?_
  refine V_iand (v := (bs1 (nI k)) &&& (858993459 : Int32)) nJ6_bitCount_0f7a4_14 rfl ?_
  refine V_iload_n nJ6_bitCount_0f7a4_15 rfl ?_
  refine V_iconst (v := (nI 2)) nJ6_bitCount_0f7a4_16 rfl ?_
  refine V_iushr (v := ((bs1 (nI k)).toUInt32 >>> ((nI 2).toUInt32 &&& Int32.toUInt32 31)).toInt32) nJ6_bitCount_0f7a4_17 rfl ?_
  refine V_ldcw ct_RJ6_266 nJ6_bitCount_0f7a4_18 ?_
  refine V_iand (v := (((bs1 (nI k)).toUInt32 >>> ((nI 2).toUInt32 &&& Int32.toUInt32 31)).toInt32) &&& (858993459 : Int32)) nJ6_bitCount_0f7a4_21 rfl ?_
  refine V_iadd (v := ((bs1 (nI k)) &&& (858993459 : Int32)) + ((((bs1 (nI k)).toUInt32 >>> ((nI 2).toUInt32 &&& Int32.toUInt32 31)).toInt32) &&& (858993459 : Int32))) nJ6_bitCount_0f7a4_22 rfl ?_
  refine V_top (y := bs2 (bs1 (nI k))) rfl ?_
  refine V_istore_n (lv' := [(0, .int (bs2 (bs1 (nI k))))]) nJ6_bitCount_0f7a4_23 (by decide) rfl ?_
  refine V_iload_n nJ6_bitCount_0f7a4_24 rfl ?_
  refine V_iload_n nJ6_bitCount_0f7a4_25 rfl ?_
  refine V_iconst (v := (nI 4)) nJ6_bitCount_0f7a4_26 rfl ?_
  refine V_iushr (v := ((bs2 (bs1 (nI k))).toUInt32 >>> ((nI 4).toUInt32 &&& Int32.toUInt32 31)).toInt32) nJ6_bitCount_0f7a4_27 rfl ?_
  refine V_iadd (v := (bs2 (bs1 (nI k))) + (((bs2 (bs1 (nI k))).toUInt32 >>> ((nI 4).toUInt32 &&& Int32.toUInt32 31)).toInt32)) nJ6_bitCount_0f7a4_28 rfl ?_
  refine V_ldcw ct_RJ6_267 nJ6_bitCount_0f7a4_29 ?_
  refine V_iand (v := ((bs2 (bs1 (nI k))) + (((bs2 (bs1 (nI k))).toUInt32 >>> ((nI 4).toUInt32 &&& Int32.toUInt32 31)).toInt32)) &&& (252645135 : Int32)) nJ6_bitCount_0f7a4_32 rfl ?_
  refine V_top (y := bs3 (bs2 (bs1 (nI k)))) rfl ?_
  refine V_istore_n (lv' := [(0, .int (bs3 (bs2 (bs1 (nI k)))))]) nJ6_bitCount_0f7a4_33 (by decide) rfl ?_
  refine V_iload_n nJ6_bitCount_0f7a4_34 rfl ?_
  refine V_iload_n nJ6_bitCount_0f7a4_35 rfl ?_
  refine V_bipush (v := (nI 8)) nJ6_bitCount_0f7a4_36 (by decide) ?_
  refine V_iushr (v := ((bs3 (bs2 (bs1 (nI k)))).toUInt32 >>> ((nI 8).toUInt32 &&& Int32.toUInt32 31)).toInt32) nJ6_bitCount_0f7a4_38 rfl ?_
  refine V_iadd (v := (bs3 (bs2 (bs1 (nI k)))) + (((bs3 (bs2 (bs1 (nI k)))).toUInt32 >>> ((nI 8).toUInt32 &&& Int32.toUInt32 31)).toInt32)) nJ6_bitCount_0f7a4_39 rfl ?_
  refine V_top (y := bs4 (bs3 (bs2 (bs1 (nI k))))) rfl ?_
  refine V_istore_n (lv' := [(0, .int (bs4 (bs3 (bs2 (bs1 (nI k))))))]) nJ6_bitCount_0f7a4_40 (by decide) rfl ?_
  refine V_iload_n nJ6_bitCount_0f7a4_41 rfl ?_
  refine V_iload_n nJ6_bitCount_0f7a4_42 rfl ?_
  refine V_bipush (v := (nI 16)) nJ6_bitCount_0f7a4_43 (by decide) ?_
  refine V_iushr (v := ((bs4 (bs3 (bs2 (bs1 (nI k))))).toUInt32 >>> ((nI 16).toUInt32 &&& Int32.toUInt32 31)).toInt32) nJ6_bitCount_0f7a4_45 rfl ?_
  refine V_iadd (v := (bs4 (bs3 (bs2 (bs1 (nI k))))) + (((bs4 (bs3 (bs2 (bs1 (nI k))))).toUInt32 >>> ((nI 16).toUInt32 &&& Int32.toUInt32 31)).toInt32)) nJ6_bitCount_0f7a4_46 rfl ?_
  refine V_top (y := bs5 (bs4 (bs3 (bs2 (bs1 (nI k)))))) rfl ?_
  refine V_istore_n (lv' := [(0, .int (bs5 (bs4 (bs3 (bs2 (bs1 (nI k)))))))]) nJ6_bitCount_0f7a4_47 (by decide) rfl ?_
  refine V_iload_n nJ6_bitCount_0f7a4_48 rfl ?_
  refine V_bipush (v := (nI 63)) nJ6_bitCount_0f7a4_49 (by decide) ?_
  refine V_iand (v := (bs5 (bs4 (bs3 (bs2 (bs1 (nI k)))))) &&& (nI 63)) nJ6_bitCount_0f7a4_51 rfl ?_
  exact R_i rfl X hQ nJ6_bitCount_0f7a4_52 rfl (⟨by rw [bs_ok k hk], rfl⟩)

set_option maxHeartbeats 4000000 in
set_option maxRecDepth 100000 in
theorem c_X5_sownIfCome (g : Gx) (l : Launch) (x_a : Nat → Nat) (x_ta : Nat → Nat) (x_aa : Nat → Nat) (x_da : Nat → Nat) (x_sd : Int64) (l_a : Nat → Nat) (l_nf : Nat) (l_ne : Nat) (l_pl : Nat → Int32) (l_yl : Nat → Int32) (l_nd : Nat → Int32) (l_hm : Nat → Int32) (l_wk : Nat → Int32) (l_kd : Nat → Int32) (n_a : Nat → Nat) (n_lo : Nat → Int32) (n_sk : Nat → Int32) (n_db : Nat → Int32) (n_yr : Int32) (n_vi : Nat → Int32) (n_wy : Nat → Int32) (r_a : Nat → Nat) (r_lo : Nat → Int32) (r_sk : Nat → Int32) (r_db : Nat → Int32) (r_yr : Int32) (r_vi : Nat → Int32) (r_wy : Nat → Int32)  (v : Nat) (hnf : l_nf ≤ 4) (hne : l_ne ≤ 5) (hv : v < 2 ^ 31) : Cd g l yX5_sownIfCome mX5_sownIfCome ({ frames := 4, cells := 0, slots := 0, locals := 98 } : Room) [.ref (x_a 0), .int (nI v)] ((wX g x_a x_ta l_a n_a r_a x_aa x_da x_sd) ++ (wL g l_a l_nf l_ne l_pl l_yl l_nd l_hm l_wk l_kd) ++ (wC g n_a l_a n_lo n_sk n_db n_yr n_vi n_wy) ++ (wC g r_a l_a r_lo r_sk r_db r_yr r_vi r_wy)) (some (.int (nI (swN (l_nf, l_ne, l_pl, l_yl, l_nd, l_hm, l_wk, l_kd) v n_sk n_db)))) ((wX g x_a x_ta l_a n_a r_a x_aa x_da x_sd) ++ (wL g l_a l_nf l_ne l_pl l_yl l_nd l_hm l_wk l_kd) ++ (wC g n_a l_a n_lo n_sk n_db n_yr n_vi n_wy) ++ (wC g r_a l_a ((marC (l_nf, l_ne, l_pl, l_yl, l_nd, l_hm, l_wk, l_kd) v (n_lo, n_sk, n_db, n_yr, r_vi, r_wy)).1) ((marC (l_nf, l_ne, l_pl, l_yl, l_nd, l_hm, l_wk, l_kd) v (n_lo, n_sk, n_db, n_yr, r_vi, r_wy)).2.1) ((marC (l_nf, l_ne, l_pl, l_yl, l_nd, l_hm, l_wk, l_kd) v (n_lo, n_sk, n_db, n_yr, r_vi, r_wy)).2.2.1) ((marC (l_nf, l_ne, l_pl, l_yl, l_nd, l_hm, l_wk, l_kd) v (n_lo, n_sk, n_db, n_yr, r_vi, r_wy)).2.2.2.1) ((marC (l_nf, l_ne, l_pl, l_yl, l_nd, l_hm, l_wk, l_kd) v (n_lo, n_sk, n_db, n_yr, r_vi, r_wy)).2.2.2.2.1) ((marC (l_nf, l_ne, l_pl, l_yl, l_nd, l_hm, l_wk, l_kd) v (n_lo, n_sk, n_db, n_yr, r_vi, r_wy)).2.2.2.2.2))) := by
  refine Ct.of (lv := [(0, .ref (x_a 0)), (1, .int (nI v))]) ⟨by decide +kernel, rfl, Nat.le_of_ble_eq_true rfl⟩ rfl (fun E A sz Q X hQ => ?_)
  refine V_aload_n nX5_sownIfCome_0 rfl ?_
  refine V_get5 0 3 (by decide) f_RX5_32 nX5_sownIfCome_1 rfl rfl ?_
  refine V_aload_n nX5_sownIfCome_4 rfl ?_
  refine V_get5 0 2 (by decide) f_RX5_28 nX5_sownIfCome_5 rfl rfl ?_
  refine V_blk (ws' := ((wC g r_a l_a r_lo r_sk r_db r_yr r_vi r_wy) ++ (wC g n_a l_a n_lo n_sk n_db n_yr n_vi n_wy)) ++ ((wX g x_a x_ta l_a n_a r_a x_aa x_da x_sd) ++ (wL g l_a l_nf l_ne l_pl l_yl l_nd l_hm l_wk l_kd))) [wX g x_a x_ta l_a n_a r_a x_aa x_da x_sd, wL g l_a l_nf l_ne l_pl l_yl l_nd l_hm l_wk l_kd, wC g n_a l_a n_lo n_sk n_db n_yr n_vi n_wy, wC g r_a l_a r_lo r_sk r_db r_yr r_vi r_wy] [3, 2, 0, 1] rfl (by simp only [List.flatten_cons, List.flatten_nil, List.append_nil, List.append_assoc]) (by show List.flatten [wC g r_a l_a r_lo r_sk r_db r_yr r_vi r_wy, wC g n_a l_a n_lo n_sk n_db n_yr n_vi n_wy, wX g x_a x_ta l_a n_a r_a x_aa x_da x_sd, wL g l_a l_nf l_ne l_pl l_yl l_nd l_hm l_wk l_kd] = _; simp only [List.flatten_cons, List.flatten_nil, List.append_nil, List.append_assoc]) ?_
  refine V_cVv (C := (RX1, TX1, 7)) (ci := 1) (ws' := ((wC g r_a l_a n_lo n_sk n_db n_yr r_vi r_wy) ++ (wC g n_a l_a n_lo n_sk n_db n_yr n_vi n_wy)) ++ ((wX g x_a x_ta l_a n_a r_a x_aa x_da x_sd) ++ (wL g l_a l_nf l_ne l_pl l_yl l_nd l_hm l_wk l_kd))) (List.range _) 1 X (c_X1_copyFrom g l r_a l_a r_lo r_sk r_db r_yr r_vi r_wy n_a l_a n_lo n_sk n_db n_yr n_vi n_wy   ) k_RX5_184 hy_X1_copyFrom (by decide) (range_at _ _) (range_nd _) 0 rfl rfl nX5_sownIfCome_8 rfl rfl (Nat.le_of_ble_eq_true rfl) (wput_range _ _ _ (by simp only [List.length_append, wC_len])) ?_
  refine V_blk (ws' := (wX g x_a x_ta l_a n_a r_a x_aa x_da x_sd) ++ (wL g l_a l_nf l_ne l_pl l_yl l_nd l_hm l_wk l_kd) ++ (wC g n_a l_a n_lo n_sk n_db n_yr n_vi n_wy) ++ (wC g r_a l_a n_lo n_sk n_db n_yr r_vi r_wy)) [wC g r_a l_a n_lo n_sk n_db n_yr r_vi r_wy, wC g n_a l_a n_lo n_sk n_db n_yr n_vi n_wy, wX g x_a x_ta l_a n_a r_a x_aa x_da x_sd, wL g l_a l_nf l_ne l_pl l_yl l_nd l_hm l_wk l_kd] [2, 3, 1, 0] rfl (by simp only [List.flatten_cons, List.flatten_nil, List.append_nil, List.append_assoc]) (by show List.flatten [wX g x_a x_ta l_a n_a r_a x_aa x_da x_sd, wL g l_a l_nf l_ne l_pl l_yl l_nd l_hm l_wk l_kd, wC g n_a l_a n_lo n_sk n_db n_yr n_vi n_wy, wC g r_a l_a n_lo n_sk n_db n_yr r_vi r_wy] = _; simp only [List.flatten_cons, List.flatten_nil, List.append_nil, List.append_assoc]) ?_
  refine V_aload_n nX5_sownIfCome_11 rfl ?_
  refine V_get5 0 3 (by decide) f_RX5_32 nX5_sownIfCome_12 rfl rfl ?_
  refine V_iload_n nX5_sownIfCome_15 rfl ?_
  refine V_blk (ws' := ((wC g r_a l_a n_lo n_sk n_db n_yr r_vi r_wy) ++ (wL g l_a l_nf l_ne l_pl l_yl l_nd l_hm l_wk l_kd)) ++ ((wX g x_a x_ta l_a n_a r_a x_aa x_da x_sd) ++ (wC g n_a l_a n_lo n_sk n_db n_yr n_vi n_wy))) [wX g x_a x_ta l_a n_a r_a x_aa x_da x_sd, wL g l_a l_nf l_ne l_pl l_yl l_nd l_hm l_wk l_kd, wC g n_a l_a n_lo n_sk n_db n_yr n_vi n_wy, wC g r_a l_a n_lo n_sk n_db n_yr r_vi r_wy] [3, 1, 0, 2] rfl (by simp only [List.flatten_cons, List.flatten_nil, List.append_nil, List.append_assoc]) (by show List.flatten [wC g r_a l_a n_lo n_sk n_db n_yr r_vi r_wy, wL g l_a l_nf l_ne l_pl l_yl l_nd l_hm l_wk l_kd, wX g x_a x_ta l_a n_a r_a x_aa x_da x_sd, wC g n_a l_a n_lo n_sk n_db n_yr n_vi n_wy] = _; simp only [List.flatten_cons, List.flatten_nil, List.append_nil, List.append_assoc]) ?_
  refine V_cVv (C := (RX1, TX1, 7)) (ci := 1) (ws' := ((wC g r_a l_a n_lo ((marS l_pl l_hm l_wk l_kd l_nf v (n_sk, n_db, r_vi, r_wy) l_ne).1) ((marS l_pl l_hm l_wk l_kd l_nf v (n_sk, n_db, r_vi, r_wy) l_ne).2.1) n_yr ((marS l_pl l_hm l_wk l_kd l_nf v (n_sk, n_db, r_vi, r_wy) l_ne).2.2.1) ((marS l_pl l_hm l_wk l_kd l_nf v (n_sk, n_db, r_vi, r_wy) l_ne).2.2.2)) ++ (wL g l_a l_nf l_ne l_pl l_yl l_nd l_hm l_wk l_kd)) ++ ((wX g x_a x_ta l_a n_a r_a x_aa x_da x_sd) ++ (wC g n_a l_a n_lo n_sk n_db n_yr n_vi n_wy))) (List.range _) 1 X (c_X1_callOut g l r_a n_lo n_sk n_db n_yr r_vi r_wy l_a l_nf l_ne l_pl l_yl l_nd l_hm l_wk l_kd  v (by omega) (by omega) (by omega)) k_RX5_175 hy_X1_callOut (by decide) (range_at _ _) (range_nd _) 0 rfl rfl nX5_sownIfCome_16 rfl rfl (Nat.le_of_ble_eq_true rfl) (wput_range _ _ _ (by simp only [List.length_append, wC_len, wL_len])) ?_
  refine V_blk (ws' := (wX g x_a x_ta l_a n_a r_a x_aa x_da x_sd) ++ (wL g l_a l_nf l_ne l_pl l_yl l_nd l_hm l_wk l_kd) ++ (wC g n_a l_a n_lo n_sk n_db n_yr n_vi n_wy) ++ (wC g r_a l_a n_lo ((marS l_pl l_hm l_wk l_kd l_nf v (n_sk, n_db, r_vi, r_wy) l_ne).1) ((marS l_pl l_hm l_wk l_kd l_nf v (n_sk, n_db, r_vi, r_wy) l_ne).2.1) n_yr ((marS l_pl l_hm l_wk l_kd l_nf v (n_sk, n_db, r_vi, r_wy) l_ne).2.2.1) ((marS l_pl l_hm l_wk l_kd l_nf v (n_sk, n_db, r_vi, r_wy) l_ne).2.2.2))) [wC g r_a l_a n_lo ((marS l_pl l_hm l_wk l_kd l_nf v (n_sk, n_db, r_vi, r_wy) l_ne).1) ((marS l_pl l_hm l_wk l_kd l_nf v (n_sk, n_db, r_vi, r_wy) l_ne).2.1) n_yr ((marS l_pl l_hm l_wk l_kd l_nf v (n_sk, n_db, r_vi, r_wy) l_ne).2.2.1) ((marS l_pl l_hm l_wk l_kd l_nf v (n_sk, n_db, r_vi, r_wy) l_ne).2.2.2), wL g l_a l_nf l_ne l_pl l_yl l_nd l_hm l_wk l_kd, wX g x_a x_ta l_a n_a r_a x_aa x_da x_sd, wC g n_a l_a n_lo n_sk n_db n_yr n_vi n_wy] [2, 1, 3, 0] rfl (by simp only [List.flatten_cons, List.flatten_nil, List.append_nil, List.append_assoc]) (by show List.flatten [wX g x_a x_ta l_a n_a r_a x_aa x_da x_sd, wL g l_a l_nf l_ne l_pl l_yl l_nd l_hm l_wk l_kd, wC g n_a l_a n_lo n_sk n_db n_yr n_vi n_wy, wC g r_a l_a n_lo ((marS l_pl l_hm l_wk l_kd l_nf v (n_sk, n_db, r_vi, r_wy) l_ne).1) ((marS l_pl l_hm l_wk l_kd l_nf v (n_sk, n_db, r_vi, r_wy) l_ne).2.1) n_yr ((marS l_pl l_hm l_wk l_kd l_nf v (n_sk, n_db, r_vi, r_wy) l_ne).2.2.1) ((marS l_pl l_hm l_wk l_kd l_nf v (n_sk, n_db, r_vi, r_wy) l_ne).2.2.2)] = _; simp only [List.flatten_cons, List.flatten_nil, List.append_nil, List.append_assoc]) ?_
  refine V_aload_n nX5_sownIfCome_19 rfl ?_
  refine V_get5 0 3 (by decide) f_RX5_32 nX5_sownIfCome_20 rfl rfl ?_
  refine V_blk (ws' := ((wC g r_a l_a n_lo ((marS l_pl l_hm l_wk l_kd l_nf v (n_sk, n_db, r_vi, r_wy) l_ne).1) ((marS l_pl l_hm l_wk l_kd l_nf v (n_sk, n_db, r_vi, r_wy) l_ne).2.1) n_yr ((marS l_pl l_hm l_wk l_kd l_nf v (n_sk, n_db, r_vi, r_wy) l_ne).2.2.1) ((marS l_pl l_hm l_wk l_kd l_nf v (n_sk, n_db, r_vi, r_wy) l_ne).2.2.2)) ++ (wL g l_a l_nf l_ne l_pl l_yl l_nd l_hm l_wk l_kd)) ++ ((wX g x_a x_ta l_a n_a r_a x_aa x_da x_sd) ++ (wC g n_a l_a n_lo n_sk n_db n_yr n_vi n_wy))) [wX g x_a x_ta l_a n_a r_a x_aa x_da x_sd, wL g l_a l_nf l_ne l_pl l_yl l_nd l_hm l_wk l_kd, wC g n_a l_a n_lo n_sk n_db n_yr n_vi n_wy, wC g r_a l_a n_lo ((marS l_pl l_hm l_wk l_kd l_nf v (n_sk, n_db, r_vi, r_wy) l_ne).1) ((marS l_pl l_hm l_wk l_kd l_nf v (n_sk, n_db, r_vi, r_wy) l_ne).2.1) n_yr ((marS l_pl l_hm l_wk l_kd l_nf v (n_sk, n_db, r_vi, r_wy) l_ne).2.2.1) ((marS l_pl l_hm l_wk l_kd l_nf v (n_sk, n_db, r_vi, r_wy) l_ne).2.2.2)] [3, 1, 0, 2] rfl (by simp only [List.flatten_cons, List.flatten_nil, List.append_nil, List.append_assoc]) (by show List.flatten [wC g r_a l_a n_lo ((marS l_pl l_hm l_wk l_kd l_nf v (n_sk, n_db, r_vi, r_wy) l_ne).1) ((marS l_pl l_hm l_wk l_kd l_nf v (n_sk, n_db, r_vi, r_wy) l_ne).2.1) n_yr ((marS l_pl l_hm l_wk l_kd l_nf v (n_sk, n_db, r_vi, r_wy) l_ne).2.2.1) ((marS l_pl l_hm l_wk l_kd l_nf v (n_sk, n_db, r_vi, r_wy) l_ne).2.2.2), wL g l_a l_nf l_ne l_pl l_yl l_nd l_hm l_wk l_kd, wX g x_a x_ta l_a n_a r_a x_aa x_da x_sd, wC g n_a l_a n_lo n_sk n_db n_yr n_vi n_wy] = _; simp only [List.flatten_cons, List.flatten_nil, List.append_nil, List.append_assoc]) ?_
  refine V_cVi (C := (RX1, TX1, 7)) (ci := 1) (ws' := ((wC g r_a l_a n_lo ((marS l_pl l_hm l_wk l_kd l_nf v (n_sk, n_db, r_vi, r_wy) l_ne).1) ((marS l_pl l_hm l_wk l_kd l_nf v (n_sk, n_db, r_vi, r_wy) l_ne).2.1) n_yr ((marS l_pl l_hm l_wk l_kd l_nf v (n_sk, n_db, r_vi, r_wy) l_ne).2.2.1) ((marS l_pl l_hm l_wk l_kd l_nf v (n_sk, n_db, r_vi, r_wy) l_ne).2.2.2)) ++ (wL g l_a l_nf l_ne l_pl l_yl l_nd l_hm l_wk l_kd)) ++ ((wX g x_a x_ta l_a n_a r_a x_aa x_da x_sd) ++ (wC g n_a l_a n_lo n_sk n_db n_yr n_vi n_wy))) (List.range _) 0 X (c_X1_sownFields g l r_a n_lo ((marS l_pl l_hm l_wk l_kd l_nf v (n_sk, n_db, r_vi, r_wy) l_ne).1) ((marS l_pl l_hm l_wk l_kd l_nf v (n_sk, n_db, r_vi, r_wy) l_ne).2.1) n_yr ((marS l_pl l_hm l_wk l_kd l_nf v (n_sk, n_db, r_vi, r_wy) l_ne).2.2.1) ((marS l_pl l_hm l_wk l_kd l_nf v (n_sk, n_db, r_vi, r_wy) l_ne).2.2.2) l_a l_nf l_ne l_pl l_yl l_nd l_hm l_wk l_kd   (by omega)) k_RX5_105 hy_X1_sownFields (by decide) (range_at _ _) (range_nd _) 0 rfl rfl nX5_sownIfCome_23 rfl rfl (Nat.le_of_ble_eq_true rfl) (wput_range _ _ _ (by simp only [List.length_append, wC_len, wL_len])) ?_
  refine V_blk (ws' := (wX g x_a x_ta l_a n_a r_a x_aa x_da x_sd) ++ (wL g l_a l_nf l_ne l_pl l_yl l_nd l_hm l_wk l_kd) ++ (wC g n_a l_a n_lo n_sk n_db n_yr n_vi n_wy) ++ (wC g r_a l_a n_lo ((marS l_pl l_hm l_wk l_kd l_nf v (n_sk, n_db, r_vi, r_wy) l_ne).1) ((marS l_pl l_hm l_wk l_kd l_nf v (n_sk, n_db, r_vi, r_wy) l_ne).2.1) n_yr ((marS l_pl l_hm l_wk l_kd l_nf v (n_sk, n_db, r_vi, r_wy) l_ne).2.2.1) ((marS l_pl l_hm l_wk l_kd l_nf v (n_sk, n_db, r_vi, r_wy) l_ne).2.2.2))) [wC g r_a l_a n_lo ((marS l_pl l_hm l_wk l_kd l_nf v (n_sk, n_db, r_vi, r_wy) l_ne).1) ((marS l_pl l_hm l_wk l_kd l_nf v (n_sk, n_db, r_vi, r_wy) l_ne).2.1) n_yr ((marS l_pl l_hm l_wk l_kd l_nf v (n_sk, n_db, r_vi, r_wy) l_ne).2.2.1) ((marS l_pl l_hm l_wk l_kd l_nf v (n_sk, n_db, r_vi, r_wy) l_ne).2.2.2), wL g l_a l_nf l_ne l_pl l_yl l_nd l_hm l_wk l_kd, wX g x_a x_ta l_a n_a r_a x_aa x_da x_sd, wC g n_a l_a n_lo n_sk n_db n_yr n_vi n_wy] [2, 1, 3, 0] rfl (by simp only [List.flatten_cons, List.flatten_nil, List.append_nil, List.append_assoc]) (by show List.flatten [wX g x_a x_ta l_a n_a r_a x_aa x_da x_sd, wL g l_a l_nf l_ne l_pl l_yl l_nd l_hm l_wk l_kd, wC g n_a l_a n_lo n_sk n_db n_yr n_vi n_wy, wC g r_a l_a n_lo ((marS l_pl l_hm l_wk l_kd l_nf v (n_sk, n_db, r_vi, r_wy) l_ne).1) ((marS l_pl l_hm l_wk l_kd l_nf v (n_sk, n_db, r_vi, r_wy) l_ne).2.1) n_yr ((marS l_pl l_hm l_wk l_kd l_nf v (n_sk, n_db, r_vi, r_wy) l_ne).2.2.1) ((marS l_pl l_hm l_wk l_kd l_nf v (n_sk, n_db, r_vi, r_wy) l_ne).2.2.2)] = _; simp only [List.flatten_cons, List.flatten_nil, List.append_nil, List.append_assoc]) ?_
  exact R_i rfl X hQ nX5_sownIfCome_26 (by simp only [List.map_append, wC_fst, wL_fst, wX_fst]) (⟨by rw [← swN_eq (l_nf, l_ne, l_pl, l_yl, l_nd, l_hm, l_wk, l_kd) v n_lo n_sk n_db n_yr r_vi r_wy]; rfl, rfl⟩)

set_option maxHeartbeats 4000000 in
set_option maxRecDepth 100000 in
theorem c_X5_tryToTake (g : Gx) (l : Launch) (x_a : Nat → Nat) (x_ta : Nat → Nat) (x_na : Nat → Nat) (x_aa : Nat → Nat) (x_da : Nat → Nat) (x_sd : Int64) (l_a : Nat → Nat) (l_nf : Nat) (l_ne : Nat) (l_pl : Nat → Int32) (l_yl : Nat → Int32) (l_nd : Nat → Int32) (l_hm : Nat → Int32) (l_wk : Nat → Int32) (l_kd : Nat → Int32) (r_a : Nat → Nat) (r_lo : Nat → Int32) (r_sk : Nat → Int32) (r_db : Nat → Int32) (r_yr : Int32) (r_vi : Nat → Int32) (r_wy : Nat → Int32)  (e : Int32) (f : Int32) (hnf : l_nf ≤ 4) (hne : l_ne ≤ 5) : Cd g l yX5_tryToTake mX5_tryToTake ({ frames := 3, cells := 0, slots := 0, locals := 68 } : Room) [.ref (x_a 0), .int e, .int f] ((wX g x_a x_ta l_a x_na r_a x_aa x_da x_sd) ++ (wL g l_a l_nf l_ne l_pl l_yl l_nd l_hm l_wk l_kd) ++ (wC g r_a l_a r_lo r_sk r_db r_yr r_vi r_wy)) (some (.int (bI (tkB (l_nf, l_ne, l_pl, l_yl, l_nd, l_hm, l_wk, l_kd) (r_lo, r_sk, r_db, r_yr, r_vi, r_wy) e f)))) ((wX g x_a x_ta l_a x_na r_a x_aa x_da x_sd) ++ (wL g l_a l_nf l_ne l_pl l_yl l_nd l_hm l_wk l_kd) ++ (wC g r_a l_a ((tkC (l_nf, l_ne, l_pl, l_yl, l_nd, l_hm, l_wk, l_kd) (r_lo, r_sk, r_db, r_yr, r_vi, r_wy) e f).1) ((tkC (l_nf, l_ne, l_pl, l_yl, l_nd, l_hm, l_wk, l_kd) (r_lo, r_sk, r_db, r_yr, r_vi, r_wy) e f).2.1) ((tkC (l_nf, l_ne, l_pl, l_yl, l_nd, l_hm, l_wk, l_kd) (r_lo, r_sk, r_db, r_yr, r_vi, r_wy) e f).2.2.1) ((tkC (l_nf, l_ne, l_pl, l_yl, l_nd, l_hm, l_wk, l_kd) (r_lo, r_sk, r_db, r_yr, r_vi, r_wy) e f).2.2.2.1) ((tkC (l_nf, l_ne, l_pl, l_yl, l_nd, l_hm, l_wk, l_kd) (r_lo, r_sk, r_db, r_yr, r_vi, r_wy) e f).2.2.2.2.1) ((tkC (l_nf, l_ne, l_pl, l_yl, l_nd, l_hm, l_wk, l_kd) (r_lo, r_sk, r_db, r_yr, r_vi, r_wy) e f).2.2.2.2.2))) := by
  refine Ct.of (lv := [(0, .ref (x_a 0)), (1, .int e), (2, .int f)]) ⟨by decide +kernel, rfl, Nat.le_of_ble_eq_true rfl⟩ rfl (fun E A sz Q X hQ => ?_)
  refine V_aload_n nX5_tryToTake_0 rfl ?_
  refine V_get5 0 1 (by decide) f_RX5_19 nX5_tryToTake_1 rfl rfl ?_
  refine V_iload_n nX5_tryToTake_4 rfl ?_
  refine V_blk (ws' := ((wL g l_a l_nf l_ne l_pl l_yl l_nd l_hm l_wk l_kd)) ++ ((wX g x_a x_ta l_a x_na r_a x_aa x_da x_sd) ++ (wC g r_a l_a r_lo r_sk r_db r_yr r_vi r_wy))) [wX g x_a x_ta l_a x_na r_a x_aa x_da x_sd, wL g l_a l_nf l_ne l_pl l_yl l_nd l_hm l_wk l_kd, wC g r_a l_a r_lo r_sk r_db r_yr r_vi r_wy] [1, 0, 2] rfl (by simp only [List.flatten_cons, List.flatten_nil, List.append_nil, List.append_assoc]) (by show List.flatten [wL g l_a l_nf l_ne l_pl l_yl l_nd l_hm l_wk l_kd, wX g x_a x_ta l_a x_na r_a x_aa x_da x_sd, wC g r_a l_a r_lo r_sk r_db r_yr r_vi r_wy] = _; simp only [List.flatten_cons, List.flatten_nil, List.append_nil, List.append_assoc]) ?_
  refine V_cVi (C := (RX2, TX2, 8)) (ci := 2) (ws' := ((wL g l_a l_nf l_ne l_pl l_yl l_nd l_hm l_wk l_kd)) ++ ((wX g x_a x_ta l_a x_na r_a x_aa x_da x_sd) ++ (wC g r_a l_a r_lo r_sk r_db r_yr r_vi r_wy))) (List.range _) 1 X (c_X2_hasEater g l l_a l_nf l_ne l_pl l_yl l_nd l_hm l_wk l_kd  e (by omega)) k_RX5_138 hy_X2_hasEater (by decide) (range_at _ _) (range_nd _) 0 rfl rfl nX5_tryToTake_5 rfl rfl (Nat.le_of_ble_eq_true rfl) (wput_range _ _ _ (by simp only [List.length_append, wL_len])) ?_
  refine V_blk (ws' := (wX g x_a x_ta l_a x_na r_a x_aa x_da x_sd) ++ (wL g l_a l_nf l_ne l_pl l_yl l_nd l_hm l_wk l_kd) ++ (wC g r_a l_a r_lo r_sk r_db r_yr r_vi r_wy)) [wL g l_a l_nf l_ne l_pl l_yl l_nd l_hm l_wk l_kd, wX g x_a x_ta l_a x_na r_a x_aa x_da x_sd, wC g r_a l_a r_lo r_sk r_db r_yr r_vi r_wy] [1, 0, 2] rfl (by simp only [List.flatten_cons, List.flatten_nil, List.append_nil, List.append_assoc]) (by show List.flatten [wX g x_a x_ta l_a x_na r_a x_aa x_da x_sd, wL g l_a l_nf l_ne l_pl l_yl l_nd l_hm l_wk l_kd, wC g r_a l_a r_lo r_sk r_db r_yr r_vi r_wy] = _; simp only [List.flatten_cons, List.flatten_nil, List.append_nil, List.append_assoc]) ?_
  refine V_if_eq_b (tgt := 34) nX5_tryToTake_8 rfl (fun h8 => ?_) (fun h8 => ?_)
  · skip
    refine V_iconst (v := (nI 0)) nX5_tryToTake_34 rfl ?_
    refine V_top (y := bI false) rfl ?_
    exact R_z rfl X hQ nX5_tryToTake_35 (by simp only [List.map_append, wC_fst, wL_fst, wX_fst]) (⟨by simp [tkB, tkC, takeC, h8], by simp [tkB, tkC, takeC, h8]⟩)
  · skip
    obtain ⟨a, hf_a, rfl⟩ := hasN_t h8 (by omega)
    have hix_a : ix (nI a) = a := ix_nI (by omega)
    refine V_aload_n nX5_tryToTake_11 rfl ?_
    refine V_get5 0 1 (by decide) f_RX5_19 nX5_tryToTake_12 rfl rfl ?_
    refine V_iload_n nX5_tryToTake_15 rfl ?_
    refine V_blk (ws' := ((wL g l_a l_nf l_ne l_pl l_yl l_nd l_hm l_wk l_kd)) ++ ((wX g x_a x_ta l_a x_na r_a x_aa x_da x_sd) ++ (wC g r_a l_a r_lo r_sk r_db r_yr r_vi r_wy))) [wX g x_a x_ta l_a x_na r_a x_aa x_da x_sd, wL g l_a l_nf l_ne l_pl l_yl l_nd l_hm l_wk l_kd, wC g r_a l_a r_lo r_sk r_db r_yr r_vi r_wy] [1, 0, 2] rfl (by simp only [List.flatten_cons, List.flatten_nil, List.append_nil, List.append_assoc]) (by show List.flatten [wL g l_a l_nf l_ne l_pl l_yl l_nd l_hm l_wk l_kd, wX g x_a x_ta l_a x_na r_a x_aa x_da x_sd, wC g r_a l_a r_lo r_sk r_db r_yr r_vi r_wy] = _; simp only [List.flatten_cons, List.flatten_nil, List.append_nil, List.append_assoc]) ?_
    refine V_cVi (C := (RX2, TX2, 8)) (ci := 2) (ws' := ((wL g l_a l_nf l_ne l_pl l_yl l_nd l_hm l_wk l_kd)) ++ ((wX g x_a x_ta l_a x_na r_a x_aa x_da x_sd) ++ (wC g r_a l_a r_lo r_sk r_db r_yr r_vi r_wy))) (List.range _) 1 X (c_X2_hasField g l l_a l_nf l_ne l_pl l_yl l_nd l_hm l_wk l_kd  f (by omega)) k_RX5_116 hy_X2_hasField (by decide) (range_at _ _) (range_nd _) 0 rfl rfl nX5_tryToTake_16 rfl rfl (Nat.le_of_ble_eq_true rfl) (wput_range _ _ _ (by simp only [List.length_append, wL_len])) ?_
    refine V_blk (ws' := (wX g x_a x_ta l_a x_na r_a x_aa x_da x_sd) ++ (wL g l_a l_nf l_ne l_pl l_yl l_nd l_hm l_wk l_kd) ++ (wC g r_a l_a r_lo r_sk r_db r_yr r_vi r_wy)) [wL g l_a l_nf l_ne l_pl l_yl l_nd l_hm l_wk l_kd, wX g x_a x_ta l_a x_na r_a x_aa x_da x_sd, wC g r_a l_a r_lo r_sk r_db r_yr r_vi r_wy] [1, 0, 2] rfl (by simp only [List.flatten_cons, List.flatten_nil, List.append_nil, List.append_assoc]) (by show List.flatten [wX g x_a x_ta l_a x_na r_a x_aa x_da x_sd, wL g l_a l_nf l_ne l_pl l_yl l_nd l_hm l_wk l_kd, wC g r_a l_a r_lo r_sk r_db r_yr r_vi r_wy] = _; simp only [List.flatten_cons, List.flatten_nil, List.append_nil, List.append_assoc]) ?_
    refine V_if_eq_b (tgt := 34) nX5_tryToTake_19 rfl (fun h19 => ?_) (fun h19 => ?_)
    · skip
      refine V_iconst (v := (nI 0)) nX5_tryToTake_34 rfl ?_
      refine V_top (y := bI false) rfl ?_
      exact R_z rfl X hQ nX5_tryToTake_35 (by simp only [List.map_append, wC_fst, wL_fst, wX_fst]) (⟨by simp [tkB, tkC, takeC, h8, hix_a, h19], by simp [tkB, tkC, takeC, h8, hix_a, h19]⟩)
    · skip
      obtain ⟨b, hf_b, rfl⟩ := hasN_t h19 (by omega)
      have hix_b : ix (nI b) = b := ix_nI (by omega)
      refine V_aload_n nX5_tryToTake_22 rfl ?_
      refine V_get5 0 3 (by decide) f_RX5_32 nX5_tryToTake_23 rfl rfl ?_
      refine V_iload_n nX5_tryToTake_26 rfl ?_
      refine V_iload_n nX5_tryToTake_27 rfl ?_
      refine V_blk (ws' := ((wC g r_a l_a r_lo r_sk r_db r_yr r_vi r_wy) ++ (wL g l_a l_nf l_ne l_pl l_yl l_nd l_hm l_wk l_kd)) ++ ((wX g x_a x_ta l_a x_na r_a x_aa x_da x_sd))) [wX g x_a x_ta l_a x_na r_a x_aa x_da x_sd, wL g l_a l_nf l_ne l_pl l_yl l_nd l_hm l_wk l_kd, wC g r_a l_a r_lo r_sk r_db r_yr r_vi r_wy] [2, 1, 0] rfl (by simp only [List.flatten_cons, List.flatten_nil, List.append_nil, List.append_assoc]) (by show List.flatten [wC g r_a l_a r_lo r_sk r_db r_yr r_vi r_wy, wL g l_a l_nf l_ne l_pl l_yl l_nd l_hm l_wk l_kd, wX g x_a x_ta l_a x_na r_a x_aa x_da x_sd] = _; simp only [List.flatten_cons, List.flatten_nil, List.append_nil, List.append_assoc]) ?_
      refine V_cVi (C := (RX1, TX1, 7)) (ci := 1) (ws' := ((wC g r_a l_a r_lo r_sk r_db r_yr r_vi r_wy) ++ (wL g l_a l_nf l_ne l_pl l_yl l_nd l_hm l_wk l_kd)) ++ ((wX g x_a x_ta l_a x_na r_a x_aa x_da x_sd))) (List.range _) 2 X (c_X1_canTake g l r_a r_lo r_sk r_db r_yr r_vi r_wy l_a l_nf l_ne l_pl l_yl l_nd l_hm l_wk l_kd  a b (by omega) (by omega) (by omega)) k_RX5_163 hy_X1_canTake (by decide) (range_at _ _) (range_nd _) 0 rfl rfl nX5_tryToTake_28 rfl rfl (Nat.le_of_ble_eq_true rfl) (wput_range _ _ _ (by simp only [List.length_append, wC_len, wL_len])) ?_
      refine V_blk (ws' := (wX g x_a x_ta l_a x_na r_a x_aa x_da x_sd) ++ (wL g l_a l_nf l_ne l_pl l_yl l_nd l_hm l_wk l_kd) ++ (wC g r_a l_a r_lo r_sk r_db r_yr r_vi r_wy)) [wC g r_a l_a r_lo r_sk r_db r_yr r_vi r_wy, wL g l_a l_nf l_ne l_pl l_yl l_nd l_hm l_wk l_kd, wX g x_a x_ta l_a x_na r_a x_aa x_da x_sd] [2, 1, 0] rfl (by simp only [List.flatten_cons, List.flatten_nil, List.append_nil, List.append_assoc]) (by show List.flatten [wX g x_a x_ta l_a x_na r_a x_aa x_da x_sd, wL g l_a l_nf l_ne l_pl l_yl l_nd l_hm l_wk l_kd, wC g r_a l_a r_lo r_sk r_db r_yr r_vi r_wy] = _; simp only [List.flatten_cons, List.flatten_nil, List.append_nil, List.append_assoc]) ?_
      refine V_if_ne_b (tgt := 36) nX5_tryToTake_31 rfl (fun h31 => ?_) (fun h31 => ?_)
      · skip
        refine V_aload_n nX5_tryToTake_36 rfl ?_
        refine V_get5 0 3 (by decide) f_RX5_32 nX5_tryToTake_37 rfl rfl ?_
        refine V_iload_n nX5_tryToTake_40 rfl ?_
        refine V_iload_n nX5_tryToTake_41 rfl ?_
        refine V_blk (ws' := ((wC g r_a l_a r_lo r_sk r_db r_yr r_vi r_wy) ++ (wL g l_a l_nf l_ne l_pl l_yl l_nd l_hm l_wk l_kd)) ++ ((wX g x_a x_ta l_a x_na r_a x_aa x_da x_sd))) [wX g x_a x_ta l_a x_na r_a x_aa x_da x_sd, wL g l_a l_nf l_ne l_pl l_yl l_nd l_hm l_wk l_kd, wC g r_a l_a r_lo r_sk r_db r_yr r_vi r_wy] [2, 1, 0] rfl (by simp only [List.flatten_cons, List.flatten_nil, List.append_nil, List.append_assoc]) (by show List.flatten [wC g r_a l_a r_lo r_sk r_db r_yr r_vi r_wy, wL g l_a l_nf l_ne l_pl l_yl l_nd l_hm l_wk l_kd, wX g x_a x_ta l_a x_na r_a x_aa x_da x_sd] = _; simp only [List.flatten_cons, List.flatten_nil, List.append_nil, List.append_assoc]) ?_
        refine V_cVv (C := (RX1, TX1, 7)) (ci := 1) (ws' := ((wC g r_a l_a (upd r_lo b (r_lo b - nI (porN l_kd a))) r_sk (upd r_db (a * 4 + b) (capI (r_db (a * 4 + b) + nI (porN l_kd a)))) r_yr r_vi r_wy) ++ (wL g l_a l_nf l_ne l_pl l_yl l_nd l_hm l_wk l_kd)) ++ ((wX g x_a x_ta l_a x_na r_a x_aa x_da x_sd))) (List.range _) 2 X (c_X1_takeLoaves g l r_a r_lo r_sk r_db r_yr r_vi r_wy l_a l_nf l_ne l_pl l_yl l_nd l_hm l_wk l_kd  a b (by omega) (by omega)) k_RX5_171 hy_X1_takeLoaves (by decide) (range_at _ _) (range_nd _) 0 rfl rfl nX5_tryToTake_42 rfl rfl (Nat.le_of_ble_eq_true rfl) (wput_range _ _ _ (by simp only [List.length_append, wC_len, wL_len])) ?_
        refine V_blk (ws' := (wX g x_a x_ta l_a x_na r_a x_aa x_da x_sd) ++ (wL g l_a l_nf l_ne l_pl l_yl l_nd l_hm l_wk l_kd) ++ (wC g r_a l_a (upd r_lo b (r_lo b - nI (porN l_kd a))) r_sk (upd r_db (a * 4 + b) (capI (r_db (a * 4 + b) + nI (porN l_kd a)))) r_yr r_vi r_wy)) [wC g r_a l_a (upd r_lo b (r_lo b - nI (porN l_kd a))) r_sk (upd r_db (a * 4 + b) (capI (r_db (a * 4 + b) + nI (porN l_kd a)))) r_yr r_vi r_wy, wL g l_a l_nf l_ne l_pl l_yl l_nd l_hm l_wk l_kd, wX g x_a x_ta l_a x_na r_a x_aa x_da x_sd] [2, 1, 0] rfl (by simp only [List.flatten_cons, List.flatten_nil, List.append_nil, List.append_assoc]) (by show List.flatten [wX g x_a x_ta l_a x_na r_a x_aa x_da x_sd, wL g l_a l_nf l_ne l_pl l_yl l_nd l_hm l_wk l_kd, wC g r_a l_a (upd r_lo b (r_lo b - nI (porN l_kd a))) r_sk (upd r_db (a * 4 + b) (capI (r_db (a * 4 + b) + nI (porN l_kd a)))) r_yr r_vi r_wy] = _; simp only [List.flatten_cons, List.flatten_nil, List.append_nil, List.append_assoc]) ?_
        refine V_iconst (v := (nI 1)) nX5_tryToTake_45 rfl ?_
        refine V_top (y := bI true) rfl ?_
        exact R_z rfl X hQ nX5_tryToTake_46 (by simp only [List.map_append, wC_fst, wL_fst, wX_fst]) (⟨by simp [tkB, tkC, takeC, h8, hix_a, h19, hix_b, h31], by simp [tkB, tkC, takeC, h8, hix_a, h19, hix_b, h31]⟩)
      · skip
        refine V_iconst (v := (nI 0)) nX5_tryToTake_34 rfl ?_
        refine V_top (y := bI false) rfl ?_
        exact R_z rfl X hQ nX5_tryToTake_35 (by simp only [List.map_append, wC_fst, wL_fst, wX_fst]) (⟨by simp [tkB, tkC, takeC, h8, hix_a, h19, hix_b, h31], by simp [tkB, tkC, takeC, h8, hix_a, h19, hix_b, h31]⟩)

set_option maxHeartbeats 4000000 in
set_option maxRecDepth 100000 in
theorem c_X5_withoutLast (g : Gx) (l : Launch)   (row : Int64) (k : Nat) (hk : k ≤ 4) : Cd g l yX5_withoutLast mX5_withoutLast ({ frames := 0, cells := 0, slots := 0, locals := 0 } : Room) [.long row, .int (nI k)] ([]) (some (.long (wlL row k))) ([]) := by
  refine Ct.of (lv := [(0, .long row), (2, .int (nI k))]) ⟨by decide +kernel, rfl, Nat.le_of_ble_eq_true rfl⟩ rfl (fun E A sz Q X hQ => ?_)
  refine V_lload_n nX5_withoutLast_0 rfl ?_
  refine V_lstore_n (lv' := [(0, .long row), (2, .int (nI k)), (3, .long row)]) nX5_withoutLast_1 (by decide) rfl ?_
  refine V_iconst (v := (nI 0)) nX5_withoutLast_2 rfl ?_
  refine V_istore (lv' := [(0, .long row), (2, .int (nI k)), (3, .long row), (5, .int (nI 0))]) nX5_withoutLast_3 (by decide) rfl ?_
  have L5 : ∀ (n : Nat) (i : Nat), k - i < n → i ≤ k → V g E mX5_withoutLast A Q 0 0 ([]) 5 [(0, .long row), (2, .int (nI k)), (3, .long (wlL row i)), (5, .int (nI i))] [] := by
    intro n
    induction n with
    | zero => intro i hm; exact absurd hm (Nat.not_lt_zero _)
    | succ n ih =>
      intro i hm hi
      refine V_iload nX5_withoutLast_5 rfl ?_
      refine V_iload_n nX5_withoutLast_7 rfl ?_
      refine V_icmp_ge_N (tgt := 23) nX5_withoutLast_8 rfl (by omega) (by omega) (fun h8 => ?_) (fun h8 => ?_)
      · skip
        have hx_i : k = i := by omega
        subst hx_i
        refine V_lload_n nX5_withoutLast_23 rfl ?_
        exact R_l rfl X hQ nX5_withoutLast_24 rfl (⟨rfl, rfl⟩)
      · skip
        refine V_lload_n nX5_withoutLast_11 rfl ?_
        refine V_ldc2 ct_RX5_202 nX5_withoutLast_12 ?_
        refine V_ldiv (v := (wlL row i) / (1000 : Int64)) nX5_withoutLast_15 (by decide) rfl ?_
        refine V_lstore_n (lv' := [(0, .long row), (2, .int (nI k)), (3, .long ((wlL row i) / (1000 : Int64))), (5, .int (nI i))]) nX5_withoutLast_16 (by decide) rfl ?_
        refine V_iinc (v := nI (i + 1)) (lv' := [(0, .long row), (2, .int (nI k)), (3, .long ((wlL row i) / (1000 : Int64))), (5, .int (nI (i + 1)))]) nX5_withoutLast_17 rfl (nI_add i 1) (by decide) rfl ?_
        refine V_goto (tgt := 5) nX5_withoutLast_20 rfl ?_
        exact ih (i + 1) (by omega) (by omega)
  exact L5 _ 0 (Nat.lt_succ_self _) (by omega)

set_option maxHeartbeats 4000000 in
set_option maxRecDepth 100000 in
theorem c_X5_ordersOf (g : Gx) (l : Launch)   (k : Nat) (hk : k ≤ 5) : Cd g l yX5_ordersOf mX5_ordersOf ({ frames := 0, cells := 0, slots := 0, locals := 0 } : Room) [.int (nI k)] ([]) (some (.long (lN (facN k)))) ([]) := by
  refine Ct.of (lv := [(0, .int (nI k))]) ⟨by decide +kernel, rfl, Nat.le_of_ble_eq_true rfl⟩ rfl (fun E A sz Q X hQ => ?_)
  refine V_lconst (v := lN 1) nX5_ordersOf_0 rfl ?_
  refine V_lstore_n (lv' := [(0, .int (nI k)), (1, .long (lN 1))]) nX5_ordersOf_1 (by decide) rfl ?_
  refine V_iconst (v := (nI 2)) nX5_ordersOf_2 rfl ?_
  refine V_istore_n (lv' := [(0, .int (nI k)), (1, .long (lN 1)), (3, .int (nI 2))]) nX5_ordersOf_3 (by decide) rfl ?_
  have L4 : ∀ (n : Nat) (j : Nat), 6 - j < n → j ≤ k ∨ j = 1 → 1 ≤ j → V g E mX5_ordersOf A Q 0 0 ([]) 4 [(0, .int (nI k)), (1, .long (lN (facN j))), (3, .int (nI (j + 1)))] [] := by
    intro n
    induction n with
    | zero => intro j hm; exact absurd hm (Nat.not_lt_zero _)
    | succ n ih =>
      intro j hm hj hj1
      refine V_iload_n nX5_ordersOf_4 rfl ?_
      refine V_iload_n nX5_ordersOf_5 rfl ?_
      refine V_icmp_gt_N (tgt := 20) nX5_ordersOf_6 rfl (by omega) (by omega) (fun h6 => ?_) (fun h6 => ?_)
      · skip
        refine V_lload_n nX5_ordersOf_20 rfl ?_
        exact R_l rfl X hQ nX5_ordersOf_21 rfl (⟨by rw [facN_ok hj hj1 h6], rfl⟩)
      · skip
        refine V_lload_n nX5_ordersOf_9 rfl ?_
        refine V_iload_n nX5_ordersOf_10 rfl ?_
        refine V_i2l (v := lN (j + 1)) nX5_ordersOf_11 (nI_l (by omega)) ?_
        refine V_lmul (v := lN ((facN j) * (j + 1))) nX5_ordersOf_12 (lN_mul (facN j) (j + 1)) ?_
        refine V_lstore_n (lv' := [(0, .int (nI k)), (1, .long (lN ((facN j) * (j + 1)))), (3, .int (nI (j + 1)))]) nX5_ordersOf_13 (by decide) rfl ?_
        refine V_iinc (v := nI ((j + 1) + 1)) (lv' := [(0, .int (nI k)), (1, .long (lN ((facN j) * (j + 1)))), (3, .int (nI ((j + 1) + 1)))]) nX5_ordersOf_14 rfl (nI_add (j + 1) 1) (by decide) rfl ?_
        refine V_goto (tgt := 4) nX5_ordersOf_17 rfl ?_
        exact ih (j + 1) (by omega) (by omega) (by omega)
  exact L4 _ 1 (Nat.lt_succ_self _) (Or.inr rfl) (by omega)

set_option maxHeartbeats 4000000 in
set_option maxRecDepth 100000 in
theorem c_X5_power (g : Gx) (l : Launch)   (b : Nat) (k : Nat) (hk : k ≤ 5) : Cd g l yX5_power mX5_power ({ frames := 0, cells := 0, slots := 0, locals := 0 } : Room) [.long (lN b), .int (nI k)] ([]) (some (.long (lN (b ^ k)))) ([]) := by
  refine Ct.of (lv := [(0, .long (lN b)), (2, .int (nI k))]) ⟨by decide +kernel, rfl, Nat.le_of_ble_eq_true rfl⟩ rfl (fun E A sz Q X hQ => ?_)
  refine V_lconst (v := lN 1) nX5_power_0 rfl ?_
  refine V_lstore_n (lv' := [(0, .long (lN b)), (2, .int (nI k)), (3, .long (lN 1))]) nX5_power_1 (by decide) rfl ?_
  refine V_iconst (v := (nI 0)) nX5_power_2 rfl ?_
  refine V_istore (lv' := [(0, .long (lN b)), (2, .int (nI k)), (3, .long (lN 1)), (5, .int (nI 0))]) nX5_power_3 (by decide) rfl ?_
  have L5 : ∀ (n : Nat) (i : Nat), k - i < n → i ≤ k → V g E mX5_power A Q 0 0 ([]) 5 [(0, .long (lN b)), (2, .int (nI k)), (3, .long (lN (b ^ i))), (5, .int (nI i))] [] := by
    intro n
    induction n with
    | zero => intro i hm; exact absurd hm (Nat.not_lt_zero _)
    | succ n ih =>
      intro i hm hi
      refine V_iload nX5_power_5 rfl ?_
      refine V_iload_n nX5_power_7 rfl ?_
      refine V_icmp_ge_N (tgt := 21) nX5_power_8 rfl (by omega) (by omega) (fun h8 => ?_) (fun h8 => ?_)
      · skip
        have hx_i : k = i := by omega
        subst hx_i
        refine V_lload_n nX5_power_21 rfl ?_
        exact R_l rfl X hQ nX5_power_22 rfl (⟨rfl, rfl⟩)
      · skip
        refine V_lload_n nX5_power_11 rfl ?_
        refine V_lload_n nX5_power_12 rfl ?_
        refine V_lmul (v := lN ((b ^ i) * b)) nX5_power_13 (lN_mul (b ^ i) b) ?_
        refine V_lstore_n (lv' := [(0, .long (lN b)), (2, .int (nI k)), (3, .long (lN ((b ^ i) * b))), (5, .int (nI i))]) nX5_power_14 (by decide) rfl ?_
        refine V_iinc (v := nI (i + 1)) (lv' := [(0, .long (lN b)), (2, .int (nI k)), (3, .long (lN ((b ^ i) * b))), (5, .int (nI (i + 1)))]) nX5_power_15 rfl (nI_add i 1) (by decide) rfl ?_
        refine V_goto (tgt := 5) nX5_power_18 rfl ?_
        exact ih (i + 1) (by omega) (by omega)
  exact L5 _ 0 (Nat.lt_succ_self _) (by omega)

set_option maxHeartbeats 4000000 in
set_option maxRecDepth 100000 in
theorem c_X5_partOfFraction (g : Gx) (l : Launch)   (a : Nat) (b : Nat) (u : Bool) (hb : 0 < b) (ha2 : a < 2 ^ 31) (hb2 : b < 2 ^ 31) : Cd g l yX5_partOfFraction mX5_partOfFraction ({ frames := 1, cells := 0, slots := 0, locals := 24 } : Room) [.long (lN a), .long (lN b), .int (bI u)] ([]) (some (.int (nI ((if u = true then a else b) / Nat.gcd a b)))) ([]) := by
  refine Ct.of (lv := [(0, .long (lN a)), (2, .long (lN b)), (4, .int (bI u))]) ⟨by decide +kernel, rfl, Nat.le_of_ble_eq_true rfl⟩ rfl (fun E A sz Q X hQ => ?_)
  refine V_lload_n nX5_partOfFraction_0 rfl ?_
  refine V_mabsL (a := a) X k_RX5_250 ⟨Nat.le_of_ble_eq_true rfl, Nat.le_of_ble_eq_true rfl, Nat.le_of_ble_eq_true rfl, Nat.le_of_ble_eq_true rfl⟩ nX5_partOfFraction_1 (by omega) ?_
  refine V_lstore (lv' := [(0, .long (lN a)), (2, .long (lN b)), (4, .int (bI u)), (5, .long (lN a))]) nX5_partOfFraction_4 (by decide) rfl ?_
  refine V_lload_n nX5_partOfFraction_6 rfl ?_
  refine V_lstore (lv' := [(0, .long (lN a)), (2, .long (lN b)), (4, .int (bI u)), (5, .long (lN a)), (7, .long (lN b))]) nX5_partOfFraction_7 (by decide) rfl ?_
  refine V_iconst (v := (nI 0)) nX5_partOfFraction_9 rfl ?_
  refine V_istore (lv' := [(0, .long (lN a)), (2, .long (lN b)), (4, .int (bI u)), (5, .long (lN a)), (7, .long (lN b)), (9, .int (nI 0))]) nX5_partOfFraction_10 (by decide) rfl ?_
  have L12 : ∀ (n : Nat) (t : Nat) (x : Nat) (y : Nat), 100 - t < n → t ≤ 100 → Nat.gcd x y = Nat.gcd a b → euc t x y → x < 2 ^ 31 → y < 2 ^ 31 → V g E mX5_partOfFraction A Q 0 0 ([]) 12 [(0, .long (lN a)), (2, .long (lN b)), (4, .int (bI u)), (5, .long (lN x)), (7, .long (lN y)), (9, .int (nI t))] [] := by
    intro n
    induction n with
    | zero => intro t x y hm; exact absurd hm (Nat.not_lt_zero _)
    | succ n ih =>
      intro t x y hm ht hg hxy hx2 hy2
      refine V_iload nX5_partOfFraction_12 rfl ?_
      refine V_bipush (v := (nI 100)) nX5_partOfFraction_14 (by decide) ?_
      refine V_icmp_ge_N (tgt := 47) nX5_partOfFraction_16 rfl (by omega) (by omega) (fun h16 => ?_) (fun h16 => ?_)
      · skip
        have hy0 : y = 0 := euc_end (by omega) hxy
        subst hy0
        have hgx : x = Nat.gcd a b := by rw [← hg, Nat.gcd_zero_right]
        refine V_lload nX5_partOfFraction_47 rfl ?_
        refine V_lconst (v := lN 0) nX5_partOfFraction_49 rfl ?_
        refine V_lcmp nX5_partOfFraction_50 ?_
        refine V_if_ne (tgt := 56) nX5_partOfFraction_51 rfl (fun h51 => ?_) (fun h51 => ?_)
        · skip
          refine V_iload nX5_partOfFraction_56 rfl ?_
          refine V_joinK (b := u) (x := a) (y := b) (pj := 66) (st := []) (fun J1 J2 => ?_) ?_
          · skip
            refine V_if_eq_b (tgt := 65) nX5_partOfFraction_58 rfl (fun h58 => ?_) (fun h58 => ?_)
            · skip
              refine V_lload_n nX5_partOfFraction_65 rfl ?_
              exact J2 (by simp [h58])
            · skip
              refine V_lload_n nX5_partOfFraction_61 rfl ?_
              refine V_goto (tgt := 66) nX5_partOfFraction_62 rfl ?_
              exact J1 (by simp [h58])
          refine V_lload nX5_partOfFraction_66 rfl ?_
          refine V_ldiv (v := lN ((if u = true then a else b) / x)) nX5_partOfFraction_68 (lN_ne0 (by have := Nat.gcd_pos_of_pos_right a hb; omega) (by omega)) (pk_lDiv (by split <;> omega) (by have := Nat.gcd_pos_of_pos_right a hb; omega) (by omega)) ?_
          refine V_l2i (v := nI ((if u = true then a else b) / x)) nX5_partOfFraction_69 (lN_i ((if u = true then a else b) / x)) ?_
          exact R_i rfl X hQ nX5_partOfFraction_70 rfl (⟨by rw [hgx], rfl⟩)
        · skip
          exact absurd ((lgK_eq (by omega) (by omega)).mp h51) (by have := Nat.gcd_pos_of_pos_right a hb; omega)
      · skip
        refine V_lload nX5_partOfFraction_19 rfl ?_
        refine V_lconst (v := lN 0) nX5_partOfFraction_21 rfl ?_
        refine V_lcmp nX5_partOfFraction_22 ?_
        refine V_if_eq (tgt := 47) nX5_partOfFraction_23 rfl (fun h23 => ?_) (fun h23 => ?_)
        · skip
          have hy0 : y = 0 := (lgK_eq (by omega) (by omega)).mp h23
          subst hy0
          have hgx : x = Nat.gcd a b := by rw [← hg, Nat.gcd_zero_right]
          refine V_lload nX5_partOfFraction_47 rfl ?_
          refine V_lconst (v := lN 0) nX5_partOfFraction_49 rfl ?_
          refine V_lcmp nX5_partOfFraction_50 ?_
          refine V_if_ne (tgt := 56) nX5_partOfFraction_51 rfl (fun h51 => ?_) (fun h51 => ?_)
          · skip
            refine V_iload nX5_partOfFraction_56 rfl ?_
            refine V_joinK (b := u) (x := a) (y := b) (pj := 66) (st := []) (fun J1 J2 => ?_) ?_
            · skip
              refine V_if_eq_b (tgt := 65) nX5_partOfFraction_58 rfl (fun h58 => ?_) (fun h58 => ?_)
              · skip
                refine V_lload_n nX5_partOfFraction_65 rfl ?_
                exact J2 (by simp [h58])
              · skip
                refine V_lload_n nX5_partOfFraction_61 rfl ?_
                refine V_goto (tgt := 66) nX5_partOfFraction_62 rfl ?_
                exact J1 (by simp [h58])
            refine V_lload nX5_partOfFraction_66 rfl ?_
            refine V_ldiv (v := lN ((if u = true then a else b) / x)) nX5_partOfFraction_68 (lN_ne0 (by have := Nat.gcd_pos_of_pos_right a hb; omega) (by omega)) (pk_lDiv (by split <;> omega) (by have := Nat.gcd_pos_of_pos_right a hb; omega) (by omega)) ?_
            refine V_l2i (v := nI ((if u = true then a else b) / x)) nX5_partOfFraction_69 (lN_i ((if u = true then a else b) / x)) ?_
            exact R_i rfl X hQ nX5_partOfFraction_70 rfl (⟨by rw [hgx], rfl⟩)
          · skip
            exact absurd ((lgK_eq (by omega) (by omega)).mp h51) (by have := Nat.gcd_pos_of_pos_right a hb; omega)
        · skip
          have hy0 : 0 < y := Nat.pos_of_ne_zero (fun q => h23 ((lgK_eq (by omega) (by omega)).mpr q))
          refine V_lload nX5_partOfFraction_26 rfl ?_
          refine V_lload nX5_partOfFraction_28 rfl ?_
          refine V_lrem (v := lN (x % y)) nX5_partOfFraction_30 (lN_ne0 (by omega) (by omega)) (pk_lRem (by omega) (by omega) (by omega)) ?_
          refine V_lstore (lv' := [(0, .long (lN a)), (2, .long (lN b)), (4, .int (bI u)), (5, .long (lN x)), (7, .long (lN y)), (9, .int (nI t)), (10, .long (lN (x % y)))]) nX5_partOfFraction_31 (by decide) rfl ?_
          refine V_lload nX5_partOfFraction_33 rfl ?_
          refine V_lstore (lv' := [(0, .long (lN a)), (2, .long (lN b)), (4, .int (bI u)), (5, .long (lN y)), (7, .long (lN y)), (9, .int (nI t)), (10, .long (lN (x % y)))]) nX5_partOfFraction_35 (by decide) rfl ?_
          refine V_lload nX5_partOfFraction_37 rfl ?_
          refine V_lstore (lv' := [(0, .long (lN a)), (2, .long (lN b)), (4, .int (bI u)), (5, .long (lN y)), (7, .long (lN (x % y))), (9, .int (nI t)), (10, .long (lN (x % y)))]) nX5_partOfFraction_39 (by decide) rfl ?_
          refine V_iinc (v := nI (t + 1)) (lv' := [(0, .long (lN a)), (2, .long (lN b)), (4, .int (bI u)), (5, .long (lN y)), (7, .long (lN (x % y))), (9, .int (nI (t + 1))), (10, .long (lN (x % y)))]) nX5_partOfFraction_41 rfl (nI_add t 1) (by decide) rfl ?_
          refine V_goto (tgt := 12) nX5_partOfFraction_44 rfl ?_
          refine V_pick (lv2 := [(0, .long (lN a)), (2, .long (lN b)), (4, .int (bI u)), (5, .long (lN y)), (7, .long (lN (x % y))), (9, .int (nI (t + 1)))]) [0, 1, 2, 3, 4, 5] rfl ?_
          exact ih (t + 1) y (x % y) (by omega) (by omega) (by rw [← hg]; exact gcd_step x y) (euc_s hxy hy0) (hy2) (Nat.lt_trans (Nat.mod_lt _ hy0) hy2)
  exact L12 _ 0 a b (Nat.lt_succ_self _) (by omega) (rfl) (euc_0 ha2 hb2) (ha2) (hb2)
