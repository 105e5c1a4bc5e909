set_option maxHeartbeats 4000000 in
set_option maxRecDepth 100000 in
theorem c_X6_readThing (g : Gx) (l : Launch) (o_a : Nat → Nat) (o_th : Int32) (o_ts : Nat) (o_pl : Nat) (o_nf : Nat) (o_ne : Nat) (o_rf : Nat) (o_re : Nat) (o_ac : Nat) (o_cm : Nat) (o_sd : Int64) (o_wf : Int32) (o_sm : Int32) (o_sf : Int32) (o_rm : Int32) (o_rs : Int32) (t_f : Nat → Int32) (u_f : Nat → Int32) (v_f : Nat → Int32)   (hn : o_ts ≤ 48) (hp : o_pl < o_ts) (hrf : o_rf ≤ 4) (hre : o_re ≤ 5) : Cd g l yX6_readThing mX6_readThing ({ frames := 3, cells := 0, slots := 0, locals := 70 } : Room) [.ref (o_a 0)] ((wO g o_a o_th o_ts o_pl o_nf o_ne o_rf o_re o_ac o_cm o_sd o_wf o_sm o_sf o_rm o_rs) ++ (wI g (o_a 1) 48 t_f) ++ (wI g (o_a 8) 12 u_f) ++ (wI g (o_a 9) 15 v_f)) (some (.int (bI (rtB t_f o_ts (o_pl, o_rf, o_re, u_f, v_f))))) ((wO g o_a o_th o_ts ((rtS t_f o_ts (o_pl, o_rf, o_re, u_f, v_f)).1) o_nf o_ne ((rtS t_f o_ts (o_pl, o_rf, o_re, u_f, v_f)).2.1) ((rtS t_f o_ts (o_pl, o_rf, o_re, u_f, v_f)).2.2.1) o_ac o_cm o_sd o_wf o_sm o_sf o_rm o_rs) ++ (wI g (o_a 1) 48 t_f) ++ (wI g (o_a 8) 12 ((rtS t_f o_ts (o_pl, o_rf, o_re, u_f, v_f)).2.2.2.1)) ++ (wI g (o_a 9) 15 ((rtS t_f o_ts (o_pl, o_rf, o_re, u_f, v_f)).2.2.2.2))) := by
  refine Ct.of (lv := [(0, .ref (o_a 0))]) ⟨by decide +kernel, rfl, Nat.le_of_ble_eq_true rfl⟩ rfl (fun E A sz Q X hQ => ?_)
  refine V_aload_n nX6_readThing_0 rfl ?_
  refine V_get6 0 1 (by decide) f_RX6_7 nX6_readThing_1 rfl rfl ?_
  refine V_aload_n nX6_readThing_4 rfl ?_
  refine V_get6 0 3 (by decide) f_RX6_87 nX6_readThing_5 rfl rfl ?_
  refine V_iald 1 nX6_readThing_8 rfl (by omega) (by decide) rfl ?_
  refine V_istore_n (lv' := [(0, .ref (o_a 0)), (1, .int (t_f o_pl))]) nX6_readThing_9 (by decide) rfl ?_
  refine V_aload_n nX6_readThing_10 rfl ?_
  refine V_dup nX6_readThing_11 rfl ?_
  refine V_get6 0 3 (by decide) f_RX6_87 nX6_readThing_12 rfl rfl ?_
  refine V_iconst (v := (nI 1)) nX6_readThing_15 rfl ?_
  refine V_iadd (v := nI (o_pl + 1)) nX6_readThing_16 (nI_add o_pl 1) ?_
  refine V_put6 (ws' := (wO g o_a o_th o_ts (o_pl + 1) o_nf o_ne o_rf o_re o_ac o_cm o_sd o_wf o_sm o_sf o_rm o_rs) ++ (wI g (o_a 1) 48 t_f) ++ (wI g (o_a 8) 12 u_f) ++ (wI g (o_a 9) 15 v_f)) 0 3 (by decide) f_RX6_87 rfl rfl rfl rfl nX6_readThing_17 rfl (Nat.le_of_ble_eq_true rfl) rfl ?_
  refine V_iload_n nX6_readThing_20 rfl ?_
  refine V_bipush (v := (nI 71)) nX6_readThing_21 (by decide) ?_
  refine V_icmp_ne (tgt := 39) nX6_readThing_23 rfl (fun h23 => ?_) (fun h23 => ?_)
  · skip
    refine V_iload_n nX6_readThing_39 rfl ?_
    refine V_bipush (v := (nI 69)) nX6_readThing_40 (by decide) ?_
    refine V_icmp_ne (tgt := 58) nX6_readThing_42 rfl (fun h42 => ?_) (fun h42 => ?_)
    · skip
      refine V_aload_n nX6_readThing_58 rfl ?_
      refine V_dup nX6_readThing_59 rfl ?_
      refine V_get6 0 3 (by decide) f_RX6_87 nX6_readThing_60 rfl rfl ?_
      refine V_iconst (v := (nI 1)) nX6_readThing_63 rfl ?_
      refine V_isub (v := nI ((o_pl + 1) - 1)) nX6_readThing_64 (pk_sub (by omega)) ?_
      refine V_put6 (ws' := (wO g o_a o_th o_ts ((o_pl + 1) - 1) o_nf o_ne o_rf o_re o_ac o_cm o_sd o_wf o_sm o_sf o_rm o_rs) ++ (wI g (o_a 1) 48 t_f) ++ (wI g (o_a 8) 12 u_f) ++ (wI g (o_a 9) 15 v_f)) 0 3 (by decide) f_RX6_87 rfl rfl rfl rfl nX6_readThing_65 rfl (Nat.le_of_ble_eq_true rfl) rfl ?_
      refine V_iconst (v := (nI 0)) nX6_readThing_68 rfl ?_
      have h7169 : ¬ nI 71 = nI 69 := by decide
      have h6971 : ¬ nI 69 = nI 71 := by decide
      refine V_top (y := bI false) rfl ?_
      exact R_z rfl X hQ nX6_readThing_69 (by simp only [List.map_append, wI_fst, wO_fst]) (⟨by simp [rtB, h23, h42, h7169, h6971], by simp [rtS, h23, h42, h7169, h6971]⟩)
    · skip
      refine V_aload_n nX6_readThing_45 rfl ?_
      refine V_get6 0 14 (by decide) f_RX6_97 nX6_readThing_46 rfl rfl ?_
      refine V_iconst (v := (nI 5)) nX6_readThing_49 rfl ?_
      refine V_icmp_ge_N (tgt := 58) nX6_readThing_50 rfl (by omega) (by omega) (fun h50 => ?_) (fun h50 => ?_)
      · skip
        have ke : ¬ o_re < 5 := by omega
        refine V_aload_n nX6_readThing_58 rfl ?_
        refine V_dup nX6_readThing_59 rfl ?_
        refine V_get6 0 3 (by decide) f_RX6_87 nX6_readThing_60 rfl rfl ?_
        refine V_iconst (v := (nI 1)) nX6_readThing_63 rfl ?_
        refine V_isub (v := nI ((o_pl + 1) - 1)) nX6_readThing_64 (pk_sub (by omega)) ?_
        refine V_put6 (ws' := (wO g o_a o_th o_ts ((o_pl + 1) - 1) o_nf o_ne o_rf o_re o_ac o_cm o_sd o_wf o_sm o_sf o_rm o_rs) ++ (wI g (o_a 1) 48 t_f) ++ (wI g (o_a 8) 12 u_f) ++ (wI g (o_a 9) 15 v_f)) 0 3 (by decide) f_RX6_87 rfl rfl rfl rfl nX6_readThing_65 rfl (Nat.le_of_ble_eq_true rfl) rfl ?_
        refine V_iconst (v := (nI 0)) nX6_readThing_68 rfl ?_
        have h7169 : ¬ nI 71 = nI 69 := by decide
        have h6971 : ¬ nI 69 = nI 71 := by decide
        refine V_top (y := bI false) rfl ?_
        exact R_z rfl X hQ nX6_readThing_69 (by simp only [List.map_append, wI_fst, wO_fst]) (⟨by simp [rtB, h23, h42, h50, ke, h7169, h6971], by simp [rtS, h23, h42, h50, ke, h7169, h6971]⟩)
      · skip
        refine V_aload_n nX6_readThing_53 rfl ?_
        refine V_blk (ws' := ((wO g o_a o_th o_ts (o_pl + 1) o_nf o_ne o_rf o_re o_ac o_cm o_sd o_wf o_sm o_sf o_rm o_rs) ++ (wI g (o_a 1) 48 t_f) ++ (wI g (o_a 9) 15 v_f)) ++ ((wI g (o_a 8) 12 u_f))) [wO g o_a o_th o_ts (o_pl + 1) o_nf o_ne o_rf o_re o_ac o_cm o_sd o_wf o_sm o_sf o_rm o_rs, wI g (o_a 1) 48 t_f, wI g (o_a 8) 12 u_f, wI g (o_a 9) 15 v_f] [0, 1, 3, 2] rfl (by simp only [List.flatten_cons, List.flatten_nil, List.append_nil, List.append_assoc]) (by show List.flatten [wO g o_a o_th o_ts (o_pl + 1) o_nf o_ne o_rf o_re o_ac o_cm o_sd o_wf o_sm o_sf o_rm o_rs, wI g (o_a 1) 48 t_f, wI g (o_a 9) 15 v_f, wI g (o_a 8) 12 u_f] = _; simp only [List.flatten_cons, List.flatten_nil, List.append_nil, List.append_assoc]) ?_
        refine V_cVi (C := (RX6, TX6, 34)) (ci := 6) (ws' := ((wO g o_a o_th o_ts (o3Q t_f o_ts (o_pl + 1) 0 3) o_nf o_ne o_rf (if o3B t_f o_ts (o_pl + 1) 0 3 = true then o_re + 1 else o_re) o_ac o_cm o_sd o_wf o_sm o_sf o_rm o_rs) ++ (wI g (o_a 1) 48 t_f) ++ (wI g (o_a 9) 15 (if o3B t_f o_ts (o_pl + 1) 0 3 = true then o3A t_f (o_pl + 1) o_re v_f else v_f))) ++ ((wI g (o_a 8) 12 u_f))) (List.range _) 0 X (c_X6_readOneEater g l o_a o_th o_ts (o_pl + 1) o_nf o_ne o_rf o_re o_ac o_cm o_sd o_wf o_sm o_sf o_rm o_rs t_f v_f   (by omega) (by omega) (by omega)) k_RX6_104 hy_X6_readOneEater (by decide) (range_at _ _) (range_nd _) 0 rfl rfl nX6_readThing_54 rfl rfl (Nat.le_of_ble_eq_true rfl) (wput_range _ _ _ (by simp only [List.length_append, wI_len, wO_len])) ?_
        refine V_blk (ws' := (wO g o_a o_th o_ts (o3Q t_f o_ts (o_pl + 1) 0 3) o_nf o_ne o_rf (if o3B t_f o_ts (o_pl + 1) 0 3 = true then o_re + 1 else o_re) o_ac o_cm o_sd o_wf o_sm o_sf o_rm o_rs) ++ (wI g (o_a 1) 48 t_f) ++ (wI g (o_a 8) 12 u_f) ++ (wI g (o_a 9) 15 (if o3B t_f o_ts (o_pl + 1) 0 3 = true then o3A t_f (o_pl + 1) o_re v_f else v_f))) [wO g o_a o_th o_ts (o3Q t_f o_ts (o_pl + 1) 0 3) o_nf o_ne o_rf (if o3B t_f o_ts (o_pl + 1) 0 3 = true then o_re + 1 else o_re) o_ac o_cm o_sd o_wf o_sm o_sf o_rm o_rs, wI g (o_a 1) 48 t_f, wI g (o_a 9) 15 (if o3B t_f o_ts (o_pl + 1) 0 3 = true then o3A t_f (o_pl + 1) o_re v_f else v_f), wI g (o_a 8) 12 u_f] [0, 1, 3, 2] rfl (by simp only [List.flatten_cons, List.flatten_nil, List.append_nil, List.append_assoc]) (by show List.flatten [wO g o_a o_th o_ts (o3Q t_f o_ts (o_pl + 1) 0 3) o_nf o_ne o_rf (if o3B t_f o_ts (o_pl + 1) 0 3 = true then o_re + 1 else o_re) o_ac o_cm o_sd o_wf o_sm o_sf o_rm o_rs, wI g (o_a 1) 48 t_f, wI g (o_a 8) 12 u_f, wI g (o_a 9) 15 (if o3B t_f o_ts (o_pl + 1) 0 3 = true then o3A t_f (o_pl + 1) o_re v_f else v_f)] = _; simp only [List.flatten_cons, List.flatten_nil, List.append_nil, List.append_assoc]) ?_
        have h7169 : ¬ nI 71 = nI 69 := by decide
        have h6971 : ¬ nI 69 = nI 71 := by decide
        exact R_z rfl X hQ nX6_readThing_57 (by simp only [List.map_append, wI_fst, wO_fst]) (⟨by simp [rtB, h23, h42, h50, h7169, h6971], by simp [rtS, h23, h42, h50, h7169, h6971]⟩)
  · skip
    refine V_aload_n nX6_readThing_26 rfl ?_
    refine V_get6 0 12 (by decide) f_RX6_94 nX6_readThing_27 rfl rfl ?_
    refine V_iconst (v := (nI 4)) nX6_readThing_30 rfl ?_
    refine V_icmp_ge_N (tgt := 39) nX6_readThing_31 rfl (by omega) (by omega) (fun h31 => ?_) (fun h31 => ?_)
    · skip
      have kf : ¬ o_rf < 4 := by omega
      refine V_iload_n nX6_readThing_39 rfl ?_
      refine V_bipush (v := (nI 69)) nX6_readThing_40 (by decide) ?_
      refine V_icmp_ne (tgt := 58) nX6_readThing_42 rfl (fun h42 => ?_) (fun h42 => ?_)
      · skip
        refine V_aload_n nX6_readThing_58 rfl ?_
        refine V_dup nX6_readThing_59 rfl ?_
        refine V_get6 0 3 (by decide) f_RX6_87 nX6_readThing_60 rfl rfl ?_
        refine V_iconst (v := (nI 1)) nX6_readThing_63 rfl ?_
        refine V_isub (v := nI ((o_pl + 1) - 1)) nX6_readThing_64 (pk_sub (by omega)) ?_
        refine V_put6 (ws' := (wO g o_a o_th o_ts ((o_pl + 1) - 1) o_nf o_ne o_rf o_re o_ac o_cm o_sd o_wf o_sm o_sf o_rm o_rs) ++ (wI g (o_a 1) 48 t_f) ++ (wI g (o_a 8) 12 u_f) ++ (wI g (o_a 9) 15 v_f)) 0 3 (by decide) f_RX6_87 rfl rfl rfl rfl nX6_readThing_65 rfl (Nat.le_of_ble_eq_true rfl) rfl ?_
        refine V_iconst (v := (nI 0)) nX6_readThing_68 rfl ?_
        have h7169 : ¬ nI 71 = nI 69 := by decide
        have h6971 : ¬ nI 69 = nI 71 := by decide
        refine V_top (y := bI false) rfl ?_
        exact R_z rfl X hQ nX6_readThing_69 (by simp only [List.map_append, wI_fst, wO_fst]) (⟨by simp [rtB, h23, h31, kf, h42, h7169, h6971], by simp [rtS, h23, h31, kf, h42, h7169, h6971]⟩)
      · skip
        exact absurd (h23.symm.trans h42) (by decide)
    · skip
      refine V_aload_n nX6_readThing_34 rfl ?_
      refine V_blk (ws' := ((wO g o_a o_th o_ts (o_pl + 1) o_nf o_ne o_rf o_re o_ac o_cm o_sd o_wf o_sm o_sf o_rm o_rs) ++ (wI g (o_a 1) 48 t_f) ++ (wI g (o_a 8) 12 u_f)) ++ ((wI g (o_a 9) 15 v_f))) [wO g o_a o_th o_ts (o_pl + 1) o_nf o_ne o_rf o_re o_ac o_cm o_sd o_wf o_sm o_sf o_rm o_rs, wI g (o_a 1) 48 t_f, wI g (o_a 8) 12 u_f, wI g (o_a 9) 15 v_f] [0, 1, 2, 3] rfl (by simp only [List.flatten_cons, List.flatten_nil, List.append_nil, List.append_assoc]) (by show List.flatten [wO g o_a o_th o_ts (o_pl + 1) o_nf o_ne o_rf o_re o_ac o_cm o_sd o_wf o_sm o_sf o_rm o_rs, wI g (o_a 1) 48 t_f, wI g (o_a 8) 12 u_f, wI g (o_a 9) 15 v_f] = _; simp only [List.flatten_cons, List.flatten_nil, List.append_nil, List.append_assoc]) ?_
      refine V_cVi (C := (RX6, TX6, 34)) (ci := 6) (ws' := ((wO g o_a o_th o_ts (o3Q t_f o_ts (o_pl + 1) 1 9) o_nf o_ne (if o3B t_f o_ts (o_pl + 1) 1 9 = true then o_rf + 1 else o_rf) o_re o_ac o_cm o_sd o_wf o_sm o_sf o_rm o_rs) ++ (wI g (o_a 1) 48 t_f) ++ (wI g (o_a 8) 12 (if o3B t_f o_ts (o_pl + 1) 1 9 = true then o3A t_f (o_pl + 1) o_rf u_f else u_f))) ++ ((wI g (o_a 9) 15 v_f))) (List.range _) 0 X (c_X6_readOneField g l o_a o_th o_ts (o_pl + 1) o_nf o_ne o_rf o_re o_ac o_cm o_sd o_wf o_sm o_sf o_rm o_rs t_f u_f   (by omega) (by omega) (by omega)) k_RX6_100 hy_X6_readOneField (by decide) (range_at _ _) (range_nd _) 0 rfl rfl nX6_readThing_35 rfl rfl (Nat.le_of_ble_eq_true rfl) (wput_range _ _ _ (by simp only [List.length_append, wI_len, wO_len])) ?_
      refine V_blk (ws' := (wO g o_a o_th o_ts (o3Q t_f o_ts (o_pl + 1) 1 9) o_nf o_ne (if o3B t_f o_ts (o_pl + 1) 1 9 = true then o_rf + 1 else o_rf) o_re o_ac o_cm o_sd o_wf o_sm o_sf o_rm o_rs) ++ (wI g (o_a 1) 48 t_f) ++ (wI g (o_a 8) 12 (if o3B t_f o_ts (o_pl + 1) 1 9 = true then o3A t_f (o_pl + 1) o_rf u_f else u_f)) ++ (wI g (o_a 9) 15 v_f)) [wO g o_a o_th o_ts (o3Q t_f o_ts (o_pl + 1) 1 9) o_nf o_ne (if o3B t_f o_ts (o_pl + 1) 1 9 = true then o_rf + 1 else o_rf) o_re o_ac o_cm o_sd o_wf o_sm o_sf o_rm o_rs, wI g (o_a 1) 48 t_f, wI g (o_a 8) 12 (if o3B t_f o_ts (o_pl + 1) 1 9 = true then o3A t_f (o_pl + 1) o_rf u_f else u_f), wI g (o_a 9) 15 v_f] [0, 1, 2, 3] rfl (by simp only [List.flatten_cons, List.flatten_nil, List.append_nil, List.append_assoc]) (by show List.flatten [wO g o_a o_th o_ts (o3Q t_f o_ts (o_pl + 1) 1 9) o_nf o_ne (if o3B t_f o_ts (o_pl + 1) 1 9 = true then o_rf + 1 else o_rf) o_re o_ac o_cm o_sd o_wf o_sm o_sf o_rm o_rs, wI g (o_a 1) 48 t_f, wI g (o_a 8) 12 (if o3B t_f o_ts (o_pl + 1) 1 9 = true then o3A t_f (o_pl + 1) o_rf u_f else u_f), wI g (o_a 9) 15 v_f] = _; simp only [List.flatten_cons, List.flatten_nil, List.append_nil, List.append_assoc]) ?_
      have h7169 : ¬ nI 71 = nI 69 := by decide
      have h6971 : ¬ nI 69 = nI 71 := by decide
      exact R_z rfl X hQ nX6_readThing_38 (by simp only [List.map_append, wI_fst, wO_fst]) (⟨by simp [rtB, h23, h31, h7169, h6971], by simp [rtS, h23, h31, h7169, h6971]⟩)

set_option maxHeartbeats 4000000 in
set_option maxRecDepth 100000 in
theorem c_X6_readCountry (g : Gx) (l : Launch) (o_a : Nat → Nat) (o_th : Int32) (o_ts : Nat) (o_pl : Nat) (o_nf : Nat) (o_ne : Nat) (o_rf : Nat) (o_re : Nat) (o_ac : Nat) (o_cm : Nat) (o_sd : Int64) (o_wf : Int32) (o_sm : Int32) (o_sf : Int32) (o_rm : Int32) (o_rs : Int32) (t_f : Nat → Int32) (u_f : Nat → Int32) (v_f : Nat → Int32)   (hn : o_ts ≤ 48) : Cd g l yX6_readCountry mX6_readCountry ({ frames := 4, cells := 0, slots := 0, locals := 91 } : Room) [.ref (o_a 0)] ((wO g o_a o_th o_ts o_pl o_nf o_ne o_rf o_re o_ac o_cm o_sd o_wf o_sm o_sf o_rm o_rs) ++ (wI g (o_a 1) 48 t_f) ++ (wI g (o_a 8) 12 u_f) ++ (wI g (o_a 9) 15 v_f)) (some (.int (rcR (rcV t_f o_ts u_f v_f)))) ((wO g o_a o_th o_ts ((rcV t_f o_ts u_f v_f).2.1) o_nf o_ne ((rcV t_f o_ts u_f v_f).2.2.1) ((rcV t_f o_ts u_f v_f).2.2.2.1) o_ac o_cm o_sd o_wf o_sm o_sf o_rm o_rs) ++ (wI g (o_a 1) 48 t_f) ++ (wI g (o_a 8) 12 ((rcV t_f o_ts u_f v_f).2.2.2.2.1)) ++ (wI g (o_a 9) 15 ((rcV t_f o_ts u_f v_f).2.2.2.2.2))) := by
  refine Ct.of (lv := [(0, .ref (o_a 0))]) ⟨by decide +kernel, rfl, Nat.le_of_ble_eq_true rfl⟩ rfl (fun E A sz Q X hQ => ?_)
  refine V_aload_n nX6_readCountry_0 rfl ?_
  refine V_iconst (v := (nI 0)) nX6_readCountry_1 rfl ?_
  refine V_put6 (ws' := (wO g o_a o_th o_ts 0 o_nf o_ne o_rf o_re o_ac o_cm o_sd o_wf o_sm o_sf o_rm o_rs) ++ (wI g (o_a 1) 48 t_f) ++ (wI g (o_a 8) 12 u_f) ++ (wI g (o_a 9) 15 v_f)) 0 3 (by decide) f_RX6_87 rfl rfl rfl rfl nX6_readCountry_2 rfl (Nat.le_of_ble_eq_true rfl) rfl ?_
  refine V_aload_n nX6_readCountry_5 rfl ?_
  refine V_iconst (v := (nI 0)) nX6_readCountry_6 rfl ?_
  refine V_put6 (ws' := (wO g o_a o_th o_ts 0 o_nf o_ne 0 o_re o_ac o_cm o_sd o_wf o_sm o_sf o_rm o_rs) ++ (wI g (o_a 1) 48 t_f) ++ (wI g (o_a 8) 12 u_f) ++ (wI g (o_a 9) 15 v_f)) 0 12 (by decide) f_RX6_94 rfl rfl rfl rfl nX6_readCountry_7 rfl (Nat.le_of_ble_eq_true rfl) rfl ?_
  refine V_aload_n nX6_readCountry_10 rfl ?_
  refine V_iconst (v := (nI 0)) nX6_readCountry_11 rfl ?_
  refine V_put6 (ws' := (wO g o_a o_th o_ts 0 o_nf o_ne 0 0 o_ac o_cm o_sd o_wf o_sm o_sf o_rm o_rs) ++ (wI g (o_a 1) 48 t_f) ++ (wI g (o_a 8) 12 u_f) ++ (wI g (o_a 9) 15 v_f)) 0 14 (by decide) f_RX6_97 rfl rfl rfl rfl nX6_readCountry_12 rfl (Nat.le_of_ble_eq_true rfl) rfl ?_
  refine V_aload_n nX6_readCountry_15 rfl ?_
  refine V_get6 0 2 (by decide) f_RX6_84 nX6_readCountry_16 rfl rfl ?_
  refine V_if_eq_N (tgt := 33) nX6_readCountry_19 rfl (by omega) (fun h19 => ?_) (fun h19 => ?_)
  · skip
    refine V_iconst (v := (nI 0)) nX6_readCountry_33 rfl ?_
    exact R_i rfl X hQ nX6_readCountry_34 (by simp only [List.map_append, wI_fst, wO_fst]) (⟨by simp [rcR, rcV, h19], by simp [rcV, h19]⟩)
  · skip
    refine V_aload_n nX6_readCountry_22 rfl ?_
    refine V_get6 0 1 (by decide) f_RX6_7 nX6_readCountry_23 rfl rfl ?_
    refine V_iconst (v := (nI 0)) nX6_readCountry_26 rfl ?_
    refine V_iald 1 nX6_readCountry_27 rfl (by omega) (by decide) rfl ?_
    refine V_bipush (v := (nI 70)) nX6_readCountry_28 (by decide) ?_
    refine V_icmp_eq (tgt := 35) nX6_readCountry_30 rfl (fun h30 => ?_) (fun h30 => ?_)
    · skip
      refine V_aload_n nX6_readCountry_35 rfl ?_
      refine V_iconst (v := (nI 1)) nX6_readCountry_36 rfl ?_
      refine V_put6 (ws' := (wO g o_a o_th o_ts 1 o_nf o_ne 0 0 o_ac o_cm o_sd o_wf o_sm o_sf o_rm o_rs) ++ (wI g (o_a 1) 48 t_f) ++ (wI g (o_a 8) 12 u_f) ++ (wI g (o_a 9) 15 v_f)) 0 3 (by decide) f_RX6_87 rfl rfl rfl rfl nX6_readCountry_37 rfl (Nat.le_of_ble_eq_true rfl) rfl ?_
      have L40 : ∀ (n : Nat) (s : S5) (k : Nat), o_ts - s.1 < n → s.1 ≤ o_ts → s.2.1 ≤ 4 → s.2.2.1 ≤ 5 → o_ts ≤ s.1 + 4 * k → rcS t_f o_ts k s = rcS t_f o_ts 12 (1, 0, 0, u_f, v_f) → V g E mX6_readCountry A Q 0 0 ((wO g o_a o_th o_ts s.1 o_nf o_ne s.2.1 s.2.2.1 o_ac o_cm o_sd o_wf o_sm o_sf o_rm o_rs) ++ (wI g (o_a 1) 48 t_f) ++ (wI g (o_a 8) 12 s.2.2.2.1) ++ (wI g (o_a 9) 15 s.2.2.2.2)) 40 [(0, .ref (o_a 0))] [] := by
        intro n
        induction n with
        | zero => intro s k hm; exact absurd hm (Nat.not_lt_zero _)
        | succ n ih =>
          intro s k hm hs h4 h5 hk hr
          refine V_aload_n nX6_readCountry_40 rfl ?_
          refine V_get6 0 3 (by decide) f_RX6_87 nX6_readCountry_41 rfl rfl ?_
          refine V_aload_n nX6_readCountry_44 rfl ?_
          refine V_get6 0 2 (by decide) f_RX6_84 nX6_readCountry_45 rfl rfl ?_
          refine V_icmp_ge_N (tgt := 63) nX6_readCountry_48 rfl (by omega) (by omega) (fun h48 => ?_) (fun h48 => ?_)
          · skip
            refine V_bipush (v := (-9)) nX6_readCountry_63 (by decide) ?_
            exact R_i rfl X hQ nX6_readCountry_65 (by simp only [List.map_append, wI_fst, wO_fst]) (⟨by rw [rcV_t h19 h30, ← hr, rcS_end h48]; rfl, by rw [rcV_t h19 h30, ← hr, rcS_end h48]⟩)
          · skip
            refine V_aload_n nX6_readCountry_51 rfl ?_
            refine V_blk (ws' := ((wO g o_a o_th o_ts s.1 o_nf o_ne s.2.1 s.2.2.1 o_ac o_cm o_sd o_wf o_sm o_sf o_rm o_rs) ++ (wI g (o_a 1) 48 t_f) ++ (wI g (o_a 8) 12 s.2.2.2.1) ++ (wI g (o_a 9) 15 s.2.2.2.2)) ++ ([] : va_W)) [wO g o_a o_th o_ts s.1 o_nf o_ne s.2.1 s.2.2.1 o_ac o_cm o_sd o_wf o_sm o_sf o_rm o_rs, wI g (o_a 1) 48 t_f, wI g (o_a 8) 12 s.2.2.2.1, wI g (o_a 9) 15 s.2.2.2.2] [0, 1, 2, 3] rfl (by simp only [List.flatten_cons, List.flatten_nil, List.append_nil, List.append_assoc]) (by show List.flatten [wO g o_a o_th o_ts s.1 o_nf o_ne s.2.1 s.2.2.1 o_ac o_cm o_sd o_wf o_sm o_sf o_rm o_rs, wI g (o_a 1) 48 t_f, wI g (o_a 8) 12 s.2.2.2.1, wI g (o_a 9) 15 s.2.2.2.2] = _; simp only [List.flatten_cons, List.flatten_nil, List.append_nil, List.append_assoc]) ?_
            refine V_cVi (C := (RX6, TX6, 34)) (ci := 6) (ws' := ((wO g o_a o_th o_ts ((rtS t_f o_ts (s.1, s.2.1, s.2.2.1, s.2.2.2.1, s.2.2.2.2)).1) o_nf o_ne ((rtS t_f o_ts (s.1, s.2.1, s.2.2.1, s.2.2.2.1, s.2.2.2.2)).2.1) ((rtS t_f o_ts (s.1, s.2.1, s.2.2.1, s.2.2.2.1, s.2.2.2.2)).2.2.1) o_ac o_cm o_sd o_wf o_sm o_sf o_rm o_rs) ++ (wI g (o_a 1) 48 t_f) ++ (wI g (o_a 8) 12 ((rtS t_f o_ts (s.1, s.2.1, s.2.2.1, s.2.2.2.1, s.2.2.2.2)).2.2.2.1)) ++ (wI g (o_a 9) 15 ((rtS t_f o_ts (s.1, s.2.1, s.2.2.1, s.2.2.2.1, s.2.2.2.2)).2.2.2.2))) ++ ([] : va_W)) (List.range _) 0 X (c_X6_readThing g l o_a o_th o_ts s.1 o_nf o_ne s.2.1 s.2.2.1 o_ac o_cm o_sd o_wf o_sm o_sf o_rm o_rs t_f s.2.2.2.1 s.2.2.2.2   (by omega) (by omega) (by omega) (by omega)) k_RX6_107 hy_X6_readThing (by decide) (range_at _ _) (range_nd _) 0 rfl rfl nX6_readCountry_52 rfl rfl (Nat.le_of_ble_eq_true rfl) (wput_range _ _ _ (by simp only [List.length_append, wI_len, wO_len])) ?_
            refine V_blk (ws' := (wO g o_a o_th o_ts ((rtS t_f o_ts (s.1, s.2.1, s.2.2.1, s.2.2.2.1, s.2.2.2.2)).1) o_nf o_ne ((rtS t_f o_ts (s.1, s.2.1, s.2.2.1, s.2.2.2.1, s.2.2.2.2)).2.1) ((rtS t_f o_ts (s.1, s.2.1, s.2.2.1, s.2.2.2.1, s.2.2.2.2)).2.2.1) o_ac o_cm o_sd o_wf o_sm o_sf o_rm o_rs) ++ (wI g (o_a 1) 48 t_f) ++ (wI g (o_a 8) 12 ((rtS t_f o_ts (s.1, s.2.1, s.2.2.1, s.2.2.2.1, s.2.2.2.2)).2.2.2.1)) ++ (wI g (o_a 9) 15 ((rtS t_f o_ts (s.1, s.2.1, s.2.2.1, s.2.2.2.1, s.2.2.2.2)).2.2.2.2))) [wO g o_a o_th o_ts ((rtS t_f o_ts (s.1, s.2.1, s.2.2.1, s.2.2.2.1, s.2.2.2.2)).1) o_nf o_ne ((rtS t_f o_ts (s.1, s.2.1, s.2.2.1, s.2.2.2.1, s.2.2.2.2)).2.1) ((rtS t_f o_ts (s.1, s.2.1, s.2.2.1, s.2.2.2.1, s.2.2.2.2)).2.2.1) o_ac o_cm o_sd o_wf o_sm o_sf o_rm o_rs, wI g (o_a 1) 48 t_f, wI g (o_a 8) 12 ((rtS t_f o_ts (s.1, s.2.1, s.2.2.1, s.2.2.2.1, s.2.2.2.2)).2.2.2.1), wI g (o_a 9) 15 ((rtS t_f o_ts (s.1, s.2.1, s.2.2.1, s.2.2.2.1, s.2.2.2.2)).2.2.2.2)] [0, 1, 2, 3] rfl (by simp only [List.flatten_cons, List.flatten_nil, List.append_nil, List.append_assoc]) (by show List.flatten [wO g o_a o_th o_ts ((rtS t_f o_ts (s.1, s.2.1, s.2.2.1, s.2.2.2.1, s.2.2.2.2)).1) o_nf o_ne ((rtS t_f o_ts (s.1, s.2.1, s.2.2.1, s.2.2.2.1, s.2.2.2.2)).2.1) ((rtS t_f o_ts (s.1, s.2.1, s.2.2.1, s.2.2.2.1, s.2.2.2.2)).2.2.1) o_ac o_cm o_sd o_wf o_sm o_sf o_rm o_rs, wI g (o_a 1) 48 t_f, wI g (o_a 8) 12 ((rtS t_f o_ts (s.1, s.2.1, s.2.2.1, s.2.2.2.1, s.2.2.2.2)).2.2.2.1), wI g (o_a 9) 15 ((rtS t_f o_ts (s.1, s.2.1, s.2.2.1, s.2.2.2.1, s.2.2.2.2)).2.2.2.2)] = _; simp only [List.flatten_cons, List.flatten_nil, List.append_nil, List.append_assoc]) ?_
            refine V_if_ne_b (tgt := 40) nX6_readCountry_55 rfl (fun h55 => ?_) (fun h55 => ?_)
            · skip
              have h1 : (rtS t_f o_ts s).1 = s.1 + 4 := rt_1 h55
              have h2 := rt_ok (F := t_f) h48 h4 h5
              exact ih (rtS t_f o_ts s) (k - 1) (by omega) (h2.1) (h2.2.1) (h2.2.2) (by omega) (by rw [← hr]; exact (rcS_go hk h48 h55).symm)
            · skip
              refine V_aload_n nX6_readCountry_58 rfl ?_
              refine V_get6 0 3 (by decide) f_RX6_87 nX6_readCountry_59 rfl rfl ?_
              exact R_i rfl X hQ nX6_readCountry_62 (by simp only [List.map_append, wI_fst, wO_fst]) (⟨by rw [rcV_t h19 h30, ← hr, rcS_no hk h48 h55]; rfl, by rw [rcV_t h19 h30, ← hr, rcS_no hk h48 h55]⟩)
      exact L40 _ (1, 0, 0, u_f, v_f) 12 (Nat.lt_succ_self _) (by show 1 ≤ o_ts; omega) (Nat.zero_le _) (Nat.zero_le _) (by omega) (rfl)
    · skip
      refine V_iconst (v := (nI 0)) nX6_readCountry_33 rfl ?_
      exact R_i rfl X hQ nX6_readCountry_34 (by simp only [List.map_append, wI_fst, wO_fst]) (⟨by simp [rcR, rcV, h19, h30], by simp [rcV, h19, h30]⟩)

set_option maxHeartbeats 4000000 in
set_option maxRecDepth 100000 in
theorem c_X6_fault (g : Gx) (l : Launch) (o_a : Nat → Nat) (o_th : Int32) (o_ts : Nat) (o_pl : Nat) (o_nf : Nat) (o_ne : Nat) (o_rf : Nat) (o_re : Nat) (o_ac : Nat) (o_cm : Nat) (o_sd : Int64) (o_wf : Int32) (o_sm : Int32) (o_sf : Int32) (o_rm : Int32) (o_rs : Int32) (t_f : Nat → Int32) (u_f : Nat → Int32) (v_f : Nat → Int32)   (hn : o_ts ≤ 48) : Cd g l yX6_fault mX6_fault ({ frames := 5, cells := 0, slots := 0, locals := 111 } : Room) [.ref (o_a 0)] ((wO g o_a o_th o_ts o_pl o_nf o_ne o_rf o_re o_ac o_cm o_sd o_wf o_sm o_sf o_rm o_rs) ++ (wI g (o_a 1) 48 t_f) ++ (wI g (o_a 8) 12 u_f) ++ (wI g (o_a 9) 15 v_f)) (some (.int (rcR (rcV t_f o_ts u_f v_f)))) ((wO g o_a (nI 0) o_ts ((rcV t_f o_ts u_f v_f).2.1) o_nf o_ne ((rcV t_f o_ts u_f v_f).2.2.1) ((rcV t_f o_ts u_f v_f).2.2.2.1) o_ac o_cm o_sd o_wf o_sm o_sf o_rm o_rs) ++ (wI g (o_a 1) 48 t_f) ++ (wI g (o_a 8) 12 ((rcV t_f o_ts u_f v_f).2.2.2.2.1)) ++ (wI g (o_a 9) 15 ((rcV t_f o_ts u_f v_f).2.2.2.2.2))) := by
  refine Ct.of (lv := [(0, .ref (o_a 0))]) ⟨by decide +kernel, rfl, Nat.le_of_ble_eq_true rfl⟩ rfl (fun E A sz Q X hQ => ?_)
  refine V_aload_n nX6_fault_0 rfl ?_
  refine V_iconst (v := (nI 0)) nX6_fault_1 rfl ?_
  refine V_put6 (ws' := (wO g o_a (nI 0) o_ts o_pl o_nf o_ne o_rf o_re o_ac o_cm o_sd o_wf o_sm o_sf o_rm o_rs) ++ (wI g (o_a 1) 48 t_f) ++ (wI g (o_a 8) 12 u_f) ++ (wI g (o_a 9) 15 v_f)) 0 0 (by decide) f_RX6_68 rfl rfl rfl rfl nX6_fault_2 rfl (Nat.le_of_ble_eq_true rfl) rfl ?_
  refine V_aload_n nX6_fault_5 rfl ?_
  refine V_blk (ws' := ((wO g o_a (nI 0) o_ts o_pl o_nf o_ne o_rf o_re o_ac o_cm o_sd o_wf o_sm o_sf o_rm o_rs) ++ (wI g (o_a 1) 48 t_f) ++ (wI g (o_a 8) 12 u_f) ++ (wI g (o_a 9) 15 v_f)) ++ ([] : va_W)) [wO g o_a (nI 0) o_ts o_pl o_nf o_ne o_rf o_re o_ac o_cm o_sd o_wf o_sm o_sf o_rm o_rs, wI g (o_a 1) 48 t_f, wI g (o_a 8) 12 u_f, wI g (o_a 9) 15 v_f] [0, 1, 2, 3] rfl (by simp only [List.flatten_cons, List.flatten_nil, List.append_nil, List.append_assoc]) (by show List.flatten [wO g o_a (nI 0) o_ts o_pl o_nf o_ne o_rf o_re o_ac o_cm o_sd o_wf o_sm o_sf o_rm o_rs, wI g (o_a 1) 48 t_f, wI g (o_a 8) 12 u_f, wI g (o_a 9) 15 v_f] = _; simp only [List.flatten_cons, List.flatten_nil, List.append_nil, List.append_assoc]) ?_
  refine V_cVi (C := (RX6, TX6, 34)) (ci := 6) (ws' := ((wO g o_a (nI 0) o_ts ((rcV t_f o_ts u_f v_f).2.1) o_nf o_ne ((rcV t_f o_ts u_f v_f).2.2.1) ((rcV t_f o_ts u_f v_f).2.2.2.1) o_ac o_cm o_sd o_wf o_sm o_sf o_rm o_rs) ++ (wI g (o_a 1) 48 t_f) ++ (wI g (o_a 8) 12 ((rcV t_f o_ts u_f v_f).2.2.2.2.1)) ++ (wI g (o_a 9) 15 ((rcV t_f o_ts u_f v_f).2.2.2.2.2))) ++ ([] : va_W)) (List.range _) 0 X (c_X6_readCountry g l o_a (nI 0) o_ts o_pl o_nf o_ne o_rf o_re o_ac o_cm o_sd o_wf o_sm o_sf o_rm o_rs t_f u_f v_f   (by omega)) k_RX6_110 hy_X6_readCountry (by decide) (range_at _ _) (range_nd _) 0 rfl rfl nX6_fault_6 rfl rfl (Nat.le_of_ble_eq_true rfl) (wput_range _ _ _ (by simp only [List.length_append, wI_len, wO_len])) ?_
  refine V_blk (ws' := (wO g o_a (nI 0) o_ts ((rcV t_f o_ts u_f v_f).2.1) o_nf o_ne ((rcV t_f o_ts u_f v_f).2.2.1) ((rcV t_f o_ts u_f v_f).2.2.2.1) o_ac o_cm o_sd o_wf o_sm o_sf o_rm o_rs) ++ (wI g (o_a 1) 48 t_f) ++ (wI g (o_a 8) 12 ((rcV t_f o_ts u_f v_f).2.2.2.2.1)) ++ (wI g (o_a 9) 15 ((rcV t_f o_ts u_f v_f).2.2.2.2.2))) [wO g o_a (nI 0) o_ts ((rcV t_f o_ts u_f v_f).2.1) o_nf o_ne ((rcV t_f o_ts u_f v_f).2.2.1) ((rcV t_f o_ts u_f v_f).2.2.2.1) o_ac o_cm o_sd o_wf o_sm o_sf o_rm o_rs, wI g (o_a 1) 48 t_f, wI g (o_a 8) 12 ((rcV t_f o_ts u_f v_f).2.2.2.2.1), wI g (o_a 9) 15 ((rcV t_f o_ts u_f v_f).2.2.2.2.2)] [0, 1, 2, 3] rfl (by simp only [List.flatten_cons, List.flatten_nil, List.append_nil, List.append_assoc]) (by show List.flatten [wO g o_a (nI 0) o_ts ((rcV t_f o_ts u_f v_f).2.1) o_nf o_ne ((rcV t_f o_ts u_f v_f).2.2.1) ((rcV t_f o_ts u_f v_f).2.2.2.1) o_ac o_cm o_sd o_wf o_sm o_sf o_rm o_rs, wI g (o_a 1) 48 t_f, wI g (o_a 8) 12 ((rcV t_f o_ts u_f v_f).2.2.2.2.1), wI g (o_a 9) 15 ((rcV t_f o_ts u_f v_f).2.2.2.2.2)] = _; simp only [List.flatten_cons, List.flatten_nil, List.append_nil, List.append_assoc]) ?_
  exact R_i rfl X hQ nX6_fault_9 (by simp only [List.map_append, wI_fst, wO_fst]) (⟨rfl, rfl⟩)

set_option maxHeartbeats 4000000 in
set_option maxRecDepth 100000 in
theorem c_X6_country_no (g : Gx) (l : Launch) (o_a : Nat → Nat) (o_th : Int32) (o_ts : Nat) (o_pl : Nat) (o_nf : Nat) (o_ne : Nat) (o_rf : Nat) (o_re : Nat) (o_ac : Nat) (o_cm : Nat) (o_sd : Int64) (o_wf : Int32) (o_sm : Int32) (o_sf : Int32) (o_rm : Int32) (o_rs : Int32) (t_f : Nat → Int32) (u_f : Nat → Int32) (v_f : Nat → Int32) (m_pl : Nat → Int32) (m_yl : Nat → Int32) (m_nd : Nat → Int32) (m_hm : Nat → Int32) (m_wk : Nat → Int32) (m_kd : Nat → Int32) (g_f : Nat → Int32) (i_f : Nat → Int32)   (hn : o_ts ≤ 48) (hft : (rcV t_f o_ts u_f v_f).1 = false) : Cd g l yX6_country mX6_country ({ frames := 5, cells := 0, slots := 0, locals := 111 } : Room) [.ref (o_a 0)] ((wO g o_a o_th o_ts o_pl o_nf o_ne o_rf o_re o_ac o_cm o_sd o_wf o_sm o_sf o_rm o_rs) ++ (wI g (o_a 1) 48 t_f) ++ (wI g (o_a 8) 12 u_f) ++ (wI g (o_a 9) 15 v_f) ++ (wML g o_a m_pl m_yl m_nd m_hm m_wk m_kd) ++ (wI g (o_a 10) 29 g_f) ++ (wZ g (o_a 14) 2 i_f)) (some (.int (-3))) ((wO g o_a (nI 0) o_ts ((rcV t_f o_ts u_f v_f).2.1) o_nf o_ne ((rcV t_f o_ts u_f v_f).2.2.1) ((rcV t_f o_ts u_f v_f).2.2.2.1) o_ac o_cm o_sd o_wf o_sm o_sf o_rm o_rs) ++ (wI g (o_a 1) 48 t_f) ++ (wI g (o_a 8) 12 ((rcV t_f o_ts u_f v_f).2.2.2.2.1)) ++ (wI g (o_a 9) 15 ((rcV t_f o_ts u_f v_f).2.2.2.2.2)) ++ (wML g o_a m_pl m_yl m_nd m_hm m_wk m_kd) ++ (wI g (o_a 10) 29 g_f) ++ (wZ g (o_a 14) 2 i_f)) := by
  refine Ct.of (lv := [(0, .ref (o_a 0))]) ⟨by decide +kernel, rfl, Nat.le_of_ble_eq_true rfl⟩ rfl (fun E A sz Q X hQ => ?_)
  refine V_aload_n nX6_country_0 rfl ?_
  refine V_iconst (v := (nI 0)) nX6_country_1 rfl ?_
  refine V_put6 (ws' := (wO g o_a (nI 0) o_ts o_pl o_nf o_ne o_rf o_re o_ac o_cm o_sd o_wf o_sm o_sf o_rm o_rs) ++ (wI g (o_a 1) 48 t_f) ++ (wI g (o_a 8) 12 u_f) ++ (wI g (o_a 9) 15 v_f) ++ (wML g o_a m_pl m_yl m_nd m_hm m_wk m_kd) ++ (wI g (o_a 10) 29 g_f) ++ (wZ g (o_a 14) 2 i_f)) 0 0 (by decide) f_RX6_68 rfl rfl rfl rfl nX6_country_2 rfl (Nat.le_of_ble_eq_true rfl) rfl ?_
  refine V_aload_n nX6_country_5 rfl ?_
  refine V_blk (ws' := ((wO g o_a (nI 0) o_ts o_pl o_nf o_ne o_rf o_re o_ac o_cm o_sd o_wf o_sm o_sf o_rm o_rs) ++ (wI g (o_a 1) 48 t_f) ++ (wI g (o_a 8) 12 u_f) ++ (wI g (o_a 9) 15 v_f)) ++ ((wML g o_a m_pl m_yl m_nd m_hm m_wk m_kd) ++ (wI g (o_a 10) 29 g_f) ++ (wZ g (o_a 14) 2 i_f))) [wO g o_a (nI 0) o_ts o_pl o_nf o_ne o_rf o_re o_ac o_cm o_sd o_wf o_sm o_sf o_rm o_rs, wI g (o_a 1) 48 t_f, wI g (o_a 8) 12 u_f, wI g (o_a 9) 15 v_f, wML g o_a m_pl m_yl m_nd m_hm m_wk m_kd, wI g (o_a 10) 29 g_f, wZ g (o_a 14) 2 i_f] [0, 1, 2, 3, 4, 5, 6] rfl (by simp only [List.flatten_cons, List.flatten_nil, List.append_nil, List.append_assoc]) (by show List.flatten [wO g o_a (nI 0) o_ts o_pl o_nf o_ne o_rf o_re o_ac o_cm o_sd o_wf o_sm o_sf o_rm o_rs, wI g (o_a 1) 48 t_f, wI g (o_a 8) 12 u_f, wI g (o_a 9) 15 v_f, wML g o_a m_pl m_yl m_nd m_hm m_wk m_kd, wI g (o_a 10) 29 g_f, wZ g (o_a 14) 2 i_f] = _; simp only [List.flatten_cons, List.flatten_nil, List.append_nil, List.append_assoc]) ?_
  refine V_cVi (C := (RX6, TX6, 34)) (ci := 6) (ws' := ((wO g o_a (nI 0) o_ts ((rcV t_f o_ts u_f v_f).2.1) o_nf o_ne ((rcV t_f o_ts u_f v_f).2.2.1) ((rcV t_f o_ts u_f v_f).2.2.2.1) o_ac o_cm o_sd o_wf o_sm o_sf o_rm o_rs) ++ (wI g (o_a 1) 48 t_f) ++ (wI g (o_a 8) 12 ((rcV t_f o_ts u_f v_f).2.2.2.2.1)) ++ (wI g (o_a 9) 15 ((rcV t_f o_ts u_f v_f).2.2.2.2.2))) ++ ((wML g o_a m_pl m_yl m_nd m_hm m_wk m_kd) ++ (wI g (o_a 10) 29 g_f) ++ (wZ g (o_a 14) 2 i_f))) (List.range _) 0 X (c_X6_readCountry g l o_a (nI 0) o_ts o_pl o_nf o_ne o_rf o_re o_ac o_cm o_sd o_wf o_sm o_sf o_rm o_rs t_f u_f v_f   (by omega)) k_RX6_110 hy_X6_readCountry (by decide) (range_at _ _) (range_nd _) 0 rfl rfl nX6_country_6 rfl rfl (Nat.le_of_ble_eq_true rfl) (wput_range _ _ _ (by simp only [List.length_append, wI_len, wO_len])) ?_
  refine V_blk (ws' := (wO g o_a (nI 0) o_ts ((rcV t_f o_ts u_f v_f).2.1) o_nf o_ne ((rcV t_f o_ts u_f v_f).2.2.1) ((rcV t_f o_ts u_f v_f).2.2.2.1) o_ac o_cm o_sd o_wf o_sm o_sf o_rm o_rs) ++ (wI g (o_a 1) 48 t_f) ++ (wI g (o_a 8) 12 ((rcV t_f o_ts u_f v_f).2.2.2.2.1)) ++ (wI g (o_a 9) 15 ((rcV t_f o_ts u_f v_f).2.2.2.2.2)) ++ (wML g o_a m_pl m_yl m_nd m_hm m_wk m_kd) ++ (wI g (o_a 10) 29 g_f) ++ (wZ g (o_a 14) 2 i_f)) [wO g o_a (nI 0) o_ts ((rcV t_f o_ts u_f v_f).2.1) o_nf o_ne ((rcV t_f o_ts u_f v_f).2.2.1) ((rcV t_f o_ts u_f v_f).2.2.2.1) o_ac o_cm o_sd o_wf o_sm o_sf o_rm o_rs, wI g (o_a 1) 48 t_f, wI g (o_a 8) 12 ((rcV t_f o_ts u_f v_f).2.2.2.2.1), wI g (o_a 9) 15 ((rcV t_f o_ts u_f v_f).2.2.2.2.2), wML g o_a m_pl m_yl m_nd m_hm m_wk m_kd, wI g (o_a 10) 29 g_f, wZ g (o_a 14) 2 i_f] [0, 1, 2, 3, 4, 5, 6] rfl (by simp only [List.flatten_cons, List.flatten_nil, List.append_nil, List.append_assoc]) (by show List.flatten [wO g o_a (nI 0) o_ts ((rcV t_f o_ts u_f v_f).2.1) o_nf o_ne ((rcV t_f o_ts u_f v_f).2.2.1) ((rcV t_f o_ts u_f v_f).2.2.2.1) o_ac o_cm o_sd o_wf o_sm o_sf o_rm o_rs, wI g (o_a 1) 48 t_f, wI g (o_a 8) 12 ((rcV t_f o_ts u_f v_f).2.2.2.2.1), wI g (o_a 9) 15 ((rcV t_f o_ts u_f v_f).2.2.2.2.2), wML g o_a m_pl m_yl m_nd m_hm m_wk m_kd, wI g (o_a 10) 29 g_f, wZ g (o_a 14) 2 i_f] = _; simp only [List.flatten_cons, List.flatten_nil, List.append_nil, List.append_assoc]) ?_
  refine V_bipush (v := (-9)) nX6_country_9 (by decide) ?_
  refine V_icmp_eq (tgt := 17) nX6_country_11 rfl (fun h11 => ?_) (fun h11 => ?_)
  · skip
    exact absurd ((rcR_9 (rcV_1 t_f hn u_f v_f)).mp h11) (by rw [hft]; decide)
  · skip
    refine V_bipush (v := (-3)) nX6_country_14 (by decide) ?_
    exact R_i rfl X hQ nX6_country_16 (by simp only [List.map_append, wI_fst, wML_fst, wO_fst, wZ_fst]) (⟨rfl, rfl⟩)

set_option maxHeartbeats 4000000 in
set_option maxRecDepth 100000 in
theorem c_X6_country_ok (g : Gx) (l : Launch) (o_a : Nat → Nat) (o_th : Int32) (o_ts : Nat) (o_pl : Nat) (o_nf : Nat) (o_ne : Nat) (o_rf : Nat) (o_re : Nat) (o_ac : Nat) (o_cm : Nat) (o_sd : Int64) (o_wf : Int32) (o_sm : Int32) (o_sf : Int32) (o_rm : Int32) (o_rs : Int32) (t_f : Nat → Int32) (u_f : Nat → Int32) (v_f : Nat → Int32) (m_pl : Nat → Int32) (m_yl : Nat → Int32) (m_nd : Nat → Int32) (m_hm : Nat → Int32) (m_wk : Nat → Int32) (m_kd : Nat → Int32) (g_f : Nat → Int32) (i_f : Nat → Int32)   (hn : o_ts ≤ 48) (hft : (rcV t_f o_ts u_f v_f).1 = true) : Cd g l yX6_country mX6_country ({ frames := 5, cells := 0, slots := 0, locals := 111 } : Room) [.ref (o_a 0)] ((wO g o_a o_th o_ts o_pl o_nf o_ne o_rf o_re o_ac o_cm o_sd o_wf o_sm o_sf o_rm o_rs) ++ (wI g (o_a 1) 48 t_f) ++ (wI g (o_a 8) 12 u_f) ++ (wI g (o_a 9) 15 v_f) ++ (wML g o_a m_pl m_yl m_nd m_hm m_wk m_kd) ++ (wI g (o_a 10) 29 g_f) ++ (wZ g (o_a 14) 2 i_f)) (some (.int (nI (10 * (rcV t_f o_ts u_f v_f).2.2.1 + (rcV t_f o_ts u_f v_f).2.2.2.1)))) ((wO g o_a (nI 0) o_ts ((rcV t_f o_ts u_f v_f).2.1) ((rcV t_f o_ts u_f v_f).2.2.1) ((rcV t_f o_ts u_f v_f).2.2.2.1) ((rcV t_f o_ts u_f v_f).2.2.1) ((rcV t_f o_ts u_f v_f).2.2.2.1) 0 o_cm o_sd o_wf o_sm o_sf o_rm o_rs) ++ (wI g (o_a 1) 48 t_f) ++ (wI g (o_a 8) 12 ((rcV t_f o_ts u_f v_f).2.2.2.2.1)) ++ (wI g (o_a 9) 15 ((rcV t_f o_ts u_f v_f).2.2.2.2.2)) ++ (wML g o_a (fillI (fun f => (rcV t_f o_ts u_f v_f).2.2.2.2.1 (3 * f)) m_pl (rcV t_f o_ts u_f v_f).2.2.1) (fillI (fun f => (rcV t_f o_ts u_f v_f).2.2.2.2.1 (3 * f + 1)) m_yl (rcV t_f o_ts u_f v_f).2.2.1) (fillI (fun f => (rcV t_f o_ts u_f v_f).2.2.2.2.1 (3 * f + 2)) m_nd (rcV t_f o_ts u_f v_f).2.2.1) (fillI (fun f => (rcV t_f o_ts u_f v_f).2.2.2.2.2 (3 * f)) m_hm (rcV t_f o_ts u_f v_f).2.2.2.1) (fillI (fun f => (rcV t_f o_ts u_f v_f).2.2.2.2.2 (3 * f + 1)) m_wk (rcV t_f o_ts u_f v_f).2.2.2.1) (fillI (fun f => (rcV t_f o_ts u_f v_f).2.2.2.2.2 (3 * f + 2)) m_kd (rcV t_f o_ts u_f v_f).2.2.2.1)) ++ (wI g (o_a 10) 29 (fillI (fun f => (rcV t_f o_ts u_f v_f).2.2.2.2.1 (3 * f + 1)) (fun _ => nI 0) (rcV t_f o_ts u_f v_f).2.2.1)) ++ (wZ g (o_a 14) 2 (fun _ => bI false))) := by
  refine Ct.of (lv := [(0, .ref (o_a 0))]) ⟨by decide +kernel, rfl, Nat.le_of_ble_eq_true rfl⟩ rfl (fun E A sz Q X hQ => ?_)
  have hle := rcV_le t_f o_ts u_f v_f
  refine V_aload_n nX6_country_0 rfl ?_
  refine V_iconst (v := (nI 0)) nX6_country_1 rfl ?_
  refine V_put6 (ws' := (wO g o_a (nI 0) o_ts o_pl o_nf o_ne o_rf o_re o_ac o_cm o_sd o_wf o_sm o_sf o_rm o_rs) ++ (wI g (o_a 1) 48 t_f) ++ (wI g (o_a 8) 12 u_f) ++ (wI g (o_a 9) 15 v_f) ++ (wML g o_a m_pl m_yl m_nd m_hm m_wk m_kd) ++ (wI g (o_a 10) 29 g_f) ++ (wZ g (o_a 14) 2 i_f)) 0 0 (by decide) f_RX6_68 rfl rfl rfl rfl nX6_country_2 rfl (Nat.le_of_ble_eq_true rfl) rfl ?_
  refine V_aload_n nX6_country_5 rfl ?_
  refine V_blk (ws' := ((wO g o_a (nI 0) o_ts o_pl o_nf o_ne o_rf o_re o_ac o_cm o_sd o_wf o_sm o_sf o_rm o_rs) ++ (wI g (o_a 1) 48 t_f) ++ (wI g (o_a 8) 12 u_f) ++ (wI g (o_a 9) 15 v_f)) ++ ((wML g o_a m_pl m_yl m_nd m_hm m_wk m_kd) ++ (wI g (o_a 10) 29 g_f) ++ (wZ g (o_a 14) 2 i_f))) [wO g o_a (nI 0) o_ts o_pl o_nf o_ne o_rf o_re o_ac o_cm o_sd o_wf o_sm o_sf o_rm o_rs, wI g (o_a 1) 48 t_f, wI g (o_a 8) 12 u_f, wI g (o_a 9) 15 v_f, wML g o_a m_pl m_yl m_nd m_hm m_wk m_kd, wI g (o_a 10) 29 g_f, wZ g (o_a 14) 2 i_f] [0, 1, 2, 3, 4, 5, 6] rfl (by simp only [List.flatten_cons, List.flatten_nil, List.append_nil, List.append_assoc]) (by show List.flatten [wO g o_a (nI 0) o_ts o_pl o_nf o_ne o_rf o_re o_ac o_cm o_sd o_wf o_sm o_sf o_rm o_rs, wI g (o_a 1) 48 t_f, wI g (o_a 8) 12 u_f, wI g (o_a 9) 15 v_f, wML g o_a m_pl m_yl m_nd m_hm m_wk m_kd, wI g (o_a 10) 29 g_f, wZ g (o_a 14) 2 i_f] = _; simp only [List.flatten_cons, List.flatten_nil, List.append_nil, List.append_assoc]) ?_
  refine V_cVi (C := (RX6, TX6, 34)) (ci := 6) (ws' := ((wO g o_a (nI 0) o_ts ((rcV t_f o_ts u_f v_f).2.1) o_nf o_ne ((rcV t_f o_ts u_f v_f).2.2.1) ((rcV t_f o_ts u_f v_f).2.2.2.1) o_ac o_cm o_sd o_wf o_sm o_sf o_rm o_rs) ++ (wI g (o_a 1) 48 t_f) ++ (wI g (o_a 8) 12 ((rcV t_f o_ts u_f v_f).2.2.2.2.1)) ++ (wI g (o_a 9) 15 ((rcV t_f o_ts u_f v_f).2.2.2.2.2))) ++ ((wML g o_a m_pl m_yl m_nd m_hm m_wk m_kd) ++ (wI g (o_a 10) 29 g_f) ++ (wZ g (o_a 14) 2 i_f))) (List.range _) 0 X (c_X6_readCountry g l o_a (nI 0) o_ts o_pl o_nf o_ne o_rf o_re o_ac o_cm o_sd o_wf o_sm o_sf o_rm o_rs t_f u_f v_f   (by omega)) k_RX6_110 hy_X6_readCountry (by decide) (range_at _ _) (range_nd _) 0 rfl rfl nX6_country_6 rfl rfl (Nat.le_of_ble_eq_true rfl) (wput_range _ _ _ (by simp only [List.length_append, wI_len, wO_len])) ?_
  refine V_blk (ws' := (wO g o_a (nI 0) o_ts ((rcV t_f o_ts u_f v_f).2.1) o_nf o_ne ((rcV t_f o_ts u_f v_f).2.2.1) ((rcV t_f o_ts u_f v_f).2.2.2.1) o_ac o_cm o_sd o_wf o_sm o_sf o_rm o_rs) ++ (wI g (o_a 1) 48 t_f) ++ (wI g (o_a 8) 12 ((rcV t_f o_ts u_f v_f).2.2.2.2.1)) ++ (wI g (o_a 9) 15 ((rcV t_f o_ts u_f v_f).2.2.2.2.2)) ++ (wML g o_a m_pl m_yl m_nd m_hm m_wk m_kd) ++ (wI g (o_a 10) 29 g_f) ++ (wZ g (o_a 14) 2 i_f)) [wO g o_a (nI 0) o_ts ((rcV t_f o_ts u_f v_f).2.1) o_nf o_ne ((rcV t_f o_ts u_f v_f).2.2.1) ((rcV t_f o_ts u_f v_f).2.2.2.1) o_ac o_cm o_sd o_wf o_sm o_sf o_rm o_rs, wI g (o_a 1) 48 t_f, wI g (o_a 8) 12 ((rcV t_f o_ts u_f v_f).2.2.2.2.1), wI g (o_a 9) 15 ((rcV t_f o_ts u_f v_f).2.2.2.2.2), wML g o_a m_pl m_yl m_nd m_hm m_wk m_kd, wI g (o_a 10) 29 g_f, wZ g (o_a 14) 2 i_f] [0, 1, 2, 3, 4, 5, 6] rfl (by simp only [List.flatten_cons, List.flatten_nil, List.append_nil, List.append_assoc]) (by show List.flatten [wO g o_a (nI 0) o_ts ((rcV t_f o_ts u_f v_f).2.1) o_nf o_ne ((rcV t_f o_ts u_f v_f).2.2.1) ((rcV t_f o_ts u_f v_f).2.2.2.1) o_ac o_cm o_sd o_wf o_sm o_sf o_rm o_rs, wI g (o_a 1) 48 t_f, wI g (o_a 8) 12 ((rcV t_f o_ts u_f v_f).2.2.2.2.1), wI g (o_a 9) 15 ((rcV t_f o_ts u_f v_f).2.2.2.2.2), wML g o_a m_pl m_yl m_nd m_hm m_wk m_kd, wI g (o_a 10) 29 g_f, wZ g (o_a 14) 2 i_f] = _; simp only [List.flatten_cons, List.flatten_nil, List.append_nil, List.append_assoc]) ?_
  refine V_bipush (v := (-9)) nX6_country_9 (by decide) ?_
  refine V_icmp_eq (tgt := 17) nX6_country_11 rfl (fun h11 => ?_) (fun h11 => ?_)
  · skip
    refine V_aload_n nX6_country_17 rfl ?_
    refine V_aload_n nX6_country_18 rfl ?_
    refine V_get6 0 12 (by decide) f_RX6_94 nX6_country_19 rfl rfl ?_
    refine V_put6 (ws' := (wO g o_a (nI 0) o_ts ((rcV t_f o_ts u_f v_f).2.1) ((rcV t_f o_ts u_f v_f).2.2.1) o_ne ((rcV t_f o_ts u_f v_f).2.2.1) ((rcV t_f o_ts u_f v_f).2.2.2.1) o_ac o_cm o_sd o_wf o_sm o_sf o_rm o_rs) ++ (wI g (o_a 1) 48 t_f) ++ (wI g (o_a 8) 12 ((rcV t_f o_ts u_f v_f).2.2.2.2.1)) ++ (wI g (o_a 9) 15 ((rcV t_f o_ts u_f v_f).2.2.2.2.2)) ++ (wML g o_a m_pl m_yl m_nd m_hm m_wk m_kd) ++ (wI g (o_a 10) 29 g_f) ++ (wZ g (o_a 14) 2 i_f)) 0 4 (by decide) f_RX6_72 rfl rfl rfl rfl nX6_country_22 rfl (Nat.le_of_ble_eq_true rfl) rfl ?_
    refine V_aload_n nX6_country_25 rfl ?_
    refine V_aload_n nX6_country_26 rfl ?_
    refine V_get6 0 14 (by decide) f_RX6_97 nX6_country_27 rfl rfl ?_
    refine V_put6 (ws' := (wO g o_a (nI 0) o_ts ((rcV t_f o_ts u_f v_f).2.1) ((rcV t_f o_ts u_f v_f).2.2.1) ((rcV t_f o_ts u_f v_f).2.2.2.1) ((rcV t_f o_ts u_f v_f).2.2.1) ((rcV t_f o_ts u_f v_f).2.2.2.1) o_ac o_cm o_sd o_wf o_sm o_sf o_rm o_rs) ++ (wI g (o_a 1) 48 t_f) ++ (wI g (o_a 8) 12 ((rcV t_f o_ts u_f v_f).2.2.2.2.1)) ++ (wI g (o_a 9) 15 ((rcV t_f o_ts u_f v_f).2.2.2.2.2)) ++ (wML g o_a m_pl m_yl m_nd m_hm m_wk m_kd) ++ (wI g (o_a 10) 29 g_f) ++ (wZ g (o_a 14) 2 i_f)) 0 8 (by decide) f_RX6_79 rfl rfl rfl rfl nX6_country_30 rfl (Nat.le_of_ble_eq_true rfl) rfl ?_
    refine V_iconst (v := (nI 0)) nX6_country_33 rfl ?_
    refine V_istore_n (lv' := [(0, .ref (o_a 0)), (1, .int (nI 0))]) nX6_country_34 (by decide) rfl ?_
    have L35 : ∀ (n : Nat) (i : Nat), 29 - i < n → i ≤ 29 → V g E mX6_country A Q 0 0 ((wO g o_a (nI 0) o_ts ((rcV t_f o_ts u_f v_f).2.1) ((rcV t_f o_ts u_f v_f).2.2.1) ((rcV t_f o_ts u_f v_f).2.2.2.1) ((rcV t_f o_ts u_f v_f).2.2.1) ((rcV t_f o_ts u_f v_f).2.2.2.1) o_ac o_cm o_sd o_wf o_sm o_sf o_rm o_rs) ++ (wI g (o_a 1) 48 t_f) ++ (wI g (o_a 8) 12 ((rcV t_f o_ts u_f v_f).2.2.2.2.1)) ++ (wI g (o_a 9) 15 ((rcV t_f o_ts u_f v_f).2.2.2.2.2)) ++ (wML g o_a m_pl m_yl m_nd m_hm m_wk m_kd) ++ (wI g (o_a 10) 29 (fillI (fun _ => nI 0) g_f i)) ++ (wZ g (o_a 14) 2 i_f)) 35 [(0, .ref (o_a 0)), (1, .int (nI i))] [] := by
      intro n
      induction n with
      | zero => intro i hm; exact absurd hm (Nat.not_lt_zero _)
      | succ n ih =>
        intro i hm hi
        refine V_iload_n nX6_country_35 rfl ?_
        refine V_bipush (v := (nI 29)) nX6_country_36 (by decide) ?_
        refine V_icmp_ge_N (tgt := 54) nX6_country_38 rfl (by omega) (by omega) (fun h38 => ?_) (fun h38 => ?_)
        · skip
          have hx_i : 29 = i := by omega
          subst hx_i
          refine V_arr (f' := (fun _ => nI 0)) (ws' := (wO g o_a (nI 0) o_ts ((rcV t_f o_ts u_f v_f).2.1) ((rcV t_f o_ts u_f v_f).2.2.1) ((rcV t_f o_ts u_f v_f).2.2.2.1) ((rcV t_f o_ts u_f v_f).2.2.1) ((rcV t_f o_ts u_f v_f).2.2.2.1) o_ac o_cm o_sd o_wf o_sm o_sf o_rm o_rs) ++ (wI g (o_a 1) 48 t_f) ++ (wI g (o_a 8) 12 ((rcV t_f o_ts u_f v_f).2.2.2.2.1)) ++ (wI g (o_a 9) 15 ((rcV t_f o_ts u_f v_f).2.2.2.2.2)) ++ (wML g o_a m_pl m_yl m_nd m_hm m_wk m_kd) ++ (wI g (o_a 10) 29 (fun _ => nI 0)) ++ (wZ g (o_a 14) 2 i_f)) 10 rfl (fun j hj => fillI_lt _ _ _ j hj) rfl ?_
          refine V_iconst (v := (nI 0)) nX6_country_54 rfl ?_
          refine V_istore_n (lv' := [(0, .ref (o_a 0)), (1, .int (nI 0))]) nX6_country_55 (by decide) rfl ?_
          have L56 : ∀ (n : Nat) (i : Nat), (rcV t_f o_ts u_f v_f).2.2.1 - i < n → i ≤ (rcV t_f o_ts u_f v_f).2.2.1 → V g E mX6_country A Q 0 0 ((wO g o_a (nI 0) o_ts ((rcV t_f o_ts u_f v_f).2.1) ((rcV t_f o_ts u_f v_f).2.2.1) ((rcV t_f o_ts u_f v_f).2.2.2.1) ((rcV t_f o_ts u_f v_f).2.2.1) ((rcV t_f o_ts u_f v_f).2.2.2.1) o_ac o_cm o_sd o_wf o_sm o_sf o_rm o_rs) ++ (wI g (o_a 1) 48 t_f) ++ (wI g (o_a 8) 12 ((rcV t_f o_ts u_f v_f).2.2.2.2.1)) ++ (wI g (o_a 9) 15 ((rcV t_f o_ts u_f v_f).2.2.2.2.2)) ++ (wML g o_a (fillI (fun f => (rcV t_f o_ts u_f v_f).2.2.2.2.1 (3 * f)) m_pl i) (fillI (fun f => (rcV t_f o_ts u_f v_f).2.2.2.2.1 (3 * f + 1)) m_yl i) (fillI (fun f => (rcV t_f o_ts u_f v_f).2.2.2.2.1 (3 * f + 2)) m_nd i) m_hm m_wk m_kd) ++ (wI g (o_a 10) 29 (fillI (fun f => (rcV t_f o_ts u_f v_f).2.2.2.2.1 (3 * f + 1)) (fun _ => nI 0) i)) ++ (wZ g (o_a 14) 2 i_f)) 56 [(0, .ref (o_a 0)), (1, .int (nI i))] [] := by
            intro n
            induction n with
            | zero => intro i hm; exact absurd hm (Nat.not_lt_zero _)
            | succ n ih =>
              intro i hm hi
              refine V_iload_n nX6_country_56 rfl ?_
              refine V_aload_n nX6_country_57 rfl ?_
              refine V_get6 0 4 (by decide) f_RX6_72 nX6_country_58 rfl rfl ?_
              refine V_icmp_ge_N (tgt := 128) nX6_country_61 rfl (by omega) (by omega) (fun h61 => ?_) (fun h61 => ?_)
              · skip
                have hx_i : i = (rcV t_f o_ts u_f v_f).2.2.1 := by omega
                subst hx_i
                refine V_iconst (v := (nI 0)) nX6_country_128 rfl ?_
                refine V_istore_n (lv' := [(0, .ref (o_a 0)), (1, .int (nI 0))]) nX6_country_129 (by decide) rfl ?_
                have L130 : ∀ (n : Nat) (i : Nat), (rcV t_f o_ts u_f v_f).2.2.2.1 - i < n → i ≤ (rcV t_f o_ts u_f v_f).2.2.2.1 → V g E mX6_country A Q 0 0 ((wO g o_a (nI 0) o_ts ((rcV t_f o_ts u_f v_f).2.1) ((rcV t_f o_ts u_f v_f).2.2.1) ((rcV t_f o_ts u_f v_f).2.2.2.1) ((rcV t_f o_ts u_f v_f).2.2.1) ((rcV t_f o_ts u_f v_f).2.2.2.1) o_ac o_cm o_sd o_wf o_sm o_sf o_rm o_rs) ++ (wI g (o_a 1) 48 t_f) ++ (wI g (o_a 8) 12 ((rcV t_f o_ts u_f v_f).2.2.2.2.1)) ++ (wI g (o_a 9) 15 ((rcV t_f o_ts u_f v_f).2.2.2.2.2)) ++ (wML g o_a (fillI (fun f => (rcV t_f o_ts u_f v_f).2.2.2.2.1 (3 * f)) m_pl ((rcV t_f o_ts u_f v_f).2.2.1)) (fillI (fun f => (rcV t_f o_ts u_f v_f).2.2.2.2.1 (3 * f + 1)) m_yl ((rcV t_f o_ts u_f v_f).2.2.1)) (fillI (fun f => (rcV t_f o_ts u_f v_f).2.2.2.2.1 (3 * f + 2)) m_nd ((rcV t_f o_ts u_f v_f).2.2.1)) (fillI (fun f => (rcV t_f o_ts u_f v_f).2.2.2.2.2 (3 * f)) m_hm i) (fillI (fun f => (rcV t_f o_ts u_f v_f).2.2.2.2.2 (3 * f + 1)) m_wk i) (fillI (fun f => (rcV t_f o_ts u_f v_f).2.2.2.2.2 (3 * f + 2)) m_kd i)) ++ (wI g (o_a 10) 29 (fillI (fun f => (rcV t_f o_ts u_f v_f).2.2.2.2.1 (3 * f + 1)) (fun _ => nI 0) ((rcV t_f o_ts u_f v_f).2.2.1))) ++ (wZ g (o_a 14) 2 i_f)) 130 [(0, .ref (o_a 0)), (1, .int (nI i))] [] := by
                  intro n
                  induction n with
                  | zero => intro i hm; exact absurd hm (Nat.not_lt_zero _)
                  | succ n ih =>
                    intro i hm hi
                    refine V_iload_n nX6_country_130 rfl ?_
                    refine V_aload_n nX6_country_131 rfl ?_
                    refine V_get6 0 8 (by decide) f_RX6_79 nX6_country_132 rfl rfl ?_
                    refine V_icmp_ge_N (tgt := 190) nX6_country_135 rfl (by omega) (by omega) (fun h135 => ?_) (fun h135 => ?_)
                    · skip
                      have hx_i : i = (rcV t_f o_ts u_f v_f).2.2.2.1 := by omega
                      subst hx_i
                      refine V_aload_n nX6_country_190 rfl ?_
                      refine V_iconst (v := (nI 0)) nX6_country_191 rfl ?_
                      refine V_put6 (ws' := (wO g o_a (nI 0) o_ts ((rcV t_f o_ts u_f v_f).2.1) ((rcV t_f o_ts u_f v_f).2.2.1) ((rcV t_f o_ts u_f v_f).2.2.2.1) ((rcV t_f o_ts u_f v_f).2.2.1) ((rcV t_f o_ts u_f v_f).2.2.2.1) 0 o_cm o_sd o_wf o_sm o_sf o_rm o_rs) ++ (wI g (o_a 1) 48 t_f) ++ (wI g (o_a 8) 12 ((rcV t_f o_ts u_f v_f).2.2.2.2.1)) ++ (wI g (o_a 9) 15 ((rcV t_f o_ts u_f v_f).2.2.2.2.2)) ++ (wML g o_a (fillI (fun f => (rcV t_f o_ts u_f v_f).2.2.2.2.1 (3 * f)) m_pl ((rcV t_f o_ts u_f v_f).2.2.1)) (fillI (fun f => (rcV t_f o_ts u_f v_f).2.2.2.2.1 (3 * f + 1)) m_yl ((rcV t_f o_ts u_f v_f).2.2.1)) (fillI (fun f => (rcV t_f o_ts u_f v_f).2.2.2.2.1 (3 * f + 2)) m_nd ((rcV t_f o_ts u_f v_f).2.2.1)) (fillI (fun f => (rcV t_f o_ts u_f v_f).2.2.2.2.2 (3 * f)) m_hm ((rcV t_f o_ts u_f v_f).2.2.2.1)) (fillI (fun f => (rcV t_f o_ts u_f v_f).2.2.2.2.2 (3 * f + 1)) m_wk ((rcV t_f o_ts u_f v_f).2.2.2.1)) (fillI (fun f => (rcV t_f o_ts u_f v_f).2.2.2.2.2 (3 * f + 2)) m_kd ((rcV t_f o_ts u_f v_f).2.2.2.1))) ++ (wI g (o_a 10) 29 (fillI (fun f => (rcV t_f o_ts u_f v_f).2.2.2.2.1 (3 * f + 1)) (fun _ => nI 0) ((rcV t_f o_ts u_f v_f).2.2.1))) ++ (wZ g (o_a 14) 2 i_f)) 0 19 (by decide) f_RX6_114 rfl rfl rfl rfl nX6_country_192 rfl (Nat.le_of_ble_eq_true rfl) rfl ?_
                      refine V_aload_n nX6_country_195 rfl ?_
                      refine V_get6 0 21 (by decide) f_RX6_49 nX6_country_196 rfl rfl ?_
                      refine V_iconst (v := (nI 0)) nX6_country_199 rfl ?_
                      refine V_iconst (v := (nI 0)) nX6_country_200 rfl ?_
                      refine V_topb (b := false) rfl ?_
                      refine V_zast (ws' := (wO g o_a (nI 0) o_ts ((rcV t_f o_ts u_f v_f).2.1) ((rcV t_f o_ts u_f v_f).2.2.1) ((rcV t_f o_ts u_f v_f).2.2.2.1) ((rcV t_f o_ts u_f v_f).2.2.1) ((rcV t_f o_ts u_f v_f).2.2.2.1) 0 o_cm o_sd o_wf o_sm o_sf o_rm o_rs) ++ (wI g (o_a 1) 48 t_f) ++ (wI g (o_a 8) 12 ((rcV t_f o_ts u_f v_f).2.2.2.2.1)) ++ (wI g (o_a 9) 15 ((rcV t_f o_ts u_f v_f).2.2.2.2.2)) ++ (wML g o_a (fillI (fun f => (rcV t_f o_ts u_f v_f).2.2.2.2.1 (3 * f)) m_pl ((rcV t_f o_ts u_f v_f).2.2.1)) (fillI (fun f => (rcV t_f o_ts u_f v_f).2.2.2.2.1 (3 * f + 1)) m_yl ((rcV t_f o_ts u_f v_f).2.2.1)) (fillI (fun f => (rcV t_f o_ts u_f v_f).2.2.2.2.1 (3 * f + 2)) m_nd ((rcV t_f o_ts u_f v_f).2.2.1)) (fillI (fun f => (rcV t_f o_ts u_f v_f).2.2.2.2.2 (3 * f)) m_hm ((rcV t_f o_ts u_f v_f).2.2.2.1)) (fillI (fun f => (rcV t_f o_ts u_f v_f).2.2.2.2.2 (3 * f + 1)) m_wk ((rcV t_f o_ts u_f v_f).2.2.2.1)) (fillI (fun f => (rcV t_f o_ts u_f v_f).2.2.2.2.2 (3 * f + 2)) m_kd ((rcV t_f o_ts u_f v_f).2.2.2.1))) ++ (wI g (o_a 10) 29 (fillI (fun f => (rcV t_f o_ts u_f v_f).2.2.2.2.1 (3 * f + 1)) (fun _ => nI 0) ((rcV t_f o_ts u_f v_f).2.2.1))) ++ (wZ g (o_a 14) 2 (upd i_f 0 (bI false)))) 11 nX6_country_201 rfl (by omega) (by decide) rfl ?_
                      refine V_aload_n nX6_country_202 rfl ?_
                      refine V_get6 0 21 (by decide) f_RX6_49 nX6_country_203 rfl rfl ?_
                      refine V_iconst (v := (nI 1)) nX6_country_206 rfl ?_
                      refine V_iconst (v := (nI 0)) nX6_country_207 rfl ?_
                      refine V_topb (b := false) rfl ?_
                      refine V_zast (ws' := (wO g o_a (nI 0) o_ts ((rcV t_f o_ts u_f v_f).2.1) ((rcV t_f o_ts u_f v_f).2.2.1) ((rcV t_f o_ts u_f v_f).2.2.2.1) ((rcV t_f o_ts u_f v_f).2.2.1) ((rcV t_f o_ts u_f v_f).2.2.2.1) 0 o_cm o_sd o_wf o_sm o_sf o_rm o_rs) ++ (wI g (o_a 1) 48 t_f) ++ (wI g (o_a 8) 12 ((rcV t_f o_ts u_f v_f).2.2.2.2.1)) ++ (wI g (o_a 9) 15 ((rcV t_f o_ts u_f v_f).2.2.2.2.2)) ++ (wML g o_a (fillI (fun f => (rcV t_f o_ts u_f v_f).2.2.2.2.1 (3 * f)) m_pl ((rcV t_f o_ts u_f v_f).2.2.1)) (fillI (fun f => (rcV t_f o_ts u_f v_f).2.2.2.2.1 (3 * f + 1)) m_yl ((rcV t_f o_ts u_f v_f).2.2.1)) (fillI (fun f => (rcV t_f o_ts u_f v_f).2.2.2.2.1 (3 * f + 2)) m_nd ((rcV t_f o_ts u_f v_f).2.2.1)) (fillI (fun f => (rcV t_f o_ts u_f v_f).2.2.2.2.2 (3 * f)) m_hm ((rcV t_f o_ts u_f v_f).2.2.2.1)) (fillI (fun f => (rcV t_f o_ts u_f v_f).2.2.2.2.2 (3 * f + 1)) m_wk ((rcV t_f o_ts u_f v_f).2.2.2.1)) (fillI (fun f => (rcV t_f o_ts u_f v_f).2.2.2.2.2 (3 * f + 2)) m_kd ((rcV t_f o_ts u_f v_f).2.2.2.1))) ++ (wI g (o_a 10) 29 (fillI (fun f => (rcV t_f o_ts u_f v_f).2.2.2.2.1 (3 * f + 1)) (fun _ => nI 0) ((rcV t_f o_ts u_f v_f).2.2.1))) ++ (wZ g (o_a 14) 2 (upd (upd i_f 0 (bI false)) 1 (bI false)))) 11 nX6_country_208 rfl (by omega) (by decide) rfl ?_
                      refine V_arr (f' := (fun _ => bI false)) (ws' := (wO g o_a (nI 0) o_ts ((rcV t_f o_ts u_f v_f).2.1) ((rcV t_f o_ts u_f v_f).2.2.1) ((rcV t_f o_ts u_f v_f).2.2.2.1) ((rcV t_f o_ts u_f v_f).2.2.1) ((rcV t_f o_ts u_f v_f).2.2.2.1) 0 o_cm o_sd o_wf o_sm o_sf o_rm o_rs) ++ (wI g (o_a 1) 48 t_f) ++ (wI g (o_a 8) 12 ((rcV t_f o_ts u_f v_f).2.2.2.2.1)) ++ (wI g (o_a 9) 15 ((rcV t_f o_ts u_f v_f).2.2.2.2.2)) ++ (wML g o_a (fillI (fun f => (rcV t_f o_ts u_f v_f).2.2.2.2.1 (3 * f)) m_pl ((rcV t_f o_ts u_f v_f).2.2.1)) (fillI (fun f => (rcV t_f o_ts u_f v_f).2.2.2.2.1 (3 * f + 1)) m_yl ((rcV t_f o_ts u_f v_f).2.2.1)) (fillI (fun f => (rcV t_f o_ts u_f v_f).2.2.2.2.1 (3 * f + 2)) m_nd ((rcV t_f o_ts u_f v_f).2.2.1)) (fillI (fun f => (rcV t_f o_ts u_f v_f).2.2.2.2.2 (3 * f)) m_hm ((rcV t_f o_ts u_f v_f).2.2.2.1)) (fillI (fun f => (rcV t_f o_ts u_f v_f).2.2.2.2.2 (3 * f + 1)) m_wk ((rcV t_f o_ts u_f v_f).2.2.2.1)) (fillI (fun f => (rcV t_f o_ts u_f v_f).2.2.2.2.2 (3 * f + 2)) m_kd ((rcV t_f o_ts u_f v_f).2.2.2.1))) ++ (wI g (o_a 10) 29 (fillI (fun f => (rcV t_f o_ts u_f v_f).2.2.2.2.1 (3 * f + 1)) (fun _ => nI 0) ((rcV t_f o_ts u_f v_f).2.2.1))) ++ (wZ g (o_a 14) 2 (fun _ => bI false))) 11 rfl (fun j hj => by rcases (show j = 0 ∨ j = 1 by omega) with rfl | rfl <;> rfl) rfl ?_
                      refine V_bipush (v := (nI 10)) nX6_country_209 (by decide) ?_
                      refine V_aload_n nX6_country_211 rfl ?_
                      refine V_get6 0 4 (by decide) f_RX6_72 nX6_country_212 rfl rfl ?_
                      refine V_imul (v := nI (10 * ((rcV t_f o_ts u_f v_f).2.2.1))) nX6_country_215 (pk_mul 10 ((rcV t_f o_ts u_f v_f).2.2.1)) ?_
                      refine V_aload_n nX6_country_216 rfl ?_
                      refine V_get6 0 8 (by decide) f_RX6_79 nX6_country_217 rfl rfl ?_
                      refine V_iadd (v := nI ((10 * ((rcV t_f o_ts u_f v_f).2.2.1)) + ((rcV t_f o_ts u_f v_f).2.2.2.1))) nX6_country_220 (nI_add (10 * ((rcV t_f o_ts u_f v_f).2.2.1)) ((rcV t_f o_ts u_f v_f).2.2.2.1)) ?_
                      exact R_i rfl X hQ nX6_country_221 (by simp only [List.map_append, wI_fst, wML_fst, wO_fst, wZ_fst]) (⟨rfl, rfl⟩)
                    · skip
                      refine V_aload_n nX6_country_138 rfl ?_
                      refine V_get6 0 9 (by decide) f_RX6_22 nX6_country_139 rfl rfl ?_
                      refine V_iload_n nX6_country_142 rfl ?_
                      refine V_aload_n nX6_country_143 rfl ?_
                      refine V_get6 0 15 (by decide) f_RX6_34 nX6_country_144 rfl rfl ?_
                      refine V_iconst (v := (nI 3)) nX6_country_147 rfl ?_
                      refine V_iload_n nX6_country_148 rfl ?_
                      refine V_imul (v := nI (3 * i)) nX6_country_149 (pk_mul 3 i) ?_
                      refine V_iald 3 nX6_country_150 rfl (by omega) (by decide) rfl ?_
                      refine V_iast (ws' := (wO g o_a (nI 0) o_ts ((rcV t_f o_ts u_f v_f).2.1) ((rcV t_f o_ts u_f v_f).2.2.1) ((rcV t_f o_ts u_f v_f).2.2.2.1) ((rcV t_f o_ts u_f v_f).2.2.1) ((rcV t_f o_ts u_f v_f).2.2.2.1) o_ac o_cm o_sd o_wf o_sm o_sf o_rm o_rs) ++ (wI g (o_a 1) 48 t_f) ++ (wI g (o_a 8) 12 ((rcV t_f o_ts u_f v_f).2.2.2.2.1)) ++ (wI g (o_a 9) 15 ((rcV t_f o_ts u_f v_f).2.2.2.2.2)) ++ (wML g o_a (fillI (fun f => (rcV t_f o_ts u_f v_f).2.2.2.2.1 (3 * f)) m_pl ((rcV t_f o_ts u_f v_f).2.2.1)) (fillI (fun f => (rcV t_f o_ts u_f v_f).2.2.2.2.1 (3 * f + 1)) m_yl ((rcV t_f o_ts u_f v_f).2.2.1)) (fillI (fun f => (rcV t_f o_ts u_f v_f).2.2.2.2.1 (3 * f + 2)) m_nd ((rcV t_f o_ts u_f v_f).2.2.1)) (upd (fillI (fun f => (rcV t_f o_ts u_f v_f).2.2.2.2.2 (3 * f)) m_hm i) i (((rcV t_f o_ts u_f v_f).2.2.2.2.2) (3 * i))) (fillI (fun f => (rcV t_f o_ts u_f v_f).2.2.2.2.2 (3 * f + 1)) m_wk i) (fillI (fun f => (rcV t_f o_ts u_f v_f).2.2.2.2.2 (3 * f + 2)) m_kd i)) ++ (wI g (o_a 10) 29 (fillI (fun f => (rcV t_f o_ts u_f v_f).2.2.2.2.1 (3 * f + 1)) (fun _ => nI 0) ((rcV t_f o_ts u_f v_f).2.2.1))) ++ (wZ g (o_a 14) 2 i_f)) 7 nX6_country_151 rfl (by omega) (by decide) rfl ?_
                      refine V_aload_n nX6_country_152 rfl ?_
                      refine V_get6 0 10 (by decide) f_RX6_25 nX6_country_153 rfl rfl ?_
                      refine V_iload_n nX6_country_156 rfl ?_
                      refine V_aload_n nX6_country_157 rfl ?_
                      refine V_get6 0 15 (by decide) f_RX6_34 nX6_country_158 rfl rfl ?_
                      refine V_iconst (v := (nI 3)) nX6_country_161 rfl ?_
                      refine V_iload_n nX6_country_162 rfl ?_
                      refine V_imul (v := nI (3 * i)) nX6_country_163 (pk_mul 3 i) ?_
                      refine V_iconst (v := (nI 1)) nX6_country_164 rfl ?_
                      refine V_iadd (v := nI ((3 * i) + 1)) nX6_country_165 (nI_add (3 * i) 1) ?_
                      refine V_iald 3 nX6_country_166 rfl (by omega) (by decide) rfl ?_
                      refine V_iast (ws' := (wO g o_a (nI 0) o_ts ((rcV t_f o_ts u_f v_f).2.1) ((rcV t_f o_ts u_f v_f).2.2.1) ((rcV t_f o_ts u_f v_f).2.2.2.1) ((rcV t_f o_ts u_f v_f).2.2.1) ((rcV t_f o_ts u_f v_f).2.2.2.1) o_ac o_cm o_sd o_wf o_sm o_sf o_rm o_rs) ++ (wI g (o_a 1) 48 t_f) ++ (wI g (o_a 8) 12 ((rcV t_f o_ts u_f v_f).2.2.2.2.1)) ++ (wI g (o_a 9) 15 ((rcV t_f o_ts u_f v_f).2.2.2.2.2)) ++ (wML g o_a (fillI (fun f => (rcV t_f o_ts u_f v_f).2.2.2.2.1 (3 * f)) m_pl ((rcV t_f o_ts u_f v_f).2.2.1)) (fillI (fun f => (rcV t_f o_ts u_f v_f).2.2.2.2.1 (3 * f + 1)) m_yl ((rcV t_f o_ts u_f v_f).2.2.1)) (fillI (fun f => (rcV t_f o_ts u_f v_f).2.2.2.2.1 (3 * f + 2)) m_nd ((rcV t_f o_ts u_f v_f).2.2.1)) (upd (fillI (fun f => (rcV t_f o_ts u_f v_f).2.2.2.2.2 (3 * f)) m_hm i) i (((rcV t_f o_ts u_f v_f).2.2.2.2.2) (3 * i))) (upd (fillI (fun f => (rcV t_f o_ts u_f v_f).2.2.2.2.2 (3 * f + 1)) m_wk i) i (((rcV t_f o_ts u_f v_f).2.2.2.2.2) ((3 * i) + 1))) (fillI (fun f => (rcV t_f o_ts u_f v_f).2.2.2.2.2 (3 * f + 2)) m_kd i)) ++ (wI g (o_a 10) 29 (fillI (fun f => (rcV t_f o_ts u_f v_f).2.2.2.2.1 (3 * f + 1)) (fun _ => nI 0) ((rcV t_f o_ts u_f v_f).2.2.1))) ++ (wZ g (o_a 14) 2 i_f)) 8 nX6_country_167 rfl (by omega) (by decide) rfl ?_
                      refine V_aload_n nX6_country_168 rfl ?_
                      refine V_get6 0 11 (by decide) f_RX6_28 nX6_country_169 rfl rfl ?_
                      refine V_iload_n nX6_country_172 rfl ?_
                      refine V_aload_n nX6_country_173 rfl ?_
                      refine V_get6 0 15 (by decide) f_RX6_34 nX6_country_174 rfl rfl ?_
                      refine V_iconst (v := (nI 3)) nX6_country_177 rfl ?_
                      refine V_iload_n nX6_country_178 rfl ?_
                      refine V_imul (v := nI (3 * i)) nX6_country_179 (pk_mul 3 i) ?_
                      refine V_iconst (v := (nI 2)) nX6_country_180 rfl ?_
                      refine V_iadd (v := nI ((3 * i) + 2)) nX6_country_181 (nI_add (3 * i) 2) ?_
                      refine V_iald 3 nX6_country_182 rfl (by omega) (by decide) rfl ?_
                      refine V_iast (ws' := (wO g o_a (nI 0) o_ts ((rcV t_f o_ts u_f v_f).2.1) ((rcV t_f o_ts u_f v_f).2.2.1) ((rcV t_f o_ts u_f v_f).2.2.2.1) ((rcV t_f o_ts u_f v_f).2.2.1) ((rcV t_f o_ts u_f v_f).2.2.2.1) o_ac o_cm o_sd o_wf o_sm o_sf o_rm o_rs) ++ (wI g (o_a 1) 48 t_f) ++ (wI g (o_a 8) 12 ((rcV t_f o_ts u_f v_f).2.2.2.2.1)) ++ (wI g (o_a 9) 15 ((rcV t_f o_ts u_f v_f).2.2.2.2.2)) ++ (wML g o_a (fillI (fun f => (rcV t_f o_ts u_f v_f).2.2.2.2.1 (3 * f)) m_pl ((rcV t_f o_ts u_f v_f).2.2.1)) (fillI (fun f => (rcV t_f o_ts u_f v_f).2.2.2.2.1 (3 * f + 1)) m_yl ((rcV t_f o_ts u_f v_f).2.2.1)) (fillI (fun f => (rcV t_f o_ts u_f v_f).2.2.2.2.1 (3 * f + 2)) m_nd ((rcV t_f o_ts u_f v_f).2.2.1)) (upd (fillI (fun f => (rcV t_f o_ts u_f v_f).2.2.2.2.2 (3 * f)) m_hm i) i (((rcV t_f o_ts u_f v_f).2.2.2.2.2) (3 * i))) (upd (fillI (fun f => (rcV t_f o_ts u_f v_f).2.2.2.2.2 (3 * f + 1)) m_wk i) i (((rcV t_f o_ts u_f v_f).2.2.2.2.2) ((3 * i) + 1))) (upd (fillI (fun f => (rcV t_f o_ts u_f v_f).2.2.2.2.2 (3 * f + 2)) m_kd i) i (((rcV t_f o_ts u_f v_f).2.2.2.2.2) ((3 * i) + 2)))) ++ (wI g (o_a 10) 29 (fillI (fun f => (rcV t_f o_ts u_f v_f).2.2.2.2.1 (3 * f + 1)) (fun _ => nI 0) ((rcV t_f o_ts u_f v_f).2.2.1))) ++ (wZ g (o_a 14) 2 i_f)) 9 nX6_country_183 rfl (by omega) (by decide) rfl ?_
                      refine V_iinc (v := nI (i + 1)) (lv' := [(0, .ref (o_a 0)), (1, .int (nI (i + 1)))]) nX6_country_184 rfl (nI_add i 1) (by decide) rfl ?_
                      refine V_goto (tgt := 130) nX6_country_187 rfl ?_
                      exact ih (i + 1) (by omega) (by omega)
                exact L130 _ 0 (Nat.lt_succ_self _) (by omega)
              · skip
                refine V_aload_n nX6_country_64 rfl ?_
                refine V_get6 0 5 (by decide) f_RX6_13 nX6_country_65 rfl rfl ?_
                refine V_iload_n nX6_country_68 rfl ?_
                refine V_aload_n nX6_country_69 rfl ?_
                refine V_get6 0 13 (by decide) f_RX6_31 nX6_country_70 rfl rfl ?_
                refine V_iconst (v := (nI 3)) nX6_country_73 rfl ?_
                refine V_iload_n nX6_country_74 rfl ?_
                refine V_imul (v := nI (3 * i)) nX6_country_75 (pk_mul 3 i) ?_
                refine V_iald 2 nX6_country_76 rfl (by omega) (by decide) rfl ?_
                refine V_iast (ws' := (wO g o_a (nI 0) o_ts ((rcV t_f o_ts u_f v_f).2.1) ((rcV t_f o_ts u_f v_f).2.2.1) ((rcV t_f o_ts u_f v_f).2.2.2.1) ((rcV t_f o_ts u_f v_f).2.2.1) ((rcV t_f o_ts u_f v_f).2.2.2.1) o_ac o_cm o_sd o_wf o_sm o_sf o_rm o_rs) ++ (wI g (o_a 1) 48 t_f) ++ (wI g (o_a 8) 12 ((rcV t_f o_ts u_f v_f).2.2.2.2.1)) ++ (wI g (o_a 9) 15 ((rcV t_f o_ts u_f v_f).2.2.2.2.2)) ++ (wML g o_a (upd (fillI (fun f => (rcV t_f o_ts u_f v_f).2.2.2.2.1 (3 * f)) m_pl i) i (((rcV t_f o_ts u_f v_f).2.2.2.2.1) (3 * i))) (fillI (fun f => (rcV t_f o_ts u_f v_f).2.2.2.2.1 (3 * f + 1)) m_yl i) (fillI (fun f => (rcV t_f o_ts u_f v_f).2.2.2.2.1 (3 * f + 2)) m_nd i) m_hm m_wk m_kd) ++ (wI g (o_a 10) 29 (fillI (fun f => (rcV t_f o_ts u_f v_f).2.2.2.2.1 (3 * f + 1)) (fun _ => nI 0) i)) ++ (wZ g (o_a 14) 2 i_f)) 4 nX6_country_77 rfl (by omega) (by decide) rfl ?_
                refine V_aload_n nX6_country_78 rfl ?_
                refine V_get6 0 6 (by decide) f_RX6_16 nX6_country_79 rfl rfl ?_
                refine V_iload_n nX6_country_82 rfl ?_
                refine V_aload_n nX6_country_83 rfl ?_
                refine V_get6 0 13 (by decide) f_RX6_31 nX6_country_84 rfl rfl ?_
                refine V_iconst (v := (nI 3)) nX6_country_87 rfl ?_
                refine V_iload_n nX6_country_88 rfl ?_
                refine V_imul (v := nI (3 * i)) nX6_country_89 (pk_mul 3 i) ?_
                refine V_iconst (v := (nI 1)) nX6_country_90 rfl ?_
                refine V_iadd (v := nI ((3 * i) + 1)) nX6_country_91 (nI_add (3 * i) 1) ?_
                refine V_iald 2 nX6_country_92 rfl (by omega) (by decide) rfl ?_
                refine V_iast (ws' := (wO g o_a (nI 0) o_ts ((rcV t_f o_ts u_f v_f).2.1) ((rcV t_f o_ts u_f v_f).2.2.1) ((rcV t_f o_ts u_f v_f).2.2.2.1) ((rcV t_f o_ts u_f v_f).2.2.1) ((rcV t_f o_ts u_f v_f).2.2.2.1) o_ac o_cm o_sd o_wf o_sm o_sf o_rm o_rs) ++ (wI g (o_a 1) 48 t_f) ++ (wI g (o_a 8) 12 ((rcV t_f o_ts u_f v_f).2.2.2.2.1)) ++ (wI g (o_a 9) 15 ((rcV t_f o_ts u_f v_f).2.2.2.2.2)) ++ (wML g o_a (upd (fillI (fun f => (rcV t_f o_ts u_f v_f).2.2.2.2.1 (3 * f)) m_pl i) i (((rcV t_f o_ts u_f v_f).2.2.2.2.1) (3 * i))) (upd (fillI (fun f => (rcV t_f o_ts u_f v_f).2.2.2.2.1 (3 * f + 1)) m_yl i) i (((rcV t_f o_ts u_f v_f).2.2.2.2.1) ((3 * i) + 1))) (fillI (fun f => (rcV t_f o_ts u_f v_f).2.2.2.2.1 (3 * f + 2)) m_nd i) m_hm m_wk m_kd) ++ (wI g (o_a 10) 29 (fillI (fun f => (rcV t_f o_ts u_f v_f).2.2.2.2.1 (3 * f + 1)) (fun _ => nI 0) i)) ++ (wZ g (o_a 14) 2 i_f)) 5 nX6_country_93 rfl (by omega) (by decide) rfl ?_
                refine V_aload_n nX6_country_94 rfl ?_
                refine V_get6 0 7 (by decide) f_RX6_19 nX6_country_95 rfl rfl ?_
                refine V_iload_n nX6_country_98 rfl ?_
                refine V_aload_n nX6_country_99 rfl ?_
                refine V_get6 0 13 (by decide) f_RX6_31 nX6_country_100 rfl rfl ?_
                refine V_iconst (v := (nI 3)) nX6_country_103 rfl ?_
                refine V_iload_n nX6_country_104 rfl ?_
                refine V_imul (v := nI (3 * i)) nX6_country_105 (pk_mul 3 i) ?_
                refine V_iconst (v := (nI 2)) nX6_country_106 rfl ?_
                refine V_iadd (v := nI ((3 * i) + 2)) nX6_country_107 (nI_add (3 * i) 2) ?_
                refine V_iald 2 nX6_country_108 rfl (by omega) (by decide) rfl ?_
                refine V_iast (ws' := (wO g o_a (nI 0) o_ts ((rcV t_f o_ts u_f v_f).2.1) ((rcV t_f o_ts u_f v_f).2.2.1) ((rcV t_f o_ts u_f v_f).2.2.2.1) ((rcV t_f o_ts u_f v_f).2.2.1) ((rcV t_f o_ts u_f v_f).2.2.2.1) o_ac o_cm o_sd o_wf o_sm o_sf o_rm o_rs) ++ (wI g (o_a 1) 48 t_f) ++ (wI g (o_a 8) 12 ((rcV t_f o_ts u_f v_f).2.2.2.2.1)) ++ (wI g (o_a 9) 15 ((rcV t_f o_ts u_f v_f).2.2.2.2.2)) ++ (wML g o_a (upd (fillI (fun f => (rcV t_f o_ts u_f v_f).2.2.2.2.1 (3 * f)) m_pl i) i (((rcV t_f o_ts u_f v_f).2.2.2.2.1) (3 * i))) (upd (fillI (fun f => (rcV t_f o_ts u_f v_f).2.2.2.2.1 (3 * f + 1)) m_yl i) i (((rcV t_f o_ts u_f v_f).2.2.2.2.1) ((3 * i) + 1))) (upd (fillI (fun f => (rcV t_f o_ts u_f v_f).2.2.2.2.1 (3 * f + 2)) m_nd i) i (((rcV t_f o_ts u_f v_f).2.2.2.2.1) ((3 * i) + 2))) m_hm m_wk m_kd) ++ (wI g (o_a 10) 29 (fillI (fun f => (rcV t_f o_ts u_f v_f).2.2.2.2.1 (3 * f + 1)) (fun _ => nI 0) i)) ++ (wZ g (o_a 14) 2 i_f)) 6 nX6_country_109 rfl (by omega) (by decide) rfl ?_
                refine V_aload_n nX6_country_110 rfl ?_
                refine V_get6 0 16 (by decide) f_RX6_37 nX6_country_111 rfl rfl ?_
                refine V_iload_n nX6_country_114 rfl ?_
                refine V_aload_n nX6_country_115 rfl ?_
                refine V_get6 0 6 (by decide) f_RX6_16 nX6_country_116 rfl rfl ?_
                refine V_iload_n nX6_country_119 rfl ?_
                refine V_iald (v := (rcV t_f o_ts u_f v_f).2.2.2.2.1 (3 * i + 1)) 5 nX6_country_120 rfl (by omega) (by decide) (pk_us) ?_
                refine V_iast (ws' := (wO g o_a (nI 0) o_ts ((rcV t_f o_ts u_f v_f).2.1) ((rcV t_f o_ts u_f v_f).2.2.1) ((rcV t_f o_ts u_f v_f).2.2.2.1) ((rcV t_f o_ts u_f v_f).2.2.1) ((rcV t_f o_ts u_f v_f).2.2.2.1) o_ac o_cm o_sd o_wf o_sm o_sf o_rm o_rs) ++ (wI g (o_a 1) 48 t_f) ++ (wI g (o_a 8) 12 ((rcV t_f o_ts u_f v_f).2.2.2.2.1)) ++ (wI g (o_a 9) 15 ((rcV t_f o_ts u_f v_f).2.2.2.2.2)) ++ (wML g o_a (upd (fillI (fun f => (rcV t_f o_ts u_f v_f).2.2.2.2.1 (3 * f)) m_pl i) i (((rcV t_f o_ts u_f v_f).2.2.2.2.1) (3 * i))) (upd (fillI (fun f => (rcV t_f o_ts u_f v_f).2.2.2.2.1 (3 * f + 1)) m_yl i) i (((rcV t_f o_ts u_f v_f).2.2.2.2.1) ((3 * i) + 1))) (upd (fillI (fun f => (rcV t_f o_ts u_f v_f).2.2.2.2.1 (3 * f + 2)) m_nd i) i (((rcV t_f o_ts u_f v_f).2.2.2.2.1) ((3 * i) + 2))) m_hm m_wk m_kd) ++ (wI g (o_a 10) 29 (upd (fillI (fun f => (rcV t_f o_ts u_f v_f).2.2.2.2.1 (3 * f + 1)) (fun _ => nI 0) i) i ((rcV t_f o_ts u_f v_f).2.2.2.2.1 (3 * i + 1)))) ++ (wZ g (o_a 14) 2 i_f)) 10 nX6_country_121 rfl (by omega) (by decide) rfl ?_
                refine V_iinc (v := nI (i + 1)) (lv' := [(0, .ref (o_a 0)), (1, .int (nI (i + 1)))]) nX6_country_122 rfl (nI_add i 1) (by decide) rfl ?_
                refine V_goto (tgt := 56) nX6_country_125 rfl ?_
                exact ih (i + 1) (by omega) (by omega)
          exact L56 _ 0 (Nat.lt_succ_self _) (by omega)
        · skip
          refine V_aload_n nX6_country_41 rfl ?_
          refine V_get6 0 16 (by decide) f_RX6_37 nX6_country_42 rfl rfl ?_
          refine V_iload_n nX6_country_45 rfl ?_
          refine V_iconst (v := (nI 0)) nX6_country_46 rfl ?_
          refine V_iast (ws' := (wO g o_a (nI 0) o_ts ((rcV t_f o_ts u_f v_f).2.1) ((rcV t_f o_ts u_f v_f).2.2.1) ((rcV t_f o_ts u_f v_f).2.2.2.1) ((rcV t_f o_ts u_f v_f).2.2.1) ((rcV t_f o_ts u_f v_f).2.2.2.1) o_ac o_cm o_sd o_wf o_sm o_sf o_rm o_rs) ++ (wI g (o_a 1) 48 t_f) ++ (wI g (o_a 8) 12 ((rcV t_f o_ts u_f v_f).2.2.2.2.1)) ++ (wI g (o_a 9) 15 ((rcV t_f o_ts u_f v_f).2.2.2.2.2)) ++ (wML g o_a m_pl m_yl m_nd m_hm m_wk m_kd) ++ (wI g (o_a 10) 29 (upd (fillI (fun _ => nI 0) g_f i) i (nI 0))) ++ (wZ g (o_a 14) 2 i_f)) 10 nX6_country_47 rfl (by omega) (by decide) rfl ?_
          refine V_iinc (v := nI (i + 1)) (lv' := [(0, .ref (o_a 0)), (1, .int (nI (i + 1)))]) nX6_country_48 rfl (nI_add i 1) (by decide) rfl ?_
          refine V_goto (tgt := 35) nX6_country_51 rfl ?_
          exact ih (i + 1) (by omega) (by omega)
    exact L35 _ 0 (Nat.lt_succ_self _) (by omega)
  · skip
    exact absurd ((rcR_9 (rcV_1 t_f hn u_f v_f)).mpr hft) h11

set_option maxHeartbeats 4000000 in
set_option maxRecDepth 100000 in
theorem c_X6_owed (g : Gx) (l : Launch) (p_a : Nat) (p_f : Nat → Int32)  (e : Nat) (f : Nat) (he : e < 5) (hf : f < 4) : Cd g l yX6_owed mX6_owed ({ frames := 0, cells := 0, slots := 0, locals := 0 } : Room) [.ref p_a, .int (nI e), .int (nI f)] (wI g p_a 29 p_f) (some (.int (p_f (8 + 4 * e + f)))) (wI g p_a 29 p_f) := by
  refine Ct.of (lv := [(0, .ref p_a), (1, .int (nI e)), (2, .int (nI f))]) ⟨by decide +kernel, rfl, Nat.le_of_ble_eq_true rfl⟩ rfl (fun E A sz Q X hQ => ?_)
  refine V_aload_n nX6_owed_0 rfl ?_
  refine V_bipush (v := (nI 8)) nX6_owed_1 (by decide) ?_
  refine V_iconst (v := (nI 4)) nX6_owed_3 rfl ?_
  refine V_iload_n nX6_owed_4 rfl ?_
  refine V_imul (v := nI (4 * e)) nX6_owed_5 (pk_mul 4 e) ?_
  refine V_iadd (v := nI (8 + (4 * e))) nX6_owed_6 (nI_add 8 (4 * e)) ?_
  refine V_iload_n nX6_owed_7 rfl ?_
  refine V_iadd (v := nI ((8 + (4 * e)) + f)) nX6_owed_8 (nI_add (8 + (4 * e)) f) ?_
  refine V_iald 0 nX6_owed_9 rfl (by omega) (by decide) rfl ?_
  exact R_i rfl X hQ nX6_owed_10 (by simp only [List.map_append, wI_fst]) (⟨rfl, rfl⟩)

set_option maxHeartbeats 4000000 in
set_option maxRecDepth 100000 in
theorem c_X6_owesAll (g : Gx) (l : Launch) (p_a : Nat) (p_f : Nat → Int32)  (e : Nat) (he : e < 5) : Cd g l yX6_owesAll mX6_owesAll ({ frames := 1, cells := 0, slots := 0, locals := 22 } : Room) [.ref p_a, .int (nI e)] (wI g p_a 29 p_f) (some (.int (oaP p_f e))) (wI g p_a 29 p_f) := by
  refine Ct.of (lv := [(0, .ref p_a), (1, .int (nI e))]) ⟨by decide +kernel, rfl, Nat.le_of_ble_eq_true rfl⟩ rfl (fun E A sz Q X hQ => ?_)
  refine V_aload_n nX6_owesAll_0 rfl ?_
  refine V_iload_n nX6_owesAll_1 rfl ?_
  refine V_iconst (v := (nI 0)) nX6_owesAll_2 rfl ?_
  refine V_blk (ws' := ((wI g p_a 29 p_f)) ++ ([] : va_W)) [wI g p_a 29 p_f] [0] rfl (by simp only [List.flatten_cons, List.flatten_nil, List.append_nil, List.append_assoc]) (by show List.flatten [wI g p_a 29 p_f] = _; simp only [List.flatten_cons, List.flatten_nil, List.append_nil, List.append_assoc]) ?_
  refine V_cSi (ws' := ((wI g p_a 29 p_f)) ++ ([] : va_W)) (List.range _) 3 X (c_X6_owed g l p_a p_f  e 0 (by omega) (by omega)) k_RX6_117 hy_X6_owed.2 (by decide) (range_at _ _) (range_nd _) nX6_owesAll_3 rfl rfl (Nat.le_of_ble_eq_true rfl) (wput_range _ _ _ (by simp only [List.length_append, wI_len])) ?_
  refine V_blk (ws' := wI g p_a 29 p_f) [wI g p_a 29 p_f] [0] rfl (by simp only [List.flatten_cons, List.flatten_nil, List.append_nil, List.append_assoc]) (by show List.flatten [wI g p_a 29 p_f] = _; simp only [List.flatten_cons, List.flatten_nil, List.append_nil, List.append_assoc]) ?_
  refine V_aload_n nX6_owesAll_6 rfl ?_
  refine V_iload_n nX6_owesAll_7 rfl ?_
  refine V_iconst (v := (nI 1)) nX6_owesAll_8 rfl ?_
  refine V_blk (ws' := ((wI g p_a 29 p_f)) ++ ([] : va_W)) [wI g p_a 29 p_f] [0] rfl (by simp only [List.flatten_cons, List.flatten_nil, List.append_nil, List.append_assoc]) (by show List.flatten [wI g p_a 29 p_f] = _; simp only [List.flatten_cons, List.flatten_nil, List.append_nil, List.append_assoc]) ?_
  refine V_cSi (ws' := ((wI g p_a 29 p_f)) ++ ([] : va_W)) (List.range _) 3 X (c_X6_owed g l p_a p_f  e 1 (by omega) (by omega)) k_RX6_117 hy_X6_owed.2 (by decide) (range_at _ _) (range_nd _) nX6_owesAll_9 rfl rfl (Nat.le_of_ble_eq_true rfl) (wput_range _ _ _ (by simp only [List.length_append, wI_len])) ?_
  refine V_blk (ws' := wI g p_a 29 p_f) [wI g p_a 29 p_f] [0] rfl (by simp only [List.flatten_cons, List.flatten_nil, List.append_nil, List.append_assoc]) (by show List.flatten [wI g p_a 29 p_f] = _; simp only [List.flatten_cons, List.flatten_nil, List.append_nil, List.append_assoc]) ?_
  refine V_iadd (v := (p_f (8 + 4 * e + 0)) + (p_f (8 + 4 * e + 1))) nX6_owesAll_12 rfl ?_
  refine V_aload_n nX6_owesAll_13 rfl ?_
  refine V_iload_n nX6_owesAll_14 rfl ?_
  refine V_iconst (v := (nI 2)) nX6_owesAll_15 rfl ?_
  refine V_blk (ws' := ((wI g p_a 29 p_f)) ++ ([] : va_W)) [wI g p_a 29 p_f] [0] rfl (by simp only [List.flatten_cons, List.flatten_nil, List.append_nil, List.append_assoc]) (by show List.flatten [wI g p_a 29 p_f] = _; simp only [List.flatten_cons, List.flatten_nil, List.append_nil, List.append_assoc]) ?_
  refine V_cSi (ws' := ((wI g p_a 29 p_f)) ++ ([] : va_W)) (List.range _) 3 X (c_X6_owed g l p_a p_f  e 2 (by omega) (by omega)) k_RX6_117 hy_X6_owed.2 (by decide) (range_at _ _) (range_nd _) nX6_owesAll_16 rfl rfl (Nat.le_of_ble_eq_true rfl) (wput_range _ _ _ (by simp only [List.length_append, wI_len])) ?_
  refine V_blk (ws' := wI g p_a 29 p_f) [wI g p_a 29 p_f] [0] rfl (by simp only [List.flatten_cons, List.flatten_nil, List.append_nil, List.append_assoc]) (by show List.flatten [wI g p_a 29 p_f] = _; simp only [List.flatten_cons, List.flatten_nil, List.append_nil, List.append_assoc]) ?_
  refine V_iadd (v := ((p_f (8 + 4 * e + 0)) + (p_f (8 + 4 * e + 1))) + (p_f (8 + 4 * e + 2))) nX6_owesAll_19 rfl ?_
  refine V_aload_n nX6_owesAll_20 rfl ?_
  refine V_iload_n nX6_owesAll_21 rfl ?_
  refine V_iconst (v := (nI 3)) nX6_owesAll_22 rfl ?_
  refine V_blk (ws' := ((wI g p_a 29 p_f)) ++ ([] : va_W)) [wI g p_a 29 p_f] [0] rfl (by simp only [List.flatten_cons, List.flatten_nil, List.append_nil, List.append_assoc]) (by show List.flatten [wI g p_a 29 p_f] = _; simp only [List.flatten_cons, List.flatten_nil, List.append_nil, List.append_assoc]) ?_
  refine V_cSi (ws' := ((wI g p_a 29 p_f)) ++ ([] : va_W)) (List.range _) 3 X (c_X6_owed g l p_a p_f  e 3 (by omega) (by omega)) k_RX6_117 hy_X6_owed.2 (by decide) (range_at _ _) (range_nd _) nX6_owesAll_23 rfl rfl (Nat.le_of_ble_eq_true rfl) (wput_range _ _ _ (by simp only [List.length_append, wI_len])) ?_
  refine V_blk (ws' := wI g p_a 29 p_f) [wI g p_a 29 p_f] [0] rfl (by simp only [List.flatten_cons, List.flatten_nil, List.append_nil, List.append_assoc]) (by show List.flatten [wI g p_a 29 p_f] = _; simp only [List.flatten_cons, List.flatten_nil, List.append_nil, List.append_assoc]) ?_
  refine V_iadd (v := (((p_f (8 + 4 * e + 0)) + (p_f (8 + 4 * e + 1))) + (p_f (8 + 4 * e + 2))) + (p_f (8 + 4 * e + 3))) nX6_owesAll_26 rfl ?_
  exact R_i rfl X hQ nX6_owesAll_27 (by simp only [List.map_append, wI_fst]) (⟨rfl, rfl⟩)

set_option maxHeartbeats 4000000 in
set_option maxRecDepth 100000 in
theorem c_X6_nearest (g : Gx) (l : Launch) (o_a : Nat → Nat) (o_th : Int32) (o_ts : Nat) (o_pl : Nat) (o_nf : Nat) (o_ne : Nat) (o_rf : Nat) (o_re : Nat) (o_ac : Nat) (o_cm : Nat) (o_sd : Int64) (o_wf : Int32) (o_sm : Int32) (o_sf : Int32) (o_rm : Int32) (o_rs : Int32) (m_pl : Nat → Int32) (m_yl : Nat → Int32) (m_nd : Nat → Int32) (m_hm : Nat → Int32) (m_wk : Nat → Int32) (m_kd : Nat → Int32) (p_a : Nat) (p_f : Nat → Int32)  (e : Nat) (a : Int32) (hnf : o_nf ≤ 4) (he : e < 5) : Cd g l yX6_nearest mX6_nearest ({ frames := 1, cells := 0, slots := 0, locals := 22 } : Room) [.ref (o_a 0), .ref p_a, .int (nI e), .int a] ((wO g o_a o_th o_ts o_pl o_nf o_ne o_rf o_re o_ac o_cm o_sd o_wf o_sm o_sf o_rm o_rs) ++ (wML g o_a m_pl m_yl m_nd m_hm m_wk m_kd) ++ (wI g p_a 29 p_f)) (some (.int (oI (nmS m_pl p_f e a o_nf o_nf)))) ((wO g o_a o_th o_ts o_pl o_nf o_ne o_rf o_re o_ac o_cm o_sd o_wf o_sm o_sf o_rm o_rs) ++ (wML g o_a m_pl m_yl m_nd m_hm m_wk m_kd) ++ (wI g p_a 29 p_f)) := by
  refine Ct.of (lv := [(0, .ref (o_a 0)), (1, .ref p_a), (2, .int (nI e)), (3, .int a)]) ⟨by decide +kernel, rfl, Nat.le_of_ble_eq_true rfl⟩ rfl (fun E A sz Q X hQ => ?_)
  refine V_bipush (v := (-9)) nX6_nearest_0 (by decide) ?_
  refine V_istore (lv' := [(0, .ref (o_a 0)), (1, .ref p_a), (2, .int (nI e)), (3, .int a), (4, .int (-9))]) nX6_nearest_2 (by decide) rfl ?_
  refine V_aload_n nX6_nearest_4 rfl ?_
  refine V_get6 0 4 (by decide) f_RX6_72 nX6_nearest_5 rfl rfl ?_
  refine V_iconst (v := (nI 1)) nX6_nearest_8 rfl ?_
  refine V_isub (v := nI o_nf - nI 1) nX6_nearest_9 rfl ?_
  refine V_istore (lv' := [(0, .ref (o_a 0)), (1, .ref p_a), (2, .int (nI e)), (3, .int a), (4, .int (-9)), (5, .int (nI o_nf - nI 1))]) nX6_nearest_10 (by decide) rfl ?_
  have L12 : ∀ (n : Nat) (i : Nat) (b : Option Nat), i < n → i ≤ o_nf → b = nmS m_pl p_f e a o_nf (o_nf - i) → V g E mX6_nearest A Q 0 0 ((wO g o_a o_th o_ts o_pl o_nf o_ne o_rf o_re o_ac o_cm o_sd o_wf o_sm o_sf o_rm o_rs) ++ (wML g o_a m_pl m_yl m_nd m_hm m_wk m_kd) ++ (wI g p_a 29 p_f)) 12 [(0, .ref (o_a 0)), (1, .ref p_a), (2, .int (nI e)), (3, .int a), (4, .int (oI b)), (5, .int (nI i - nI 1))] [] := by
    intro n
    induction n with
    | zero => intro i b hm; exact absurd hm (Nat.not_lt_zero _)
    | succ n ih =>
      intro i b hm hi hb
      refine V_iload nX6_nearest_12 rfl ?_
      refine V_if_lt (tgt := 86) nX6_nearest_14 rfl (fun h14 => ?_) (fun h14 => ?_)
      · skip
        have hi0 := dc_0 h14 (by omega)
        subst hi0
        refine V_iload nX6_nearest_86 rfl ?_
        exact R_i rfl X hQ nX6_nearest_88 (by simp only [List.map_append, wI_fst, wML_fst, wO_fst]) (⟨by rw [hb]; rfl, rfl⟩)
      · skip
        obtain ⟨q, rfl⟩ := dc_1 h14 (by omega)
        rw [nI_pm q]
        refine V_aload_n nX6_nearest_17 rfl ?_
        refine V_iload_n nX6_nearest_18 rfl ?_
        refine V_iload nX6_nearest_19 rfl ?_
        refine V_blk (ws' := ((wI g p_a 29 p_f)) ++ ((wO g o_a o_th o_ts o_pl o_nf o_ne o_rf o_re o_ac o_cm o_sd o_wf o_sm o_sf o_rm o_rs) ++ (wML g o_a m_pl m_yl m_nd m_hm m_wk m_kd))) [wO g o_a o_th o_ts o_pl o_nf o_ne o_rf o_re o_ac o_cm o_sd o_wf o_sm o_sf o_rm o_rs, wML g o_a m_pl m_yl m_nd m_hm m_wk m_kd, wI g p_a 29 p_f] [2, 0, 1] rfl (by simp only [List.flatten_cons, List.flatten_nil, List.append_nil, List.append_assoc]) (by show List.flatten [wI g p_a 29 p_f, wO g o_a o_th o_ts o_pl o_nf o_ne o_rf o_re o_ac o_cm o_sd o_wf o_sm o_sf o_rm o_rs, wML g o_a m_pl m_yl m_nd m_hm m_wk m_kd] = _; simp only [List.flatten_cons, List.flatten_nil, List.append_nil, List.append_assoc]) ?_
        refine V_cSi (ws' := ((wI g p_a 29 p_f)) ++ ((wO g o_a o_th o_ts o_pl o_nf o_ne o_rf o_re o_ac o_cm o_sd o_wf o_sm o_sf o_rm o_rs) ++ (wML g o_a m_pl m_yl m_nd m_hm m_wk m_kd))) (List.range _) 3 X (c_X6_owed g l p_a p_f  e q (by omega) (by omega)) k_RX6_117 hy_X6_owed.2 (by decide) (range_at _ _) (range_nd _) nX6_nearest_21 rfl rfl (Nat.le_of_ble_eq_true rfl) (wput_range _ _ _ (by simp only [List.length_append, wI_len])) ?_
        refine V_blk (ws' := (wO g o_a o_th o_ts o_pl o_nf o_ne o_rf o_re o_ac o_cm o_sd o_wf o_sm o_sf o_rm o_rs) ++ (wML g o_a m_pl m_yl m_nd m_hm m_wk m_kd) ++ (wI g p_a 29 p_f)) [wI g p_a 29 p_f, wO g o_a o_th o_ts o_pl o_nf o_ne o_rf o_re o_ac o_cm o_sd o_wf o_sm o_sf o_rm o_rs, wML g o_a m_pl m_yl m_nd m_hm m_wk m_kd] [1, 2, 0] rfl (by simp only [List.flatten_cons, List.flatten_nil, List.append_nil, List.append_assoc]) (by show List.flatten [wO g o_a o_th o_ts o_pl o_nf o_ne o_rf o_re o_ac o_cm o_sd o_wf o_sm o_sf o_rm o_rs, wML g o_a m_pl m_yl m_nd m_hm m_wk m_kd, wI g p_a 29 p_f] = _; simp only [List.flatten_cons, List.flatten_nil, List.append_nil, List.append_assoc]) ?_
        refine V_joinb (b := !decide ((p_f (8 + 4 * e + q)) ≤ 0)) (pj := 32) (st := []) (fun J1 J2 => ?_) ?_
        · skip
          refine V_if_le (tgt := 31) nX6_nearest_24 rfl (fun h24 => ?_) (fun h24 => ?_)
          · skip
            refine V_iconst (v := (nI 0)) nX6_nearest_31 rfl ?_
            exact J2 (by simp [h24])
          · skip
            refine V_iconst (v := (nI 1)) nX6_nearest_27 rfl ?_
            refine V_goto (tgt := 32) nX6_nearest_28 rfl ?_
            exact J1 (by simp [h24])
        refine V_istore (lv' := [(0, .ref (o_a 0)), (1, .ref p_a), (2, .int (nI e)), (3, .int a), (4, .int (oI b)), (5, .int (nI q)), (6, .int (bI (!decide ((p_f (8 + 4 * e + q)) ≤ 0))))]) nX6_nearest_32 (by decide) rfl ?_
        refine V_iload nX6_nearest_34 rfl ?_
        refine V_if_eq_b (tgt := 76) nX6_nearest_36 rfl (fun h36 => ?_) (fun h36 => ?_)
        · skip
          refine V_iload nX6_nearest_76 rfl ?_
          refine V_istore (lv' := [(0, .ref (o_a 0)), (1, .ref p_a), (2, .int (nI e)), (3, .int a), (4, .int (oI b)), (5, .int (nI q)), (6, .int (bI (!decide ((p_f (8 + 4 * e + q)) ≤ 0))))]) nX6_nearest_78 (by decide) rfl ?_
          refine V_iinc (v := nI q - nI 1) (lv' := [(0, .ref (o_a 0)), (1, .ref p_a), (2, .int (nI e)), (3, .int a), (4, .int (oI b)), (5, .int (nI q - nI 1)), (6, .int (bI (!decide ((p_f (8 + 4 * e + q)) ≤ 0))))]) nX6_nearest_80 rfl (nI_d1 q) (by decide) rfl ?_
          refine V_goto (tgt := 12) nX6_nearest_83 rfl ?_
          refine V_pick (lv2 := [(0, .ref (o_a 0)), (1, .ref p_a), (2, .int (nI e)), (3, .int a), (4, .int (oI b)), (5, .int (nI q - nI 1))]) [0, 1, 2, 3, 4, 5] rfl ?_
          exact ih q b (by omega) (by omega) (by rw [hb]; exact (nmS_1 (by omega) h36).symm)
        · skip
          refine V_iload nX6_nearest_39 rfl ?_
          refine V_bipush (v := (-9)) nX6_nearest_41 (by decide) ?_
          refine V_icmp_eq (tgt := 71) nX6_nearest_43 rfl (fun h43 => ?_) (fun h43 => ?_)
          · skip
            have hb0 : b = none := by
              cases b with
              | none => rfl
              | some k =>
                have := (nmS_lt _ _ _ _ _ _ _ (by omega) hb.symm).1
                exact absurd h43 (oI_ne9 (by omega))
            refine V_iload nX6_nearest_71 rfl ?_
            refine V_goto (tgt := 78) nX6_nearest_73 rfl ?_
            refine V_istore (lv' := [(0, .ref (o_a 0)), (1, .ref p_a), (2, .int (nI e)), (3, .int a), (4, .int (nI q)), (5, .int (nI q)), (6, .int (bI (!decide ((p_f (8 + 4 * e + q)) ≤ 0))))]) nX6_nearest_78 (by decide) rfl ?_
            refine V_iinc (v := nI q - nI 1) (lv' := [(0, .ref (o_a 0)), (1, .ref p_a), (2, .int (nI e)), (3, .int a), (4, .int (nI q)), (5, .int (nI q - nI 1)), (6, .int (bI (!decide ((p_f (8 + 4 * e + q)) ≤ 0))))]) nX6_nearest_80 rfl (nI_d1 q) (by decide) rfl ?_
            refine V_goto (tgt := 12) nX6_nearest_83 rfl ?_
            refine V_pick (lv2 := [(0, .ref (o_a 0)), (1, .ref p_a), (2, .int (nI e)), (3, .int a), (4, .int (nI q)), (5, .int (nI q - nI 1))]) [0, 1, 2, 3, 4, 5] rfl ?_
            exact ih q (some q) (by omega) (by omega) ((nmS_2 (by omega) h36 (by rw [← hb, hb0]; rfl)).symm)
          · skip
            obtain ⟨kb, rfl⟩ : ∃ k, b = some k := by
              cases b with
              | none => exact absurd rfl h43
              | some k => exact ⟨k, rfl⟩
            have hkb := (nmS_lt _ _ _ _ _ _ _ (by omega) hb.symm).1
            rw [oI_s kb]
            refine V_iload_n nX6_nearest_46 rfl ?_
            refine V_aload_n nX6_nearest_47 rfl ?_
            refine V_get6 0 5 (by decide) f_RX6_13 nX6_nearest_48 rfl rfl ?_
            refine V_iload nX6_nearest_51 rfl ?_
            refine V_iald 1 nX6_nearest_53 rfl (by omega) (by decide) rfl ?_
            refine V_cSi (ws' := (wO g o_a o_th o_ts o_pl o_nf o_ne o_rf o_re o_ac o_cm o_sd o_wf o_sm o_sf o_rm o_rs) ++ (wML g o_a m_pl m_yl m_nd m_hm m_wk m_kd) ++ (wI g p_a 29 p_f)) [] 2 X (c_X6_apart g l   a (m_pl q) ) k_RX6_121 hy_X6_apart.2 (by decide) rfl (by decide) nX6_nearest_54 rfl rfl (Nat.le_of_ble_eq_true rfl) rfl ?_
            refine V_iload_n nX6_nearest_57 rfl ?_
            refine V_aload_n nX6_nearest_58 rfl ?_
            refine V_get6 0 5 (by decide) f_RX6_13 nX6_nearest_59 rfl rfl ?_
            refine V_iload nX6_nearest_62 rfl ?_
            refine V_iald 1 nX6_nearest_64 rfl (by omega) (by decide) rfl ?_
            refine V_cSi (ws' := (wO g o_a o_th o_ts o_pl o_nf o_ne o_rf o_re o_ac o_cm o_sd o_wf o_sm o_sf o_rm o_rs) ++ (wML g o_a m_pl m_yl m_nd m_hm m_wk m_kd) ++ (wI g p_a 29 p_f)) [] 2 X (c_X6_apart g l   a (m_pl kb) ) k_RX6_121 hy_X6_apart.2 (by decide) rfl (by decide) nX6_nearest_65 rfl rfl (Nat.le_of_ble_eq_true rfl) rfl ?_
            refine V_icmp_gt (tgt := 76) nX6_nearest_68 rfl (fun h68 => ?_) (fun h68 => ?_)
            · skip
              refine V_iload nX6_nearest_76 rfl ?_
              refine V_istore (lv' := [(0, .ref (o_a 0)), (1, .ref p_a), (2, .int (nI e)), (3, .int a), (4, .int (nI kb)), (5, .int (nI q)), (6, .int (bI (!decide ((p_f (8 + 4 * e + q)) ≤ 0))))]) nX6_nearest_78 (by decide) rfl ?_
              refine V_iinc (v := nI q - nI 1) (lv' := [(0, .ref (o_a 0)), (1, .ref p_a), (2, .int (nI e)), (3, .int a), (4, .int (nI kb)), (5, .int (nI q - nI 1)), (6, .int (bI (!decide ((p_f (8 + 4 * e + q)) ≤ 0))))]) nX6_nearest_80 rfl (nI_d1 q) (by decide) rfl ?_
              refine V_goto (tgt := 12) nX6_nearest_83 rfl ?_
              refine V_pick (lv2 := [(0, .ref (o_a 0)), (1, .ref p_a), (2, .int (nI e)), (3, .int a), (4, .int (nI kb)), (5, .int (nI q - nI 1))]) [0, 1, 2, 3, 4, 5] rfl ?_
              exact ih q (some kb) (by omega) (by omega) (by rw [hb]; exact (nmS_3 (by omega) (by rw [← hb]; show (!decide _) = false; rw [decide_eq_true h68]; rfl)).symm)
            · skip
              refine V_iload nX6_nearest_71 rfl ?_
              refine V_goto (tgt := 78) nX6_nearest_73 rfl ?_
              refine V_istore (lv' := [(0, .ref (o_a 0)), (1, .ref p_a), (2, .int (nI e)), (3, .int a), (4, .int (nI q)), (5, .int (nI q)), (6, .int (bI (!decide ((p_f (8 + 4 * e + q)) ≤ 0))))]) nX6_nearest_78 (by decide) rfl ?_
              refine V_iinc (v := nI q - nI 1) (lv' := [(0, .ref (o_a 0)), (1, .ref p_a), (2, .int (nI e)), (3, .int a), (4, .int (nI q)), (5, .int (nI q - nI 1)), (6, .int (bI (!decide ((p_f (8 + 4 * e + q)) ≤ 0))))]) nX6_nearest_80 rfl (nI_d1 q) (by decide) rfl ?_
              refine V_goto (tgt := 12) nX6_nearest_83 rfl ?_
              refine V_pick (lv2 := [(0, .ref (o_a 0)), (1, .ref p_a), (2, .int (nI e)), (3, .int a), (4, .int (nI q)), (5, .int (nI q - nI 1))]) [0, 1, 2, 3, 4, 5] rfl ?_
              exact ih q (some q) (by omega) (by omega) ((nmS_2 (by omega) h36 (by rw [← hb]; show (!decide _) = true; rw [decide_eq_false h68]; rfl)).symm)
  exact L12 _ o_nf none (Nat.lt_succ_self _) (Nat.le_refl _) (by rw [Nat.sub_self]; rfl)

set_option maxHeartbeats 4000000 in
set_option maxRecDepth 100000 in
theorem c_X6_goes (g : Gx) (l : Launch) (o_a : Nat → Nat) (o_th : Int32) (o_ts : Nat) (o_pl : Nat) (o_nf : Nat) (o_ne : Nat) (o_rf : Nat) (o_re : Nat) (o_ac : Nat) (o_cm : Nat) (o_sd : Int64) (o_wf : Int32) (o_sm : Int32) (o_sf : Int32) (o_rm : Int32) (o_rs : Int32) (m_pl : Nat → Int32) (m_yl : Nat → Int32) (m_nd : Nat → Int32) (m_hm : Nat → Int32) (m_wk : Nat → Int32) (m_kd : Nat → Int32) (p_a : Nat) (p_f : Nat → Int32)  (e : Nat) (x : Int32) (hnf : o_nf ≤ 4) (he : e < 5) : Cd g l yX6_goes mX6_goes ({ frames := 2, cells := 0, slots := 0, locals := 48 } : Room) [.ref (o_a 0), .ref p_a, .int (nI e), .int x] ((wO g o_a o_th o_ts o_pl o_nf o_ne o_rf o_re o_ac o_cm o_sd o_wf o_sm o_sf o_rm o_rs) ++ (wML g o_a m_pl m_yl m_nd m_hm m_wk m_kd) ++ (wI g p_a 29 p_f)) (some (.int ((gsI m_pl m_hm m_kd o_nf e x p_f).2.1))) ((wO g o_a o_th o_ts o_pl o_nf o_ne o_rf o_re o_ac o_cm o_sd ((gsI m_pl m_hm m_kd o_nf e x p_f).2.2) o_sm o_sf o_rm o_rs) ++ (wML g o_a m_pl m_yl m_nd m_hm m_wk m_kd) ++ (wI g p_a 29 ((gsI m_pl m_hm m_kd o_nf e x p_f).1))) := by
  refine Ct.of (lv := [(0, .ref (o_a 0)), (1, .ref p_a), (2, .int (nI e)), (3, .int x)]) ⟨by decide +kernel, rfl, Nat.le_of_ble_eq_true rfl⟩ rfl (fun E A sz Q X hQ => ?_)
  refine V_aload_n nX6_goes_0 rfl ?_
  refine V_get6 0 9 (by decide) f_RX6_22 nX6_goes_1 rfl rfl ?_
  refine V_iload_n nX6_goes_4 rfl ?_
  refine V_iald 4 nX6_goes_5 rfl (by omega) (by decide) rfl ?_
  refine V_istore (lv' := [(0, .ref (o_a 0)), (1, .ref p_a), (2, .int (nI e)), (3, .int x), (4, .int (m_hm e))]) nX6_goes_6 (by decide) rfl ?_
  refine V_iload_n nX6_goes_8 rfl ?_
  refine V_istore (lv' := [(0, .ref (o_a 0)), (1, .ref p_a), (2, .int (nI e)), (3, .int x), (4, .int (m_hm e)), (5, .int x)]) nX6_goes_9 (by decide) rfl ?_
  refine V_iconst (v := (nI 0)) nX6_goes_11 rfl ?_
  refine V_istore (lv' := [(0, .ref (o_a 0)), (1, .ref p_a), (2, .int (nI e)), (3, .int x), (4, .int (m_hm e)), (5, .int x), (6, .int (nI 0))]) nX6_goes_12 (by decide) rfl ?_
  refine V_aload_n nX6_goes_14 rfl ?_
  refine V_iconst (v := (nI 0)) nX6_goes_15 rfl ?_
  refine V_put6 (ws' := (wO g o_a o_th o_ts o_pl o_nf o_ne o_rf o_re o_ac o_cm o_sd (nI 0) o_sm o_sf o_rm o_rs) ++ (wML g o_a m_pl m_yl m_nd m_hm m_wk m_kd) ++ (wI g p_a 29 p_f)) 0 26 (by decide) f_RX6_124 rfl rfl rfl rfl nX6_goes_16 rfl (Nat.le_of_ble_eq_true rfl) rfl ?_
  refine V_aload_n nX6_goes_19 rfl ?_
  refine V_aload_n nX6_goes_20 rfl ?_
  refine V_iload_n nX6_goes_21 rfl ?_
  refine V_iload nX6_goes_22 rfl ?_
  refine V_blk (ws' := ((wO g o_a o_th o_ts o_pl o_nf o_ne o_rf o_re o_ac o_cm o_sd (nI 0) o_sm o_sf o_rm o_rs) ++ (wML g o_a m_pl m_yl m_nd m_hm m_wk m_kd) ++ (wI g p_a 29 p_f)) ++ ([] : va_W)) [wO g o_a o_th o_ts o_pl o_nf o_ne o_rf o_re o_ac o_cm o_sd (nI 0) o_sm o_sf o_rm o_rs, wML g o_a m_pl m_yl m_nd m_hm m_wk m_kd, wI g p_a 29 p_f] [0, 1, 2] rfl (by simp only [List.flatten_cons, List.flatten_nil, List.append_nil, List.append_assoc]) (by show List.flatten [wO g o_a o_th o_ts o_pl o_nf o_ne o_rf o_re o_ac o_cm o_sd (nI 0) o_sm o_sf o_rm o_rs, wML g o_a m_pl m_yl m_nd m_hm m_wk m_kd, wI g p_a 29 p_f] = _; simp only [List.flatten_cons, List.flatten_nil, List.append_nil, List.append_assoc]) ?_
  refine V_cVi (C := (RX6, TX6, 34)) (ci := 6) (ws' := ((wO g o_a o_th o_ts o_pl o_nf o_ne o_rf o_re o_ac o_cm o_sd (nI 0) o_sm o_sf o_rm o_rs) ++ (wML g o_a m_pl m_yl m_nd m_hm m_wk m_kd) ++ (wI g p_a 29 p_f)) ++ ([] : va_W)) (List.range _) 3 X (c_X6_nearest g l o_a o_th o_ts o_pl o_nf o_ne o_rf o_re o_ac o_cm o_sd (nI 0) o_sm o_sf o_rm o_rs m_pl m_yl m_nd m_hm m_wk m_kd p_a p_f  e (m_hm e) (by omega) (by omega)) k_RX6_127 hy_X6_nearest (by decide) (range_at _ _) (range_nd _) 0 rfl rfl nX6_goes_24 rfl rfl (Nat.le_of_ble_eq_true rfl) (wput_range _ _ _ (by simp only [List.length_append, wI_len, wML_len, wO_len])) ?_
  refine V_blk (ws' := (wO g o_a o_th o_ts o_pl o_nf o_ne o_rf o_re o_ac o_cm o_sd (nI 0) o_sm o_sf o_rm o_rs) ++ (wML g o_a m_pl m_yl m_nd m_hm m_wk m_kd) ++ (wI g p_a 29 p_f)) [wO g o_a o_th o_ts o_pl o_nf o_ne o_rf o_re o_ac o_cm o_sd (nI 0) o_sm o_sf o_rm o_rs, wML g o_a m_pl m_yl m_nd m_hm m_wk m_kd, wI g p_a 29 p_f] [0, 1, 2] rfl (by simp only [List.flatten_cons, List.flatten_nil, List.append_nil, List.append_assoc]) (by show List.flatten [wO g o_a o_th o_ts o_pl o_nf o_ne o_rf o_re o_ac o_cm o_sd (nI 0) o_sm o_sf o_rm o_rs, wML g o_a m_pl m_yl m_nd m_hm m_wk m_kd, wI g p_a 29 p_f] = _; simp only [List.flatten_cons, List.flatten_nil, List.append_nil, List.append_assoc]) ?_
  refine V_istore (lv' := [(0, .ref (o_a 0)), (1, .ref p_a), (2, .int (nI e)), (3, .int x), (4, .int (m_hm e)), (5, .int x), (6, .int (nI 0)), (7, .int (oI (nmS m_pl p_f e (m_hm e) o_nf o_nf)))]) nX6_goes_27 (by decide) rfl ?_
  have L29 : ∀ (n : Nat) (k : Nat) (a : Int32) (y : Int32) (q : Nat → Int32) (c : Int32) (w : Int32), k < n → cnP q e o_nf ≤ k → gsP m_pl m_kd o_nf e k a y (q, c, w) = (gsI m_pl m_hm m_kd o_nf e x p_f) → V g E mX6_goes A Q 0 0 ((wO g o_a o_th o_ts o_pl o_nf o_ne o_rf o_re o_ac o_cm o_sd w o_sm o_sf o_rm o_rs) ++ (wML g o_a m_pl m_yl m_nd m_hm m_wk m_kd) ++ (wI g p_a 29 q)) 29 [(0, .ref (o_a 0)), (1, .ref p_a), (2, .int (nI e)), (4, .int a), (5, .int y), (6, .int c), (7, .int (oI (nmS m_pl q e a o_nf o_nf)))] [] := by
    intro n
    induction n with
    | zero => intro k a y q c w hm; exact absurd hm (Nat.not_lt_zero _)
    | succ n ih =>
      intro k a y q c w hm hk hr
      refine V_iload nX6_goes_29 rfl ?_
      refine V_bipush (v := (-9)) nX6_goes_31 (by decide) ?_
      refine V_icmp_eq (tgt := 161) nX6_goes_33 rfl (fun h33 => ?_) (fun h33 => ?_)
      · skip
        have ho : nmS m_pl q e a o_nf o_nf = none := (oI_none (fun k hk => by have := (nmS_lt _ _ _ _ _ _ _ (Nat.le_refl _) hk).1; omega)).mp h33
        have hre := hr
        rw [gsP_none (s := (q, c, w)) ho] at hre
        refine V_iload nX6_goes_161 rfl ?_
        exact R_i rfl X hQ nX6_goes_163 (by simp only [List.map_append, wI_fst, wML_fst, wO_fst]) (⟨by rw [← hre], by rw [← hre]⟩)
      · skip
        obtain ⟨f, hf⟩ : ∃ f, nmS m_pl q e a o_nf o_nf = some f := by
          cases ho : nmS m_pl q e a o_nf o_nf with
          | none => rw [ho] at h33; exact absurd rfl h33
          | some k => exact ⟨k, rfl⟩
        have hfl := nmS_lt _ _ _ _ _ _ _ (Nat.le_refl _) hf
        have hcn := stP_cn (e := e) hfl.1 hnf hfl.2
        rw [hf, oI_s f]
        refine V_aload_n nX6_goes_36 rfl ?_
        refine V_get6 0 11 (by decide) f_RX6_28 nX6_goes_37 rfl rfl ?_
        refine V_iload_n nX6_goes_40 rfl ?_
        refine V_iald 6 nX6_goes_41 rfl (by omega) (by decide) rfl ?_
        refine V_iconst (v := (nI 1)) nX6_goes_42 rfl ?_
        refine V_icmp_eq (tgt := 63) nX6_goes_43 rfl (fun h43 => ?_) (fun h43 => ?_)
        · skip
          have hgo : m_kd e = nI 1 ∨ apI a (m_pl f) ≤ y := Or.inl h43
          refine V_iload nX6_goes_63 rfl ?_
          refine V_aload_n nX6_goes_65 rfl ?_
          refine V_get6 0 5 (by decide) f_RX6_13 nX6_goes_66 rfl rfl ?_
          refine V_iload nX6_goes_69 rfl ?_
          refine V_iald 1 nX6_goes_71 rfl (by omega) (by decide) rfl ?_
          refine V_cSi (ws' := (wO g o_a o_th o_ts o_pl o_nf o_ne o_rf o_re o_ac o_cm o_sd w o_sm o_sf o_rm o_rs) ++ (wML g o_a m_pl m_yl m_nd m_hm m_wk m_kd) ++ (wI g p_a 29 q)) [] 2 X (c_X6_apart g l   a (m_pl f) ) k_RX6_121 hy_X6_apart.2 (by decide) rfl (by decide) nX6_goes_72 rfl rfl (Nat.le_of_ble_eq_true rfl) rfl ?_
          refine V_istore (lv' := [(0, .ref (o_a 0)), (1, .ref p_a), (2, .int (nI e)), (4, .int a), (5, .int y), (6, .int c), (7, .int (nI f)), (8, .int (apI a (m_pl f)))]) nX6_goes_75 (by decide) rfl ?_
          refine V_aload_n nX6_goes_77 rfl ?_
          refine V_dup nX6_goes_78 rfl ?_
          refine V_get6 0 26 (by decide) f_RX6_124 nX6_goes_79 rfl rfl ?_
          refine V_iload nX6_goes_82 rfl ?_
          refine V_iadd (v := w + (apI a (m_pl f))) nX6_goes_84 rfl ?_
          refine V_put6 (ws' := (wO g o_a o_th o_ts o_pl o_nf o_ne o_rf o_re o_ac o_cm o_sd (w + (apI a (m_pl f))) o_sm o_sf o_rm o_rs) ++ (wML g o_a m_pl m_yl m_nd m_hm m_wk m_kd) ++ (wI g p_a 29 q)) 0 26 (by decide) f_RX6_124 rfl rfl rfl rfl nX6_goes_85 rfl (Nat.le_of_ble_eq_true rfl) rfl ?_
          refine V_iload nX6_goes_88 rfl ?_
          refine V_iload nX6_goes_90 rfl ?_
          refine V_isub (v := y - (apI a (m_pl f))) nX6_goes_92 rfl ?_
          refine V_istore (lv' := [(0, .ref (o_a 0)), (1, .ref p_a), (2, .int (nI e)), (4, .int a), (5, .int (y - (apI a (m_pl f)))), (6, .int c), (7, .int (nI f)), (8, .int (apI a (m_pl f)))]) nX6_goes_93 (by decide) rfl ?_
          refine V_aload_n nX6_goes_95 rfl ?_
          refine V_get6 0 5 (by decide) f_RX6_13 nX6_goes_96 rfl rfl ?_
          refine V_iload nX6_goes_99 rfl ?_
          refine V_iald 1 nX6_goes_101 rfl (by omega) (by decide) rfl ?_
          refine V_istore (lv' := [(0, .ref (o_a 0)), (1, .ref p_a), (2, .int (nI e)), (4, .int (m_pl f)), (5, .int (y - (apI a (m_pl f)))), (6, .int c), (7, .int (nI f)), (8, .int (apI a (m_pl f)))]) nX6_goes_102 (by decide) rfl ?_
          refine V_aload_n nX6_goes_104 rfl ?_
          refine V_iconst (v := (nI 4)) nX6_goes_105 rfl ?_
          refine V_iload nX6_goes_106 rfl ?_
          refine V_iadd (v := nI (4 + f)) nX6_goes_108 (nI_add 4 f) ?_
          refine V_aload_n nX6_goes_109 rfl ?_
          refine V_iconst (v := (nI 4)) nX6_goes_110 rfl ?_
          refine V_iload nX6_goes_111 rfl ?_
          refine V_iadd (v := nI (4 + f)) nX6_goes_113 (nI_add 4 f) ?_
          refine V_iald 7 nX6_goes_114 rfl (by omega) (by decide) rfl ?_
          refine V_aload_n nX6_goes_115 rfl ?_
          refine V_iload_n nX6_goes_116 rfl ?_
          refine V_iload nX6_goes_117 rfl ?_
          refine V_blk (ws' := ((wI g p_a 29 q)) ++ ((wO g o_a o_th o_ts o_pl o_nf o_ne o_rf o_re o_ac o_cm o_sd (w + (apI a (m_pl f))) o_sm o_sf o_rm o_rs) ++ (wML g o_a m_pl m_yl m_nd m_hm m_wk m_kd))) [wO g o_a o_th o_ts o_pl o_nf o_ne o_rf o_re o_ac o_cm o_sd (w + (apI a (m_pl f))) o_sm o_sf o_rm o_rs, wML g o_a m_pl m_yl m_nd m_hm m_wk m_kd, wI g p_a 29 q] [2, 0, 1] rfl (by simp only [List.flatten_cons, List.flatten_nil, List.append_nil, List.append_assoc]) (by show List.flatten [wI g p_a 29 q, wO g o_a o_th o_ts o_pl o_nf o_ne o_rf o_re o_ac o_cm o_sd (w + (apI a (m_pl f))) o_sm o_sf o_rm o_rs, wML g o_a m_pl m_yl m_nd m_hm m_wk m_kd] = _; simp only [List.flatten_cons, List.flatten_nil, List.append_nil, List.append_assoc]) ?_
          refine V_cSi (ws' := ((wI g p_a 29 q)) ++ ((wO g o_a o_th o_ts o_pl o_nf o_ne o_rf o_re o_ac o_cm o_sd (w + (apI a (m_pl f))) o_sm o_sf o_rm o_rs) ++ (wML g o_a m_pl m_yl m_nd m_hm m_wk m_kd))) (List.range _) 3 X (c_X6_owed g l p_a q  e f (by omega) (by omega)) k_RX6_117 hy_X6_owed.2 (by decide) (range_at _ _) (range_nd _) nX6_goes_119 rfl rfl (Nat.le_of_ble_eq_true rfl) (wput_range _ _ _ (by simp only [List.length_append, wI_len])) ?_
          refine V_blk (ws' := (wO g o_a o_th o_ts o_pl o_nf o_ne o_rf o_re o_ac o_cm o_sd (w + (apI a (m_pl f))) o_sm o_sf o_rm o_rs) ++ (wML g o_a m_pl m_yl m_nd m_hm m_wk m_kd) ++ (wI g p_a 29 q)) [wI g p_a 29 q, wO g o_a o_th o_ts o_pl o_nf o_ne o_rf o_re o_ac o_cm o_sd (w + (apI a (m_pl f))) o_sm o_sf o_rm o_rs, wML g o_a m_pl m_yl m_nd m_hm m_wk m_kd] [1, 2, 0] rfl (by simp only [List.flatten_cons, List.flatten_nil, List.append_nil, List.append_assoc]) (by show List.flatten [wO g o_a o_th o_ts o_pl o_nf o_ne o_rf o_re o_ac o_cm o_sd (w + (apI a (m_pl f))) o_sm o_sf o_rm o_rs, wML g o_a m_pl m_yl m_nd m_hm m_wk m_kd, wI g p_a 29 q] = _; simp only [List.flatten_cons, List.flatten_nil, List.append_nil, List.append_assoc]) ?_
          refine V_iadd (v := (q (4 + f)) + (q (8 + 4 * e + f))) nX6_goes_122 rfl ?_
          refine V_cSi (ws' := (wO g o_a o_th o_ts o_pl o_nf o_ne o_rf o_re o_ac o_cm o_sd (w + (apI a (m_pl f))) o_sm o_sf o_rm o_rs) ++ (wML g o_a m_pl m_yl m_nd m_hm m_wk m_kd) ++ (wI g p_a 29 q)) [] 1 X (c_X6_capped g l   ((q (4 + f)) + (q (8 + 4 * e + f))) ) k_RX6_130 hy_X6_capped.2 (by decide) rfl (by decide) nX6_goes_123 rfl rfl (Nat.le_of_ble_eq_true rfl) rfl ?_
          refine V_iast (ws' := (wO g o_a o_th o_ts o_pl o_nf o_ne o_rf o_re o_ac o_cm o_sd (w + (apI a (m_pl f))) o_sm o_sf o_rm o_rs) ++ (wML g o_a m_pl m_yl m_nd m_hm m_wk m_kd) ++ (wI g p_a 29 (upd q (4 + f) (capI ((q (4 + f)) + (q (8 + 4 * e + f))))))) 7 nX6_goes_126 rfl (by omega) (by decide) rfl ?_
          refine V_aload_n nX6_goes_127 rfl ?_
          refine V_bipush (v := (nI 8)) nX6_goes_128 (by decide) ?_
          refine V_iconst (v := (nI 4)) nX6_goes_130 rfl ?_
          refine V_iload_n nX6_goes_131 rfl ?_
          refine V_imul (v := nI (4 * e)) nX6_goes_132 (pk_mul 4 e) ?_
          refine V_iadd (v := nI (8 + (4 * e))) nX6_goes_133 (nI_add 8 (4 * e)) ?_
          refine V_iload nX6_goes_134 rfl ?_
          refine V_iadd (v := nI ((8 + (4 * e)) + f)) nX6_goes_136 (nI_add (8 + (4 * e)) f) ?_
          refine V_iconst (v := (nI 0)) nX6_goes_137 rfl ?_
          refine V_iast (ws' := (wO g o_a o_th o_ts o_pl o_nf o_ne o_rf o_re o_ac o_cm o_sd (w + (apI a (m_pl f))) o_sm o_sf o_rm o_rs) ++ (wML g o_a m_pl m_yl m_nd m_hm m_wk m_kd) ++ (wI g p_a 29 (upd (upd q (4 + f) (capI ((q (4 + f)) + (q (8 + 4 * e + f))))) ((8 + (4 * e)) + f) (nI 0)))) 7 nX6_goes_138 rfl (by omega) (by decide) rfl ?_
          refine V_iload nX6_goes_139 rfl ?_
          refine V_iconst (v := (nI 1)) nX6_goes_141 rfl ?_
          refine V_iload nX6_goes_142 rfl ?_
          refine V_ishl (v := nI (2 ^ f)) nX6_goes_144 (nI_shl1 (by omega)) ?_
          refine V_ior (v := c ||| (nI (2 ^ f))) nX6_goes_145 rfl ?_
          refine V_istore (lv' := [(0, .ref (o_a 0)), (1, .ref p_a), (2, .int (nI e)), (4, .int (m_pl f)), (5, .int (y - (apI a (m_pl f)))), (6, .int (c ||| (nI (2 ^ f)))), (7, .int (nI f)), (8, .int (apI a (m_pl f)))]) nX6_goes_146 (by decide) rfl ?_
          refine V_aload_n nX6_goes_148 rfl ?_
          refine V_aload_n nX6_goes_149 rfl ?_
          refine V_iload_n nX6_goes_150 rfl ?_
          refine V_iload nX6_goes_151 rfl ?_
          refine V_blk (ws' := ((wO g o_a o_th o_ts o_pl o_nf o_ne o_rf o_re o_ac o_cm o_sd (w + (apI a (m_pl f))) o_sm o_sf o_rm o_rs) ++ (wML g o_a m_pl m_yl m_nd m_hm m_wk m_kd) ++ (wI g p_a 29 (upd (upd q (4 + f) (capI ((q (4 + f)) + (q (8 + 4 * e + f))))) ((8 + (4 * e)) + f) (nI 0)))) ++ ([] : va_W)) [wO g o_a o_th o_ts o_pl o_nf o_ne o_rf o_re o_ac o_cm o_sd (w + (apI a (m_pl f))) o_sm o_sf o_rm o_rs, wML g o_a m_pl m_yl m_nd m_hm m_wk m_kd, wI g p_a 29 (upd (upd q (4 + f) (capI ((q (4 + f)) + (q (8 + 4 * e + f))))) ((8 + (4 * e)) + f) (nI 0))] [0, 1, 2] rfl (by simp only [List.flatten_cons, List.flatten_nil, List.append_nil, List.append_assoc]) (by show List.flatten [wO g o_a o_th o_ts o_pl o_nf o_ne o_rf o_re o_ac o_cm o_sd (w + (apI a (m_pl f))) o_sm o_sf o_rm o_rs, wML g o_a m_pl m_yl m_nd m_hm m_wk m_kd, wI g p_a 29 (upd (upd q (4 + f) (capI ((q (4 + f)) + (q (8 + 4 * e + f))))) ((8 + (4 * e)) + f) (nI 0))] = _; simp only [List.flatten_cons, List.flatten_nil, List.append_nil, List.append_assoc]) ?_
          refine V_cVi (C := (RX6, TX6, 34)) (ci := 6) (ws' := ((wO g o_a o_th o_ts o_pl o_nf o_ne o_rf o_re o_ac o_cm o_sd (w + (apI a (m_pl f))) o_sm o_sf o_rm o_rs) ++ (wML g o_a m_pl m_yl m_nd m_hm m_wk m_kd) ++ (wI g p_a 29 (upd (upd q (4 + f) (capI ((q (4 + f)) + (q (8 + 4 * e + f))))) ((8 + (4 * e)) + f) (nI 0)))) ++ ([] : va_W)) (List.range _) 3 X (c_X6_nearest g l o_a o_th o_ts o_pl o_nf o_ne o_rf o_re o_ac o_cm o_sd (w + (apI a (m_pl f))) o_sm o_sf o_rm o_rs m_pl m_yl m_nd m_hm m_wk m_kd p_a (upd (upd q (4 + f) (capI ((q (4 + f)) + (q (8 + 4 * e + f))))) ((8 + (4 * e)) + f) (nI 0))  e (m_pl f) (by omega) (by omega)) k_RX6_127 hy_X6_nearest (by decide) (range_at _ _) (range_nd _) 0 rfl rfl nX6_goes_153 rfl rfl (Nat.le_of_ble_eq_true rfl) (wput_range _ _ _ (by simp only [List.length_append, wI_len, wML_len, wO_len])) ?_
          refine V_blk (ws' := (wO g o_a o_th o_ts o_pl o_nf o_ne o_rf o_re o_ac o_cm o_sd (w + (apI a (m_pl f))) o_sm o_sf o_rm o_rs) ++ (wML g o_a m_pl m_yl m_nd m_hm m_wk m_kd) ++ (wI g p_a 29 (upd (upd q (4 + f) (capI ((q (4 + f)) + (q (8 + 4 * e + f))))) ((8 + (4 * e)) + f) (nI 0)))) [wO g o_a o_th o_ts o_pl o_nf o_ne o_rf o_re o_ac o_cm o_sd (w + (apI a (m_pl f))) o_sm o_sf o_rm o_rs, wML g o_a m_pl m_yl m_nd m_hm m_wk m_kd, wI g p_a 29 (upd (upd q (4 + f) (capI ((q (4 + f)) + (q (8 + 4 * e + f))))) ((8 + (4 * e)) + f) (nI 0))] [0, 1, 2] rfl (by simp only [List.flatten_cons, List.flatten_nil, List.append_nil, List.append_assoc]) (by show List.flatten [wO g o_a o_th o_ts o_pl o_nf o_ne o_rf o_re o_ac o_cm o_sd (w + (apI a (m_pl f))) o_sm o_sf o_rm o_rs, wML g o_a m_pl m_yl m_nd m_hm m_wk m_kd, wI g p_a 29 (upd (upd q (4 + f) (capI ((q (4 + f)) + (q (8 + 4 * e + f))))) ((8 + (4 * e)) + f) (nI 0))] = _; simp only [List.flatten_cons, List.flatten_nil, List.append_nil, List.append_assoc]) ?_
          refine V_istore (lv' := [(0, .ref (o_a 0)), (1, .ref p_a), (2, .int (nI e)), (4, .int (m_pl f)), (5, .int (y - (apI a (m_pl f)))), (6, .int (c ||| (nI (2 ^ f)))), (7, .int (oI (nmS m_pl (upd (upd q (4 + f) (capI ((q (4 + f)) + (q (8 + 4 * e + f))))) ((8 + (4 * e)) + f) (nI 0)) e (m_pl f) o_nf o_nf))), (8, .int (apI a (m_pl f)))]) nX6_goes_156 (by decide) rfl ?_
          refine V_goto (tgt := 29) nX6_goes_158 rfl ?_
          refine V_pick (lv2 := [(0, .ref (o_a 0)), (1, .ref p_a), (2, .int (nI e)), (4, .int (m_pl f)), (5, .int (y - (apI a (m_pl f)))), (6, .int (c ||| (nI (2 ^ f)))), (7, .int (oI (nmS m_pl (upd (upd q (4 + f) (capI ((q (4 + f)) + (q (8 + 4 * e + f))))) ((8 + (4 * e)) + f) (nI 0)) e (m_pl f) o_nf o_nf)))]) [0, 1, 2, 3, 4, 5, 6] rfl ?_
          exact ih (k - 1) (m_pl f) (y - apI a (m_pl f)) (stP q e f) (c ||| nI (2 ^ f)) (w + apI a (m_pl f)) (by omega) (by omega) (by rw [← hr]; exact (gsP_go (s := (q, c, w)) (by omega) hf hgo).symm)
        · skip
          refine V_iload nX6_goes_46 rfl ?_
          refine V_aload_n nX6_goes_48 rfl ?_
          refine V_get6 0 5 (by decide) f_RX6_13 nX6_goes_49 rfl rfl ?_
          refine V_iload nX6_goes_52 rfl ?_
          refine V_iald 1 nX6_goes_54 rfl (by omega) (by decide) rfl ?_
          refine V_cSi (ws' := (wO g o_a o_th o_ts o_pl o_nf o_ne o_rf o_re o_ac o_cm o_sd w o_sm o_sf o_rm o_rs) ++ (wML g o_a m_pl m_yl m_nd m_hm m_wk m_kd) ++ (wI g p_a 29 q)) [] 2 X (c_X6_apart g l   a (m_pl f) ) k_RX6_121 hy_X6_apart.2 (by decide) rfl (by decide) nX6_goes_55 rfl rfl (Nat.le_of_ble_eq_true rfl) rfl ?_
          refine V_iload nX6_goes_58 rfl ?_
          refine V_icmp_gt (tgt := 161) nX6_goes_60 rfl (fun h60 => ?_) (fun h60 => ?_)
          · skip
            have hre := hr
            rw [gsP_stop (s := (q, c, w)) hf h43 (by rw [Int32.lt_iff_toInt_lt] at h60; rw [Int32.le_iff_toInt_le]; omega)] at hre
            refine V_iload nX6_goes_161 rfl ?_
            exact R_i rfl X hQ nX6_goes_163 (by simp only [List.map_append, wI_fst, wML_fst, wO_fst]) (⟨by rw [← hre], by rw [← hre]⟩)
          · skip
            have hgo : m_kd e = nI 1 ∨ apI a (m_pl f) ≤ y := Or.inr (by rw [Int32.lt_iff_toInt_lt] at h60; rw [Int32.le_iff_toInt_le]; omega)
            refine V_iload nX6_goes_63 rfl ?_
            refine V_aload_n nX6_goes_65 rfl ?_
            refine V_get6 0 5 (by decide) f_RX6_13 nX6_goes_66 rfl rfl ?_
            refine V_iload nX6_goes_69 rfl ?_
            refine V_iald 1 nX6_goes_71 rfl (by omega) (by decide) rfl ?_
            refine V_cSi (ws' := (wO g o_a o_th o_ts o_pl o_nf o_ne o_rf o_re o_ac o_cm o_sd w o_sm o_sf o_rm o_rs) ++ (wML g o_a m_pl m_yl m_nd m_hm m_wk m_kd) ++ (wI g p_a 29 q)) [] 2 X (c_X6_apart g l   a (m_pl f) ) k_RX6_121 hy_X6_apart.2 (by decide) rfl (by decide) nX6_goes_72 rfl rfl (Nat.le_of_ble_eq_true rfl) rfl ?_
            refine V_istore (lv' := [(0, .ref (o_a 0)), (1, .ref p_a), (2, .int (nI e)), (4, .int a), (5, .int y), (6, .int c), (7, .int (nI f)), (8, .int (apI a (m_pl f)))]) nX6_goes_75 (by decide) rfl ?_
            refine V_aload_n nX6_goes_77 rfl ?_
            refine V_dup nX6_goes_78 rfl ?_
            refine V_get6 0 26 (by decide) f_RX6_124 nX6_goes_79 rfl rfl ?_
            refine V_iload nX6_goes_82 rfl ?_
            refine V_iadd (v := w + (apI a (m_pl f))) nX6_goes_84 rfl ?_
            refine V_put6 (ws' := (wO g o_a o_th o_ts o_pl o_nf o_ne o_rf o_re o_ac o_cm o_sd (w + (apI a (m_pl f))) o_sm o_sf o_rm o_rs) ++ (wML g o_a m_pl m_yl m_nd m_hm m_wk m_kd) ++ (wI g p_a 29 q)) 0 26 (by decide) f_RX6_124 rfl rfl rfl rfl nX6_goes_85 rfl (Nat.le_of_ble_eq_true rfl) rfl ?_
            refine V_iload nX6_goes_88 rfl ?_
            refine V_iload nX6_goes_90 rfl ?_
            refine V_isub (v := y - (apI a (m_pl f))) nX6_goes_92 rfl ?_
            refine V_istore (lv' := [(0, .ref (o_a 0)), (1, .ref p_a), (2, .int (nI e)), (4, .int a), (5, .int (y - (apI a (m_pl f)))), (6, .int c), (7, .int (nI f)), (8, .int (apI a (m_pl f)))]) nX6_goes_93 (by decide) rfl ?_
            refine V_aload_n nX6_goes_95 rfl ?_
            refine V_get6 0 5 (by decide) f_RX6_13 nX6_goes_96 rfl rfl ?_
            refine V_iload nX6_goes_99 rfl ?_
            refine V_iald 1 nX6_goes_101 rfl (by omega) (by decide) rfl ?_
            refine V_istore (lv' := [(0, .ref (o_a 0)), (1, .ref p_a), (2, .int (nI e)), (4, .int (m_pl f)), (5, .int (y - (apI a (m_pl f)))), (6, .int c), (7, .int (nI f)), (8, .int (apI a (m_pl f)))]) nX6_goes_102 (by decide) rfl ?_
            refine V_aload_n nX6_goes_104 rfl ?_
            refine V_iconst (v := (nI 4)) nX6_goes_105 rfl ?_
            refine V_iload nX6_goes_106 rfl ?_
            refine V_iadd (v := nI (4 + f)) nX6_goes_108 (nI_add 4 f) ?_
            refine V_aload_n nX6_goes_109 rfl ?_
            refine V_iconst (v := (nI 4)) nX6_goes_110 rfl ?_
            refine V_iload nX6_goes_111 rfl ?_
            refine V_iadd (v := nI (4 + f)) nX6_goes_113 (nI_add 4 f) ?_
            refine V_iald 7 nX6_goes_114 rfl (by omega) (by decide) rfl ?_
            refine V_aload_n nX6_goes_115 rfl ?_
            refine V_iload_n nX6_goes_116 rfl ?_
            refine V_iload nX6_goes_117 rfl ?_
            refine V_blk (ws' := ((wI g p_a 29 q)) ++ ((wO g o_a o_th o_ts o_pl o_nf o_ne o_rf o_re o_ac o_cm o_sd (w + (apI a (m_pl f))) o_sm o_sf o_rm o_rs) ++ (wML g o_a m_pl m_yl m_nd m_hm m_wk m_kd))) [wO g o_a o_th o_ts o_pl o_nf o_ne o_rf o_re o_ac o_cm o_sd (w + (apI a (m_pl f))) o_sm o_sf o_rm o_rs, wML g o_a m_pl m_yl m_nd m_hm m_wk m_kd, wI g p_a 29 q] [2, 0, 1] rfl (by simp only [List.flatten_cons, List.flatten_nil, List.append_nil, List.append_assoc]) (by show List.flatten [wI g p_a 29 q, wO g o_a o_th o_ts o_pl o_nf o_ne o_rf o_re o_ac o_cm o_sd (w + (apI a (m_pl f))) o_sm o_sf o_rm o_rs, wML g o_a m_pl m_yl m_nd m_hm m_wk m_kd] = _; simp only [List.flatten_cons, List.flatten_nil, List.append_nil, List.append_assoc]) ?_
            refine V_cSi (ws' := ((wI g p_a 29 q)) ++ ((wO g o_a o_th o_ts o_pl o_nf o_ne o_rf o_re o_ac o_cm o_sd (w + (apI a (m_pl f))) o_sm o_sf o_rm o_rs) ++ (wML g o_a m_pl m_yl m_nd m_hm m_wk m_kd))) (List.range _) 3 X (c_X6_owed g l p_a q  e f (by omega) (by omega)) k_RX6_117 hy_X6_owed.2 (by decide) (range_at _ _) (range_nd _) nX6_goes_119 rfl rfl (Nat.le_of_ble_eq_true rfl) (wput_range _ _ _ (by simp only [List.length_append, wI_len])) ?_
            refine V_blk (ws' := (wO g o_a o_th o_ts o_pl o_nf o_ne o_rf o_re o_ac o_cm o_sd (w + (apI a (m_pl f))) o_sm o_sf o_rm o_rs) ++ (wML g o_a m_pl m_yl m_nd m_hm m_wk m_kd) ++ (wI g p_a 29 q)) [wI g p_a 29 q, wO g o_a o_th o_ts o_pl o_nf o_ne o_rf o_re o_ac o_cm o_sd (w + (apI a (m_pl f))) o_sm o_sf o_rm o_rs, wML g o_a m_pl m_yl m_nd m_hm m_wk m_kd] [1, 2, 0] rfl (by simp only [List.flatten_cons, List.flatten_nil, List.append_nil, List.append_assoc]) (by show List.flatten [wO g o_a o_th o_ts o_pl o_nf o_ne o_rf o_re o_ac o_cm o_sd (w + (apI a (m_pl f))) o_sm o_sf o_rm o_rs, wML g o_a m_pl m_yl m_nd m_hm m_wk m_kd, wI g p_a 29 q] = _; simp only [List.flatten_cons, List.flatten_nil, List.append_nil, List.append_assoc]) ?_
            refine V_iadd (v := (q (4 + f)) + (q (8 + 4 * e + f))) nX6_goes_122 rfl ?_
            refine V_cSi (ws' := (wO g o_a o_th o_ts o_pl o_nf o_ne o_rf o_re o_ac o_cm o_sd (w + (apI a (m_pl f))) o_sm o_sf o_rm o_rs) ++ (wML g o_a m_pl m_yl m_nd m_hm m_wk m_kd) ++ (wI g p_a 29 q)) [] 1 X (c_X6_capped g l   ((q (4 + f)) + (q (8 + 4 * e + f))) ) k_RX6_130 hy_X6_capped.2 (by decide) rfl (by decide) nX6_goes_123 rfl rfl (Nat.le_of_ble_eq_true rfl) rfl ?_
            refine V_iast (ws' := (wO g o_a o_th o_ts o_pl o_nf o_ne o_rf o_re o_ac o_cm o_sd (w + (apI a (m_pl f))) o_sm o_sf o_rm o_rs) ++ (wML g o_a m_pl m_yl m_nd m_hm m_wk m_kd) ++ (wI g p_a 29 (upd q (4 + f) (capI ((q (4 + f)) + (q (8 + 4 * e + f))))))) 7 nX6_goes_126 rfl (by omega) (by decide) rfl ?_
            refine V_aload_n nX6_goes_127 rfl ?_
            refine V_bipush (v := (nI 8)) nX6_goes_128 (by decide) ?_
            refine V_iconst (v := (nI 4)) nX6_goes_130 rfl ?_
            refine V_iload_n nX6_goes_131 rfl ?_
            refine V_imul (v := nI (4 * e)) nX6_goes_132 (pk_mul 4 e) ?_
            refine V_iadd (v := nI (8 + (4 * e))) nX6_goes_133 (nI_add 8 (4 * e)) ?_
            refine V_iload nX6_goes_134 rfl ?_
            refine V_iadd (v := nI ((8 + (4 * e)) + f)) nX6_goes_136 (nI_add (8 + (4 * e)) f) ?_
            refine V_iconst (v := (nI 0)) nX6_goes_137 rfl ?_
            refine V_iast (ws' := (wO g o_a o_th o_ts o_pl o_nf o_ne o_rf o_re o_ac o_cm o_sd (w + (apI a (m_pl f))) o_sm o_sf o_rm o_rs) ++ (wML g o_a m_pl m_yl m_nd m_hm m_wk m_kd) ++ (wI g p_a 29 (upd (upd q (4 + f) (capI ((q (4 + f)) + (q (8 + 4 * e + f))))) ((8 + (4 * e)) + f) (nI 0)))) 7 nX6_goes_138 rfl (by omega) (by decide) rfl ?_
            refine V_iload nX6_goes_139 rfl ?_
            refine V_iconst (v := (nI 1)) nX6_goes_141 rfl ?_
            refine V_iload nX6_goes_142 rfl ?_
            refine V_ishl (v := nI (2 ^ f)) nX6_goes_144 (nI_shl1 (by omega)) ?_
            refine V_ior (v := c ||| (nI (2 ^ f))) nX6_goes_145 rfl ?_
            refine V_istore (lv' := [(0, .ref (o_a 0)), (1, .ref p_a), (2, .int (nI e)), (4, .int (m_pl f)), (5, .int (y - (apI a (m_pl f)))), (6, .int (c ||| (nI (2 ^ f)))), (7, .int (nI f)), (8, .int (apI a (m_pl f)))]) nX6_goes_146 (by decide) rfl ?_
            refine V_aload_n nX6_goes_148 rfl ?_
            refine V_aload_n nX6_goes_149 rfl ?_
            refine V_iload_n nX6_goes_150 rfl ?_
            refine V_iload nX6_goes_151 rfl ?_
            refine V_blk (ws' := ((wO g o_a o_th o_ts o_pl o_nf o_ne o_rf o_re o_ac o_cm o_sd (w + (apI a (m_pl f))) o_sm o_sf o_rm o_rs) ++ (wML g o_a m_pl m_yl m_nd m_hm m_wk m_kd) ++ (wI g p_a 29 (upd (upd q (4 + f) (capI ((q (4 + f)) + (q (8 + 4 * e + f))))) ((8 + (4 * e)) + f) (nI 0)))) ++ ([] : va_W)) [wO g o_a o_th o_ts o_pl o_nf o_ne o_rf o_re o_ac o_cm o_sd (w + (apI a (m_pl f))) o_sm o_sf o_rm o_rs, wML g o_a m_pl m_yl m_nd m_hm m_wk m_kd, wI g p_a 29 (upd (upd q (4 + f) (capI ((q (4 + f)) + (q (8 + 4 * e + f))))) ((8 + (4 * e)) + f) (nI 0))] [0, 1, 2] rfl (by simp only [List.flatten_cons, List.flatten_nil, List.append_nil, List.append_assoc]) (by show List.flatten [wO g o_a o_th o_ts o_pl o_nf o_ne o_rf o_re o_ac o_cm o_sd (w + (apI a (m_pl f))) o_sm o_sf o_rm o_rs, wML g o_a m_pl m_yl m_nd m_hm m_wk m_kd, wI g p_a 29 (upd (upd q (4 + f) (capI ((q (4 + f)) + (q (8 + 4 * e + f))))) ((8 + (4 * e)) + f) (nI 0))] = _; simp only [List.flatten_cons, List.flatten_nil, List.append_nil, List.append_assoc]) ?_
            refine V_cVi (C := (RX6, TX6, 34)) (ci := 6) (ws' := ((wO g o_a o_th o_ts o_pl o_nf o_ne o_rf o_re o_ac o_cm o_sd (w + (apI a (m_pl f))) o_sm o_sf o_rm o_rs) ++ (wML g o_a m_pl m_yl m_nd m_hm m_wk m_kd) ++ (wI g p_a 29 (upd (upd q (4 + f) (capI ((q (4 + f)) + (q (8 + 4 * e + f))))) ((8 + (4 * e)) + f) (nI 0)))) ++ ([] : va_W)) (List.range _) 3 X (c_X6_nearest g l o_a o_th o_ts o_pl o_nf o_ne o_rf o_re o_ac o_cm o_sd (w + (apI a (m_pl f))) o_sm o_sf o_rm o_rs m_pl m_yl m_nd m_hm m_wk m_kd p_a (upd (upd q (4 + f) (capI ((q (4 + f)) + (q (8 + 4 * e + f))))) ((8 + (4 * e)) + f) (nI 0))  e (m_pl f) (by omega) (by omega)) k_RX6_127 hy_X6_nearest (by decide) (range_at _ _) (range_nd _) 0 rfl rfl nX6_goes_153 rfl rfl (Nat.le_of_ble_eq_true rfl) (wput_range _ _ _ (by simp only [List.length_append, wI_len, wML_len, wO_len])) ?_
            refine V_blk (ws' := (wO g o_a o_th o_ts o_pl o_nf o_ne o_rf o_re o_ac o_cm o_sd (w + (apI a (m_pl f))) o_sm o_sf o_rm o_rs) ++ (wML g o_a m_pl m_yl m_nd m_hm m_wk m_kd) ++ (wI g p_a 29 (upd (upd q (4 + f) (capI ((q (4 + f)) + (q (8 + 4 * e + f))))) ((8 + (4 * e)) + f) (nI 0)))) [wO g o_a o_th o_ts o_pl o_nf o_ne o_rf o_re o_ac o_cm o_sd (w + (apI a (m_pl f))) o_sm o_sf o_rm o_rs, wML g o_a m_pl m_yl m_nd m_hm m_wk m_kd, wI g p_a 29 (upd (upd q (4 + f) (capI ((q (4 + f)) + (q (8 + 4 * e + f))))) ((8 + (4 * e)) + f) (nI 0))] [0, 1, 2] rfl (by simp only [List.flatten_cons, List.flatten_nil, List.append_nil, List.append_assoc]) (by show List.flatten [wO g o_a o_th o_ts o_pl o_nf o_ne o_rf o_re o_ac o_cm o_sd (w + (apI a (m_pl f))) o_sm o_sf o_rm o_rs, wML g o_a m_pl m_yl m_nd m_hm m_wk m_kd, wI g p_a 29 (upd (upd q (4 + f) (capI ((q (4 + f)) + (q (8 + 4 * e + f))))) ((8 + (4 * e)) + f) (nI 0))] = _; simp only [List.flatten_cons, List.flatten_nil, List.append_nil, List.append_assoc]) ?_
            refine V_istore (lv' := [(0, .ref (o_a 0)), (1, .ref p_a), (2, .int (nI e)), (4, .int (m_pl f)), (5, .int (y - (apI a (m_pl f)))), (6, .int (c ||| (nI (2 ^ f)))), (7, .int (oI (nmS m_pl (upd (upd q (4 + f) (capI ((q (4 + f)) + (q (8 + 4 * e + f))))) ((8 + (4 * e)) + f) (nI 0)) e (m_pl f) o_nf o_nf))), (8, .int (apI a (m_pl f)))]) nX6_goes_156 (by decide) rfl ?_
            refine V_goto (tgt := 29) nX6_goes_158 rfl ?_
            refine V_pick (lv2 := [(0, .ref (o_a 0)), (1, .ref p_a), (2, .int (nI e)), (4, .int (m_pl f)), (5, .int (y - (apI a (m_pl f)))), (6, .int (c ||| (nI (2 ^ f)))), (7, .int (oI (nmS m_pl (upd (upd q (4 + f) (capI ((q (4 + f)) + (q (8 + 4 * e + f))))) ((8 + (4 * e)) + f) (nI 0)) e (m_pl f) o_nf o_nf)))]) [0, 1, 2, 3, 4, 5, 6] rfl ?_
            exact ih (k - 1) (m_pl f) (y - apI a (m_pl f)) (stP q e f) (c ||| nI (2 ^ f)) (w + apI a (m_pl f)) (by omega) (by omega) (by rw [← hr]; exact (gsP_go (s := (q, c, w)) (by omega) hf hgo).symm)
  refine V_pick (lv2 := [(0, .ref (o_a 0)), (1, .ref p_a), (2, .int (nI e)), (4, .int (m_hm e)), (5, .int x), (6, .int (nI 0)), (7, .int (oI (nmS m_pl p_f e (m_hm e) o_nf o_nf)))]) [0, 1, 2, 4, 5, 6, 7] rfl ?_
  exact L29 _ 4 (m_hm e) x p_f (nI 0) (nI 0) (Nat.lt_succ_self _) (Nat.le_trans (cnP_le _ _ _) hnf) (rfl)

set_option maxHeartbeats 4000000 in
set_option maxRecDepth 100000 in
theorem c_X6_sown (g : Gx) (l : Launch) (o_a : Nat → Nat) (o_th : Int32) (o_ts : Nat) (o_pl : Nat) (o_nf : Nat) (o_ne : Nat) (o_rf : Nat) (o_re : Nat) (o_ac : Nat) (o_cm : Nat) (o_sd : Int64) (o_wf : Int32) (o_sm : Int32) (o_sf : Int32) (o_rm : Int32) (o_rs : Int32) (m_pl : Nat → Int32) (m_yl : Nat → Int32) (m_nd : Nat → Int32) (m_hm : Nat → Int32) (m_wk : Nat → Int32) (m_kd : Nat → Int32) (p_a : Nat) (p_f : Nat → Int32)   (hnf : o_nf ≤ 4) : Cd g l yX6_sown mX6_sown ({ frames := 0, cells := 0, slots := 0, locals := 0 } : Room) [.ref (o_a 0), .ref p_a] ((wO g o_a o_th o_ts o_pl o_nf o_ne o_rf o_re o_ac o_cm o_sd o_wf o_sm o_sf o_rm o_rs) ++ (wML g o_a m_pl m_yl m_nd m_hm m_wk m_kd) ++ (wI g p_a 29 p_f)) (some (.int (nI (swP m_nd p_f o_nf)))) ((wO g o_a o_th o_ts o_pl o_nf o_ne o_rf o_re o_ac o_cm o_sd o_wf o_sm o_sf o_rm o_rs) ++ (wML g o_a m_pl m_yl m_nd m_hm m_wk m_kd) ++ (wI g p_a 29 p_f)) := by
  refine Ct.of (lv := [(0, .ref (o_a 0)), (1, .ref p_a)]) ⟨by decide +kernel, rfl, Nat.le_of_ble_eq_true rfl⟩ rfl (fun E A sz Q X hQ => ?_)
  refine V_iconst (v := (nI 0)) nX6_sown_0 rfl ?_
  refine V_istore_n (lv' := [(0, .ref (o_a 0)), (1, .ref p_a), (2, .int (nI 0))]) nX6_sown_1 (by decide) rfl ?_
  refine V_iconst (v := (nI 0)) nX6_sown_2 rfl ?_
  refine V_istore_n (lv' := [(0, .ref (o_a 0)), (1, .ref p_a), (2, .int (nI 0)), (3, .int (nI 0))]) nX6_sown_3 (by decide) rfl ?_
  have L4 : ∀ (n : Nat) (i : Nat), o_nf - i < n → i ≤ o_nf → V g E mX6_sown A Q 0 0 ((wO g o_a o_th o_ts o_pl o_nf o_ne o_rf o_re o_ac o_cm o_sd o_wf o_sm o_sf o_rm o_rs) ++ (wML g o_a m_pl m_yl m_nd m_hm m_wk m_kd) ++ (wI g p_a 29 p_f)) 4 [(0, .ref (o_a 0)), (1, .ref p_a), (2, .int (nI (bitsN (isSw m_nd (fun f => p_f (4 + f))) i))), (3, .int (nI i))] [] := by
    intro n
    induction n with
    | zero => intro i hm; exact absurd hm (Nat.not_lt_zero _)
    | succ n ih =>
      intro i hm hi
      refine V_iload_n nX6_sown_4 rfl ?_
      refine V_aload_n nX6_sown_5 rfl ?_
      refine V_get6 0 4 (by decide) f_RX6_72 nX6_sown_6 rfl rfl ?_
      refine V_icmp_ge_N (tgt := 42) nX6_sown_9 rfl (by omega) (by omega) (fun h9 => ?_) (fun h9 => ?_)
      · skip
        have hx_i : o_nf = i := by omega
        subst hx_i
        refine V_iload_n nX6_sown_42 rfl ?_
        exact R_i rfl X hQ nX6_sown_43 (by simp only [List.map_append, wI_fst, wML_fst, wO_fst]) (⟨rfl, rfl⟩)
      · skip
        refine V_iload_n nX6_sown_12 rfl ?_
        refine V_aload_n nX6_sown_13 rfl ?_
        refine V_iconst (v := (nI 4)) nX6_sown_14 rfl ?_
        refine V_iload_n nX6_sown_15 rfl ?_
        refine V_iadd (v := nI (4 + i)) nX6_sown_16 (nI_add 4 i) ?_
        refine V_iald 7 nX6_sown_17 rfl (by omega) (by decide) rfl ?_
        refine V_aload_n nX6_sown_18 rfl ?_
        refine V_get6 0 7 (by decide) f_RX6_19 nX6_sown_19 rfl rfl ?_
        refine V_iload_n nX6_sown_22 rfl ?_
        refine V_iald 3 nX6_sown_23 rfl (by omega) (by decide) rfl ?_
        refine V_joinN (b := !decide ((p_f (4 + i)) < (m_nd i))) (x := (2 ^ i)) (y := 0) (pj := 34) (st := [.int (nI (bitsN (isSw m_nd (fun f => p_f (4 + f))) i))]) (fun J1 J2 => ?_) ?_
        · skip
          refine V_icmp_lt (tgt := 33) nX6_sown_24 rfl (fun h24 => ?_) (fun h24 => ?_)
          · skip
            refine V_iconst (v := (nI 0)) nX6_sown_33 rfl ?_
            exact J2 (by simp [h24])
          · skip
            refine V_iconst (v := (nI 1)) nX6_sown_27 rfl ?_
            refine V_iload_n nX6_sown_28 rfl ?_
            refine V_ishl (v := nI (2 ^ i)) nX6_sown_29 (nI_shl1 (by omega)) ?_
            refine V_goto (tgt := 34) nX6_sown_30 rfl ?_
            exact J1 (by simp [h24])
        refine V_ior (v := nI ((bitsN (isSw m_nd (fun f => p_f (4 + f))) i) ||| (if (!decide ((p_f (4 + i)) < (m_nd i))) = true then 2 ^ i else 0))) nX6_sown_34 (nx_or (bitsN (isSw m_nd (fun f => p_f (4 + f))) i) (if (!decide ((p_f (4 + i)) < (m_nd i))) = true then 2 ^ i else 0)) ?_
        refine V_istore_n (lv' := [(0, .ref (o_a 0)), (1, .ref p_a), (2, .int (nI ((bitsN (isSw m_nd (fun f => p_f (4 + f))) i) ||| (if (!decide ((p_f (4 + i)) < (m_nd i))) = true then 2 ^ i else 0)))), (3, .int (nI i))]) nX6_sown_35 (by decide) rfl ?_
        refine V_iinc (v := nI (i + 1)) (lv' := [(0, .ref (o_a 0)), (1, .ref p_a), (2, .int (nI ((bitsN (isSw m_nd (fun f => p_f (4 + f))) i) ||| (if (!decide ((p_f (4 + i)) < (m_nd i))) = true then 2 ^ i else 0)))), (3, .int (nI (i + 1)))]) nX6_sown_36 rfl (nI_add i 1) (by decide) rfl ?_
        refine V_goto (tgt := 4) nX6_sown_39 rfl ?_
        exact ih (i + 1) (by omega) (by omega)
  exact L4 _ 0 (Nat.lt_succ_self _) (by omega)

set_option maxHeartbeats 4000000 in
set_option maxRecDepth 100000 in
theorem c_X6_goMarch (g : Gx) (l : Launch) (o_a : Nat → Nat) (o_th : Int32) (o_ts : Nat) (o_pl : Nat) (o_nf : Nat) (o_ne : Nat) (o_rf : Nat) (o_re : Nat) (o_ac : Nat) (o_cm : Nat) (o_sd : Int64) (o_wf : Int32) (o_sm : Int32) (o_sf : Int32) (o_rm : Int32) (o_rs : Int32) (m_pl : Nat → Int32) (m_yl : Nat → Int32) (m_nd : Nat → Int32) (m_hm : Nat → Int32) (m_wk : Nat → Int32) (m_kd : Nat → Int32) (p_a : Nat) (p_f : Nat → Int32) (r_f : Nat → Int32)  (x : Nat) (hnf : o_nf ≤ 4) (hne : o_ne ≤ 5) (hx : x < 2 ^ 31) : Cd g l yX6_goMarch mX6_goMarch ({ frames := 3, cells := 0, slots := 0, locals := 76 } : Room) [.ref (o_a 0), .ref p_a, .int (nI x)] ((wO g o_a o_th o_ts o_pl o_nf o_ne o_rf o_re o_ac o_cm o_sd o_wf o_sm o_sf o_rm o_rs) ++ (wML g o_a m_pl m_yl m_nd m_hm m_wk m_kd) ++ (wI g p_a 29 p_f) ++ (wI g (o_a 17) 5 r_f)) (some (.int (nI (swP m_nd (mqP m_pl m_hm m_wk m_kd o_nf x p_f o_ne) o_nf)))) ((wO g o_a o_th o_ts o_pl o_nf o_ne o_rf o_re o_ac o_cm o_sd ((mrP m_pl m_hm m_wk m_kd o_nf x (p_f, r_f, o_wf) o_ne).2.2) o_sm o_sf o_rm o_rs) ++ (wML g o_a m_pl m_yl m_nd m_hm m_wk m_kd) ++ (wI g p_a 29 (mqP m_pl m_hm m_wk m_kd o_nf x p_f o_ne)) ++ (wI g (o_a 17) 5 ((mrP m_pl m_hm m_wk m_kd o_nf x (p_f, r_f, o_wf) o_ne).2.1))) := by
  refine Ct.of (lv := [(0, .ref (o_a 0)), (1, .ref p_a), (2, .int (nI x))]) ⟨by decide +kernel, rfl, Nat.le_of_ble_eq_true rfl⟩ rfl (fun E A sz Q X hQ => ?_)
  refine V_iconst (v := (nI 0)) nX6_goMarch_0 rfl ?_
  refine V_istore_n (lv' := [(0, .ref (o_a 0)), (1, .ref p_a), (2, .int (nI x)), (3, .int (nI 0))]) nX6_goMarch_1 (by decide) rfl ?_
  have L2 : ∀ (n : Nat) (i : Nat), o_ne - i < n → i ≤ o_ne → V g E mX6_goMarch A Q 0 0 ((wO g o_a o_th o_ts o_pl o_nf o_ne o_rf o_re o_ac o_cm o_sd ((mrP m_pl m_hm m_wk m_kd o_nf x (p_f, r_f, o_wf) i).2.2) o_sm o_sf o_rm o_rs) ++ (wML g o_a m_pl m_yl m_nd m_hm m_wk m_kd) ++ (wI g p_a 29 ((mrP m_pl m_hm m_wk m_kd o_nf x (p_f, r_f, o_wf) i).1)) ++ (wI g (o_a 17) 5 ((mrP m_pl m_hm m_wk m_kd o_nf x (p_f, r_f, o_wf) i).2.1))) 2 [(0, .ref (o_a 0)), (1, .ref p_a), (2, .int (nI x)), (3, .int (nI i))] [] := by
    intro n
    induction n with
    | zero => intro i hm; exact absurd hm (Nat.not_lt_zero _)
    | succ n ih =>
      intro i hm hi
      refine V_iload_n nX6_goMarch_2 rfl ?_
      refine V_aload_n nX6_goMarch_3 rfl ?_
      refine V_get6 0 8 (by decide) f_RX6_79 nX6_goMarch_4 rfl rfl ?_
      refine V_icmp_ge_N (tgt := 54) nX6_goMarch_7 rfl (by omega) (by omega) (fun h7 => ?_) (fun h7 => ?_)
      · skip
        have hx_i : o_ne = i := by omega
        subst hx_i
        refine V_aload_n nX6_goMarch_54 rfl ?_
        refine V_aload_n nX6_goMarch_55 rfl ?_
        refine V_blk (ws' := ((wO g o_a o_th o_ts o_pl o_nf o_ne o_rf o_re o_ac o_cm o_sd ((mrP m_pl m_hm m_wk m_kd o_nf x (p_f, r_f, o_wf) o_ne).2.2) o_sm o_sf o_rm o_rs) ++ (wML g o_a m_pl m_yl m_nd m_hm m_wk m_kd) ++ (wI g p_a 29 ((mrP m_pl m_hm m_wk m_kd o_nf x (p_f, r_f, o_wf) o_ne).1))) ++ ((wI g (o_a 17) 5 ((mrP m_pl m_hm m_wk m_kd o_nf x (p_f, r_f, o_wf) o_ne).2.1)))) [wO g o_a o_th o_ts o_pl o_nf o_ne o_rf o_re o_ac o_cm o_sd ((mrP m_pl m_hm m_wk m_kd o_nf x (p_f, r_f, o_wf) o_ne).2.2) o_sm o_sf o_rm o_rs, wML g o_a m_pl m_yl m_nd m_hm m_wk m_kd, wI g p_a 29 ((mrP m_pl m_hm m_wk m_kd o_nf x (p_f, r_f, o_wf) o_ne).1), wI g (o_a 17) 5 ((mrP m_pl m_hm m_wk m_kd o_nf x (p_f, r_f, o_wf) o_ne).2.1)] [0, 1, 2, 3] rfl (by simp only [List.flatten_cons, List.flatten_nil, List.append_nil, List.append_assoc]) (by show List.flatten [wO g o_a o_th o_ts o_pl o_nf o_ne o_rf o_re o_ac o_cm o_sd ((mrP m_pl m_hm m_wk m_kd o_nf x (p_f, r_f, o_wf) o_ne).2.2) o_sm o_sf o_rm o_rs, wML g o_a m_pl m_yl m_nd m_hm m_wk m_kd, wI g p_a 29 ((mrP m_pl m_hm m_wk m_kd o_nf x (p_f, r_f, o_wf) o_ne).1), wI g (o_a 17) 5 ((mrP m_pl m_hm m_wk m_kd o_nf x (p_f, r_f, o_wf) o_ne).2.1)] = _; simp only [List.flatten_cons, List.flatten_nil, List.append_nil, List.append_assoc]) ?_
        refine V_cVi (C := (RX6, TX6, 34)) (ci := 6) (ws' := ((wO g o_a o_th o_ts o_pl o_nf o_ne o_rf o_re o_ac o_cm o_sd ((mrP m_pl m_hm m_wk m_kd o_nf x (p_f, r_f, o_wf) o_ne).2.2) o_sm o_sf o_rm o_rs) ++ (wML g o_a m_pl m_yl m_nd m_hm m_wk m_kd) ++ (wI g p_a 29 ((mrP m_pl m_hm m_wk m_kd o_nf x (p_f, r_f, o_wf) o_ne).1))) ++ ((wI g (o_a 17) 5 ((mrP m_pl m_hm m_wk m_kd o_nf x (p_f, r_f, o_wf) o_ne).2.1)))) (List.range _) 1 X (c_X6_sown g l o_a o_th o_ts o_pl o_nf o_ne o_rf o_re o_ac o_cm o_sd ((mrP m_pl m_hm m_wk m_kd o_nf x (p_f, r_f, o_wf) o_ne).2.2) o_sm o_sf o_rm o_rs m_pl m_yl m_nd m_hm m_wk m_kd p_a ((mrP m_pl m_hm m_wk m_kd o_nf x (p_f, r_f, o_wf) o_ne).1)   (by omega)) k_RX6_141 hy_X6_sown (by decide) (range_at _ _) (range_nd _) 0 rfl rfl nX6_goMarch_56 rfl rfl (Nat.le_of_ble_eq_true rfl) (wput_range _ _ _ (by simp only [List.length_append, wI_len, wML_len, wO_len])) ?_
        refine V_blk (ws' := (wO g o_a o_th o_ts o_pl o_nf o_ne o_rf o_re o_ac o_cm o_sd ((mrP m_pl m_hm m_wk m_kd o_nf x (p_f, r_f, o_wf) o_ne).2.2) o_sm o_sf o_rm o_rs) ++ (wML g o_a m_pl m_yl m_nd m_hm m_wk m_kd) ++ (wI g p_a 29 ((mrP m_pl m_hm m_wk m_kd o_nf x (p_f, r_f, o_wf) o_ne).1)) ++ (wI g (o_a 17) 5 ((mrP m_pl m_hm m_wk m_kd o_nf x (p_f, r_f, o_wf) o_ne).2.1))) [wO g o_a o_th o_ts o_pl o_nf o_ne o_rf o_re o_ac o_cm o_sd ((mrP m_pl m_hm m_wk m_kd o_nf x (p_f, r_f, o_wf) o_ne).2.2) o_sm o_sf o_rm o_rs, wML g o_a m_pl m_yl m_nd m_hm m_wk m_kd, wI g p_a 29 ((mrP m_pl m_hm m_wk m_kd o_nf x (p_f, r_f, o_wf) o_ne).1), wI g (o_a 17) 5 ((mrP m_pl m_hm m_wk m_kd o_nf x (p_f, r_f, o_wf) o_ne).2.1)] [0, 1, 2, 3] rfl (by simp only [List.flatten_cons, List.flatten_nil, List.append_nil, List.append_assoc]) (by show List.flatten [wO g o_a o_th o_ts o_pl o_nf o_ne o_rf o_re o_ac o_cm o_sd ((mrP m_pl m_hm m_wk m_kd o_nf x (p_f, r_f, o_wf) o_ne).2.2) o_sm o_sf o_rm o_rs, wML g o_a m_pl m_yl m_nd m_hm m_wk m_kd, wI g p_a 29 ((mrP m_pl m_hm m_wk m_kd o_nf x (p_f, r_f, o_wf) o_ne).1), wI g (o_a 17) 5 ((mrP m_pl m_hm m_wk m_kd o_nf x (p_f, r_f, o_wf) o_ne).2.1)] = _; simp only [List.flatten_cons, List.flatten_nil, List.append_nil, List.append_assoc]) ?_
        exact R_i rfl X hQ nX6_goMarch_59 (by simp only [List.map_append, wI_fst, wML_fst, wO_fst]) (⟨by rw [mrP_1], by rw [mrP_1]⟩)
      · skip
        refine V_aload_n nX6_goMarch_10 rfl ?_
        refine V_get6 0 27 (by decide) f_RX6_59 nX6_goMarch_11 rfl rfl ?_
        refine V_iload_n nX6_goMarch_14 rfl ?_
        refine V_iconst (v := (nI 0)) nX6_goMarch_15 rfl ?_
        refine V_iast (ws' := (wO g o_a o_th o_ts o_pl o_nf o_ne o_rf o_re o_ac o_cm o_sd ((mrP m_pl m_hm m_wk m_kd o_nf x (p_f, r_f, o_wf) i).2.2) o_sm o_sf o_rm o_rs) ++ (wML g o_a m_pl m_yl m_nd m_hm m_wk m_kd) ++ (wI g p_a 29 ((mrP m_pl m_hm m_wk m_kd o_nf x (p_f, r_f, o_wf) i).1)) ++ (wI g (o_a 17) 5 (upd ((mrP m_pl m_hm m_wk m_kd o_nf x (p_f, r_f, o_wf) i).2.1) i (nI 0)))) 8 nX6_goMarch_16 rfl (by omega) (by decide) rfl ?_
        refine V_iload_n nX6_goMarch_17 rfl ?_
        refine V_iload_n nX6_goMarch_18 rfl ?_
        refine V_cSi (ws' := (wO g o_a o_th o_ts o_pl o_nf o_ne o_rf o_re o_ac o_cm o_sd ((mrP m_pl m_hm m_wk m_kd o_nf x (p_f, r_f, o_wf) i).2.2) o_sm o_sf o_rm o_rs) ++ (wML g o_a m_pl m_yl m_nd m_hm m_wk m_kd) ++ (wI g p_a 29 ((mrP m_pl m_hm m_wk m_kd o_nf x (p_f, r_f, o_wf) i).1)) ++ (wI g (o_a 17) 5 (upd ((mrP m_pl m_hm m_wk m_kd o_nf x (p_f, r_f, o_wf) i).2.1) i (nI 0)))) [] 2 X (c_X6_has g l   x i (by omega) (by omega)) k_RX6_134 hy_X6_has.2 (by decide) rfl (by decide) nX6_goMarch_19 rfl rfl (Nat.le_of_ble_eq_true rfl) rfl ?_
        refine V_if_eq_b (tgt := 48) nX6_goMarch_22 rfl (fun h22 => ?_) (fun h22 => ?_)
        · skip
          refine V_iinc (v := nI (i + 1)) (lv' := [(0, .ref (o_a 0)), (1, .ref p_a), (2, .int (nI x)), (3, .int (nI (i + 1)))]) nX6_goMarch_48 rfl (nI_add i 1) (by decide) rfl ?_
          refine V_goto (tgt := 2) nX6_goMarch_51 rfl ?_
          have q := ih (i + 1) (by omega) (by omega)
          rw [show (mrP m_pl m_hm m_wk m_kd o_nf x (p_f, r_f, o_wf) (i + 1)) = _ from if_neg (of_decide_eq_false h22)] at q
          exact q
        · skip
          refine V_aload_n nX6_goMarch_25 rfl ?_
          refine V_aload_n nX6_goMarch_26 rfl ?_
          refine V_iload_n nX6_goMarch_27 rfl ?_
          refine V_aload_n nX6_goMarch_28 rfl ?_
          refine V_get6 0 10 (by decide) f_RX6_25 nX6_goMarch_29 rfl rfl ?_
          refine V_iload_n nX6_goMarch_32 rfl ?_
          refine V_iald 5 nX6_goMarch_33 rfl (by omega) (by decide) rfl ?_
          refine V_blk (ws' := ((wO g o_a o_th o_ts o_pl o_nf o_ne o_rf o_re o_ac o_cm o_sd ((mrP m_pl m_hm m_wk m_kd o_nf x (p_f, r_f, o_wf) i).2.2) o_sm o_sf o_rm o_rs) ++ (wML g o_a m_pl m_yl m_nd m_hm m_wk m_kd) ++ (wI g p_a 29 ((mrP m_pl m_hm m_wk m_kd o_nf x (p_f, r_f, o_wf) i).1))) ++ ((wI g (o_a 17) 5 (upd ((mrP m_pl m_hm m_wk m_kd o_nf x (p_f, r_f, o_wf) i).2.1) i (nI 0))))) [wO g o_a o_th o_ts o_pl o_nf o_ne o_rf o_re o_ac o_cm o_sd ((mrP m_pl m_hm m_wk m_kd o_nf x (p_f, r_f, o_wf) i).2.2) o_sm o_sf o_rm o_rs, wML g o_a m_pl m_yl m_nd m_hm m_wk m_kd, wI g p_a 29 ((mrP m_pl m_hm m_wk m_kd o_nf x (p_f, r_f, o_wf) i).1), wI g (o_a 17) 5 (upd ((mrP m_pl m_hm m_wk m_kd o_nf x (p_f, r_f, o_wf) i).2.1) i (nI 0))] [0, 1, 2, 3] rfl (by simp only [List.flatten_cons, List.flatten_nil, List.append_nil, List.append_assoc]) (by show List.flatten [wO g o_a o_th o_ts o_pl o_nf o_ne o_rf o_re o_ac o_cm o_sd ((mrP m_pl m_hm m_wk m_kd o_nf x (p_f, r_f, o_wf) i).2.2) o_sm o_sf o_rm o_rs, wML g o_a m_pl m_yl m_nd m_hm m_wk m_kd, wI g p_a 29 ((mrP m_pl m_hm m_wk m_kd o_nf x (p_f, r_f, o_wf) i).1), wI g (o_a 17) 5 (upd ((mrP m_pl m_hm m_wk m_kd o_nf x (p_f, r_f, o_wf) i).2.1) i (nI 0))] = _; simp only [List.flatten_cons, List.flatten_nil, List.append_nil, List.append_assoc]) ?_
          refine V_cVi (C := (RX6, TX6, 34)) (ci := 6) (ws' := ((wO g o_a o_th o_ts o_pl o_nf o_ne o_rf o_re o_ac o_cm o_sd ((gsI m_pl m_hm m_kd o_nf i (m_wk i) ((mrP m_pl m_hm m_wk m_kd o_nf x (p_f, r_f, o_wf) i).1)).2.2) o_sm o_sf o_rm o_rs) ++ (wML g o_a m_pl m_yl m_nd m_hm m_wk m_kd) ++ (wI g p_a 29 ((gsI m_pl m_hm m_kd o_nf i (m_wk i) ((mrP m_pl m_hm m_wk m_kd o_nf x (p_f, r_f, o_wf) i).1)).1))) ++ ((wI g (o_a 17) 5 (upd ((mrP m_pl m_hm m_wk m_kd o_nf x (p_f, r_f, o_wf) i).2.1) i (nI 0))))) (List.range _) 3 X (c_X6_goes g l o_a o_th o_ts o_pl o_nf o_ne o_rf o_re o_ac o_cm o_sd ((mrP m_pl m_hm m_wk m_kd o_nf x (p_f, r_f, o_wf) i).2.2) o_sm o_sf o_rm o_rs m_pl m_yl m_nd m_hm m_wk m_kd p_a ((mrP m_pl m_hm m_wk m_kd o_nf x (p_f, r_f, o_wf) i).1)  i (m_wk i) (by omega) (by omega)) k_RX6_138 hy_X6_goes (by decide) (range_at _ _) (range_nd _) 0 rfl rfl nX6_goMarch_34 rfl rfl (Nat.le_of_ble_eq_true rfl) (wput_range _ _ _ (by simp only [List.length_append, wI_len, wML_len, wO_len])) ?_
          refine V_blk (ws' := (wO g o_a o_th o_ts o_pl o_nf o_ne o_rf o_re o_ac o_cm o_sd ((gsI m_pl m_hm m_kd o_nf i (m_wk i) ((mrP m_pl m_hm m_wk m_kd o_nf x (p_f, r_f, o_wf) i).1)).2.2) o_sm o_sf o_rm o_rs) ++ (wML g o_a m_pl m_yl m_nd m_hm m_wk m_kd) ++ (wI g p_a 29 ((gsI m_pl m_hm m_kd o_nf i (m_wk i) ((mrP m_pl m_hm m_wk m_kd o_nf x (p_f, r_f, o_wf) i).1)).1)) ++ (wI g (o_a 17) 5 (upd ((mrP m_pl m_hm m_wk m_kd o_nf x (p_f, r_f, o_wf) i).2.1) i (nI 0)))) [wO g o_a o_th o_ts o_pl o_nf o_ne o_rf o_re o_ac o_cm o_sd ((gsI m_pl m_hm m_kd o_nf i (m_wk i) ((mrP m_pl m_hm m_wk m_kd o_nf x (p_f, r_f, o_wf) i).1)).2.2) o_sm o_sf o_rm o_rs, wML g o_a m_pl m_yl m_nd m_hm m_wk m_kd, wI g p_a 29 ((gsI m_pl m_hm m_kd o_nf i (m_wk i) ((mrP m_pl m_hm m_wk m_kd o_nf x (p_f, r_f, o_wf) i).1)).1), wI g (o_a 17) 5 (upd ((mrP m_pl m_hm m_wk m_kd o_nf x (p_f, r_f, o_wf) i).2.1) i (nI 0))] [0, 1, 2, 3] rfl (by simp only [List.flatten_cons, List.flatten_nil, List.append_nil, List.append_assoc]) (by show List.flatten [wO g o_a o_th o_ts o_pl o_nf o_ne o_rf o_re o_ac o_cm o_sd ((gsI m_pl m_hm m_kd o_nf i (m_wk i) ((mrP m_pl m_hm m_wk m_kd o_nf x (p_f, r_f, o_wf) i).1)).2.2) o_sm o_sf o_rm o_rs, wML g o_a m_pl m_yl m_nd m_hm m_wk m_kd, wI g p_a 29 ((gsI m_pl m_hm m_kd o_nf i (m_wk i) ((mrP m_pl m_hm m_wk m_kd o_nf x (p_f, r_f, o_wf) i).1)).1), wI g (o_a 17) 5 (upd ((mrP m_pl m_hm m_wk m_kd o_nf x (p_f, r_f, o_wf) i).2.1) i (nI 0))] = _; simp only [List.flatten_cons, List.flatten_nil, List.append_nil, List.append_assoc]) ?_
          refine V_pop nX6_goMarch_37 rfl ?_
          refine V_aload_n nX6_goMarch_38 rfl ?_
          refine V_get6 0 27 (by decide) f_RX6_59 nX6_goMarch_39 rfl rfl ?_
          refine V_iload_n nX6_goMarch_42 rfl ?_
          refine V_aload_n nX6_goMarch_43 rfl ?_
          refine V_get6 0 26 (by decide) f_RX6_124 nX6_goMarch_44 rfl rfl ?_
          refine V_iast (ws' := (wO g o_a o_th o_ts o_pl o_nf o_ne o_rf o_re o_ac o_cm o_sd ((gsI m_pl m_hm m_kd o_nf i (m_wk i) ((mrP m_pl m_hm m_wk m_kd o_nf x (p_f, r_f, o_wf) i).1)).2.2) o_sm o_sf o_rm o_rs) ++ (wML g o_a m_pl m_yl m_nd m_hm m_wk m_kd) ++ (wI g p_a 29 ((gsI m_pl m_hm m_kd o_nf i (m_wk i) ((mrP m_pl m_hm m_wk m_kd o_nf x (p_f, r_f, o_wf) i).1)).1)) ++ (wI g (o_a 17) 5 (upd (upd ((mrP m_pl m_hm m_wk m_kd o_nf x (p_f, r_f, o_wf) i).2.1) i (nI 0)) i ((gsI m_pl m_hm m_kd o_nf i (m_wk i) ((mrP m_pl m_hm m_wk m_kd o_nf x (p_f, r_f, o_wf) i).1)).2.2)))) 8 nX6_goMarch_47 rfl (by omega) (by decide) rfl ?_
          refine V_iinc (v := nI (i + 1)) (lv' := [(0, .ref (o_a 0)), (1, .ref p_a), (2, .int (nI x)), (3, .int (nI (i + 1)))]) nX6_goMarch_48 rfl (nI_add i 1) (by decide) rfl ?_
          refine V_goto (tgt := 2) nX6_goMarch_51 rfl ?_
          have q := ih (i + 1) (by omega) (by omega)
          rw [show (mrP m_pl m_hm m_wk m_kd o_nf x (p_f, r_f, o_wf) (i + 1)) = _ from if_pos (of_decide_eq_true h22)] at q
          exact q
  exact L2 _ 0 (Nat.lt_succ_self _) (by omega)

set_option maxHeartbeats 4000000 in
set_option maxRecDepth 100000 in
theorem c_X6_loaves (g : Gx) (l : Launch) (p_a : Nat) (p_f : Nat → Int32)    : Cd g l yX6_loaves mX6_loaves ({ frames := 0, cells := 0, slots := 0, locals := 0 } : Room) [.ref p_a] (wI g p_a 29 p_f) (some (.int (lvP p_f))) (wI g p_a 29 p_f) := by
  refine Ct.of (lv := [(0, .ref p_a)]) ⟨by decide +kernel, rfl, Nat.le_of_ble_eq_true rfl⟩ rfl (fun E A sz Q X hQ => ?_)
  refine V_aload_n nX6_loaves_0 rfl ?_
  refine V_iconst (v := (nI 0)) nX6_loaves_1 rfl ?_
  refine V_iald 0 nX6_loaves_2 rfl (by omega) (by decide) rfl ?_
  refine V_aload_n nX6_loaves_3 rfl ?_
  refine V_iconst (v := (nI 1)) nX6_loaves_4 rfl ?_
  refine V_iald 0 nX6_loaves_5 rfl (by omega) (by decide) rfl ?_
  refine V_iadd (v := (p_f 0) + (p_f 1)) nX6_loaves_6 rfl ?_
  refine V_aload_n nX6_loaves_7 rfl ?_
  refine V_iconst (v := (nI 2)) nX6_loaves_8 rfl ?_
  refine V_iald 0 nX6_loaves_9 rfl (by omega) (by decide) rfl ?_
  refine V_iadd (v := ((p_f 0) + (p_f 1)) + (p_f 2)) nX6_loaves_10 rfl ?_
  refine V_aload_n nX6_loaves_11 rfl ?_
  refine V_iconst (v := (nI 3)) nX6_loaves_12 rfl ?_
  refine V_iald 0 nX6_loaves_13 rfl (by omega) (by decide) rfl ?_
  refine V_iadd (v := (((p_f 0) + (p_f 1)) + (p_f 2)) + (p_f 3)) nX6_loaves_14 rfl ?_
  exact R_i rfl X hQ nX6_loaves_15 (by simp only [List.map_append, wI_fst]) (⟨rfl, rfl⟩)

set_option maxHeartbeats 4000000 in
set_option maxRecDepth 100000 in
theorem c_X6_goHarvest (g : Gx) (l : Launch) (o_a : Nat → Nat) (o_th : Int32) (o_ts : Nat) (o_pl : Nat) (o_nf : Nat) (o_ne : Nat) (o_rf : Nat) (o_re : Nat) (o_ac : Nat) (o_cm : Nat) (o_sd : Int64) (o_wf : Int32) (o_sm : Int32) (o_sf : Int32) (o_rm : Int32) (o_rs : Int32) (m_pl : Nat → Int32) (m_yl : Nat → Int32) (m_nd : Nat → Int32) (m_hm : Nat → Int32) (m_wk : Nat → Int32) (m_kd : Nat → Int32) (p_a : Nat) (p_f : Nat → Int32)   (hnf : o_nf ≤ 4) : Cd g l yX6_goHarvest mX6_goHarvest ({ frames := 1, cells := 0, slots := 0, locals := 23 } : Room) [.ref (o_a 0), .ref p_a] ((wO g o_a o_th o_ts o_pl o_nf o_ne o_rf o_re o_ac o_cm o_sd o_wf o_sm o_sf o_rm o_rs) ++ (wML g o_a m_pl m_yl m_nd m_hm m_wk m_kd) ++ (wI g p_a 29 p_f)) (some (.int (lvP (hvQ m_yl m_nd p_f o_nf)))) ((wO g o_a o_th o_ts o_pl o_nf o_ne o_rf o_re o_ac o_cm o_sd o_wf o_sm o_sf o_rm o_rs) ++ (wML g o_a m_pl m_yl m_nd m_hm m_wk m_kd) ++ (wI g p_a 29 (hvQ m_yl m_nd p_f o_nf))) := by
  refine Ct.of (lv := [(0, .ref (o_a 0)), (1, .ref p_a)]) ⟨by decide +kernel, rfl, Nat.le_of_ble_eq_true rfl⟩ rfl (fun E A sz Q X hQ => ?_)
  have hsw := swP_lt hnf m_nd p_f
  refine V_aload_n nX6_goHarvest_0 rfl ?_
  refine V_aload_n nX6_goHarvest_1 rfl ?_
  refine V_blk (ws' := ((wO g o_a o_th o_ts o_pl o_nf o_ne o_rf o_re o_ac o_cm o_sd o_wf o_sm o_sf o_rm o_rs) ++ (wML g o_a m_pl m_yl m_nd m_hm m_wk m_kd) ++ (wI g p_a 29 p_f)) ++ ([] : va_W)) [wO g o_a o_th o_ts o_pl o_nf o_ne o_rf o_re o_ac o_cm o_sd o_wf o_sm o_sf o_rm o_rs, wML g o_a m_pl m_yl m_nd m_hm m_wk m_kd, wI g p_a 29 p_f] [0, 1, 2] rfl (by simp only [List.flatten_cons, List.flatten_nil, List.append_nil, List.append_assoc]) (by show List.flatten [wO g o_a o_th o_ts o_pl o_nf o_ne o_rf o_re o_ac o_cm o_sd o_wf o_sm o_sf o_rm o_rs, wML g o_a m_pl m_yl m_nd m_hm m_wk m_kd, wI g p_a 29 p_f] = _; simp only [List.flatten_cons, List.flatten_nil, List.append_nil, List.append_assoc]) ?_
  refine V_cVi (C := (RX6, TX6, 34)) (ci := 6) (ws' := ((wO g o_a o_th o_ts o_pl o_nf o_ne o_rf o_re o_ac o_cm o_sd o_wf o_sm o_sf o_rm o_rs) ++ (wML g o_a m_pl m_yl m_nd m_hm m_wk m_kd) ++ (wI g p_a 29 p_f)) ++ ([] : va_W)) (List.range _) 1 X (c_X6_sown g l o_a o_th o_ts o_pl o_nf o_ne o_rf o_re o_ac o_cm o_sd o_wf o_sm o_sf o_rm o_rs m_pl m_yl m_nd m_hm m_wk m_kd p_a p_f   (by omega)) k_RX6_141 hy_X6_sown (by decide) (range_at _ _) (range_nd _) 0 rfl rfl nX6_goHarvest_2 rfl rfl (Nat.le_of_ble_eq_true rfl) (wput_range _ _ _ (by simp only [List.length_append, wI_len, wML_len, wO_len])) ?_
  refine V_blk (ws' := (wO g o_a o_th o_ts o_pl o_nf o_ne o_rf o_re o_ac o_cm o_sd o_wf o_sm o_sf o_rm o_rs) ++ (wML g o_a m_pl m_yl m_nd m_hm m_wk m_kd) ++ (wI g p_a 29 p_f)) [wO g o_a o_th o_ts o_pl o_nf o_ne o_rf o_re o_ac o_cm o_sd o_wf o_sm o_sf o_rm o_rs, wML g o_a m_pl m_yl m_nd m_hm m_wk m_kd, wI g p_a 29 p_f] [0, 1, 2] rfl (by simp only [List.flatten_cons, List.flatten_nil, List.append_nil, List.append_assoc]) (by show List.flatten [wO g o_a o_th o_ts o_pl o_nf o_ne o_rf o_re o_ac o_cm o_sd o_wf o_sm o_sf o_rm o_rs, wML g o_a m_pl m_yl m_nd m_hm m_wk m_kd, wI g p_a 29 p_f] = _; simp only [List.flatten_cons, List.flatten_nil, List.append_nil, List.append_assoc]) ?_
  refine V_istore_n (lv' := [(0, .ref (o_a 0)), (1, .ref p_a), (2, .int (nI (swP m_nd p_f o_nf)))]) nX6_goHarvest_5 (by decide) rfl ?_
  refine V_iconst (v := (nI 0)) nX6_goHarvest_6 rfl ?_
  refine V_istore_n (lv' := [(0, .ref (o_a 0)), (1, .ref p_a), (2, .int (nI (swP m_nd p_f o_nf))), (3, .int (nI 0))]) nX6_goHarvest_7 (by decide) rfl ?_
  have L8 : ∀ (n : Nat) (i : Nat), o_nf - i < n → i ≤ o_nf → V g E mX6_goHarvest A Q 0 0 ((wO g o_a o_th o_ts o_pl o_nf o_ne o_rf o_re o_ac o_cm o_sd o_wf o_sm o_sf o_rm o_rs) ++ (wML g o_a m_pl m_yl m_nd m_hm m_wk m_kd) ++ (wI g p_a 29 (hvP m_yl p_f (swP m_nd p_f o_nf) i))) 8 [(0, .ref (o_a 0)), (1, .ref p_a), (2, .int (nI (swP m_nd p_f o_nf))), (3, .int (nI i))] [] := by
    intro n
    induction n with
    | zero => intro i hm; exact absurd hm (Nat.not_lt_zero _)
    | succ n ih =>
      intro i hm hi
      refine V_iload_n nX6_goHarvest_8 rfl ?_
      refine V_aload_n nX6_goHarvest_9 rfl ?_
      refine V_get6 0 4 (by decide) f_RX6_72 nX6_goHarvest_10 rfl rfl ?_
      refine V_icmp_ge_N (tgt := 58) nX6_goHarvest_13 rfl (by omega) (by omega) (fun h13 => ?_) (fun h13 => ?_)
      · skip
        have hx_i : o_nf = i := by omega
        subst hx_i
        refine V_aload_n nX6_goHarvest_58 rfl ?_
        refine V_bipush (v := (nI 28)) nX6_goHarvest_59 (by decide) ?_
        refine V_dup2 nX6_goHarvest_61 rfl rfl ?_
        refine V_iald 7 nX6_goHarvest_62 rfl (by omega) (by decide) rfl ?_
        refine V_iconst (v := (nI 1)) nX6_goHarvest_63 rfl ?_
        refine V_iadd (v := ((hvP m_yl p_f (swP m_nd p_f o_nf) o_nf) 28) + (nI 1)) nX6_goHarvest_64 rfl ?_
        refine V_iast (ws' := (wO g o_a o_th o_ts o_pl o_nf o_ne o_rf o_re o_ac o_cm o_sd o_wf o_sm o_sf o_rm o_rs) ++ (wML g o_a m_pl m_yl m_nd m_hm m_wk m_kd) ++ (wI g p_a 29 (upd (hvP m_yl p_f (swP m_nd p_f o_nf) o_nf) 28 (((hvP m_yl p_f (swP m_nd p_f o_nf) o_nf) 28) + (nI 1))))) 7 nX6_goHarvest_65 rfl (by omega) (by decide) rfl ?_
        refine V_aload_n nX6_goHarvest_66 rfl ?_
        refine V_blk (ws' := ((wI g p_a 29 (upd (hvP m_yl p_f (swP m_nd p_f o_nf) o_nf) 28 (((hvP m_yl p_f (swP m_nd p_f o_nf) o_nf) 28) + (nI 1))))) ++ ((wO g o_a o_th o_ts o_pl o_nf o_ne o_rf o_re o_ac o_cm o_sd o_wf o_sm o_sf o_rm o_rs) ++ (wML g o_a m_pl m_yl m_nd m_hm m_wk m_kd))) [wO g o_a o_th o_ts o_pl o_nf o_ne o_rf o_re o_ac o_cm o_sd o_wf o_sm o_sf o_rm o_rs, wML g o_a m_pl m_yl m_nd m_hm m_wk m_kd, wI g p_a 29 (upd (hvP m_yl p_f (swP m_nd p_f o_nf) o_nf) 28 (((hvP m_yl p_f (swP m_nd p_f o_nf) o_nf) 28) + (nI 1)))] [2, 0, 1] rfl (by simp only [List.flatten_cons, List.flatten_nil, List.append_nil, List.append_assoc]) (by show List.flatten [wI g p_a 29 (upd (hvP m_yl p_f (swP m_nd p_f o_nf) o_nf) 28 (((hvP m_yl p_f (swP m_nd p_f o_nf) o_nf) 28) + (nI 1))), wO g o_a o_th o_ts o_pl o_nf o_ne o_rf o_re o_ac o_cm o_sd o_wf o_sm o_sf o_rm o_rs, wML g o_a m_pl m_yl m_nd m_hm m_wk m_kd] = _; simp only [List.flatten_cons, List.flatten_nil, List.append_nil, List.append_assoc]) ?_
        refine V_cSi (ws' := ((wI g p_a 29 (upd (hvP m_yl p_f (swP m_nd p_f o_nf) o_nf) 28 (((hvP m_yl p_f (swP m_nd p_f o_nf) o_nf) 28) + (nI 1))))) ++ ((wO g o_a o_th o_ts o_pl o_nf o_ne o_rf o_re o_ac o_cm o_sd o_wf o_sm o_sf o_rm o_rs) ++ (wML g o_a m_pl m_yl m_nd m_hm m_wk m_kd))) (List.range _) 1 X (c_X6_loaves g l p_a (upd (hvP m_yl p_f (swP m_nd p_f o_nf) o_nf) 28 (((hvP m_yl p_f (swP m_nd p_f o_nf) o_nf) 28) + (nI 1)))   ) k_RX6_145 hy_X6_loaves.2 (by decide) (range_at _ _) (range_nd _) nX6_goHarvest_67 rfl rfl (Nat.le_of_ble_eq_true rfl) (wput_range _ _ _ (by simp only [List.length_append, wI_len])) ?_
        refine V_blk (ws' := (wO g o_a o_th o_ts o_pl o_nf o_ne o_rf o_re o_ac o_cm o_sd o_wf o_sm o_sf o_rm o_rs) ++ (wML g o_a m_pl m_yl m_nd m_hm m_wk m_kd) ++ (wI g p_a 29 (upd (hvP m_yl p_f (swP m_nd p_f o_nf) o_nf) 28 (((hvP m_yl p_f (swP m_nd p_f o_nf) o_nf) 28) + (nI 1))))) [wI g p_a 29 (upd (hvP m_yl p_f (swP m_nd p_f o_nf) o_nf) 28 (((hvP m_yl p_f (swP m_nd p_f o_nf) o_nf) 28) + (nI 1))), wO g o_a o_th o_ts o_pl o_nf o_ne o_rf o_re o_ac o_cm o_sd o_wf o_sm o_sf o_rm o_rs, wML g o_a m_pl m_yl m_nd m_hm m_wk m_kd] [1, 2, 0] rfl (by simp only [List.flatten_cons, List.flatten_nil, List.append_nil, List.append_assoc]) (by show List.flatten [wO g o_a o_th o_ts o_pl o_nf o_ne o_rf o_re o_ac o_cm o_sd o_wf o_sm o_sf o_rm o_rs, wML g o_a m_pl m_yl m_nd m_hm m_wk m_kd, wI g p_a 29 (upd (hvP m_yl p_f (swP m_nd p_f o_nf) o_nf) 28 (((hvP m_yl p_f (swP m_nd p_f o_nf) o_nf) 28) + (nI 1)))] = _; simp only [List.flatten_cons, List.flatten_nil, List.append_nil, List.append_assoc]) ?_
        exact R_i rfl X hQ nX6_goHarvest_70 (by simp only [List.map_append, wI_fst, wML_fst, wO_fst]) (⟨rfl, rfl⟩)
      · skip
        refine V_aload_n nX6_goHarvest_16 rfl ?_
        refine V_iload_n nX6_goHarvest_17 rfl ?_
        refine V_iload_n nX6_goHarvest_18 rfl ?_
        refine V_iload_n nX6_goHarvest_19 rfl ?_
        refine V_cSi (ws' := (wO g o_a o_th o_ts o_pl o_nf o_ne o_rf o_re o_ac o_cm o_sd o_wf o_sm o_sf o_rm o_rs) ++ (wML g o_a m_pl m_yl m_nd m_hm m_wk m_kd) ++ (wI g p_a 29 (hvP m_yl p_f (swP m_nd p_f o_nf) i))) [] 2 X (c_X6_has g l   (swP m_nd p_f o_nf) i (by omega) (by omega)) k_RX6_134 hy_X6_has.2 (by decide) rfl (by decide) nX6_goHarvest_20 rfl rfl (Nat.le_of_ble_eq_true rfl) rfl ?_
        refine V_if_eq_b (tgt := 42) nX6_goHarvest_23 rfl (fun h23 => ?_) (fun h23 => ?_)
        · skip
          refine V_aload_n nX6_goHarvest_42 rfl ?_
          refine V_iload_n nX6_goHarvest_43 rfl ?_
          refine V_iald 7 nX6_goHarvest_44 rfl (by omega) (by decide) rfl ?_
          refine V_iast (ws' := (wO g o_a o_th o_ts o_pl o_nf o_ne o_rf o_re o_ac o_cm o_sd o_wf o_sm o_sf o_rm o_rs) ++ (wML g o_a m_pl m_yl m_nd m_hm m_wk m_kd) ++ (wI g p_a 29 (upd (hvP m_yl p_f (swP m_nd p_f o_nf) i) i ((hvP m_yl p_f (swP m_nd p_f o_nf) i) i)))) 7 nX6_goHarvest_45 rfl (by omega) (by decide) rfl ?_
          refine V_aload_n nX6_goHarvest_46 rfl ?_
          refine V_iconst (v := (nI 4)) nX6_goHarvest_47 rfl ?_
          refine V_iload_n nX6_goHarvest_48 rfl ?_
          refine V_iadd (v := nI (4 + i)) nX6_goHarvest_49 (nI_add 4 i) ?_
          refine V_iconst (v := (nI 0)) nX6_goHarvest_50 rfl ?_
          refine V_iast (ws' := (wO g o_a o_th o_ts o_pl o_nf o_ne o_rf o_re o_ac o_cm o_sd o_wf o_sm o_sf o_rm o_rs) ++ (wML g o_a m_pl m_yl m_nd m_hm m_wk m_kd) ++ (wI g p_a 29 (upd (upd (hvP m_yl p_f (swP m_nd p_f o_nf) i) i ((hvP m_yl p_f (swP m_nd p_f o_nf) i) i)) (4 + i) (nI 0)))) 7 nX6_goHarvest_51 rfl (by omega) (by decide) rfl ?_
          refine V_iinc (v := nI (i + 1)) (lv' := [(0, .ref (o_a 0)), (1, .ref p_a), (2, .int (nI (swP m_nd p_f o_nf))), (3, .int (nI (i + 1)))]) nX6_goHarvest_52 rfl (nI_add i 1) (by decide) rfl ?_
          refine V_goto (tgt := 8) nX6_goHarvest_55 rfl ?_
          have q := ih (i + 1) (by omega) (by omega)
          rw [hvP_f h23] at q
          exact q
        · skip
          refine V_aload_n nX6_goHarvest_26 rfl ?_
          refine V_iload_n nX6_goHarvest_27 rfl ?_
          refine V_iald 7 nX6_goHarvest_28 rfl (by omega) (by decide) rfl ?_
          refine V_aload_n nX6_goHarvest_29 rfl ?_
          refine V_get6 0 6 (by decide) f_RX6_16 nX6_goHarvest_30 rfl rfl ?_
          refine V_iload_n nX6_goHarvest_33 rfl ?_
          refine V_iald 2 nX6_goHarvest_34 rfl (by omega) (by decide) rfl ?_
          refine V_iadd (v := ((hvP m_yl p_f (swP m_nd p_f o_nf) i) i) + (m_yl i)) nX6_goHarvest_35 rfl ?_
          refine V_cSi (ws' := (wO g o_a o_th o_ts o_pl o_nf o_ne o_rf o_re o_ac o_cm o_sd o_wf o_sm o_sf o_rm o_rs) ++ (wML g o_a m_pl m_yl m_nd m_hm m_wk m_kd) ++ (wI g p_a 29 (hvP m_yl p_f (swP m_nd p_f o_nf) i))) [] 1 X (c_X6_capped g l   (((hvP m_yl p_f (swP m_nd p_f o_nf) i) i) + (m_yl i)) ) k_RX6_130 hy_X6_capped.2 (by decide) rfl (by decide) nX6_goHarvest_36 rfl rfl (Nat.le_of_ble_eq_true rfl) rfl ?_
          refine V_goto (tgt := 45) nX6_goHarvest_39 rfl ?_
          refine V_iast (ws' := (wO g o_a o_th o_ts o_pl o_nf o_ne o_rf o_re o_ac o_cm o_sd o_wf o_sm o_sf o_rm o_rs) ++ (wML g o_a m_pl m_yl m_nd m_hm m_wk m_kd) ++ (wI g p_a 29 (upd (hvP m_yl p_f (swP m_nd p_f o_nf) i) i (capI (((hvP m_yl p_f (swP m_nd p_f o_nf) i) i) + (m_yl i)))))) 7 nX6_goHarvest_45 rfl (by omega) (by decide) rfl ?_
          refine V_aload_n nX6_goHarvest_46 rfl ?_
          refine V_iconst (v := (nI 4)) nX6_goHarvest_47 rfl ?_
          refine V_iload_n nX6_goHarvest_48 rfl ?_
          refine V_iadd (v := nI (4 + i)) nX6_goHarvest_49 (nI_add 4 i) ?_
          refine V_iconst (v := (nI 0)) nX6_goHarvest_50 rfl ?_
          refine V_iast (ws' := (wO g o_a o_th o_ts o_pl o_nf o_ne o_rf o_re o_ac o_cm o_sd o_wf o_sm o_sf o_rm o_rs) ++ (wML g o_a m_pl m_yl m_nd m_hm m_wk m_kd) ++ (wI g p_a 29 (upd (upd (hvP m_yl p_f (swP m_nd p_f o_nf) i) i (capI (((hvP m_yl p_f (swP m_nd p_f o_nf) i) i) + (m_yl i)))) (4 + i) (nI 0)))) 7 nX6_goHarvest_51 rfl (by omega) (by decide) rfl ?_
          refine V_iinc (v := nI (i + 1)) (lv' := [(0, .ref (o_a 0)), (1, .ref p_a), (2, .int (nI (swP m_nd p_f o_nf))), (3, .int (nI (i + 1)))]) nX6_goHarvest_52 rfl (nI_add i 1) (by decide) rfl ?_
          refine V_goto (tgt := 8) nX6_goHarvest_55 rfl ?_
          have q := ih (i + 1) (by omega) (by omega)
          rw [hvP_t h23] at q
          exact q
  exact L8 _ 0 (Nat.lt_succ_self _) (by omega)

set_option maxHeartbeats 4000000 in
set_option maxRecDepth 100000 in
theorem c_X6_begin (g : Gx) (l : Launch) (o_a : Nat → Nat) (o_th : Int32) (o_ts : Nat) (o_pl : Nat) (o_nf : Nat) (o_ne : Nat) (o_rf : Nat) (o_re : Nat) (o_ac : Nat) (o_cm : Nat) (o_sd : Int64) (o_wf : Int32) (o_sm : Int32) (o_sf : Int32) (o_rm : Int32) (o_rs : Int32) (g_f : Nat → Int32) (y_f : Nat → Int32)    : Cd g l yX6_begin mX6_begin ({ frames := 0, cells := 0, slots := 0, locals := 0 } : Room) [.ref (o_a 0)] ((wO g o_a o_th o_ts o_pl o_nf o_ne o_rf o_re o_ac o_cm o_sd o_wf o_sm o_sf o_rm o_rs) ++ (wI g (o_a 10) 29 g_f) ++ (wI g (o_a 11) 29 y_f)) none ((wO g o_a o_th o_ts o_pl o_nf o_ne o_rf o_re o_ac o_cm o_sd o_wf o_sm o_sf o_rm o_rs) ++ (wI g (o_a 10) 29 g_f) ++ (wI g (o_a 11) 29 g_f)) := by
  refine Ct.of (lv := [(0, .ref (o_a 0))]) ⟨by decide +kernel, rfl, Nat.le_of_ble_eq_true rfl⟩ rfl (fun E A sz Q X hQ => ?_)
  refine V_iconst (v := (nI 0)) nX6_begin_0 rfl ?_
  refine V_istore_n (lv' := [(0, .ref (o_a 0)), (1, .int (nI 0))]) nX6_begin_1 (by decide) rfl ?_
  have L2 : ∀ (n : Nat) (i : Nat), 29 - i < n → i ≤ 29 → V g E mX6_begin A Q 0 0 ((wO g o_a o_th o_ts o_pl o_nf o_ne o_rf o_re o_ac o_cm o_sd o_wf o_sm o_sf o_rm o_rs) ++ (wI g (o_a 10) 29 g_f) ++ (wI g (o_a 11) 29 (fillI g_f y_f i))) 2 [(0, .ref (o_a 0)), (1, .int (nI i))] [] := by
    intro n
    induction n with
    | zero => intro i hm; exact absurd hm (Nat.not_lt_zero _)
    | succ n ih =>
      intro i hm hi
      refine V_iload_n nX6_begin_2 rfl ?_
      refine V_bipush (v := (nI 29)) nX6_begin_3 (by decide) ?_
      refine V_icmp_ge_N (tgt := 26) nX6_begin_5 rfl (by omega) (by omega) (fun h5 => ?_) (fun h5 => ?_)
      · skip
        have hx_i : 29 = i := by omega
        subst hx_i
        refine V_arr (f' := g_f) (ws' := (wO g o_a o_th o_ts o_pl o_nf o_ne o_rf o_re o_ac o_cm o_sd o_wf o_sm o_sf o_rm o_rs) ++ (wI g (o_a 10) 29 g_f) ++ (wI g (o_a 11) 29 g_f)) 2 rfl (fun j hj => fillI_lt _ _ _ j hj) rfl ?_
        exact R_v rfl X hQ nX6_begin_26 (by simp only [List.map_append, wI_fst, wO_fst]) (⟨rfl, rfl⟩)
      · skip
        refine V_aload_n nX6_begin_8 rfl ?_
        refine V_get6 0 17 (by decide) f_RX6_40 nX6_begin_9 rfl rfl ?_
        refine V_iload_n nX6_begin_12 rfl ?_
        refine V_aload_n nX6_begin_13 rfl ?_
        refine V_get6 0 16 (by decide) f_RX6_37 nX6_begin_14 rfl rfl ?_
        refine V_iload_n nX6_begin_17 rfl ?_
        refine V_iald 1 nX6_begin_18 rfl (by omega) (by decide) rfl ?_
        refine V_iast (ws' := (wO g o_a o_th o_ts o_pl o_nf o_ne o_rf o_re o_ac o_cm o_sd o_wf o_sm o_sf o_rm o_rs) ++ (wI g (o_a 10) 29 g_f) ++ (wI g (o_a 11) 29 (upd (fillI g_f y_f i) i (g_f i)))) 2 nX6_begin_19 rfl (by omega) (by decide) rfl ?_
        refine V_iinc (v := nI (i + 1)) (lv' := [(0, .ref (o_a 0)), (1, .int (nI (i + 1)))]) nX6_begin_20 rfl (nI_add i 1) (by decide) rfl ?_
        refine V_goto (tgt := 2) nX6_begin_23 rfl ?_
        exact ih (i + 1) (by omega) (by omega)
  exact L2 _ 0 (Nat.lt_succ_self _) (by omega)

set_option maxHeartbeats 4000000 in
set_option maxRecDepth 100000 in
theorem c_X6_owedTogether (g : Gx) (l : Launch) (o_a : Nat → Nat) (o_th : Int32) (o_ts : Nat) (o_pl : Nat) (o_nf : Nat) (o_ne : Nat) (o_rf : Nat) (o_re : Nat) (o_ac : Nat) (o_cm : Nat) (o_sd : Int64) (o_wf : Int32) (o_sm : Int32) (o_sf : Int32) (o_rm : Int32) (o_rs : Int32) (g_f : Nat → Int32)   (hne : o_ne ≤ 5) : Cd g l yX6_owedTogether mX6_owedTogether ({ frames := 2, cells := 0, slots := 0, locals := 43 } : Room) [.ref (o_a 0)] ((wO g o_a o_th o_ts o_pl o_nf o_ne o_rf o_re o_ac o_cm o_sd o_wf o_sm o_sf o_rm o_rs) ++ (wI g (o_a 10) 29 g_f)) (some (.int (sumI (oaP g_f) o_ne))) ((wO g o_a o_th o_ts o_pl o_nf o_ne o_rf o_re o_ac o_cm o_sd o_wf o_sm o_sf o_rm o_rs) ++ (wI g (o_a 10) 29 g_f)) := by
  refine Ct.of (lv := [(0, .ref (o_a 0))]) ⟨by decide +kernel, rfl, Nat.le_of_ble_eq_true rfl⟩ rfl (fun E A sz Q X hQ => ?_)
  refine V_iconst (v := (nI 0)) nX6_owedTogether_0 rfl ?_
  refine V_istore_n (lv' := [(0, .ref (o_a 0)), (1, .int (nI 0))]) nX6_owedTogether_1 (by decide) rfl ?_
  refine V_iconst (v := (nI 0)) nX6_owedTogether_2 rfl ?_
  refine V_istore_n (lv' := [(0, .ref (o_a 0)), (1, .int (nI 0)), (2, .int (nI 0))]) nX6_owedTogether_3 (by decide) rfl ?_
  have L4 : ∀ (n : Nat) (i : Nat), o_ne - i < n → i ≤ o_ne → V g E mX6_owedTogether A Q 0 0 ((wO g o_a o_th o_ts o_pl o_nf o_ne o_rf o_re o_ac o_cm o_sd o_wf o_sm o_sf o_rm o_rs) ++ (wI g (o_a 10) 29 g_f)) 4 [(0, .ref (o_a 0)), (1, .int (sumI (oaP g_f) i)), (2, .int (nI i))] [] := by
    intro n
    induction n with
    | zero => intro i hm; exact absurd hm (Nat.not_lt_zero _)
    | succ n ih =>
      intro i hm hi
      refine V_iload_n nX6_owedTogether_4 rfl ?_
      refine V_aload_n nX6_owedTogether_5 rfl ?_
      refine V_get6 0 8 (by decide) f_RX6_79 nX6_owedTogether_6 rfl rfl ?_
      refine V_icmp_ge_N (tgt := 29) nX6_owedTogether_9 rfl (by omega) (by omega) (fun h9 => ?_) (fun h9 => ?_)
      · skip
        have hx_i : o_ne = i := by omega
        subst hx_i
        refine V_iload_n nX6_owedTogether_29 rfl ?_
        exact R_i rfl X hQ nX6_owedTogether_30 (by simp only [List.map_append, wI_fst, wO_fst]) (⟨rfl, rfl⟩)
      · skip
        refine V_iload_n nX6_owedTogether_12 rfl ?_
        refine V_aload_n nX6_owedTogether_13 rfl ?_
        refine V_get6 0 16 (by decide) f_RX6_37 nX6_owedTogether_14 rfl rfl ?_
        refine V_iload_n nX6_owedTogether_17 rfl ?_
        refine V_blk (ws' := ((wI g (o_a 10) 29 g_f)) ++ ((wO g o_a o_th o_ts o_pl o_nf o_ne o_rf o_re o_ac o_cm o_sd o_wf o_sm o_sf o_rm o_rs))) [wO g o_a o_th o_ts o_pl o_nf o_ne o_rf o_re o_ac o_cm o_sd o_wf o_sm o_sf o_rm o_rs, wI g (o_a 10) 29 g_f] [1, 0] rfl (by simp only [List.flatten_cons, List.flatten_nil, List.append_nil, List.append_assoc]) (by show List.flatten [wI g (o_a 10) 29 g_f, wO g o_a o_th o_ts o_pl o_nf o_ne o_rf o_re o_ac o_cm o_sd o_wf o_sm o_sf o_rm o_rs] = _; simp only [List.flatten_cons, List.flatten_nil, List.append_nil, List.append_assoc]) ?_
        refine V_cSi (ws' := ((wI g (o_a 10) 29 g_f)) ++ ((wO g o_a o_th o_ts o_pl o_nf o_ne o_rf o_re o_ac o_cm o_sd o_wf o_sm o_sf o_rm o_rs))) (List.range _) 2 X (c_X6_owesAll g l (o_a 10) g_f  i (by omega)) k_RX6_148 hy_X6_owesAll.2 (by decide) (range_at _ _) (range_nd _) nX6_owedTogether_18 rfl rfl (Nat.le_of_ble_eq_true rfl) (wput_range _ _ _ (by simp only [List.length_append, wI_len])) ?_
        refine V_blk (ws' := (wO g o_a o_th o_ts o_pl o_nf o_ne o_rf o_re o_ac o_cm o_sd o_wf o_sm o_sf o_rm o_rs) ++ (wI g (o_a 10) 29 g_f)) [wI g (o_a 10) 29 g_f, wO g o_a o_th o_ts o_pl o_nf o_ne o_rf o_re o_ac o_cm o_sd o_wf o_sm o_sf o_rm o_rs] [1, 0] rfl (by simp only [List.flatten_cons, List.flatten_nil, List.append_nil, List.append_assoc]) (by show List.flatten [wO g o_a o_th o_ts o_pl o_nf o_ne o_rf o_re o_ac o_cm o_sd o_wf o_sm o_sf o_rm o_rs, wI g (o_a 10) 29 g_f] = _; simp only [List.flatten_cons, List.flatten_nil, List.append_nil, List.append_assoc]) ?_
        refine V_iadd (v := (sumI (oaP g_f) i) + (oaP g_f i)) nX6_owedTogether_21 rfl ?_
        refine V_istore_n (lv' := [(0, .ref (o_a 0)), (1, .int ((sumI (oaP g_f) i) + (oaP g_f i))), (2, .int (nI i))]) nX6_owedTogether_22 (by decide) rfl ?_
        refine V_iinc (v := nI (i + 1)) (lv' := [(0, .ref (o_a 0)), (1, .int ((sumI (oaP g_f) i) + (oaP g_f i))), (2, .int (nI (i + 1)))]) nX6_owedTogether_23 rfl (nI_add i 1) (by decide) rfl ?_
        refine V_goto (tgt := 4) nX6_owedTogether_26 rfl ?_
        exact ih (i + 1) (by omega) (by omega)
  exact L4 _ 0 (Nat.lt_succ_self _) (by omega)

set_option maxHeartbeats 4000000 in
set_option maxRecDepth 100000 in
theorem c_X6_marched (g : Gx) (l : Launch) (o_a : Nat → Nat) (o_th : Int32) (o_ts : Nat) (o_pl : Nat) (o_nf : Nat) (o_ne : Nat) (o_rf : Nat) (o_re : Nat) (o_ac : Nat) (o_cm : Nat) (o_sd : Int64) (o_wf : Int32) (o_sm : Int32) (o_sf : Int32) (o_rm : Int32) (o_rs : Int32) (m_pl : Nat → Int32) (m_yl : Nat → Int32) (m_nd : Nat → Int32) (m_hm : Nat → Int32) (m_wk : Nat → Int32) (m_kd : Nat → Int32) (g_f : Nat → Int32) (y_f : Nat → Int32) (r_f : Nat → Int32)  (x : Nat) (hnf : o_nf ≤ 4) (hne : o_ne ≤ 5) (hx : x < 2 ^ 31) : Cd g l yX6_marched mX6_marched ({ frames := 4, cells := 0, slots := 0, locals := 99 } : Room) [.ref (o_a 0), .int (nI x)] ((wO g o_a o_th o_ts o_pl o_nf o_ne o_rf o_re o_ac o_cm o_sd o_wf o_sm o_sf o_rm o_rs) ++ (wML g o_a m_pl m_yl m_nd m_hm m_wk m_kd) ++ (wI g (o_a 10) 29 g_f) ++ (wI g (o_a 11) 29 y_f) ++ (wI g (o_a 17) 5 r_f)) (some (.int (nI (swP m_nd (mqP m_pl m_hm m_wk m_kd o_nf x g_f o_ne) o_nf)))) ((wO g o_a o_th o_ts o_pl o_nf o_ne o_rf o_re o_ac o_cm o_sd ((mrP m_pl m_hm m_wk m_kd o_nf x (g_f, r_f, o_wf) o_ne).2.2) o_sm o_sf o_rm o_rs) ++ (wML g o_a m_pl m_yl m_nd m_hm m_wk m_kd) ++ (wI g (o_a 10) 29 g_f) ++ (wI g (o_a 11) 29 (mqP m_pl m_hm m_wk m_kd o_nf x g_f o_ne)) ++ (wI g (o_a 17) 5 ((mrP m_pl m_hm m_wk m_kd o_nf x (g_f, r_f, o_wf) o_ne).2.1))) := by
  refine Ct.of (lv := [(0, .ref (o_a 0)), (1, .int (nI x))]) ⟨by decide +kernel, rfl, Nat.le_of_ble_eq_true rfl⟩ rfl (fun E A sz Q X hQ => ?_)
  refine V_aload_n nX6_marched_0 rfl ?_
  refine V_blk (ws' := ((wO g o_a o_th o_ts o_pl o_nf o_ne o_rf o_re o_ac o_cm o_sd o_wf o_sm o_sf o_rm o_rs) ++ (wI g (o_a 10) 29 g_f) ++ (wI g (o_a 11) 29 y_f)) ++ ((wML g o_a m_pl m_yl m_nd m_hm m_wk m_kd) ++ (wI g (o_a 17) 5 r_f))) [wO g o_a o_th o_ts o_pl o_nf o_ne o_rf o_re o_ac o_cm o_sd o_wf o_sm o_sf o_rm o_rs, wML g o_a m_pl m_yl m_nd m_hm m_wk m_kd, wI g (o_a 10) 29 g_f, wI g (o_a 11) 29 y_f, wI g (o_a 17) 5 r_f] [0, 2, 3, 1, 4] rfl (by simp only [List.flatten_cons, List.flatten_nil, List.append_nil, List.append_assoc]) (by show List.flatten [wO g o_a o_th o_ts o_pl o_nf o_ne o_rf o_re o_ac o_cm o_sd o_wf o_sm o_sf o_rm o_rs, wI g (o_a 10) 29 g_f, wI g (o_a 11) 29 y_f, wML g o_a m_pl m_yl m_nd m_hm m_wk m_kd, wI g (o_a 17) 5 r_f] = _; simp only [List.flatten_cons, List.flatten_nil, List.append_nil, List.append_assoc]) ?_
  refine V_cVv (C := (RX6, TX6, 34)) (ci := 6) (ws' := ((wO g o_a o_th o_ts o_pl o_nf o_ne o_rf o_re o_ac o_cm o_sd o_wf o_sm o_sf o_rm o_rs) ++ (wI g (o_a 10) 29 g_f) ++ (wI g (o_a 11) 29 g_f)) ++ ((wML g o_a m_pl m_yl m_nd m_hm m_wk m_kd) ++ (wI g (o_a 17) 5 r_f))) (List.range _) 0 X (c_X6_begin g l o_a o_th o_ts o_pl o_nf o_ne o_rf o_re o_ac o_cm o_sd o_wf o_sm o_sf o_rm o_rs g_f y_f   ) k_RX6_152 hy_X6_begin (by decide) (range_at _ _) (range_nd _) 0 rfl rfl nX6_marched_1 rfl rfl (Nat.le_of_ble_eq_true rfl) (wput_range _ _ _ (by simp only [List.length_append, wI_len, wO_len])) ?_
  refine V_blk (ws' := (wO g o_a o_th o_ts o_pl o_nf o_ne o_rf o_re o_ac o_cm o_sd o_wf o_sm o_sf o_rm o_rs) ++ (wML g o_a m_pl m_yl m_nd m_hm m_wk m_kd) ++ (wI g (o_a 10) 29 g_f) ++ (wI g (o_a 11) 29 g_f) ++ (wI g (o_a 17) 5 r_f)) [wO g o_a o_th o_ts o_pl o_nf o_ne o_rf o_re o_ac o_cm o_sd o_wf o_sm o_sf o_rm o_rs, wI g (o_a 10) 29 g_f, wI g (o_a 11) 29 g_f, wML g o_a m_pl m_yl m_nd m_hm m_wk m_kd, wI g (o_a 17) 5 r_f] [0, 3, 1, 2, 4] rfl (by simp only [List.flatten_cons, List.flatten_nil, List.append_nil, List.append_assoc]) (by show List.flatten [wO g o_a o_th o_ts o_pl o_nf o_ne o_rf o_re o_ac o_cm o_sd o_wf o_sm o_sf o_rm o_rs, wML g o_a m_pl m_yl m_nd m_hm m_wk m_kd, wI g (o_a 10) 29 g_f, wI g (o_a 11) 29 g_f, wI g (o_a 17) 5 r_f] = _; simp only [List.flatten_cons, List.flatten_nil, List.append_nil, List.append_assoc]) ?_
  refine V_aload_n nX6_marched_4 rfl ?_
  refine V_aload_n nX6_marched_5 rfl ?_
  refine V_get6 0 17 (by decide) f_RX6_40 nX6_marched_6 rfl rfl ?_
  refine V_iload_n nX6_marched_9 rfl ?_
  refine V_blk (ws' := ((wO g o_a o_th o_ts o_pl o_nf o_ne o_rf o_re o_ac o_cm o_sd o_wf o_sm o_sf o_rm o_rs) ++ (wML g o_a m_pl m_yl m_nd m_hm m_wk m_kd) ++ (wI g (o_a 11) 29 g_f) ++ (wI g (o_a 17) 5 r_f)) ++ ((wI g (o_a 10) 29 g_f))) [wO g o_a o_th o_ts o_pl o_nf o_ne o_rf o_re o_ac o_cm o_sd o_wf o_sm o_sf o_rm o_rs, wML g o_a m_pl m_yl m_nd m_hm m_wk m_kd, wI g (o_a 10) 29 g_f, wI g (o_a 11) 29 g_f, wI g (o_a 17) 5 r_f] [0, 1, 3, 4, 2] rfl (by simp only [List.flatten_cons, List.flatten_nil, List.append_nil, List.append_assoc]) (by show List.flatten [wO g o_a o_th o_ts o_pl o_nf o_ne o_rf o_re o_ac o_cm o_sd o_wf o_sm o_sf o_rm o_rs, wML g o_a m_pl m_yl m_nd m_hm m_wk m_kd, wI g (o_a 11) 29 g_f, wI g (o_a 17) 5 r_f, wI g (o_a 10) 29 g_f] = _; simp only [List.flatten_cons, List.flatten_nil, List.append_nil, List.append_assoc]) ?_
  refine V_cVi (C := (RX6, TX6, 34)) (ci := 6) (ws' := ((wO g o_a o_th o_ts o_pl o_nf o_ne o_rf o_re o_ac o_cm o_sd ((mrP m_pl m_hm m_wk m_kd o_nf x (g_f, r_f, o_wf) o_ne).2.2) o_sm o_sf o_rm o_rs) ++ (wML g o_a m_pl m_yl m_nd m_hm m_wk m_kd) ++ (wI g (o_a 11) 29 (mqP m_pl m_hm m_wk m_kd o_nf x g_f o_ne)) ++ (wI g (o_a 17) 5 ((mrP m_pl m_hm m_wk m_kd o_nf x (g_f, r_f, o_wf) o_ne).2.1))) ++ ((wI g (o_a 10) 29 g_f))) (List.range _) 2 X (c_X6_goMarch g l o_a o_th o_ts o_pl o_nf o_ne o_rf o_re o_ac o_cm o_sd o_wf o_sm o_sf o_rm o_rs m_pl m_yl m_nd m_hm m_wk m_kd (o_a 11) g_f r_f  x (by omega) (by omega) (by omega)) k_RX6_155 hy_X6_goMarch (by decide) (range_at _ _) (range_nd _) 0 rfl rfl nX6_marched_10 rfl rfl (Nat.le_of_ble_eq_true rfl) (wput_range _ _ _ (by simp only [List.length_append, wI_len, wML_len, wO_len])) ?_
  refine V_blk (ws' := (wO g o_a o_th o_ts o_pl o_nf o_ne o_rf o_re o_ac o_cm o_sd ((mrP m_pl m_hm m_wk m_kd o_nf x (g_f, r_f, o_wf) o_ne).2.2) o_sm o_sf o_rm o_rs) ++ (wML g o_a m_pl m_yl m_nd m_hm m_wk m_kd) ++ (wI g (o_a 10) 29 g_f) ++ (wI g (o_a 11) 29 (mqP m_pl m_hm m_wk m_kd o_nf x g_f o_ne)) ++ (wI g (o_a 17) 5 ((mrP m_pl m_hm m_wk m_kd o_nf x (g_f, r_f, o_wf) o_ne).2.1))) [wO g o_a o_th o_ts o_pl o_nf o_ne o_rf o_re o_ac o_cm o_sd ((mrP m_pl m_hm m_wk m_kd o_nf x (g_f, r_f, o_wf) o_ne).2.2) o_sm o_sf o_rm o_rs, wML g o_a m_pl m_yl m_nd m_hm m_wk m_kd, wI g (o_a 11) 29 (mqP m_pl m_hm m_wk m_kd o_nf x g_f o_ne), wI g (o_a 17) 5 ((mrP m_pl m_hm m_wk m_kd o_nf x (g_f, r_f, o_wf) o_ne).2.1), wI g (o_a 10) 29 g_f] [0, 1, 4, 2, 3] rfl (by simp only [List.flatten_cons, List.flatten_nil, List.append_nil, List.append_assoc]) (by show List.flatten [wO g o_a o_th o_ts o_pl o_nf o_ne o_rf o_re o_ac o_cm o_sd ((mrP m_pl m_hm m_wk m_kd o_nf x (g_f, r_f, o_wf) o_ne).2.2) o_sm o_sf o_rm o_rs, wML g o_a m_pl m_yl m_nd m_hm m_wk m_kd, wI g (o_a 10) 29 g_f, wI g (o_a 11) 29 (mqP m_pl m_hm m_wk m_kd o_nf x g_f o_ne), wI g (o_a 17) 5 ((mrP m_pl m_hm m_wk m_kd o_nf x (g_f, r_f, o_wf) o_ne).2.1)] = _; simp only [List.flatten_cons, List.flatten_nil, List.append_nil, List.append_assoc]) ?_
  exact R_i rfl X hQ nX6_marched_13 (by simp only [List.map_append, wI_fst, wML_fst, wO_fst]) (⟨rfl, rfl⟩)
