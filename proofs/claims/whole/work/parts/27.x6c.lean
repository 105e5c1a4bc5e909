set_option maxHeartbeats 4000000 in
set_option maxRecDepth 100000 in
theorem c_X6_about (g : Gx) (l : Launch) (o_a : Nat → Nat) (o_th : Int32) (o_ts : Nat) (o_pl : Nat) (o_nf : Nat) (o_ne : Nat) (o_rf : Nat) (o_re : Nat) (o_ac : Nat) (o_cm : Nat) (o_sd : Int64) (o_wf : Int32) (o_sm : Int32) (o_sf : Int32) (o_rm : Int32) (o_rs : Int32) (m_pl : Nat → Int32) (m_yl : Nat → Int32) (m_nd : Nat → Int32) (m_hm : Nat → Int32) (m_wk : Nat → Int32) (m_kd : Nat → Int32) (g_f : Nat → Int32) (y_f : Nat → Int32) (r_f : Nat → Int32)  (x : Int32) (hnf : o_nf ≤ 4) (hne : o_ne ≤ 5) : Ct g l yX6_about mX6_about ({ frames := 5, cells := 0, slots := 0, locals := 120 } : Room) [.ref (o_a 0), .int x] ((wO g o_a o_th o_ts o_pl o_nf o_ne o_rf o_re o_ac o_cm o_sd o_wf o_sm o_sf o_rm o_rs) ++ (wML g o_a m_pl m_yl m_nd m_hm m_wk m_kd) ++ (wI g (o_a 10) 29 g_f) ++ (wI g (o_a 11) 29 y_f) ++ (wI g (o_a 17) 5 r_f)) (fun r w' => ∃ (z_y : Nat → Int32) (z_r : Nat → Int32) (z_w : Int32), r = (some (.int (abM o_nf o_ne o_ac o_cm o_ts m_pl m_nd m_hm m_wk m_kd g_f x))) ∧ w' = (wO g o_a (nI 0) o_ts o_pl o_nf o_ne o_rf o_re o_ac o_cm o_sd z_w o_sm o_sf o_rm o_rs) ++ (wML g o_a m_pl m_yl m_nd m_hm m_wk m_kd) ++ (wI g (o_a 10) 29 g_f) ++ (wI g (o_a 11) 29 z_y) ++ (wI g (o_a 17) 5 z_r)) := by
  refine Ct.of (lv := [(0, .ref (o_a 0)), (1, .int x)]) ⟨by decide +kernel, rfl, Nat.le_of_ble_eq_true rfl⟩ rfl (fun E A sz Q X hQ => ?_)
  refine V_aload_n nX6_about_0 rfl ?_
  refine V_iconst (v := (nI 0)) nX6_about_1 rfl ?_
  refine V_put6 (ws' := (wO g o_a (nI 0) o_ts o_pl o_nf o_ne o_rf o_re o_ac o_cm o_sd o_wf o_sm o_sf o_rm o_rs) ++ (wML g o_a m_pl m_yl m_nd m_hm m_wk m_kd) ++ (wI g (o_a 10) 29 g_f) ++ (wI g (o_a 11) 29 y_f) ++ (wI g (o_a 17) 5 r_f)) 0 0 (by decide) f_RX6_68 rfl rfl rfl rfl nX6_about_2 rfl (Nat.le_of_ble_eq_true rfl) rfl ?_
  refine V_iload_n nX6_about_5 rfl ?_
  rcases (show x.toInt = 0 ∨ x.toInt = 1 ∨ x.toInt = 2 ∨ x.toInt = 3 ∨ x.toInt = 4 ∨ x.toInt = 5 ∨ x.toInt = 6 ∨ x.toInt = 7 ∨ x.toInt = 8 ∨ x.toInt = 9 ∨ x.toInt = 10 ∨ (x.toInt < 0 ∨ 10 < x.toInt) by omega) with hw | hw | hw | hw | hw | hw | hw | hw | hw | hw | hw | hw
  · skip
    refine V_tableIn (off := 58) (tgt := 64) nX6_about_6 (by omega) (by omega) (by rw [hw]; rfl) rfl ?_
    refine V_aload_n nX6_about_64 rfl ?_
    refine V_get6 0 4 (by decide) f_RX6_72 nX6_about_65 rfl rfl ?_
    exact R_i rfl X hQ nX6_about_68 (by simp only [List.map_append, wI_fst, wML_fst, wO_fst]) (⟨_, _, _, by simp [abM, hw]; try rfl, rfl⟩)
  · skip
    refine V_tableIn (off := 63) (tgt := 69) nX6_about_6 (by omega) (by omega) (by rw [hw]; rfl) rfl ?_
    refine V_aload_n nX6_about_69 rfl ?_
    refine V_get6 0 8 (by decide) f_RX6_79 nX6_about_70 rfl rfl ?_
    exact R_i rfl X hQ nX6_about_73 (by simp only [List.map_append, wI_fst, wML_fst, wO_fst]) (⟨_, _, _, by simp [abM, hw]; try rfl, rfl⟩)
  · skip
    refine V_tableIn (off := 68) (tgt := 74) nX6_about_6 (by omega) (by omega) (by rw [hw]; rfl) rfl ?_
    refine V_aload_n nX6_about_74 rfl ?_
    refine V_get6 0 16 (by decide) f_RX6_37 nX6_about_75 rfl rfl ?_
    refine V_bipush (v := (nI 28)) nX6_about_78 (by decide) ?_
    refine V_iald 7 nX6_about_80 rfl (by omega) (by decide) rfl ?_
    exact R_i rfl X hQ nX6_about_81 (by simp only [List.map_append, wI_fst, wML_fst, wO_fst]) (⟨_, _, _, by simp [abM, hw]; try rfl, rfl⟩)
  · skip
    refine V_tableIn (off := 76) (tgt := 82) nX6_about_6 (by omega) (by omega) (by rw [hw]; rfl) rfl ?_
    refine V_aload_n nX6_about_82 rfl ?_
    refine V_get6 0 16 (by decide) f_RX6_37 nX6_about_83 rfl rfl ?_
    refine V_blk (ws' := ((wI g (o_a 10) 29 g_f)) ++ ((wO g o_a (nI 0) o_ts o_pl o_nf o_ne o_rf o_re o_ac o_cm o_sd o_wf o_sm o_sf o_rm o_rs) ++ (wML g o_a m_pl m_yl m_nd m_hm m_wk m_kd) ++ (wI g (o_a 11) 29 y_f) ++ (wI g (o_a 17) 5 r_f))) [wO g o_a (nI 0) o_ts o_pl o_nf o_ne o_rf o_re o_ac o_cm o_sd o_wf o_sm o_sf o_rm o_rs, wML g o_a m_pl m_yl m_nd m_hm m_wk m_kd, wI g (o_a 10) 29 g_f, wI g (o_a 11) 29 y_f, wI g (o_a 17) 5 r_f] [2, 0, 1, 3, 4] rfl (by simp only [List.flatten_cons, List.flatten_nil, List.append_nil, List.append_assoc]) (by show List.flatten [wI g (o_a 10) 29 g_f, wO g o_a (nI 0) o_ts o_pl o_nf o_ne o_rf o_re o_ac o_cm o_sd o_wf o_sm o_sf o_rm o_rs, wML g o_a m_pl m_yl m_nd m_hm m_wk m_kd, wI g (o_a 11) 29 y_f, wI g (o_a 17) 5 r_f] = _; simp only [List.flatten_cons, List.flatten_nil, List.append_nil, List.append_assoc]) ?_
    refine V_cSi (ws' := ((wI g (o_a 10) 29 g_f)) ++ ((wO g o_a (nI 0) o_ts o_pl o_nf o_ne o_rf o_re o_ac o_cm o_sd o_wf o_sm o_sf o_rm o_rs) ++ (wML g o_a m_pl m_yl m_nd m_hm m_wk m_kd) ++ (wI g (o_a 11) 29 y_f) ++ (wI g (o_a 17) 5 r_f))) (List.range _) 1 X (c_X6_loaves g l (o_a 10) g_f   ) k_RX6_145 hy_X6_loaves.2 (by decide) (range_at _ _) (range_nd _) nX6_about_86 rfl rfl (Nat.le_of_ble_eq_true rfl) (wput_range _ _ _ (by simp only [List.length_append, wI_len])) ?_
    refine V_blk (ws' := (wO g o_a (nI 0) o_ts o_pl o_nf o_ne o_rf o_re o_ac o_cm o_sd o_wf o_sm o_sf o_rm o_rs) ++ (wML g o_a m_pl m_yl m_nd m_hm m_wk m_kd) ++ (wI g (o_a 10) 29 g_f) ++ (wI g (o_a 11) 29 y_f) ++ (wI g (o_a 17) 5 r_f)) [wI g (o_a 10) 29 g_f, wO g o_a (nI 0) o_ts o_pl o_nf o_ne o_rf o_re o_ac o_cm o_sd o_wf o_sm o_sf o_rm o_rs, wML g o_a m_pl m_yl m_nd m_hm m_wk m_kd, wI g (o_a 11) 29 y_f, wI g (o_a 17) 5 r_f] [1, 2, 0, 3, 4] rfl (by simp only [List.flatten_cons, List.flatten_nil, List.append_nil, List.append_assoc]) (by show List.flatten [wO g o_a (nI 0) o_ts o_pl o_nf o_ne o_rf o_re o_ac o_cm o_sd o_wf o_sm o_sf o_rm o_rs, wML g o_a m_pl m_yl m_nd m_hm m_wk m_kd, wI g (o_a 10) 29 g_f, wI g (o_a 11) 29 y_f, wI g (o_a 17) 5 r_f] = _; simp only [List.flatten_cons, List.flatten_nil, List.append_nil, List.append_assoc]) ?_
    exact R_i rfl X hQ nX6_about_89 (by simp only [List.map_append, wI_fst, wML_fst, wO_fst]) (⟨_, _, _, by simp [abM, hw]; try rfl, rfl⟩)
  · skip
    refine V_tableIn (off := 84) (tgt := 90) nX6_about_6 (by omega) (by omega) (by rw [hw]; rfl) rfl ?_
    refine V_aload_n nX6_about_90 rfl ?_
    refine V_get6 0 16 (by decide) f_RX6_37 nX6_about_91 rfl rfl ?_
    refine V_iconst (v := (nI 4)) nX6_about_94 rfl ?_
    refine V_iald 7 nX6_about_95 rfl (by omega) (by decide) rfl ?_
    refine V_aload_n nX6_about_96 rfl ?_
    refine V_get6 0 16 (by decide) f_RX6_37 nX6_about_97 rfl rfl ?_
    refine V_iconst (v := (nI 5)) nX6_about_100 rfl ?_
    refine V_iald 7 nX6_about_101 rfl (by omega) (by decide) rfl ?_
    refine V_iadd (v := (g_f 4) + (g_f 5)) nX6_about_102 rfl ?_
    refine V_aload_n nX6_about_103 rfl ?_
    refine V_get6 0 16 (by decide) f_RX6_37 nX6_about_104 rfl rfl ?_
    refine V_bipush (v := (nI 6)) nX6_about_107 (by decide) ?_
    refine V_iald 7 nX6_about_109 rfl (by omega) (by decide) rfl ?_
    refine V_iadd (v := ((g_f 4) + (g_f 5)) + (g_f 6)) nX6_about_110 rfl ?_
    refine V_aload_n nX6_about_111 rfl ?_
    refine V_get6 0 16 (by decide) f_RX6_37 nX6_about_112 rfl rfl ?_
    refine V_bipush (v := (nI 7)) nX6_about_115 (by decide) ?_
    refine V_iald 7 nX6_about_117 rfl (by omega) (by decide) rfl ?_
    refine V_iadd (v := (((g_f 4) + (g_f 5)) + (g_f 6)) + (g_f 7)) nX6_about_118 rfl ?_
    exact R_i rfl X hQ nX6_about_119 (by simp only [List.map_append, wI_fst, wML_fst, wO_fst]) (⟨_, _, _, by simp [abM, hw]; try rfl, rfl⟩)
  · skip
    refine V_tableIn (off := 114) (tgt := 120) nX6_about_6 (by omega) (by omega) (by rw [hw]; rfl) rfl ?_
    refine V_aload_n nX6_about_120 rfl ?_
    refine V_blk (ws' := ((wO g o_a (nI 0) o_ts o_pl o_nf o_ne o_rf o_re o_ac o_cm o_sd o_wf o_sm o_sf o_rm o_rs) ++ (wI g (o_a 10) 29 g_f)) ++ ((wML g o_a m_pl m_yl m_nd m_hm m_wk m_kd) ++ (wI g (o_a 11) 29 y_f) ++ (wI g (o_a 17) 5 r_f))) [wO g o_a (nI 0) o_ts o_pl o_nf o_ne o_rf o_re o_ac o_cm o_sd o_wf o_sm o_sf o_rm o_rs, wML g o_a m_pl m_yl m_nd m_hm m_wk m_kd, wI g (o_a 10) 29 g_f, wI g (o_a 11) 29 y_f, wI g (o_a 17) 5 r_f] [0, 2, 1, 3, 4] rfl (by simp only [List.flatten_cons, List.flatten_nil, List.append_nil, List.append_assoc]) (by show List.flatten [wO g o_a (nI 0) o_ts o_pl o_nf o_ne o_rf o_re o_ac o_cm o_sd o_wf o_sm o_sf o_rm o_rs, wI g (o_a 10) 29 g_f, wML g o_a m_pl m_yl m_nd m_hm m_wk m_kd, wI g (o_a 11) 29 y_f, wI g (o_a 17) 5 r_f] = _; simp only [List.flatten_cons, List.flatten_nil, List.append_nil, List.append_assoc]) ?_
    refine V_cVi (C := (RX6, TX6, 34)) (ci := 6) (ws' := ((wO g o_a (nI 0) o_ts o_pl o_nf o_ne o_rf o_re o_ac o_cm o_sd o_wf o_sm o_sf o_rm o_rs) ++ (wI g (o_a 10) 29 g_f)) ++ ((wML g o_a m_pl m_yl m_nd m_hm m_wk m_kd) ++ (wI g (o_a 11) 29 y_f) ++ (wI g (o_a 17) 5 r_f))) (List.range _) 0 X (c_X6_owedTogether g l o_a (nI 0) o_ts o_pl o_nf o_ne o_rf o_re o_ac o_cm o_sd o_wf o_sm o_sf o_rm o_rs g_f   (by omega)) k_RX6_158 hy_X6_owedTogether (by decide) (range_at _ _) (range_nd _) 0 rfl rfl nX6_about_121 rfl rfl (Nat.le_of_ble_eq_true rfl) (wput_range _ _ _ (by simp only [List.length_append, wI_len, wO_len])) ?_
    refine V_blk (ws' := (wO g o_a (nI 0) o_ts o_pl o_nf o_ne o_rf o_re o_ac o_cm o_sd o_wf o_sm o_sf o_rm o_rs) ++ (wML g o_a m_pl m_yl m_nd m_hm m_wk m_kd) ++ (wI g (o_a 10) 29 g_f) ++ (wI g (o_a 11) 29 y_f) ++ (wI g (o_a 17) 5 r_f)) [wO g o_a (nI 0) o_ts o_pl o_nf o_ne o_rf o_re o_ac o_cm o_sd o_wf o_sm o_sf o_rm o_rs, wI g (o_a 10) 29 g_f, wML g o_a m_pl m_yl m_nd m_hm m_wk m_kd, wI g (o_a 11) 29 y_f, wI g (o_a 17) 5 r_f] [0, 2, 1, 3, 4] rfl (by simp only [List.flatten_cons, List.flatten_nil, List.append_nil, List.append_assoc]) (by show List.flatten [wO g o_a (nI 0) o_ts o_pl o_nf o_ne o_rf o_re o_ac o_cm o_sd o_wf o_sm o_sf o_rm o_rs, wML g o_a m_pl m_yl m_nd m_hm m_wk m_kd, wI g (o_a 10) 29 g_f, wI g (o_a 11) 29 y_f, wI g (o_a 17) 5 r_f] = _; simp only [List.flatten_cons, List.flatten_nil, List.append_nil, List.append_assoc]) ?_
    exact R_i rfl X hQ nX6_about_124 (by simp only [List.map_append, wI_fst, wML_fst, wO_fst]) (⟨_, _, _, by simp [abM, hw]; try rfl, rfl⟩)
  · skip
    refine V_tableIn (off := 119) (tgt := 125) nX6_about_6 (by omega) (by omega) (by rw [hw]; rfl) rfl ?_
    refine V_aload_n nX6_about_125 rfl ?_
    refine V_aload_n nX6_about_126 rfl ?_
    refine V_get6 0 16 (by decide) f_RX6_37 nX6_about_127 rfl rfl ?_
    refine V_blk (ws' := ((wO g o_a (nI 0) o_ts o_pl o_nf o_ne o_rf o_re o_ac o_cm o_sd o_wf o_sm o_sf o_rm o_rs) ++ (wML g o_a m_pl m_yl m_nd m_hm m_wk m_kd) ++ (wI g (o_a 10) 29 g_f)) ++ ((wI g (o_a 11) 29 y_f) ++ (wI g (o_a 17) 5 r_f))) [wO g o_a (nI 0) o_ts o_pl o_nf o_ne o_rf o_re o_ac o_cm o_sd o_wf o_sm o_sf o_rm o_rs, wML g o_a m_pl m_yl m_nd m_hm m_wk m_kd, wI g (o_a 10) 29 g_f, wI g (o_a 11) 29 y_f, wI g (o_a 17) 5 r_f] [0, 1, 2, 3, 4] rfl (by simp only [List.flatten_cons, List.flatten_nil, List.append_nil, List.append_assoc]) (by show List.flatten [wO g o_a (nI 0) o_ts o_pl o_nf o_ne o_rf o_re o_ac o_cm o_sd o_wf o_sm o_sf o_rm o_rs, wML g o_a m_pl m_yl m_nd m_hm m_wk m_kd, wI g (o_a 10) 29 g_f, wI g (o_a 11) 29 y_f, wI g (o_a 17) 5 r_f] = _; simp only [List.flatten_cons, List.flatten_nil, List.append_nil, List.append_assoc]) ?_
    refine V_cVi (C := (RX6, TX6, 34)) (ci := 6) (ws' := ((wO g o_a (nI 0) o_ts o_pl o_nf o_ne o_rf o_re o_ac o_cm o_sd o_wf o_sm o_sf o_rm o_rs) ++ (wML g o_a m_pl m_yl m_nd m_hm m_wk m_kd) ++ (wI g (o_a 10) 29 g_f)) ++ ((wI g (o_a 11) 29 y_f) ++ (wI g (o_a 17) 5 r_f))) (List.range _) 1 X (c_X6_sown g l o_a (nI 0) o_ts o_pl o_nf o_ne o_rf o_re o_ac o_cm o_sd o_wf o_sm o_sf o_rm o_rs m_pl m_yl m_nd m_hm m_wk m_kd (o_a 10) g_f   (by omega)) k_RX6_141 hy_X6_sown (by decide) (range_at _ _) (range_nd _) 0 rfl rfl nX6_about_130 rfl rfl (Nat.le_of_ble_eq_true rfl) (wput_range _ _ _ (by simp only [List.length_append, wI_len, wML_len, wO_len])) ?_
    refine V_blk (ws' := (wO g o_a (nI 0) o_ts o_pl o_nf o_ne o_rf o_re o_ac o_cm o_sd o_wf o_sm o_sf o_rm o_rs) ++ (wML g o_a m_pl m_yl m_nd m_hm m_wk m_kd) ++ (wI g (o_a 10) 29 g_f) ++ (wI g (o_a 11) 29 y_f) ++ (wI g (o_a 17) 5 r_f)) [wO g o_a (nI 0) o_ts o_pl o_nf o_ne o_rf o_re o_ac o_cm o_sd o_wf o_sm o_sf o_rm o_rs, wML g o_a m_pl m_yl m_nd m_hm m_wk m_kd, wI g (o_a 10) 29 g_f, wI g (o_a 11) 29 y_f, wI g (o_a 17) 5 r_f] [0, 1, 2, 3, 4] rfl (by simp only [List.flatten_cons, List.flatten_nil, List.append_nil, List.append_assoc]) (by show List.flatten [wO g o_a (nI 0) o_ts o_pl o_nf o_ne o_rf o_re o_ac o_cm o_sd o_wf o_sm o_sf o_rm o_rs, wML g o_a m_pl m_yl m_nd m_hm m_wk m_kd, wI g (o_a 10) 29 g_f, wI g (o_a 11) 29 y_f, wI g (o_a 17) 5 r_f] = _; simp only [List.flatten_cons, List.flatten_nil, List.append_nil, List.append_assoc]) ?_
    exact R_i rfl X hQ nX6_about_133 (by simp only [List.map_append, wI_fst, wML_fst, wO_fst]) (⟨_, _, _, by simp [abM, hw]; try rfl, rfl⟩)
  · skip
    refine V_tableIn (off := 128) (tgt := 134) nX6_about_6 (by omega) (by omega) (by rw [hw]; rfl) rfl ?_
    refine V_aload_n nX6_about_134 rfl ?_
    refine V_bipush (v := (nI 31)) nX6_about_135 (by decide) ?_
    refine V_blk (ws' := ((wO g o_a (nI 0) o_ts o_pl o_nf o_ne o_rf o_re o_ac o_cm o_sd o_wf o_sm o_sf o_rm o_rs) ++ (wML g o_a m_pl m_yl m_nd m_hm m_wk m_kd) ++ (wI g (o_a 10) 29 g_f) ++ (wI g (o_a 11) 29 y_f) ++ (wI g (o_a 17) 5 r_f)) ++ ([] : va_W)) [wO g o_a (nI 0) o_ts o_pl o_nf o_ne o_rf o_re o_ac o_cm o_sd o_wf o_sm o_sf o_rm o_rs, wML g o_a m_pl m_yl m_nd m_hm m_wk m_kd, wI g (o_a 10) 29 g_f, wI g (o_a 11) 29 y_f, wI g (o_a 17) 5 r_f] [0, 1, 2, 3, 4] rfl (by simp only [List.flatten_cons, List.flatten_nil, List.append_nil, List.append_assoc]) (by show List.flatten [wO g o_a (nI 0) o_ts o_pl o_nf o_ne o_rf o_re o_ac o_cm o_sd o_wf o_sm o_sf o_rm o_rs, wML g o_a m_pl m_yl m_nd m_hm m_wk m_kd, wI g (o_a 10) 29 g_f, wI g (o_a 11) 29 y_f, wI g (o_a 17) 5 r_f] = _; simp only [List.flatten_cons, List.flatten_nil, List.append_nil, List.append_assoc]) ?_
    refine V_cVi (C := (RX6, TX6, 34)) (ci := 6) (ws' := ((wO g o_a (nI 0) o_ts o_pl o_nf o_ne o_rf o_re o_ac o_cm o_sd ((mrP m_pl m_hm m_wk m_kd o_nf 31 (g_f, r_f, o_wf) o_ne).2.2) o_sm o_sf o_rm o_rs) ++ (wML g o_a m_pl m_yl m_nd m_hm m_wk m_kd) ++ (wI g (o_a 10) 29 g_f) ++ (wI g (o_a 11) 29 (mqP m_pl m_hm m_wk m_kd o_nf 31 g_f o_ne)) ++ (wI g (o_a 17) 5 ((mrP m_pl m_hm m_wk m_kd o_nf 31 (g_f, r_f, o_wf) o_ne).2.1))) ++ ([] : va_W)) (List.range _) 1 X (c_X6_marched g l o_a (nI 0) o_ts o_pl o_nf o_ne o_rf o_re o_ac o_cm o_sd o_wf o_sm o_sf o_rm o_rs m_pl m_yl m_nd m_hm m_wk m_kd g_f y_f r_f  31 (by omega) (by omega) (by decide)) k_RX6_161 hy_X6_marched (by decide) (range_at _ _) (range_nd _) 0 rfl rfl nX6_about_137 rfl rfl (Nat.le_of_ble_eq_true rfl) (wput_range _ _ _ (by simp only [List.length_append, wI_len, wML_len, wO_len])) ?_
    refine V_blk (ws' := (wO g o_a (nI 0) o_ts o_pl o_nf o_ne o_rf o_re o_ac o_cm o_sd ((mrP m_pl m_hm m_wk m_kd o_nf 31 (g_f, r_f, o_wf) o_ne).2.2) o_sm o_sf o_rm o_rs) ++ (wML g o_a m_pl m_yl m_nd m_hm m_wk m_kd) ++ (wI g (o_a 10) 29 g_f) ++ (wI g (o_a 11) 29 (mqP m_pl m_hm m_wk m_kd o_nf 31 g_f o_ne)) ++ (wI g (o_a 17) 5 ((mrP m_pl m_hm m_wk m_kd o_nf 31 (g_f, r_f, o_wf) o_ne).2.1))) [wO g o_a (nI 0) o_ts o_pl o_nf o_ne o_rf o_re o_ac o_cm o_sd ((mrP m_pl m_hm m_wk m_kd o_nf 31 (g_f, r_f, o_wf) o_ne).2.2) o_sm o_sf o_rm o_rs, wML g o_a m_pl m_yl m_nd m_hm m_wk m_kd, wI g (o_a 10) 29 g_f, wI g (o_a 11) 29 (mqP m_pl m_hm m_wk m_kd o_nf 31 g_f o_ne), wI g (o_a 17) 5 ((mrP m_pl m_hm m_wk m_kd o_nf 31 (g_f, r_f, o_wf) o_ne).2.1)] [0, 1, 2, 3, 4] rfl (by simp only [List.flatten_cons, List.flatten_nil, List.append_nil, List.append_assoc]) (by show List.flatten [wO g o_a (nI 0) o_ts o_pl o_nf o_ne o_rf o_re o_ac o_cm o_sd ((mrP m_pl m_hm m_wk m_kd o_nf 31 (g_f, r_f, o_wf) o_ne).2.2) o_sm o_sf o_rm o_rs, wML g o_a m_pl m_yl m_nd m_hm m_wk m_kd, wI g (o_a 10) 29 g_f, wI g (o_a 11) 29 (mqP m_pl m_hm m_wk m_kd o_nf 31 g_f o_ne), wI g (o_a 17) 5 ((mrP m_pl m_hm m_wk m_kd o_nf 31 (g_f, r_f, o_wf) o_ne).2.1)] = _; simp only [List.flatten_cons, List.flatten_nil, List.append_nil, List.append_assoc]) ?_
    exact R_i rfl X hQ nX6_about_140 (by simp only [List.map_append, wI_fst, wML_fst, wO_fst]) (⟨_, _, _, by simp [abM, hw]; try rfl, rfl⟩)
  · skip
    refine V_tableIn (off := 135) (tgt := 141) nX6_about_6 (by omega) (by omega) (by rw [hw]; rfl) rfl ?_
    refine V_aload_n nX6_about_141 rfl ?_
    refine V_get6 0 19 (by decide) f_RX6_114 nX6_about_142 rfl rfl ?_
    exact R_i rfl X hQ nX6_about_145 (by simp only [List.map_append, wI_fst, wML_fst, wO_fst]) (⟨_, _, _, by simp [abM, hw]; try rfl, rfl⟩)
  · skip
    refine V_tableIn (off := 140) (tgt := 146) nX6_about_6 (by omega) (by omega) (by rw [hw]; rfl) rfl ?_
    refine V_aload_n nX6_about_146 rfl ?_
    refine V_get6 0 22 (by decide) f_RX6_164 nX6_about_147 rfl rfl ?_
    exact R_i rfl X hQ nX6_about_150 (by simp only [List.map_append, wI_fst, wML_fst, wO_fst]) (⟨_, _, _, by simp [abM, hw]; try rfl, rfl⟩)
  · skip
    refine V_tableIn (off := 145) (tgt := 151) nX6_about_6 (by omega) (by omega) (by rw [hw]; rfl) rfl ?_
    refine V_aload_n nX6_about_151 rfl ?_
    refine V_get6 0 2 (by decide) f_RX6_84 nX6_about_152 rfl rfl ?_
    exact R_i rfl X hQ nX6_about_155 (by simp only [List.map_append, wI_fst, wML_fst, wO_fst]) (⟨_, _, _, by simp [abM, hw]; try rfl, rfl⟩)
  · skip
    have hw0 : ¬ x.toInt = 0 := by omega
    have hw1 : ¬ x.toInt = 1 := by omega
    have hw2 : ¬ x.toInt = 2 := by omega
    have hw3 : ¬ x.toInt = 3 := by omega
    have hw4 : ¬ x.toInt = 4 := by omega
    have hw5 : ¬ x.toInt = 5 := by omega
    have hw6 : ¬ x.toInt = 6 := by omega
    have hw7 : ¬ x.toInt = 7 := by omega
    have hw8 : ¬ x.toInt = 8 := by omega
    have hw9 : ¬ x.toInt = 9 := by omega
    have hw10 : ¬ x.toInt = 10 := by omega
    refine V_tableOut (tgt := 156) nX6_about_6 hw rfl ?_
    refine V_bipush (v := (-2)) nX6_about_156 (by decide) ?_
    exact R_i rfl X hQ nX6_about_158 (by simp only [List.map_append, wI_fst, wML_fst, wO_fst]) (⟨_, _, _, by simp [abM, hw0, hw1, hw2, hw3, hw4, hw5, hw6, hw7, hw8, hw9, hw10]; try rfl, rfl⟩)

set_option maxHeartbeats 4000000 in
set_option maxRecDepth 100000 in
theorem c_X6_owing (g : Gx) (l : Launch) (o_a : Nat → Nat) (o_th : Int32) (o_ts : Nat) (o_pl : Nat) (o_nf : Nat) (o_ne : Nat) (o_rf : Nat) (o_re : Nat) (o_ac : Nat) (o_cm : Nat) (o_sd : Int64) (o_wf : Int32) (o_sm : Int32) (o_sf : Int32) (o_rm : Int32) (o_rs : Int32) (g_f : Nat → Int32)  (f : Nat) (hne : o_ne ≤ 5) (hf : f < 4) : Cd g l yX6_owing mX6_owing ({ frames := 1, cells := 0, slots := 0, locals := 22 } : Room) [.ref (o_a 0), .int (nI f)] ((wO g o_a o_th o_ts o_pl o_nf o_ne o_rf o_re o_ac o_cm o_sd o_wf o_sm o_sf o_rm o_rs) ++ (wI g (o_a 10) 29 g_f)) (some (.int (nI (bitsN (fun e => !decide (g_f (8 + 4 * e + f) ≤ 0)) o_ne)))) ((wO g o_a o_th o_ts o_pl o_nf o_ne o_rf o_re o_ac o_cm o_sd o_wf o_sm o_sf o_rm o_rs) ++ (wI g (o_a 10) 29 g_f)) := by
  refine Ct.of (lv := [(0, .ref (o_a 0)), (1, .int (nI f))]) ⟨by decide +kernel, rfl, Nat.le_of_ble_eq_true rfl⟩ rfl (fun E A sz Q X hQ => ?_)
  refine V_iconst (v := (nI 0)) nX6_owing_0 rfl ?_
  refine V_istore_n (lv' := [(0, .ref (o_a 0)), (1, .int (nI f)), (2, .int (nI 0))]) nX6_owing_1 (by decide) rfl ?_
  refine V_iconst (v := (nI 0)) nX6_owing_2 rfl ?_
  refine V_istore_n (lv' := [(0, .ref (o_a 0)), (1, .int (nI f)), (2, .int (nI 0)), (3, .int (nI 0))]) nX6_owing_3 (by decide) rfl ?_
  have L4 : ∀ (n : Nat) (i : Nat), o_ne - i < n → i ≤ o_ne → V g E mX6_owing A Q 0 0 ((wO g o_a o_th o_ts o_pl o_nf o_ne o_rf o_re o_ac o_cm o_sd o_wf o_sm o_sf o_rm o_rs) ++ (wI g (o_a 10) 29 g_f)) 4 [(0, .ref (o_a 0)), (1, .int (nI f)), (2, .int (nI (bitsN (fun e => !decide (g_f (8 + 4 * e + f) ≤ 0)) i))), (3, .int (nI i))] [] := by
    intro n
    induction n with
    | zero => intro i hm; exact absurd hm (Nat.not_lt_zero _)
    | succ n ih =>
      intro i hm hi
      refine V_iload_n nX6_owing_4 rfl ?_
      refine V_aload_n nX6_owing_5 rfl ?_
      refine V_get6 0 8 (by decide) f_RX6_79 nX6_owing_6 rfl rfl ?_
      refine V_icmp_ge_N (tgt := 40) nX6_owing_9 rfl (by omega) (by omega) (fun h9 => ?_) (fun h9 => ?_)
      · skip
        have hx_i : o_ne = i := by omega
        subst hx_i
        refine V_iload_n nX6_owing_40 rfl ?_
        exact R_i rfl X hQ nX6_owing_41 (by simp only [List.map_append, wI_fst, wO_fst]) (⟨rfl, rfl⟩)
      · skip
        refine V_iload_n nX6_owing_12 rfl ?_
        refine V_aload_n nX6_owing_13 rfl ?_
        refine V_get6 0 16 (by decide) f_RX6_37 nX6_owing_14 rfl rfl ?_
        refine V_iload_n nX6_owing_17 rfl ?_
        refine V_iload_n nX6_owing_18 rfl ?_
        refine V_blk (ws' := ((wI g (o_a 10) 29 g_f)) ++ ((wO g o_a o_th o_ts o_pl o_nf o_ne o_rf o_re o_ac o_cm o_sd o_wf o_sm o_sf o_rm o_rs))) [wO g o_a o_th o_ts o_pl o_nf o_ne o_rf o_re o_ac o_cm o_sd o_wf o_sm o_sf o_rm o_rs, wI g (o_a 10) 29 g_f] [1, 0] rfl (by simp only [List.flatten_cons, List.flatten_nil, List.append_nil, List.append_assoc]) (by show List.flatten [wI g (o_a 10) 29 g_f, wO g o_a o_th o_ts o_pl o_nf o_ne o_rf o_re o_ac o_cm o_sd o_wf o_sm o_sf o_rm o_rs] = _; simp only [List.flatten_cons, List.flatten_nil, List.append_nil, List.append_assoc]) ?_
        refine V_cSi (ws' := ((wI g (o_a 10) 29 g_f)) ++ ((wO g o_a o_th o_ts o_pl o_nf o_ne o_rf o_re o_ac o_cm o_sd o_wf o_sm o_sf o_rm o_rs))) (List.range _) 3 X (c_X6_owed g l (o_a 10) g_f  i f (by omega) (by omega)) k_RX6_117 hy_X6_owed.2 (by decide) (range_at _ _) (range_nd _) nX6_owing_19 rfl rfl (Nat.le_of_ble_eq_true rfl) (wput_range _ _ _ (by simp only [List.length_append, wI_len])) ?_
        refine V_blk (ws' := (wO g o_a o_th o_ts o_pl o_nf o_ne o_rf o_re o_ac o_cm o_sd o_wf o_sm o_sf o_rm o_rs) ++ (wI g (o_a 10) 29 g_f)) [wI g (o_a 10) 29 g_f, wO g o_a o_th o_ts o_pl o_nf o_ne o_rf o_re o_ac o_cm o_sd o_wf o_sm o_sf o_rm o_rs] [1, 0] rfl (by simp only [List.flatten_cons, List.flatten_nil, List.append_nil, List.append_assoc]) (by show List.flatten [wO g o_a o_th o_ts o_pl o_nf o_ne o_rf o_re o_ac o_cm o_sd o_wf o_sm o_sf o_rm o_rs, wI g (o_a 10) 29 g_f] = _; simp only [List.flatten_cons, List.flatten_nil, List.append_nil, List.append_assoc]) ?_
        refine V_joinN (b := !decide ((g_f (8 + 4 * i + f)) ≤ 0)) (x := (2 ^ i)) (y := 0) (pj := 32) (st := [.int (nI (bitsN (fun e => !decide (g_f (8 + 4 * e + f) ≤ 0)) i))]) (fun J1 J2 => ?_) ?_
        · skip
          refine V_if_le (tgt := 31) nX6_owing_22 rfl (fun h22 => ?_) (fun h22 => ?_)
          · skip
            refine V_iconst (v := (nI 0)) nX6_owing_31 rfl ?_
            exact J2 (by simp [h22])
          · skip
            refine V_iconst (v := (nI 1)) nX6_owing_25 rfl ?_
            refine V_iload_n nX6_owing_26 rfl ?_
            refine V_ishl (v := nI (2 ^ i)) nX6_owing_27 (nI_shl1 (by omega)) ?_
            refine V_goto (tgt := 32) nX6_owing_28 rfl ?_
            exact J1 (by simp [h22])
        refine V_ior (v := nI ((bitsN (fun e => !decide (g_f (8 + 4 * e + f) ≤ 0)) i) ||| (if (!decide ((g_f (8 + 4 * i + f)) ≤ 0)) = true then 2 ^ i else 0))) nX6_owing_32 (nx_or (bitsN (fun e => !decide (g_f (8 + 4 * e + f) ≤ 0)) i) (if (!decide ((g_f (8 + 4 * i + f)) ≤ 0)) = true then 2 ^ i else 0)) ?_
        refine V_istore_n (lv' := [(0, .ref (o_a 0)), (1, .int (nI f)), (2, .int (nI ((bitsN (fun e => !decide (g_f (8 + 4 * e + f) ≤ 0)) i) ||| (if (!decide ((g_f (8 + 4 * i + f)) ≤ 0)) = true then 2 ^ i else 0)))), (3, .int (nI i))]) nX6_owing_33 (by decide) rfl ?_
        refine V_iinc (v := nI (i + 1)) (lv' := [(0, .ref (o_a 0)), (1, .int (nI f)), (2, .int (nI ((bitsN (fun e => !decide (g_f (8 + 4 * e + f) ≤ 0)) i) ||| (if (!decide ((g_f (8 + 4 * i + f)) ≤ 0)) = true then 2 ^ i else 0)))), (3, .int (nI (i + 1)))]) nX6_owing_34 rfl (nI_add i 1) (by decide) rfl ?_
        refine V_goto (tgt := 4) nX6_owing_37 rfl ?_
        exact ih (i + 1) (by omega) (by omega)
  exact L4 _ 0 (Nat.lt_succ_self _) (by omega)

set_option maxHeartbeats 4000000 in
set_option maxRecDepth 100000 in
theorem c_X6_field (g : Gx) (l : Launch) (o_a : Nat → Nat) (o_th : Int32) (o_ts : Nat) (o_pl : Nat) (o_nf : Nat) (o_ne : Nat) (o_rf : Nat) (o_re : Nat) (o_ac : Nat) (o_cm : Nat) (o_sd : Int64) (o_wf : Int32) (o_sm : Int32) (o_sf : Int32) (o_rm : Int32) (o_rs : Int32) (m_pl : Nat → Int32) (m_yl : Nat → Int32) (m_nd : Nat → Int32) (m_hm : Nat → Int32) (m_wk : Nat → Int32) (m_kd : Nat → Int32) (g_f : Nat → Int32)  (x : Int32) (y : Int32) (hnf : o_nf ≤ 4) (hne : o_ne ≤ 5) : Cd g l yX6_field mX6_field ({ frames := 2, cells := 0, slots := 0, locals := 46 } : Room) [.ref (o_a 0), .int x, .int y] ((wO g o_a o_th o_ts o_pl o_nf o_ne o_rf o_re o_ac o_cm o_sd o_wf o_sm o_sf o_rm o_rs) ++ (wML g o_a m_pl m_yl m_nd m_hm m_wk m_kd) ++ (wI g (o_a 10) 29 g_f)) (some (.int (fiM o_nf o_ne m_pl m_yl m_nd g_f x y))) ((wO g o_a (nI 0) o_ts o_pl o_nf o_ne o_rf o_re o_ac o_cm o_sd o_wf o_sm o_sf o_rm o_rs) ++ (wML g o_a m_pl m_yl m_nd m_hm m_wk m_kd) ++ (wI g (o_a 10) 29 g_f)) := by
  refine Ct.of (lv := [(0, .ref (o_a 0)), (1, .int x), (2, .int y)]) ⟨by decide +kernel, rfl, Nat.le_of_ble_eq_true rfl⟩ rfl (fun E A sz Q X hQ => ?_)
  refine V_aload_n nX6_field_0 rfl ?_
  refine V_iconst (v := (nI 0)) nX6_field_1 rfl ?_
  refine V_put6 (ws' := (wO g o_a (nI 0) o_ts o_pl o_nf o_ne o_rf o_re o_ac o_cm o_sd o_wf o_sm o_sf o_rm o_rs) ++ (wML g o_a m_pl m_yl m_nd m_hm m_wk m_kd) ++ (wI g (o_a 10) 29 g_f)) 0 0 (by decide) f_RX6_68 rfl rfl rfl rfl nX6_field_2 rfl (Nat.le_of_ble_eq_true rfl) rfl ?_
  refine V_aload_n nX6_field_5 rfl ?_
  refine V_iload_n nX6_field_6 rfl ?_
  refine V_blk (ws' := ((wO g o_a (nI 0) o_ts o_pl o_nf o_ne o_rf o_re o_ac o_cm o_sd o_wf o_sm o_sf o_rm o_rs)) ++ ((wML g o_a m_pl m_yl m_nd m_hm m_wk m_kd) ++ (wI g (o_a 10) 29 g_f))) [wO g o_a (nI 0) o_ts o_pl o_nf o_ne o_rf o_re o_ac o_cm o_sd o_wf o_sm o_sf o_rm o_rs, wML g o_a m_pl m_yl m_nd m_hm m_wk m_kd, wI g (o_a 10) 29 g_f] [0, 1, 2] rfl (by simp only [List.flatten_cons, List.flatten_nil, List.append_nil, List.append_assoc]) (by show List.flatten [wO g o_a (nI 0) o_ts o_pl o_nf o_ne o_rf o_re o_ac o_cm o_sd o_wf o_sm o_sf o_rm o_rs, wML g o_a m_pl m_yl m_nd m_hm m_wk m_kd, wI g (o_a 10) 29 g_f] = _; simp only [List.flatten_cons, List.flatten_nil, List.append_nil, List.append_assoc]) ?_
  refine V_cVi (C := (RX6, TX6, 34)) (ci := 6) (ws' := ((wO g o_a (nI 0) o_ts o_pl o_nf o_ne o_rf o_re o_ac o_cm o_sd o_wf o_sm o_sf o_rm o_rs)) ++ ((wML g o_a m_pl m_yl m_nd m_hm m_wk m_kd) ++ (wI g (o_a 10) 29 g_f))) (List.range _) 1 X (c_X6_noField g l o_a (nI 0) o_ts o_pl o_nf o_ne o_rf o_re o_ac o_cm o_sd o_wf o_sm o_sf o_rm o_rs  x (by omega)) k_RX6_167 hy_X6_noField (by decide) (range_at _ _) (range_nd _) 0 rfl rfl nX6_field_7 rfl rfl (Nat.le_of_ble_eq_true rfl) (wput_range _ _ _ (by simp only [List.length_append, wO_len])) ?_
  refine V_blk (ws' := (wO g o_a (nI 0) o_ts o_pl o_nf o_ne o_rf o_re o_ac o_cm o_sd o_wf o_sm o_sf o_rm o_rs) ++ (wML g o_a m_pl m_yl m_nd m_hm m_wk m_kd) ++ (wI g (o_a 10) 29 g_f)) [wO g o_a (nI 0) o_ts o_pl o_nf o_ne o_rf o_re o_ac o_cm o_sd o_wf o_sm o_sf o_rm o_rs, wML g o_a m_pl m_yl m_nd m_hm m_wk m_kd, wI g (o_a 10) 29 g_f] [0, 1, 2] rfl (by simp only [List.flatten_cons, List.flatten_nil, List.append_nil, List.append_assoc]) (by show List.flatten [wO g o_a (nI 0) o_ts o_pl o_nf o_ne o_rf o_re o_ac o_cm o_sd o_wf o_sm o_sf o_rm o_rs, wML g o_a m_pl m_yl m_nd m_hm m_wk m_kd, wI g (o_a 10) 29 g_f] = _; simp only [List.flatten_cons, List.flatten_nil, List.append_nil, List.append_assoc]) ?_
  refine V_if_eq_b (tgt := 15) nX6_field_10 rfl (fun h10 => ?_) (fun h10 => ?_)
  · skip
    obtain ⟨a, hf_a, rfl⟩ := nhas h10 (by omega)
    have hix_a : ix (nI a) = a := ix_nI (by omega)
    have hp_a : hasN o_nf (nI a) = true := by rw [Bool.not_eq_false'] at h10; exact h10
    refine V_iload_n nX6_field_15 rfl ?_
    rcases (show y.toInt = 0 ∨ y.toInt = 1 ∨ y.toInt = 2 ∨ y.toInt = 3 ∨ y.toInt = 4 ∨ y.toInt = 5 ∨ (y.toInt < 0 ∨ 5 < y.toInt) by omega) with hw | hw | hw | hw | hw | hw | hw
    · skip
      refine V_tableIn (off := 40) (tgt := 56) nX6_field_16 (by omega) (by omega) (by rw [hw]; rfl) rfl ?_
      refine V_aload_n nX6_field_56 rfl ?_
      refine V_get6 0 5 (by decide) f_RX6_13 nX6_field_57 rfl rfl ?_
      refine V_iload_n nX6_field_60 rfl ?_
      refine V_iald 1 nX6_field_61 rfl (by omega) (by decide) rfl ?_
      exact R_i rfl X hQ nX6_field_62 (by simp only [List.map_append, wI_fst, wML_fst, wO_fst]) (⟨by simp [fiM, hix_a, hp_a, hw], rfl⟩)
    · skip
      refine V_tableIn (off := 47) (tgt := 63) nX6_field_16 (by omega) (by omega) (by rw [hw]; rfl) rfl ?_
      refine V_aload_n nX6_field_63 rfl ?_
      refine V_get6 0 6 (by decide) f_RX6_16 nX6_field_64 rfl rfl ?_
      refine V_iload_n nX6_field_67 rfl ?_
      refine V_iald 2 nX6_field_68 rfl (by omega) (by decide) rfl ?_
      exact R_i rfl X hQ nX6_field_69 (by simp only [List.map_append, wI_fst, wML_fst, wO_fst]) (⟨by simp [fiM, hix_a, hp_a, hw], rfl⟩)
    · skip
      refine V_tableIn (off := 54) (tgt := 70) nX6_field_16 (by omega) (by omega) (by rw [hw]; rfl) rfl ?_
      refine V_aload_n nX6_field_70 rfl ?_
      refine V_get6 0 7 (by decide) f_RX6_19 nX6_field_71 rfl rfl ?_
      refine V_iload_n nX6_field_74 rfl ?_
      refine V_iald 3 nX6_field_75 rfl (by omega) (by decide) rfl ?_
      exact R_i rfl X hQ nX6_field_76 (by simp only [List.map_append, wI_fst, wML_fst, wO_fst]) (⟨by simp [fiM, hix_a, hp_a, hw], rfl⟩)
    · skip
      refine V_tableIn (off := 61) (tgt := 77) nX6_field_16 (by omega) (by omega) (by rw [hw]; rfl) rfl ?_
      refine V_aload_n nX6_field_77 rfl ?_
      refine V_get6 0 16 (by decide) f_RX6_37 nX6_field_78 rfl rfl ?_
      refine V_iload_n nX6_field_81 rfl ?_
      refine V_iald 7 nX6_field_82 rfl (by omega) (by decide) rfl ?_
      exact R_i rfl X hQ nX6_field_83 (by simp only [List.map_append, wI_fst, wML_fst, wO_fst]) (⟨by simp [fiM, hix_a, hp_a, hw], rfl⟩)
    · skip
      refine V_tableIn (off := 68) (tgt := 84) nX6_field_16 (by omega) (by omega) (by rw [hw]; rfl) rfl ?_
      refine V_aload_n nX6_field_84 rfl ?_
      refine V_get6 0 16 (by decide) f_RX6_37 nX6_field_85 rfl rfl ?_
      refine V_iconst (v := (nI 4)) nX6_field_88 rfl ?_
      refine V_iload_n nX6_field_89 rfl ?_
      refine V_iadd (v := nI (4 + a)) nX6_field_90 (nI_add 4 a) ?_
      refine V_iald 7 nX6_field_91 rfl (by omega) (by decide) rfl ?_
      exact R_i rfl X hQ nX6_field_92 (by simp only [List.map_append, wI_fst, wML_fst, wO_fst]) (⟨by simp [fiM, hix_a, hp_a, hw], rfl⟩)
    · skip
      refine V_tableIn (off := 77) (tgt := 93) nX6_field_16 (by omega) (by omega) (by rw [hw]; rfl) rfl ?_
      refine V_aload_n nX6_field_93 rfl ?_
      refine V_iload_n nX6_field_94 rfl ?_
      refine V_blk (ws' := ((wO g o_a (nI 0) o_ts o_pl o_nf o_ne o_rf o_re o_ac o_cm o_sd o_wf o_sm o_sf o_rm o_rs) ++ (wI g (o_a 10) 29 g_f)) ++ ((wML g o_a m_pl m_yl m_nd m_hm m_wk m_kd))) [wO g o_a (nI 0) o_ts o_pl o_nf o_ne o_rf o_re o_ac o_cm o_sd o_wf o_sm o_sf o_rm o_rs, wML g o_a m_pl m_yl m_nd m_hm m_wk m_kd, wI g (o_a 10) 29 g_f] [0, 2, 1] rfl (by simp only [List.flatten_cons, List.flatten_nil, List.append_nil, List.append_assoc]) (by show List.flatten [wO g o_a (nI 0) o_ts o_pl o_nf o_ne o_rf o_re o_ac o_cm o_sd o_wf o_sm o_sf o_rm o_rs, wI g (o_a 10) 29 g_f, wML g o_a m_pl m_yl m_nd m_hm m_wk m_kd] = _; simp only [List.flatten_cons, List.flatten_nil, List.append_nil, List.append_assoc]) ?_
      refine V_cVi (C := (RX6, TX6, 34)) (ci := 6) (ws' := ((wO g o_a (nI 0) o_ts o_pl o_nf o_ne o_rf o_re o_ac o_cm o_sd o_wf o_sm o_sf o_rm o_rs) ++ (wI g (o_a 10) 29 g_f)) ++ ((wML g o_a m_pl m_yl m_nd m_hm m_wk m_kd))) (List.range _) 1 X (c_X6_owing g l o_a (nI 0) o_ts o_pl o_nf o_ne o_rf o_re o_ac o_cm o_sd o_wf o_sm o_sf o_rm o_rs g_f  a (by omega) (by omega)) k_RX6_171 hy_X6_owing (by decide) (range_at _ _) (range_nd _) 0 rfl rfl nX6_field_95 rfl rfl (Nat.le_of_ble_eq_true rfl) (wput_range _ _ _ (by simp only [List.length_append, wI_len, wO_len])) ?_
      refine V_blk (ws' := (wO g o_a (nI 0) o_ts o_pl o_nf o_ne o_rf o_re o_ac o_cm o_sd o_wf o_sm o_sf o_rm o_rs) ++ (wML g o_a m_pl m_yl m_nd m_hm m_wk m_kd) ++ (wI g (o_a 10) 29 g_f)) [wO g o_a (nI 0) o_ts o_pl o_nf o_ne o_rf o_re o_ac o_cm o_sd o_wf o_sm o_sf o_rm o_rs, wI g (o_a 10) 29 g_f, wML g o_a m_pl m_yl m_nd m_hm m_wk m_kd] [0, 2, 1] rfl (by simp only [List.flatten_cons, List.flatten_nil, List.append_nil, List.append_assoc]) (by show List.flatten [wO g o_a (nI 0) o_ts o_pl o_nf o_ne o_rf o_re o_ac o_cm o_sd o_wf o_sm o_sf o_rm o_rs, wML g o_a m_pl m_yl m_nd m_hm m_wk m_kd, wI g (o_a 10) 29 g_f] = _; simp only [List.flatten_cons, List.flatten_nil, List.append_nil, List.append_assoc]) ?_
      exact R_i rfl X hQ nX6_field_98 (by simp only [List.map_append, wI_fst, wML_fst, wO_fst]) (⟨by simp [fiM, hix_a, hp_a, hw], rfl⟩)
    · skip
      have hw0 : ¬ y.toInt = 0 := by omega
      have hw1 : ¬ y.toInt = 1 := by omega
      have hw2 : ¬ y.toInt = 2 := by omega
      have hw3 : ¬ y.toInt = 3 := by omega
      have hw4 : ¬ y.toInt = 4 := by omega
      have hw5 : ¬ y.toInt = 5 := by omega
      refine V_tableOut (tgt := 99) nX6_field_16 hw rfl ?_
      refine V_bipush (v := (-2)) nX6_field_99 (by decide) ?_
      exact R_i rfl X hQ nX6_field_101 (by simp only [List.map_append, wI_fst, wML_fst, wO_fst]) (⟨by simp [fiM, hix_a, hp_a, hw0, hw1, hw2, hw3, hw4, hw5], rfl⟩)
  · skip
    have hn_a : hasN o_nf x = false := by rw [Bool.not_eq_true'] at h10; exact h10
    refine V_iconst (v := (-1)) nX6_field_13 (by decide) ?_
    exact R_i rfl X hQ nX6_field_14 (by simp only [List.map_append, wI_fst, wML_fst, wO_fst]) (⟨by simp [fiM, hn_a], rfl⟩)

set_option maxHeartbeats 4000000 in
set_option maxRecDepth 100000 in
theorem c_X6_eater (g : Gx) (l : Launch) (o_a : Nat → Nat) (o_th : Int32) (o_ts : Nat) (o_pl : Nat) (o_nf : Nat) (o_ne : Nat) (o_rf : Nat) (o_re : Nat) (o_ac : Nat) (o_cm : Nat) (o_sd : Int64) (o_wf : Int32) (o_sm : Int32) (o_sf : Int32) (o_rm : Int32) (o_rs : Int32) (m_pl : Nat → Int32) (m_yl : Nat → Int32) (m_nd : Nat → Int32) (m_hm : Nat → Int32) (m_wk : Nat → Int32) (m_kd : Nat → Int32) (g_f : Nat → Int32) (y_f : Nat → Int32)  (x : Int32) (y : Int32) (hnf : o_nf ≤ 4) (hne : o_ne ≤ 5) : Ct g l yX6_eater mX6_eater ({ frames := 3, cells := 0, slots := 0, locals := 76 } : Room) [.ref (o_a 0), .int x, .int y] ((wO g o_a o_th o_ts o_pl o_nf o_ne o_rf o_re o_ac o_cm o_sd o_wf o_sm o_sf o_rm o_rs) ++ (wML g o_a m_pl m_yl m_nd m_hm m_wk m_kd) ++ (wI g (o_a 10) 29 g_f) ++ (wI g (o_a 11) 29 y_f)) (fun r w' => ∃ (z_y : Nat → Int32) (z_w : Int32), r = (some (.int (eaM o_nf o_ne m_pl m_hm m_wk m_kd g_f x y))) ∧ w' = (wO g o_a (nI 0) o_ts o_pl o_nf o_ne o_rf o_re o_ac o_cm o_sd z_w o_sm o_sf o_rm o_rs) ++ (wML g o_a m_pl m_yl m_nd m_hm m_wk m_kd) ++ (wI g (o_a 10) 29 g_f) ++ (wI g (o_a 11) 29 z_y)) := by
  refine Ct.of (lv := [(0, .ref (o_a 0)), (1, .int x), (2, .int y)]) ⟨by decide +kernel, rfl, Nat.le_of_ble_eq_true rfl⟩ rfl (fun E A sz Q X hQ => ?_)
  refine V_aload_n nX6_eater_0 rfl ?_
  refine V_iconst (v := (nI 0)) nX6_eater_1 rfl ?_
  refine V_put6 (ws' := (wO g o_a (nI 0) o_ts o_pl o_nf o_ne o_rf o_re o_ac o_cm o_sd o_wf o_sm o_sf o_rm o_rs) ++ (wML g o_a m_pl m_yl m_nd m_hm m_wk m_kd) ++ (wI g (o_a 10) 29 g_f) ++ (wI g (o_a 11) 29 y_f)) 0 0 (by decide) f_RX6_68 rfl rfl rfl rfl nX6_eater_2 rfl (Nat.le_of_ble_eq_true rfl) rfl ?_
  refine V_aload_n nX6_eater_5 rfl ?_
  refine V_iload_n nX6_eater_6 rfl ?_
  refine V_blk (ws' := ((wO g o_a (nI 0) o_ts o_pl o_nf o_ne o_rf o_re o_ac o_cm o_sd o_wf o_sm o_sf o_rm o_rs)) ++ ((wML g o_a m_pl m_yl m_nd m_hm m_wk m_kd) ++ (wI g (o_a 10) 29 g_f) ++ (wI g (o_a 11) 29 y_f))) [wO g o_a (nI 0) o_ts o_pl o_nf o_ne o_rf o_re o_ac o_cm o_sd o_wf o_sm o_sf o_rm o_rs, wML g o_a m_pl m_yl m_nd m_hm m_wk m_kd, wI g (o_a 10) 29 g_f, wI g (o_a 11) 29 y_f] [0, 1, 2, 3] rfl (by simp only [List.flatten_cons, List.flatten_nil, List.append_nil, List.append_assoc]) (by show List.flatten [wO g o_a (nI 0) o_ts o_pl o_nf o_ne o_rf o_re o_ac o_cm o_sd o_wf o_sm o_sf o_rm o_rs, wML g o_a m_pl m_yl m_nd m_hm m_wk m_kd, wI g (o_a 10) 29 g_f, wI g (o_a 11) 29 y_f] = _; simp only [List.flatten_cons, List.flatten_nil, List.append_nil, List.append_assoc]) ?_
  refine V_cVi (C := (RX6, TX6, 34)) (ci := 6) (ws' := ((wO g o_a (nI 0) o_ts o_pl o_nf o_ne o_rf o_re o_ac o_cm o_sd o_wf o_sm o_sf o_rm o_rs)) ++ ((wML g o_a m_pl m_yl m_nd m_hm m_wk m_kd) ++ (wI g (o_a 10) 29 g_f) ++ (wI g (o_a 11) 29 y_f))) (List.range _) 1 X (c_X6_noEater g l o_a (nI 0) o_ts o_pl o_nf o_ne o_rf o_re o_ac o_cm o_sd o_wf o_sm o_sf o_rm o_rs  x (by omega)) k_RX6_174 hy_X6_noEater (by decide) (range_at _ _) (range_nd _) 0 rfl rfl nX6_eater_7 rfl rfl (Nat.le_of_ble_eq_true rfl) (wput_range _ _ _ (by simp only [List.length_append, wO_len])) ?_
  refine V_blk (ws' := (wO g o_a (nI 0) o_ts o_pl o_nf o_ne o_rf o_re o_ac o_cm o_sd o_wf o_sm o_sf o_rm o_rs) ++ (wML g o_a m_pl m_yl m_nd m_hm m_wk m_kd) ++ (wI g (o_a 10) 29 g_f) ++ (wI g (o_a 11) 29 y_f)) [wO g o_a (nI 0) o_ts o_pl o_nf o_ne o_rf o_re o_ac o_cm o_sd o_wf o_sm o_sf o_rm o_rs, wML g o_a m_pl m_yl m_nd m_hm m_wk m_kd, wI g (o_a 10) 29 g_f, wI g (o_a 11) 29 y_f] [0, 1, 2, 3] rfl (by simp only [List.flatten_cons, List.flatten_nil, List.append_nil, List.append_assoc]) (by show List.flatten [wO g o_a (nI 0) o_ts o_pl o_nf o_ne o_rf o_re o_ac o_cm o_sd o_wf o_sm o_sf o_rm o_rs, wML g o_a m_pl m_yl m_nd m_hm m_wk m_kd, wI g (o_a 10) 29 g_f, wI g (o_a 11) 29 y_f] = _; simp only [List.flatten_cons, List.flatten_nil, List.append_nil, List.append_assoc]) ?_
  refine V_if_eq_b (tgt := 15) nX6_eater_10 rfl (fun h10 => ?_) (fun h10 => ?_)
  · skip
    obtain ⟨a, hf_a, rfl⟩ := nhas h10 (by omega)
    have hix_a : ix (nI a) = a := ix_nI (by omega)
    have hp_a : hasN o_ne (nI a) = true := by rw [Bool.not_eq_false'] at h10; exact h10
    refine V_iload_n nX6_eater_15 rfl ?_
    refine V_iconst (v := (nI 4)) nX6_eater_16 rfl ?_
    refine V_icmp_eq (tgt := 25) nX6_eater_17 rfl (fun h17 => ?_) (fun h17 => ?_)
    · skip
      refine V_aload_n nX6_eater_25 rfl ?_
      refine V_blk (ws' := ((wO g o_a (nI 0) o_ts o_pl o_nf o_ne o_rf o_re o_ac o_cm o_sd o_wf o_sm o_sf o_rm o_rs) ++ (wI g (o_a 10) 29 g_f) ++ (wI g (o_a 11) 29 y_f)) ++ ((wML g o_a m_pl m_yl m_nd m_hm m_wk m_kd))) [wO g o_a (nI 0) o_ts o_pl o_nf o_ne o_rf o_re o_ac o_cm o_sd o_wf o_sm o_sf o_rm o_rs, wML g o_a m_pl m_yl m_nd m_hm m_wk m_kd, wI g (o_a 10) 29 g_f, wI g (o_a 11) 29 y_f] [0, 2, 3, 1] rfl (by simp only [List.flatten_cons, List.flatten_nil, List.append_nil, List.append_assoc]) (by show List.flatten [wO g o_a (nI 0) o_ts o_pl o_nf o_ne o_rf o_re o_ac o_cm o_sd o_wf o_sm o_sf o_rm o_rs, wI g (o_a 10) 29 g_f, wI g (o_a 11) 29 y_f, wML g o_a m_pl m_yl m_nd m_hm m_wk m_kd] = _; simp only [List.flatten_cons, List.flatten_nil, List.append_nil, List.append_assoc]) ?_
      refine V_cVv (C := (RX6, TX6, 34)) (ci := 6) (ws' := ((wO g o_a (nI 0) o_ts o_pl o_nf o_ne o_rf o_re o_ac o_cm o_sd o_wf o_sm o_sf o_rm o_rs) ++ (wI g (o_a 10) 29 g_f) ++ (wI g (o_a 11) 29 g_f)) ++ ((wML g o_a m_pl m_yl m_nd m_hm m_wk m_kd))) (List.range _) 0 X (c_X6_begin g l o_a (nI 0) o_ts o_pl o_nf o_ne o_rf o_re o_ac o_cm o_sd o_wf o_sm o_sf o_rm o_rs g_f y_f   ) k_RX6_152 hy_X6_begin (by decide) (range_at _ _) (range_nd _) 0 rfl rfl nX6_eater_26 rfl rfl (Nat.le_of_ble_eq_true rfl) (wput_range _ _ _ (by simp only [List.length_append, wI_len, wO_len])) ?_
      refine V_blk (ws' := (wO g o_a (nI 0) o_ts o_pl o_nf o_ne o_rf o_re o_ac o_cm o_sd o_wf o_sm o_sf o_rm o_rs) ++ (wML g o_a m_pl m_yl m_nd m_hm m_wk m_kd) ++ (wI g (o_a 10) 29 g_f) ++ (wI g (o_a 11) 29 g_f)) [wO g o_a (nI 0) o_ts o_pl o_nf o_ne o_rf o_re o_ac o_cm o_sd o_wf o_sm o_sf o_rm o_rs, wI g (o_a 10) 29 g_f, wI g (o_a 11) 29 g_f, wML g o_a m_pl m_yl m_nd m_hm m_wk m_kd] [0, 3, 1, 2] rfl (by simp only [List.flatten_cons, List.flatten_nil, List.append_nil, List.append_assoc]) (by show List.flatten [wO g o_a (nI 0) o_ts o_pl o_nf o_ne o_rf o_re o_ac o_cm o_sd o_wf o_sm o_sf o_rm o_rs, wML g o_a m_pl m_yl m_nd m_hm m_wk m_kd, wI g (o_a 10) 29 g_f, wI g (o_a 11) 29 g_f] = _; simp only [List.flatten_cons, List.flatten_nil, List.append_nil, List.append_assoc]) ?_
      refine V_aload_n nX6_eater_29 rfl ?_
      refine V_aload_n nX6_eater_30 rfl ?_
      refine V_get6 0 17 (by decide) f_RX6_40 nX6_eater_31 rfl rfl ?_
      refine V_iload_n nX6_eater_34 rfl ?_
      refine V_aload_n nX6_eater_35 rfl ?_
      refine V_get6 0 10 (by decide) f_RX6_25 nX6_eater_36 rfl rfl ?_
      refine V_iload_n nX6_eater_39 rfl ?_
      refine V_iald 5 nX6_eater_40 rfl (by omega) (by decide) rfl ?_
      refine V_blk (ws' := ((wO g o_a (nI 0) o_ts o_pl o_nf o_ne o_rf o_re o_ac o_cm o_sd o_wf o_sm o_sf o_rm o_rs) ++ (wML g o_a m_pl m_yl m_nd m_hm m_wk m_kd) ++ (wI g (o_a 11) 29 g_f)) ++ ((wI g (o_a 10) 29 g_f))) [wO g o_a (nI 0) o_ts o_pl o_nf o_ne o_rf o_re o_ac o_cm o_sd o_wf o_sm o_sf o_rm o_rs, wML g o_a m_pl m_yl m_nd m_hm m_wk m_kd, wI g (o_a 10) 29 g_f, wI g (o_a 11) 29 g_f] [0, 1, 3, 2] rfl (by simp only [List.flatten_cons, List.flatten_nil, List.append_nil, List.append_assoc]) (by show List.flatten [wO g o_a (nI 0) o_ts o_pl o_nf o_ne o_rf o_re o_ac o_cm o_sd o_wf o_sm o_sf o_rm o_rs, wML g o_a m_pl m_yl m_nd m_hm m_wk m_kd, wI g (o_a 11) 29 g_f, wI g (o_a 10) 29 g_f] = _; simp only [List.flatten_cons, List.flatten_nil, List.append_nil, List.append_assoc]) ?_
      refine V_cVi (C := (RX6, TX6, 34)) (ci := 6) (ws' := ((wO g o_a (nI 0) o_ts o_pl o_nf o_ne o_rf o_re o_ac o_cm o_sd ((gsI m_pl m_hm m_kd o_nf a (m_wk a) g_f).2.2) o_sm o_sf o_rm o_rs) ++ (wML g o_a m_pl m_yl m_nd m_hm m_wk m_kd) ++ (wI g (o_a 11) 29 ((gsI m_pl m_hm m_kd o_nf a (m_wk a) g_f).1))) ++ ((wI g (o_a 10) 29 g_f))) (List.range _) 3 X (c_X6_goes g l o_a (nI 0) o_ts o_pl o_nf o_ne o_rf o_re o_ac o_cm o_sd o_wf o_sm o_sf o_rm o_rs m_pl m_yl m_nd m_hm m_wk m_kd (o_a 11) g_f  a (m_wk a) (by omega) (by omega)) k_RX6_138 hy_X6_goes (by decide) (range_at _ _) (range_nd _) 0 rfl rfl nX6_eater_41 rfl rfl (Nat.le_of_ble_eq_true rfl) (wput_range _ _ _ (by simp only [List.length_append, wI_len, wML_len, wO_len])) ?_
      refine V_blk (ws' := (wO g o_a (nI 0) o_ts o_pl o_nf o_ne o_rf o_re o_ac o_cm o_sd ((gsI m_pl m_hm m_kd o_nf a (m_wk a) g_f).2.2) o_sm o_sf o_rm o_rs) ++ (wML g o_a m_pl m_yl m_nd m_hm m_wk m_kd) ++ (wI g (o_a 10) 29 g_f) ++ (wI g (o_a 11) 29 ((gsI m_pl m_hm m_kd o_nf a (m_wk a) g_f).1))) [wO g o_a (nI 0) o_ts o_pl o_nf o_ne o_rf o_re o_ac o_cm o_sd ((gsI m_pl m_hm m_kd o_nf a (m_wk a) g_f).2.2) o_sm o_sf o_rm o_rs, wML g o_a m_pl m_yl m_nd m_hm m_wk m_kd, wI g (o_a 11) 29 ((gsI m_pl m_hm m_kd o_nf a (m_wk a) g_f).1), wI g (o_a 10) 29 g_f] [0, 1, 3, 2] rfl (by simp only [List.flatten_cons, List.flatten_nil, List.append_nil, List.append_assoc]) (by show List.flatten [wO g o_a (nI 0) o_ts o_pl o_nf o_ne o_rf o_re o_ac o_cm o_sd ((gsI m_pl m_hm m_kd o_nf a (m_wk a) g_f).2.2) o_sm o_sf o_rm o_rs, wML g o_a m_pl m_yl m_nd m_hm m_wk m_kd, wI g (o_a 10) 29 g_f, wI g (o_a 11) 29 ((gsI m_pl m_hm m_kd o_nf a (m_wk a) g_f).1)] = _; simp only [List.flatten_cons, List.flatten_nil, List.append_nil, List.append_assoc]) ?_
      refine V_istore_n (lv' := [(0, .ref (o_a 0)), (1, .int (nI a)), (2, .int y), (3, .int ((gsI m_pl m_hm m_kd o_nf a (m_wk a) g_f).2.1))]) nX6_eater_44 (by decide) rfl ?_
      refine V_iload_n nX6_eater_45 rfl ?_
      refine V_iconst (v := (nI 4)) nX6_eater_46 rfl ?_
      refine V_icmp_ne (tgt := 54) nX6_eater_47 rfl (fun h47 => ?_) (fun h47 => ?_)
      · skip
        exact absurd h17 h47
      · skip
        refine V_iload_n nX6_eater_50 rfl ?_
        refine V_goto (tgt := 58) nX6_eater_51 rfl ?_
        exact R_i rfl X hQ nX6_eater_58 (by simp only [List.map_append, wI_fst, wML_fst, wO_fst]) (⟨_, _, by simp [eaM, hix_a, hp_a, h17], rfl⟩)
    · skip
      refine V_iload_n nX6_eater_20 rfl ?_
      refine V_iconst (v := (nI 5)) nX6_eater_21 rfl ?_
      refine V_icmp_ne (tgt := 59) nX6_eater_22 rfl (fun h22 => ?_) (fun h22 => ?_)
      · skip
        refine V_iload_n nX6_eater_59 rfl ?_
        rcases (show y.toInt = 0 ∨ y.toInt = 1 ∨ y.toInt = 2 ∨ y.toInt = 3 ∨ (y.toInt < 0 ∨ 3 < y.toInt) by omega) with hw | hw | hw | hw | hw
        · skip
          refine V_tableIn (off := 32) (tgt := 92) nX6_eater_60 (by omega) (by omega) (by rw [hw]; rfl) rfl ?_
          refine V_aload_n nX6_eater_92 rfl ?_
          refine V_get6 0 9 (by decide) f_RX6_22 nX6_eater_93 rfl rfl ?_
          refine V_iload_n nX6_eater_96 rfl ?_
          refine V_iald 4 nX6_eater_97 rfl (by omega) (by decide) rfl ?_
          exact R_i rfl X hQ nX6_eater_98 (by simp only [List.map_append, wI_fst, wML_fst, wO_fst]) (⟨_, _, by simp [eaM, hix_a, hp_a, h17, h22, hw], rfl⟩)
        · skip
          refine V_tableIn (off := 39) (tgt := 99) nX6_eater_60 (by omega) (by omega) (by rw [hw]; rfl) rfl ?_
          refine V_aload_n nX6_eater_99 rfl ?_
          refine V_get6 0 10 (by decide) f_RX6_25 nX6_eater_100 rfl rfl ?_
          refine V_iload_n nX6_eater_103 rfl ?_
          refine V_iald 5 nX6_eater_104 rfl (by omega) (by decide) rfl ?_
          exact R_i rfl X hQ nX6_eater_105 (by simp only [List.map_append, wI_fst, wML_fst, wO_fst]) (⟨_, _, by simp [eaM, hix_a, hp_a, h17, h22, hw], rfl⟩)
        · skip
          refine V_tableIn (off := 46) (tgt := 106) nX6_eater_60 (by omega) (by omega) (by rw [hw]; rfl) rfl ?_
          refine V_aload_n nX6_eater_106 rfl ?_
          refine V_get6 0 11 (by decide) f_RX6_28 nX6_eater_107 rfl rfl ?_
          refine V_iload_n nX6_eater_110 rfl ?_
          refine V_iald 6 nX6_eater_111 rfl (by omega) (by decide) rfl ?_
          exact R_i rfl X hQ nX6_eater_112 (by simp only [List.map_append, wI_fst, wML_fst, wO_fst]) (⟨_, _, by simp [eaM, hix_a, hp_a, h17, h22, hw], rfl⟩)
        · skip
          refine V_tableIn (off := 53) (tgt := 113) nX6_eater_60 (by omega) (by omega) (by rw [hw]; rfl) rfl ?_
          refine V_aload_n nX6_eater_113 rfl ?_
          refine V_get6 0 16 (by decide) f_RX6_37 nX6_eater_114 rfl rfl ?_
          refine V_iload_n nX6_eater_117 rfl ?_
          refine V_blk (ws' := ((wI g (o_a 10) 29 g_f)) ++ ((wO g o_a (nI 0) o_ts o_pl o_nf o_ne o_rf o_re o_ac o_cm o_sd o_wf o_sm o_sf o_rm o_rs) ++ (wML g o_a m_pl m_yl m_nd m_hm m_wk m_kd) ++ (wI g (o_a 11) 29 y_f))) [wO g o_a (nI 0) o_ts o_pl o_nf o_ne o_rf o_re o_ac o_cm o_sd o_wf o_sm o_sf o_rm o_rs, wML g o_a m_pl m_yl m_nd m_hm m_wk m_kd, wI g (o_a 10) 29 g_f, wI g (o_a 11) 29 y_f] [2, 0, 1, 3] rfl (by simp only [List.flatten_cons, List.flatten_nil, List.append_nil, List.append_assoc]) (by show List.flatten [wI g (o_a 10) 29 g_f, wO g o_a (nI 0) o_ts o_pl o_nf o_ne o_rf o_re o_ac o_cm o_sd o_wf o_sm o_sf o_rm o_rs, wML g o_a m_pl m_yl m_nd m_hm m_wk m_kd, wI g (o_a 11) 29 y_f] = _; simp only [List.flatten_cons, List.flatten_nil, List.append_nil, List.append_assoc]) ?_
          refine V_cSi (ws' := ((wI g (o_a 10) 29 g_f)) ++ ((wO g o_a (nI 0) o_ts o_pl o_nf o_ne o_rf o_re o_ac o_cm o_sd o_wf o_sm o_sf o_rm o_rs) ++ (wML g o_a m_pl m_yl m_nd m_hm m_wk m_kd) ++ (wI g (o_a 11) 29 y_f))) (List.range _) 2 X (c_X6_owesAll g l (o_a 10) g_f  a (by omega)) k_RX6_148 hy_X6_owesAll.2 (by decide) (range_at _ _) (range_nd _) nX6_eater_118 rfl rfl (Nat.le_of_ble_eq_true rfl) (wput_range _ _ _ (by simp only [List.length_append, wI_len])) ?_
          refine V_blk (ws' := (wO g o_a (nI 0) o_ts o_pl o_nf o_ne o_rf o_re o_ac o_cm o_sd o_wf o_sm o_sf o_rm o_rs) ++ (wML g o_a m_pl m_yl m_nd m_hm m_wk m_kd) ++ (wI g (o_a 10) 29 g_f) ++ (wI g (o_a 11) 29 y_f)) [wI g (o_a 10) 29 g_f, wO g o_a (nI 0) o_ts o_pl o_nf o_ne o_rf o_re o_ac o_cm o_sd o_wf o_sm o_sf o_rm o_rs, wML g o_a m_pl m_yl m_nd m_hm m_wk m_kd, wI g (o_a 11) 29 y_f] [1, 2, 0, 3] rfl (by simp only [List.flatten_cons, List.flatten_nil, List.append_nil, List.append_assoc]) (by show List.flatten [wO g o_a (nI 0) o_ts o_pl o_nf o_ne o_rf o_re o_ac o_cm o_sd o_wf o_sm o_sf o_rm o_rs, wML g o_a m_pl m_yl m_nd m_hm m_wk m_kd, wI g (o_a 10) 29 g_f, wI g (o_a 11) 29 y_f] = _; simp only [List.flatten_cons, List.flatten_nil, List.append_nil, List.append_assoc]) ?_
          exact R_i rfl X hQ nX6_eater_121 (by simp only [List.map_append, wI_fst, wML_fst, wO_fst]) (⟨_, _, by simp [eaM, hix_a, hp_a, h17, h22, hw], rfl⟩)
        · skip
          have hw0 : ¬ y.toInt = 0 := by omega
          have hw1 : ¬ y.toInt = 1 := by omega
          have hw2 : ¬ y.toInt = 2 := by omega
          have hw3 : ¬ y.toInt = 3 := by omega
          refine V_tableOut (tgt := 122) nX6_eater_60 hw rfl ?_
          refine V_bipush (v := (-2)) nX6_eater_122 (by decide) ?_
          exact R_i rfl X hQ nX6_eater_124 (by simp only [List.map_append, wI_fst, wML_fst, wO_fst]) (⟨_, _, by simp [eaM, hix_a, hp_a, h17, h22, hw0, hw1, hw2, hw3], rfl⟩)
      · skip
        refine V_aload_n nX6_eater_25 rfl ?_
        refine V_blk (ws' := ((wO g o_a (nI 0) o_ts o_pl o_nf o_ne o_rf o_re o_ac o_cm o_sd o_wf o_sm o_sf o_rm o_rs) ++ (wI g (o_a 10) 29 g_f) ++ (wI g (o_a 11) 29 y_f)) ++ ((wML g o_a m_pl m_yl m_nd m_hm m_wk m_kd))) [wO g o_a (nI 0) o_ts o_pl o_nf o_ne o_rf o_re o_ac o_cm o_sd o_wf o_sm o_sf o_rm o_rs, wML g o_a m_pl m_yl m_nd m_hm m_wk m_kd, wI g (o_a 10) 29 g_f, wI g (o_a 11) 29 y_f] [0, 2, 3, 1] rfl (by simp only [List.flatten_cons, List.flatten_nil, List.append_nil, List.append_assoc]) (by show List.flatten [wO g o_a (nI 0) o_ts o_pl o_nf o_ne o_rf o_re o_ac o_cm o_sd o_wf o_sm o_sf o_rm o_rs, wI g (o_a 10) 29 g_f, wI g (o_a 11) 29 y_f, wML g o_a m_pl m_yl m_nd m_hm m_wk m_kd] = _; simp only [List.flatten_cons, List.flatten_nil, List.append_nil, List.append_assoc]) ?_
        refine V_cVv (C := (RX6, TX6, 34)) (ci := 6) (ws' := ((wO g o_a (nI 0) o_ts o_pl o_nf o_ne o_rf o_re o_ac o_cm o_sd o_wf o_sm o_sf o_rm o_rs) ++ (wI g (o_a 10) 29 g_f) ++ (wI g (o_a 11) 29 g_f)) ++ ((wML g o_a m_pl m_yl m_nd m_hm m_wk m_kd))) (List.range _) 0 X (c_X6_begin g l o_a (nI 0) o_ts o_pl o_nf o_ne o_rf o_re o_ac o_cm o_sd o_wf o_sm o_sf o_rm o_rs g_f y_f   ) k_RX6_152 hy_X6_begin (by decide) (range_at _ _) (range_nd _) 0 rfl rfl nX6_eater_26 rfl rfl (Nat.le_of_ble_eq_true rfl) (wput_range _ _ _ (by simp only [List.length_append, wI_len, wO_len])) ?_
        refine V_blk (ws' := (wO g o_a (nI 0) o_ts o_pl o_nf o_ne o_rf o_re o_ac o_cm o_sd o_wf o_sm o_sf o_rm o_rs) ++ (wML g o_a m_pl m_yl m_nd m_hm m_wk m_kd) ++ (wI g (o_a 10) 29 g_f) ++ (wI g (o_a 11) 29 g_f)) [wO g o_a (nI 0) o_ts o_pl o_nf o_ne o_rf o_re o_ac o_cm o_sd o_wf o_sm o_sf o_rm o_rs, wI g (o_a 10) 29 g_f, wI g (o_a 11) 29 g_f, wML g o_a m_pl m_yl m_nd m_hm m_wk m_kd] [0, 3, 1, 2] rfl (by simp only [List.flatten_cons, List.flatten_nil, List.append_nil, List.append_assoc]) (by show List.flatten [wO g o_a (nI 0) o_ts o_pl o_nf o_ne o_rf o_re o_ac o_cm o_sd o_wf o_sm o_sf o_rm o_rs, wML g o_a m_pl m_yl m_nd m_hm m_wk m_kd, wI g (o_a 10) 29 g_f, wI g (o_a 11) 29 g_f] = _; simp only [List.flatten_cons, List.flatten_nil, List.append_nil, List.append_assoc]) ?_
        refine V_aload_n nX6_eater_29 rfl ?_
        refine V_aload_n nX6_eater_30 rfl ?_
        refine V_get6 0 17 (by decide) f_RX6_40 nX6_eater_31 rfl rfl ?_
        refine V_iload_n nX6_eater_34 rfl ?_
        refine V_aload_n nX6_eater_35 rfl ?_
        refine V_get6 0 10 (by decide) f_RX6_25 nX6_eater_36 rfl rfl ?_
        refine V_iload_n nX6_eater_39 rfl ?_
        refine V_iald 5 nX6_eater_40 rfl (by omega) (by decide) rfl ?_
        refine V_blk (ws' := ((wO g o_a (nI 0) o_ts o_pl o_nf o_ne o_rf o_re o_ac o_cm o_sd o_wf o_sm o_sf o_rm o_rs) ++ (wML g o_a m_pl m_yl m_nd m_hm m_wk m_kd) ++ (wI g (o_a 11) 29 g_f)) ++ ((wI g (o_a 10) 29 g_f))) [wO g o_a (nI 0) o_ts o_pl o_nf o_ne o_rf o_re o_ac o_cm o_sd o_wf o_sm o_sf o_rm o_rs, wML g o_a m_pl m_yl m_nd m_hm m_wk m_kd, wI g (o_a 10) 29 g_f, wI g (o_a 11) 29 g_f] [0, 1, 3, 2] rfl (by simp only [List.flatten_cons, List.flatten_nil, List.append_nil, List.append_assoc]) (by show List.flatten [wO g o_a (nI 0) o_ts o_pl o_nf o_ne o_rf o_re o_ac o_cm o_sd o_wf o_sm o_sf o_rm o_rs, wML g o_a m_pl m_yl m_nd m_hm m_wk m_kd, wI g (o_a 11) 29 g_f, wI g (o_a 10) 29 g_f] = _; simp only [List.flatten_cons, List.flatten_nil, List.append_nil, List.append_assoc]) ?_
        refine V_cVi (C := (RX6, TX6, 34)) (ci := 6) (ws' := ((wO g o_a (nI 0) o_ts o_pl o_nf o_ne o_rf o_re o_ac o_cm o_sd ((gsI m_pl m_hm m_kd o_nf a (m_wk a) g_f).2.2) o_sm o_sf o_rm o_rs) ++ (wML g o_a m_pl m_yl m_nd m_hm m_wk m_kd) ++ (wI g (o_a 11) 29 ((gsI m_pl m_hm m_kd o_nf a (m_wk a) g_f).1))) ++ ((wI g (o_a 10) 29 g_f))) (List.range _) 3 X (c_X6_goes g l o_a (nI 0) o_ts o_pl o_nf o_ne o_rf o_re o_ac o_cm o_sd o_wf o_sm o_sf o_rm o_rs m_pl m_yl m_nd m_hm m_wk m_kd (o_a 11) g_f  a (m_wk a) (by omega) (by omega)) k_RX6_138 hy_X6_goes (by decide) (range_at _ _) (range_nd _) 0 rfl rfl nX6_eater_41 rfl rfl (Nat.le_of_ble_eq_true rfl) (wput_range _ _ _ (by simp only [List.length_append, wI_len, wML_len, wO_len])) ?_
        refine V_blk (ws' := (wO g o_a (nI 0) o_ts o_pl o_nf o_ne o_rf o_re o_ac o_cm o_sd ((gsI m_pl m_hm m_kd o_nf a (m_wk a) g_f).2.2) o_sm o_sf o_rm o_rs) ++ (wML g o_a m_pl m_yl m_nd m_hm m_wk m_kd) ++ (wI g (o_a 10) 29 g_f) ++ (wI g (o_a 11) 29 ((gsI m_pl m_hm m_kd o_nf a (m_wk a) g_f).1))) [wO g o_a (nI 0) o_ts o_pl o_nf o_ne o_rf o_re o_ac o_cm o_sd ((gsI m_pl m_hm m_kd o_nf a (m_wk a) g_f).2.2) o_sm o_sf o_rm o_rs, wML g o_a m_pl m_yl m_nd m_hm m_wk m_kd, wI g (o_a 11) 29 ((gsI m_pl m_hm m_kd o_nf a (m_wk a) g_f).1), wI g (o_a 10) 29 g_f] [0, 1, 3, 2] rfl (by simp only [List.flatten_cons, List.flatten_nil, List.append_nil, List.append_assoc]) (by show List.flatten [wO g o_a (nI 0) o_ts o_pl o_nf o_ne o_rf o_re o_ac o_cm o_sd ((gsI m_pl m_hm m_kd o_nf a (m_wk a) g_f).2.2) o_sm o_sf o_rm o_rs, wML g o_a m_pl m_yl m_nd m_hm m_wk m_kd, wI g (o_a 10) 29 g_f, wI g (o_a 11) 29 ((gsI m_pl m_hm m_kd o_nf a (m_wk a) g_f).1)] = _; simp only [List.flatten_cons, List.flatten_nil, List.append_nil, List.append_assoc]) ?_
        refine V_istore_n (lv' := [(0, .ref (o_a 0)), (1, .int (nI a)), (2, .int y), (3, .int ((gsI m_pl m_hm m_kd o_nf a (m_wk a) g_f).2.1))]) nX6_eater_44 (by decide) rfl ?_
        refine V_iload_n nX6_eater_45 rfl ?_
        refine V_iconst (v := (nI 4)) nX6_eater_46 rfl ?_
        refine V_icmp_ne (tgt := 54) nX6_eater_47 rfl (fun h47 => ?_) (fun h47 => ?_)
        · skip
          refine V_aload_n nX6_eater_54 rfl ?_
          refine V_get6 0 26 (by decide) f_RX6_124 nX6_eater_55 rfl rfl ?_
          exact R_i rfl X hQ nX6_eater_58 (by simp only [List.map_append, wI_fst, wML_fst, wO_fst]) (⟨_, _, by simp [eaM, hix_a, hp_a, h17, h47, h22, show ¬ nI 5 = nI 4 from by decide], rfl⟩)
        · skip
          exact absurd h47 h17
  · skip
    have hn_a : hasN o_ne x = false := by rw [Bool.not_eq_true'] at h10; exact h10
    refine V_iconst (v := (-1)) nX6_eater_13 (by decide) ?_
    exact R_i rfl X hQ nX6_eater_14 (by simp only [List.map_append, wI_fst, wML_fst, wO_fst]) (⟨_, _, by simp [eaM, hn_a], rfl⟩)

set_option maxHeartbeats 4000000 in
set_option maxRecDepth 100000 in
theorem c_X6_owes (g : Gx) (l : Launch) (o_a : Nat → Nat) (o_th : Int32) (o_ts : Nat) (o_pl : Nat) (o_nf : Nat) (o_ne : Nat) (o_rf : Nat) (o_re : Nat) (o_ac : Nat) (o_cm : Nat) (o_sd : Int64) (o_wf : Int32) (o_sm : Int32) (o_sf : Int32) (o_rm : Int32) (o_rs : Int32) (g_f : Nat → Int32)  (x : Int32) (y : Int32) (hnf : o_nf ≤ 4) (hne : o_ne ≤ 5) : Cd g l yX6_owes mX6_owes ({ frames := 2, cells := 0, slots := 0, locals := 46 } : Room) [.ref (o_a 0), .int x, .int y] ((wO g o_a o_th o_ts o_pl o_nf o_ne o_rf o_re o_ac o_cm o_sd o_wf o_sm o_sf o_rm o_rs) ++ (wI g (o_a 10) 29 g_f)) (some (.int (owM o_nf o_ne g_f x y))) ((wO g o_a (nI 0) o_ts o_pl o_nf o_ne o_rf o_re o_ac o_cm o_sd o_wf o_sm o_sf o_rm o_rs) ++ (wI g (o_a 10) 29 g_f)) := by
  refine Ct.of (lv := [(0, .ref (o_a 0)), (1, .int x), (2, .int y)]) ⟨by decide +kernel, rfl, Nat.le_of_ble_eq_true rfl⟩ rfl (fun E A sz Q X hQ => ?_)
  refine V_aload_n nX6_owes_0 rfl ?_
  refine V_iconst (v := (nI 0)) nX6_owes_1 rfl ?_
  refine V_put6 (ws' := (wO g o_a (nI 0) o_ts o_pl o_nf o_ne o_rf o_re o_ac o_cm o_sd o_wf o_sm o_sf o_rm o_rs) ++ (wI g (o_a 10) 29 g_f)) 0 0 (by decide) f_RX6_68 rfl rfl rfl rfl nX6_owes_2 rfl (Nat.le_of_ble_eq_true rfl) rfl ?_
  refine V_aload_n nX6_owes_5 rfl ?_
  refine V_iload_n nX6_owes_6 rfl ?_
  refine V_blk (ws' := ((wO g o_a (nI 0) o_ts o_pl o_nf o_ne o_rf o_re o_ac o_cm o_sd o_wf o_sm o_sf o_rm o_rs)) ++ ((wI g (o_a 10) 29 g_f))) [wO g o_a (nI 0) o_ts o_pl o_nf o_ne o_rf o_re o_ac o_cm o_sd o_wf o_sm o_sf o_rm o_rs, wI g (o_a 10) 29 g_f] [0, 1] rfl (by simp only [List.flatten_cons, List.flatten_nil, List.append_nil, List.append_assoc]) (by show List.flatten [wO g o_a (nI 0) o_ts o_pl o_nf o_ne o_rf o_re o_ac o_cm o_sd o_wf o_sm o_sf o_rm o_rs, wI g (o_a 10) 29 g_f] = _; simp only [List.flatten_cons, List.flatten_nil, List.append_nil, List.append_assoc]) ?_
  refine V_cVi (C := (RX6, TX6, 34)) (ci := 6) (ws' := ((wO g o_a (nI 0) o_ts o_pl o_nf o_ne o_rf o_re o_ac o_cm o_sd o_wf o_sm o_sf o_rm o_rs)) ++ ((wI g (o_a 10) 29 g_f))) (List.range _) 1 X (c_X6_noEater g l o_a (nI 0) o_ts o_pl o_nf o_ne o_rf o_re o_ac o_cm o_sd o_wf o_sm o_sf o_rm o_rs  x (by omega)) k_RX6_174 hy_X6_noEater (by decide) (range_at _ _) (range_nd _) 0 rfl rfl nX6_owes_7 rfl rfl (Nat.le_of_ble_eq_true rfl) (wput_range _ _ _ (by simp only [List.length_append, wO_len])) ?_
  refine V_blk (ws' := (wO g o_a (nI 0) o_ts o_pl o_nf o_ne o_rf o_re o_ac o_cm o_sd o_wf o_sm o_sf o_rm o_rs) ++ (wI g (o_a 10) 29 g_f)) [wO g o_a (nI 0) o_ts o_pl o_nf o_ne o_rf o_re o_ac o_cm o_sd o_wf o_sm o_sf o_rm o_rs, wI g (o_a 10) 29 g_f] [0, 1] rfl (by simp only [List.flatten_cons, List.flatten_nil, List.append_nil, List.append_assoc]) (by show List.flatten [wO g o_a (nI 0) o_ts o_pl o_nf o_ne o_rf o_re o_ac o_cm o_sd o_wf o_sm o_sf o_rm o_rs, wI g (o_a 10) 29 g_f] = _; simp only [List.flatten_cons, List.flatten_nil, List.append_nil, List.append_assoc]) ?_
  refine V_if_ne_b (tgt := 21) nX6_owes_10 rfl (fun h10 => ?_) (fun h10 => ?_)
  · skip
    have hn_a : hasN o_ne x = false := by rw [Bool.not_eq_true'] at h10; exact h10
    refine V_iconst (v := (-1)) nX6_owes_21 (by decide) ?_
    refine V_goto (tgt := 34) nX6_owes_22 rfl ?_
    exact R_i rfl X hQ nX6_owes_34 (by simp only [List.map_append, wI_fst, wO_fst]) (⟨by simp [owM, hn_a], rfl⟩)
  · skip
    obtain ⟨a, hf_a, rfl⟩ := nhas h10 (by omega)
    have hix_a : ix (nI a) = a := ix_nI (by omega)
    have hp_a : hasN o_ne (nI a) = true := by rw [Bool.not_eq_false'] at h10; exact h10
    refine V_aload_n nX6_owes_13 rfl ?_
    refine V_iload_n nX6_owes_14 rfl ?_
    refine V_blk (ws' := ((wO g o_a (nI 0) o_ts o_pl o_nf o_ne o_rf o_re o_ac o_cm o_sd o_wf o_sm o_sf o_rm o_rs)) ++ ((wI g (o_a 10) 29 g_f))) [wO g o_a (nI 0) o_ts o_pl o_nf o_ne o_rf o_re o_ac o_cm o_sd o_wf o_sm o_sf o_rm o_rs, wI g (o_a 10) 29 g_f] [0, 1] rfl (by simp only [List.flatten_cons, List.flatten_nil, List.append_nil, List.append_assoc]) (by show List.flatten [wO g o_a (nI 0) o_ts o_pl o_nf o_ne o_rf o_re o_ac o_cm o_sd o_wf o_sm o_sf o_rm o_rs, wI g (o_a 10) 29 g_f] = _; simp only [List.flatten_cons, List.flatten_nil, List.append_nil, List.append_assoc]) ?_
    refine V_cVi (C := (RX6, TX6, 34)) (ci := 6) (ws' := ((wO g o_a (nI 0) o_ts o_pl o_nf o_ne o_rf o_re o_ac o_cm o_sd o_wf o_sm o_sf o_rm o_rs)) ++ ((wI g (o_a 10) 29 g_f))) (List.range _) 1 X (c_X6_noField g l o_a (nI 0) o_ts o_pl o_nf o_ne o_rf o_re o_ac o_cm o_sd o_wf o_sm o_sf o_rm o_rs  y (by omega)) k_RX6_167 hy_X6_noField (by decide) (range_at _ _) (range_nd _) 0 rfl rfl nX6_owes_15 rfl rfl (Nat.le_of_ble_eq_true rfl) (wput_range _ _ _ (by simp only [List.length_append, wO_len])) ?_
    refine V_blk (ws' := (wO g o_a (nI 0) o_ts o_pl o_nf o_ne o_rf o_re o_ac o_cm o_sd o_wf o_sm o_sf o_rm o_rs) ++ (wI g (o_a 10) 29 g_f)) [wO g o_a (nI 0) o_ts o_pl o_nf o_ne o_rf o_re o_ac o_cm o_sd o_wf o_sm o_sf o_rm o_rs, wI g (o_a 10) 29 g_f] [0, 1] rfl (by simp only [List.flatten_cons, List.flatten_nil, List.append_nil, List.append_assoc]) (by show List.flatten [wO g o_a (nI 0) o_ts o_pl o_nf o_ne o_rf o_re o_ac o_cm o_sd o_wf o_sm o_sf o_rm o_rs, wI g (o_a 10) 29 g_f] = _; simp only [List.flatten_cons, List.flatten_nil, List.append_nil, List.append_assoc]) ?_
    refine V_if_eq_b (tgt := 25) nX6_owes_18 rfl (fun h18 => ?_) (fun h18 => ?_)
    · skip
      obtain ⟨b, hf_b, rfl⟩ := nhas h18 (by omega)
      have hix_b : ix (nI b) = b := ix_nI (by omega)
      have hp_b : hasN o_nf (nI b) = true := by rw [Bool.not_eq_false'] at h18; exact h18
      refine V_aload_n nX6_owes_25 rfl ?_
      refine V_get6 0 16 (by decide) f_RX6_37 nX6_owes_26 rfl rfl ?_
      refine V_iload_n nX6_owes_29 rfl ?_
      refine V_iload_n nX6_owes_30 rfl ?_
      refine V_blk (ws' := ((wI g (o_a 10) 29 g_f)) ++ ((wO g o_a (nI 0) o_ts o_pl o_nf o_ne o_rf o_re o_ac o_cm o_sd o_wf o_sm o_sf o_rm o_rs))) [wO g o_a (nI 0) o_ts o_pl o_nf o_ne o_rf o_re o_ac o_cm o_sd o_wf o_sm o_sf o_rm o_rs, wI g (o_a 10) 29 g_f] [1, 0] rfl (by simp only [List.flatten_cons, List.flatten_nil, List.append_nil, List.append_assoc]) (by show List.flatten [wI g (o_a 10) 29 g_f, wO g o_a (nI 0) o_ts o_pl o_nf o_ne o_rf o_re o_ac o_cm o_sd o_wf o_sm o_sf o_rm o_rs] = _; simp only [List.flatten_cons, List.flatten_nil, List.append_nil, List.append_assoc]) ?_
      refine V_cSi (ws' := ((wI g (o_a 10) 29 g_f)) ++ ((wO g o_a (nI 0) o_ts o_pl o_nf o_ne o_rf o_re o_ac o_cm o_sd o_wf o_sm o_sf o_rm o_rs))) (List.range _) 3 X (c_X6_owed g l (o_a 10) g_f  a b (by omega) (by omega)) k_RX6_117 hy_X6_owed.2 (by decide) (range_at _ _) (range_nd _) nX6_owes_31 rfl rfl (Nat.le_of_ble_eq_true rfl) (wput_range _ _ _ (by simp only [List.length_append, wI_len])) ?_
      refine V_blk (ws' := (wO g o_a (nI 0) o_ts o_pl o_nf o_ne o_rf o_re o_ac o_cm o_sd o_wf o_sm o_sf o_rm o_rs) ++ (wI g (o_a 10) 29 g_f)) [wI g (o_a 10) 29 g_f, wO g o_a (nI 0) o_ts o_pl o_nf o_ne o_rf o_re o_ac o_cm o_sd o_wf o_sm o_sf o_rm o_rs] [1, 0] rfl (by simp only [List.flatten_cons, List.flatten_nil, List.append_nil, List.append_assoc]) (by show List.flatten [wO g o_a (nI 0) o_ts o_pl o_nf o_ne o_rf o_re o_ac o_cm o_sd o_wf o_sm o_sf o_rm o_rs, wI g (o_a 10) 29 g_f] = _; simp only [List.flatten_cons, List.flatten_nil, List.append_nil, List.append_assoc]) ?_
      exact R_i rfl X hQ nX6_owes_34 (by simp only [List.map_append, wI_fst, wO_fst]) (⟨by simp [owM, hix_a, hp_a, hix_b, hp_b], rfl⟩)
    · skip
      have hn_b : hasN o_nf y = false := by rw [Bool.not_eq_true'] at h18; exact h18
      refine V_iconst (v := (-1)) nX6_owes_21 (by decide) ?_
      refine V_goto (tgt := 34) nX6_owes_22 rfl ?_
      exact R_i rfl X hQ nX6_owes_34 (by simp only [List.map_append, wI_fst, wO_fst]) (⟨by simp [owM, hix_a, hp_a, hn_b], rfl⟩)

set_option maxHeartbeats 4000000 in
set_option maxRecDepth 100000 in
theorem c_X6_note (g : Gx) (l : Launch) (o_a : Nat → Nat) (o_th : Int32) (o_ts : Nat) (o_pl : Nat) (o_nf : Nat) (o_ne : Nat) (o_rf : Nat) (o_re : Nat) (o_ac : Nat) (o_cm : Nat) (o_sd : Int64) (o_wf : Int32) (o_sm : Int32) (o_sf : Int32) (o_rm : Int32) (o_rs : Int32) (g_f : Nat → Int32) (k_f : Nat → Int32)   (hac : o_ac ≤ 14) : Cd g l yX6_note mX6_note ({ frames := 0, cells := 0, slots := 0, locals := 0 } : Room) [.ref (o_a 0)] ((wO g o_a o_th o_ts o_pl o_nf o_ne o_rf o_re o_ac o_cm o_sd o_wf o_sm o_sf o_rm o_rs) ++ (wI g (o_a 10) 29 g_f) ++ (wI g (o_a 12) 406 k_f)) none ((wO g o_a o_th o_ts o_pl o_nf o_ne o_rf o_re (rmC o_ac + 1) o_cm o_sd o_wf o_sm o_sf o_rm o_rs) ++ (wI g (o_a 10) 29 g_f) ++ (wI g (o_a 12) 406 (ntB g_f k_f o_ac))) := by
  refine Ct.of (lv := [(0, .ref (o_a 0))]) ⟨by decide +kernel, rfl, Nat.le_of_ble_eq_true rfl⟩ rfl (fun E A sz Q X hQ => ?_)
  refine V_aload_n nX6_note_0 rfl ?_
  refine V_get6 0 19 (by decide) f_RX6_114 nX6_note_1 rfl rfl ?_
  refine V_bipush (v := (nI 14)) nX6_note_4 (by decide) ?_
  refine V_icmp_ne_N (tgt := 49) nX6_note_6 rfl (by omega) (by omega) (fun h6 => ?_) (fun h6 => ?_)
  · skip
    refine V_iconst (v := (nI 0)) nX6_note_49 rfl ?_
    refine V_istore_n (lv' := [(0, .ref (o_a 0)), (1, .int (nI 0))]) nX6_note_50 (by decide) rfl ?_
    have L51 : ∀ (n : Nat) (i : Nat), 29 - i < n → i ≤ 29 → V g E mX6_note A Q 0 0 ((wO g o_a o_th o_ts o_pl o_nf o_ne o_rf o_re o_ac o_cm o_sd o_wf o_sm o_sf o_rm o_rs) ++ (wI g (o_a 10) 29 g_f) ++ (wI g (o_a 12) 406 (fillO g_f k_f (29 * o_ac) i))) 51 [(0, .ref (o_a 0)), (1, .int (nI i))] [] := by
      intro n
      induction n with
      | zero => intro i hm; exact absurd hm (Nat.not_lt_zero _)
      | succ n ih =>
        intro i hm hi
        refine V_iload_n nX6_note_51 rfl ?_
        refine V_bipush (v := (nI 29)) nX6_note_52 (by decide) ?_
        refine V_icmp_ge_N (tgt := 83) nX6_note_54 rfl (by omega) (by omega) (fun h54 => ?_) (fun h54 => ?_)
        · skip
          have hx_i : 29 = i := by omega
          subst hx_i
          refine V_arr (f' := (fun i => if 29 * o_ac ≤ i ∧ i < 29 * o_ac + 29 then g_f (i - 29 * o_ac) else k_f i)) (ws' := (wO g o_a o_th o_ts o_pl o_nf o_ne o_rf o_re o_ac o_cm o_sd o_wf o_sm o_sf o_rm o_rs) ++ (wI g (o_a 10) 29 g_f) ++ (wI g (o_a 12) 406 (fun i => if 29 * o_ac ≤ i ∧ i < 29 * o_ac + 29 then g_f (i - 29 * o_ac) else k_f i))) 2 rfl (fun j hj => fillO_eq _ _ _ _ j) rfl ?_
          refine V_aload_n nX6_note_83 rfl ?_
          refine V_dup nX6_note_84 rfl ?_
          refine V_get6 0 19 (by decide) f_RX6_114 nX6_note_85 rfl rfl ?_
          refine V_iconst (v := (nI 1)) nX6_note_88 rfl ?_
          refine V_iadd (v := nI (o_ac + 1)) nX6_note_89 (nI_add o_ac 1) ?_
          refine V_put6 (ws' := (wO g o_a o_th o_ts o_pl o_nf o_ne o_rf o_re (o_ac + 1) o_cm o_sd o_wf o_sm o_sf o_rm o_rs) ++ (wI g (o_a 10) 29 g_f) ++ (wI g (o_a 12) 406 (fun i => if 29 * o_ac ≤ i ∧ i < 29 * o_ac + 29 then g_f (i - 29 * o_ac) else k_f i))) 0 19 (by decide) f_RX6_114 rfl rfl rfl rfl nX6_note_90 rfl (Nat.le_of_ble_eq_true rfl) rfl ?_
          exact R_v rfl X hQ nX6_note_93 (by simp only [List.map_append, wI_fst, wO_fst]) (⟨rfl, by unfold ntB ntK rmC; rw [if_neg h6, if_neg h6]⟩)
        · skip
          refine V_aload_n nX6_note_57 rfl ?_
          refine V_get6 0 18 (by decide) f_RX6_43 nX6_note_58 rfl rfl ?_
          refine V_bipush (v := (nI 29)) nX6_note_61 (by decide) ?_
          refine V_aload_n nX6_note_63 rfl ?_
          refine V_get6 0 19 (by decide) f_RX6_114 nX6_note_64 rfl rfl ?_
          refine V_imul (v := nI (29 * o_ac)) nX6_note_67 (pk_mul 29 o_ac) ?_
          refine V_iload_n nX6_note_68 rfl ?_
          refine V_iadd (v := nI ((29 * o_ac) + i)) nX6_note_69 (nI_add (29 * o_ac) i) ?_
          refine V_aload_n nX6_note_70 rfl ?_
          refine V_get6 0 16 (by decide) f_RX6_37 nX6_note_71 rfl rfl ?_
          refine V_iload_n nX6_note_74 rfl ?_
          refine V_iald 1 nX6_note_75 rfl (by omega) (by decide) rfl ?_
          refine V_iast (ws' := (wO g o_a o_th o_ts o_pl o_nf o_ne o_rf o_re o_ac o_cm o_sd o_wf o_sm o_sf o_rm o_rs) ++ (wI g (o_a 10) 29 g_f) ++ (wI g (o_a 12) 406 (upd (fillO g_f k_f (29 * o_ac) i) ((29 * o_ac) + i) (g_f i)))) 2 nX6_note_76 rfl (by omega) (by decide) rfl ?_
          refine V_iinc (v := nI (i + 1)) (lv' := [(0, .ref (o_a 0)), (1, .int (nI (i + 1)))]) nX6_note_77 rfl (nI_add i 1) (by decide) rfl ?_
          refine V_goto (tgt := 51) nX6_note_80 rfl ?_
          exact ih (i + 1) (by omega) (by omega)
    exact L51 _ 0 (Nat.lt_succ_self _) (by omega)
  · skip
    subst h6
    refine V_iconst (v := (nI 0)) nX6_note_9 rfl ?_
    refine V_istore_n (lv' := [(0, .ref (o_a 0)), (1, .int (nI 0))]) nX6_note_10 (by decide) rfl ?_
    have L11 : ∀ (n : Nat) (i : Nat), 377 - i < n → i ≤ 377 → V g E mX6_note A Q 0 0 ((wO g o_a o_th o_ts o_pl o_nf o_ne o_rf o_re 14 o_cm o_sd o_wf o_sm o_sf o_rm o_rs) ++ (wI g (o_a 10) 29 g_f) ++ (wI g (o_a 12) 406 (fillI (fun i => k_f (i + 29)) k_f i))) 11 [(0, .ref (o_a 0)), (1, .int (nI i))] [] := by
      intro n
      induction n with
      | zero => intro i hm; exact absurd hm (Nat.not_lt_zero _)
      | succ n ih =>
        intro i hm hi
        refine V_iload_n nX6_note_11 rfl ?_
        refine V_sipush (v := (nI 377)) nX6_note_12 (by decide) ?_
        refine V_icmp_ge_N (tgt := 39) nX6_note_15 rfl (by omega) (by omega) (fun h15 => ?_) (fun h15 => ?_)
        · skip
          have hx_i : 377 = i := by omega
          subst hx_i
          refine V_arr (f' := (fun i => if i < 377 then k_f (i + 29) else k_f i)) (ws' := (wO g o_a o_th o_ts o_pl o_nf o_ne o_rf o_re 14 o_cm o_sd o_wf o_sm o_sf o_rm o_rs) ++ (wI g (o_a 10) 29 g_f) ++ (wI g (o_a 12) 406 (fun i => if i < 377 then k_f (i + 29) else k_f i))) 2 rfl (fun j hj => fillI_eq _ _ _ j) rfl ?_
          refine V_aload_n nX6_note_39 rfl ?_
          refine V_dup nX6_note_40 rfl ?_
          refine V_get6 0 19 (by decide) f_RX6_114 nX6_note_41 rfl rfl ?_
          refine V_iconst (v := (nI 1)) nX6_note_44 rfl ?_
          refine V_isub (v := nI (14 - 1)) nX6_note_45 (pk_sub (by omega)) ?_
          refine V_put6 (ws' := (wO g o_a o_th o_ts o_pl o_nf o_ne o_rf o_re (14 - 1) o_cm o_sd o_wf o_sm o_sf o_rm o_rs) ++ (wI g (o_a 10) 29 g_f) ++ (wI g (o_a 12) 406 (fun i => if i < 377 then k_f (i + 29) else k_f i))) 0 19 (by decide) f_RX6_114 rfl rfl rfl rfl nX6_note_46 rfl (Nat.le_of_ble_eq_true rfl) rfl ?_
          refine V_iconst (v := (nI 0)) nX6_note_49 rfl ?_
          refine V_istore_n (lv' := [(0, .ref (o_a 0)), (1, .int (nI 0))]) nX6_note_50 (by decide) rfl ?_
          have L51 : ∀ (n : Nat) (i : Nat), 29 - i < n → i ≤ 29 → V g E mX6_note A Q 0 0 ((wO g o_a o_th o_ts o_pl o_nf o_ne o_rf o_re (14 - 1) o_cm o_sd o_wf o_sm o_sf o_rm o_rs) ++ (wI g (o_a 10) 29 g_f) ++ (wI g (o_a 12) 406 (fillO g_f (fun i => if i < 377 then k_f (i + 29) else k_f i) (29 * (14 - 1)) i))) 51 [(0, .ref (o_a 0)), (1, .int (nI i))] [] := by
            intro n
            induction n with
            | zero => intro i hm; exact absurd hm (Nat.not_lt_zero _)
            | succ n ih =>
              intro i hm hi
              refine V_iload_n nX6_note_51 rfl ?_
              refine V_bipush (v := (nI 29)) nX6_note_52 (by decide) ?_
              refine V_icmp_ge_N (tgt := 83) nX6_note_54 rfl (by omega) (by omega) (fun h54 => ?_) (fun h54 => ?_)
              · skip
                have hx_i : 29 = i := by omega
                subst hx_i
                refine V_arr (f' := (fun i => if 29 * (14 - 1) ≤ i ∧ i < 29 * (14 - 1) + 29 then g_f (i - 29 * (14 - 1)) else (fun i => if i < 377 then k_f (i + 29) else k_f i) i)) (ws' := (wO g o_a o_th o_ts o_pl o_nf o_ne o_rf o_re (14 - 1) o_cm o_sd o_wf o_sm o_sf o_rm o_rs) ++ (wI g (o_a 10) 29 g_f) ++ (wI g (o_a 12) 406 (fun i => if 29 * (14 - 1) ≤ i ∧ i < 29 * (14 - 1) + 29 then g_f (i - 29 * (14 - 1)) else (fun i => if i < 377 then k_f (i + 29) else k_f i) i))) 2 rfl (fun j hj => fillO_eq _ _ _ _ j) rfl ?_
                refine V_aload_n nX6_note_83 rfl ?_
                refine V_dup nX6_note_84 rfl ?_
                refine V_get6 0 19 (by decide) f_RX6_114 nX6_note_85 rfl rfl ?_
                refine V_iconst (v := (nI 1)) nX6_note_88 rfl ?_
                refine V_iadd (v := nI ((14 - 1) + 1)) nX6_note_89 (nI_add (14 - 1) 1) ?_
                refine V_put6 (ws' := (wO g o_a o_th o_ts o_pl o_nf o_ne o_rf o_re ((14 - 1) + 1) o_cm o_sd o_wf o_sm o_sf o_rm o_rs) ++ (wI g (o_a 10) 29 g_f) ++ (wI g (o_a 12) 406 (fun i => if 29 * (14 - 1) ≤ i ∧ i < 29 * (14 - 1) + 29 then g_f (i - 29 * (14 - 1)) else (fun i => if i < 377 then k_f (i + 29) else k_f i) i))) 0 19 (by decide) f_RX6_114 rfl rfl rfl rfl nX6_note_90 rfl (Nat.le_of_ble_eq_true rfl) rfl ?_
                exact R_v rfl X hQ nX6_note_93 (by simp only [List.map_append, wI_fst, wO_fst]) (⟨rfl, rfl⟩)
              · skip
                refine V_aload_n nX6_note_57 rfl ?_
                refine V_get6 0 18 (by decide) f_RX6_43 nX6_note_58 rfl rfl ?_
                refine V_bipush (v := (nI 29)) nX6_note_61 (by decide) ?_
                refine V_aload_n nX6_note_63 rfl ?_
                refine V_get6 0 19 (by decide) f_RX6_114 nX6_note_64 rfl rfl ?_
                refine V_imul (v := nI (29 * (14 - 1))) nX6_note_67 (pk_mul 29 (14 - 1)) ?_
                refine V_iload_n nX6_note_68 rfl ?_
                refine V_iadd (v := nI ((29 * (14 - 1)) + i)) nX6_note_69 (nI_add (29 * (14 - 1)) i) ?_
                refine V_aload_n nX6_note_70 rfl ?_
                refine V_get6 0 16 (by decide) f_RX6_37 nX6_note_71 rfl rfl ?_
                refine V_iload_n nX6_note_74 rfl ?_
                refine V_iald 1 nX6_note_75 rfl (by omega) (by decide) rfl ?_
                refine V_iast (ws' := (wO g o_a o_th o_ts o_pl o_nf o_ne o_rf o_re (14 - 1) o_cm o_sd o_wf o_sm o_sf o_rm o_rs) ++ (wI g (o_a 10) 29 g_f) ++ (wI g (o_a 12) 406 (upd (fillO g_f (fun i => if i < 377 then k_f (i + 29) else k_f i) (29 * (14 - 1)) i) ((29 * (14 - 1)) + i) (g_f i)))) 2 nX6_note_76 rfl (by omega) (by decide) rfl ?_
                refine V_iinc (v := nI (i + 1)) (lv' := [(0, .ref (o_a 0)), (1, .int (nI (i + 1)))]) nX6_note_77 rfl (nI_add i 1) (by decide) rfl ?_
                refine V_goto (tgt := 51) nX6_note_80 rfl ?_
                exact ih (i + 1) (by omega) (by omega)
          exact L51 _ 0 (Nat.lt_succ_self _) (by omega)
        · skip
          refine V_aload_n nX6_note_18 rfl ?_
          refine V_get6 0 18 (by decide) f_RX6_43 nX6_note_19 rfl rfl ?_
          refine V_iload_n nX6_note_22 rfl ?_
          refine V_aload_n nX6_note_23 rfl ?_
          refine V_get6 0 18 (by decide) f_RX6_43 nX6_note_24 rfl rfl ?_
          refine V_iload_n nX6_note_27 rfl ?_
          refine V_bipush (v := (nI 29)) nX6_note_28 (by decide) ?_
          refine V_iadd (v := nI (i + 29)) nX6_note_30 (nI_add i 29) ?_
          refine V_iald (v := k_f (i + 29)) 2 nX6_note_31 rfl (by omega) (by decide) (fillI_ge _ _ _ _ (by omega)) ?_
          refine V_iast (ws' := (wO g o_a o_th o_ts o_pl o_nf o_ne o_rf o_re 14 o_cm o_sd o_wf o_sm o_sf o_rm o_rs) ++ (wI g (o_a 10) 29 g_f) ++ (wI g (o_a 12) 406 (upd (fillI (fun i => k_f (i + 29)) k_f i) i (k_f (i + 29))))) 2 nX6_note_32 rfl (by omega) (by decide) rfl ?_
          refine V_iinc (v := nI (i + 1)) (lv' := [(0, .ref (o_a 0)), (1, .int (nI (i + 1)))]) nX6_note_33 rfl (nI_add i 1) (by decide) rfl ?_
          refine V_goto (tgt := 11) nX6_note_36 rfl ?_
          exact ih (i + 1) (by omega) (by omega)
    exact L11 _ 0 (Nat.lt_succ_self _) (by omega)

set_option maxHeartbeats 4000000 in
set_option maxRecDepth 100000 in
theorem c_X6_bite (g : Gx) (l : Launch) (o_a : Nat → Nat) (o_th : Int32) (o_ts : Nat) (o_pl : Nat) (o_nf : Nat) (o_ne : Nat) (o_rf : Nat) (o_re : Nat) (o_ac : Nat) (o_cm : Nat) (o_sd : Int64) (o_wf : Int32) (o_sm : Int32) (o_sf : Int32) (o_rm : Int32) (o_rs : Int32) (m_pl : Nat → Int32) (m_yl : Nat → Int32) (m_nd : Nat → Int32) (m_hm : Nat → Int32) (m_wk : Nat → Int32) (m_kd : Nat → Int32)  (e : Nat) (he : e < 5) : Cd g l yX6_bite mX6_bite ({ frames := 0, cells := 0, slots := 0, locals := 0 } : Room) [.ref (o_a 0), .int (nI e)] ((wO g o_a o_th o_ts o_pl o_nf o_ne o_rf o_re o_ac o_cm o_sd o_wf o_sm o_sf o_rm o_rs) ++ (wML g o_a m_pl m_yl m_nd m_hm m_wk m_kd)) (some (.int (nI (porN m_kd e)))) ((wO g o_a o_th o_ts o_pl o_nf o_ne o_rf o_re o_ac o_cm o_sd o_wf o_sm o_sf o_rm o_rs) ++ (wML g o_a m_pl m_yl m_nd m_hm m_wk m_kd)) := by
  refine Ct.of (lv := [(0, .ref (o_a 0)), (1, .int (nI e))]) ⟨by decide +kernel, rfl, Nat.le_of_ble_eq_true rfl⟩ rfl (fun E A sz Q X hQ => ?_)
  refine V_aload_n nX6_bite_0 rfl ?_
  refine V_get6 0 11 (by decide) f_RX6_28 nX6_bite_1 rfl rfl ?_
  refine V_iload_n nX6_bite_4 rfl ?_
  refine V_iald 6 nX6_bite_5 rfl (by omega) (by decide) rfl ?_
  refine V_iconst (v := (nI 2)) nX6_bite_6 rfl ?_
  refine V_joinN (b := decide ((m_kd e) = (nI 2))) (x := 2) (y := 1) (pj := 15) (st := []) (fun J1 J2 => ?_) ?_
  · skip
    refine V_icmp_ne (tgt := 14) nX6_bite_7 rfl (fun h7 => ?_) (fun h7 => ?_)
    · skip
      refine V_iconst (v := (nI 1)) nX6_bite_14 rfl ?_
      exact J2 (by simp [h7])
    · skip
      refine V_iconst (v := (nI 2)) nX6_bite_10 rfl ?_
      refine V_goto (tgt := 15) nX6_bite_11 rfl ?_
      exact J1 (by simp [h7])
  exact R_i rfl X hQ nX6_bite_15 (by simp only [List.map_append, wML_fst, wO_fst]) (⟨rfl, rfl⟩)

set_option maxHeartbeats 4000000 in
set_option maxRecDepth 100000 in
theorem c_X6_canEat (g : Gx) (l : Launch) (o_a : Nat → Nat) (o_th : Int32) (o_ts : Nat) (o_pl : Nat) (o_nf : Nat) (o_ne : Nat) (o_rf : Nat) (o_re : Nat) (o_ac : Nat) (o_cm : Nat) (o_sd : Int64) (o_wf : Int32) (o_sm : Int32) (o_sf : Int32) (o_rm : Int32) (o_rs : Int32) (m_pl : Nat → Int32) (m_yl : Nat → Int32) (m_nd : Nat → Int32) (m_hm : Nat → Int32) (m_wk : Nat → Int32) (m_kd : Nat → Int32) (p_a : Nat) (p_f : Nat → Int32)  (e : Nat) (f : Nat) (he : e < 5) (hf : f < 4) : Cd g l yX6_canEat mX6_canEat ({ frames := 2, cells := 0, slots := 0, locals := 43 } : Room) [.ref (o_a 0), .ref p_a, .int (nI e), .int (nI f)] ((wO g o_a o_th o_ts o_pl o_nf o_ne o_rf o_re o_ac o_cm o_sd o_wf o_sm o_sf o_rm o_rs) ++ (wML g o_a m_pl m_yl m_nd m_hm m_wk m_kd) ++ (wI g p_a 29 p_f)) (some (.int (bI (ceP m_kd p_f e f)))) ((wO g o_a o_th o_ts o_pl o_nf o_ne o_rf o_re o_ac o_cm o_sd o_wf o_sm o_sf o_rm o_rs) ++ (wML g o_a m_pl m_yl m_nd m_hm m_wk m_kd) ++ (wI g p_a 29 p_f)) := by
  refine Ct.of (lv := [(0, .ref (o_a 0)), (1, .ref p_a), (2, .int (nI e)), (3, .int (nI f))]) ⟨by decide +kernel, rfl, Nat.le_of_ble_eq_true rfl⟩ rfl (fun E A sz Q X hQ => ?_)
  refine V_aload_n nX6_canEat_0 rfl ?_
  refine V_iload_n nX6_canEat_1 rfl ?_
  refine V_iald 7 nX6_canEat_2 rfl (by omega) (by decide) rfl ?_
  refine V_aload_n nX6_canEat_3 rfl ?_
  refine V_iload_n nX6_canEat_4 rfl ?_
  refine V_blk (ws' := ((wO g o_a o_th o_ts o_pl o_nf o_ne o_rf o_re o_ac o_cm o_sd o_wf o_sm o_sf o_rm o_rs) ++ (wML g o_a m_pl m_yl m_nd m_hm m_wk m_kd)) ++ ((wI g p_a 29 p_f))) [wO g o_a o_th o_ts o_pl o_nf o_ne o_rf o_re o_ac o_cm o_sd o_wf o_sm o_sf o_rm o_rs, wML g o_a m_pl m_yl m_nd m_hm m_wk m_kd, wI g p_a 29 p_f] [0, 1, 2] rfl (by simp only [List.flatten_cons, List.flatten_nil, List.append_nil, List.append_assoc]) (by show List.flatten [wO g o_a o_th o_ts o_pl o_nf o_ne o_rf o_re o_ac o_cm o_sd o_wf o_sm o_sf o_rm o_rs, wML g o_a m_pl m_yl m_nd m_hm m_wk m_kd, wI g p_a 29 p_f] = _; simp only [List.flatten_cons, List.flatten_nil, List.append_nil, List.append_assoc]) ?_
  refine V_cVi (C := (RX6, TX6, 34)) (ci := 6) (ws' := ((wO g o_a o_th o_ts o_pl o_nf o_ne o_rf o_re o_ac o_cm o_sd o_wf o_sm o_sf o_rm o_rs) ++ (wML g o_a m_pl m_yl m_nd m_hm m_wk m_kd)) ++ ((wI g p_a 29 p_f))) (List.range _) 1 X (c_X6_bite g l o_a o_th o_ts o_pl o_nf o_ne o_rf o_re o_ac o_cm o_sd o_wf o_sm o_sf o_rm o_rs m_pl m_yl m_nd m_hm m_wk m_kd  e (by omega)) k_RX6_177 hy_X6_bite (by decide) (range_at _ _) (range_nd _) 0 rfl rfl nX6_canEat_5 rfl rfl (Nat.le_of_ble_eq_true rfl) (wput_range _ _ _ (by simp only [List.length_append, wML_len, wO_len])) ?_
  refine V_blk (ws' := (wO g o_a o_th o_ts o_pl o_nf o_ne o_rf o_re o_ac o_cm o_sd o_wf o_sm o_sf o_rm o_rs) ++ (wML g o_a m_pl m_yl m_nd m_hm m_wk m_kd) ++ (wI g p_a 29 p_f)) [wO g o_a o_th o_ts o_pl o_nf o_ne o_rf o_re o_ac o_cm o_sd o_wf o_sm o_sf o_rm o_rs, wML g o_a m_pl m_yl m_nd m_hm m_wk m_kd, wI g p_a 29 p_f] [0, 1, 2] rfl (by simp only [List.flatten_cons, List.flatten_nil, List.append_nil, List.append_assoc]) (by show List.flatten [wO g o_a o_th o_ts o_pl o_nf o_ne o_rf o_re o_ac o_cm o_sd o_wf o_sm o_sf o_rm o_rs, wML g o_a m_pl m_yl m_nd m_hm m_wk m_kd, wI g p_a 29 p_f] = _; simp only [List.flatten_cons, List.flatten_nil, List.append_nil, List.append_assoc]) ?_
  refine V_icmp_lt (tgt := 33) nX6_canEat_8 rfl (fun h8 => ?_) (fun h8 => ?_)
  · skip
    refine V_iconst (v := (nI 0)) nX6_canEat_33 rfl ?_
    refine V_top (y := bI false) rfl ?_
    exact R_z rfl X hQ nX6_canEat_34 (by simp only [List.map_append, wI_fst, wML_fst, wO_fst]) (⟨by simp [ceP, h8], by simp [ceP, h8]⟩)
  · skip
    refine V_aload_n nX6_canEat_11 rfl ?_
    refine V_get6 0 11 (by decide) f_RX6_28 nX6_canEat_12 rfl rfl ?_
    refine V_iload_n nX6_canEat_15 rfl ?_
    refine V_iald 6 nX6_canEat_16 rfl (by omega) (by decide) rfl ?_
    refine V_iconst (v := (nI 3)) nX6_canEat_17 rfl ?_
    refine V_icmp_ne (tgt := 29) nX6_canEat_18 rfl (fun h18 => ?_) (fun h18 => ?_)
    · skip
      refine V_iconst (v := (nI 1)) nX6_canEat_29 rfl ?_
      refine V_goto (tgt := 34) nX6_canEat_30 rfl ?_
      refine V_top (y := bI true) rfl ?_
      exact R_z rfl X hQ nX6_canEat_34 (by simp only [List.map_append, wI_fst, wML_fst, wO_fst]) (⟨by simp [ceP, h8, h18], by simp [ceP, h8, h18]⟩)
    · skip
      refine V_aload_n nX6_canEat_21 rfl ?_
      refine V_iload_n nX6_canEat_22 rfl ?_
      refine V_blk (ws' := ((wI g p_a 29 p_f)) ++ ((wO g o_a o_th o_ts o_pl o_nf o_ne o_rf o_re o_ac o_cm o_sd o_wf o_sm o_sf o_rm o_rs) ++ (wML g o_a m_pl m_yl m_nd m_hm m_wk m_kd))) [wO g o_a o_th o_ts o_pl o_nf o_ne o_rf o_re o_ac o_cm o_sd o_wf o_sm o_sf o_rm o_rs, wML g o_a m_pl m_yl m_nd m_hm m_wk m_kd, wI g p_a 29 p_f] [2, 0, 1] rfl (by simp only [List.flatten_cons, List.flatten_nil, List.append_nil, List.append_assoc]) (by show List.flatten [wI g p_a 29 p_f, wO g o_a o_th o_ts o_pl o_nf o_ne o_rf o_re o_ac o_cm o_sd o_wf o_sm o_sf o_rm o_rs, wML g o_a m_pl m_yl m_nd m_hm m_wk m_kd] = _; simp only [List.flatten_cons, List.flatten_nil, List.append_nil, List.append_assoc]) ?_
      refine V_cSi (ws' := ((wI g p_a 29 p_f)) ++ ((wO g o_a o_th o_ts o_pl o_nf o_ne o_rf o_re o_ac o_cm o_sd o_wf o_sm o_sf o_rm o_rs) ++ (wML g o_a m_pl m_yl m_nd m_hm m_wk m_kd))) (List.range _) 2 X (c_X6_owesAll g l p_a p_f  e (by omega)) k_RX6_148 hy_X6_owesAll.2 (by decide) (range_at _ _) (range_nd _) nX6_canEat_23 rfl rfl (Nat.le_of_ble_eq_true rfl) (wput_range _ _ _ (by simp only [List.length_append, wI_len])) ?_
      refine V_blk (ws' := (wO g o_a o_th o_ts o_pl o_nf o_ne o_rf o_re o_ac o_cm o_sd o_wf o_sm o_sf o_rm o_rs) ++ (wML g o_a m_pl m_yl m_nd m_hm m_wk m_kd) ++ (wI g p_a 29 p_f)) [wI g p_a 29 p_f, wO g o_a o_th o_ts o_pl o_nf o_ne o_rf o_re o_ac o_cm o_sd o_wf o_sm o_sf o_rm o_rs, wML g o_a m_pl m_yl m_nd m_hm m_wk m_kd] [1, 2, 0] rfl (by simp only [List.flatten_cons, List.flatten_nil, List.append_nil, List.append_assoc]) (by show List.flatten [wO g o_a o_th o_ts o_pl o_nf o_ne o_rf o_re o_ac o_cm o_sd o_wf o_sm o_sf o_rm o_rs, wML g o_a m_pl m_yl m_nd m_hm m_wk m_kd, wI g p_a 29 p_f] = _; simp only [List.flatten_cons, List.flatten_nil, List.append_nil, List.append_assoc]) ?_
      refine V_if_ne (tgt := 33) nX6_canEat_26 rfl (fun h26 => ?_) (fun h26 => ?_)
      · skip
        refine V_iconst (v := (nI 0)) nX6_canEat_33 rfl ?_
        refine V_top (y := bI false) rfl ?_
        exact R_z rfl X hQ nX6_canEat_34 (by simp only [List.map_append, wI_fst, wML_fst, wO_fst]) (⟨by simp [ceP, h8, h18, h26], by simp [ceP, h8, h18, h26]⟩)
      · skip
        refine V_iconst (v := (nI 1)) nX6_canEat_29 rfl ?_
        refine V_goto (tgt := 34) nX6_canEat_30 rfl ?_
        refine V_top (y := bI true) rfl ?_
        exact R_z rfl X hQ nX6_canEat_34 (by simp only [List.map_append, wI_fst, wML_fst, wO_fst]) (⟨by simp [ceP, h8, h18, h26], by simp [ceP, h8, h18, h26]⟩)

set_option maxHeartbeats 4000000 in
set_option maxRecDepth 100000 in
theorem c_X6_goEat (g : Gx) (l : Launch) (o_a : Nat → Nat) (o_th : Int32) (o_ts : Nat) (o_pl : Nat) (o_nf : Nat) (o_ne : Nat) (o_rf : Nat) (o_re : Nat) (o_ac : Nat) (o_cm : Nat) (o_sd : Int64) (o_wf : Int32) (o_sm : Int32) (o_sf : Int32) (o_rm : Int32) (o_rs : Int32) (m_pl : Nat → Int32) (m_yl : Nat → Int32) (m_nd : Nat → Int32) (m_hm : Nat → Int32) (m_wk : Nat → Int32) (m_kd : Nat → Int32) (p_a : Nat) (p_f : Nat → Int32)  (e : Nat) (f : Nat) (he : e < 5) (hf : f < 4) : Cd g l yX6_goEat mX6_goEat ({ frames := 1, cells := 0, slots := 0, locals := 22 } : Room) [.ref (o_a 0), .ref p_a, .int (nI e), .int (nI f)] ((wO g o_a o_th o_ts o_pl o_nf o_ne o_rf o_re o_ac o_cm o_sd o_wf o_sm o_sf o_rm o_rs) ++ (wML g o_a m_pl m_yl m_nd m_hm m_wk m_kd) ++ (wI g p_a 29 p_f)) none ((wO g o_a o_th o_ts o_pl o_nf o_ne o_rf o_re o_ac o_cm o_sd o_wf o_sm o_sf o_rm o_rs) ++ (wML g o_a m_pl m_yl m_nd m_hm m_wk m_kd) ++ (wI g p_a 29 (geP m_kd p_f e f))) := by
  refine Ct.of (lv := [(0, .ref (o_a 0)), (1, .ref p_a), (2, .int (nI e)), (3, .int (nI f))]) ⟨by decide +kernel, rfl, Nat.le_of_ble_eq_true rfl⟩ rfl (fun E A sz Q X hQ => ?_)
  refine V_aload_n nX6_goEat_0 rfl ?_
  refine V_iload_n nX6_goEat_1 rfl ?_
  refine V_dup2 nX6_goEat_2 rfl rfl ?_
  refine V_iald 7 nX6_goEat_3 rfl (by omega) (by decide) rfl ?_
  refine V_aload_n nX6_goEat_4 rfl ?_
  refine V_iload_n nX6_goEat_5 rfl ?_
  refine V_blk (ws' := ((wO g o_a o_th o_ts o_pl o_nf o_ne o_rf o_re o_ac o_cm o_sd o_wf o_sm o_sf o_rm o_rs) ++ (wML g o_a m_pl m_yl m_nd m_hm m_wk m_kd)) ++ ((wI g p_a 29 p_f))) [wO g o_a o_th o_ts o_pl o_nf o_ne o_rf o_re o_ac o_cm o_sd o_wf o_sm o_sf o_rm o_rs, wML g o_a m_pl m_yl m_nd m_hm m_wk m_kd, wI g p_a 29 p_f] [0, 1, 2] rfl (by simp only [List.flatten_cons, List.flatten_nil, List.append_nil, List.append_assoc]) (by show List.flatten [wO g o_a o_th o_ts o_pl o_nf o_ne o_rf o_re o_ac o_cm o_sd o_wf o_sm o_sf o_rm o_rs, wML g o_a m_pl m_yl m_nd m_hm m_wk m_kd, wI g p_a 29 p_f] = _; simp only [List.flatten_cons, List.flatten_nil, List.append_nil, List.append_assoc]) ?_
  refine V_cVi (C := (RX6, TX6, 34)) (ci := 6) (ws' := ((wO g o_a o_th o_ts o_pl o_nf o_ne o_rf o_re o_ac o_cm o_sd o_wf o_sm o_sf o_rm o_rs) ++ (wML g o_a m_pl m_yl m_nd m_hm m_wk m_kd)) ++ ((wI g p_a 29 p_f))) (List.range _) 1 X (c_X6_bite g l o_a o_th o_ts o_pl o_nf o_ne o_rf o_re o_ac o_cm o_sd o_wf o_sm o_sf o_rm o_rs m_pl m_yl m_nd m_hm m_wk m_kd  e (by omega)) k_RX6_177 hy_X6_bite (by decide) (range_at _ _) (range_nd _) 0 rfl rfl nX6_goEat_6 rfl rfl (Nat.le_of_ble_eq_true rfl) (wput_range _ _ _ (by simp only [List.length_append, wML_len, wO_len])) ?_
  refine V_blk (ws' := (wO g o_a o_th o_ts o_pl o_nf o_ne o_rf o_re o_ac o_cm o_sd o_wf o_sm o_sf o_rm o_rs) ++ (wML g o_a m_pl m_yl m_nd m_hm m_wk m_kd) ++ (wI g p_a 29 p_f)) [wO g o_a o_th o_ts o_pl o_nf o_ne o_rf o_re o_ac o_cm o_sd o_wf o_sm o_sf o_rm o_rs, wML g o_a m_pl m_yl m_nd m_hm m_wk m_kd, wI g p_a 29 p_f] [0, 1, 2] rfl (by simp only [List.flatten_cons, List.flatten_nil, List.append_nil, List.append_assoc]) (by show List.flatten [wO g o_a o_th o_ts o_pl o_nf o_ne o_rf o_re o_ac o_cm o_sd o_wf o_sm o_sf o_rm o_rs, wML g o_a m_pl m_yl m_nd m_hm m_wk m_kd, wI g p_a 29 p_f] = _; simp only [List.flatten_cons, List.flatten_nil, List.append_nil, List.append_assoc]) ?_
  refine V_isub (v := (p_f f) - (nI (porN m_kd e))) nX6_goEat_9 rfl ?_
  refine V_iast (ws' := (wO g o_a o_th o_ts o_pl o_nf o_ne o_rf o_re o_ac o_cm o_sd o_wf o_sm o_sf o_rm o_rs) ++ (wML g o_a m_pl m_yl m_nd m_hm m_wk m_kd) ++ (wI g p_a 29 (upd p_f f ((p_f f) - (nI (porN m_kd e)))))) 7 nX6_goEat_10 rfl (by omega) (by decide) rfl ?_
  refine V_aload_n nX6_goEat_11 rfl ?_
  refine V_bipush (v := (nI 8)) nX6_goEat_12 (by decide) ?_
  refine V_iconst (v := (nI 4)) nX6_goEat_14 rfl ?_
  refine V_iload_n nX6_goEat_15 rfl ?_
  refine V_imul (v := nI (4 * e)) nX6_goEat_16 (pk_mul 4 e) ?_
  refine V_iadd (v := nI (8 + (4 * e))) nX6_goEat_17 (nI_add 8 (4 * e)) ?_
  refine V_iload_n nX6_goEat_18 rfl ?_
  refine V_iadd (v := nI ((8 + (4 * e)) + f)) nX6_goEat_19 (nI_add (8 + (4 * e)) f) ?_
  refine V_aload_n nX6_goEat_20 rfl ?_
  refine V_iload_n nX6_goEat_21 rfl ?_
  refine V_iload_n nX6_goEat_22 rfl ?_
  refine V_blk (ws' := ((wI g p_a 29 (upd p_f f ((p_f f) - (nI (porN m_kd e)))))) ++ ((wO g o_a o_th o_ts o_pl o_nf o_ne o_rf o_re o_ac o_cm o_sd o_wf o_sm o_sf o_rm o_rs) ++ (wML g o_a m_pl m_yl m_nd m_hm m_wk m_kd))) [wO g o_a o_th o_ts o_pl o_nf o_ne o_rf o_re o_ac o_cm o_sd o_wf o_sm o_sf o_rm o_rs, wML g o_a m_pl m_yl m_nd m_hm m_wk m_kd, wI g p_a 29 (upd p_f f ((p_f f) - (nI (porN m_kd e))))] [2, 0, 1] rfl (by simp only [List.flatten_cons, List.flatten_nil, List.append_nil, List.append_assoc]) (by show List.flatten [wI g p_a 29 (upd p_f f ((p_f f) - (nI (porN m_kd e)))), wO g o_a o_th o_ts o_pl o_nf o_ne o_rf o_re o_ac o_cm o_sd o_wf o_sm o_sf o_rm o_rs, wML g o_a m_pl m_yl m_nd m_hm m_wk m_kd] = _; simp only [List.flatten_cons, List.flatten_nil, List.append_nil, List.append_assoc]) ?_
  refine V_cSi (ws' := ((wI g p_a 29 (upd p_f f ((p_f f) - (nI (porN m_kd e)))))) ++ ((wO g o_a o_th o_ts o_pl o_nf o_ne o_rf o_re o_ac o_cm o_sd o_wf o_sm o_sf o_rm o_rs) ++ (wML g o_a m_pl m_yl m_nd m_hm m_wk m_kd))) (List.range _) 3 X (c_X6_owed g l p_a (upd p_f f ((p_f f) - (nI (porN m_kd e))))  e f (by omega) (by omega)) k_RX6_117 hy_X6_owed.2 (by decide) (range_at _ _) (range_nd _) nX6_goEat_23 rfl rfl (Nat.le_of_ble_eq_true rfl) (wput_range _ _ _ (by simp only [List.length_append, wI_len])) ?_
  refine V_blk (ws' := (wO g o_a o_th o_ts o_pl o_nf o_ne o_rf o_re o_ac o_cm o_sd o_wf o_sm o_sf o_rm o_rs) ++ (wML g o_a m_pl m_yl m_nd m_hm m_wk m_kd) ++ (wI g p_a 29 (upd p_f f ((p_f f) - (nI (porN m_kd e)))))) [wI g p_a 29 (upd p_f f ((p_f f) - (nI (porN m_kd e)))), wO g o_a o_th o_ts o_pl o_nf o_ne o_rf o_re o_ac o_cm o_sd o_wf o_sm o_sf o_rm o_rs, wML g o_a m_pl m_yl m_nd m_hm m_wk m_kd] [1, 2, 0] rfl (by simp only [List.flatten_cons, List.flatten_nil, List.append_nil, List.append_assoc]) (by show List.flatten [wO g o_a o_th o_ts o_pl o_nf o_ne o_rf o_re o_ac o_cm o_sd o_wf o_sm o_sf o_rm o_rs, wML g o_a m_pl m_yl m_nd m_hm m_wk m_kd, wI g p_a 29 (upd p_f f ((p_f f) - (nI (porN m_kd e))))] = _; simp only [List.flatten_cons, List.flatten_nil, List.append_nil, List.append_assoc]) ?_
  refine V_aload_n nX6_goEat_26 rfl ?_
  refine V_iload_n nX6_goEat_27 rfl ?_
  refine V_blk (ws' := ((wO g o_a o_th o_ts o_pl o_nf o_ne o_rf o_re o_ac o_cm o_sd o_wf o_sm o_sf o_rm o_rs) ++ (wML g o_a m_pl m_yl m_nd m_hm m_wk m_kd)) ++ ((wI g p_a 29 (upd p_f f ((p_f f) - (nI (porN m_kd e))))))) [wO g o_a o_th o_ts o_pl o_nf o_ne o_rf o_re o_ac o_cm o_sd o_wf o_sm o_sf o_rm o_rs, wML g o_a m_pl m_yl m_nd m_hm m_wk m_kd, wI g p_a 29 (upd p_f f ((p_f f) - (nI (porN m_kd e))))] [0, 1, 2] rfl (by simp only [List.flatten_cons, List.flatten_nil, List.append_nil, List.append_assoc]) (by show List.flatten [wO g o_a o_th o_ts o_pl o_nf o_ne o_rf o_re o_ac o_cm o_sd o_wf o_sm o_sf o_rm o_rs, wML g o_a m_pl m_yl m_nd m_hm m_wk m_kd, wI g p_a 29 (upd p_f f ((p_f f) - (nI (porN m_kd e))))] = _; simp only [List.flatten_cons, List.flatten_nil, List.append_nil, List.append_assoc]) ?_
  refine V_cVi (C := (RX6, TX6, 34)) (ci := 6) (ws' := ((wO g o_a o_th o_ts o_pl o_nf o_ne o_rf o_re o_ac o_cm o_sd o_wf o_sm o_sf o_rm o_rs) ++ (wML g o_a m_pl m_yl m_nd m_hm m_wk m_kd)) ++ ((wI g p_a 29 (upd p_f f ((p_f f) - (nI (porN m_kd e))))))) (List.range _) 1 X (c_X6_bite g l o_a o_th o_ts o_pl o_nf o_ne o_rf o_re o_ac o_cm o_sd o_wf o_sm o_sf o_rm o_rs m_pl m_yl m_nd m_hm m_wk m_kd  e (by omega)) k_RX6_177 hy_X6_bite (by decide) (range_at _ _) (range_nd _) 0 rfl rfl nX6_goEat_28 rfl rfl (Nat.le_of_ble_eq_true rfl) (wput_range _ _ _ (by simp only [List.length_append, wML_len, wO_len])) ?_
  refine V_blk (ws' := (wO g o_a o_th o_ts o_pl o_nf o_ne o_rf o_re o_ac o_cm o_sd o_wf o_sm o_sf o_rm o_rs) ++ (wML g o_a m_pl m_yl m_nd m_hm m_wk m_kd) ++ (wI g p_a 29 (upd p_f f ((p_f f) - (nI (porN m_kd e)))))) [wO g o_a o_th o_ts o_pl o_nf o_ne o_rf o_re o_ac o_cm o_sd o_wf o_sm o_sf o_rm o_rs, wML g o_a m_pl m_yl m_nd m_hm m_wk m_kd, wI g p_a 29 (upd p_f f ((p_f f) - (nI (porN m_kd e))))] [0, 1, 2] rfl (by simp only [List.flatten_cons, List.flatten_nil, List.append_nil, List.append_assoc]) (by show List.flatten [wO g o_a o_th o_ts o_pl o_nf o_ne o_rf o_re o_ac o_cm o_sd o_wf o_sm o_sf o_rm o_rs, wML g o_a m_pl m_yl m_nd m_hm m_wk m_kd, wI g p_a 29 (upd p_f f ((p_f f) - (nI (porN m_kd e))))] = _; simp only [List.flatten_cons, List.flatten_nil, List.append_nil, List.append_assoc]) ?_
  refine V_iadd (v := ((upd p_f f ((p_f f) - (nI (porN m_kd e)))) (8 + 4 * e + f)) + (nI (porN m_kd e))) nX6_goEat_31 rfl ?_
  refine V_cSi (ws' := (wO g o_a o_th o_ts o_pl o_nf o_ne o_rf o_re o_ac o_cm o_sd o_wf o_sm o_sf o_rm o_rs) ++ (wML g o_a m_pl m_yl m_nd m_hm m_wk m_kd) ++ (wI g p_a 29 (upd p_f f ((p_f f) - (nI (porN m_kd e)))))) [] 1 X (c_X6_capped g l   (((upd p_f f ((p_f f) - (nI (porN m_kd e)))) (8 + 4 * e + f)) + (nI (porN m_kd e))) ) k_RX6_130 hy_X6_capped.2 (by decide) rfl (by decide) nX6_goEat_32 rfl rfl (Nat.le_of_ble_eq_true rfl) rfl ?_
  refine V_iast (ws' := (wO g o_a o_th o_ts o_pl o_nf o_ne o_rf o_re o_ac o_cm o_sd o_wf o_sm o_sf o_rm o_rs) ++ (wML g o_a m_pl m_yl m_nd m_hm m_wk m_kd) ++ (wI g p_a 29 (upd (upd p_f f ((p_f f) - (nI (porN m_kd e)))) ((8 + (4 * e)) + f) (capI (((upd p_f f ((p_f f) - (nI (porN m_kd e)))) (8 + 4 * e + f)) + (nI (porN m_kd e))))))) 7 nX6_goEat_35 rfl (by omega) (by decide) rfl ?_
  exact R_v rfl X hQ nX6_goEat_36 (by simp only [List.map_append, wI_fst, wML_fst, wO_fst]) (⟨rfl, rfl⟩)

set_option maxHeartbeats 4000000 in
set_option maxRecDepth 100000 in
theorem c_X6_eat (g : Gx) (l : Launch) (o_a : Nat → Nat) (o_th : Int32) (o_ts : Nat) (o_pl : Nat) (o_nf : Nat) (o_ne : Nat) (o_rf : Nat) (o_re : Nat) (o_ac : Nat) (o_cm : Nat) (o_sd : Int64) (o_wf : Int32) (o_sm : Int32) (o_sf : Int32) (o_rm : Int32) (o_rs : Int32) (m_pl : Nat → Int32) (m_yl : Nat → Int32) (m_nd : Nat → Int32) (m_hm : Nat → Int32) (m_wk : Nat → Int32) (m_kd : Nat → Int32) (g_f : Nat → Int32) (k_f : Nat → Int32)  (e : Int32) (f : Int32) (hnf : o_nf ≤ 4) (hne : o_ne ≤ 5) (hac : o_ac ≤ 14) : Cd g l yX6_eat mX6_eat ({ frames := 3, cells := 0, slots := 0, locals := 66 } : Room) [.ref (o_a 0), .int e, .int f] ((wO g o_a o_th o_ts o_pl o_nf o_ne o_rf o_re o_ac o_cm o_sd o_wf o_sm o_sf o_rm o_rs) ++ (wML g o_a m_pl m_yl m_nd m_hm m_wk m_kd) ++ (wI g (o_a 10) 29 g_f) ++ (wI g (o_a 12) 406 k_f)) (some (.int (etM o_nf o_ne m_kd g_f e f))) ((wO g o_a (nI 0) o_ts o_pl o_nf o_ne o_rf o_re (if etB o_nf o_ne m_kd g_f e f = true then rmC o_ac + 1 else o_ac) o_cm o_sd o_wf o_sm o_sf o_rm o_rs) ++ (wML g o_a m_pl m_yl m_nd m_hm m_wk m_kd) ++ (wI g (o_a 10) 29 (etQ o_nf o_ne m_kd g_f e f)) ++ (wI g (o_a 12) 406 (if etB o_nf o_ne m_kd g_f e f = true then ntB g_f k_f o_ac else k_f))) := by
  refine Ct.of (lv := [(0, .ref (o_a 0)), (1, .int e), (2, .int f)]) ⟨by decide +kernel, rfl, Nat.le_of_ble_eq_true rfl⟩ rfl (fun E A sz Q X hQ => ?_)
  refine V_aload_n nX6_eat_0 rfl ?_
  refine V_iconst (v := (nI 0)) nX6_eat_1 rfl ?_
  refine V_put6 (ws' := (wO g o_a (nI 0) o_ts o_pl o_nf o_ne o_rf o_re o_ac o_cm o_sd o_wf o_sm o_sf o_rm o_rs) ++ (wML g o_a m_pl m_yl m_nd m_hm m_wk m_kd) ++ (wI g (o_a 10) 29 g_f) ++ (wI g (o_a 12) 406 k_f)) 0 0 (by decide) f_RX6_68 rfl rfl rfl rfl nX6_eat_2 rfl (Nat.le_of_ble_eq_true rfl) rfl ?_
  refine V_aload_n nX6_eat_5 rfl ?_
  refine V_iload_n nX6_eat_6 rfl ?_
  refine V_blk (ws' := ((wO g o_a (nI 0) o_ts o_pl o_nf o_ne o_rf o_re o_ac o_cm o_sd o_wf o_sm o_sf o_rm o_rs)) ++ ((wML g o_a m_pl m_yl m_nd m_hm m_wk m_kd) ++ (wI g (o_a 10) 29 g_f) ++ (wI g (o_a 12) 406 k_f))) [wO g o_a (nI 0) o_ts o_pl o_nf o_ne o_rf o_re o_ac o_cm o_sd o_wf o_sm o_sf o_rm o_rs, wML g o_a m_pl m_yl m_nd m_hm m_wk m_kd, wI g (o_a 10) 29 g_f, wI g (o_a 12) 406 k_f] [0, 1, 2, 3] rfl (by simp only [List.flatten_cons, List.flatten_nil, List.append_nil, List.append_assoc]) (by show List.flatten [wO g o_a (nI 0) o_ts o_pl o_nf o_ne o_rf o_re o_ac o_cm o_sd o_wf o_sm o_sf o_rm o_rs, wML g o_a m_pl m_yl m_nd m_hm m_wk m_kd, wI g (o_a 10) 29 g_f, wI g (o_a 12) 406 k_f] = _; simp only [List.flatten_cons, List.flatten_nil, List.append_nil, List.append_assoc]) ?_
  refine V_cVi (C := (RX6, TX6, 34)) (ci := 6) (ws' := ((wO g o_a (nI 0) o_ts o_pl o_nf o_ne o_rf o_re o_ac o_cm o_sd o_wf o_sm o_sf o_rm o_rs)) ++ ((wML g o_a m_pl m_yl m_nd m_hm m_wk m_kd) ++ (wI g (o_a 10) 29 g_f) ++ (wI g (o_a 12) 406 k_f))) (List.range _) 1 X (c_X6_noEater g l o_a (nI 0) o_ts o_pl o_nf o_ne o_rf o_re o_ac o_cm o_sd o_wf o_sm o_sf o_rm o_rs  e (by omega)) k_RX6_174 hy_X6_noEater (by decide) (range_at _ _) (range_nd _) 0 rfl rfl nX6_eat_7 rfl rfl (Nat.le_of_ble_eq_true rfl) (wput_range _ _ _ (by simp only [List.length_append, wO_len])) ?_
  refine V_blk (ws' := (wO g o_a (nI 0) o_ts o_pl o_nf o_ne o_rf o_re o_ac o_cm o_sd o_wf o_sm o_sf o_rm o_rs) ++ (wML g o_a m_pl m_yl m_nd m_hm m_wk m_kd) ++ (wI g (o_a 10) 29 g_f) ++ (wI g (o_a 12) 406 k_f)) [wO g o_a (nI 0) o_ts o_pl o_nf o_ne o_rf o_re o_ac o_cm o_sd o_wf o_sm o_sf o_rm o_rs, wML g o_a m_pl m_yl m_nd m_hm m_wk m_kd, wI g (o_a 10) 29 g_f, wI g (o_a 12) 406 k_f] [0, 1, 2, 3] rfl (by simp only [List.flatten_cons, List.flatten_nil, List.append_nil, List.append_assoc]) (by show List.flatten [wO g o_a (nI 0) o_ts o_pl o_nf o_ne o_rf o_re o_ac o_cm o_sd o_wf o_sm o_sf o_rm o_rs, wML g o_a m_pl m_yl m_nd m_hm m_wk m_kd, wI g (o_a 10) 29 g_f, wI g (o_a 12) 406 k_f] = _; simp only [List.flatten_cons, List.flatten_nil, List.append_nil, List.append_assoc]) ?_
  refine V_if_ne_b (tgt := 21) nX6_eat_10 rfl (fun h10 => ?_) (fun h10 => ?_)
  · skip
    have hn_a : hasN o_ne e = false := by rw [Bool.not_eq_true'] at h10; exact h10
    refine V_iconst (v := (-1)) nX6_eat_21 (by decide) ?_
    have hB : etB o_nf o_ne m_kd g_f e f = false := by simp [etB, hn_a]
    exact R_i rfl X hQ nX6_eat_22 (by simp only [List.map_append, wI_fst, wML_fst, wO_fst]) (⟨by simp [etM, hn_a], by simp only [hB, etQ, Bool.false_eq_true, ↓reduceIte]⟩)
  · skip
    obtain ⟨a, hf_a, rfl⟩ := nhas h10 (by omega)
    have hix_a : ix (nI a) = a := ix_nI (by omega)
    have hp_a : hasN o_ne (nI a) = true := by rw [Bool.not_eq_false'] at h10; exact h10
    refine V_aload_n nX6_eat_13 rfl ?_
    refine V_iload_n nX6_eat_14 rfl ?_
    refine V_blk (ws' := ((wO g o_a (nI 0) o_ts o_pl o_nf o_ne o_rf o_re o_ac o_cm o_sd o_wf o_sm o_sf o_rm o_rs)) ++ ((wML g o_a m_pl m_yl m_nd m_hm m_wk m_kd) ++ (wI g (o_a 10) 29 g_f) ++ (wI g (o_a 12) 406 k_f))) [wO g o_a (nI 0) o_ts o_pl o_nf o_ne o_rf o_re o_ac o_cm o_sd o_wf o_sm o_sf o_rm o_rs, wML g o_a m_pl m_yl m_nd m_hm m_wk m_kd, wI g (o_a 10) 29 g_f, wI g (o_a 12) 406 k_f] [0, 1, 2, 3] rfl (by simp only [List.flatten_cons, List.flatten_nil, List.append_nil, List.append_assoc]) (by show List.flatten [wO g o_a (nI 0) o_ts o_pl o_nf o_ne o_rf o_re o_ac o_cm o_sd o_wf o_sm o_sf o_rm o_rs, wML g o_a m_pl m_yl m_nd m_hm m_wk m_kd, wI g (o_a 10) 29 g_f, wI g (o_a 12) 406 k_f] = _; simp only [List.flatten_cons, List.flatten_nil, List.append_nil, List.append_assoc]) ?_
    refine V_cVi (C := (RX6, TX6, 34)) (ci := 6) (ws' := ((wO g o_a (nI 0) o_ts o_pl o_nf o_ne o_rf o_re o_ac o_cm o_sd o_wf o_sm o_sf o_rm o_rs)) ++ ((wML g o_a m_pl m_yl m_nd m_hm m_wk m_kd) ++ (wI g (o_a 10) 29 g_f) ++ (wI g (o_a 12) 406 k_f))) (List.range _) 1 X (c_X6_noField g l o_a (nI 0) o_ts o_pl o_nf o_ne o_rf o_re o_ac o_cm o_sd o_wf o_sm o_sf o_rm o_rs  f (by omega)) k_RX6_167 hy_X6_noField (by decide) (range_at _ _) (range_nd _) 0 rfl rfl nX6_eat_15 rfl rfl (Nat.le_of_ble_eq_true rfl) (wput_range _ _ _ (by simp only [List.length_append, wO_len])) ?_
    refine V_blk (ws' := (wO g o_a (nI 0) o_ts o_pl o_nf o_ne o_rf o_re o_ac o_cm o_sd o_wf o_sm o_sf o_rm o_rs) ++ (wML g o_a m_pl m_yl m_nd m_hm m_wk m_kd) ++ (wI g (o_a 10) 29 g_f) ++ (wI g (o_a 12) 406 k_f)) [wO g o_a (nI 0) o_ts o_pl o_nf o_ne o_rf o_re o_ac o_cm o_sd o_wf o_sm o_sf o_rm o_rs, wML g o_a m_pl m_yl m_nd m_hm m_wk m_kd, wI g (o_a 10) 29 g_f, wI g (o_a 12) 406 k_f] [0, 1, 2, 3] rfl (by simp only [List.flatten_cons, List.flatten_nil, List.append_nil, List.append_assoc]) (by show List.flatten [wO g o_a (nI 0) o_ts o_pl o_nf o_ne o_rf o_re o_ac o_cm o_sd o_wf o_sm o_sf o_rm o_rs, wML g o_a m_pl m_yl m_nd m_hm m_wk m_kd, wI g (o_a 10) 29 g_f, wI g (o_a 12) 406 k_f] = _; simp only [List.flatten_cons, List.flatten_nil, List.append_nil, List.append_assoc]) ?_
    refine V_if_eq_b (tgt := 23) nX6_eat_18 rfl (fun h18 => ?_) (fun h18 => ?_)
    · skip
      obtain ⟨b, hf_b, rfl⟩ := nhas h18 (by omega)
      have hix_b : ix (nI b) = b := ix_nI (by omega)
      have hp_b : hasN o_nf (nI b) = true := by rw [Bool.not_eq_false'] at h18; exact h18
      refine V_aload_n nX6_eat_23 rfl ?_
      refine V_aload_n nX6_eat_24 rfl ?_
      refine V_get6 0 16 (by decide) f_RX6_37 nX6_eat_25 rfl rfl ?_
      refine V_iload_n nX6_eat_28 rfl ?_
      refine V_iload_n nX6_eat_29 rfl ?_
      refine V_blk (ws' := ((wO g o_a (nI 0) o_ts o_pl o_nf o_ne o_rf o_re o_ac o_cm o_sd o_wf o_sm o_sf o_rm o_rs) ++ (wML g o_a m_pl m_yl m_nd m_hm m_wk m_kd) ++ (wI g (o_a 10) 29 g_f)) ++ ((wI g (o_a 12) 406 k_f))) [wO g o_a (nI 0) o_ts o_pl o_nf o_ne o_rf o_re o_ac o_cm o_sd o_wf o_sm o_sf o_rm o_rs, wML g o_a m_pl m_yl m_nd m_hm m_wk m_kd, wI g (o_a 10) 29 g_f, wI g (o_a 12) 406 k_f] [0, 1, 2, 3] rfl (by simp only [List.flatten_cons, List.flatten_nil, List.append_nil, List.append_assoc]) (by show List.flatten [wO g o_a (nI 0) o_ts o_pl o_nf o_ne o_rf o_re o_ac o_cm o_sd o_wf o_sm o_sf o_rm o_rs, wML g o_a m_pl m_yl m_nd m_hm m_wk m_kd, wI g (o_a 10) 29 g_f, wI g (o_a 12) 406 k_f] = _; simp only [List.flatten_cons, List.flatten_nil, List.append_nil, List.append_assoc]) ?_
      refine V_cVi (C := (RX6, TX6, 34)) (ci := 6) (ws' := ((wO g o_a (nI 0) o_ts o_pl o_nf o_ne o_rf o_re o_ac o_cm o_sd o_wf o_sm o_sf o_rm o_rs) ++ (wML g o_a m_pl m_yl m_nd m_hm m_wk m_kd) ++ (wI g (o_a 10) 29 g_f)) ++ ((wI g (o_a 12) 406 k_f))) (List.range _) 3 X (c_X6_canEat g l o_a (nI 0) o_ts o_pl o_nf o_ne o_rf o_re o_ac o_cm o_sd o_wf o_sm o_sf o_rm o_rs m_pl m_yl m_nd m_hm m_wk m_kd (o_a 10) g_f  a b (by omega) (by omega)) k_RX6_180 hy_X6_canEat (by decide) (range_at _ _) (range_nd _) 0 rfl rfl nX6_eat_30 rfl rfl (Nat.le_of_ble_eq_true rfl) (wput_range _ _ _ (by simp only [List.length_append, wI_len, wML_len, wO_len])) ?_
      refine V_blk (ws' := (wO g o_a (nI 0) o_ts o_pl o_nf o_ne o_rf o_re o_ac o_cm o_sd o_wf o_sm o_sf o_rm o_rs) ++ (wML g o_a m_pl m_yl m_nd m_hm m_wk m_kd) ++ (wI g (o_a 10) 29 g_f) ++ (wI g (o_a 12) 406 k_f)) [wO g o_a (nI 0) o_ts o_pl o_nf o_ne o_rf o_re o_ac o_cm o_sd o_wf o_sm o_sf o_rm o_rs, wML g o_a m_pl m_yl m_nd m_hm m_wk m_kd, wI g (o_a 10) 29 g_f, wI g (o_a 12) 406 k_f] [0, 1, 2, 3] rfl (by simp only [List.flatten_cons, List.flatten_nil, List.append_nil, List.append_assoc]) (by show List.flatten [wO g o_a (nI 0) o_ts o_pl o_nf o_ne o_rf o_re o_ac o_cm o_sd o_wf o_sm o_sf o_rm o_rs, wML g o_a m_pl m_yl m_nd m_hm m_wk m_kd, wI g (o_a 10) 29 g_f, wI g (o_a 12) 406 k_f] = _; simp only [List.flatten_cons, List.flatten_nil, List.append_nil, List.append_assoc]) ?_
      refine V_if_ne_b (tgt := 39) nX6_eat_33 rfl (fun h33 => ?_) (fun h33 => ?_)
      · skip
        refine V_aload_n nX6_eat_39 rfl ?_
        refine V_blk (ws' := ((wO g o_a (nI 0) o_ts o_pl o_nf o_ne o_rf o_re o_ac o_cm o_sd o_wf o_sm o_sf o_rm o_rs) ++ (wI g (o_a 10) 29 g_f) ++ (wI g (o_a 12) 406 k_f)) ++ ((wML g o_a m_pl m_yl m_nd m_hm m_wk m_kd))) [wO g o_a (nI 0) o_ts o_pl o_nf o_ne o_rf o_re o_ac o_cm o_sd o_wf o_sm o_sf o_rm o_rs, wML g o_a m_pl m_yl m_nd m_hm m_wk m_kd, wI g (o_a 10) 29 g_f, wI g (o_a 12) 406 k_f] [0, 2, 3, 1] rfl (by simp only [List.flatten_cons, List.flatten_nil, List.append_nil, List.append_assoc]) (by show List.flatten [wO g o_a (nI 0) o_ts o_pl o_nf o_ne o_rf o_re o_ac o_cm o_sd o_wf o_sm o_sf o_rm o_rs, wI g (o_a 10) 29 g_f, wI g (o_a 12) 406 k_f, wML g o_a m_pl m_yl m_nd m_hm m_wk m_kd] = _; simp only [List.flatten_cons, List.flatten_nil, List.append_nil, List.append_assoc]) ?_
        refine V_cVv (C := (RX6, TX6, 34)) (ci := 6) (ws' := ((wO g o_a (nI 0) o_ts o_pl o_nf o_ne o_rf o_re (rmC o_ac + 1) o_cm o_sd o_wf o_sm o_sf o_rm o_rs) ++ (wI g (o_a 10) 29 g_f) ++ (wI g (o_a 12) 406 (ntB g_f k_f o_ac))) ++ ((wML g o_a m_pl m_yl m_nd m_hm m_wk m_kd))) (List.range _) 0 X (c_X6_note g l o_a (nI 0) o_ts o_pl o_nf o_ne o_rf o_re o_ac o_cm o_sd o_wf o_sm o_sf o_rm o_rs g_f k_f   (by omega)) k_RX6_184 hy_X6_note (by decide) (range_at _ _) (range_nd _) 0 rfl rfl nX6_eat_40 rfl rfl (Nat.le_of_ble_eq_true rfl) (wput_range _ _ _ (by simp only [List.length_append, wI_len, wO_len])) ?_
        refine V_blk (ws' := (wO g o_a (nI 0) o_ts o_pl o_nf o_ne o_rf o_re (rmC o_ac + 1) o_cm o_sd o_wf o_sm o_sf o_rm o_rs) ++ (wML g o_a m_pl m_yl m_nd m_hm m_wk m_kd) ++ (wI g (o_a 10) 29 g_f) ++ (wI g (o_a 12) 406 (ntB g_f k_f o_ac))) [wO g o_a (nI 0) o_ts o_pl o_nf o_ne o_rf o_re (rmC o_ac + 1) o_cm o_sd o_wf o_sm o_sf o_rm o_rs, wI g (o_a 10) 29 g_f, wI g (o_a 12) 406 (ntB g_f k_f o_ac), wML g o_a m_pl m_yl m_nd m_hm m_wk m_kd] [0, 3, 1, 2] rfl (by simp only [List.flatten_cons, List.flatten_nil, List.append_nil, List.append_assoc]) (by show List.flatten [wO g o_a (nI 0) o_ts o_pl o_nf o_ne o_rf o_re (rmC o_ac + 1) o_cm o_sd o_wf o_sm o_sf o_rm o_rs, wML g o_a m_pl m_yl m_nd m_hm m_wk m_kd, wI g (o_a 10) 29 g_f, wI g (o_a 12) 406 (ntB g_f k_f o_ac)] = _; simp only [List.flatten_cons, List.flatten_nil, List.append_nil, List.append_assoc]) ?_
        refine V_aload_n nX6_eat_43 rfl ?_
        refine V_aload_n nX6_eat_44 rfl ?_
        refine V_get6 0 16 (by decide) f_RX6_37 nX6_eat_45 rfl rfl ?_
        refine V_iload_n nX6_eat_48 rfl ?_
        refine V_iload_n nX6_eat_49 rfl ?_
        refine V_blk (ws' := ((wO g o_a (nI 0) o_ts o_pl o_nf o_ne o_rf o_re (rmC o_ac + 1) o_cm o_sd o_wf o_sm o_sf o_rm o_rs) ++ (wML g o_a m_pl m_yl m_nd m_hm m_wk m_kd) ++ (wI g (o_a 10) 29 g_f)) ++ ((wI g (o_a 12) 406 (ntB g_f k_f o_ac)))) [wO g o_a (nI 0) o_ts o_pl o_nf o_ne o_rf o_re (rmC o_ac + 1) o_cm o_sd o_wf o_sm o_sf o_rm o_rs, wML g o_a m_pl m_yl m_nd m_hm m_wk m_kd, wI g (o_a 10) 29 g_f, wI g (o_a 12) 406 (ntB g_f k_f o_ac)] [0, 1, 2, 3] rfl (by simp only [List.flatten_cons, List.flatten_nil, List.append_nil, List.append_assoc]) (by show List.flatten [wO g o_a (nI 0) o_ts o_pl o_nf o_ne o_rf o_re (rmC o_ac + 1) o_cm o_sd o_wf o_sm o_sf o_rm o_rs, wML g o_a m_pl m_yl m_nd m_hm m_wk m_kd, wI g (o_a 10) 29 g_f, wI g (o_a 12) 406 (ntB g_f k_f o_ac)] = _; simp only [List.flatten_cons, List.flatten_nil, List.append_nil, List.append_assoc]) ?_
        refine V_cVv (C := (RX6, TX6, 34)) (ci := 6) (ws' := ((wO g o_a (nI 0) o_ts o_pl o_nf o_ne o_rf o_re (rmC o_ac + 1) o_cm o_sd o_wf o_sm o_sf o_rm o_rs) ++ (wML g o_a m_pl m_yl m_nd m_hm m_wk m_kd) ++ (wI g (o_a 10) 29 (geP m_kd g_f a b))) ++ ((wI g (o_a 12) 406 (ntB g_f k_f o_ac)))) (List.range _) 3 X (c_X6_goEat g l o_a (nI 0) o_ts o_pl o_nf o_ne o_rf o_re (rmC o_ac + 1) o_cm o_sd o_wf o_sm o_sf o_rm o_rs m_pl m_yl m_nd m_hm m_wk m_kd (o_a 10) g_f  a b (by omega) (by omega)) k_RX6_187 hy_X6_goEat (by decide) (range_at _ _) (range_nd _) 0 rfl rfl nX6_eat_50 rfl rfl (Nat.le_of_ble_eq_true rfl) (wput_range _ _ _ (by simp only [List.length_append, wI_len, wML_len, wO_len])) ?_
        refine V_blk (ws' := (wO g o_a (nI 0) o_ts o_pl o_nf o_ne o_rf o_re (rmC o_ac + 1) o_cm o_sd o_wf o_sm o_sf o_rm o_rs) ++ (wML g o_a m_pl m_yl m_nd m_hm m_wk m_kd) ++ (wI g (o_a 10) 29 (geP m_kd g_f a b)) ++ (wI g (o_a 12) 406 (ntB g_f k_f o_ac))) [wO g o_a (nI 0) o_ts o_pl o_nf o_ne o_rf o_re (rmC o_ac + 1) o_cm o_sd o_wf o_sm o_sf o_rm o_rs, wML g o_a m_pl m_yl m_nd m_hm m_wk m_kd, wI g (o_a 10) 29 (geP m_kd g_f a b), wI g (o_a 12) 406 (ntB g_f k_f o_ac)] [0, 1, 2, 3] rfl (by simp only [List.flatten_cons, List.flatten_nil, List.append_nil, List.append_assoc]) (by show List.flatten [wO g o_a (nI 0) o_ts o_pl o_nf o_ne o_rf o_re (rmC o_ac + 1) o_cm o_sd o_wf o_sm o_sf o_rm o_rs, wML g o_a m_pl m_yl m_nd m_hm m_wk m_kd, wI g (o_a 10) 29 (geP m_kd g_f a b), wI g (o_a 12) 406 (ntB g_f k_f o_ac)] = _; simp only [List.flatten_cons, List.flatten_nil, List.append_nil, List.append_assoc]) ?_
        refine V_aload_n nX6_eat_53 rfl ?_
        refine V_get6 0 16 (by decide) f_RX6_37 nX6_eat_54 rfl rfl ?_
        refine V_iload_n nX6_eat_57 rfl ?_
        refine V_iload_n nX6_eat_58 rfl ?_
        refine V_blk (ws' := ((wI g (o_a 10) 29 (geP m_kd g_f a b))) ++ ((wO g o_a (nI 0) o_ts o_pl o_nf o_ne o_rf o_re (rmC o_ac + 1) o_cm o_sd o_wf o_sm o_sf o_rm o_rs) ++ (wML g o_a m_pl m_yl m_nd m_hm m_wk m_kd) ++ (wI g (o_a 12) 406 (ntB g_f k_f o_ac)))) [wO g o_a (nI 0) o_ts o_pl o_nf o_ne o_rf o_re (rmC o_ac + 1) o_cm o_sd o_wf o_sm o_sf o_rm o_rs, wML g o_a m_pl m_yl m_nd m_hm m_wk m_kd, wI g (o_a 10) 29 (geP m_kd g_f a b), wI g (o_a 12) 406 (ntB g_f k_f o_ac)] [2, 0, 1, 3] rfl (by simp only [List.flatten_cons, List.flatten_nil, List.append_nil, List.append_assoc]) (by show List.flatten [wI g (o_a 10) 29 (geP m_kd g_f a b), wO g o_a (nI 0) o_ts o_pl o_nf o_ne o_rf o_re (rmC o_ac + 1) o_cm o_sd o_wf o_sm o_sf o_rm o_rs, wML g o_a m_pl m_yl m_nd m_hm m_wk m_kd, wI g (o_a 12) 406 (ntB g_f k_f o_ac)] = _; simp only [List.flatten_cons, List.flatten_nil, List.append_nil, List.append_assoc]) ?_
        refine V_cSi (ws' := ((wI g (o_a 10) 29 (geP m_kd g_f a b))) ++ ((wO g o_a (nI 0) o_ts o_pl o_nf o_ne o_rf o_re (rmC o_ac + 1) o_cm o_sd o_wf o_sm o_sf o_rm o_rs) ++ (wML g o_a m_pl m_yl m_nd m_hm m_wk m_kd) ++ (wI g (o_a 12) 406 (ntB g_f k_f o_ac)))) (List.range _) 3 X (c_X6_owed g l (o_a 10) (geP m_kd g_f a b)  a b (by omega) (by omega)) k_RX6_117 hy_X6_owed.2 (by decide) (range_at _ _) (range_nd _) nX6_eat_59 rfl rfl (Nat.le_of_ble_eq_true rfl) (wput_range _ _ _ (by simp only [List.length_append, wI_len])) ?_
        refine V_blk (ws' := (wO g o_a (nI 0) o_ts o_pl o_nf o_ne o_rf o_re (rmC o_ac + 1) o_cm o_sd o_wf o_sm o_sf o_rm o_rs) ++ (wML g o_a m_pl m_yl m_nd m_hm m_wk m_kd) ++ (wI g (o_a 10) 29 (geP m_kd g_f a b)) ++ (wI g (o_a 12) 406 (ntB g_f k_f o_ac))) [wI g (o_a 10) 29 (geP m_kd g_f a b), wO g o_a (nI 0) o_ts o_pl o_nf o_ne o_rf o_re (rmC o_ac + 1) o_cm o_sd o_wf o_sm o_sf o_rm o_rs, wML g o_a m_pl m_yl m_nd m_hm m_wk m_kd, wI g (o_a 12) 406 (ntB g_f k_f o_ac)] [1, 2, 0, 3] rfl (by simp only [List.flatten_cons, List.flatten_nil, List.append_nil, List.append_assoc]) (by show List.flatten [wO g o_a (nI 0) o_ts o_pl o_nf o_ne o_rf o_re (rmC o_ac + 1) o_cm o_sd o_wf o_sm o_sf o_rm o_rs, wML g o_a m_pl m_yl m_nd m_hm m_wk m_kd, wI g (o_a 10) 29 (geP m_kd g_f a b), wI g (o_a 12) 406 (ntB g_f k_f o_ac)] = _; simp only [List.flatten_cons, List.flatten_nil, List.append_nil, List.append_assoc]) ?_
        have hB : etB o_nf o_ne m_kd g_f (nI a) (nI b) = true := by simp [etB, hix_a, hp_a, hix_b, hp_b, h33]
        exact R_i rfl X hQ nX6_eat_62 (by simp only [List.map_append, wI_fst, wML_fst, wO_fst]) (⟨by simp [etM, hix_a, hp_a, hix_b, hp_b, h33], by simp only [hB, etQ, ↓reduceIte, hix_a, hix_b]⟩)
      · skip
        refine V_bipush (v := (-3)) nX6_eat_36 (by decide) ?_
        have hB : etB o_nf o_ne m_kd g_f (nI a) (nI b) = false := by simp [etB, hix_a, hp_a, hix_b, hp_b, h33]
        exact R_i rfl X hQ nX6_eat_38 (by simp only [List.map_append, wI_fst, wML_fst, wO_fst]) (⟨by simp [etM, hix_a, hp_a, hix_b, hp_b, h33], by simp only [hB, etQ, Bool.false_eq_true, ↓reduceIte]⟩)
    · skip
      have hn_b : hasN o_nf f = false := by rw [Bool.not_eq_true'] at h18; exact h18
      refine V_iconst (v := (-1)) nX6_eat_21 (by decide) ?_
      have hB : etB o_nf o_ne m_kd g_f (nI a) f = false := by simp [etB, hix_a, hp_a, hn_b]
      exact R_i rfl X hQ nX6_eat_22 (by simp only [List.map_append, wI_fst, wML_fst, wO_fst]) (⟨by simp [etM, hix_a, hp_a, hn_b], by simp only [hB, etQ, Bool.false_eq_true, ↓reduceIte]⟩)

set_option maxHeartbeats 4000000 in
set_option maxRecDepth 100000 in
theorem c_X6_cake (g : Gx) (l : Launch) (o_a : Nat → Nat) (o_th : Int32) (o_ts : Nat) (o_pl : Nat) (o_nf : Nat) (o_ne : Nat) (o_rf : Nat) (o_re : Nat) (o_ac : Nat) (o_cm : Nat) (o_sd : Int64) (o_wf : Int32) (o_sm : Int32) (o_sf : Int32) (o_rm : Int32) (o_rs : Int32) (m_pl : Nat → Int32) (m_yl : Nat → Int32) (m_nd : Nat → Int32) (m_hm : Nat → Int32) (m_wk : Nat → Int32) (m_kd : Nat → Int32) (g_f : Nat → Int32) (k_f : Nat → Int32)  (e : Int32) (f : Int32) (h : Int32) (hnf : o_nf ≤ 4) (hne : o_ne ≤ 5) (hac : o_ac ≤ 14) : Cd g l yX6_cake mX6_cake ({ frames := 3, cells := 0, slots := 0, locals := 66 } : Room) [.ref (o_a 0), .int e, .int f, .int h] ((wO g o_a o_th o_ts o_pl o_nf o_ne o_rf o_re o_ac o_cm o_sd o_wf o_sm o_sf o_rm o_rs) ++ (wML g o_a m_pl m_yl m_nd m_hm m_wk m_kd) ++ (wI g (o_a 10) 29 g_f) ++ (wI g (o_a 12) 406 k_f)) (some (.int (ckMR o_nf o_ne m_kd g_f e f h))) ((wO g o_a (nI 0) o_ts o_pl o_nf o_ne o_rf o_re (if ckMB o_nf o_ne m_kd g_f e f h = true then rmC o_ac + 1 else o_ac) o_cm o_sd o_wf o_sm o_sf o_rm o_rs) ++ (wML g o_a m_pl m_yl m_nd m_hm m_wk m_kd) ++ (wI g (o_a 10) 29 (ckMQ o_nf o_ne m_kd g_f e f h)) ++ (wI g (o_a 12) 406 (if ckMB o_nf o_ne m_kd g_f e f h = true then ntB g_f k_f o_ac else k_f))) := by
  refine Ct.of (lv := [(0, .ref (o_a 0)), (1, .int e), (2, .int f), (3, .int h)]) ⟨by decide +kernel, rfl, Nat.le_of_ble_eq_true rfl⟩ rfl (fun E A sz Q X hQ => ?_)
  refine V_aload_n nX6_cake_0 rfl ?_
  refine V_iconst (v := (nI 0)) nX6_cake_1 rfl ?_
  refine V_put6 (ws' := (wO g o_a (nI 0) o_ts o_pl o_nf o_ne o_rf o_re o_ac o_cm o_sd o_wf o_sm o_sf o_rm o_rs) ++ (wML g o_a m_pl m_yl m_nd m_hm m_wk m_kd) ++ (wI g (o_a 10) 29 g_f) ++ (wI g (o_a 12) 406 k_f)) 0 0 (by decide) f_RX6_68 rfl rfl rfl rfl nX6_cake_2 rfl (Nat.le_of_ble_eq_true rfl) rfl ?_
  refine V_aload_n nX6_cake_5 rfl ?_
  refine V_iload_n nX6_cake_6 rfl ?_
  refine V_blk (ws' := ((wO g o_a (nI 0) o_ts o_pl o_nf o_ne o_rf o_re o_ac o_cm o_sd o_wf o_sm o_sf o_rm o_rs)) ++ ((wML g o_a m_pl m_yl m_nd m_hm m_wk m_kd) ++ (wI g (o_a 10) 29 g_f) ++ (wI g (o_a 12) 406 k_f))) [wO g o_a (nI 0) o_ts o_pl o_nf o_ne o_rf o_re o_ac o_cm o_sd o_wf o_sm o_sf o_rm o_rs, wML g o_a m_pl m_yl m_nd m_hm m_wk m_kd, wI g (o_a 10) 29 g_f, wI g (o_a 12) 406 k_f] [0, 1, 2, 3] rfl (by simp only [List.flatten_cons, List.flatten_nil, List.append_nil, List.append_assoc]) (by show List.flatten [wO g o_a (nI 0) o_ts o_pl o_nf o_ne o_rf o_re o_ac o_cm o_sd o_wf o_sm o_sf o_rm o_rs, wML g o_a m_pl m_yl m_nd m_hm m_wk m_kd, wI g (o_a 10) 29 g_f, wI g (o_a 12) 406 k_f] = _; simp only [List.flatten_cons, List.flatten_nil, List.append_nil, List.append_assoc]) ?_
  refine V_cVi (C := (RX6, TX6, 34)) (ci := 6) (ws' := ((wO g o_a (nI 0) o_ts o_pl o_nf o_ne o_rf o_re o_ac o_cm o_sd o_wf o_sm o_sf o_rm o_rs)) ++ ((wML g o_a m_pl m_yl m_nd m_hm m_wk m_kd) ++ (wI g (o_a 10) 29 g_f) ++ (wI g (o_a 12) 406 k_f))) (List.range _) 1 X (c_X6_noEater g l o_a (nI 0) o_ts o_pl o_nf o_ne o_rf o_re o_ac o_cm o_sd o_wf o_sm o_sf o_rm o_rs  e (by omega)) k_RX6_174 hy_X6_noEater (by decide) (range_at _ _) (range_nd _) 0 rfl rfl nX6_cake_7 rfl rfl (Nat.le_of_ble_eq_true rfl) (wput_range _ _ _ (by simp only [List.length_append, wO_len])) ?_
  refine V_blk (ws' := (wO g o_a (nI 0) o_ts o_pl o_nf o_ne o_rf o_re o_ac o_cm o_sd o_wf o_sm o_sf o_rm o_rs) ++ (wML g o_a m_pl m_yl m_nd m_hm m_wk m_kd) ++ (wI g (o_a 10) 29 g_f) ++ (wI g (o_a 12) 406 k_f)) [wO g o_a (nI 0) o_ts o_pl o_nf o_ne o_rf o_re o_ac o_cm o_sd o_wf o_sm o_sf o_rm o_rs, wML g o_a m_pl m_yl m_nd m_hm m_wk m_kd, wI g (o_a 10) 29 g_f, wI g (o_a 12) 406 k_f] [0, 1, 2, 3] rfl (by simp only [List.flatten_cons, List.flatten_nil, List.append_nil, List.append_assoc]) (by show List.flatten [wO g o_a (nI 0) o_ts o_pl o_nf o_ne o_rf o_re o_ac o_cm o_sd o_wf o_sm o_sf o_rm o_rs, wML g o_a m_pl m_yl m_nd m_hm m_wk m_kd, wI g (o_a 10) 29 g_f, wI g (o_a 12) 406 k_f] = _; simp only [List.flatten_cons, List.flatten_nil, List.append_nil, List.append_assoc]) ?_
  refine V_if_ne_b (tgt := 29) nX6_cake_10 rfl (fun h10 => ?_) (fun h10 => ?_)
  · skip
    have hn_a : hasN o_ne e = false := by rw [Bool.not_eq_true'] at h10; exact h10
    refine V_iconst (v := (-1)) nX6_cake_29 (by decide) ?_
    have hB : ckMB o_nf o_ne m_kd g_f e f h = false := by simp [ckMB, hn_a]
    exact R_i rfl X hQ nX6_cake_30 (by simp only [List.map_append, wI_fst, wML_fst, wO_fst]) (⟨by simp [ckMR, hn_a], by simp only [hB, ckMQ, Bool.false_eq_true, ↓reduceIte]⟩)
  · skip
    obtain ⟨a, hf_a, rfl⟩ := nhas h10 (by omega)
    have hix_a : ix (nI a) = a := ix_nI (by omega)
    have hp_a : hasN o_ne (nI a) = true := by rw [Bool.not_eq_false'] at h10; exact h10
    refine V_aload_n nX6_cake_13 rfl ?_
    refine V_iload_n nX6_cake_14 rfl ?_
    refine V_blk (ws' := ((wO g o_a (nI 0) o_ts o_pl o_nf o_ne o_rf o_re o_ac o_cm o_sd o_wf o_sm o_sf o_rm o_rs)) ++ ((wML g o_a m_pl m_yl m_nd m_hm m_wk m_kd) ++ (wI g (o_a 10) 29 g_f) ++ (wI g (o_a 12) 406 k_f))) [wO g o_a (nI 0) o_ts o_pl o_nf o_ne o_rf o_re o_ac o_cm o_sd o_wf o_sm o_sf o_rm o_rs, wML g o_a m_pl m_yl m_nd m_hm m_wk m_kd, wI g (o_a 10) 29 g_f, wI g (o_a 12) 406 k_f] [0, 1, 2, 3] rfl (by simp only [List.flatten_cons, List.flatten_nil, List.append_nil, List.append_assoc]) (by show List.flatten [wO g o_a (nI 0) o_ts o_pl o_nf o_ne o_rf o_re o_ac o_cm o_sd o_wf o_sm o_sf o_rm o_rs, wML g o_a m_pl m_yl m_nd m_hm m_wk m_kd, wI g (o_a 10) 29 g_f, wI g (o_a 12) 406 k_f] = _; simp only [List.flatten_cons, List.flatten_nil, List.append_nil, List.append_assoc]) ?_
    refine V_cVi (C := (RX6, TX6, 34)) (ci := 6) (ws' := ((wO g o_a (nI 0) o_ts o_pl o_nf o_ne o_rf o_re o_ac o_cm o_sd o_wf o_sm o_sf o_rm o_rs)) ++ ((wML g o_a m_pl m_yl m_nd m_hm m_wk m_kd) ++ (wI g (o_a 10) 29 g_f) ++ (wI g (o_a 12) 406 k_f))) (List.range _) 1 X (c_X6_noField g l o_a (nI 0) o_ts o_pl o_nf o_ne o_rf o_re o_ac o_cm o_sd o_wf o_sm o_sf o_rm o_rs  f (by omega)) k_RX6_167 hy_X6_noField (by decide) (range_at _ _) (range_nd _) 0 rfl rfl nX6_cake_15 rfl rfl (Nat.le_of_ble_eq_true rfl) (wput_range _ _ _ (by simp only [List.length_append, wO_len])) ?_
    refine V_blk (ws' := (wO g o_a (nI 0) o_ts o_pl o_nf o_ne o_rf o_re o_ac o_cm o_sd o_wf o_sm o_sf o_rm o_rs) ++ (wML g o_a m_pl m_yl m_nd m_hm m_wk m_kd) ++ (wI g (o_a 10) 29 g_f) ++ (wI g (o_a 12) 406 k_f)) [wO g o_a (nI 0) o_ts o_pl o_nf o_ne o_rf o_re o_ac o_cm o_sd o_wf o_sm o_sf o_rm o_rs, wML g o_a m_pl m_yl m_nd m_hm m_wk m_kd, wI g (o_a 10) 29 g_f, wI g (o_a 12) 406 k_f] [0, 1, 2, 3] rfl (by simp only [List.flatten_cons, List.flatten_nil, List.append_nil, List.append_assoc]) (by show List.flatten [wO g o_a (nI 0) o_ts o_pl o_nf o_ne o_rf o_re o_ac o_cm o_sd o_wf o_sm o_sf o_rm o_rs, wML g o_a m_pl m_yl m_nd m_hm m_wk m_kd, wI g (o_a 10) 29 g_f, wI g (o_a 12) 406 k_f] = _; simp only [List.flatten_cons, List.flatten_nil, List.append_nil, List.append_assoc]) ?_
    refine V_if_ne_b (tgt := 29) nX6_cake_18 rfl (fun h18 => ?_) (fun h18 => ?_)
    · skip
      have hn_b : hasN o_nf f = false := by rw [Bool.not_eq_true'] at h18; exact h18
      refine V_iconst (v := (-1)) nX6_cake_29 (by decide) ?_
      have hB : ckMB o_nf o_ne m_kd g_f (nI a) f h = false := by simp [ckMB, hix_a, hp_a, hn_b]
      exact R_i rfl X hQ nX6_cake_30 (by simp only [List.map_append, wI_fst, wML_fst, wO_fst]) (⟨by simp [ckMR, hix_a, hp_a, hn_b], by simp only [hB, ckMQ, Bool.false_eq_true, ↓reduceIte]⟩)
    · skip
      obtain ⟨b, hf_b, rfl⟩ := nhas h18 (by omega)
      have hix_b : ix (nI b) = b := ix_nI (by omega)
      have hp_b : hasN o_nf (nI b) = true := by rw [Bool.not_eq_false'] at h18; exact h18
      refine V_aload_n nX6_cake_21 rfl ?_
      refine V_iload_n nX6_cake_22 rfl ?_
      refine V_blk (ws' := ((wO g o_a (nI 0) o_ts o_pl o_nf o_ne o_rf o_re o_ac o_cm o_sd o_wf o_sm o_sf o_rm o_rs)) ++ ((wML g o_a m_pl m_yl m_nd m_hm m_wk m_kd) ++ (wI g (o_a 10) 29 g_f) ++ (wI g (o_a 12) 406 k_f))) [wO g o_a (nI 0) o_ts o_pl o_nf o_ne o_rf o_re o_ac o_cm o_sd o_wf o_sm o_sf o_rm o_rs, wML g o_a m_pl m_yl m_nd m_hm m_wk m_kd, wI g (o_a 10) 29 g_f, wI g (o_a 12) 406 k_f] [0, 1, 2, 3] rfl (by simp only [List.flatten_cons, List.flatten_nil, List.append_nil, List.append_assoc]) (by show List.flatten [wO g o_a (nI 0) o_ts o_pl o_nf o_ne o_rf o_re o_ac o_cm o_sd o_wf o_sm o_sf o_rm o_rs, wML g o_a m_pl m_yl m_nd m_hm m_wk m_kd, wI g (o_a 10) 29 g_f, wI g (o_a 12) 406 k_f] = _; simp only [List.flatten_cons, List.flatten_nil, List.append_nil, List.append_assoc]) ?_
      refine V_cVi (C := (RX6, TX6, 34)) (ci := 6) (ws' := ((wO g o_a (nI 0) o_ts o_pl o_nf o_ne o_rf o_re o_ac o_cm o_sd o_wf o_sm o_sf o_rm o_rs)) ++ ((wML g o_a m_pl m_yl m_nd m_hm m_wk m_kd) ++ (wI g (o_a 10) 29 g_f) ++ (wI g (o_a 12) 406 k_f))) (List.range _) 1 X (c_X6_noField g l o_a (nI 0) o_ts o_pl o_nf o_ne o_rf o_re o_ac o_cm o_sd o_wf o_sm o_sf o_rm o_rs  h (by omega)) k_RX6_167 hy_X6_noField (by decide) (range_at _ _) (range_nd _) 0 rfl rfl nX6_cake_23 rfl rfl (Nat.le_of_ble_eq_true rfl) (wput_range _ _ _ (by simp only [List.length_append, wO_len])) ?_
      refine V_blk (ws' := (wO g o_a (nI 0) o_ts o_pl o_nf o_ne o_rf o_re o_ac o_cm o_sd o_wf o_sm o_sf o_rm o_rs) ++ (wML g o_a m_pl m_yl m_nd m_hm m_wk m_kd) ++ (wI g (o_a 10) 29 g_f) ++ (wI g (o_a 12) 406 k_f)) [wO g o_a (nI 0) o_ts o_pl o_nf o_ne o_rf o_re o_ac o_cm o_sd o_wf o_sm o_sf o_rm o_rs, wML g o_a m_pl m_yl m_nd m_hm m_wk m_kd, wI g (o_a 10) 29 g_f, wI g (o_a 12) 406 k_f] [0, 1, 2, 3] rfl (by simp only [List.flatten_cons, List.flatten_nil, List.append_nil, List.append_assoc]) (by show List.flatten [wO g o_a (nI 0) o_ts o_pl o_nf o_ne o_rf o_re o_ac o_cm o_sd o_wf o_sm o_sf o_rm o_rs, wML g o_a m_pl m_yl m_nd m_hm m_wk m_kd, wI g (o_a 10) 29 g_f, wI g (o_a 12) 406 k_f] = _; simp only [List.flatten_cons, List.flatten_nil, List.append_nil, List.append_assoc]) ?_
      refine V_if_eq_b (tgt := 31) nX6_cake_26 rfl (fun h26 => ?_) (fun h26 => ?_)
      · skip
        obtain ⟨d, hf_d, rfl⟩ := nhas h26 (by omega)
        have hix_d : ix (nI d) = d := ix_nI (by omega)
        have hp_d : hasN o_nf (nI d) = true := by rw [Bool.not_eq_false'] at h26; exact h26
        refine V_iload_n nX6_cake_31 rfl ?_
        refine V_iload_n nX6_cake_32 rfl ?_
        refine V_icmp_ne_N (tgt := 39) nX6_cake_33 rfl (by omega) (by omega) (fun h33 => ?_) (fun h33 => ?_)
        · skip
          have hbd : ¬ nI b = nI d := fun q => h33 ((nI_eq (by omega) (by omega)).mp q)
          refine V_aload_n nX6_cake_39 rfl ?_
          refine V_aload_n nX6_cake_40 rfl ?_
          refine V_get6 0 16 (by decide) f_RX6_37 nX6_cake_41 rfl rfl ?_
          refine V_iload_n nX6_cake_44 rfl ?_
          refine V_iload_n nX6_cake_45 rfl ?_
          refine V_blk (ws' := ((wO g o_a (nI 0) o_ts o_pl o_nf o_ne o_rf o_re o_ac o_cm o_sd o_wf o_sm o_sf o_rm o_rs) ++ (wML g o_a m_pl m_yl m_nd m_hm m_wk m_kd) ++ (wI g (o_a 10) 29 g_f)) ++ ((wI g (o_a 12) 406 k_f))) [wO g o_a (nI 0) o_ts o_pl o_nf o_ne o_rf o_re o_ac o_cm o_sd o_wf o_sm o_sf o_rm o_rs, wML g o_a m_pl m_yl m_nd m_hm m_wk m_kd, wI g (o_a 10) 29 g_f, wI g (o_a 12) 406 k_f] [0, 1, 2, 3] rfl (by simp only [List.flatten_cons, List.flatten_nil, List.append_nil, List.append_assoc]) (by show List.flatten [wO g o_a (nI 0) o_ts o_pl o_nf o_ne o_rf o_re o_ac o_cm o_sd o_wf o_sm o_sf o_rm o_rs, wML g o_a m_pl m_yl m_nd m_hm m_wk m_kd, wI g (o_a 10) 29 g_f, wI g (o_a 12) 406 k_f] = _; simp only [List.flatten_cons, List.flatten_nil, List.append_nil, List.append_assoc]) ?_
          refine V_cVi (C := (RX6, TX6, 34)) (ci := 6) (ws' := ((wO g o_a (nI 0) o_ts o_pl o_nf o_ne o_rf o_re o_ac o_cm o_sd o_wf o_sm o_sf o_rm o_rs) ++ (wML g o_a m_pl m_yl m_nd m_hm m_wk m_kd) ++ (wI g (o_a 10) 29 g_f)) ++ ((wI g (o_a 12) 406 k_f))) (List.range _) 3 X (c_X6_canEat g l o_a (nI 0) o_ts o_pl o_nf o_ne o_rf o_re o_ac o_cm o_sd o_wf o_sm o_sf o_rm o_rs m_pl m_yl m_nd m_hm m_wk m_kd (o_a 10) g_f  a b (by omega) (by omega)) k_RX6_180 hy_X6_canEat (by decide) (range_at _ _) (range_nd _) 0 rfl rfl nX6_cake_46 rfl rfl (Nat.le_of_ble_eq_true rfl) (wput_range _ _ _ (by simp only [List.length_append, wI_len, wML_len, wO_len])) ?_
          refine V_blk (ws' := (wO g o_a (nI 0) o_ts o_pl o_nf o_ne o_rf o_re o_ac o_cm o_sd o_wf o_sm o_sf o_rm o_rs) ++ (wML g o_a m_pl m_yl m_nd m_hm m_wk m_kd) ++ (wI g (o_a 10) 29 g_f) ++ (wI g (o_a 12) 406 k_f)) [wO g o_a (nI 0) o_ts o_pl o_nf o_ne o_rf o_re o_ac o_cm o_sd o_wf o_sm o_sf o_rm o_rs, wML g o_a m_pl m_yl m_nd m_hm m_wk m_kd, wI g (o_a 10) 29 g_f, wI g (o_a 12) 406 k_f] [0, 1, 2, 3] rfl (by simp only [List.flatten_cons, List.flatten_nil, List.append_nil, List.append_assoc]) (by show List.flatten [wO g o_a (nI 0) o_ts o_pl o_nf o_ne o_rf o_re o_ac o_cm o_sd o_wf o_sm o_sf o_rm o_rs, wML g o_a m_pl m_yl m_nd m_hm m_wk m_kd, wI g (o_a 10) 29 g_f, wI g (o_a 12) 406 k_f] = _; simp only [List.flatten_cons, List.flatten_nil, List.append_nil, List.append_assoc]) ?_
          refine V_if_eq_b (tgt := 65) nX6_cake_49 rfl (fun h49 => ?_) (fun h49 => ?_)
          · skip
            refine V_bipush (v := (-3)) nX6_cake_65 (by decide) ?_
            have hB : ckMB o_nf o_ne m_kd g_f (nI a) (nI b) (nI d) = false := by simp [ckMB, hix_a, hp_a, hix_b, hp_b, hix_d, hp_d, h33, hbd, h49]
            exact R_i rfl X hQ nX6_cake_67 (by simp only [List.map_append, wI_fst, wML_fst, wO_fst]) (⟨by simp [ckMR, hix_a, hp_a, hix_b, hp_b, hix_d, hp_d, h33, hbd, h49], by simp only [hB, ckMQ, Bool.false_eq_true, ↓reduceIte]⟩)
          · skip
            refine V_aload_n nX6_cake_52 rfl ?_
            refine V_aload_n nX6_cake_53 rfl ?_
            refine V_get6 0 16 (by decide) f_RX6_37 nX6_cake_54 rfl rfl ?_
            refine V_iload_n nX6_cake_57 rfl ?_
            refine V_iload_n nX6_cake_58 rfl ?_
            refine V_blk (ws' := ((wO g o_a (nI 0) o_ts o_pl o_nf o_ne o_rf o_re o_ac o_cm o_sd o_wf o_sm o_sf o_rm o_rs) ++ (wML g o_a m_pl m_yl m_nd m_hm m_wk m_kd) ++ (wI g (o_a 10) 29 g_f)) ++ ((wI g (o_a 12) 406 k_f))) [wO g o_a (nI 0) o_ts o_pl o_nf o_ne o_rf o_re o_ac o_cm o_sd o_wf o_sm o_sf o_rm o_rs, wML g o_a m_pl m_yl m_nd m_hm m_wk m_kd, wI g (o_a 10) 29 g_f, wI g (o_a 12) 406 k_f] [0, 1, 2, 3] rfl (by simp only [List.flatten_cons, List.flatten_nil, List.append_nil, List.append_assoc]) (by show List.flatten [wO g o_a (nI 0) o_ts o_pl o_nf o_ne o_rf o_re o_ac o_cm o_sd o_wf o_sm o_sf o_rm o_rs, wML g o_a m_pl m_yl m_nd m_hm m_wk m_kd, wI g (o_a 10) 29 g_f, wI g (o_a 12) 406 k_f] = _; simp only [List.flatten_cons, List.flatten_nil, List.append_nil, List.append_assoc]) ?_
            refine V_cVi (C := (RX6, TX6, 34)) (ci := 6) (ws' := ((wO g o_a (nI 0) o_ts o_pl o_nf o_ne o_rf o_re o_ac o_cm o_sd o_wf o_sm o_sf o_rm o_rs) ++ (wML g o_a m_pl m_yl m_nd m_hm m_wk m_kd) ++ (wI g (o_a 10) 29 g_f)) ++ ((wI g (o_a 12) 406 k_f))) (List.range _) 3 X (c_X6_canEat g l o_a (nI 0) o_ts o_pl o_nf o_ne o_rf o_re o_ac o_cm o_sd o_wf o_sm o_sf o_rm o_rs m_pl m_yl m_nd m_hm m_wk m_kd (o_a 10) g_f  a d (by omega) (by omega)) k_RX6_180 hy_X6_canEat (by decide) (range_at _ _) (range_nd _) 0 rfl rfl nX6_cake_59 rfl rfl (Nat.le_of_ble_eq_true rfl) (wput_range _ _ _ (by simp only [List.length_append, wI_len, wML_len, wO_len])) ?_
            refine V_blk (ws' := (wO g o_a (nI 0) o_ts o_pl o_nf o_ne o_rf o_re o_ac o_cm o_sd o_wf o_sm o_sf o_rm o_rs) ++ (wML g o_a m_pl m_yl m_nd m_hm m_wk m_kd) ++ (wI g (o_a 10) 29 g_f) ++ (wI g (o_a 12) 406 k_f)) [wO g o_a (nI 0) o_ts o_pl o_nf o_ne o_rf o_re o_ac o_cm o_sd o_wf o_sm o_sf o_rm o_rs, wML g o_a m_pl m_yl m_nd m_hm m_wk m_kd, wI g (o_a 10) 29 g_f, wI g (o_a 12) 406 k_f] [0, 1, 2, 3] rfl (by simp only [List.flatten_cons, List.flatten_nil, List.append_nil, List.append_assoc]) (by show List.flatten [wO g o_a (nI 0) o_ts o_pl o_nf o_ne o_rf o_re o_ac o_cm o_sd o_wf o_sm o_sf o_rm o_rs, wML g o_a m_pl m_yl m_nd m_hm m_wk m_kd, wI g (o_a 10) 29 g_f, wI g (o_a 12) 406 k_f] = _; simp only [List.flatten_cons, List.flatten_nil, List.append_nil, List.append_assoc]) ?_
            refine V_if_ne_b (tgt := 68) nX6_cake_62 rfl (fun h62 => ?_) (fun h62 => ?_)
            · skip
              refine V_aload_n nX6_cake_68 rfl ?_
              refine V_blk (ws' := ((wO g o_a (nI 0) o_ts o_pl o_nf o_ne o_rf o_re o_ac o_cm o_sd o_wf o_sm o_sf o_rm o_rs) ++ (wI g (o_a 10) 29 g_f) ++ (wI g (o_a 12) 406 k_f)) ++ ((wML g o_a m_pl m_yl m_nd m_hm m_wk m_kd))) [wO g o_a (nI 0) o_ts o_pl o_nf o_ne o_rf o_re o_ac o_cm o_sd o_wf o_sm o_sf o_rm o_rs, wML g o_a m_pl m_yl m_nd m_hm m_wk m_kd, wI g (o_a 10) 29 g_f, wI g (o_a 12) 406 k_f] [0, 2, 3, 1] rfl (by simp only [List.flatten_cons, List.flatten_nil, List.append_nil, List.append_assoc]) (by show List.flatten [wO g o_a (nI 0) o_ts o_pl o_nf o_ne o_rf o_re o_ac o_cm o_sd o_wf o_sm o_sf o_rm o_rs, wI g (o_a 10) 29 g_f, wI g (o_a 12) 406 k_f, wML g o_a m_pl m_yl m_nd m_hm m_wk m_kd] = _; simp only [List.flatten_cons, List.flatten_nil, List.append_nil, List.append_assoc]) ?_
              refine V_cVv (C := (RX6, TX6, 34)) (ci := 6) (ws' := ((wO g o_a (nI 0) o_ts o_pl o_nf o_ne o_rf o_re (rmC o_ac + 1) o_cm o_sd o_wf o_sm o_sf o_rm o_rs) ++ (wI g (o_a 10) 29 g_f) ++ (wI g (o_a 12) 406 (ntB g_f k_f o_ac))) ++ ((wML g o_a m_pl m_yl m_nd m_hm m_wk m_kd))) (List.range _) 0 X (c_X6_note g l o_a (nI 0) o_ts o_pl o_nf o_ne o_rf o_re o_ac o_cm o_sd o_wf o_sm o_sf o_rm o_rs g_f k_f   (by omega)) k_RX6_184 hy_X6_note (by decide) (range_at _ _) (range_nd _) 0 rfl rfl nX6_cake_69 rfl rfl (Nat.le_of_ble_eq_true rfl) (wput_range _ _ _ (by simp only [List.length_append, wI_len, wO_len])) ?_
              refine V_blk (ws' := (wO g o_a (nI 0) o_ts o_pl o_nf o_ne o_rf o_re (rmC o_ac + 1) o_cm o_sd o_wf o_sm o_sf o_rm o_rs) ++ (wML g o_a m_pl m_yl m_nd m_hm m_wk m_kd) ++ (wI g (o_a 10) 29 g_f) ++ (wI g (o_a 12) 406 (ntB g_f k_f o_ac))) [wO g o_a (nI 0) o_ts o_pl o_nf o_ne o_rf o_re (rmC o_ac + 1) o_cm o_sd o_wf o_sm o_sf o_rm o_rs, wI g (o_a 10) 29 g_f, wI g (o_a 12) 406 (ntB g_f k_f o_ac), wML g o_a m_pl m_yl m_nd m_hm m_wk m_kd] [0, 3, 1, 2] rfl (by simp only [List.flatten_cons, List.flatten_nil, List.append_nil, List.append_assoc]) (by show List.flatten [wO g o_a (nI 0) o_ts o_pl o_nf o_ne o_rf o_re (rmC o_ac + 1) o_cm o_sd o_wf o_sm o_sf o_rm o_rs, wML g o_a m_pl m_yl m_nd m_hm m_wk m_kd, wI g (o_a 10) 29 g_f, wI g (o_a 12) 406 (ntB g_f k_f o_ac)] = _; simp only [List.flatten_cons, List.flatten_nil, List.append_nil, List.append_assoc]) ?_
              refine V_aload_n nX6_cake_72 rfl ?_
              refine V_aload_n nX6_cake_73 rfl ?_
              refine V_get6 0 16 (by decide) f_RX6_37 nX6_cake_74 rfl rfl ?_
              refine V_iload_n nX6_cake_77 rfl ?_
              refine V_iload_n nX6_cake_78 rfl ?_
              refine V_blk (ws' := ((wO g o_a (nI 0) o_ts o_pl o_nf o_ne o_rf o_re (rmC o_ac + 1) o_cm o_sd o_wf o_sm o_sf o_rm o_rs) ++ (wML g o_a m_pl m_yl m_nd m_hm m_wk m_kd) ++ (wI g (o_a 10) 29 g_f)) ++ ((wI g (o_a 12) 406 (ntB g_f k_f o_ac)))) [wO g o_a (nI 0) o_ts o_pl o_nf o_ne o_rf o_re (rmC o_ac + 1) o_cm o_sd o_wf o_sm o_sf o_rm o_rs, wML g o_a m_pl m_yl m_nd m_hm m_wk m_kd, wI g (o_a 10) 29 g_f, wI g (o_a 12) 406 (ntB g_f k_f o_ac)] [0, 1, 2, 3] rfl (by simp only [List.flatten_cons, List.flatten_nil, List.append_nil, List.append_assoc]) (by show List.flatten [wO g o_a (nI 0) o_ts o_pl o_nf o_ne o_rf o_re (rmC o_ac + 1) o_cm o_sd o_wf o_sm o_sf o_rm o_rs, wML g o_a m_pl m_yl m_nd m_hm m_wk m_kd, wI g (o_a 10) 29 g_f, wI g (o_a 12) 406 (ntB g_f k_f o_ac)] = _; simp only [List.flatten_cons, List.flatten_nil, List.append_nil, List.append_assoc]) ?_
              refine V_cVv (C := (RX6, TX6, 34)) (ci := 6) (ws' := ((wO g o_a (nI 0) o_ts o_pl o_nf o_ne o_rf o_re (rmC o_ac + 1) o_cm o_sd o_wf o_sm o_sf o_rm o_rs) ++ (wML g o_a m_pl m_yl m_nd m_hm m_wk m_kd) ++ (wI g (o_a 10) 29 (geP m_kd g_f a b))) ++ ((wI g (o_a 12) 406 (ntB g_f k_f o_ac)))) (List.range _) 3 X (c_X6_goEat g l o_a (nI 0) o_ts o_pl o_nf o_ne o_rf o_re (rmC o_ac + 1) o_cm o_sd o_wf o_sm o_sf o_rm o_rs m_pl m_yl m_nd m_hm m_wk m_kd (o_a 10) g_f  a b (by omega) (by omega)) k_RX6_187 hy_X6_goEat (by decide) (range_at _ _) (range_nd _) 0 rfl rfl nX6_cake_79 rfl rfl (Nat.le_of_ble_eq_true rfl) (wput_range _ _ _ (by simp only [List.length_append, wI_len, wML_len, wO_len])) ?_
              refine V_blk (ws' := (wO g o_a (nI 0) o_ts o_pl o_nf o_ne o_rf o_re (rmC o_ac + 1) o_cm o_sd o_wf o_sm o_sf o_rm o_rs) ++ (wML g o_a m_pl m_yl m_nd m_hm m_wk m_kd) ++ (wI g (o_a 10) 29 (geP m_kd g_f a b)) ++ (wI g (o_a 12) 406 (ntB g_f k_f o_ac))) [wO g o_a (nI 0) o_ts o_pl o_nf o_ne o_rf o_re (rmC o_ac + 1) o_cm o_sd o_wf o_sm o_sf o_rm o_rs, wML g o_a m_pl m_yl m_nd m_hm m_wk m_kd, wI g (o_a 10) 29 (geP m_kd g_f a b), wI g (o_a 12) 406 (ntB g_f k_f o_ac)] [0, 1, 2, 3] rfl (by simp only [List.flatten_cons, List.flatten_nil, List.append_nil, List.append_assoc]) (by show List.flatten [wO g o_a (nI 0) o_ts o_pl o_nf o_ne o_rf o_re (rmC o_ac + 1) o_cm o_sd o_wf o_sm o_sf o_rm o_rs, wML g o_a m_pl m_yl m_nd m_hm m_wk m_kd, wI g (o_a 10) 29 (geP m_kd g_f a b), wI g (o_a 12) 406 (ntB g_f k_f o_ac)] = _; simp only [List.flatten_cons, List.flatten_nil, List.append_nil, List.append_assoc]) ?_
              refine V_aload_n nX6_cake_82 rfl ?_
              refine V_aload_n nX6_cake_83 rfl ?_
              refine V_get6 0 16 (by decide) f_RX6_37 nX6_cake_84 rfl rfl ?_
              refine V_iload_n nX6_cake_87 rfl ?_
              refine V_iload_n nX6_cake_88 rfl ?_
              refine V_blk (ws' := ((wO g o_a (nI 0) o_ts o_pl o_nf o_ne o_rf o_re (rmC o_ac + 1) o_cm o_sd o_wf o_sm o_sf o_rm o_rs) ++ (wML g o_a m_pl m_yl m_nd m_hm m_wk m_kd) ++ (wI g (o_a 10) 29 (geP m_kd g_f a b))) ++ ((wI g (o_a 12) 406 (ntB g_f k_f o_ac)))) [wO g o_a (nI 0) o_ts o_pl o_nf o_ne o_rf o_re (rmC o_ac + 1) o_cm o_sd o_wf o_sm o_sf o_rm o_rs, wML g o_a m_pl m_yl m_nd m_hm m_wk m_kd, wI g (o_a 10) 29 (geP m_kd g_f a b), wI g (o_a 12) 406 (ntB g_f k_f o_ac)] [0, 1, 2, 3] rfl (by simp only [List.flatten_cons, List.flatten_nil, List.append_nil, List.append_assoc]) (by show List.flatten [wO g o_a (nI 0) o_ts o_pl o_nf o_ne o_rf o_re (rmC o_ac + 1) o_cm o_sd o_wf o_sm o_sf o_rm o_rs, wML g o_a m_pl m_yl m_nd m_hm m_wk m_kd, wI g (o_a 10) 29 (geP m_kd g_f a b), wI g (o_a 12) 406 (ntB g_f k_f o_ac)] = _; simp only [List.flatten_cons, List.flatten_nil, List.append_nil, List.append_assoc]) ?_
              refine V_cVv (C := (RX6, TX6, 34)) (ci := 6) (ws' := ((wO g o_a (nI 0) o_ts o_pl o_nf o_ne o_rf o_re (rmC o_ac + 1) o_cm o_sd o_wf o_sm o_sf o_rm o_rs) ++ (wML g o_a m_pl m_yl m_nd m_hm m_wk m_kd) ++ (wI g (o_a 10) 29 (geP m_kd (geP m_kd g_f a b) a d))) ++ ((wI g (o_a 12) 406 (ntB g_f k_f o_ac)))) (List.range _) 3 X (c_X6_goEat g l o_a (nI 0) o_ts o_pl o_nf o_ne o_rf o_re (rmC o_ac + 1) o_cm o_sd o_wf o_sm o_sf o_rm o_rs m_pl m_yl m_nd m_hm m_wk m_kd (o_a 10) (geP m_kd g_f a b)  a d (by omega) (by omega)) k_RX6_187 hy_X6_goEat (by decide) (range_at _ _) (range_nd _) 0 rfl rfl nX6_cake_89 rfl rfl (Nat.le_of_ble_eq_true rfl) (wput_range _ _ _ (by simp only [List.length_append, wI_len, wML_len, wO_len])) ?_
              refine V_blk (ws' := (wO g o_a (nI 0) o_ts o_pl o_nf o_ne o_rf o_re (rmC o_ac + 1) o_cm o_sd o_wf o_sm o_sf o_rm o_rs) ++ (wML g o_a m_pl m_yl m_nd m_hm m_wk m_kd) ++ (wI g (o_a 10) 29 (geP m_kd (geP m_kd g_f a b) a d)) ++ (wI g (o_a 12) 406 (ntB g_f k_f o_ac))) [wO g o_a (nI 0) o_ts o_pl o_nf o_ne o_rf o_re (rmC o_ac + 1) o_cm o_sd o_wf o_sm o_sf o_rm o_rs, wML g o_a m_pl m_yl m_nd m_hm m_wk m_kd, wI g (o_a 10) 29 (geP m_kd (geP m_kd g_f a b) a d), wI g (o_a 12) 406 (ntB g_f k_f o_ac)] [0, 1, 2, 3] rfl (by simp only [List.flatten_cons, List.flatten_nil, List.append_nil, List.append_assoc]) (by show List.flatten [wO g o_a (nI 0) o_ts o_pl o_nf o_ne o_rf o_re (rmC o_ac + 1) o_cm o_sd o_wf o_sm o_sf o_rm o_rs, wML g o_a m_pl m_yl m_nd m_hm m_wk m_kd, wI g (o_a 10) 29 (geP m_kd (geP m_kd g_f a b) a d), wI g (o_a 12) 406 (ntB g_f k_f o_ac)] = _; simp only [List.flatten_cons, List.flatten_nil, List.append_nil, List.append_assoc]) ?_
              refine V_aload_n nX6_cake_92 rfl ?_
              refine V_get6 0 16 (by decide) f_RX6_37 nX6_cake_93 rfl rfl ?_
              refine V_iload_n nX6_cake_96 rfl ?_
              refine V_blk (ws' := ((wI g (o_a 10) 29 (geP m_kd (geP m_kd g_f a b) a d))) ++ ((wO g o_a (nI 0) o_ts o_pl o_nf o_ne o_rf o_re (rmC o_ac + 1) o_cm o_sd o_wf o_sm o_sf o_rm o_rs) ++ (wML g o_a m_pl m_yl m_nd m_hm m_wk m_kd) ++ (wI g (o_a 12) 406 (ntB g_f k_f o_ac)))) [wO g o_a (nI 0) o_ts o_pl o_nf o_ne o_rf o_re (rmC o_ac + 1) o_cm o_sd o_wf o_sm o_sf o_rm o_rs, wML g o_a m_pl m_yl m_nd m_hm m_wk m_kd, wI g (o_a 10) 29 (geP m_kd (geP m_kd g_f a b) a d), wI g (o_a 12) 406 (ntB g_f k_f o_ac)] [2, 0, 1, 3] rfl (by simp only [List.flatten_cons, List.flatten_nil, List.append_nil, List.append_assoc]) (by show List.flatten [wI g (o_a 10) 29 (geP m_kd (geP m_kd g_f a b) a d), wO g o_a (nI 0) o_ts o_pl o_nf o_ne o_rf o_re (rmC o_ac + 1) o_cm o_sd o_wf o_sm o_sf o_rm o_rs, wML g o_a m_pl m_yl m_nd m_hm m_wk m_kd, wI g (o_a 12) 406 (ntB g_f k_f o_ac)] = _; simp only [List.flatten_cons, List.flatten_nil, List.append_nil, List.append_assoc]) ?_
              refine V_cSi (ws' := ((wI g (o_a 10) 29 (geP m_kd (geP m_kd g_f a b) a d))) ++ ((wO g o_a (nI 0) o_ts o_pl o_nf o_ne o_rf o_re (rmC o_ac + 1) o_cm o_sd o_wf o_sm o_sf o_rm o_rs) ++ (wML g o_a m_pl m_yl m_nd m_hm m_wk m_kd) ++ (wI g (o_a 12) 406 (ntB g_f k_f o_ac)))) (List.range _) 2 X (c_X6_owesAll g l (o_a 10) (geP m_kd (geP m_kd g_f a b) a d)  a (by omega)) k_RX6_148 hy_X6_owesAll.2 (by decide) (range_at _ _) (range_nd _) nX6_cake_97 rfl rfl (Nat.le_of_ble_eq_true rfl) (wput_range _ _ _ (by simp only [List.length_append, wI_len])) ?_
              refine V_blk (ws' := (wO g o_a (nI 0) o_ts o_pl o_nf o_ne o_rf o_re (rmC o_ac + 1) o_cm o_sd o_wf o_sm o_sf o_rm o_rs) ++ (wML g o_a m_pl m_yl m_nd m_hm m_wk m_kd) ++ (wI g (o_a 10) 29 (geP m_kd (geP m_kd g_f a b) a d)) ++ (wI g (o_a 12) 406 (ntB g_f k_f o_ac))) [wI g (o_a 10) 29 (geP m_kd (geP m_kd g_f a b) a d), wO g o_a (nI 0) o_ts o_pl o_nf o_ne o_rf o_re (rmC o_ac + 1) o_cm o_sd o_wf o_sm o_sf o_rm o_rs, wML g o_a m_pl m_yl m_nd m_hm m_wk m_kd, wI g (o_a 12) 406 (ntB g_f k_f o_ac)] [1, 2, 0, 3] rfl (by simp only [List.flatten_cons, List.flatten_nil, List.append_nil, List.append_assoc]) (by show List.flatten [wO g o_a (nI 0) o_ts o_pl o_nf o_ne o_rf o_re (rmC o_ac + 1) o_cm o_sd o_wf o_sm o_sf o_rm o_rs, wML g o_a m_pl m_yl m_nd m_hm m_wk m_kd, wI g (o_a 10) 29 (geP m_kd (geP m_kd g_f a b) a d), wI g (o_a 12) 406 (ntB g_f k_f o_ac)] = _; simp only [List.flatten_cons, List.flatten_nil, List.append_nil, List.append_assoc]) ?_
              have hB : ckMB o_nf o_ne m_kd g_f (nI a) (nI b) (nI d) = true := by simp [ckMB, hix_a, hp_a, hix_b, hp_b, hix_d, hp_d, h33, hbd, h49, h62]
              exact R_i rfl X hQ nX6_cake_100 (by simp only [List.map_append, wI_fst, wML_fst, wO_fst]) (⟨by simp [ckMR, hix_a, hp_a, hix_b, hp_b, hix_d, hp_d, h33, hbd, h49, h62], by simp only [hB, ckMQ, ↓reduceIte, hix_a, hix_b, hix_d]⟩)
            · skip
              refine V_bipush (v := (-3)) nX6_cake_65 (by decide) ?_
              have hB : ckMB o_nf o_ne m_kd g_f (nI a) (nI b) (nI d) = false := by simp [ckMB, hix_a, hp_a, hix_b, hp_b, hix_d, hp_d, h33, hbd, h49, h62]
              exact R_i rfl X hQ nX6_cake_67 (by simp only [List.map_append, wI_fst, wML_fst, wO_fst]) (⟨by simp [ckMR, hix_a, hp_a, hix_b, hp_b, hix_d, hp_d, h33, hbd, h49, h62], by simp only [hB, ckMQ, Bool.false_eq_true, ↓reduceIte]⟩)
        · skip
          refine V_bipush (v := (-2)) nX6_cake_36 (by decide) ?_
          have hB : ckMB o_nf o_ne m_kd g_f (nI a) (nI b) (nI d) = false := by simp [ckMB, hix_a, hp_a, hix_b, hp_b, hix_d, hp_d, h33]
          exact R_i rfl X hQ nX6_cake_38 (by simp only [List.map_append, wI_fst, wML_fst, wO_fst]) (⟨by simp [ckMR, hix_a, hp_a, hix_b, hp_b, hix_d, hp_d, h33], by simp only [hB, ckMQ, Bool.false_eq_true, ↓reduceIte]⟩)
      · skip
        have hn_d : hasN o_nf h = false := by rw [Bool.not_eq_true'] at h26; exact h26
        refine V_iconst (v := (-1)) nX6_cake_29 (by decide) ?_
        have hB : ckMB o_nf o_ne m_kd g_f (nI a) (nI b) h = false := by simp [ckMB, hix_a, hp_a, hix_b, hp_b, hn_d]
        exact R_i rfl X hQ nX6_cake_30 (by simp only [List.map_append, wI_fst, wML_fst, wO_fst]) (⟨by simp [ckMR, hix_a, hp_a, hix_b, hp_b, hn_d], by simp only [hB, ckMQ, Bool.false_eq_true, ↓reduceIte]⟩)

set_option maxHeartbeats 4000000 in
set_option maxRecDepth 100000 in
theorem c_X6_march (g : Gx) (l : Launch) (o_a : Nat → Nat) (o_th : Int32) (o_ts : Nat) (o_pl : Nat) (o_nf : Nat) (o_ne : Nat) (o_rf : Nat) (o_re : Nat) (o_ac : Nat) (o_cm : Nat) (o_sd : Int64) (o_wf : Int32) (o_sm : Int32) (o_sf : Int32) (o_rm : Int32) (o_rs : Int32) (m_pl : Nat → Int32) (m_yl : Nat → Int32) (m_nd : Nat → Int32) (m_hm : Nat → Int32) (m_wk : Nat → Int32) (m_kd : Nat → Int32) (g_f : Nat → Int32) (k_f : Nat → Int32) (r_f : Nat → Int32)   (hnf : o_nf ≤ 4) (hne : o_ne ≤ 5) (hac : o_ac ≤ 14) : Ct g l yX6_march mX6_march ({ frames := 4, cells := 0, slots := 0, locals := 99 } : Room) [.ref (o_a 0)] ((wO g o_a o_th o_ts o_pl o_nf o_ne o_rf o_re o_ac o_cm o_sd o_wf o_sm o_sf o_rm o_rs) ++ (wML g o_a m_pl m_yl m_nd m_hm m_wk m_kd) ++ (wI g (o_a 10) 29 g_f) ++ (wI g (o_a 12) 406 k_f) ++ (wI g (o_a 17) 5 r_f)) (fun r w' => ∃ (z_r : Nat → Int32) (z_w : Int32), r = (some (.int (nI (swP m_nd (mqP m_pl m_hm m_wk m_kd o_nf 31 g_f o_ne) o_nf)))) ∧ w' = (wO g o_a (nI 0) o_ts o_pl o_nf o_ne o_rf o_re (rmC o_ac + 1) o_cm o_sd z_w o_sm o_sf o_rm o_rs) ++ (wML g o_a m_pl m_yl m_nd m_hm m_wk m_kd) ++ (wI g (o_a 10) 29 (mqP m_pl m_hm m_wk m_kd o_nf 31 g_f o_ne)) ++ (wI g (o_a 12) 406 (ntB g_f k_f o_ac)) ++ (wI g (o_a 17) 5 z_r)) := by
  refine Ct.of (lv := [(0, .ref (o_a 0))]) ⟨by decide +kernel, rfl, Nat.le_of_ble_eq_true rfl⟩ rfl (fun E A sz Q X hQ => ?_)
  refine V_aload_n nX6_march_0 rfl ?_
  refine V_iconst (v := (nI 0)) nX6_march_1 rfl ?_
  refine V_put6 (ws' := (wO g o_a (nI 0) o_ts o_pl o_nf o_ne o_rf o_re o_ac o_cm o_sd o_wf o_sm o_sf o_rm o_rs) ++ (wML g o_a m_pl m_yl m_nd m_hm m_wk m_kd) ++ (wI g (o_a 10) 29 g_f) ++ (wI g (o_a 12) 406 k_f) ++ (wI g (o_a 17) 5 r_f)) 0 0 (by decide) f_RX6_68 rfl rfl rfl rfl nX6_march_2 rfl (Nat.le_of_ble_eq_true rfl) rfl ?_
  refine V_aload_n nX6_march_5 rfl ?_
  refine V_blk (ws' := ((wO g o_a (nI 0) o_ts o_pl o_nf o_ne o_rf o_re o_ac o_cm o_sd o_wf o_sm o_sf o_rm o_rs) ++ (wI g (o_a 10) 29 g_f) ++ (wI g (o_a 12) 406 k_f)) ++ ((wML g o_a m_pl m_yl m_nd m_hm m_wk m_kd) ++ (wI g (o_a 17) 5 r_f))) [wO g o_a (nI 0) o_ts o_pl o_nf o_ne o_rf o_re o_ac o_cm o_sd o_wf o_sm o_sf o_rm o_rs, wML g o_a m_pl m_yl m_nd m_hm m_wk m_kd, wI g (o_a 10) 29 g_f, wI g (o_a 12) 406 k_f, wI g (o_a 17) 5 r_f] [0, 2, 3, 1, 4] rfl (by simp only [List.flatten_cons, List.flatten_nil, List.append_nil, List.append_assoc]) (by show List.flatten [wO g o_a (nI 0) o_ts o_pl o_nf o_ne o_rf o_re o_ac o_cm o_sd o_wf o_sm o_sf o_rm o_rs, wI g (o_a 10) 29 g_f, wI g (o_a 12) 406 k_f, wML g o_a m_pl m_yl m_nd m_hm m_wk m_kd, wI g (o_a 17) 5 r_f] = _; simp only [List.flatten_cons, List.flatten_nil, List.append_nil, List.append_assoc]) ?_
  refine V_cVv (C := (RX6, TX6, 34)) (ci := 6) (ws' := ((wO g o_a (nI 0) o_ts o_pl o_nf o_ne o_rf o_re (rmC o_ac + 1) o_cm o_sd o_wf o_sm o_sf o_rm o_rs) ++ (wI g (o_a 10) 29 g_f) ++ (wI g (o_a 12) 406 (ntB g_f k_f o_ac))) ++ ((wML g o_a m_pl m_yl m_nd m_hm m_wk m_kd) ++ (wI g (o_a 17) 5 r_f))) (List.range _) 0 X (c_X6_note g l o_a (nI 0) o_ts o_pl o_nf o_ne o_rf o_re o_ac o_cm o_sd o_wf o_sm o_sf o_rm o_rs g_f k_f   (by omega)) k_RX6_184 hy_X6_note (by decide) (range_at _ _) (range_nd _) 0 rfl rfl nX6_march_6 rfl rfl (Nat.le_of_ble_eq_true rfl) (wput_range _ _ _ (by simp only [List.length_append, wI_len, wO_len])) ?_
  refine V_blk (ws' := (wO g o_a (nI 0) o_ts o_pl o_nf o_ne o_rf o_re (rmC o_ac + 1) o_cm o_sd o_wf o_sm o_sf o_rm o_rs) ++ (wML g o_a m_pl m_yl m_nd m_hm m_wk m_kd) ++ (wI g (o_a 10) 29 g_f) ++ (wI g (o_a 12) 406 (ntB g_f k_f o_ac)) ++ (wI g (o_a 17) 5 r_f)) [wO g o_a (nI 0) o_ts o_pl o_nf o_ne o_rf o_re (rmC o_ac + 1) o_cm o_sd o_wf o_sm o_sf o_rm o_rs, wI g (o_a 10) 29 g_f, wI g (o_a 12) 406 (ntB g_f k_f o_ac), wML g o_a m_pl m_yl m_nd m_hm m_wk m_kd, wI g (o_a 17) 5 r_f] [0, 3, 1, 2, 4] rfl (by simp only [List.flatten_cons, List.flatten_nil, List.append_nil, List.append_assoc]) (by show List.flatten [wO g o_a (nI 0) o_ts o_pl o_nf o_ne o_rf o_re (rmC o_ac + 1) o_cm o_sd o_wf o_sm o_sf o_rm o_rs, wML g o_a m_pl m_yl m_nd m_hm m_wk m_kd, wI g (o_a 10) 29 g_f, wI g (o_a 12) 406 (ntB g_f k_f o_ac), wI g (o_a 17) 5 r_f] = _; simp only [List.flatten_cons, List.flatten_nil, List.append_nil, List.append_assoc]) ?_
  refine V_aload_n nX6_march_9 rfl ?_
  refine V_aload_n nX6_march_10 rfl ?_
  refine V_get6 0 16 (by decide) f_RX6_37 nX6_march_11 rfl rfl ?_
  refine V_bipush (v := (nI 31)) nX6_march_14 (by decide) ?_
  refine V_blk (ws' := ((wO g o_a (nI 0) o_ts o_pl o_nf o_ne o_rf o_re (rmC o_ac + 1) o_cm o_sd o_wf o_sm o_sf o_rm o_rs) ++ (wML g o_a m_pl m_yl m_nd m_hm m_wk m_kd) ++ (wI g (o_a 10) 29 g_f) ++ (wI g (o_a 17) 5 r_f)) ++ ((wI g (o_a 12) 406 (ntB g_f k_f o_ac)))) [wO g o_a (nI 0) o_ts o_pl o_nf o_ne o_rf o_re (rmC o_ac + 1) o_cm o_sd o_wf o_sm o_sf o_rm o_rs, wML g o_a m_pl m_yl m_nd m_hm m_wk m_kd, wI g (o_a 10) 29 g_f, wI g (o_a 12) 406 (ntB g_f k_f o_ac), wI g (o_a 17) 5 r_f] [0, 1, 2, 4, 3] rfl (by simp only [List.flatten_cons, List.flatten_nil, List.append_nil, List.append_assoc]) (by show List.flatten [wO g o_a (nI 0) o_ts o_pl o_nf o_ne o_rf o_re (rmC o_ac + 1) o_cm o_sd o_wf o_sm o_sf o_rm o_rs, wML g o_a m_pl m_yl m_nd m_hm m_wk m_kd, wI g (o_a 10) 29 g_f, wI g (o_a 17) 5 r_f, wI g (o_a 12) 406 (ntB g_f k_f o_ac)] = _; simp only [List.flatten_cons, List.flatten_nil, List.append_nil, List.append_assoc]) ?_
  refine V_cVi (C := (RX6, TX6, 34)) (ci := 6) (ws' := ((wO g o_a (nI 0) o_ts o_pl o_nf o_ne o_rf o_re (rmC o_ac + 1) o_cm o_sd ((mrP m_pl m_hm m_wk m_kd o_nf 31 (g_f, r_f, o_wf) o_ne).2.2) o_sm o_sf o_rm o_rs) ++ (wML g o_a m_pl m_yl m_nd m_hm m_wk m_kd) ++ (wI g (o_a 10) 29 (mqP m_pl m_hm m_wk m_kd o_nf 31 g_f o_ne)) ++ (wI g (o_a 17) 5 ((mrP m_pl m_hm m_wk m_kd o_nf 31 (g_f, r_f, o_wf) o_ne).2.1))) ++ ((wI g (o_a 12) 406 (ntB g_f k_f o_ac)))) (List.range _) 2 X (c_X6_goMarch g l o_a (nI 0) o_ts o_pl o_nf o_ne o_rf o_re (rmC o_ac + 1) o_cm o_sd o_wf o_sm o_sf o_rm o_rs m_pl m_yl m_nd m_hm m_wk m_kd (o_a 10) g_f r_f  31 (by omega) (by omega) (by decide)) k_RX6_155 hy_X6_goMarch (by decide) (range_at _ _) (range_nd _) 0 rfl rfl nX6_march_16 rfl rfl (Nat.le_of_ble_eq_true rfl) (wput_range _ _ _ (by simp only [List.length_append, wI_len, wML_len, wO_len])) ?_
  refine V_blk (ws' := (wO g o_a (nI 0) o_ts o_pl o_nf o_ne o_rf o_re (rmC o_ac + 1) o_cm o_sd ((mrP m_pl m_hm m_wk m_kd o_nf 31 (g_f, r_f, o_wf) o_ne).2.2) o_sm o_sf o_rm o_rs) ++ (wML g o_a m_pl m_yl m_nd m_hm m_wk m_kd) ++ (wI g (o_a 10) 29 (mqP m_pl m_hm m_wk m_kd o_nf 31 g_f o_ne)) ++ (wI g (o_a 12) 406 (ntB g_f k_f o_ac)) ++ (wI g (o_a 17) 5 ((mrP m_pl m_hm m_wk m_kd o_nf 31 (g_f, r_f, o_wf) o_ne).2.1))) [wO g o_a (nI 0) o_ts o_pl o_nf o_ne o_rf o_re (rmC o_ac + 1) o_cm o_sd ((mrP m_pl m_hm m_wk m_kd o_nf 31 (g_f, r_f, o_wf) o_ne).2.2) o_sm o_sf o_rm o_rs, wML g o_a m_pl m_yl m_nd m_hm m_wk m_kd, wI g (o_a 10) 29 (mqP m_pl m_hm m_wk m_kd o_nf 31 g_f o_ne), wI g (o_a 17) 5 ((mrP m_pl m_hm m_wk m_kd o_nf 31 (g_f, r_f, o_wf) o_ne).2.1), wI g (o_a 12) 406 (ntB g_f k_f o_ac)] [0, 1, 2, 4, 3] rfl (by simp only [List.flatten_cons, List.flatten_nil, List.append_nil, List.append_assoc]) (by show List.flatten [wO g o_a (nI 0) o_ts o_pl o_nf o_ne o_rf o_re (rmC o_ac + 1) o_cm o_sd ((mrP m_pl m_hm m_wk m_kd o_nf 31 (g_f, r_f, o_wf) o_ne).2.2) o_sm o_sf o_rm o_rs, wML g o_a m_pl m_yl m_nd m_hm m_wk m_kd, wI g (o_a 10) 29 (mqP m_pl m_hm m_wk m_kd o_nf 31 g_f o_ne), wI g (o_a 12) 406 (ntB g_f k_f o_ac), wI g (o_a 17) 5 ((mrP m_pl m_hm m_wk m_kd o_nf 31 (g_f, r_f, o_wf) o_ne).2.1)] = _; simp only [List.flatten_cons, List.flatten_nil, List.append_nil, List.append_assoc]) ?_
  exact R_i rfl X hQ nX6_march_19 (by simp only [List.map_append, wI_fst, wML_fst, wO_fst]) (⟨_, _, rfl, rfl⟩)

set_option maxHeartbeats 4000000 in
set_option maxRecDepth 100000 in
theorem c_X6_harvest (g : Gx) (l : Launch) (o_a : Nat → Nat) (o_th : Int32) (o_ts : Nat) (o_pl : Nat) (o_nf : Nat) (o_ne : Nat) (o_rf : Nat) (o_re : Nat) (o_ac : Nat) (o_cm : Nat) (o_sd : Int64) (o_wf : Int32) (o_sm : Int32) (o_sf : Int32) (o_rm : Int32) (o_rs : Int32) (m_pl : Nat → Int32) (m_yl : Nat → Int32) (m_nd : Nat → Int32) (m_hm : Nat → Int32) (m_wk : Nat → Int32) (m_kd : Nat → Int32) (g_f : Nat → Int32) (k_f : Nat → Int32)   (hnf : o_nf ≤ 4) (hac : o_ac ≤ 14) : Cd g l yX6_harvest mX6_harvest ({ frames := 2, cells := 0, slots := 0, locals := 46 } : Room) [.ref (o_a 0)] ((wO g o_a o_th o_ts o_pl o_nf o_ne o_rf o_re o_ac o_cm o_sd o_wf o_sm o_sf o_rm o_rs) ++ (wML g o_a m_pl m_yl m_nd m_hm m_wk m_kd) ++ (wI g (o_a 10) 29 g_f) ++ (wI g (o_a 12) 406 k_f)) (some (.int (lvP (hvQ m_yl m_nd g_f o_nf)))) ((wO g o_a (nI 0) o_ts o_pl o_nf o_ne o_rf o_re (rmC o_ac + 1) o_cm o_sd o_wf o_sm o_sf o_rm o_rs) ++ (wML g o_a m_pl m_yl m_nd m_hm m_wk m_kd) ++ (wI g (o_a 10) 29 (hvQ m_yl m_nd g_f o_nf)) ++ (wI g (o_a 12) 406 (ntB g_f k_f o_ac))) := by
  refine Ct.of (lv := [(0, .ref (o_a 0))]) ⟨by decide +kernel, rfl, Nat.le_of_ble_eq_true rfl⟩ rfl (fun E A sz Q X hQ => ?_)
  refine V_aload_n nX6_harvest_0 rfl ?_
  refine V_iconst (v := (nI 0)) nX6_harvest_1 rfl ?_
  refine V_put6 (ws' := (wO g o_a (nI 0) o_ts o_pl o_nf o_ne o_rf o_re o_ac o_cm o_sd o_wf o_sm o_sf o_rm o_rs) ++ (wML g o_a m_pl m_yl m_nd m_hm m_wk m_kd) ++ (wI g (o_a 10) 29 g_f) ++ (wI g (o_a 12) 406 k_f)) 0 0 (by decide) f_RX6_68 rfl rfl rfl rfl nX6_harvest_2 rfl (Nat.le_of_ble_eq_true rfl) rfl ?_
  refine V_aload_n nX6_harvest_5 rfl ?_
  refine V_blk (ws' := ((wO g o_a (nI 0) o_ts o_pl o_nf o_ne o_rf o_re o_ac o_cm o_sd o_wf o_sm o_sf o_rm o_rs) ++ (wI g (o_a 10) 29 g_f) ++ (wI g (o_a 12) 406 k_f)) ++ ((wML g o_a m_pl m_yl m_nd m_hm m_wk m_kd))) [wO g o_a (nI 0) o_ts o_pl o_nf o_ne o_rf o_re o_ac o_cm o_sd o_wf o_sm o_sf o_rm o_rs, wML g o_a m_pl m_yl m_nd m_hm m_wk m_kd, wI g (o_a 10) 29 g_f, wI g (o_a 12) 406 k_f] [0, 2, 3, 1] rfl (by simp only [List.flatten_cons, List.flatten_nil, List.append_nil, List.append_assoc]) (by show List.flatten [wO g o_a (nI 0) o_ts o_pl o_nf o_ne o_rf o_re o_ac o_cm o_sd o_wf o_sm o_sf o_rm o_rs, wI g (o_a 10) 29 g_f, wI g (o_a 12) 406 k_f, wML g o_a m_pl m_yl m_nd m_hm m_wk m_kd] = _; simp only [List.flatten_cons, List.flatten_nil, List.append_nil, List.append_assoc]) ?_
  refine V_cVv (C := (RX6, TX6, 34)) (ci := 6) (ws' := ((wO g o_a (nI 0) o_ts o_pl o_nf o_ne o_rf o_re (rmC o_ac + 1) o_cm o_sd o_wf o_sm o_sf o_rm o_rs) ++ (wI g (o_a 10) 29 g_f) ++ (wI g (o_a 12) 406 (ntB g_f k_f o_ac))) ++ ((wML g o_a m_pl m_yl m_nd m_hm m_wk m_kd))) (List.range _) 0 X (c_X6_note g l o_a (nI 0) o_ts o_pl o_nf o_ne o_rf o_re o_ac o_cm o_sd o_wf o_sm o_sf o_rm o_rs g_f k_f   (by omega)) k_RX6_184 hy_X6_note (by decide) (range_at _ _) (range_nd _) 0 rfl rfl nX6_harvest_6 rfl rfl (Nat.le_of_ble_eq_true rfl) (wput_range _ _ _ (by simp only [List.length_append, wI_len, wO_len])) ?_
  refine V_blk (ws' := (wO g o_a (nI 0) o_ts o_pl o_nf o_ne o_rf o_re (rmC o_ac + 1) o_cm o_sd o_wf o_sm o_sf o_rm o_rs) ++ (wML g o_a m_pl m_yl m_nd m_hm m_wk m_kd) ++ (wI g (o_a 10) 29 g_f) ++ (wI g (o_a 12) 406 (ntB g_f k_f o_ac))) [wO g o_a (nI 0) o_ts o_pl o_nf o_ne o_rf o_re (rmC o_ac + 1) o_cm o_sd o_wf o_sm o_sf o_rm o_rs, wI g (o_a 10) 29 g_f, wI g (o_a 12) 406 (ntB g_f k_f o_ac), wML g o_a m_pl m_yl m_nd m_hm m_wk m_kd] [0, 3, 1, 2] rfl (by simp only [List.flatten_cons, List.flatten_nil, List.append_nil, List.append_assoc]) (by show List.flatten [wO g o_a (nI 0) o_ts o_pl o_nf o_ne o_rf o_re (rmC o_ac + 1) o_cm o_sd o_wf o_sm o_sf o_rm o_rs, wML g o_a m_pl m_yl m_nd m_hm m_wk m_kd, wI g (o_a 10) 29 g_f, wI g (o_a 12) 406 (ntB g_f k_f o_ac)] = _; simp only [List.flatten_cons, List.flatten_nil, List.append_nil, List.append_assoc]) ?_
  refine V_aload_n nX6_harvest_9 rfl ?_
  refine V_aload_n nX6_harvest_10 rfl ?_
  refine V_get6 0 16 (by decide) f_RX6_37 nX6_harvest_11 rfl rfl ?_
  refine V_blk (ws' := ((wO g o_a (nI 0) o_ts o_pl o_nf o_ne o_rf o_re (rmC o_ac + 1) o_cm o_sd o_wf o_sm o_sf o_rm o_rs) ++ (wML g o_a m_pl m_yl m_nd m_hm m_wk m_kd) ++ (wI g (o_a 10) 29 g_f)) ++ ((wI g (o_a 12) 406 (ntB g_f k_f o_ac)))) [wO g o_a (nI 0) o_ts o_pl o_nf o_ne o_rf o_re (rmC o_ac + 1) o_cm o_sd o_wf o_sm o_sf o_rm o_rs, wML g o_a m_pl m_yl m_nd m_hm m_wk m_kd, wI g (o_a 10) 29 g_f, wI g (o_a 12) 406 (ntB g_f k_f o_ac)] [0, 1, 2, 3] rfl (by simp only [List.flatten_cons, List.flatten_nil, List.append_nil, List.append_assoc]) (by show List.flatten [wO g o_a (nI 0) o_ts o_pl o_nf o_ne o_rf o_re (rmC o_ac + 1) o_cm o_sd o_wf o_sm o_sf o_rm o_rs, wML g o_a m_pl m_yl m_nd m_hm m_wk m_kd, wI g (o_a 10) 29 g_f, wI g (o_a 12) 406 (ntB g_f k_f o_ac)] = _; simp only [List.flatten_cons, List.flatten_nil, List.append_nil, List.append_assoc]) ?_
  refine V_cVi (C := (RX6, TX6, 34)) (ci := 6) (ws' := ((wO g o_a (nI 0) o_ts o_pl o_nf o_ne o_rf o_re (rmC o_ac + 1) o_cm o_sd o_wf o_sm o_sf o_rm o_rs) ++ (wML g o_a m_pl m_yl m_nd m_hm m_wk m_kd) ++ (wI g (o_a 10) 29 (hvQ m_yl m_nd g_f o_nf))) ++ ((wI g (o_a 12) 406 (ntB g_f k_f o_ac)))) (List.range _) 1 X (c_X6_goHarvest g l o_a (nI 0) o_ts o_pl o_nf o_ne o_rf o_re (rmC o_ac + 1) o_cm o_sd o_wf o_sm o_sf o_rm o_rs m_pl m_yl m_nd m_hm m_wk m_kd (o_a 10) g_f   (by omega)) k_RX6_191 hy_X6_goHarvest (by decide) (range_at _ _) (range_nd _) 0 rfl rfl nX6_harvest_14 rfl rfl (Nat.le_of_ble_eq_true rfl) (wput_range _ _ _ (by simp only [List.length_append, wI_len, wML_len, wO_len])) ?_
  refine V_blk (ws' := (wO g o_a (nI 0) o_ts o_pl o_nf o_ne o_rf o_re (rmC o_ac + 1) o_cm o_sd o_wf o_sm o_sf o_rm o_rs) ++ (wML g o_a m_pl m_yl m_nd m_hm m_wk m_kd) ++ (wI g (o_a 10) 29 (hvQ m_yl m_nd g_f o_nf)) ++ (wI g (o_a 12) 406 (ntB g_f k_f o_ac))) [wO g o_a (nI 0) o_ts o_pl o_nf o_ne o_rf o_re (rmC o_ac + 1) o_cm o_sd o_wf o_sm o_sf o_rm o_rs, wML g o_a m_pl m_yl m_nd m_hm m_wk m_kd, wI g (o_a 10) 29 (hvQ m_yl m_nd g_f o_nf), wI g (o_a 12) 406 (ntB g_f k_f o_ac)] [0, 1, 2, 3] rfl (by simp only [List.flatten_cons, List.flatten_nil, List.append_nil, List.append_assoc]) (by show List.flatten [wO g o_a (nI 0) o_ts o_pl o_nf o_ne o_rf o_re (rmC o_ac + 1) o_cm o_sd o_wf o_sm o_sf o_rm o_rs, wML g o_a m_pl m_yl m_nd m_hm m_wk m_kd, wI g (o_a 10) 29 (hvQ m_yl m_nd g_f o_nf), wI g (o_a 12) 406 (ntB g_f k_f o_ac)] = _; simp only [List.flatten_cons, List.flatten_nil, List.append_nil, List.append_assoc]) ?_
  exact R_i rfl X hQ nX6_harvest_17 (by simp only [List.map_append, wI_fst, wML_fst, wO_fst]) (⟨rfl, rfl⟩)

set_option maxHeartbeats 4000000 in
set_option maxRecDepth 100000 in
theorem c_X6_undo (g : Gx) (l : Launch) (o_a : Nat → Nat) (o_th : Int32) (o_ts : Nat) (o_pl : Nat) (o_nf : Nat) (o_ne : Nat) (o_rf : Nat) (o_re : Nat) (o_ac : Nat) (o_cm : Nat) (o_sd : Int64) (o_wf : Int32) (o_sm : Int32) (o_sf : Int32) (o_rm : Int32) (o_rs : Int32) (g_f : Nat → Int32) (k_f : Nat → Int32)   (hac : o_ac ≤ 14) : Cd g l yX6_undo mX6_undo ({ frames := 0, cells := 0, slots := 0, locals := 0 } : Room) [.ref (o_a 0)] ((wO g o_a o_th o_ts o_pl o_nf o_ne o_rf o_re o_ac o_cm o_sd o_wf o_sm o_sf o_rm o_rs) ++ (wI g (o_a 10) 29 g_f) ++ (wI g (o_a 12) 406 k_f)) (some (.int (if o_ac = 0 then -3 else nI (o_ac - 1)))) ((wO g o_a (nI 0) o_ts o_pl o_nf o_ne o_rf o_re (o_ac - 1) o_cm o_sd o_wf o_sm o_sf o_rm o_rs) ++ (wI g (o_a 10) 29 (if o_ac = 0 then g_f else (fun i => k_f (29 * (o_ac - 1) + i)))) ++ (wI g (o_a 12) 406 k_f)) := by
  refine Ct.of (lv := [(0, .ref (o_a 0))]) ⟨by decide +kernel, rfl, Nat.le_of_ble_eq_true rfl⟩ rfl (fun E A sz Q X hQ => ?_)
  refine V_aload_n nX6_undo_0 rfl ?_
  refine V_iconst (v := (nI 0)) nX6_undo_1 rfl ?_
  refine V_put6 (ws' := (wO g o_a (nI 0) o_ts o_pl o_nf o_ne o_rf o_re o_ac o_cm o_sd o_wf o_sm o_sf o_rm o_rs) ++ (wI g (o_a 10) 29 g_f) ++ (wI g (o_a 12) 406 k_f)) 0 0 (by decide) f_RX6_68 rfl rfl rfl rfl nX6_undo_2 rfl (Nat.le_of_ble_eq_true rfl) rfl ?_
  refine V_aload_n nX6_undo_5 rfl ?_
  refine V_get6 0 19 (by decide) f_RX6_114 nX6_undo_6 rfl rfl ?_
  refine V_if_ne_N (tgt := 15) nX6_undo_9 rfl (by omega) (fun h9 => ?_) (fun h9 => ?_)
  · skip
    refine V_aload_n nX6_undo_15 rfl ?_
    refine V_dup nX6_undo_16 rfl ?_
    refine V_get6 0 19 (by decide) f_RX6_114 nX6_undo_17 rfl rfl ?_
    refine V_iconst (v := (nI 1)) nX6_undo_20 rfl ?_
    refine V_isub (v := nI (o_ac - 1)) nX6_undo_21 (pk_sub (by omega)) ?_
    refine V_put6 (ws' := (wO g o_a (nI 0) o_ts o_pl o_nf o_ne o_rf o_re (o_ac - 1) o_cm o_sd o_wf o_sm o_sf o_rm o_rs) ++ (wI g (o_a 10) 29 g_f) ++ (wI g (o_a 12) 406 k_f)) 0 19 (by decide) f_RX6_114 rfl rfl rfl rfl nX6_undo_22 rfl (Nat.le_of_ble_eq_true rfl) rfl ?_
    refine V_iconst (v := (nI 0)) nX6_undo_25 rfl ?_
    refine V_istore_n (lv' := [(0, .ref (o_a 0)), (1, .int (nI 0))]) nX6_undo_26 (by decide) rfl ?_
    have L27 : ∀ (n : Nat) (i : Nat), 29 - i < n → i ≤ 29 → V g E mX6_undo A Q 0 0 ((wO g o_a (nI 0) o_ts o_pl o_nf o_ne o_rf o_re (o_ac - 1) o_cm o_sd o_wf o_sm o_sf o_rm o_rs) ++ (wI g (o_a 10) 29 (fillI (fun i => k_f (29 * (o_ac - 1) + i)) g_f i)) ++ (wI g (o_a 12) 406 k_f)) 27 [(0, .ref (o_a 0)), (1, .int (nI i))] [] := by
      intro n
      induction n with
      | zero => intro i hm; exact absurd hm (Nat.not_lt_zero _)
      | succ n ih =>
        intro i hm hi
        refine V_iload_n nX6_undo_27 rfl ?_
        refine V_bipush (v := (nI 29)) nX6_undo_28 (by decide) ?_
        refine V_icmp_ge_N (tgt := 59) nX6_undo_30 rfl (by omega) (by omega) (fun h30 => ?_) (fun h30 => ?_)
        · skip
          have hx_i : 29 = i := by omega
          subst hx_i
          refine V_arr (f' := (fun i => k_f (29 * (o_ac - 1) + i))) (ws' := (wO g o_a (nI 0) o_ts o_pl o_nf o_ne o_rf o_re (o_ac - 1) o_cm o_sd o_wf o_sm o_sf o_rm o_rs) ++ (wI g (o_a 10) 29 (fun i => k_f (29 * (o_ac - 1) + i))) ++ (wI g (o_a 12) 406 k_f)) 1 rfl (fun j hj => fillI_lt _ _ _ j hj) rfl ?_
          refine V_aload_n nX6_undo_59 rfl ?_
          refine V_get6 0 19 (by decide) f_RX6_114 nX6_undo_60 rfl rfl ?_
          exact R_i rfl X hQ nX6_undo_63 (by simp only [List.map_append, wI_fst, wO_fst]) (⟨by rw [if_neg h9], by rw [if_neg h9]⟩)
        · skip
          refine V_aload_n nX6_undo_33 rfl ?_
          refine V_get6 0 16 (by decide) f_RX6_37 nX6_undo_34 rfl rfl ?_
          refine V_iload_n nX6_undo_37 rfl ?_
          refine V_aload_n nX6_undo_38 rfl ?_
          refine V_get6 0 18 (by decide) f_RX6_43 nX6_undo_39 rfl rfl ?_
          refine V_bipush (v := (nI 29)) nX6_undo_42 (by decide) ?_
          refine V_aload_n nX6_undo_44 rfl ?_
          refine V_get6 0 19 (by decide) f_RX6_114 nX6_undo_45 rfl rfl ?_
          refine V_imul (v := nI (29 * (o_ac - 1))) nX6_undo_48 (pk_mul 29 (o_ac - 1)) ?_
          refine V_iload_n nX6_undo_49 rfl ?_
          refine V_iadd (v := nI ((29 * (o_ac - 1)) + i)) nX6_undo_50 (nI_add (29 * (o_ac - 1)) i) ?_
          refine V_iald 2 nX6_undo_51 rfl (by omega) (by decide) rfl ?_
          refine V_iast (ws' := (wO g o_a (nI 0) o_ts o_pl o_nf o_ne o_rf o_re (o_ac - 1) o_cm o_sd o_wf o_sm o_sf o_rm o_rs) ++ (wI g (o_a 10) 29 (upd (fillI (fun i => k_f (29 * (o_ac - 1) + i)) g_f i) i (k_f ((29 * (o_ac - 1)) + i)))) ++ (wI g (o_a 12) 406 k_f)) 1 nX6_undo_52 rfl (by omega) (by decide) rfl ?_
          refine V_iinc (v := nI (i + 1)) (lv' := [(0, .ref (o_a 0)), (1, .int (nI (i + 1)))]) nX6_undo_53 rfl (nI_add i 1) (by decide) rfl ?_
          refine V_goto (tgt := 27) nX6_undo_56 rfl ?_
          exact ih (i + 1) (by omega) (by omega)
    exact L27 _ 0 (Nat.lt_succ_self _) (by omega)
  · skip
    refine V_bipush (v := (-3)) nX6_undo_12 (by decide) ?_
    exact R_i rfl X hQ nX6_undo_14 (by simp only [List.map_append, wI_fst, wO_fst]) (⟨by rw [if_pos h9], by rw [if_pos h9, show o_ac - 1 = o_ac by omega]⟩)

set_option maxHeartbeats 4000000 in
set_option maxRecDepth 100000 in
theorem c_X6_ahead (g : Gx) (l : Launch) (o_a : Nat → Nat) (o_th : Int32) (o_ts : Nat) (o_pl : Nat) (o_nf : Nat) (o_ne : Nat) (o_rf : Nat) (o_re : Nat) (o_ac : Nat) (o_cm : Nat) (o_sd : Int64) (o_wf : Int32) (o_sm : Int32) (o_sf : Int32) (o_rm : Int32) (o_rs : Int32) (m_pl : Nat → Int32) (m_yl : Nat → Int32) (m_nd : Nat → Int32) (m_hm : Nat → Int32) (m_wk : Nat → Int32) (m_kd : Nat → Int32) (g_f : Nat → Int32) (y_f : Nat → Int32) (r_f : Nat → Int32)  (x : Int32) (y : Int32) (hnf : o_nf ≤ 4) (hne : o_ne ≤ 5) : Ct g l yX6_ahead mX6_ahead ({ frames := 4, cells := 0, slots := 0, locals := 99 } : Room) [.ref (o_a 0), .int x, .int y] ((wO g o_a o_th o_ts o_pl o_nf o_ne o_rf o_re o_ac o_cm o_sd o_wf o_sm o_sf o_rm o_rs) ++ (wML g o_a m_pl m_yl m_nd m_hm m_wk m_kd) ++ (wI g (o_a 10) 29 g_f) ++ (wI g (o_a 11) 29 y_f) ++ (wI g (o_a 17) 5 r_f)) (fun r w' => ∃ (z_y : Nat → Int32) (z_r : Nat → Int32) (z_w : Int32), r = (some (.int (ahMR o_nf o_ne m_pl m_yl m_nd m_hm m_wk m_kd g_f x y))) ∧ w' = (wO g o_a (nI 0) o_ts o_pl o_nf o_ne o_rf o_re o_ac o_cm o_sd z_w o_sm o_sf o_rm o_rs) ++ (wML g o_a m_pl m_yl m_nd m_hm m_wk m_kd) ++ (wI g (o_a 10) 29 g_f) ++ (wI g (o_a 11) 29 z_y) ++ (wI g (o_a 17) 5 z_r)) := by
  refine Ct.of (lv := [(0, .ref (o_a 0)), (1, .int x), (2, .int y)]) ⟨by decide +kernel, rfl, Nat.le_of_ble_eq_true rfl⟩ rfl (fun E A sz Q X hQ => ?_)
  refine V_aload_n nX6_ahead_0 rfl ?_
  refine V_iconst (v := (nI 0)) nX6_ahead_1 rfl ?_
  refine V_put6 (ws' := (wO g o_a (nI 0) o_ts o_pl o_nf o_ne o_rf o_re o_ac o_cm o_sd o_wf o_sm o_sf o_rm o_rs) ++ (wML g o_a m_pl m_yl m_nd m_hm m_wk m_kd) ++ (wI g (o_a 10) 29 g_f) ++ (wI g (o_a 11) 29 y_f) ++ (wI g (o_a 17) 5 r_f)) 0 0 (by decide) f_RX6_68 rfl rfl rfl rfl nX6_ahead_2 rfl (Nat.le_of_ble_eq_true rfl) rfl ?_
  refine V_aload_n nX6_ahead_5 rfl ?_
  refine V_iload_n nX6_ahead_6 rfl ?_
  refine V_blk (ws' := ((wO g o_a (nI 0) o_ts o_pl o_nf o_ne o_rf o_re o_ac o_cm o_sd o_wf o_sm o_sf o_rm o_rs)) ++ ((wML g o_a m_pl m_yl m_nd m_hm m_wk m_kd) ++ (wI g (o_a 10) 29 g_f) ++ (wI g (o_a 11) 29 y_f) ++ (wI g (o_a 17) 5 r_f))) [wO g o_a (nI 0) o_ts o_pl o_nf o_ne o_rf o_re o_ac o_cm o_sd o_wf o_sm o_sf o_rm o_rs, wML g o_a m_pl m_yl m_nd m_hm m_wk m_kd, wI g (o_a 10) 29 g_f, wI g (o_a 11) 29 y_f, wI g (o_a 17) 5 r_f] [0, 1, 2, 3, 4] rfl (by simp only [List.flatten_cons, List.flatten_nil, List.append_nil, List.append_assoc]) (by show List.flatten [wO g o_a (nI 0) o_ts o_pl o_nf o_ne o_rf o_re o_ac o_cm o_sd o_wf o_sm o_sf o_rm o_rs, wML g o_a m_pl m_yl m_nd m_hm m_wk m_kd, wI g (o_a 10) 29 g_f, wI g (o_a 11) 29 y_f, wI g (o_a 17) 5 r_f] = _; simp only [List.flatten_cons, List.flatten_nil, List.append_nil, List.append_assoc]) ?_
  refine V_cVi (C := (RX6, TX6, 34)) (ci := 6) (ws' := ((wO g o_a (nI 0) o_ts o_pl o_nf o_ne o_rf o_re o_ac o_cm o_sd o_wf o_sm o_sf o_rm o_rs)) ++ ((wML g o_a m_pl m_yl m_nd m_hm m_wk m_kd) ++ (wI g (o_a 10) 29 g_f) ++ (wI g (o_a 11) 29 y_f) ++ (wI g (o_a 17) 5 r_f))) (List.range _) 1 X (c_X6_noField g l o_a (nI 0) o_ts o_pl o_nf o_ne o_rf o_re o_ac o_cm o_sd o_wf o_sm o_sf o_rm o_rs  x (by omega)) k_RX6_167 hy_X6_noField (by decide) (range_at _ _) (range_nd _) 0 rfl rfl nX6_ahead_7 rfl rfl (Nat.le_of_ble_eq_true rfl) (wput_range _ _ _ (by simp only [List.length_append, wO_len])) ?_
  refine V_blk (ws' := (wO g o_a (nI 0) o_ts o_pl o_nf o_ne o_rf o_re o_ac o_cm o_sd o_wf o_sm o_sf o_rm o_rs) ++ (wML g o_a m_pl m_yl m_nd m_hm m_wk m_kd) ++ (wI g (o_a 10) 29 g_f) ++ (wI g (o_a 11) 29 y_f) ++ (wI g (o_a 17) 5 r_f)) [wO g o_a (nI 0) o_ts o_pl o_nf o_ne o_rf o_re o_ac o_cm o_sd o_wf o_sm o_sf o_rm o_rs, wML g o_a m_pl m_yl m_nd m_hm m_wk m_kd, wI g (o_a 10) 29 g_f, wI g (o_a 11) 29 y_f, wI g (o_a 17) 5 r_f] [0, 1, 2, 3, 4] rfl (by simp only [List.flatten_cons, List.flatten_nil, List.append_nil, List.append_assoc]) (by show List.flatten [wO g o_a (nI 0) o_ts o_pl o_nf o_ne o_rf o_re o_ac o_cm o_sd o_wf o_sm o_sf o_rm o_rs, wML g o_a m_pl m_yl m_nd m_hm m_wk m_kd, wI g (o_a 10) 29 g_f, wI g (o_a 11) 29 y_f, wI g (o_a 17) 5 r_f] = _; simp only [List.flatten_cons, List.flatten_nil, List.append_nil, List.append_assoc]) ?_
  refine V_if_eq_b (tgt := 15) nX6_ahead_10 rfl (fun h10 => ?_) (fun h10 => ?_)
  · skip
    obtain ⟨a, hf_a, rfl⟩ := nhas h10 (by omega)
    have hix_a : ix (nI a) = a := ix_nI (by omega)
    have hp_a : hasN o_nf (nI a) = true := by rw [Bool.not_eq_false'] at h10; exact h10
    refine V_iload_n nX6_ahead_15 rfl ?_
    refine V_i2l nX6_ahead_16 rfl ?_
    refine V_lconst (v := lN 0) nX6_ahead_17 rfl ?_
    refine V_ldc2 (v := lN 9) ct_RX6_194 nX6_ahead_18 ?_
    refine V_cSi (ws' := (wO g o_a (nI 0) o_ts o_pl o_nf o_ne o_rf o_re o_ac o_cm o_sd o_wf o_sm o_sf o_rm o_rs) ++ (wML g o_a m_pl m_yl m_nd m_hm m_wk m_kd) ++ (wI g (o_a 10) 29 g_f) ++ (wI g (o_a 11) 29 y_f) ++ (wI g (o_a 17) 5 r_f)) [] 3 X (c_X6_in g l   (Int32.toInt64 y) (lN 0) (lN 9) ) k_RX6_75 hy_X6_in.2 (by decide) rfl (by decide) nX6_ahead_21 rfl rfl (Nat.le_of_ble_eq_true rfl) rfl ?_
    refine V_topb (b := rgB y 9) (congrArg bI (inL_rg (by decide) y)) ?_
    refine V_if_ne_b (tgt := 30) nX6_ahead_24 rfl (fun h24 => ?_) (fun h24 => ?_)
    · skip
      obtain ⟨m, hf_m, rfl⟩ := rg_t h24 (by decide)
      have hix_m : ix (nI m) = m := ix_nI (by omega)
      refine V_aload_n nX6_ahead_30 rfl ?_
      refine V_blk (ws' := ((wO g o_a (nI 0) o_ts o_pl o_nf o_ne o_rf o_re o_ac o_cm o_sd o_wf o_sm o_sf o_rm o_rs) ++ (wI g (o_a 10) 29 g_f) ++ (wI g (o_a 11) 29 y_f)) ++ ((wML g o_a m_pl m_yl m_nd m_hm m_wk m_kd) ++ (wI g (o_a 17) 5 r_f))) [wO g o_a (nI 0) o_ts o_pl o_nf o_ne o_rf o_re o_ac o_cm o_sd o_wf o_sm o_sf o_rm o_rs, wML g o_a m_pl m_yl m_nd m_hm m_wk m_kd, wI g (o_a 10) 29 g_f, wI g (o_a 11) 29 y_f, wI g (o_a 17) 5 r_f] [0, 2, 3, 1, 4] rfl (by simp only [List.flatten_cons, List.flatten_nil, List.append_nil, List.append_assoc]) (by show List.flatten [wO g o_a (nI 0) o_ts o_pl o_nf o_ne o_rf o_re o_ac o_cm o_sd o_wf o_sm o_sf o_rm o_rs, wI g (o_a 10) 29 g_f, wI g (o_a 11) 29 y_f, wML g o_a m_pl m_yl m_nd m_hm m_wk m_kd, wI g (o_a 17) 5 r_f] = _; simp only [List.flatten_cons, List.flatten_nil, List.append_nil, List.append_assoc]) ?_
      refine V_cVv (C := (RX6, TX6, 34)) (ci := 6) (ws' := ((wO g o_a (nI 0) o_ts o_pl o_nf o_ne o_rf o_re o_ac o_cm o_sd o_wf o_sm o_sf o_rm o_rs) ++ (wI g (o_a 10) 29 g_f) ++ (wI g (o_a 11) 29 g_f)) ++ ((wML g o_a m_pl m_yl m_nd m_hm m_wk m_kd) ++ (wI g (o_a 17) 5 r_f))) (List.range _) 0 X (c_X6_begin g l o_a (nI 0) o_ts o_pl o_nf o_ne o_rf o_re o_ac o_cm o_sd o_wf o_sm o_sf o_rm o_rs g_f y_f   ) k_RX6_152 hy_X6_begin (by decide) (range_at _ _) (range_nd _) 0 rfl rfl nX6_ahead_31 rfl rfl (Nat.le_of_ble_eq_true rfl) (wput_range _ _ _ (by simp only [List.length_append, wI_len, wO_len])) ?_
      refine V_blk (ws' := (wO g o_a (nI 0) o_ts o_pl o_nf o_ne o_rf o_re o_ac o_cm o_sd o_wf o_sm o_sf o_rm o_rs) ++ (wML g o_a m_pl m_yl m_nd m_hm m_wk m_kd) ++ (wI g (o_a 10) 29 g_f) ++ (wI g (o_a 11) 29 g_f) ++ (wI g (o_a 17) 5 r_f)) [wO g o_a (nI 0) o_ts o_pl o_nf o_ne o_rf o_re o_ac o_cm o_sd o_wf o_sm o_sf o_rm o_rs, wI g (o_a 10) 29 g_f, wI g (o_a 11) 29 g_f, wML g o_a m_pl m_yl m_nd m_hm m_wk m_kd, wI g (o_a 17) 5 r_f] [0, 3, 1, 2, 4] rfl (by simp only [List.flatten_cons, List.flatten_nil, List.append_nil, List.append_assoc]) (by show List.flatten [wO g o_a (nI 0) o_ts o_pl o_nf o_ne o_rf o_re o_ac o_cm o_sd o_wf o_sm o_sf o_rm o_rs, wML g o_a m_pl m_yl m_nd m_hm m_wk m_kd, wI g (o_a 10) 29 g_f, wI g (o_a 11) 29 g_f, wI g (o_a 17) 5 r_f] = _; simp only [List.flatten_cons, List.flatten_nil, List.append_nil, List.append_assoc]) ?_
      refine V_iconst (v := (nI 0)) nX6_ahead_34 rfl ?_
      refine V_istore_n (lv' := [(0, .ref (o_a 0)), (1, .int (nI a)), (2, .int (nI m)), (3, .int (nI 0))]) nX6_ahead_35 (by decide) rfl ?_
      have L36 : ∀ (n : Nat) (i : Nat) (r : Nat → Int32) (v : Int32), m - i < n → i ≤ m → V g E mX6_ahead A Q 0 0 ((wO g o_a (nI 0) o_ts o_pl o_nf o_ne o_rf o_re o_ac o_cm o_sd v o_sm o_sf o_rm o_rs) ++ (wML g o_a m_pl m_yl m_nd m_hm m_wk m_kd) ++ (wI g (o_a 10) 29 g_f) ++ (wI g (o_a 11) 29 (ahM o_nf o_ne m_pl m_yl m_nd m_hm m_wk m_kd g_f i)) ++ (wI g (o_a 17) 5 r)) 36 [(0, .ref (o_a 0)), (1, .int (nI a)), (2, .int (nI m)), (3, .int (nI i))] [] := by
        intro n
        induction n with
        | zero => intro i r v hm; exact absurd hm (Nat.not_lt_zero _)
        | succ n ih =>
          intro i r v hm hi
          refine V_iload_n nX6_ahead_36 rfl ?_
          refine V_iload_n nX6_ahead_37 rfl ?_
          refine V_icmp_ge_N (tgt := 67) nX6_ahead_38 rfl (by omega) (by omega) (fun h38 => ?_) (fun h38 => ?_)
          · skip
            have hx_i : m = i := by omega
            subst hx_i
            refine V_aload_n nX6_ahead_67 rfl ?_
            refine V_get6 0 17 (by decide) f_RX6_40 nX6_ahead_68 rfl rfl ?_
            refine V_iload_n nX6_ahead_71 rfl ?_
            refine V_iald 8 nX6_ahead_72 rfl (by omega) (by decide) rfl ?_
            exact R_i rfl X hQ nX6_ahead_73 (by simp only [List.map_append, wI_fst, wML_fst, wO_fst]) (⟨_, _, _, by simp [ahMR, hix_a, hp_a, h24, hix_m, h38], rfl⟩)
          · skip
            refine V_aload_n nX6_ahead_41 rfl ?_
            refine V_aload_n nX6_ahead_42 rfl ?_
            refine V_get6 0 17 (by decide) f_RX6_40 nX6_ahead_43 rfl rfl ?_
            refine V_bipush (v := (nI 31)) nX6_ahead_46 (by decide) ?_
            refine V_blk (ws' := ((wO g o_a (nI 0) o_ts o_pl o_nf o_ne o_rf o_re o_ac o_cm o_sd v o_sm o_sf o_rm o_rs) ++ (wML g o_a m_pl m_yl m_nd m_hm m_wk m_kd) ++ (wI g (o_a 11) 29 (ahM o_nf o_ne m_pl m_yl m_nd m_hm m_wk m_kd g_f i)) ++ (wI g (o_a 17) 5 r)) ++ ((wI g (o_a 10) 29 g_f))) [wO g o_a (nI 0) o_ts o_pl o_nf o_ne o_rf o_re o_ac o_cm o_sd v o_sm o_sf o_rm o_rs, wML g o_a m_pl m_yl m_nd m_hm m_wk m_kd, wI g (o_a 10) 29 g_f, wI g (o_a 11) 29 (ahM o_nf o_ne m_pl m_yl m_nd m_hm m_wk m_kd g_f i), wI g (o_a 17) 5 r] [0, 1, 3, 4, 2] rfl (by simp only [List.flatten_cons, List.flatten_nil, List.append_nil, List.append_assoc]) (by show List.flatten [wO g o_a (nI 0) o_ts o_pl o_nf o_ne o_rf o_re o_ac o_cm o_sd v o_sm o_sf o_rm o_rs, wML g o_a m_pl m_yl m_nd m_hm m_wk m_kd, wI g (o_a 11) 29 (ahM o_nf o_ne m_pl m_yl m_nd m_hm m_wk m_kd g_f i), wI g (o_a 17) 5 r, wI g (o_a 10) 29 g_f] = _; simp only [List.flatten_cons, List.flatten_nil, List.append_nil, List.append_assoc]) ?_
            refine V_cVi (C := (RX6, TX6, 34)) (ci := 6) (ws' := ((wO g o_a (nI 0) o_ts o_pl o_nf o_ne o_rf o_re o_ac o_cm o_sd ((mrP m_pl m_hm m_wk m_kd o_nf 31 ((ahM o_nf o_ne m_pl m_yl m_nd m_hm m_wk m_kd g_f i), r, v) o_ne).2.2) o_sm o_sf o_rm o_rs) ++ (wML g o_a m_pl m_yl m_nd m_hm m_wk m_kd) ++ (wI g (o_a 11) 29 (mqP m_pl m_hm m_wk m_kd o_nf 31 (ahM o_nf o_ne m_pl m_yl m_nd m_hm m_wk m_kd g_f i) o_ne)) ++ (wI g (o_a 17) 5 ((mrP m_pl m_hm m_wk m_kd o_nf 31 ((ahM o_nf o_ne m_pl m_yl m_nd m_hm m_wk m_kd g_f i), r, v) o_ne).2.1))) ++ ((wI g (o_a 10) 29 g_f))) (List.range _) 2 X (c_X6_goMarch g l o_a (nI 0) o_ts o_pl o_nf o_ne o_rf o_re o_ac o_cm o_sd v o_sm o_sf o_rm o_rs m_pl m_yl m_nd m_hm m_wk m_kd (o_a 11) (ahM o_nf o_ne m_pl m_yl m_nd m_hm m_wk m_kd g_f i) r  31 (by omega) (by omega) (by decide)) k_RX6_155 hy_X6_goMarch (by decide) (range_at _ _) (range_nd _) 0 rfl rfl nX6_ahead_48 rfl rfl (Nat.le_of_ble_eq_true rfl) (wput_range _ _ _ (by simp only [List.length_append, wI_len, wML_len, wO_len])) ?_
            refine V_blk (ws' := (wO g o_a (nI 0) o_ts o_pl o_nf o_ne o_rf o_re o_ac o_cm o_sd ((mrP m_pl m_hm m_wk m_kd o_nf 31 ((ahM o_nf o_ne m_pl m_yl m_nd m_hm m_wk m_kd g_f i), r, v) o_ne).2.2) o_sm o_sf o_rm o_rs) ++ (wML g o_a m_pl m_yl m_nd m_hm m_wk m_kd) ++ (wI g (o_a 10) 29 g_f) ++ (wI g (o_a 11) 29 (mqP m_pl m_hm m_wk m_kd o_nf 31 (ahM o_nf o_ne m_pl m_yl m_nd m_hm m_wk m_kd g_f i) o_ne)) ++ (wI g (o_a 17) 5 ((mrP m_pl m_hm m_wk m_kd o_nf 31 ((ahM o_nf o_ne m_pl m_yl m_nd m_hm m_wk m_kd g_f i), r, v) o_ne).2.1))) [wO g o_a (nI 0) o_ts o_pl o_nf o_ne o_rf o_re o_ac o_cm o_sd ((mrP m_pl m_hm m_wk m_kd o_nf 31 ((ahM o_nf o_ne m_pl m_yl m_nd m_hm m_wk m_kd g_f i), r, v) o_ne).2.2) o_sm o_sf o_rm o_rs, wML g o_a m_pl m_yl m_nd m_hm m_wk m_kd, wI g (o_a 11) 29 (mqP m_pl m_hm m_wk m_kd o_nf 31 (ahM o_nf o_ne m_pl m_yl m_nd m_hm m_wk m_kd g_f i) o_ne), wI g (o_a 17) 5 ((mrP m_pl m_hm m_wk m_kd o_nf 31 ((ahM o_nf o_ne m_pl m_yl m_nd m_hm m_wk m_kd g_f i), r, v) o_ne).2.1), wI g (o_a 10) 29 g_f] [0, 1, 4, 2, 3] rfl (by simp only [List.flatten_cons, List.flatten_nil, List.append_nil, List.append_assoc]) (by show List.flatten [wO g o_a (nI 0) o_ts o_pl o_nf o_ne o_rf o_re o_ac o_cm o_sd ((mrP m_pl m_hm m_wk m_kd o_nf 31 ((ahM o_nf o_ne m_pl m_yl m_nd m_hm m_wk m_kd g_f i), r, v) o_ne).2.2) o_sm o_sf o_rm o_rs, wML g o_a m_pl m_yl m_nd m_hm m_wk m_kd, wI g (o_a 10) 29 g_f, wI g (o_a 11) 29 (mqP m_pl m_hm m_wk m_kd o_nf 31 (ahM o_nf o_ne m_pl m_yl m_nd m_hm m_wk m_kd g_f i) o_ne), wI g (o_a 17) 5 ((mrP m_pl m_hm m_wk m_kd o_nf 31 ((ahM o_nf o_ne m_pl m_yl m_nd m_hm m_wk m_kd g_f i), r, v) o_ne).2.1)] = _; simp only [List.flatten_cons, List.flatten_nil, List.append_nil, List.append_assoc]) ?_
            refine V_pop nX6_ahead_51 rfl ?_
            refine V_aload_n nX6_ahead_52 rfl ?_
            refine V_aload_n nX6_ahead_53 rfl ?_
            refine V_get6 0 17 (by decide) f_RX6_40 nX6_ahead_54 rfl rfl ?_
            refine V_blk (ws' := ((wO g o_a (nI 0) o_ts o_pl o_nf o_ne o_rf o_re o_ac o_cm o_sd ((mrP m_pl m_hm m_wk m_kd o_nf 31 ((ahM o_nf o_ne m_pl m_yl m_nd m_hm m_wk m_kd g_f i), r, v) o_ne).2.2) o_sm o_sf o_rm o_rs) ++ (wML g o_a m_pl m_yl m_nd m_hm m_wk m_kd) ++ (wI g (o_a 11) 29 (mqP m_pl m_hm m_wk m_kd o_nf 31 (ahM o_nf o_ne m_pl m_yl m_nd m_hm m_wk m_kd g_f i) o_ne))) ++ ((wI g (o_a 10) 29 g_f) ++ (wI g (o_a 17) 5 ((mrP m_pl m_hm m_wk m_kd o_nf 31 ((ahM o_nf o_ne m_pl m_yl m_nd m_hm m_wk m_kd g_f i), r, v) o_ne).2.1)))) [wO g o_a (nI 0) o_ts o_pl o_nf o_ne o_rf o_re o_ac o_cm o_sd ((mrP m_pl m_hm m_wk m_kd o_nf 31 ((ahM o_nf o_ne m_pl m_yl m_nd m_hm m_wk m_kd g_f i), r, v) o_ne).2.2) o_sm o_sf o_rm o_rs, wML g o_a m_pl m_yl m_nd m_hm m_wk m_kd, wI g (o_a 10) 29 g_f, wI g (o_a 11) 29 (mqP m_pl m_hm m_wk m_kd o_nf 31 (ahM o_nf o_ne m_pl m_yl m_nd m_hm m_wk m_kd g_f i) o_ne), wI g (o_a 17) 5 ((mrP m_pl m_hm m_wk m_kd o_nf 31 ((ahM o_nf o_ne m_pl m_yl m_nd m_hm m_wk m_kd g_f i), r, v) o_ne).2.1)] [0, 1, 3, 2, 4] rfl (by simp only [List.flatten_cons, List.flatten_nil, List.append_nil, List.append_assoc]) (by show List.flatten [wO g o_a (nI 0) o_ts o_pl o_nf o_ne o_rf o_re o_ac o_cm o_sd ((mrP m_pl m_hm m_wk m_kd o_nf 31 ((ahM o_nf o_ne m_pl m_yl m_nd m_hm m_wk m_kd g_f i), r, v) o_ne).2.2) o_sm o_sf o_rm o_rs, wML g o_a m_pl m_yl m_nd m_hm m_wk m_kd, wI g (o_a 11) 29 (mqP m_pl m_hm m_wk m_kd o_nf 31 (ahM o_nf o_ne m_pl m_yl m_nd m_hm m_wk m_kd g_f i) o_ne), wI g (o_a 10) 29 g_f, wI g (o_a 17) 5 ((mrP m_pl m_hm m_wk m_kd o_nf 31 ((ahM o_nf o_ne m_pl m_yl m_nd m_hm m_wk m_kd g_f i), r, v) o_ne).2.1)] = _; simp only [List.flatten_cons, List.flatten_nil, List.append_nil, List.append_assoc]) ?_
            refine V_cVi (C := (RX6, TX6, 34)) (ci := 6) (ws' := ((wO g o_a (nI 0) o_ts o_pl o_nf o_ne o_rf o_re o_ac o_cm o_sd ((mrP m_pl m_hm m_wk m_kd o_nf 31 ((ahM o_nf o_ne m_pl m_yl m_nd m_hm m_wk m_kd g_f i), r, v) o_ne).2.2) o_sm o_sf o_rm o_rs) ++ (wML g o_a m_pl m_yl m_nd m_hm m_wk m_kd) ++ (wI g (o_a 11) 29 (hvQ m_yl m_nd (mqP m_pl m_hm m_wk m_kd o_nf 31 (ahM o_nf o_ne m_pl m_yl m_nd m_hm m_wk m_kd g_f i) o_ne) o_nf))) ++ ((wI g (o_a 10) 29 g_f) ++ (wI g (o_a 17) 5 ((mrP m_pl m_hm m_wk m_kd o_nf 31 ((ahM o_nf o_ne m_pl m_yl m_nd m_hm m_wk m_kd g_f i), r, v) o_ne).2.1)))) (List.range _) 1 X (c_X6_goHarvest g l o_a (nI 0) o_ts o_pl o_nf o_ne o_rf o_re o_ac o_cm o_sd ((mrP m_pl m_hm m_wk m_kd o_nf 31 ((ahM o_nf o_ne m_pl m_yl m_nd m_hm m_wk m_kd g_f i), r, v) o_ne).2.2) o_sm o_sf o_rm o_rs m_pl m_yl m_nd m_hm m_wk m_kd (o_a 11) (mqP m_pl m_hm m_wk m_kd o_nf 31 (ahM o_nf o_ne m_pl m_yl m_nd m_hm m_wk m_kd g_f i) o_ne)   (by omega)) k_RX6_191 hy_X6_goHarvest (by decide) (range_at _ _) (range_nd _) 0 rfl rfl nX6_ahead_57 rfl rfl (Nat.le_of_ble_eq_true rfl) (wput_range _ _ _ (by simp only [List.length_append, wI_len, wML_len, wO_len])) ?_
            refine V_blk (ws' := (wO g o_a (nI 0) o_ts o_pl o_nf o_ne o_rf o_re o_ac o_cm o_sd ((mrP m_pl m_hm m_wk m_kd o_nf 31 ((ahM o_nf o_ne m_pl m_yl m_nd m_hm m_wk m_kd g_f i), r, v) o_ne).2.2) o_sm o_sf o_rm o_rs) ++ (wML g o_a m_pl m_yl m_nd m_hm m_wk m_kd) ++ (wI g (o_a 10) 29 g_f) ++ (wI g (o_a 11) 29 (hvQ m_yl m_nd (mqP m_pl m_hm m_wk m_kd o_nf 31 (ahM o_nf o_ne m_pl m_yl m_nd m_hm m_wk m_kd g_f i) o_ne) o_nf)) ++ (wI g (o_a 17) 5 ((mrP m_pl m_hm m_wk m_kd o_nf 31 ((ahM o_nf o_ne m_pl m_yl m_nd m_hm m_wk m_kd g_f i), r, v) o_ne).2.1))) [wO g o_a (nI 0) o_ts o_pl o_nf o_ne o_rf o_re o_ac o_cm o_sd ((mrP m_pl m_hm m_wk m_kd o_nf 31 ((ahM o_nf o_ne m_pl m_yl m_nd m_hm m_wk m_kd g_f i), r, v) o_ne).2.2) o_sm o_sf o_rm o_rs, wML g o_a m_pl m_yl m_nd m_hm m_wk m_kd, wI g (o_a 11) 29 (hvQ m_yl m_nd (mqP m_pl m_hm m_wk m_kd o_nf 31 (ahM o_nf o_ne m_pl m_yl m_nd m_hm m_wk m_kd g_f i) o_ne) o_nf), wI g (o_a 10) 29 g_f, wI g (o_a 17) 5 ((mrP m_pl m_hm m_wk m_kd o_nf 31 ((ahM o_nf o_ne m_pl m_yl m_nd m_hm m_wk m_kd g_f i), r, v) o_ne).2.1)] [0, 1, 3, 2, 4] rfl (by simp only [List.flatten_cons, List.flatten_nil, List.append_nil, List.append_assoc]) (by show List.flatten [wO g o_a (nI 0) o_ts o_pl o_nf o_ne o_rf o_re o_ac o_cm o_sd ((mrP m_pl m_hm m_wk m_kd o_nf 31 ((ahM o_nf o_ne m_pl m_yl m_nd m_hm m_wk m_kd g_f i), r, v) o_ne).2.2) o_sm o_sf o_rm o_rs, wML g o_a m_pl m_yl m_nd m_hm m_wk m_kd, wI g (o_a 10) 29 g_f, wI g (o_a 11) 29 (hvQ m_yl m_nd (mqP m_pl m_hm m_wk m_kd o_nf 31 (ahM o_nf o_ne m_pl m_yl m_nd m_hm m_wk m_kd g_f i) o_ne) o_nf), wI g (o_a 17) 5 ((mrP m_pl m_hm m_wk m_kd o_nf 31 ((ahM o_nf o_ne m_pl m_yl m_nd m_hm m_wk m_kd g_f i), r, v) o_ne).2.1)] = _; simp only [List.flatten_cons, List.flatten_nil, List.append_nil, List.append_assoc]) ?_
            refine V_pop nX6_ahead_60 rfl ?_
            refine V_iinc (v := nI (i + 1)) (lv' := [(0, .ref (o_a 0)), (1, .int (nI a)), (2, .int (nI m)), (3, .int (nI (i + 1)))]) nX6_ahead_61 rfl (nI_add i 1) (by decide) rfl ?_
            refine V_goto (tgt := 36) nX6_ahead_64 rfl ?_
            exact ih (i + 1) ((mrP m_pl m_hm m_wk m_kd o_nf 31 ((ahM o_nf o_ne m_pl m_yl m_nd m_hm m_wk m_kd g_f i), r, v) o_ne).2.1) ((mrP m_pl m_hm m_wk m_kd o_nf 31 ((ahM o_nf o_ne m_pl m_yl m_nd m_hm m_wk m_kd g_f i), r, v) o_ne).2.2) (by omega) (by omega)
      exact L36 _ 0 r_f o_wf (Nat.lt_succ_self _) (by omega)
    · skip
      refine V_bipush (v := (-2)) nX6_ahead_27 (by decide) ?_
      exact R_i rfl X hQ nX6_ahead_29 (by simp only [List.map_append, wI_fst, wML_fst, wO_fst]) (⟨_, _, _, by simp [ahMR, hix_a, hp_a, h24], rfl⟩)
  · skip
    have hn_a : hasN o_nf x = false := by rw [Bool.not_eq_true'] at h10; exact h10
    refine V_iconst (v := (-1)) nX6_ahead_13 (by decide) ?_
    exact R_i rfl X hQ nX6_ahead_14 (by simp only [List.map_append, wI_fst, wML_fst, wO_fst]) (⟨_, _, _, by simp [ahMR, hn_a], rfl⟩)

set_option maxHeartbeats 4000000 in
set_option maxRecDepth 100000 in
theorem c_X6_isSownBy (g : Gx) (l : Launch) (o_a : Nat → Nat) (o_th : Int32) (o_ts : Nat) (o_pl : Nat) (o_nf : Nat) (o_ne : Nat) (o_rf : Nat) (o_re : Nat) (o_ac : Nat) (o_cm : Nat) (o_sd : Int64) (o_wf : Int32) (o_sm : Int32) (o_sf : Int32) (o_rm : Int32) (o_rs : Int32) (m_pl : Nat → Int32) (m_yl : Nat → Int32) (m_nd : Nat → Int32) (m_hm : Nat → Int32) (m_wk : Nat → Int32) (m_kd : Nat → Int32) (g_f : Nat → Int32) (y_f : Nat → Int32) (r_f : Nat → Int32)  (s : Nat) (f : Nat) (hnf : o_nf ≤ 4) (hne : o_ne ≤ 5) (hf : f < 4) (hs : s < 2 ^ 31) : Ct g l yX6_isSownBy mX6_isSownBy ({ frames := 4, cells := 0, slots := 0, locals := 99 } : Room) [.ref (o_a 0), .int (nI s), .int (nI f)] ((wO g o_a o_th o_ts o_pl o_nf o_ne o_rf o_re o_ac o_cm o_sd o_wf o_sm o_sf o_rm o_rs) ++ (wML g o_a m_pl m_yl m_nd m_hm m_wk m_kd) ++ (wI g (o_a 10) 29 g_f) ++ (wI g (o_a 11) 29 y_f) ++ (wI g (o_a 17) 5 r_f)) (fun r w' => ∃ (z_y : Nat → Int32) (z_r : Nat → Int32) (z_w : Int32), r = (some (.int (bI (sfB o_nf o_ne m_pl m_nd m_hm m_wk m_kd s f g_f)))) ∧ w' = (wO g o_a o_th o_ts o_pl o_nf o_ne o_rf o_re o_ac o_cm o_sd z_w o_sm o_sf o_rm o_rs) ++ (wML g o_a m_pl m_yl m_nd m_hm m_wk m_kd) ++ (wI g (o_a 10) 29 g_f) ++ (wI g (o_a 11) 29 z_y) ++ (wI g (o_a 17) 5 z_r)) := by
  refine Ct.of (lv := [(0, .ref (o_a 0)), (1, .int (nI s)), (2, .int (nI f))]) ⟨by decide +kernel, rfl, Nat.le_of_ble_eq_true rfl⟩ rfl (fun E A sz Q X hQ => ?_)
  refine V_aload_n nX6_isSownBy_0 rfl ?_
  refine V_blk (ws' := ((wO g o_a o_th o_ts o_pl o_nf o_ne o_rf o_re o_ac o_cm o_sd o_wf o_sm o_sf o_rm o_rs) ++ (wI g (o_a 10) 29 g_f) ++ (wI g (o_a 11) 29 y_f)) ++ ((wML g o_a m_pl m_yl m_nd m_hm m_wk m_kd) ++ (wI g (o_a 17) 5 r_f))) [wO g o_a o_th o_ts o_pl o_nf o_ne o_rf o_re o_ac o_cm o_sd o_wf o_sm o_sf o_rm o_rs, wML g o_a m_pl m_yl m_nd m_hm m_wk m_kd, wI g (o_a 10) 29 g_f, wI g (o_a 11) 29 y_f, wI g (o_a 17) 5 r_f] [0, 2, 3, 1, 4] rfl (by simp only [List.flatten_cons, List.flatten_nil, List.append_nil, List.append_assoc]) (by show List.flatten [wO g o_a o_th o_ts o_pl o_nf o_ne o_rf o_re o_ac o_cm o_sd o_wf o_sm o_sf o_rm o_rs, wI g (o_a 10) 29 g_f, wI g (o_a 11) 29 y_f, wML g o_a m_pl m_yl m_nd m_hm m_wk m_kd, wI g (o_a 17) 5 r_f] = _; simp only [List.flatten_cons, List.flatten_nil, List.append_nil, List.append_assoc]) ?_
  refine V_cVv (C := (RX6, TX6, 34)) (ci := 6) (ws' := ((wO g o_a o_th o_ts o_pl o_nf o_ne o_rf o_re o_ac o_cm o_sd o_wf o_sm o_sf o_rm o_rs) ++ (wI g (o_a 10) 29 g_f) ++ (wI g (o_a 11) 29 g_f)) ++ ((wML g o_a m_pl m_yl m_nd m_hm m_wk m_kd) ++ (wI g (o_a 17) 5 r_f))) (List.range _) 0 X (c_X6_begin g l o_a o_th o_ts o_pl o_nf o_ne o_rf o_re o_ac o_cm o_sd o_wf o_sm o_sf o_rm o_rs g_f y_f   ) k_RX6_152 hy_X6_begin (by decide) (range_at _ _) (range_nd _) 0 rfl rfl nX6_isSownBy_1 rfl rfl (Nat.le_of_ble_eq_true rfl) (wput_range _ _ _ (by simp only [List.length_append, wI_len, wO_len])) ?_
  refine V_blk (ws' := (wO g o_a o_th o_ts o_pl o_nf o_ne o_rf o_re o_ac o_cm o_sd o_wf o_sm o_sf o_rm o_rs) ++ (wML g o_a m_pl m_yl m_nd m_hm m_wk m_kd) ++ (wI g (o_a 10) 29 g_f) ++ (wI g (o_a 11) 29 g_f) ++ (wI g (o_a 17) 5 r_f)) [wO g o_a o_th o_ts o_pl o_nf o_ne o_rf o_re o_ac o_cm o_sd o_wf o_sm o_sf o_rm o_rs, wI g (o_a 10) 29 g_f, wI g (o_a 11) 29 g_f, wML g o_a m_pl m_yl m_nd m_hm m_wk m_kd, wI g (o_a 17) 5 r_f] [0, 3, 1, 2, 4] rfl (by simp only [List.flatten_cons, List.flatten_nil, List.append_nil, List.append_assoc]) (by show List.flatten [wO g o_a o_th o_ts o_pl o_nf o_ne o_rf o_re o_ac o_cm o_sd o_wf o_sm o_sf o_rm o_rs, wML g o_a m_pl m_yl m_nd m_hm m_wk m_kd, wI g (o_a 10) 29 g_f, wI g (o_a 11) 29 g_f, wI g (o_a 17) 5 r_f] = _; simp only [List.flatten_cons, List.flatten_nil, List.append_nil, List.append_assoc]) ?_
  refine V_iconst (v := (nI 0)) nX6_isSownBy_4 rfl ?_
  refine V_istore_n (lv' := [(0, .ref (o_a 0)), (1, .int (nI s)), (2, .int (nI f)), (3, .int (nI 0))]) nX6_isSownBy_5 (by decide) rfl ?_
  have L6 : ∀ (n : Nat) (i : Nat) (q : Nat → Int32), o_ne - i < n → i ≤ o_ne → sfL m_kd s f g_f i = some q → V g E mX6_isSownBy A Q 0 0 ((wO g o_a o_th o_ts o_pl o_nf o_ne o_rf o_re o_ac o_cm o_sd o_wf o_sm o_sf o_rm o_rs) ++ (wML g o_a m_pl m_yl m_nd m_hm m_wk m_kd) ++ (wI g (o_a 10) 29 g_f) ++ (wI g (o_a 11) 29 q) ++ (wI g (o_a 17) 5 r_f)) 6 [(0, .ref (o_a 0)), (1, .int (nI s)), (2, .int (nI f)), (3, .int (nI i))] [] := by
    intro n
    induction n with
    | zero => intro i q hm; exact absurd hm (Nat.not_lt_zero _)
    | succ n ih =>
      intro i q hm hi hq
      refine V_iload_n nX6_isSownBy_6 rfl ?_
      refine V_aload_n nX6_isSownBy_7 rfl ?_
      refine V_get6 0 8 (by decide) f_RX6_79 nX6_isSownBy_8 rfl rfl ?_
      refine V_icmp_ge_N (tgt := 53) nX6_isSownBy_11 rfl (by omega) (by omega) (fun h11 => ?_) (fun h11 => ?_)
      · skip
        have hx_i : o_ne = i := by omega
        subst hx_i
        refine V_aload_n nX6_isSownBy_53 rfl ?_
        refine V_aload_n nX6_isSownBy_54 rfl ?_
        refine V_get6 0 17 (by decide) f_RX6_40 nX6_isSownBy_55 rfl rfl ?_
        refine V_bipush (v := (nI 31)) nX6_isSownBy_58 (by decide) ?_
        refine V_blk (ws' := ((wO g o_a o_th o_ts o_pl o_nf o_ne o_rf o_re o_ac o_cm o_sd o_wf o_sm o_sf o_rm o_rs) ++ (wML g o_a m_pl m_yl m_nd m_hm m_wk m_kd) ++ (wI g (o_a 11) 29 q) ++ (wI g (o_a 17) 5 r_f)) ++ ((wI g (o_a 10) 29 g_f))) [wO g o_a o_th o_ts o_pl o_nf o_ne o_rf o_re o_ac o_cm o_sd o_wf o_sm o_sf o_rm o_rs, wML g o_a m_pl m_yl m_nd m_hm m_wk m_kd, wI g (o_a 10) 29 g_f, wI g (o_a 11) 29 q, wI g (o_a 17) 5 r_f] [0, 1, 3, 4, 2] rfl (by simp only [List.flatten_cons, List.flatten_nil, List.append_nil, List.append_assoc]) (by show List.flatten [wO g o_a o_th o_ts o_pl o_nf o_ne o_rf o_re o_ac o_cm o_sd o_wf o_sm o_sf o_rm o_rs, wML g o_a m_pl m_yl m_nd m_hm m_wk m_kd, wI g (o_a 11) 29 q, wI g (o_a 17) 5 r_f, wI g (o_a 10) 29 g_f] = _; simp only [List.flatten_cons, List.flatten_nil, List.append_nil, List.append_assoc]) ?_
        refine V_cVi (C := (RX6, TX6, 34)) (ci := 6) (ws' := ((wO g o_a o_th o_ts o_pl o_nf o_ne o_rf o_re o_ac o_cm o_sd ((mrP m_pl m_hm m_wk m_kd o_nf 31 (q, r_f, o_wf) o_ne).2.2) o_sm o_sf o_rm o_rs) ++ (wML g o_a m_pl m_yl m_nd m_hm m_wk m_kd) ++ (wI g (o_a 11) 29 (mqP m_pl m_hm m_wk m_kd o_nf 31 q o_ne)) ++ (wI g (o_a 17) 5 ((mrP m_pl m_hm m_wk m_kd o_nf 31 (q, r_f, o_wf) o_ne).2.1))) ++ ((wI g (o_a 10) 29 g_f))) (List.range _) 2 X (c_X6_goMarch g l o_a o_th o_ts o_pl o_nf o_ne o_rf o_re o_ac o_cm o_sd o_wf o_sm o_sf o_rm o_rs m_pl m_yl m_nd m_hm m_wk m_kd (o_a 11) q r_f  31 (by omega) (by omega) (by decide)) k_RX6_155 hy_X6_goMarch (by decide) (range_at _ _) (range_nd _) 0 rfl rfl nX6_isSownBy_60 rfl rfl (Nat.le_of_ble_eq_true rfl) (wput_range _ _ _ (by simp only [List.length_append, wI_len, wML_len, wO_len])) ?_
        refine V_blk (ws' := (wO g o_a o_th o_ts o_pl o_nf o_ne o_rf o_re o_ac o_cm o_sd ((mrP m_pl m_hm m_wk m_kd o_nf 31 (q, r_f, o_wf) o_ne).2.2) o_sm o_sf o_rm o_rs) ++ (wML g o_a m_pl m_yl m_nd m_hm m_wk m_kd) ++ (wI g (o_a 10) 29 g_f) ++ (wI g (o_a 11) 29 (mqP m_pl m_hm m_wk m_kd o_nf 31 q o_ne)) ++ (wI g (o_a 17) 5 ((mrP m_pl m_hm m_wk m_kd o_nf 31 (q, r_f, o_wf) o_ne).2.1))) [wO g o_a o_th o_ts o_pl o_nf o_ne o_rf o_re o_ac o_cm o_sd ((mrP m_pl m_hm m_wk m_kd o_nf 31 (q, r_f, o_wf) o_ne).2.2) o_sm o_sf o_rm o_rs, wML g o_a m_pl m_yl m_nd m_hm m_wk m_kd, wI g (o_a 11) 29 (mqP m_pl m_hm m_wk m_kd o_nf 31 q o_ne), wI g (o_a 17) 5 ((mrP m_pl m_hm m_wk m_kd o_nf 31 (q, r_f, o_wf) o_ne).2.1), wI g (o_a 10) 29 g_f] [0, 1, 4, 2, 3] rfl (by simp only [List.flatten_cons, List.flatten_nil, List.append_nil, List.append_assoc]) (by show List.flatten [wO g o_a o_th o_ts o_pl o_nf o_ne o_rf o_re o_ac o_cm o_sd ((mrP m_pl m_hm m_wk m_kd o_nf 31 (q, r_f, o_wf) o_ne).2.2) o_sm o_sf o_rm o_rs, wML g o_a m_pl m_yl m_nd m_hm m_wk m_kd, wI g (o_a 10) 29 g_f, wI g (o_a 11) 29 (mqP m_pl m_hm m_wk m_kd o_nf 31 q o_ne), wI g (o_a 17) 5 ((mrP m_pl m_hm m_wk m_kd o_nf 31 (q, r_f, o_wf) o_ne).2.1)] = _; simp only [List.flatten_cons, List.flatten_nil, List.append_nil, List.append_assoc]) ?_
        refine V_iload_n nX6_isSownBy_63 rfl ?_
        refine V_cSi (ws' := (wO g o_a o_th o_ts o_pl o_nf o_ne o_rf o_re o_ac o_cm o_sd ((mrP m_pl m_hm m_wk m_kd o_nf 31 (q, r_f, o_wf) o_ne).2.2) o_sm o_sf o_rm o_rs) ++ (wML g o_a m_pl m_yl m_nd m_hm m_wk m_kd) ++ (wI g (o_a 10) 29 g_f) ++ (wI g (o_a 11) 29 (mqP m_pl m_hm m_wk m_kd o_nf 31 q o_ne)) ++ (wI g (o_a 17) 5 ((mrP m_pl m_hm m_wk m_kd o_nf 31 (q, r_f, o_wf) o_ne).2.1))) [] 2 X (c_X6_has g l   (swP m_nd (mqP m_pl m_hm m_wk m_kd o_nf 31 q o_ne) o_nf) f (Nat.lt_trans (swP_lt hnf _ _) (by decide)) (by omega)) k_RX6_134 hy_X6_has.2 (by decide) rfl (by decide) nX6_isSownBy_64 rfl rfl (Nat.le_of_ble_eq_true rfl) rfl ?_
        exact R_z rfl X hQ nX6_isSownBy_67 (by simp only [List.map_append, wI_fst, wML_fst, wO_fst]) (⟨_, _, _, by rw [sfB_yes hq], rfl⟩)
      · skip
        refine V_iload_n nX6_isSownBy_14 rfl ?_
        refine V_iload_n nX6_isSownBy_15 rfl ?_
        refine V_cSi (ws' := (wO g o_a o_th o_ts o_pl o_nf o_ne o_rf o_re o_ac o_cm o_sd o_wf o_sm o_sf o_rm o_rs) ++ (wML g o_a m_pl m_yl m_nd m_hm m_wk m_kd) ++ (wI g (o_a 10) 29 g_f) ++ (wI g (o_a 11) 29 q) ++ (wI g (o_a 17) 5 r_f)) [] 2 X (c_X6_has g l   s i (by omega) (by omega)) k_RX6_134 hy_X6_has.2 (by decide) rfl (by decide) nX6_isSownBy_16 rfl rfl (Nat.le_of_ble_eq_true rfl) rfl ?_
        refine V_if_eq_b (tgt := 47) nX6_isSownBy_19 rfl (fun h19 => ?_) (fun h19 => ?_)
        · skip
          refine V_iinc (v := nI (i + 1)) (lv' := [(0, .ref (o_a 0)), (1, .int (nI s)), (2, .int (nI f)), (3, .int (nI (i + 1)))]) nX6_isSownBy_47 rfl (nI_add i 1) (by decide) rfl ?_
          refine V_goto (tgt := 6) nX6_isSownBy_50 rfl ?_
          exact ih (i + 1) q (by omega) (by omega) (sfL_skip hq h19)
        · skip
          refine V_aload_n nX6_isSownBy_22 rfl ?_
          refine V_aload_n nX6_isSownBy_23 rfl ?_
          refine V_get6 0 17 (by decide) f_RX6_40 nX6_isSownBy_24 rfl rfl ?_
          refine V_iload_n nX6_isSownBy_27 rfl ?_
          refine V_iload_n nX6_isSownBy_28 rfl ?_
          refine V_blk (ws' := ((wO g o_a o_th o_ts o_pl o_nf o_ne o_rf o_re o_ac o_cm o_sd o_wf o_sm o_sf o_rm o_rs) ++ (wML g o_a m_pl m_yl m_nd m_hm m_wk m_kd) ++ (wI g (o_a 11) 29 q)) ++ ((wI g (o_a 10) 29 g_f) ++ (wI g (o_a 17) 5 r_f))) [wO g o_a o_th o_ts o_pl o_nf o_ne o_rf o_re o_ac o_cm o_sd o_wf o_sm o_sf o_rm o_rs, wML g o_a m_pl m_yl m_nd m_hm m_wk m_kd, wI g (o_a 10) 29 g_f, wI g (o_a 11) 29 q, wI g (o_a 17) 5 r_f] [0, 1, 3, 2, 4] rfl (by simp only [List.flatten_cons, List.flatten_nil, List.append_nil, List.append_assoc]) (by show List.flatten [wO g o_a o_th o_ts o_pl o_nf o_ne o_rf o_re o_ac o_cm o_sd o_wf o_sm o_sf o_rm o_rs, wML g o_a m_pl m_yl m_nd m_hm m_wk m_kd, wI g (o_a 11) 29 q, wI g (o_a 10) 29 g_f, wI g (o_a 17) 5 r_f] = _; simp only [List.flatten_cons, List.flatten_nil, List.append_nil, List.append_assoc]) ?_
          refine V_cVi (C := (RX6, TX6, 34)) (ci := 6) (ws' := ((wO g o_a o_th o_ts o_pl o_nf o_ne o_rf o_re o_ac o_cm o_sd o_wf o_sm o_sf o_rm o_rs) ++ (wML g o_a m_pl m_yl m_nd m_hm m_wk m_kd) ++ (wI g (o_a 11) 29 q)) ++ ((wI g (o_a 10) 29 g_f) ++ (wI g (o_a 17) 5 r_f))) (List.range _) 3 X (c_X6_canEat g l o_a o_th o_ts o_pl o_nf o_ne o_rf o_re o_ac o_cm o_sd o_wf o_sm o_sf o_rm o_rs m_pl m_yl m_nd m_hm m_wk m_kd (o_a 11) q  i f (by omega) (by omega)) k_RX6_180 hy_X6_canEat (by decide) (range_at _ _) (range_nd _) 0 rfl rfl nX6_isSownBy_29 rfl rfl (Nat.le_of_ble_eq_true rfl) (wput_range _ _ _ (by simp only [List.length_append, wI_len, wML_len, wO_len])) ?_
          refine V_blk (ws' := (wO g o_a o_th o_ts o_pl o_nf o_ne o_rf o_re o_ac o_cm o_sd o_wf o_sm o_sf o_rm o_rs) ++ (wML g o_a m_pl m_yl m_nd m_hm m_wk m_kd) ++ (wI g (o_a 10) 29 g_f) ++ (wI g (o_a 11) 29 q) ++ (wI g (o_a 17) 5 r_f)) [wO g o_a o_th o_ts o_pl o_nf o_ne o_rf o_re o_ac o_cm o_sd o_wf o_sm o_sf o_rm o_rs, wML g o_a m_pl m_yl m_nd m_hm m_wk m_kd, wI g (o_a 11) 29 q, wI g (o_a 10) 29 g_f, wI g (o_a 17) 5 r_f] [0, 1, 3, 2, 4] rfl (by simp only [List.flatten_cons, List.flatten_nil, List.append_nil, List.append_assoc]) (by show List.flatten [wO g o_a o_th o_ts o_pl o_nf o_ne o_rf o_re o_ac o_cm o_sd o_wf o_sm o_sf o_rm o_rs, wML g o_a m_pl m_yl m_nd m_hm m_wk m_kd, wI g (o_a 10) 29 g_f, wI g (o_a 11) 29 q, wI g (o_a 17) 5 r_f] = _; simp only [List.flatten_cons, List.flatten_nil, List.append_nil, List.append_assoc]) ?_
          refine V_if_ne_b (tgt := 37) nX6_isSownBy_32 rfl (fun h32 => ?_) (fun h32 => ?_)
          · skip
            refine V_aload_n nX6_isSownBy_37 rfl ?_
            refine V_aload_n nX6_isSownBy_38 rfl ?_
            refine V_get6 0 17 (by decide) f_RX6_40 nX6_isSownBy_39 rfl rfl ?_
            refine V_iload_n nX6_isSownBy_42 rfl ?_
            refine V_iload_n nX6_isSownBy_43 rfl ?_
            refine V_blk (ws' := ((wO g o_a o_th o_ts o_pl o_nf o_ne o_rf o_re o_ac o_cm o_sd o_wf o_sm o_sf o_rm o_rs) ++ (wML g o_a m_pl m_yl m_nd m_hm m_wk m_kd) ++ (wI g (o_a 11) 29 q)) ++ ((wI g (o_a 10) 29 g_f) ++ (wI g (o_a 17) 5 r_f))) [wO g o_a o_th o_ts o_pl o_nf o_ne o_rf o_re o_ac o_cm o_sd o_wf o_sm o_sf o_rm o_rs, wML g o_a m_pl m_yl m_nd m_hm m_wk m_kd, wI g (o_a 10) 29 g_f, wI g (o_a 11) 29 q, wI g (o_a 17) 5 r_f] [0, 1, 3, 2, 4] rfl (by simp only [List.flatten_cons, List.flatten_nil, List.append_nil, List.append_assoc]) (by show List.flatten [wO g o_a o_th o_ts o_pl o_nf o_ne o_rf o_re o_ac o_cm o_sd o_wf o_sm o_sf o_rm o_rs, wML g o_a m_pl m_yl m_nd m_hm m_wk m_kd, wI g (o_a 11) 29 q, wI g (o_a 10) 29 g_f, wI g (o_a 17) 5 r_f] = _; simp only [List.flatten_cons, List.flatten_nil, List.append_nil, List.append_assoc]) ?_
            refine V_cVv (C := (RX6, TX6, 34)) (ci := 6) (ws' := ((wO g o_a o_th o_ts o_pl o_nf o_ne o_rf o_re o_ac o_cm o_sd o_wf o_sm o_sf o_rm o_rs) ++ (wML g o_a m_pl m_yl m_nd m_hm m_wk m_kd) ++ (wI g (o_a 11) 29 (geP m_kd q i f))) ++ ((wI g (o_a 10) 29 g_f) ++ (wI g (o_a 17) 5 r_f))) (List.range _) 3 X (c_X6_goEat g l o_a o_th o_ts o_pl o_nf o_ne o_rf o_re o_ac o_cm o_sd o_wf o_sm o_sf o_rm o_rs m_pl m_yl m_nd m_hm m_wk m_kd (o_a 11) q  i f (by omega) (by omega)) k_RX6_187 hy_X6_goEat (by decide) (range_at _ _) (range_nd _) 0 rfl rfl nX6_isSownBy_44 rfl rfl (Nat.le_of_ble_eq_true rfl) (wput_range _ _ _ (by simp only [List.length_append, wI_len, wML_len, wO_len])) ?_
            refine V_blk (ws' := (wO g o_a o_th o_ts o_pl o_nf o_ne o_rf o_re o_ac o_cm o_sd o_wf o_sm o_sf o_rm o_rs) ++ (wML g o_a m_pl m_yl m_nd m_hm m_wk m_kd) ++ (wI g (o_a 10) 29 g_f) ++ (wI g (o_a 11) 29 (geP m_kd q i f)) ++ (wI g (o_a 17) 5 r_f)) [wO g o_a o_th o_ts o_pl o_nf o_ne o_rf o_re o_ac o_cm o_sd o_wf o_sm o_sf o_rm o_rs, wML g o_a m_pl m_yl m_nd m_hm m_wk m_kd, wI g (o_a 11) 29 (geP m_kd q i f), wI g (o_a 10) 29 g_f, wI g (o_a 17) 5 r_f] [0, 1, 3, 2, 4] rfl (by simp only [List.flatten_cons, List.flatten_nil, List.append_nil, List.append_assoc]) (by show List.flatten [wO g o_a o_th o_ts o_pl o_nf o_ne o_rf o_re o_ac o_cm o_sd o_wf o_sm o_sf o_rm o_rs, wML g o_a m_pl m_yl m_nd m_hm m_wk m_kd, wI g (o_a 10) 29 g_f, wI g (o_a 11) 29 (geP m_kd q i f), wI g (o_a 17) 5 r_f] = _; simp only [List.flatten_cons, List.flatten_nil, List.append_nil, List.append_assoc]) ?_
            refine V_iinc (v := nI (i + 1)) (lv' := [(0, .ref (o_a 0)), (1, .int (nI s)), (2, .int (nI f)), (3, .int (nI (i + 1)))]) nX6_isSownBy_47 rfl (nI_add i 1) (by decide) rfl ?_
            refine V_goto (tgt := 6) nX6_isSownBy_50 rfl ?_
            exact ih (i + 1) (geP m_kd q i f) (by omega) (by omega) (sfL_yes hq h19 h32)
          · skip
            refine V_iconst (v := (nI 0)) nX6_isSownBy_35 rfl ?_
            refine V_top (y := bI false) rfl ?_
            exact R_z rfl X hQ nX6_isSownBy_36 (by simp only [List.map_append, wI_fst, wML_fst, wO_fst]) (⟨_, _, _, by rw [sfB_no h11 (sfL_no hq h19 h32)], rfl⟩)
  exact L6 _ 0 g_f (Nat.lt_succ_self _) (Nat.zero_le _) (rfl)

set_option maxHeartbeats 4000000 in
set_option maxRecDepth 100000 in
theorem c_X6_wants (g : Gx) (l : Launch) (o_a : Nat → Nat) (o_th : Int32) (o_ts : Nat) (o_pl : Nat) (o_nf : Nat) (o_ne : Nat) (o_rf : Nat) (o_re : Nat) (o_ac : Nat) (o_cm : Nat) (o_sd : Int64) (o_wf : Int32) (o_sm : Int32) (o_sf : Int32) (o_rm : Int32) (o_rs : Int32) (m_pl : Nat → Int32) (m_yl : Nat → Int32) (m_nd : Nat → Int32) (m_hm : Nat → Int32) (m_wk : Nat → Int32) (m_kd : Nat → Int32) (g_f : Nat → Int32) (y_f : Nat → Int32) (r_f : Nat → Int32)  (x : Int32) (hnf : o_nf ≤ 4) (hne : o_ne ≤ 5) : Ct g l yX6_wants mX6_wants ({ frames := 5, cells := 0, slots := 0, locals := 122 } : Room) [.ref (o_a 0), .int x] ((wO g o_a o_th o_ts o_pl o_nf o_ne o_rf o_re o_ac o_cm o_sd o_wf o_sm o_sf o_rm o_rs) ++ (wML g o_a m_pl m_yl m_nd m_hm m_wk m_kd) ++ (wI g (o_a 10) 29 g_f) ++ (wI g (o_a 11) 29 y_f) ++ (wI g (o_a 17) 5 r_f)) (fun r w' => ∃ (z_y : Nat → Int32) (z_r : Nat → Int32) (z_w : Int32), r = (some (.int (waM o_nf o_ne m_pl m_nd m_hm m_wk m_kd g_f x))) ∧ w' = (wO g o_a (nI 0) o_ts o_pl o_nf o_ne o_rf o_re o_ac o_cm o_sd z_w o_sm o_sf o_rm o_rs) ++ (wML g o_a m_pl m_yl m_nd m_hm m_wk m_kd) ++ (wI g (o_a 10) 29 g_f) ++ (wI g (o_a 11) 29 z_y) ++ (wI g (o_a 17) 5 z_r)) := by
  refine Ct.of (lv := [(0, .ref (o_a 0)), (1, .int x)]) ⟨by decide +kernel, rfl, Nat.le_of_ble_eq_true rfl⟩ rfl (fun E A sz Q X hQ => ?_)
  refine V_aload_n nX6_wants_0 rfl ?_
  refine V_iconst (v := (nI 0)) nX6_wants_1 rfl ?_
  refine V_put6 (ws' := (wO g o_a (nI 0) o_ts o_pl o_nf o_ne o_rf o_re o_ac o_cm o_sd o_wf o_sm o_sf o_rm o_rs) ++ (wML g o_a m_pl m_yl m_nd m_hm m_wk m_kd) ++ (wI g (o_a 10) 29 g_f) ++ (wI g (o_a 11) 29 y_f) ++ (wI g (o_a 17) 5 r_f)) 0 0 (by decide) f_RX6_68 rfl rfl rfl rfl nX6_wants_2 rfl (Nat.le_of_ble_eq_true rfl) rfl ?_
  refine V_aload_n nX6_wants_5 rfl ?_
  refine V_iload_n nX6_wants_6 rfl ?_
  refine V_blk (ws' := ((wO g o_a (nI 0) o_ts o_pl o_nf o_ne o_rf o_re o_ac o_cm o_sd o_wf o_sm o_sf o_rm o_rs)) ++ ((wML g o_a m_pl m_yl m_nd m_hm m_wk m_kd) ++ (wI g (o_a 10) 29 g_f) ++ (wI g (o_a 11) 29 y_f) ++ (wI g (o_a 17) 5 r_f))) [wO g o_a (nI 0) o_ts o_pl o_nf o_ne o_rf o_re o_ac o_cm o_sd o_wf o_sm o_sf o_rm o_rs, wML g o_a m_pl m_yl m_nd m_hm m_wk m_kd, wI g (o_a 10) 29 g_f, wI g (o_a 11) 29 y_f, wI g (o_a 17) 5 r_f] [0, 1, 2, 3, 4] rfl (by simp only [List.flatten_cons, List.flatten_nil, List.append_nil, List.append_assoc]) (by show List.flatten [wO g o_a (nI 0) o_ts o_pl o_nf o_ne o_rf o_re o_ac o_cm o_sd o_wf o_sm o_sf o_rm o_rs, wML g o_a m_pl m_yl m_nd m_hm m_wk m_kd, wI g (o_a 10) 29 g_f, wI g (o_a 11) 29 y_f, wI g (o_a 17) 5 r_f] = _; simp only [List.flatten_cons, List.flatten_nil, List.append_nil, List.append_assoc]) ?_
  refine V_cVi (C := (RX6, TX6, 34)) (ci := 6) (ws' := ((wO g o_a (nI 0) o_ts o_pl o_nf o_ne o_rf o_re o_ac o_cm o_sd o_wf o_sm o_sf o_rm o_rs)) ++ ((wML g o_a m_pl m_yl m_nd m_hm m_wk m_kd) ++ (wI g (o_a 10) 29 g_f) ++ (wI g (o_a 11) 29 y_f) ++ (wI g (o_a 17) 5 r_f))) (List.range _) 1 X (c_X6_noField g l o_a (nI 0) o_ts o_pl o_nf o_ne o_rf o_re o_ac o_cm o_sd o_wf o_sm o_sf o_rm o_rs  x (by omega)) k_RX6_167 hy_X6_noField (by decide) (range_at _ _) (range_nd _) 0 rfl rfl nX6_wants_7 rfl rfl (Nat.le_of_ble_eq_true rfl) (wput_range _ _ _ (by simp only [List.length_append, wO_len])) ?_
  refine V_blk (ws' := (wO g o_a (nI 0) o_ts o_pl o_nf o_ne o_rf o_re o_ac o_cm o_sd o_wf o_sm o_sf o_rm o_rs) ++ (wML g o_a m_pl m_yl m_nd m_hm m_wk m_kd) ++ (wI g (o_a 10) 29 g_f) ++ (wI g (o_a 11) 29 y_f) ++ (wI g (o_a 17) 5 r_f)) [wO g o_a (nI 0) o_ts o_pl o_nf o_ne o_rf o_re o_ac o_cm o_sd o_wf o_sm o_sf o_rm o_rs, wML g o_a m_pl m_yl m_nd m_hm m_wk m_kd, wI g (o_a 10) 29 g_f, wI g (o_a 11) 29 y_f, wI g (o_a 17) 5 r_f] [0, 1, 2, 3, 4] rfl (by simp only [List.flatten_cons, List.flatten_nil, List.append_nil, List.append_assoc]) (by show List.flatten [wO g o_a (nI 0) o_ts o_pl o_nf o_ne o_rf o_re o_ac o_cm o_sd o_wf o_sm o_sf o_rm o_rs, wML g o_a m_pl m_yl m_nd m_hm m_wk m_kd, wI g (o_a 10) 29 g_f, wI g (o_a 11) 29 y_f, wI g (o_a 17) 5 r_f] = _; simp only [List.flatten_cons, List.flatten_nil, List.append_nil, List.append_assoc]) ?_
  refine V_if_eq_b (tgt := 15) nX6_wants_10 rfl (fun h10 => ?_) (fun h10 => ?_)
  · skip
    obtain ⟨a, hf_a, rfl⟩ := nhas h10 (by omega)
    have hix_a : ix (nI a) = a := ix_nI (by omega)
    have hp_a : hasN o_nf (nI a) = true := by rw [Bool.not_eq_false'] at h10; exact h10
    refine V_bipush (v := (-9)) nX6_wants_15 (by decide) ?_
    refine V_istore_n (lv' := [(0, .ref (o_a 0)), (1, .int (nI a)), (2, .int (-9))]) nX6_wants_17 (by decide) rfl ?_
    refine V_iconst (v := (nI 0)) nX6_wants_18 rfl ?_
    refine V_istore_n (lv' := [(0, .ref (o_a 0)), (1, .int (nI a)), (2, .int (-9)), (3, .int (nI 0))]) nX6_wants_19 (by decide) rfl ?_
    have L20 : ∀ (n : Nat) (v : Nat) (b : Option Nat) (q : Nat → Int32) (r : Nat → Int32) (u : Int32), 2 ^ o_ne - v < n → v ≤ 2 ^ o_ne → b = beM o_nf o_ne m_pl m_nd m_hm m_wk m_kd a g_f v → V g E mX6_wants A Q 0 0 ((wO g o_a (nI 0) o_ts o_pl o_nf o_ne o_rf o_re o_ac o_cm o_sd u o_sm o_sf o_rm o_rs) ++ (wML g o_a m_pl m_yl m_nd m_hm m_wk m_kd) ++ (wI g (o_a 10) 29 g_f) ++ (wI g (o_a 11) 29 q) ++ (wI g (o_a 17) 5 r)) 20 [(0, .ref (o_a 0)), (1, .int (nI a)), (2, .int (oI b)), (3, .int (nI v))] [] := by
      intro n
      induction n with
      | zero => intro v b q r u hm; exact absurd hm (Nat.not_lt_zero _)
      | succ n ih =>
        intro v b q r u hm hv hbe
        have hp5 : 2 ^ o_ne ≤ 32 := Nat.le_trans (Nat.pow_le_pow_right (by omega) hne) (by decide)
        have hp1 : 1 ≤ 2 ^ o_ne := Nat.one_le_two_pow
        refine V_iload_n nX6_wants_20 rfl ?_
        refine V_iconst (v := (nI 1)) nX6_wants_21 rfl ?_
        refine V_aload_n nX6_wants_22 rfl ?_
        refine V_get6 0 8 (by decide) f_RX6_79 nX6_wants_23 rfl rfl ?_
        refine V_ishl (v := nI (2 ^ o_ne)) nX6_wants_26 (nI_shl1 (by omega)) ?_
        refine V_icmp_ge_N (tgt := 80) nX6_wants_27 rfl (by omega) (by omega) (fun h27 => ?_) (fun h27 => ?_)
        · skip
          have hvx : v = 2 ^ o_ne := by omega
          subst hvx
          refine V_iload_n nX6_wants_80 rfl ?_
          exact R_i rfl X hQ nX6_wants_81 (by simp only [List.map_append, wI_fst, wML_fst, wO_fst]) (⟨_, _, _, by rw [hbe]; simp [waM, hix_a, hp_a], rfl⟩)
        · skip
          refine V_iload_n nX6_wants_30 rfl ?_
          refine V_bipush (v := (-9)) nX6_wants_31 (by decide) ?_
          refine V_joinb (b := fewB b v) (pj := 52) (st := []) (fun J1 J2 => ?_) ?_
          · skip
            refine V_icmp_eq (tgt := 47) nX6_wants_33 rfl (fun h33 => ?_) (fun h33 => ?_)
            · skip
              have hb0 : b = none := (oI_none (fun k hk => by rw [hbe] at hk; have := beM_lt _ _ hk; omega)).mp h33
              subst hb0
              refine V_iconst (v := (nI 1)) nX6_wants_47 rfl ?_
              refine V_goto (tgt := 52) nX6_wants_48 rfl ?_
              exact J1 (by first | rfl | exact decide_eq_true h44 | exact decide_eq_false (Nat.not_lt.mpr h44))
            · skip
              obtain ⟨kb, rfl⟩ : ∃ k, b = some k := by
                cases b with
                | none => exact absurd rfl h33
                | some k => exact ⟨k, rfl⟩
              have hkb : kb < v := beM_lt _ _ hbe.symm
              refine V_iload_n nX6_wants_36 rfl ?_
              refine V_cSi (ws' := (wO g o_a (nI 0) o_ts o_pl o_nf o_ne o_rf o_re o_ac o_cm o_sd u o_sm o_sf o_rm o_rs) ++ (wML g o_a m_pl m_yl m_nd m_hm m_wk m_kd) ++ (wI g (o_a 10) 29 g_f) ++ (wI g (o_a 11) 29 q) ++ (wI g (o_a 17) 5 r)) [] 1 X (c_X6_many g l   v (by omega)) k_RX6_196 hy_X6_many.2 (by decide) rfl (by decide) nX6_wants_37 rfl rfl (Nat.le_of_ble_eq_true rfl) rfl ?_
              refine V_iload_n nX6_wants_40 rfl ?_
              refine V_cSi (ws' := (wO g o_a (nI 0) o_ts o_pl o_nf o_ne o_rf o_re o_ac o_cm o_sd u o_sm o_sf o_rm o_rs) ++ (wML g o_a m_pl m_yl m_nd m_hm m_wk m_kd) ++ (wI g (o_a 10) 29 g_f) ++ (wI g (o_a 11) 29 q) ++ (wI g (o_a 17) 5 r)) [] 1 X (c_X6_many g l   kb (by omega)) k_RX6_196 hy_X6_many.2 (by decide) rfl (by decide) nX6_wants_41 rfl rfl (Nat.le_of_ble_eq_true rfl) rfl ?_
              refine V_icmp_ge_N (tgt := 51) nX6_wants_44 rfl (by have := bcN_le v; omega) (by have := bcN_le kb; omega) (fun h44 => ?_) (fun h44 => ?_)
              · skip
                refine V_iconst (v := (nI 0)) nX6_wants_51 rfl ?_
                exact J2 (by first | rfl | exact decide_eq_true h44 | exact decide_eq_false (Nat.not_lt.mpr h44))
              · skip
                refine V_iconst (v := (nI 1)) nX6_wants_47 rfl ?_
                refine V_goto (tgt := 52) nX6_wants_48 rfl ?_
                exact J1 (by first | rfl | exact decide_eq_true h44 | exact decide_eq_false (Nat.not_lt.mpr h44))
          refine V_istore (lv' := [(0, .ref (o_a 0)), (1, .int (nI a)), (2, .int (oI b)), (3, .int (nI v)), (4, .int (bI (fewB b v)))]) nX6_wants_52 (by decide) rfl ?_
          refine V_iload nX6_wants_54 rfl ?_
          refine V_if_eq_b (tgt := 72) nX6_wants_56 rfl (fun h56 => ?_) (fun h56 => ?_)
          · skip
            refine V_iload_n nX6_wants_72 rfl ?_
            refine V_istore_n (lv' := [(0, .ref (o_a 0)), (1, .int (nI a)), (2, .int (oI b)), (3, .int (nI v)), (4, .int (bI (fewB b v)))]) nX6_wants_73 (by decide) rfl ?_
            refine V_iinc (v := nI (v + 1)) (lv' := [(0, .ref (o_a 0)), (1, .int (nI a)), (2, .int (oI b)), (3, .int (nI (v + 1))), (4, .int (bI (fewB b v)))]) nX6_wants_74 rfl (nI_add v 1) (by decide) rfl ?_
            refine V_goto (tgt := 20) nX6_wants_77 rfl ?_
            refine V_pick (lv2 := [(0, .ref (o_a 0)), (1, .int (nI a)), (2, .int (oI b)), (3, .int (nI (v + 1)))]) [0, 1, 2, 3] rfl ?_
            exact ih (v + 1) b q r u (by omega) (by omega) (by rw [hbe, beM_f1 (by rw [← hbe]; exact h56)])
          · skip
            refine V_aload_n nX6_wants_59 rfl ?_
            refine V_iload_n nX6_wants_60 rfl ?_
            refine V_iload_n nX6_wants_61 rfl ?_
            refine V_blk (ws' := ((wO g o_a (nI 0) o_ts o_pl o_nf o_ne o_rf o_re o_ac o_cm o_sd u o_sm o_sf o_rm o_rs) ++ (wML g o_a m_pl m_yl m_nd m_hm m_wk m_kd) ++ (wI g (o_a 10) 29 g_f) ++ (wI g (o_a 11) 29 q) ++ (wI g (o_a 17) 5 r)) ++ ([] : va_W)) [wO g o_a (nI 0) o_ts o_pl o_nf o_ne o_rf o_re o_ac o_cm o_sd u o_sm o_sf o_rm o_rs, wML g o_a m_pl m_yl m_nd m_hm m_wk m_kd, wI g (o_a 10) 29 g_f, wI g (o_a 11) 29 q, wI g (o_a 17) 5 r] [0, 1, 2, 3, 4] rfl (by simp only [List.flatten_cons, List.flatten_nil, List.append_nil, List.append_assoc]) (by show List.flatten [wO g o_a (nI 0) o_ts o_pl o_nf o_ne o_rf o_re o_ac o_cm o_sd u o_sm o_sf o_rm o_rs, wML g o_a m_pl m_yl m_nd m_hm m_wk m_kd, wI g (o_a 10) 29 g_f, wI g (o_a 11) 29 q, wI g (o_a 17) 5 r] = _; simp only [List.flatten_cons, List.flatten_nil, List.append_nil, List.append_assoc]) ?_
            refine V_callV (C := (RX6, TX6, 34)) (ci := 6) (As := [.int (nI v), .int (nI a)]) (st := []) (List.range _) 2 X (c_X6_isSownBy g l o_a (nI 0) o_ts o_pl o_nf o_ne o_rf o_re o_ac o_cm o_sd u o_sm o_sf o_rm o_rs m_pl m_yl m_nd m_hm m_wk m_kd g_f q r  v a (by omega) (by omega) (by omega) (by omega)) k_RX6_199 hy_X6_isSownBy (by decide) (range_at _ _) (range_nd _) 0 rfl rfl nX6_wants_62 rfl rfl (Nat.le_of_ble_eq_true rfl) ?_
            rintro _ _ ⟨z_y1, z_r2, z_w3, rfl, rfl⟩
            refine V_ws (ws' := ((wO g o_a (nI 0) o_ts o_pl o_nf o_ne o_rf o_re o_ac o_cm o_sd z_w3 o_sm o_sf o_rm o_rs) ++ (wML g o_a m_pl m_yl m_nd m_hm m_wk m_kd) ++ (wI g (o_a 10) 29 g_f) ++ (wI g (o_a 11) 29 z_y1) ++ (wI g (o_a 17) 5 z_r2)) ++ ([] : va_W)) (wput_range _ _ _ (by simp only [List.length_append, wI_len, wML_len, wO_len])) ?_
            refine V_st (st2 := [.int (bI (sfB o_nf o_ne m_pl m_nd m_hm m_wk m_kd v a g_f))]) rfl ?_
            refine V_blk (ws' := (wO g o_a (nI 0) o_ts o_pl o_nf o_ne o_rf o_re o_ac o_cm o_sd z_w3 o_sm o_sf o_rm o_rs) ++ (wML g o_a m_pl m_yl m_nd m_hm m_wk m_kd) ++ (wI g (o_a 10) 29 g_f) ++ (wI g (o_a 11) 29 z_y1) ++ (wI g (o_a 17) 5 z_r2)) [wO g o_a (nI 0) o_ts o_pl o_nf o_ne o_rf o_re o_ac o_cm o_sd z_w3 o_sm o_sf o_rm o_rs, wML g o_a m_pl m_yl m_nd m_hm m_wk m_kd, wI g (o_a 10) 29 g_f, wI g (o_a 11) 29 z_y1, wI g (o_a 17) 5 z_r2] [0, 1, 2, 3, 4] rfl (by simp only [List.flatten_cons, List.flatten_nil, List.append_nil, List.append_assoc]) (by show List.flatten [wO g o_a (nI 0) o_ts o_pl o_nf o_ne o_rf o_re o_ac o_cm o_sd z_w3 o_sm o_sf o_rm o_rs, wML g o_a m_pl m_yl m_nd m_hm m_wk m_kd, wI g (o_a 10) 29 g_f, wI g (o_a 11) 29 z_y1, wI g (o_a 17) 5 z_r2] = _; simp only [List.flatten_cons, List.flatten_nil, List.append_nil, List.append_assoc]) ?_
            refine V_if_eq_b (tgt := 72) nX6_wants_65 rfl (fun h65 => ?_) (fun h65 => ?_)
            · skip
              refine V_iload_n nX6_wants_72 rfl ?_
              refine V_istore_n (lv' := [(0, .ref (o_a 0)), (1, .int (nI a)), (2, .int (oI b)), (3, .int (nI v)), (4, .int (bI (fewB b v)))]) nX6_wants_73 (by decide) rfl ?_
              refine V_iinc (v := nI (v + 1)) (lv' := [(0, .ref (o_a 0)), (1, .int (nI a)), (2, .int (oI b)), (3, .int (nI (v + 1))), (4, .int (bI (fewB b v)))]) nX6_wants_74 rfl (nI_add v 1) (by decide) rfl ?_
              refine V_goto (tgt := 20) nX6_wants_77 rfl ?_
              refine V_pick (lv2 := [(0, .ref (o_a 0)), (1, .int (nI a)), (2, .int (oI b)), (3, .int (nI (v + 1)))]) [0, 1, 2, 3] rfl ?_
              exact ih (v + 1) b z_y1 z_r2 z_w3 (by omega) (by omega) (by rw [hbe, beM_f2 h65])
            · skip
              refine V_iload_n nX6_wants_68 rfl ?_
              refine V_goto (tgt := 73) nX6_wants_69 rfl ?_
              refine V_istore_n (lv' := [(0, .ref (o_a 0)), (1, .int (nI a)), (2, .int (nI v)), (3, .int (nI v)), (4, .int (bI (fewB b v)))]) nX6_wants_73 (by decide) rfl ?_
              refine V_iinc (v := nI (v + 1)) (lv' := [(0, .ref (o_a 0)), (1, .int (nI a)), (2, .int (nI v)), (3, .int (nI (v + 1))), (4, .int (bI (fewB b v)))]) nX6_wants_74 rfl (nI_add v 1) (by decide) rfl ?_
              refine V_goto (tgt := 20) nX6_wants_77 rfl ?_
              refine V_pick (lv2 := [(0, .ref (o_a 0)), (1, .int (nI a)), (2, .int (nI v)), (3, .int (nI (v + 1)))]) [0, 1, 2, 3] rfl ?_
              exact ih (v + 1) (some v) z_y1 z_r2 z_w3 (by omega) (by omega) (by rw [beM_t (by rw [← hbe]; exact h56) h65])
    exact L20 _ 0 none y_f r_f o_wf (Nat.lt_succ_self _) (Nat.zero_le _) (rfl)
  · skip
    have hn_a : hasN o_nf x = false := by rw [Bool.not_eq_true'] at h10; exact h10
    refine V_iconst (v := (-1)) nX6_wants_13 (by decide) ?_
    exact R_i rfl X hQ nX6_wants_14 (by simp only [List.map_append, wI_fst, wML_fst, wO_fst]) (⟨_, _, _, by simp [waM, hn_a], rfl⟩)

set_option maxHeartbeats 4000000 in
set_option maxRecDepth 100000 in
theorem c_X6_rid (g : Gx) (l : Launch) (o_a : Nat → Nat) (o_th : Int32) (o_ts : Nat) (o_pl : Nat) (o_nf : Nat) (o_ne : Nat) (o_rf : Nat) (o_re : Nat) (o_ac : Nat) (o_cm : Nat) (o_sd : Int64) (o_wf : Int32) (o_sm : Int32) (o_sf : Int32) (o_rm : Int32) (o_rs : Int32) (m_pl : Nat → Int32) (m_yl : Nat → Int32) (m_nd : Nat → Int32) (m_hm : Nat → Int32) (m_wk : Nat → Int32) (m_kd : Nat → Int32) (g_f : Nat → Int32) (y_f : Nat → Int32)  (x : Int32) (hnf : o_nf ≤ 4) (hne : o_ne ≤ 5) : Ct g l yX6_rid mX6_rid ({ frames := 3, cells := 0, slots := 0, locals := 76 } : Room) [.ref (o_a 0), .int x] ((wO g o_a o_th o_ts o_pl o_nf o_ne o_rf o_re o_ac o_cm o_sd o_wf o_sm o_sf o_rm o_rs) ++ (wML g o_a m_pl m_yl m_nd m_hm m_wk m_kd) ++ (wI g (o_a 10) 29 g_f) ++ (wI g (o_a 11) 29 y_f)) (fun r w' => ∃ (z_y : Nat → Int32) (z_w : Int32), r = (some (.int (riM o_nf o_ne m_pl m_hm m_kd g_f x))) ∧ w' = (wO g o_a (nI 0) o_ts o_pl o_nf o_ne o_rf o_re o_ac o_cm o_sd z_w o_sm o_sf o_rm o_rs) ++ (wML g o_a m_pl m_yl m_nd m_hm m_wk m_kd) ++ (wI g (o_a 10) 29 g_f) ++ (wI g (o_a 11) 29 z_y)) := by
  refine Ct.of (lv := [(0, .ref (o_a 0)), (1, .int x)]) ⟨by decide +kernel, rfl, Nat.le_of_ble_eq_true rfl⟩ rfl (fun E A sz Q X hQ => ?_)
  refine V_aload_n nX6_rid_0 rfl ?_
  refine V_iconst (v := (nI 0)) nX6_rid_1 rfl ?_
  refine V_put6 (ws' := (wO g o_a (nI 0) o_ts o_pl o_nf o_ne o_rf o_re o_ac o_cm o_sd o_wf o_sm o_sf o_rm o_rs) ++ (wML g o_a m_pl m_yl m_nd m_hm m_wk m_kd) ++ (wI g (o_a 10) 29 g_f) ++ (wI g (o_a 11) 29 y_f)) 0 0 (by decide) f_RX6_68 rfl rfl rfl rfl nX6_rid_2 rfl (Nat.le_of_ble_eq_true rfl) rfl ?_
  refine V_aload_n nX6_rid_5 rfl ?_
  refine V_iload_n nX6_rid_6 rfl ?_
  refine V_blk (ws' := ((wO g o_a (nI 0) o_ts o_pl o_nf o_ne o_rf o_re o_ac o_cm o_sd o_wf o_sm o_sf o_rm o_rs)) ++ ((wML g o_a m_pl m_yl m_nd m_hm m_wk m_kd) ++ (wI g (o_a 10) 29 g_f) ++ (wI g (o_a 11) 29 y_f))) [wO g o_a (nI 0) o_ts o_pl o_nf o_ne o_rf o_re o_ac o_cm o_sd o_wf o_sm o_sf o_rm o_rs, wML g o_a m_pl m_yl m_nd m_hm m_wk m_kd, wI g (o_a 10) 29 g_f, wI g (o_a 11) 29 y_f] [0, 1, 2, 3] rfl (by simp only [List.flatten_cons, List.flatten_nil, List.append_nil, List.append_assoc]) (by show List.flatten [wO g o_a (nI 0) o_ts o_pl o_nf o_ne o_rf o_re o_ac o_cm o_sd o_wf o_sm o_sf o_rm o_rs, wML g o_a m_pl m_yl m_nd m_hm m_wk m_kd, wI g (o_a 10) 29 g_f, wI g (o_a 11) 29 y_f] = _; simp only [List.flatten_cons, List.flatten_nil, List.append_nil, List.append_assoc]) ?_
  refine V_cVi (C := (RX6, TX6, 34)) (ci := 6) (ws' := ((wO g o_a (nI 0) o_ts o_pl o_nf o_ne o_rf o_re o_ac o_cm o_sd o_wf o_sm o_sf o_rm o_rs)) ++ ((wML g o_a m_pl m_yl m_nd m_hm m_wk m_kd) ++ (wI g (o_a 10) 29 g_f) ++ (wI g (o_a 11) 29 y_f))) (List.range _) 1 X (c_X6_noEater g l o_a (nI 0) o_ts o_pl o_nf o_ne o_rf o_re o_ac o_cm o_sd o_wf o_sm o_sf o_rm o_rs  x (by omega)) k_RX6_174 hy_X6_noEater (by decide) (range_at _ _) (range_nd _) 0 rfl rfl nX6_rid_7 rfl rfl (Nat.le_of_ble_eq_true rfl) (wput_range _ _ _ (by simp only [List.length_append, wO_len])) ?_
  refine V_blk (ws' := (wO g o_a (nI 0) o_ts o_pl o_nf o_ne o_rf o_re o_ac o_cm o_sd o_wf o_sm o_sf o_rm o_rs) ++ (wML g o_a m_pl m_yl m_nd m_hm m_wk m_kd) ++ (wI g (o_a 10) 29 g_f) ++ (wI g (o_a 11) 29 y_f)) [wO g o_a (nI 0) o_ts o_pl o_nf o_ne o_rf o_re o_ac o_cm o_sd o_wf o_sm o_sf o_rm o_rs, wML g o_a m_pl m_yl m_nd m_hm m_wk m_kd, wI g (o_a 10) 29 g_f, wI g (o_a 11) 29 y_f] [0, 1, 2, 3] rfl (by simp only [List.flatten_cons, List.flatten_nil, List.append_nil, List.append_assoc]) (by show List.flatten [wO g o_a (nI 0) o_ts o_pl o_nf o_ne o_rf o_re o_ac o_cm o_sd o_wf o_sm o_sf o_rm o_rs, wML g o_a m_pl m_yl m_nd m_hm m_wk m_kd, wI g (o_a 10) 29 g_f, wI g (o_a 11) 29 y_f] = _; simp only [List.flatten_cons, List.flatten_nil, List.append_nil, List.append_assoc]) ?_
  refine V_if_eq_b (tgt := 15) nX6_rid_10 rfl (fun h10 => ?_) (fun h10 => ?_)
  · skip
    obtain ⟨a, hf_a, rfl⟩ := nhas h10 (by omega)
    have hix_a : ix (nI a) = a := ix_nI (by omega)
    have hp_a : hasN o_ne (nI a) = true := by rw [Bool.not_eq_false'] at h10; exact h10
    refine V_aload_n nX6_rid_15 rfl ?_
    refine V_get6 0 11 (by decide) f_RX6_28 nX6_rid_16 rfl rfl ?_
    refine V_iload_n nX6_rid_19 rfl ?_
    refine V_iald 6 nX6_rid_20 rfl (by omega) (by decide) rfl ?_
    refine V_iconst (v := (nI 1)) nX6_rid_21 rfl ?_
    refine V_icmp_ne (tgt := 27) nX6_rid_22 rfl (fun h22 => ?_) (fun h22 => ?_)
    · skip
      refine V_aload_n nX6_rid_27 rfl ?_
      refine V_blk (ws' := ((wO g o_a (nI 0) o_ts o_pl o_nf o_ne o_rf o_re o_ac o_cm o_sd o_wf o_sm o_sf o_rm o_rs) ++ (wI g (o_a 10) 29 g_f) ++ (wI g (o_a 11) 29 y_f)) ++ ((wML g o_a m_pl m_yl m_nd m_hm m_wk m_kd))) [wO g o_a (nI 0) o_ts o_pl o_nf o_ne o_rf o_re o_ac o_cm o_sd o_wf o_sm o_sf o_rm o_rs, wML g o_a m_pl m_yl m_nd m_hm m_wk m_kd, wI g (o_a 10) 29 g_f, wI g (o_a 11) 29 y_f] [0, 2, 3, 1] rfl (by simp only [List.flatten_cons, List.flatten_nil, List.append_nil, List.append_assoc]) (by show List.flatten [wO g o_a (nI 0) o_ts o_pl o_nf o_ne o_rf o_re o_ac o_cm o_sd o_wf o_sm o_sf o_rm o_rs, wI g (o_a 10) 29 g_f, wI g (o_a 11) 29 y_f, wML g o_a m_pl m_yl m_nd m_hm m_wk m_kd] = _; simp only [List.flatten_cons, List.flatten_nil, List.append_nil, List.append_assoc]) ?_
      refine V_cVv (C := (RX6, TX6, 34)) (ci := 6) (ws' := ((wO g o_a (nI 0) o_ts o_pl o_nf o_ne o_rf o_re o_ac o_cm o_sd o_wf o_sm o_sf o_rm o_rs) ++ (wI g (o_a 10) 29 g_f) ++ (wI g (o_a 11) 29 g_f)) ++ ((wML g o_a m_pl m_yl m_nd m_hm m_wk m_kd))) (List.range _) 0 X (c_X6_begin g l o_a (nI 0) o_ts o_pl o_nf o_ne o_rf o_re o_ac o_cm o_sd o_wf o_sm o_sf o_rm o_rs g_f y_f   ) k_RX6_152 hy_X6_begin (by decide) (range_at _ _) (range_nd _) 0 rfl rfl nX6_rid_28 rfl rfl (Nat.le_of_ble_eq_true rfl) (wput_range _ _ _ (by simp only [List.length_append, wI_len, wO_len])) ?_
      refine V_blk (ws' := (wO g o_a (nI 0) o_ts o_pl o_nf o_ne o_rf o_re o_ac o_cm o_sd o_wf o_sm o_sf o_rm o_rs) ++ (wML g o_a m_pl m_yl m_nd m_hm m_wk m_kd) ++ (wI g (o_a 10) 29 g_f) ++ (wI g (o_a 11) 29 g_f)) [wO g o_a (nI 0) o_ts o_pl o_nf o_ne o_rf o_re o_ac o_cm o_sd o_wf o_sm o_sf o_rm o_rs, wI g (o_a 10) 29 g_f, wI g (o_a 11) 29 g_f, wML g o_a m_pl m_yl m_nd m_hm m_wk m_kd] [0, 3, 1, 2] rfl (by simp only [List.flatten_cons, List.flatten_nil, List.append_nil, List.append_assoc]) (by show List.flatten [wO g o_a (nI 0) o_ts o_pl o_nf o_ne o_rf o_re o_ac o_cm o_sd o_wf o_sm o_sf o_rm o_rs, wML g o_a m_pl m_yl m_nd m_hm m_wk m_kd, wI g (o_a 10) 29 g_f, wI g (o_a 11) 29 g_f] = _; simp only [List.flatten_cons, List.flatten_nil, List.append_nil, List.append_assoc]) ?_
      refine V_aload_n nX6_rid_31 rfl ?_
      refine V_aload_n nX6_rid_32 rfl ?_
      refine V_get6 0 17 (by decide) f_RX6_40 nX6_rid_33 rfl rfl ?_
      refine V_iload_n nX6_rid_36 rfl ?_
      refine V_sipush (v := (nI 1000)) nX6_rid_37 (by decide) ?_
      refine V_blk (ws' := ((wO g o_a (nI 0) o_ts o_pl o_nf o_ne o_rf o_re o_ac o_cm o_sd o_wf o_sm o_sf o_rm o_rs) ++ (wML g o_a m_pl m_yl m_nd m_hm m_wk m_kd) ++ (wI g (o_a 11) 29 g_f)) ++ ((wI g (o_a 10) 29 g_f))) [wO g o_a (nI 0) o_ts o_pl o_nf o_ne o_rf o_re o_ac o_cm o_sd o_wf o_sm o_sf o_rm o_rs, wML g o_a m_pl m_yl m_nd m_hm m_wk m_kd, wI g (o_a 10) 29 g_f, wI g (o_a 11) 29 g_f] [0, 1, 3, 2] rfl (by simp only [List.flatten_cons, List.flatten_nil, List.append_nil, List.append_assoc]) (by show List.flatten [wO g o_a (nI 0) o_ts o_pl o_nf o_ne o_rf o_re o_ac o_cm o_sd o_wf o_sm o_sf o_rm o_rs, wML g o_a m_pl m_yl m_nd m_hm m_wk m_kd, wI g (o_a 11) 29 g_f, wI g (o_a 10) 29 g_f] = _; simp only [List.flatten_cons, List.flatten_nil, List.append_nil, List.append_assoc]) ?_
      refine V_cVi (C := (RX6, TX6, 34)) (ci := 6) (ws' := ((wO g o_a (nI 0) o_ts o_pl o_nf o_ne o_rf o_re o_ac o_cm o_sd ((gsI m_pl m_hm m_kd o_nf a (nI 1000) g_f).2.2) o_sm o_sf o_rm o_rs) ++ (wML g o_a m_pl m_yl m_nd m_hm m_wk m_kd) ++ (wI g (o_a 11) 29 ((gsI m_pl m_hm m_kd o_nf a (nI 1000) g_f).1))) ++ ((wI g (o_a 10) 29 g_f))) (List.range _) 3 X (c_X6_goes g l o_a (nI 0) o_ts o_pl o_nf o_ne o_rf o_re o_ac o_cm o_sd o_wf o_sm o_sf o_rm o_rs m_pl m_yl m_nd m_hm m_wk m_kd (o_a 11) g_f  a (nI 1000) (by omega) (by omega)) k_RX6_138 hy_X6_goes (by decide) (range_at _ _) (range_nd _) 0 rfl rfl nX6_rid_40 rfl rfl (Nat.le_of_ble_eq_true rfl) (wput_range _ _ _ (by simp only [List.length_append, wI_len, wML_len, wO_len])) ?_
      refine V_blk (ws' := (wO g o_a (nI 0) o_ts o_pl o_nf o_ne o_rf o_re o_ac o_cm o_sd ((gsI m_pl m_hm m_kd o_nf a (nI 1000) g_f).2.2) o_sm o_sf o_rm o_rs) ++ (wML g o_a m_pl m_yl m_nd m_hm m_wk m_kd) ++ (wI g (o_a 10) 29 g_f) ++ (wI g (o_a 11) 29 ((gsI m_pl m_hm m_kd o_nf a (nI 1000) g_f).1))) [wO g o_a (nI 0) o_ts o_pl o_nf o_ne o_rf o_re o_ac o_cm o_sd ((gsI m_pl m_hm m_kd o_nf a (nI 1000) g_f).2.2) o_sm o_sf o_rm o_rs, wML g o_a m_pl m_yl m_nd m_hm m_wk m_kd, wI g (o_a 11) 29 ((gsI m_pl m_hm m_kd o_nf a (nI 1000) g_f).1), wI g (o_a 10) 29 g_f] [0, 1, 3, 2] rfl (by simp only [List.flatten_cons, List.flatten_nil, List.append_nil, List.append_assoc]) (by show List.flatten [wO g o_a (nI 0) o_ts o_pl o_nf o_ne o_rf o_re o_ac o_cm o_sd ((gsI m_pl m_hm m_kd o_nf a (nI 1000) g_f).2.2) o_sm o_sf o_rm o_rs, wML g o_a m_pl m_yl m_nd m_hm m_wk m_kd, wI g (o_a 10) 29 g_f, wI g (o_a 11) 29 ((gsI m_pl m_hm m_kd o_nf a (nI 1000) g_f).1)] = _; simp only [List.flatten_cons, List.flatten_nil, List.append_nil, List.append_assoc]) ?_
      refine V_pop nX6_rid_43 rfl ?_
      refine V_aload_n nX6_rid_44 rfl ?_
      refine V_get6 0 26 (by decide) f_RX6_124 nX6_rid_45 rfl rfl ?_
      exact R_i rfl X hQ nX6_rid_48 (by simp only [List.map_append, wI_fst, wML_fst, wO_fst]) (⟨_, _, by simp [riM, hix_a, hp_a, h22], rfl⟩)
    · skip
      refine V_iconst (v := (nI 0)) nX6_rid_25 rfl ?_
      exact R_i rfl X hQ nX6_rid_26 (by simp only [List.map_append, wI_fst, wML_fst, wO_fst]) (⟨_, _, by simp [riM, hix_a, hp_a, h22]; try rfl, rfl⟩)
  · skip
    have hn_a : hasN o_ne x = false := by rw [Bool.not_eq_true'] at h10; exact h10
    refine V_iconst (v := (-1)) nX6_rid_13 (by decide) ?_
    exact R_i rfl X hQ nX6_rid_14 (by simp only [List.map_append, wI_fst, wML_fst, wO_fst]) (⟨_, _, by simp [riM, hn_a], rfl⟩)
