set_option maxHeartbeats 4000000 in
set_option maxRecDepth 100000 in
theorem c_X6_rests (g : Gx) (l : Launch) (o_a : Nat → Nat) (o_th : Int32) (o_ts : Nat) (o_pl : Nat) (o_nf : Nat) (o_ne : Nat) (o_rf : Nat) (o_re : Nat) (o_ac : Nat) (o_cm : Nat) (o_sd : Int64) (o_wf : Int32) (o_sm : Int32) (o_sf : Int32) (o_rm : Int32) (o_rs : Int32) (m_pl : Nat → Int32) (m_yl : Nat → Int32) (m_nd : Nat → Int32) (m_hm : Nat → Int32) (m_wk : Nat → Int32) (m_kd : Nat → Int32) (g_f : Nat → Int32) (y_f : Nat → Int32) (r_f : Nat → Int32) (n_f : Nat → Int32)  (x : Int32) (y : Int32) (f : Int32) (w : Int32) (hnf : o_nf ≤ 4) (hne : o_ne ≤ 5) : Ct g l yX6_rests mX6_rests ({ frames := 4, cells := 0, slots := 0, locals := 99 } : Room) [.ref (o_a 0), .int x, .int y, .int f, .int w] ((wO g o_a o_th o_ts o_pl o_nf o_ne o_rf o_re o_ac o_cm o_sd o_wf o_sm o_sf o_rm o_rs) ++ (wML g o_a m_pl m_yl m_nd m_hm m_wk m_kd) ++ (wI g (o_a 10) 29 g_f) ++ (wI g (o_a 11) 29 y_f) ++ (wI g (o_a 17) 5 r_f) ++ (wI g (o_a 18) 8 n_f)) (fun r w' => ∃ (z_y : Nat → Int32) (z_r : Nat → Int32) (z_w : Int32) (z_n : Nat → Int32) (z_m : Int32) (z_s : Int32), r = (some (.int (rsM o_nf o_ne m_pl m_nd m_hm m_wk m_kd g_f n_f x y f w))) ∧ w' = (wO g o_a (nI 0) o_ts o_pl o_nf o_ne o_rf o_re o_ac o_cm o_sd z_w o_sm o_sf z_m z_s) ++ (wML g o_a m_pl m_yl m_nd m_hm m_wk m_kd) ++ (wI g (o_a 10) 29 g_f) ++ (wI g (o_a 11) 29 z_y) ++ (wI g (o_a 17) 5 z_r) ++ (wI g (o_a 18) 8 z_n)) := by
  refine Ct.of (lv := [(0, .ref (o_a 0)), (1, .int x), (2, .int y), (3, .int f), (4, .int w)]) ⟨by decide +kernel, rfl, Nat.le_of_ble_eq_true rfl⟩ rfl (fun E A sz Q X hQ => ?_)
  refine V_aload_n nX6_rests_0 rfl ?_
  refine V_iconst (v := (nI 0)) nX6_rests_1 rfl ?_
  refine V_put6 (ws' := (wO g o_a (nI 0) o_ts o_pl o_nf o_ne o_rf o_re o_ac o_cm o_sd o_wf o_sm o_sf o_rm o_rs) ++ (wML g o_a m_pl m_yl m_nd m_hm m_wk m_kd) ++ (wI g (o_a 10) 29 g_f) ++ (wI g (o_a 11) 29 y_f) ++ (wI g (o_a 17) 5 r_f) ++ (wI g (o_a 18) 8 n_f)) 0 0 (by decide) f_RX6_68 rfl rfl rfl rfl nX6_rests_2 rfl (Nat.le_of_ble_eq_true rfl) rfl ?_
  refine V_aload_n nX6_rests_5 rfl ?_
  refine V_iload_n nX6_rests_6 rfl ?_
  refine V_blk (ws' := ((wO g o_a (nI 0) o_ts o_pl o_nf o_ne o_rf o_re o_ac o_cm o_sd o_wf o_sm o_sf o_rm o_rs)) ++ ((wML g o_a m_pl m_yl m_nd m_hm m_wk m_kd) ++ (wI g (o_a 10) 29 g_f) ++ (wI g (o_a 11) 29 y_f) ++ (wI g (o_a 17) 5 r_f) ++ (wI g (o_a 18) 8 n_f))) [wO g o_a (nI 0) o_ts o_pl o_nf o_ne o_rf o_re o_ac o_cm o_sd o_wf o_sm o_sf o_rm o_rs, wML g o_a m_pl m_yl m_nd m_hm m_wk m_kd, wI g (o_a 10) 29 g_f, wI g (o_a 11) 29 y_f, wI g (o_a 17) 5 r_f, wI g (o_a 18) 8 n_f] [0, 1, 2, 3, 4, 5] rfl (by simp only [List.flatten_cons, List.flatten_nil, List.append_nil, List.append_assoc]) (by show List.flatten [wO g o_a (nI 0) o_ts o_pl o_nf o_ne o_rf o_re o_ac o_cm o_sd o_wf o_sm o_sf o_rm o_rs, wML g o_a m_pl m_yl m_nd m_hm m_wk m_kd, wI g (o_a 10) 29 g_f, wI g (o_a 11) 29 y_f, wI g (o_a 17) 5 r_f, wI g (o_a 18) 8 n_f] = _; simp only [List.flatten_cons, List.flatten_nil, List.append_nil, List.append_assoc]) ?_
  refine V_cVi (C := (RX6, TX6, 34)) (ci := 6) (ws' := ((wO g o_a (nI 0) o_ts o_pl o_nf o_ne o_rf o_re o_ac o_cm o_sd o_wf o_sm o_sf o_rm o_rs)) ++ ((wML g o_a m_pl m_yl m_nd m_hm m_wk m_kd) ++ (wI g (o_a 10) 29 g_f) ++ (wI g (o_a 11) 29 y_f) ++ (wI g (o_a 17) 5 r_f) ++ (wI g (o_a 18) 8 n_f))) (List.range _) 1 X (c_X6_noEater g l o_a (nI 0) o_ts o_pl o_nf o_ne o_rf o_re o_ac o_cm o_sd o_wf o_sm o_sf o_rm o_rs  x (by omega)) k_RX6_174 hy_X6_noEater (by decide) (range_at _ _) (range_nd _) 0 rfl rfl nX6_rests_7 rfl rfl (Nat.le_of_ble_eq_true rfl) (wput_range _ _ _ (by simp only [List.length_append, wO_len])) ?_
  refine V_blk (ws' := (wO g o_a (nI 0) o_ts o_pl o_nf o_ne o_rf o_re o_ac o_cm o_sd o_wf o_sm o_sf o_rm o_rs) ++ (wML g o_a m_pl m_yl m_nd m_hm m_wk m_kd) ++ (wI g (o_a 10) 29 g_f) ++ (wI g (o_a 11) 29 y_f) ++ (wI g (o_a 17) 5 r_f) ++ (wI g (o_a 18) 8 n_f)) [wO g o_a (nI 0) o_ts o_pl o_nf o_ne o_rf o_re o_ac o_cm o_sd o_wf o_sm o_sf o_rm o_rs, wML g o_a m_pl m_yl m_nd m_hm m_wk m_kd, wI g (o_a 10) 29 g_f, wI g (o_a 11) 29 y_f, wI g (o_a 17) 5 r_f, wI g (o_a 18) 8 n_f] [0, 1, 2, 3, 4, 5] rfl (by simp only [List.flatten_cons, List.flatten_nil, List.append_nil, List.append_assoc]) (by show List.flatten [wO g o_a (nI 0) o_ts o_pl o_nf o_ne o_rf o_re o_ac o_cm o_sd o_wf o_sm o_sf o_rm o_rs, wML g o_a m_pl m_yl m_nd m_hm m_wk m_kd, wI g (o_a 10) 29 g_f, wI g (o_a 11) 29 y_f, wI g (o_a 17) 5 r_f, wI g (o_a 18) 8 n_f] = _; simp only [List.flatten_cons, List.flatten_nil, List.append_nil, List.append_assoc]) ?_
  refine V_if_ne_b (tgt := 29) nX6_rests_10 rfl (fun h10 => ?_) (fun h10 => ?_)
  · skip
    have hn_a : hasN o_ne x = false := by rw [Bool.not_eq_true'] at h10; exact h10
    refine V_iconst (v := (-1)) nX6_rests_29 (by decide) ?_
    exact R_i rfl X hQ nX6_rests_30 (by simp only [List.map_append, wI_fst, wML_fst, wO_fst]) (⟨y_f, r_f, o_wf, n_f, o_rm, o_rs, by simp [rsM, hn_a], rfl⟩)
  · skip
    obtain ⟨a, hf_a, rfl⟩ := nhas h10 (by omega)
    have hix_a : ix (nI a) = a := ix_nI (by omega)
    have hp_a : hasN o_ne (nI a) = true := by rw [Bool.not_eq_false'] at h10; exact h10
    refine V_aload_n nX6_rests_13 rfl ?_
    refine V_iload_n nX6_rests_14 rfl ?_
    refine V_blk (ws' := ((wO g o_a (nI 0) o_ts o_pl o_nf o_ne o_rf o_re o_ac o_cm o_sd o_wf o_sm o_sf o_rm o_rs)) ++ ((wML g o_a m_pl m_yl m_nd m_hm m_wk m_kd) ++ (wI g (o_a 10) 29 g_f) ++ (wI g (o_a 11) 29 y_f) ++ (wI g (o_a 17) 5 r_f) ++ (wI g (o_a 18) 8 n_f))) [wO g o_a (nI 0) o_ts o_pl o_nf o_ne o_rf o_re o_ac o_cm o_sd o_wf o_sm o_sf o_rm o_rs, wML g o_a m_pl m_yl m_nd m_hm m_wk m_kd, wI g (o_a 10) 29 g_f, wI g (o_a 11) 29 y_f, wI g (o_a 17) 5 r_f, wI g (o_a 18) 8 n_f] [0, 1, 2, 3, 4, 5] rfl (by simp only [List.flatten_cons, List.flatten_nil, List.append_nil, List.append_assoc]) (by show List.flatten [wO g o_a (nI 0) o_ts o_pl o_nf o_ne o_rf o_re o_ac o_cm o_sd o_wf o_sm o_sf o_rm o_rs, wML g o_a m_pl m_yl m_nd m_hm m_wk m_kd, wI g (o_a 10) 29 g_f, wI g (o_a 11) 29 y_f, wI g (o_a 17) 5 r_f, wI g (o_a 18) 8 n_f] = _; simp only [List.flatten_cons, List.flatten_nil, List.append_nil, List.append_assoc]) ?_
    refine V_cVi (C := (RX6, TX6, 34)) (ci := 6) (ws' := ((wO g o_a (nI 0) o_ts o_pl o_nf o_ne o_rf o_re o_ac o_cm o_sd o_wf o_sm o_sf o_rm o_rs)) ++ ((wML g o_a m_pl m_yl m_nd m_hm m_wk m_kd) ++ (wI g (o_a 10) 29 g_f) ++ (wI g (o_a 11) 29 y_f) ++ (wI g (o_a 17) 5 r_f) ++ (wI g (o_a 18) 8 n_f))) (List.range _) 1 X (c_X6_noEater g l o_a (nI 0) o_ts o_pl o_nf o_ne o_rf o_re o_ac o_cm o_sd o_wf o_sm o_sf o_rm o_rs  y (by omega)) k_RX6_174 hy_X6_noEater (by decide) (range_at _ _) (range_nd _) 0 rfl rfl nX6_rests_15 rfl rfl (Nat.le_of_ble_eq_true rfl) (wput_range _ _ _ (by simp only [List.length_append, wO_len])) ?_
    refine V_blk (ws' := (wO g o_a (nI 0) o_ts o_pl o_nf o_ne o_rf o_re o_ac o_cm o_sd o_wf o_sm o_sf o_rm o_rs) ++ (wML g o_a m_pl m_yl m_nd m_hm m_wk m_kd) ++ (wI g (o_a 10) 29 g_f) ++ (wI g (o_a 11) 29 y_f) ++ (wI g (o_a 17) 5 r_f) ++ (wI g (o_a 18) 8 n_f)) [wO g o_a (nI 0) o_ts o_pl o_nf o_ne o_rf o_re o_ac o_cm o_sd o_wf o_sm o_sf o_rm o_rs, wML g o_a m_pl m_yl m_nd m_hm m_wk m_kd, wI g (o_a 10) 29 g_f, wI g (o_a 11) 29 y_f, wI g (o_a 17) 5 r_f, wI g (o_a 18) 8 n_f] [0, 1, 2, 3, 4, 5] rfl (by simp only [List.flatten_cons, List.flatten_nil, List.append_nil, List.append_assoc]) (by show List.flatten [wO g o_a (nI 0) o_ts o_pl o_nf o_ne o_rf o_re o_ac o_cm o_sd o_wf o_sm o_sf o_rm o_rs, wML g o_a m_pl m_yl m_nd m_hm m_wk m_kd, wI g (o_a 10) 29 g_f, wI g (o_a 11) 29 y_f, wI g (o_a 17) 5 r_f, wI g (o_a 18) 8 n_f] = _; simp only [List.flatten_cons, List.flatten_nil, List.append_nil, List.append_assoc]) ?_
    refine V_if_ne_b (tgt := 29) nX6_rests_18 rfl (fun h18 => ?_) (fun h18 => ?_)
    · skip
      have hn_b : hasN o_ne y = false := by rw [Bool.not_eq_true'] at h18; exact h18
      refine V_iconst (v := (-1)) nX6_rests_29 (by decide) ?_
      exact R_i rfl X hQ nX6_rests_30 (by simp only [List.map_append, wI_fst, wML_fst, wO_fst]) (⟨y_f, r_f, o_wf, n_f, o_rm, o_rs, by simp [rsM, hix_a, hp_a, hn_b], rfl⟩)
    · skip
      obtain ⟨b, hf_b, rfl⟩ := nhas h18 (by omega)
      have hix_b : ix (nI b) = b := ix_nI (by omega)
      have hp_b : hasN o_ne (nI b) = true := by rw [Bool.not_eq_false'] at h18; exact h18
      refine V_aload_n nX6_rests_21 rfl ?_
      refine V_iload_n nX6_rests_22 rfl ?_
      refine V_blk (ws' := ((wO g o_a (nI 0) o_ts o_pl o_nf o_ne o_rf o_re o_ac o_cm o_sd o_wf o_sm o_sf o_rm o_rs)) ++ ((wML g o_a m_pl m_yl m_nd m_hm m_wk m_kd) ++ (wI g (o_a 10) 29 g_f) ++ (wI g (o_a 11) 29 y_f) ++ (wI g (o_a 17) 5 r_f) ++ (wI g (o_a 18) 8 n_f))) [wO g o_a (nI 0) o_ts o_pl o_nf o_ne o_rf o_re o_ac o_cm o_sd o_wf o_sm o_sf o_rm o_rs, wML g o_a m_pl m_yl m_nd m_hm m_wk m_kd, wI g (o_a 10) 29 g_f, wI g (o_a 11) 29 y_f, wI g (o_a 17) 5 r_f, wI g (o_a 18) 8 n_f] [0, 1, 2, 3, 4, 5] rfl (by simp only [List.flatten_cons, List.flatten_nil, List.append_nil, List.append_assoc]) (by show List.flatten [wO g o_a (nI 0) o_ts o_pl o_nf o_ne o_rf o_re o_ac o_cm o_sd o_wf o_sm o_sf o_rm o_rs, wML g o_a m_pl m_yl m_nd m_hm m_wk m_kd, wI g (o_a 10) 29 g_f, wI g (o_a 11) 29 y_f, wI g (o_a 17) 5 r_f, wI g (o_a 18) 8 n_f] = _; simp only [List.flatten_cons, List.flatten_nil, List.append_nil, List.append_assoc]) ?_
      refine V_cVi (C := (RX6, TX6, 34)) (ci := 6) (ws' := ((wO g o_a (nI 0) o_ts o_pl o_nf o_ne o_rf o_re o_ac o_cm o_sd o_wf o_sm o_sf o_rm o_rs)) ++ ((wML g o_a m_pl m_yl m_nd m_hm m_wk m_kd) ++ (wI g (o_a 10) 29 g_f) ++ (wI g (o_a 11) 29 y_f) ++ (wI g (o_a 17) 5 r_f) ++ (wI g (o_a 18) 8 n_f))) (List.range _) 1 X (c_X6_noField g l o_a (nI 0) o_ts o_pl o_nf o_ne o_rf o_re o_ac o_cm o_sd o_wf o_sm o_sf o_rm o_rs  f (by omega)) k_RX6_167 hy_X6_noField (by decide) (range_at _ _) (range_nd _) 0 rfl rfl nX6_rests_23 rfl rfl (Nat.le_of_ble_eq_true rfl) (wput_range _ _ _ (by simp only [List.length_append, wO_len])) ?_
      refine V_blk (ws' := (wO g o_a (nI 0) o_ts o_pl o_nf o_ne o_rf o_re o_ac o_cm o_sd o_wf o_sm o_sf o_rm o_rs) ++ (wML g o_a m_pl m_yl m_nd m_hm m_wk m_kd) ++ (wI g (o_a 10) 29 g_f) ++ (wI g (o_a 11) 29 y_f) ++ (wI g (o_a 17) 5 r_f) ++ (wI g (o_a 18) 8 n_f)) [wO g o_a (nI 0) o_ts o_pl o_nf o_ne o_rf o_re o_ac o_cm o_sd o_wf o_sm o_sf o_rm o_rs, wML g o_a m_pl m_yl m_nd m_hm m_wk m_kd, wI g (o_a 10) 29 g_f, wI g (o_a 11) 29 y_f, wI g (o_a 17) 5 r_f, wI g (o_a 18) 8 n_f] [0, 1, 2, 3, 4, 5] rfl (by simp only [List.flatten_cons, List.flatten_nil, List.append_nil, List.append_assoc]) (by show List.flatten [wO g o_a (nI 0) o_ts o_pl o_nf o_ne o_rf o_re o_ac o_cm o_sd o_wf o_sm o_sf o_rm o_rs, wML g o_a m_pl m_yl m_nd m_hm m_wk m_kd, wI g (o_a 10) 29 g_f, wI g (o_a 11) 29 y_f, wI g (o_a 17) 5 r_f, wI g (o_a 18) 8 n_f] = _; simp only [List.flatten_cons, List.flatten_nil, List.append_nil, List.append_assoc]) ?_
      refine V_if_eq_b (tgt := 31) nX6_rests_26 rfl (fun h26 => ?_) (fun h26 => ?_)
      · skip
        obtain ⟨d, hf_d, rfl⟩ := nhas h26 (by omega)
        have hix_d : ix (nI d) = d := ix_nI (by omega)
        have hp_d : hasN o_nf (nI d) = true := by rw [Bool.not_eq_false'] at h26; exact h26
        refine V_iload_n nX6_rests_31 rfl ?_
        refine V_iload_n nX6_rests_32 rfl ?_
        refine V_icmp_eq_N (tgt := 47) nX6_rests_33 rfl (by omega) (by omega) (fun h33 => ?_) (fun h33 => ?_)
        · skip
          refine V_bipush (v := (-2)) nX6_rests_47 (by decide) ?_
          have hab : a = b := h33
          subst hab
          exact R_i rfl X hQ nX6_rests_49 (by simp only [List.map_append, wI_fst, wML_fst, wO_fst]) (⟨y_f, r_f, o_wf, n_f, o_rm, o_rs, by simp [rsM, hix_a, hp_a, hix_b, hp_b, hix_d, hp_d], rfl⟩)
        · skip
          have hab : ¬ nI a = nI b := fun q => h33 ((nI_eq (by omega) (by omega)).mp q)
          refine V_iload nX6_rests_36 rfl ?_
          refine V_i2l nX6_rests_38 rfl ?_
          refine V_lconst (v := lN 0) nX6_rests_39 rfl ?_
          refine V_lconst (v := lN 1) nX6_rests_40 rfl ?_
          refine V_cSi (ws' := (wO g o_a (nI 0) o_ts o_pl o_nf o_ne o_rf o_re o_ac o_cm o_sd o_wf o_sm o_sf o_rm o_rs) ++ (wML g o_a m_pl m_yl m_nd m_hm m_wk m_kd) ++ (wI g (o_a 10) 29 g_f) ++ (wI g (o_a 11) 29 y_f) ++ (wI g (o_a 17) 5 r_f) ++ (wI g (o_a 18) 8 n_f)) [] 3 X (c_X6_in g l   (Int32.toInt64 w) (lN 0) (lN 1) ) k_RX6_75 hy_X6_in.2 (by decide) rfl (by decide) nX6_rests_41 rfl rfl (Nat.le_of_ble_eq_true rfl) rfl ?_
          refine V_topb (b := rgB w 1) (congrArg bI (inL_rg (by decide) w)) ?_
          refine V_if_ne_b (tgt := 50) nX6_rests_44 rfl (fun h44 => ?_) (fun h44 => ?_)
          · skip
            refine V_iconst (v := (nI 0)) nX6_rests_50 rfl ?_
            refine V_istore (lv' := [(0, .ref (o_a 0)), (1, .int (nI a)), (2, .int (nI b)), (3, .int (nI d)), (4, .int w), (5, .int (nI 0))]) nX6_rests_51 (by decide) rfl ?_
            have L53 : ∀ (n : Nat) (k : Nat) (q : Nat → Int32) (r : Nat → Int32) (v : Int32), 4 - k < n → k ≤ 4 → V g E mX6_rests A Q 0 0 ((wO g o_a (nI 0) o_ts o_pl o_nf o_ne o_rf o_re o_ac o_cm o_sd v o_sm o_sf o_rm o_rs) ++ (wML g o_a m_pl m_yl m_nd m_hm m_wk m_kd) ++ (wI g (o_a 10) 29 g_f) ++ (wI g (o_a 11) 29 q) ++ (wI g (o_a 17) 5 r) ++ (wI g (o_a 18) 8 (rqZ o_nf o_ne m_pl m_nd m_hm m_wk m_kd g_f a b d n_f k))) 53 [(0, .ref (o_a 0)), (1, .int (nI a)), (2, .int (nI b)), (3, .int (nI d)), (4, .int w), (5, .int (nI k))] [] := by
              intro n
              induction n with
              | zero => intro k q r v hm; exact absurd hm (Nat.not_lt_zero _)
              | succ n ih =>
                intro k q r v hm hk
                refine V_iload nX6_rests_53 rfl ?_
                refine V_iconst (v := (nI 4)) nX6_rests_55 rfl ?_
                refine V_icmp_ge_N (tgt := 199) nX6_rests_56 rfl (by omega) (by omega) (fun h56 => ?_) (fun h56 => ?_)
                · skip
                  have hkx : k = 4 := by omega
                  subst hkx
                  refine V_aload_n nX6_rests_199 rfl ?_
                  refine V_iconst (v := (nI 0)) nX6_rests_200 rfl ?_
                  refine V_put6 (ws' := (wO g o_a (nI 0) o_ts o_pl o_nf o_ne o_rf o_re o_ac o_cm o_sd v o_sm o_sf (nI 0) o_rs) ++ (wML g o_a m_pl m_yl m_nd m_hm m_wk m_kd) ++ (wI g (o_a 10) 29 g_f) ++ (wI g (o_a 11) 29 q) ++ (wI g (o_a 17) 5 r) ++ (wI g (o_a 18) 8 (rqZ o_nf o_ne m_pl m_nd m_hm m_wk m_kd g_f a b d n_f 4))) 0 30 (by decide) f_RX6_232 rfl rfl rfl rfl nX6_rests_201 rfl (Nat.le_of_ble_eq_true rfl) rfl ?_
                  refine V_aload_n nX6_rests_204 rfl ?_
                  refine V_bipush (v := (-9)) nX6_rests_205 (by decide) ?_
                  refine V_put6 (ws' := (wO g o_a (nI 0) o_ts o_pl o_nf o_ne o_rf o_re o_ac o_cm o_sd v o_sm o_sf (nI 0) (-9)) ++ (wML g o_a m_pl m_yl m_nd m_hm m_wk m_kd) ++ (wI g (o_a 10) 29 g_f) ++ (wI g (o_a 11) 29 q) ++ (wI g (o_a 17) 5 r) ++ (wI g (o_a 18) 8 (rqZ o_nf o_ne m_pl m_nd m_hm m_wk m_kd g_f a b d n_f 4))) 0 31 (by decide) f_RX6_235 rfl rfl rfl rfl nX6_rests_207 rfl (Nat.le_of_ble_eq_true rfl) rfl ?_
                  refine V_iconst (v := (nI 0)) nX6_rests_210 rfl ?_
                  refine V_istore (lv' := [(0, .ref (o_a 0)), (1, .int (nI a)), (2, .int (nI b)), (3, .int (nI d)), (4, .int w), (5, .int (nI 0))]) nX6_rests_211 (by decide) rfl ?_
                  have L213 : ∀ (n : Nat) (k : Nat), 4 - k < n → k ≤ 4 → V g E mX6_rests A Q 0 0 ((wO g o_a (nI 0) o_ts o_pl o_nf o_ne o_rf o_re o_ac o_cm o_sd v o_sm o_sf (ctM (rqR (rqZ o_nf o_ne m_pl m_nd m_hm m_wk m_kd g_f a b d n_f 4)) k) (fsM (rqR (rqZ o_nf o_ne m_pl m_nd m_hm m_wk m_kd g_f a b d n_f 4)) (fun z9 => 10 * (z9 / 2) + z9 % 2) k)) ++ (wML g o_a m_pl m_yl m_nd m_hm m_wk m_kd) ++ (wI g (o_a 10) 29 g_f) ++ (wI g (o_a 11) 29 q) ++ (wI g (o_a 17) 5 r) ++ (wI g (o_a 18) 8 (rqZ o_nf o_ne m_pl m_nd m_hm m_wk m_kd g_f a b d n_f 4))) 213 [(0, .ref (o_a 0)), (1, .int (nI a)), (2, .int (nI b)), (3, .int (nI d)), (4, .int w), (5, .int (nI k))] [] := by
                    intro n
                    induction n with
                    | zero => intro k hm; exact absurd hm (Nat.not_lt_zero _)
                    | succ n ih213 =>
                      intro k hm hk
                      refine V_iload nX6_rests_213 rfl ?_
                      refine V_iconst (v := (nI 4)) nX6_rests_215 rfl ?_
                      refine V_icmp_ge_N (tgt := 336) nX6_rests_216 rfl (by omega) (by omega) (fun h216 => ?_) (fun h216 => ?_)
                      · skip
                        have hkx : k = 4 := by omega
                        subst hkx
                        refine V_iload nX6_rests_336 rfl ?_
                        refine V_if_ne (tgt := 348) nX6_rests_338 rfl (fun h338 => ?_) (fun h338 => ?_)
                        · skip
                          refine V_aload_n nX6_rests_348 rfl ?_
                          refine V_get6 0 31 (by decide) f_RX6_235 nX6_rests_349 rfl rfl ?_
                          exact R_i rfl X hQ nX6_rests_352 (by simp only [List.map_append, wI_fst, wML_fst, wO_fst]) (⟨q, r, v, rqZ o_nf o_ne m_pl m_nd m_hm m_wk m_kd g_f a b d n_f 4, ctM (rqR (rqZ o_nf o_ne m_pl m_nd m_hm m_wk m_kd g_f a b d n_f 4)) 4, fsM (rqR (rqZ o_nf o_ne m_pl m_nd m_hm m_wk m_kd g_f a b d n_f 4)) (fun z9 => 10 * (z9 / 2) + z9 % 2) 4, by rw [show rsM o_nf o_ne m_pl m_nd m_hm m_wk m_kd g_f n_f (nI a) (nI b) (nI d) w = (if w = 0 then ctM (rqR (rqZ o_nf o_ne m_pl m_nd m_hm m_wk m_kd g_f a b d n_f 4)) 4 else fsM (rqR (rqZ o_nf o_ne m_pl m_nd m_hm m_wk m_kd g_f a b d n_f 4)) (fun z9 => 10 * (z9 / 2) + z9 % 2) 4) from by simp [rsM, hix_a, hp_a, hix_b, hp_b, hix_d, hp_d, hab, h44]]; simp [h338], rfl⟩)
                        · skip
                          refine V_aload_n nX6_rests_341 rfl ?_
                          refine V_get6 0 30 (by decide) f_RX6_232 nX6_rests_342 rfl rfl ?_
                          refine V_goto (tgt := 352) nX6_rests_345 rfl ?_
                          exact R_i rfl X hQ nX6_rests_352 (by simp only [List.map_append, wI_fst, wML_fst, wO_fst]) (⟨q, r, v, rqZ o_nf o_ne m_pl m_nd m_hm m_wk m_kd g_f a b d n_f 4, ctM (rqR (rqZ o_nf o_ne m_pl m_nd m_hm m_wk m_kd g_f a b d n_f 4)) 4, fsM (rqR (rqZ o_nf o_ne m_pl m_nd m_hm m_wk m_kd g_f a b d n_f 4)) (fun z9 => 10 * (z9 / 2) + z9 % 2) 4, by rw [show rsM o_nf o_ne m_pl m_nd m_hm m_wk m_kd g_f n_f (nI a) (nI b) (nI d) w = (if w = 0 then ctM (rqR (rqZ o_nf o_ne m_pl m_nd m_hm m_wk m_kd g_f a b d n_f 4)) 4 else fsM (rqR (rqZ o_nf o_ne m_pl m_nd m_hm m_wk m_kd g_f a b d n_f 4)) (fun z9 => 10 * (z9 / 2) + z9 % 2) 4) from by simp [rsM, hix_a, hp_a, hix_b, hp_b, hix_d, hp_d, hab, h44]]; simp [h338], rfl⟩)
                      · skip
                        refine V_aload_n nX6_rests_219 rfl ?_
                        refine V_get6 0 32 (by decide) f_RX6_62 nX6_rests_220 rfl rfl ?_
                        refine V_iconst (v := (nI 2)) nX6_rests_223 rfl ?_
                        refine V_iload nX6_rests_224 rfl ?_
                        refine V_iconst (v := (nI 2)) nX6_rests_226 rfl ?_
                        refine V_ixor (v := nI (k ^^^ 2)) nX6_rests_227 (nx_xor k 2) ?_
                        refine V_imul (v := nI (2 * (k ^^^ 2))) nX6_rests_228 (pk_mul 2 (k ^^^ 2)) ?_
                        refine V_iald 10 nX6_rests_229 rfl (xm2 k (by omega)) (by decide) rfl ?_
                        refine V_aload_n nX6_rests_230 rfl ?_
                        refine V_get6 0 32 (by decide) f_RX6_62 nX6_rests_231 rfl rfl ?_
                        refine V_iconst (v := (nI 2)) nX6_rests_234 rfl ?_
                        refine V_iload nX6_rests_235 rfl ?_
                        refine V_imul (v := nI (2 * k)) nX6_rests_237 (pk_mul 2 k) ?_
                        refine V_iald 10 nX6_rests_238 rfl (by omega) (by decide) rfl ?_
                        refine V_joinb (b := rqR (rqZ o_nf o_ne m_pl m_nd m_hm m_wk m_kd g_f a b d n_f 4) k) (pj := 274) (st := []) (fun J1 J2 => ?_) ?_
                        · skip
                          refine V_icmp_gt (tgt := 273) nX6_rests_239 rfl (fun h239 => ?_) (fun h239 => ?_)
                          · skip
                            refine V_iconst (v := (nI 0)) nX6_rests_273 rfl ?_
                            exact J2 (by first | (unfold rqR; rw [decide_eq_true h239]; rfl) | (unfold rqR; rw [decide_eq_true h266, Bool.not_true, Bool.and_false]) | (unfold rqR; rw [decide_eq_false h239, decide_eq_false h266]; rfl))
                          · skip
                            refine V_aload_n nX6_rests_242 rfl ?_
                            refine V_get6 0 32 (by decide) f_RX6_62 nX6_rests_243 rfl rfl ?_
                            refine V_iconst (v := (nI 2)) nX6_rests_246 rfl ?_
                            refine V_iload nX6_rests_247 rfl ?_
                            refine V_iconst (v := (nI 1)) nX6_rests_249 rfl ?_
                            refine V_ixor (v := nI (k ^^^ 1)) nX6_rests_250 (nx_xor k 1) ?_
                            refine V_imul (v := nI (2 * (k ^^^ 1))) nX6_rests_251 (pk_mul 2 (k ^^^ 1)) ?_
                            refine V_iconst (v := (nI 1)) nX6_rests_252 rfl ?_
                            refine V_iadd (v := nI ((2 * (k ^^^ 1)) + 1)) nX6_rests_253 (nI_add (2 * (k ^^^ 1)) 1) ?_
                            refine V_iald 10 nX6_rests_254 rfl (xm1 k (by omega)) (by decide) rfl ?_
                            refine V_aload_n nX6_rests_255 rfl ?_
                            refine V_get6 0 32 (by decide) f_RX6_62 nX6_rests_256 rfl rfl ?_
                            refine V_iconst (v := (nI 2)) nX6_rests_259 rfl ?_
                            refine V_iload nX6_rests_260 rfl ?_
                            refine V_imul (v := nI (2 * k)) nX6_rests_262 (pk_mul 2 k) ?_
                            refine V_iconst (v := (nI 1)) nX6_rests_263 rfl ?_
                            refine V_iadd (v := nI ((2 * k) + 1)) nX6_rests_264 (nI_add (2 * k) 1) ?_
                            refine V_iald 10 nX6_rests_265 rfl (by omega) (by decide) rfl ?_
                            refine V_icmp_gt (tgt := 273) nX6_rests_266 rfl (fun h266 => ?_) (fun h266 => ?_)
                            · skip
                              refine V_iconst (v := (nI 0)) nX6_rests_273 rfl ?_
                              exact J2 (by first | (unfold rqR; rw [decide_eq_true h239]; rfl) | (unfold rqR; rw [decide_eq_true h266, Bool.not_true, Bool.and_false]) | (unfold rqR; rw [decide_eq_false h239, decide_eq_false h266]; rfl))
                            · skip
                              refine V_iconst (v := (nI 1)) nX6_rests_269 rfl ?_
                              refine V_goto (tgt := 274) nX6_rests_270 rfl ?_
                              exact J1 (by first | (unfold rqR; rw [decide_eq_true h239]; rfl) | (unfold rqR; rw [decide_eq_true h266, Bool.not_true, Bool.and_false]) | (unfold rqR; rw [decide_eq_false h239, decide_eq_false h266]; rfl))
                        refine V_istore (lv' := [(0, .ref (o_a 0)), (1, .int (nI a)), (2, .int (nI b)), (3, .int (nI d)), (4, .int w), (5, .int (nI k)), (6, .int (bI (rqR (rqZ o_nf o_ne m_pl m_nd m_hm m_wk m_kd g_f a b d n_f 4) k)))]) nX6_rests_274 (by decide) rfl ?_
                        refine V_aload_n nX6_rests_276 rfl ?_
                        refine V_iload nX6_rests_277 rfl ?_
                        refine V_if_eq_b (tgt := 304) nX6_rests_279 rfl (fun h279 => ?_) (fun h279 => ?_)
                        · skip
                          refine V_aload_n nX6_rests_304 rfl ?_
                          refine V_get6 0 31 (by decide) f_RX6_235 nX6_rests_305 rfl rfl ?_
                          refine V_put6 (ws' := (wO g o_a (nI 0) o_ts o_pl o_nf o_ne o_rf o_re o_ac o_cm o_sd v o_sm o_sf (ctM (rqR (rqZ o_nf o_ne m_pl m_nd m_hm m_wk m_kd g_f a b d n_f 4)) k) (fsM (rqR (rqZ o_nf o_ne m_pl m_nd m_hm m_wk m_kd g_f a b d n_f 4)) (fun z9 => 10 * (z9 / 2) + z9 % 2) k)) ++ (wML g o_a m_pl m_yl m_nd m_hm m_wk m_kd) ++ (wI g (o_a 10) 29 g_f) ++ (wI g (o_a 11) 29 q) ++ (wI g (o_a 17) 5 r) ++ (wI g (o_a 18) 8 (rqZ o_nf o_ne m_pl m_nd m_hm m_wk m_kd g_f a b d n_f 4))) 0 31 (by decide) f_RX6_235 rfl rfl rfl rfl nX6_rests_308 rfl (Nat.le_of_ble_eq_true rfl) rfl ?_
                          refine V_aload_n nX6_rests_311 rfl ?_
                          refine V_dup nX6_rests_312 rfl ?_
                          refine V_get6 0 30 (by decide) f_RX6_232 nX6_rests_313 rfl rfl ?_
                          refine V_iload nX6_rests_316 rfl ?_
                          refine V_joinb (b := (rqR (rqZ o_nf o_ne m_pl m_nd m_hm m_wk m_kd g_f a b d n_f 4) k)) (pj := 326) (st := [.int (ctM (rqR (rqZ o_nf o_ne m_pl m_nd m_hm m_wk m_kd g_f a b d n_f 4)) k), .ref (o_a 0)]) (fun J1 J2 => ?_) ?_
                          · skip
                            refine V_if_eq_b (tgt := 325) nX6_rests_318 rfl (fun h318 => ?_) (fun h318 => ?_)
                            · skip
                              refine V_iconst (v := (nI 0)) nX6_rests_325 rfl ?_
                              exact J2 (by simp [h318])
                            · skip
                              refine V_iconst (v := (nI 1)) nX6_rests_321 rfl ?_
                              refine V_goto (tgt := 326) nX6_rests_322 rfl ?_
                              exact J1 (by simp [h318])
                          refine V_iadd (v := (ctM (rqR (rqZ o_nf o_ne m_pl m_nd m_hm m_wk m_kd g_f a b d n_f 4)) k) + (bI (rqR (rqZ o_nf o_ne m_pl m_nd m_hm m_wk m_kd g_f a b d n_f 4) k))) nX6_rests_326 rfl ?_
                          refine V_put6 (ws' := (wO g o_a (nI 0) o_ts o_pl o_nf o_ne o_rf o_re o_ac o_cm o_sd v o_sm o_sf ((ctM (rqR (rqZ o_nf o_ne m_pl m_nd m_hm m_wk m_kd g_f a b d n_f 4)) k) + (bI (rqR (rqZ o_nf o_ne m_pl m_nd m_hm m_wk m_kd g_f a b d n_f 4) k))) (fsM (rqR (rqZ o_nf o_ne m_pl m_nd m_hm m_wk m_kd g_f a b d n_f 4)) (fun z9 => 10 * (z9 / 2) + z9 % 2) k)) ++ (wML g o_a m_pl m_yl m_nd m_hm m_wk m_kd) ++ (wI g (o_a 10) 29 g_f) ++ (wI g (o_a 11) 29 q) ++ (wI g (o_a 17) 5 r) ++ (wI g (o_a 18) 8 (rqZ o_nf o_ne m_pl m_nd m_hm m_wk m_kd g_f a b d n_f 4))) 0 30 (by decide) f_RX6_232 rfl rfl rfl rfl nX6_rests_327 rfl (Nat.le_of_ble_eq_true rfl) rfl ?_
                          refine V_iinc (v := nI (k + 1)) (lv' := [(0, .ref (o_a 0)), (1, .int (nI a)), (2, .int (nI b)), (3, .int (nI d)), (4, .int w), (5, .int (nI (k + 1))), (6, .int (bI (rqR (rqZ o_nf o_ne m_pl m_nd m_hm m_wk m_kd g_f a b d n_f 4) k)))]) nX6_rests_330 rfl (nI_add k 1) (by decide) rfl ?_
                          refine V_goto (tgt := 213) nX6_rests_333 rfl ?_
                          refine V_pick (lv2 := [(0, .ref (o_a 0)), (1, .int (nI a)), (2, .int (nI b)), (3, .int (nI d)), (4, .int w), (5, .int (nI (k + 1)))]) [0, 1, 2, 3, 4, 5] rfl ?_
                          have q9 := ih213 (k + 1) (by omega) (by omega)
                          rw [show fsM (rqR (rqZ o_nf o_ne m_pl m_nd m_hm m_wk m_kd g_f a b d n_f 4)) (fun z9 => 10 * (z9 / 2) + z9 % 2) (k + 1) = _ from if_neg (fun q => by have q1 := q.1; rw [show rqR (rqZ o_nf o_ne m_pl m_nd m_hm m_wk m_kd g_f a b d n_f 4) k = false from h279] at q1; exact absurd q1 (by decide))] at q9
                          exact q9
                        · skip
                          refine V_aload_n nX6_rests_282 rfl ?_
                          refine V_get6 0 30 (by decide) f_RX6_232 nX6_rests_283 rfl rfl ?_
                          refine V_if_ne (tgt := 304) nX6_rests_286 rfl (fun h286 => ?_) (fun h286 => ?_)
                          · skip
                            refine V_aload_n nX6_rests_304 rfl ?_
                            refine V_get6 0 31 (by decide) f_RX6_235 nX6_rests_305 rfl rfl ?_
                            refine V_put6 (ws' := (wO g o_a (nI 0) o_ts o_pl o_nf o_ne o_rf o_re o_ac o_cm o_sd v o_sm o_sf (ctM (rqR (rqZ o_nf o_ne m_pl m_nd m_hm m_wk m_kd g_f a b d n_f 4)) k) (fsM (rqR (rqZ o_nf o_ne m_pl m_nd m_hm m_wk m_kd g_f a b d n_f 4)) (fun z9 => 10 * (z9 / 2) + z9 % 2) k)) ++ (wML g o_a m_pl m_yl m_nd m_hm m_wk m_kd) ++ (wI g (o_a 10) 29 g_f) ++ (wI g (o_a 11) 29 q) ++ (wI g (o_a 17) 5 r) ++ (wI g (o_a 18) 8 (rqZ o_nf o_ne m_pl m_nd m_hm m_wk m_kd g_f a b d n_f 4))) 0 31 (by decide) f_RX6_235 rfl rfl rfl rfl nX6_rests_308 rfl (Nat.le_of_ble_eq_true rfl) rfl ?_
                            refine V_aload_n nX6_rests_311 rfl ?_
                            refine V_dup nX6_rests_312 rfl ?_
                            refine V_get6 0 30 (by decide) f_RX6_232 nX6_rests_313 rfl rfl ?_
                            refine V_iload nX6_rests_316 rfl ?_
                            refine V_joinb (b := (rqR (rqZ o_nf o_ne m_pl m_nd m_hm m_wk m_kd g_f a b d n_f 4) k)) (pj := 326) (st := [.int (ctM (rqR (rqZ o_nf o_ne m_pl m_nd m_hm m_wk m_kd g_f a b d n_f 4)) k), .ref (o_a 0)]) (fun J1 J2 => ?_) ?_
                            · skip
                              refine V_if_eq_b (tgt := 325) nX6_rests_318 rfl (fun h318 => ?_) (fun h318 => ?_)
                              · skip
                                refine V_iconst (v := (nI 0)) nX6_rests_325 rfl ?_
                                exact J2 (by simp [h318])
                              · skip
                                refine V_iconst (v := (nI 1)) nX6_rests_321 rfl ?_
                                refine V_goto (tgt := 326) nX6_rests_322 rfl ?_
                                exact J1 (by simp [h318])
                            refine V_iadd (v := (ctM (rqR (rqZ o_nf o_ne m_pl m_nd m_hm m_wk m_kd g_f a b d n_f 4)) k) + (bI (rqR (rqZ o_nf o_ne m_pl m_nd m_hm m_wk m_kd g_f a b d n_f 4) k))) nX6_rests_326 rfl ?_
                            refine V_put6 (ws' := (wO g o_a (nI 0) o_ts o_pl o_nf o_ne o_rf o_re o_ac o_cm o_sd v o_sm o_sf ((ctM (rqR (rqZ o_nf o_ne m_pl m_nd m_hm m_wk m_kd g_f a b d n_f 4)) k) + (bI (rqR (rqZ o_nf o_ne m_pl m_nd m_hm m_wk m_kd g_f a b d n_f 4) k))) (fsM (rqR (rqZ o_nf o_ne m_pl m_nd m_hm m_wk m_kd g_f a b d n_f 4)) (fun z9 => 10 * (z9 / 2) + z9 % 2) k)) ++ (wML g o_a m_pl m_yl m_nd m_hm m_wk m_kd) ++ (wI g (o_a 10) 29 g_f) ++ (wI g (o_a 11) 29 q) ++ (wI g (o_a 17) 5 r) ++ (wI g (o_a 18) 8 (rqZ o_nf o_ne m_pl m_nd m_hm m_wk m_kd g_f a b d n_f 4))) 0 30 (by decide) f_RX6_232 rfl rfl rfl rfl nX6_rests_327 rfl (Nat.le_of_ble_eq_true rfl) rfl ?_
                            refine V_iinc (v := nI (k + 1)) (lv' := [(0, .ref (o_a 0)), (1, .int (nI a)), (2, .int (nI b)), (3, .int (nI d)), (4, .int w), (5, .int (nI (k + 1))), (6, .int (bI (rqR (rqZ o_nf o_ne m_pl m_nd m_hm m_wk m_kd g_f a b d n_f 4) k)))]) nX6_rests_330 rfl (nI_add k 1) (by decide) rfl ?_
                            refine V_goto (tgt := 213) nX6_rests_333 rfl ?_
                            refine V_pick (lv2 := [(0, .ref (o_a 0)), (1, .int (nI a)), (2, .int (nI b)), (3, .int (nI d)), (4, .int w), (5, .int (nI (k + 1)))]) [0, 1, 2, 3, 4, 5] rfl ?_
                            have q9 := ih213 (k + 1) (by omega) (by omega)
                            rw [show fsM (rqR (rqZ o_nf o_ne m_pl m_nd m_hm m_wk m_kd g_f a b d n_f 4)) (fun z9 => 10 * (z9 / 2) + z9 % 2) (k + 1) = _ from if_neg (fun q => h286 q.2)] at q9
                            exact q9
                          · skip
                            refine V_bipush (v := (nI 10)) nX6_rests_289 (by decide) ?_
                            refine V_iload nX6_rests_291 rfl ?_
                            refine V_iconst (v := (nI 2)) nX6_rests_293 rfl ?_
                            refine V_idiv (v := nI (k / 2)) nX6_rests_294 (nI_ne0 (by omega) (by omega)) (pk_div (by omega) (by omega) (by omega)) ?_
                            refine V_imul (v := nI (10 * (k / 2))) nX6_rests_295 (pk_mul 10 (k / 2)) ?_
                            refine V_iload nX6_rests_296 rfl ?_
                            refine V_iconst (v := (nI 2)) nX6_rests_298 rfl ?_
                            refine V_irem (v := nI (k % 2)) nX6_rests_299 (nI_ne0 (by omega) (by omega)) (pk_rem (by omega) (by omega) (by omega)) ?_
                            refine V_iadd (v := nI ((10 * (k / 2)) + (k % 2))) nX6_rests_300 (nI_add (10 * (k / 2)) (k % 2)) ?_
                            refine V_goto (tgt := 308) nX6_rests_301 rfl ?_
                            refine V_put6 (ws' := (wO g o_a (nI 0) o_ts o_pl o_nf o_ne o_rf o_re o_ac o_cm o_sd v o_sm o_sf (ctM (rqR (rqZ o_nf o_ne m_pl m_nd m_hm m_wk m_kd g_f a b d n_f 4)) k) (nI ((10 * (k / 2)) + (k % 2)))) ++ (wML g o_a m_pl m_yl m_nd m_hm m_wk m_kd) ++ (wI g (o_a 10) 29 g_f) ++ (wI g (o_a 11) 29 q) ++ (wI g (o_a 17) 5 r) ++ (wI g (o_a 18) 8 (rqZ o_nf o_ne m_pl m_nd m_hm m_wk m_kd g_f a b d n_f 4))) 0 31 (by decide) f_RX6_235 rfl rfl rfl rfl nX6_rests_308 rfl (Nat.le_of_ble_eq_true rfl) rfl ?_
                            refine V_aload_n nX6_rests_311 rfl ?_
                            refine V_dup nX6_rests_312 rfl ?_
                            refine V_get6 0 30 (by decide) f_RX6_232 nX6_rests_313 rfl rfl ?_
                            refine V_iload nX6_rests_316 rfl ?_
                            refine V_joinb (b := (rqR (rqZ o_nf o_ne m_pl m_nd m_hm m_wk m_kd g_f a b d n_f 4) k)) (pj := 326) (st := [.int (ctM (rqR (rqZ o_nf o_ne m_pl m_nd m_hm m_wk m_kd g_f a b d n_f 4)) k), .ref (o_a 0)]) (fun J1 J2 => ?_) ?_
                            · skip
                              refine V_if_eq_b (tgt := 325) nX6_rests_318 rfl (fun h318 => ?_) (fun h318 => ?_)
                              · skip
                                refine V_iconst (v := (nI 0)) nX6_rests_325 rfl ?_
                                exact J2 (by simp [h318])
                              · skip
                                refine V_iconst (v := (nI 1)) nX6_rests_321 rfl ?_
                                refine V_goto (tgt := 326) nX6_rests_322 rfl ?_
                                exact J1 (by simp [h318])
                            refine V_iadd (v := (ctM (rqR (rqZ o_nf o_ne m_pl m_nd m_hm m_wk m_kd g_f a b d n_f 4)) k) + (bI (rqR (rqZ o_nf o_ne m_pl m_nd m_hm m_wk m_kd g_f a b d n_f 4) k))) nX6_rests_326 rfl ?_
                            refine V_put6 (ws' := (wO g o_a (nI 0) o_ts o_pl o_nf o_ne o_rf o_re o_ac o_cm o_sd v o_sm o_sf ((ctM (rqR (rqZ o_nf o_ne m_pl m_nd m_hm m_wk m_kd g_f a b d n_f 4)) k) + (bI (rqR (rqZ o_nf o_ne m_pl m_nd m_hm m_wk m_kd g_f a b d n_f 4) k))) (nI ((10 * (k / 2)) + (k % 2)))) ++ (wML g o_a m_pl m_yl m_nd m_hm m_wk m_kd) ++ (wI g (o_a 10) 29 g_f) ++ (wI g (o_a 11) 29 q) ++ (wI g (o_a 17) 5 r) ++ (wI g (o_a 18) 8 (rqZ o_nf o_ne m_pl m_nd m_hm m_wk m_kd g_f a b d n_f 4))) 0 30 (by decide) f_RX6_232 rfl rfl rfl rfl nX6_rests_327 rfl (Nat.le_of_ble_eq_true rfl) rfl ?_
                            refine V_iinc (v := nI (k + 1)) (lv' := [(0, .ref (o_a 0)), (1, .int (nI a)), (2, .int (nI b)), (3, .int (nI d)), (4, .int w), (5, .int (nI (k + 1))), (6, .int (bI (rqR (rqZ o_nf o_ne m_pl m_nd m_hm m_wk m_kd g_f a b d n_f 4) k)))]) nX6_rests_330 rfl (nI_add k 1) (by decide) rfl ?_
                            refine V_goto (tgt := 213) nX6_rests_333 rfl ?_
                            refine V_pick (lv2 := [(0, .ref (o_a 0)), (1, .int (nI a)), (2, .int (nI b)), (3, .int (nI d)), (4, .int w), (5, .int (nI (k + 1)))]) [0, 1, 2, 3, 4, 5] rfl ?_
                            have q9 := ih213 (k + 1) (by omega) (by omega)
                            rw [show fsM (rqR (rqZ o_nf o_ne m_pl m_nd m_hm m_wk m_kd g_f a b d n_f 4)) (fun z9 => 10 * (z9 / 2) + z9 % 2) (k + 1) = _ from if_pos ⟨h279, h286⟩] at q9
                            exact q9
                  exact L213 _ 0 (Nat.lt_succ_self _) (by omega)
                · skip
                  refine V_aload_n nX6_rests_59 rfl ?_
                  refine V_blk (ws' := ((wO g o_a (nI 0) o_ts o_pl o_nf o_ne o_rf o_re o_ac o_cm o_sd v o_sm o_sf o_rm o_rs) ++ (wI g (o_a 10) 29 g_f) ++ (wI g (o_a 11) 29 q)) ++ ((wML g o_a m_pl m_yl m_nd m_hm m_wk m_kd) ++ (wI g (o_a 17) 5 r) ++ (wI g (o_a 18) 8 (rqZ o_nf o_ne m_pl m_nd m_hm m_wk m_kd g_f a b d n_f k)))) [wO g o_a (nI 0) o_ts o_pl o_nf o_ne o_rf o_re o_ac o_cm o_sd v o_sm o_sf o_rm o_rs, wML g o_a m_pl m_yl m_nd m_hm m_wk m_kd, wI g (o_a 10) 29 g_f, wI g (o_a 11) 29 q, wI g (o_a 17) 5 r, wI g (o_a 18) 8 (rqZ o_nf o_ne m_pl m_nd m_hm m_wk m_kd g_f a b d n_f k)] [0, 2, 3, 1, 4, 5] rfl (by simp only [List.flatten_cons, List.flatten_nil, List.append_nil, List.append_assoc]) (by show List.flatten [wO g o_a (nI 0) o_ts o_pl o_nf o_ne o_rf o_re o_ac o_cm o_sd v o_sm o_sf o_rm o_rs, wI g (o_a 10) 29 g_f, wI g (o_a 11) 29 q, wML g o_a m_pl m_yl m_nd m_hm m_wk m_kd, wI g (o_a 17) 5 r, wI g (o_a 18) 8 (rqZ o_nf o_ne m_pl m_nd m_hm m_wk m_kd g_f a b d n_f k)] = _; simp only [List.flatten_cons, List.flatten_nil, List.append_nil, List.append_assoc]) ?_
                  refine V_cVv (C := (RX6, TX6, 34)) (ci := 6) (ws' := ((wO g o_a (nI 0) o_ts o_pl o_nf o_ne o_rf o_re o_ac o_cm o_sd v o_sm o_sf o_rm o_rs) ++ (wI g (o_a 10) 29 g_f) ++ (wI g (o_a 11) 29 g_f)) ++ ((wML g o_a m_pl m_yl m_nd m_hm m_wk m_kd) ++ (wI g (o_a 17) 5 r) ++ (wI g (o_a 18) 8 (rqZ o_nf o_ne m_pl m_nd m_hm m_wk m_kd g_f a b d n_f k)))) (List.range _) 0 X (c_X6_begin g l o_a (nI 0) o_ts o_pl o_nf o_ne o_rf o_re o_ac o_cm o_sd v o_sm o_sf o_rm o_rs g_f q   ) k_RX6_152 hy_X6_begin (by decide) (range_at _ _) (range_nd _) 0 rfl rfl nX6_rests_60 rfl rfl (Nat.le_of_ble_eq_true rfl) (wput_range _ _ _ (by simp only [List.length_append, wI_len, wO_len])) ?_
                  refine V_blk (ws' := (wO g o_a (nI 0) o_ts o_pl o_nf o_ne o_rf o_re o_ac o_cm o_sd v o_sm o_sf o_rm o_rs) ++ (wML g o_a m_pl m_yl m_nd m_hm m_wk m_kd) ++ (wI g (o_a 10) 29 g_f) ++ (wI g (o_a 11) 29 g_f) ++ (wI g (o_a 17) 5 r) ++ (wI g (o_a 18) 8 (rqZ o_nf o_ne m_pl m_nd m_hm m_wk m_kd g_f a b d n_f k))) [wO g o_a (nI 0) o_ts o_pl o_nf o_ne o_rf o_re o_ac o_cm o_sd v o_sm o_sf o_rm o_rs, wI g (o_a 10) 29 g_f, wI g (o_a 11) 29 g_f, wML g o_a m_pl m_yl m_nd m_hm m_wk m_kd, wI g (o_a 17) 5 r, wI g (o_a 18) 8 (rqZ o_nf o_ne m_pl m_nd m_hm m_wk m_kd g_f a b d n_f k)] [0, 3, 1, 2, 4, 5] rfl (by simp only [List.flatten_cons, List.flatten_nil, List.append_nil, List.append_assoc]) (by show List.flatten [wO g o_a (nI 0) o_ts o_pl o_nf o_ne o_rf o_re o_ac o_cm o_sd v o_sm o_sf o_rm o_rs, wML g o_a m_pl m_yl m_nd m_hm m_wk m_kd, wI g (o_a 10) 29 g_f, wI g (o_a 11) 29 g_f, wI g (o_a 17) 5 r, wI g (o_a 18) 8 (rqZ o_nf o_ne m_pl m_nd m_hm m_wk m_kd g_f a b d n_f k)] = _; simp only [List.flatten_cons, List.flatten_nil, List.append_nil, List.append_assoc]) ?_
                  refine V_iload nX6_rests_63 rfl ?_
                  refine V_iconst (v := (nI 1)) nX6_rests_65 rfl ?_
                  refine V_icmp_le_N (tgt := 82) nX6_rests_66 rfl (by omega) (by omega) (fun h66 => ?_) (fun h66 => ?_)
                  · skip
                    refine V_iconst (v := (nI 0)) nX6_rests_82 rfl ?_
                    refine V_topb (b := false) rfl ?_
                    refine V_istore (lv' := [(0, .ref (o_a 0)), (1, .int (nI a)), (2, .int (nI b)), (3, .int (nI d)), (4, .int w), (5, .int (nI k)), (6, .int (bI false))]) nX6_rests_83 (by decide) rfl ?_
                    refine V_iload nX6_rests_85 rfl ?_
                    refine V_iconst (v := (nI 2)) nX6_rests_87 rfl ?_
                    refine V_irem (v := nI (k % 2)) nX6_rests_88 (nI_ne0 (by omega) (by omega)) (pk_rem (by omega) (by omega) (by omega)) ?_
                    refine V_iconst (v := (nI 1)) nX6_rests_89 rfl ?_
                    refine V_icmp_ne_N (tgt := 106) nX6_rests_90 rfl (by omega) (by omega) (fun h90 => ?_) (fun h90 => ?_)
                    · skip
                      refine V_iconst (v := (nI 0)) nX6_rests_106 rfl ?_
                      refine V_topb (b := false) rfl ?_
                      refine V_istore (lv' := [(0, .ref (o_a 0)), (1, .int (nI a)), (2, .int (nI b)), (3, .int (nI d)), (4, .int w), (5, .int (nI k)), (6, .int (bI false)), (7, .int (bI false))]) nX6_rests_107 (by decide) rfl ?_
                      refine V_aload_n nX6_rests_109 rfl ?_
                      refine V_aload_n nX6_rests_110 rfl ?_
                      refine V_get6 0 17 (by decide) f_RX6_40 nX6_rests_111 rfl rfl ?_
                      refine V_bipush (v := (nI 31)) nX6_rests_114 (by decide) ?_
                      refine V_blk (ws' := ((wO g o_a (nI 0) o_ts o_pl o_nf o_ne o_rf o_re o_ac o_cm o_sd v o_sm o_sf o_rm o_rs) ++ (wML g o_a m_pl m_yl m_nd m_hm m_wk m_kd) ++ (wI g (o_a 11) 29 g_f) ++ (wI g (o_a 17) 5 r)) ++ ((wI g (o_a 10) 29 g_f) ++ (wI g (o_a 18) 8 (rqZ o_nf o_ne m_pl m_nd m_hm m_wk m_kd g_f a b d n_f k)))) [wO g o_a (nI 0) o_ts o_pl o_nf o_ne o_rf o_re o_ac o_cm o_sd v o_sm o_sf o_rm o_rs, wML g o_a m_pl m_yl m_nd m_hm m_wk m_kd, wI g (o_a 10) 29 g_f, wI g (o_a 11) 29 g_f, wI g (o_a 17) 5 r, wI g (o_a 18) 8 (rqZ o_nf o_ne m_pl m_nd m_hm m_wk m_kd g_f a b d n_f k)] [0, 1, 3, 4, 2, 5] rfl (by simp only [List.flatten_cons, List.flatten_nil, List.append_nil, List.append_assoc]) (by show List.flatten [wO g o_a (nI 0) o_ts o_pl o_nf o_ne o_rf o_re o_ac o_cm o_sd v o_sm o_sf o_rm o_rs, wML g o_a m_pl m_yl m_nd m_hm m_wk m_kd, wI g (o_a 11) 29 g_f, wI g (o_a 17) 5 r, wI g (o_a 10) 29 g_f, wI g (o_a 18) 8 (rqZ o_nf o_ne m_pl m_nd m_hm m_wk m_kd g_f a b d n_f k)] = _; simp only [List.flatten_cons, List.flatten_nil, List.append_nil, List.append_assoc]) ?_
                      refine V_cVi (C := (RX6, TX6, 34)) (ci := 6) (ws' := ((wO g o_a (nI 0) o_ts o_pl o_nf o_ne o_rf o_re o_ac o_cm o_sd ((mrP m_pl m_hm m_wk m_kd o_nf 31 (g_f, r, v) o_ne).2.2) o_sm o_sf o_rm o_rs) ++ (wML g o_a m_pl m_yl m_nd m_hm m_wk m_kd) ++ (wI g (o_a 11) 29 (mqP m_pl m_hm m_wk m_kd o_nf 31 g_f o_ne)) ++ (wI g (o_a 17) 5 ((mrP m_pl m_hm m_wk m_kd o_nf 31 (g_f, r, v) o_ne).2.1))) ++ ((wI g (o_a 10) 29 g_f) ++ (wI g (o_a 18) 8 (rqZ o_nf o_ne m_pl m_nd m_hm m_wk m_kd g_f a b d n_f k)))) (List.range _) 2 X (c_X6_goMarch g l o_a (nI 0) o_ts o_pl o_nf o_ne o_rf o_re o_ac o_cm o_sd v o_sm o_sf o_rm o_rs m_pl m_yl m_nd m_hm m_wk m_kd (o_a 11) g_f r  31 (by omega) (by omega) (by decide)) k_RX6_155 hy_X6_goMarch (by decide) (range_at _ _) (range_nd _) 0 rfl rfl nX6_rests_116 rfl rfl (Nat.le_of_ble_eq_true rfl) (wput_range _ _ _ (by simp only [List.length_append, wI_len, wML_len, wO_len])) ?_
                      refine V_blk (ws' := (wO g o_a (nI 0) o_ts o_pl o_nf o_ne o_rf o_re o_ac o_cm o_sd ((mrP m_pl m_hm m_wk m_kd o_nf 31 (g_f, r, v) o_ne).2.2) o_sm o_sf o_rm o_rs) ++ (wML g o_a m_pl m_yl m_nd m_hm m_wk m_kd) ++ (wI g (o_a 10) 29 g_f) ++ (wI g (o_a 11) 29 (mqP m_pl m_hm m_wk m_kd o_nf 31 g_f o_ne)) ++ (wI g (o_a 17) 5 ((mrP m_pl m_hm m_wk m_kd o_nf 31 (g_f, r, v) o_ne).2.1)) ++ (wI g (o_a 18) 8 (rqZ o_nf o_ne m_pl m_nd m_hm m_wk m_kd g_f a b d n_f k))) [wO g o_a (nI 0) o_ts o_pl o_nf o_ne o_rf o_re o_ac o_cm o_sd ((mrP m_pl m_hm m_wk m_kd o_nf 31 (g_f, r, v) o_ne).2.2) o_sm o_sf o_rm o_rs, wML g o_a m_pl m_yl m_nd m_hm m_wk m_kd, wI g (o_a 11) 29 (mqP m_pl m_hm m_wk m_kd o_nf 31 g_f o_ne), wI g (o_a 17) 5 ((mrP m_pl m_hm m_wk m_kd o_nf 31 (g_f, r, v) o_ne).2.1), wI g (o_a 10) 29 g_f, wI g (o_a 18) 8 (rqZ o_nf o_ne m_pl m_nd m_hm m_wk m_kd g_f a b d n_f k)] [0, 1, 4, 2, 3, 5] rfl (by simp only [List.flatten_cons, List.flatten_nil, List.append_nil, List.append_assoc]) (by show List.flatten [wO g o_a (nI 0) o_ts o_pl o_nf o_ne o_rf o_re o_ac o_cm o_sd ((mrP m_pl m_hm m_wk m_kd o_nf 31 (g_f, r, v) o_ne).2.2) o_sm o_sf o_rm o_rs, wML g o_a m_pl m_yl m_nd m_hm m_wk m_kd, wI g (o_a 10) 29 g_f, wI g (o_a 11) 29 (mqP m_pl m_hm m_wk m_kd o_nf 31 g_f o_ne), wI g (o_a 17) 5 ((mrP m_pl m_hm m_wk m_kd o_nf 31 (g_f, r, v) o_ne).2.1), wI g (o_a 18) 8 (rqZ o_nf o_ne m_pl m_nd m_hm m_wk m_kd g_f a b d n_f k)] = _; simp only [List.flatten_cons, List.flatten_nil, List.append_nil, List.append_assoc]) ?_
                      refine V_iload_n nX6_rests_119 rfl ?_
                      refine V_cSi (ws' := (wO g o_a (nI 0) o_ts o_pl o_nf o_ne o_rf o_re o_ac o_cm o_sd ((mrP m_pl m_hm m_wk m_kd o_nf 31 (g_f, r, v) o_ne).2.2) o_sm o_sf o_rm o_rs) ++ (wML g o_a m_pl m_yl m_nd m_hm m_wk m_kd) ++ (wI g (o_a 10) 29 g_f) ++ (wI g (o_a 11) 29 (mqP m_pl m_hm m_wk m_kd o_nf 31 g_f o_ne)) ++ (wI g (o_a 17) 5 ((mrP m_pl m_hm m_wk m_kd o_nf 31 (g_f, r, v) o_ne).2.1)) ++ (wI g (o_a 18) 8 (rqZ o_nf o_ne m_pl m_nd m_hm m_wk m_kd g_f a b d n_f k))) [] 2 X (c_X6_has g l   (swP m_nd (mqP m_pl m_hm m_wk m_kd o_nf 31 g_f o_ne) o_nf) d (Nat.lt_trans (swP_lt hnf _ _) (by decide)) (by omega)) k_RX6_134 hy_X6_has.2 (by decide) rfl (by decide) nX6_rests_120 rfl rfl (Nat.le_of_ble_eq_true rfl) rfl ?_
                      refine V_joinN (b := (decide ((swP m_nd (mqP m_pl m_hm m_wk m_kd o_nf 31 g_f o_ne) o_nf) / 2 ^ d % 2 = 1))) (x := 3) (y := 0) (pj := 131) (st := []) (fun J1 J2 => ?_) ?_
                      · skip
                        refine V_if_eq_b (tgt := 130) nX6_rests_123 rfl (fun h123 => ?_) (fun h123 => ?_)
                        · skip
                          refine V_iconst (v := (nI 0)) nX6_rests_130 rfl ?_
                          exact J2 (by simp [h123])
                        · skip
                          refine V_iconst (v := (nI 3)) nX6_rests_126 rfl ?_
                          refine V_goto (tgt := 131) nX6_rests_127 rfl ?_
                          exact J1 (by simp [h123])
                      refine V_istore (lv' := [(0, .ref (o_a 0)), (1, .int (nI a)), (2, .int (nI b)), (3, .int (nI d)), (4, .int w), (5, .int (nI k)), (6, .int (bI false)), (7, .int (bI false)), (8, .int (nI (if (decide ((swP m_nd (mqP m_pl m_hm m_wk m_kd o_nf 31 g_f o_ne) o_nf) / 2 ^ d % 2 = 1)) = true then 3 else 0)))]) nX6_rests_131 (by decide) rfl ?_
                      refine V_aload_n nX6_rests_133 rfl ?_
                      refine V_get6 0 32 (by decide) f_RX6_62 nX6_rests_134 rfl rfl ?_
                      refine V_iconst (v := (nI 2)) nX6_rests_137 rfl ?_
                      refine V_iload nX6_rests_138 rfl ?_
                      refine V_imul (v := nI (2 * k)) nX6_rests_140 (pk_mul 2 k) ?_
                      refine V_iload nX6_rests_141 rfl ?_
                      refine V_aload_n nX6_rests_143 rfl ?_
                      refine V_get6 0 27 (by decide) f_RX6_59 nX6_rests_144 rfl rfl ?_
                      refine V_iload_n nX6_rests_147 rfl ?_
                      refine V_iald (v := faP m_pl m_hm m_wk m_kd o_nf 31 g_f o_ne a) 9 nX6_rests_148 rfl (by omega) (by decide) (mrP_2 _ _ _ _ _ _ _ _ _ _ (by omega)) ?_
                      refine V_isub (v := (nI (if (decide ((swP m_nd (mqP m_pl m_hm m_wk m_kd o_nf 31 g_f o_ne) o_nf) / 2 ^ d % 2 = 1)) = true then 3 else 0)) - (faP m_pl m_hm m_wk m_kd o_nf 31 g_f o_ne a)) nX6_rests_149 rfl ?_
                      refine V_iload nX6_rests_150 rfl ?_
                      refine V_joinN (b := false) (x := 4) (y := 0) (pj := 160) (st := [.int ((nI (if (decide ((swP m_nd (mqP m_pl m_hm m_wk m_kd o_nf 31 g_f o_ne) o_nf) / 2 ^ d % 2 = 1)) = true then 3 else 0)) - (faP m_pl m_hm m_wk m_kd o_nf 31 g_f o_ne a)), .int (nI (2 * k)), .ref (o_a 18)]) (fun J1 J2 => ?_) ?_
                      · skip
                        refine V_if_eq_b (tgt := 159) nX6_rests_152 rfl (fun h152 => ?_) (fun h152 => ?_)
                        · skip
                          refine V_iconst (v := (nI 0)) nX6_rests_159 rfl ?_
                          exact J2 (by simp [h152])
                        · skip
                          refine V_iconst (v := (nI 4)) nX6_rests_155 rfl ?_
                          refine V_goto (tgt := 160) nX6_rests_156 rfl ?_
                          exact J1 (by simp [h152])
                      refine V_iadd (v := ((nI (if (decide ((swP m_nd (mqP m_pl m_hm m_wk m_kd o_nf 31 g_f o_ne) o_nf) / 2 ^ d % 2 = 1)) = true then 3 else 0)) - (faP m_pl m_hm m_wk m_kd o_nf 31 g_f o_ne a)) + (nI (if false = true then 4 else 0))) nX6_rests_160 rfl ?_
                      refine V_iast (ws' := (wO g o_a (nI 0) o_ts o_pl o_nf o_ne o_rf o_re o_ac o_cm o_sd ((mrP m_pl m_hm m_wk m_kd o_nf 31 (g_f, r, v) o_ne).2.2) o_sm o_sf o_rm o_rs) ++ (wML g o_a m_pl m_yl m_nd m_hm m_wk m_kd) ++ (wI g (o_a 10) 29 g_f) ++ (wI g (o_a 11) 29 (mqP m_pl m_hm m_wk m_kd o_nf 31 g_f o_ne)) ++ (wI g (o_a 17) 5 ((mrP m_pl m_hm m_wk m_kd o_nf 31 (g_f, r, v) o_ne).2.1)) ++ (wI g (o_a 18) 8 (upd (rqZ o_nf o_ne m_pl m_nd m_hm m_wk m_kd g_f a b d n_f k) (2 * k) (((nI (if (decide ((swP m_nd (mqP m_pl m_hm m_wk m_kd o_nf 31 g_f o_ne) o_nf) / 2 ^ d % 2 = 1)) = true then 3 else 0)) - (faP m_pl m_hm m_wk m_kd o_nf 31 g_f o_ne a)) + (nI (if false = true then 4 else 0)))))) 10 nX6_rests_161 rfl (by omega) (by decide) rfl ?_
                      refine V_aload_n nX6_rests_162 rfl ?_
                      refine V_get6 0 32 (by decide) f_RX6_62 nX6_rests_163 rfl rfl ?_
                      refine V_iconst (v := (nI 2)) nX6_rests_166 rfl ?_
                      refine V_iload nX6_rests_167 rfl ?_
                      refine V_imul (v := nI (2 * k)) nX6_rests_169 (pk_mul 2 k) ?_
                      refine V_iconst (v := (nI 1)) nX6_rests_170 rfl ?_
                      refine V_iadd (v := nI ((2 * k) + 1)) nX6_rests_171 (nI_add (2 * k) 1) ?_
                      refine V_iload nX6_rests_172 rfl ?_
                      refine V_aload_n nX6_rests_174 rfl ?_
                      refine V_get6 0 27 (by decide) f_RX6_59 nX6_rests_175 rfl rfl ?_
                      refine V_iload_n nX6_rests_178 rfl ?_
                      refine V_iald (v := faP m_pl m_hm m_wk m_kd o_nf 31 g_f o_ne b) 9 nX6_rests_179 rfl (by omega) (by decide) (mrP_2 _ _ _ _ _ _ _ _ _ _ (by omega)) ?_
                      refine V_isub (v := (nI (if (decide ((swP m_nd (mqP m_pl m_hm m_wk m_kd o_nf 31 g_f o_ne) o_nf) / 2 ^ d % 2 = 1)) = true then 3 else 0)) - (faP m_pl m_hm m_wk m_kd o_nf 31 g_f o_ne b)) nX6_rests_180 rfl ?_
                      refine V_iload nX6_rests_181 rfl ?_
                      refine V_joinN (b := false) (x := 4) (y := 0) (pj := 191) (st := [.int ((nI (if (decide ((swP m_nd (mqP m_pl m_hm m_wk m_kd o_nf 31 g_f o_ne) o_nf) / 2 ^ d % 2 = 1)) = true then 3 else 0)) - (faP m_pl m_hm m_wk m_kd o_nf 31 g_f o_ne b)), .int (nI ((2 * k) + 1)), .ref (o_a 18)]) (fun J1 J2 => ?_) ?_
                      · skip
                        refine V_if_eq_b (tgt := 190) nX6_rests_183 rfl (fun h183 => ?_) (fun h183 => ?_)
                        · skip
                          refine V_iconst (v := (nI 0)) nX6_rests_190 rfl ?_
                          exact J2 (by simp [h183])
                        · skip
                          refine V_iconst (v := (nI 4)) nX6_rests_186 rfl ?_
                          refine V_goto (tgt := 191) nX6_rests_187 rfl ?_
                          exact J1 (by simp [h183])
                      refine V_iadd (v := ((nI (if (decide ((swP m_nd (mqP m_pl m_hm m_wk m_kd o_nf 31 g_f o_ne) o_nf) / 2 ^ d % 2 = 1)) = true then 3 else 0)) - (faP m_pl m_hm m_wk m_kd o_nf 31 g_f o_ne b)) + (nI (if false = true then 4 else 0))) nX6_rests_191 rfl ?_
                      refine V_iast (ws' := (wO g o_a (nI 0) o_ts o_pl o_nf o_ne o_rf o_re o_ac o_cm o_sd ((mrP m_pl m_hm m_wk m_kd o_nf 31 (g_f, r, v) o_ne).2.2) o_sm o_sf o_rm o_rs) ++ (wML g o_a m_pl m_yl m_nd m_hm m_wk m_kd) ++ (wI g (o_a 10) 29 g_f) ++ (wI g (o_a 11) 29 (mqP m_pl m_hm m_wk m_kd o_nf 31 g_f o_ne)) ++ (wI g (o_a 17) 5 ((mrP m_pl m_hm m_wk m_kd o_nf 31 (g_f, r, v) o_ne).2.1)) ++ (wI g (o_a 18) 8 (upd (upd (rqZ o_nf o_ne m_pl m_nd m_hm m_wk m_kd g_f a b d n_f k) (2 * k) (((nI (if (decide ((swP m_nd (mqP m_pl m_hm m_wk m_kd o_nf 31 g_f o_ne) o_nf) / 2 ^ d % 2 = 1)) = true then 3 else 0)) - (faP m_pl m_hm m_wk m_kd o_nf 31 g_f o_ne a)) + (nI (if false = true then 4 else 0)))) ((2 * k) + 1) (((nI (if (decide ((swP m_nd (mqP m_pl m_hm m_wk m_kd o_nf 31 g_f o_ne) o_nf) / 2 ^ d % 2 = 1)) = true then 3 else 0)) - (faP m_pl m_hm m_wk m_kd o_nf 31 g_f o_ne b)) + (nI (if false = true then 4 else 0)))))) 10 nX6_rests_192 rfl (by omega) (by decide) rfl ?_
                      refine V_iinc (v := nI (k + 1)) (lv' := [(0, .ref (o_a 0)), (1, .int (nI a)), (2, .int (nI b)), (3, .int (nI d)), (4, .int w), (5, .int (nI (k + 1))), (6, .int (bI false)), (7, .int (bI false)), (8, .int (nI (if (decide ((swP m_nd (mqP m_pl m_hm m_wk m_kd o_nf 31 g_f o_ne) o_nf) / 2 ^ d % 2 = 1)) = true then 3 else 0)))]) nX6_rests_193 rfl (nI_add k 1) (by decide) rfl ?_
                      refine V_goto (tgt := 53) nX6_rests_196 rfl ?_
                      refine V_pick (lv2 := [(0, .ref (o_a 0)), (1, .int (nI a)), (2, .int (nI b)), (3, .int (nI d)), (4, .int w), (5, .int (nI (k + 1)))]) [0, 1, 2, 3, 4, 5] rfl ?_
                      have hA : rqA o_nf o_ne m_kd g_f k a d = false := by unfold rqA; rw [decide_eq_false (by omega)]; rfl
                      have hC : rqC o_nf o_ne m_kd g_f k a d = g_f := if_neg (by omega)
                      have hB : rqB o_nf o_ne m_kd g_f k a b d = false := by unfold rqB; rw [decide_eq_false h90]; rfl
                      have hD : rqD o_nf o_ne m_kd g_f k a b d = g_f := by unfold rqD; rw [if_neg h90, hC]
                      have q9 := ih (k + 1) (mqP m_pl m_hm m_wk m_kd o_nf 31 g_f o_ne) ((mrP m_pl m_hm m_wk m_kd o_nf 31 (g_f, r, v) o_ne).2.1) ((mrP m_pl m_hm m_wk m_kd o_nf 31 (g_f, r, v) o_ne).2.2) (by omega) (by omega)
                      rw [show rqZ o_nf o_ne m_pl m_nd m_hm m_wk m_kd g_f a b d n_f (k + 1) = upd (upd (rqZ o_nf o_ne m_pl m_nd m_hm m_wk m_kd g_f a b d n_f k) (2 * k) (rqG o_nf o_ne m_pl m_nd m_hm m_wk m_kd g_f k a b d (rqA o_nf o_ne m_kd g_f k a d) a)) (2 * k + 1) (rqG o_nf o_ne m_pl m_nd m_hm m_wk m_kd g_f k a b d (rqB o_nf o_ne m_kd g_f k a b d) b) from rfl, hA, hB] at q9
                      unfold rqG at q9
                      rw [hD] at q9
                      simp only [decide_eq_true_eq]
                      exact q9
                    · skip
                      refine V_aload_n nX6_rests_93 rfl ?_
                      refine V_iload_n nX6_rests_94 rfl ?_
                      refine V_iload_n nX6_rests_95 rfl ?_
                      refine V_blk (ws' := ((wO g o_a (nI 0) o_ts o_pl o_nf o_ne o_rf o_re o_ac o_cm o_sd v o_sm o_sf o_rm o_rs) ++ (wML g o_a m_pl m_yl m_nd m_hm m_wk m_kd) ++ (wI g (o_a 11) 29 g_f)) ++ ((wI g (o_a 10) 29 g_f) ++ (wI g (o_a 17) 5 r) ++ (wI g (o_a 18) 8 (rqZ o_nf o_ne m_pl m_nd m_hm m_wk m_kd g_f a b d n_f k)))) [wO g o_a (nI 0) o_ts o_pl o_nf o_ne o_rf o_re o_ac o_cm o_sd v o_sm o_sf o_rm o_rs, wML g o_a m_pl m_yl m_nd m_hm m_wk m_kd, wI g (o_a 10) 29 g_f, wI g (o_a 11) 29 g_f, wI g (o_a 17) 5 r, wI g (o_a 18) 8 (rqZ o_nf o_ne m_pl m_nd m_hm m_wk m_kd g_f a b d n_f k)] [0, 1, 3, 2, 4, 5] rfl (by simp only [List.flatten_cons, List.flatten_nil, List.append_nil, List.append_assoc]) (by show List.flatten [wO g o_a (nI 0) o_ts o_pl o_nf o_ne o_rf o_re o_ac o_cm o_sd v o_sm o_sf o_rm o_rs, wML g o_a m_pl m_yl m_nd m_hm m_wk m_kd, wI g (o_a 11) 29 g_f, wI g (o_a 10) 29 g_f, wI g (o_a 17) 5 r, wI g (o_a 18) 8 (rqZ o_nf o_ne m_pl m_nd m_hm m_wk m_kd g_f a b d n_f k)] = _; simp only [List.flatten_cons, List.flatten_nil, List.append_nil, List.append_assoc]) ?_
                      refine V_cVi (C := (RX6, TX6, 34)) (ci := 6) (ws' := ((wO g o_a (nI 0) o_ts o_pl o_nf o_ne o_rf o_re o_ac o_cm o_sd v o_sm o_sf o_rm o_rs) ++ (wML g o_a m_pl m_yl m_nd m_hm m_wk m_kd) ++ (wI g (o_a 11) 29 (etQ o_nf o_ne m_kd g_f (nI b) (nI d)))) ++ ((wI g (o_a 10) 29 g_f) ++ (wI g (o_a 17) 5 r) ++ (wI g (o_a 18) 8 (rqZ o_nf o_ne m_pl m_nd m_hm m_wk m_kd g_f a b d n_f k)))) (List.range _) 2 X (c_X6_eats g l o_a (nI 0) o_ts o_pl o_nf o_ne o_rf o_re o_ac o_cm o_sd v o_sm o_sf o_rm o_rs m_pl m_yl m_nd m_hm m_wk m_kd g_f  b d (by omega) (by omega) (by omega) (by omega)) k_RX6_202 hy_X6_eats (by decide) (range_at _ _) (range_nd _) 0 rfl rfl nX6_rests_96 rfl rfl (Nat.le_of_ble_eq_true rfl) (wput_range _ _ _ (by simp only [List.length_append, wI_len, wML_len, wO_len])) ?_
                      refine V_blk (ws' := (wO g o_a (nI 0) o_ts o_pl o_nf o_ne o_rf o_re o_ac o_cm o_sd v o_sm o_sf o_rm o_rs) ++ (wML g o_a m_pl m_yl m_nd m_hm m_wk m_kd) ++ (wI g (o_a 10) 29 g_f) ++ (wI g (o_a 11) 29 (etQ o_nf o_ne m_kd g_f (nI b) (nI d))) ++ (wI g (o_a 17) 5 r) ++ (wI g (o_a 18) 8 (rqZ o_nf o_ne m_pl m_nd m_hm m_wk m_kd g_f a b d n_f k))) [wO g o_a (nI 0) o_ts o_pl o_nf o_ne o_rf o_re o_ac o_cm o_sd v o_sm o_sf o_rm o_rs, wML g o_a m_pl m_yl m_nd m_hm m_wk m_kd, wI g (o_a 11) 29 (etQ o_nf o_ne m_kd g_f (nI b) (nI d)), wI g (o_a 10) 29 g_f, wI g (o_a 17) 5 r, wI g (o_a 18) 8 (rqZ o_nf o_ne m_pl m_nd m_hm m_wk m_kd g_f a b d n_f k)] [0, 1, 3, 2, 4, 5] rfl (by simp only [List.flatten_cons, List.flatten_nil, List.append_nil, List.append_assoc]) (by show List.flatten [wO g o_a (nI 0) o_ts o_pl o_nf o_ne o_rf o_re o_ac o_cm o_sd v o_sm o_sf o_rm o_rs, wML g o_a m_pl m_yl m_nd m_hm m_wk m_kd, wI g (o_a 10) 29 g_f, wI g (o_a 11) 29 (etQ o_nf o_ne m_kd g_f (nI b) (nI d)), wI g (o_a 17) 5 r, wI g (o_a 18) 8 (rqZ o_nf o_ne m_pl m_nd m_hm m_wk m_kd g_f a b d n_f k)] = _; simp only [List.flatten_cons, List.flatten_nil, List.append_nil, List.append_assoc]) ?_
                      refine V_joinb (b := (etB o_nf o_ne m_kd g_f (nI b) (nI d))) (pj := 107) (st := []) (fun J1 J2 => ?_) ?_
                      · skip
                        refine V_if_eq_b (tgt := 106) nX6_rests_99 rfl (fun h99 => ?_) (fun h99 => ?_)
                        · skip
                          refine V_iconst (v := (nI 0)) nX6_rests_106 rfl ?_
                          exact J2 (by simp [h99])
                        · skip
                          refine V_iconst (v := (nI 1)) nX6_rests_102 rfl ?_
                          refine V_goto (tgt := 107) nX6_rests_103 rfl ?_
                          exact J1 (by simp [h99])
                      refine V_istore (lv' := [(0, .ref (o_a 0)), (1, .int (nI a)), (2, .int (nI b)), (3, .int (nI d)), (4, .int w), (5, .int (nI k)), (6, .int (bI false)), (7, .int (bI (etB o_nf o_ne m_kd g_f (nI b) (nI d))))]) nX6_rests_107 (by decide) rfl ?_
                      refine V_aload_n nX6_rests_109 rfl ?_
                      refine V_aload_n nX6_rests_110 rfl ?_
                      refine V_get6 0 17 (by decide) f_RX6_40 nX6_rests_111 rfl rfl ?_
                      refine V_bipush (v := (nI 31)) nX6_rests_114 (by decide) ?_
                      refine V_blk (ws' := ((wO g o_a (nI 0) o_ts o_pl o_nf o_ne o_rf o_re o_ac o_cm o_sd v o_sm o_sf o_rm o_rs) ++ (wML g o_a m_pl m_yl m_nd m_hm m_wk m_kd) ++ (wI g (o_a 11) 29 (etQ o_nf o_ne m_kd g_f (nI b) (nI d))) ++ (wI g (o_a 17) 5 r)) ++ ((wI g (o_a 10) 29 g_f) ++ (wI g (o_a 18) 8 (rqZ o_nf o_ne m_pl m_nd m_hm m_wk m_kd g_f a b d n_f k)))) [wO g o_a (nI 0) o_ts o_pl o_nf o_ne o_rf o_re o_ac o_cm o_sd v o_sm o_sf o_rm o_rs, wML g o_a m_pl m_yl m_nd m_hm m_wk m_kd, wI g (o_a 10) 29 g_f, wI g (o_a 11) 29 (etQ o_nf o_ne m_kd g_f (nI b) (nI d)), wI g (o_a 17) 5 r, wI g (o_a 18) 8 (rqZ o_nf o_ne m_pl m_nd m_hm m_wk m_kd g_f a b d n_f k)] [0, 1, 3, 4, 2, 5] rfl (by simp only [List.flatten_cons, List.flatten_nil, List.append_nil, List.append_assoc]) (by show List.flatten [wO g o_a (nI 0) o_ts o_pl o_nf o_ne o_rf o_re o_ac o_cm o_sd v o_sm o_sf o_rm o_rs, wML g o_a m_pl m_yl m_nd m_hm m_wk m_kd, wI g (o_a 11) 29 (etQ o_nf o_ne m_kd g_f (nI b) (nI d)), wI g (o_a 17) 5 r, wI g (o_a 10) 29 g_f, wI g (o_a 18) 8 (rqZ o_nf o_ne m_pl m_nd m_hm m_wk m_kd g_f a b d n_f k)] = _; simp only [List.flatten_cons, List.flatten_nil, List.append_nil, List.append_assoc]) ?_
                      refine V_cVi (C := (RX6, TX6, 34)) (ci := 6) (ws' := ((wO g o_a (nI 0) o_ts o_pl o_nf o_ne o_rf o_re o_ac o_cm o_sd ((mrP m_pl m_hm m_wk m_kd o_nf 31 ((etQ o_nf o_ne m_kd g_f (nI b) (nI d)), r, v) o_ne).2.2) o_sm o_sf o_rm o_rs) ++ (wML g o_a m_pl m_yl m_nd m_hm m_wk m_kd) ++ (wI g (o_a 11) 29 (mqP m_pl m_hm m_wk m_kd o_nf 31 (etQ o_nf o_ne m_kd g_f (nI b) (nI d)) o_ne)) ++ (wI g (o_a 17) 5 ((mrP m_pl m_hm m_wk m_kd o_nf 31 ((etQ o_nf o_ne m_kd g_f (nI b) (nI d)), r, v) o_ne).2.1))) ++ ((wI g (o_a 10) 29 g_f) ++ (wI g (o_a 18) 8 (rqZ o_nf o_ne m_pl m_nd m_hm m_wk m_kd g_f a b d n_f k)))) (List.range _) 2 X (c_X6_goMarch g l o_a (nI 0) o_ts o_pl o_nf o_ne o_rf o_re o_ac o_cm o_sd v o_sm o_sf o_rm o_rs m_pl m_yl m_nd m_hm m_wk m_kd (o_a 11) (etQ o_nf o_ne m_kd g_f (nI b) (nI d)) r  31 (by omega) (by omega) (by decide)) k_RX6_155 hy_X6_goMarch (by decide) (range_at _ _) (range_nd _) 0 rfl rfl nX6_rests_116 rfl rfl (Nat.le_of_ble_eq_true rfl) (wput_range _ _ _ (by simp only [List.length_append, wI_len, wML_len, wO_len])) ?_
                      refine V_blk (ws' := (wO g o_a (nI 0) o_ts o_pl o_nf o_ne o_rf o_re o_ac o_cm o_sd ((mrP m_pl m_hm m_wk m_kd o_nf 31 ((etQ o_nf o_ne m_kd g_f (nI b) (nI d)), r, v) o_ne).2.2) o_sm o_sf o_rm o_rs) ++ (wML g o_a m_pl m_yl m_nd m_hm m_wk m_kd) ++ (wI g (o_a 10) 29 g_f) ++ (wI g (o_a 11) 29 (mqP m_pl m_hm m_wk m_kd o_nf 31 (etQ o_nf o_ne m_kd g_f (nI b) (nI d)) o_ne)) ++ (wI g (o_a 17) 5 ((mrP m_pl m_hm m_wk m_kd o_nf 31 ((etQ o_nf o_ne m_kd g_f (nI b) (nI d)), r, v) o_ne).2.1)) ++ (wI g (o_a 18) 8 (rqZ o_nf o_ne m_pl m_nd m_hm m_wk m_kd g_f a b d n_f k))) [wO g o_a (nI 0) o_ts o_pl o_nf o_ne o_rf o_re o_ac o_cm o_sd ((mrP m_pl m_hm m_wk m_kd o_nf 31 ((etQ o_nf o_ne m_kd g_f (nI b) (nI d)), r, v) o_ne).2.2) o_sm o_sf o_rm o_rs, wML g o_a m_pl m_yl m_nd m_hm m_wk m_kd, wI g (o_a 11) 29 (mqP m_pl m_hm m_wk m_kd o_nf 31 (etQ o_nf o_ne m_kd g_f (nI b) (nI d)) o_ne), wI g (o_a 17) 5 ((mrP m_pl m_hm m_wk m_kd o_nf 31 ((etQ o_nf o_ne m_kd g_f (nI b) (nI d)), r, v) o_ne).2.1), wI g (o_a 10) 29 g_f, wI g (o_a 18) 8 (rqZ o_nf o_ne m_pl m_nd m_hm m_wk m_kd g_f a b d n_f k)] [0, 1, 4, 2, 3, 5] rfl (by simp only [List.flatten_cons, List.flatten_nil, List.append_nil, List.append_assoc]) (by show List.flatten [wO g o_a (nI 0) o_ts o_pl o_nf o_ne o_rf o_re o_ac o_cm o_sd ((mrP m_pl m_hm m_wk m_kd o_nf 31 ((etQ o_nf o_ne m_kd g_f (nI b) (nI d)), r, v) o_ne).2.2) o_sm o_sf o_rm o_rs, wML g o_a m_pl m_yl m_nd m_hm m_wk m_kd, wI g (o_a 10) 29 g_f, wI g (o_a 11) 29 (mqP m_pl m_hm m_wk m_kd o_nf 31 (etQ o_nf o_ne m_kd g_f (nI b) (nI d)) o_ne), wI g (o_a 17) 5 ((mrP m_pl m_hm m_wk m_kd o_nf 31 ((etQ o_nf o_ne m_kd g_f (nI b) (nI d)), r, v) o_ne).2.1), wI g (o_a 18) 8 (rqZ o_nf o_ne m_pl m_nd m_hm m_wk m_kd g_f a b d n_f k)] = _; simp only [List.flatten_cons, List.flatten_nil, List.append_nil, List.append_assoc]) ?_
                      refine V_iload_n nX6_rests_119 rfl ?_
                      refine V_cSi (ws' := (wO g o_a (nI 0) o_ts o_pl o_nf o_ne o_rf o_re o_ac o_cm o_sd ((mrP m_pl m_hm m_wk m_kd o_nf 31 ((etQ o_nf o_ne m_kd g_f (nI b) (nI d)), r, v) o_ne).2.2) o_sm o_sf o_rm o_rs) ++ (wML g o_a m_pl m_yl m_nd m_hm m_wk m_kd) ++ (wI g (o_a 10) 29 g_f) ++ (wI g (o_a 11) 29 (mqP m_pl m_hm m_wk m_kd o_nf 31 (etQ o_nf o_ne m_kd g_f (nI b) (nI d)) o_ne)) ++ (wI g (o_a 17) 5 ((mrP m_pl m_hm m_wk m_kd o_nf 31 ((etQ o_nf o_ne m_kd g_f (nI b) (nI d)), r, v) o_ne).2.1)) ++ (wI g (o_a 18) 8 (rqZ o_nf o_ne m_pl m_nd m_hm m_wk m_kd g_f a b d n_f k))) [] 2 X (c_X6_has g l   (swP m_nd (mqP m_pl m_hm m_wk m_kd o_nf 31 (etQ o_nf o_ne m_kd g_f (nI b) (nI d)) o_ne) o_nf) d (Nat.lt_trans (swP_lt hnf _ _) (by decide)) (by omega)) k_RX6_134 hy_X6_has.2 (by decide) rfl (by decide) nX6_rests_120 rfl rfl (Nat.le_of_ble_eq_true rfl) rfl ?_
                      refine V_joinN (b := (decide ((swP m_nd (mqP m_pl m_hm m_wk m_kd o_nf 31 (etQ o_nf o_ne m_kd g_f (nI b) (nI d)) o_ne) o_nf) / 2 ^ d % 2 = 1))) (x := 3) (y := 0) (pj := 131) (st := []) (fun J1 J2 => ?_) ?_
                      · skip
                        refine V_if_eq_b (tgt := 130) nX6_rests_123 rfl (fun h123 => ?_) (fun h123 => ?_)
                        · skip
                          refine V_iconst (v := (nI 0)) nX6_rests_130 rfl ?_
                          exact J2 (by simp [h123])
                        · skip
                          refine V_iconst (v := (nI 3)) nX6_rests_126 rfl ?_
                          refine V_goto (tgt := 131) nX6_rests_127 rfl ?_
                          exact J1 (by simp [h123])
                      refine V_istore (lv' := [(0, .ref (o_a 0)), (1, .int (nI a)), (2, .int (nI b)), (3, .int (nI d)), (4, .int w), (5, .int (nI k)), (6, .int (bI false)), (7, .int (bI (etB o_nf o_ne m_kd g_f (nI b) (nI d)))), (8, .int (nI (if (decide ((swP m_nd (mqP m_pl m_hm m_wk m_kd o_nf 31 (etQ o_nf o_ne m_kd g_f (nI b) (nI d)) o_ne) o_nf) / 2 ^ d % 2 = 1)) = true then 3 else 0)))]) nX6_rests_131 (by decide) rfl ?_
                      refine V_aload_n nX6_rests_133 rfl ?_
                      refine V_get6 0 32 (by decide) f_RX6_62 nX6_rests_134 rfl rfl ?_
                      refine V_iconst (v := (nI 2)) nX6_rests_137 rfl ?_
                      refine V_iload nX6_rests_138 rfl ?_
                      refine V_imul (v := nI (2 * k)) nX6_rests_140 (pk_mul 2 k) ?_
                      refine V_iload nX6_rests_141 rfl ?_
                      refine V_aload_n nX6_rests_143 rfl ?_
                      refine V_get6 0 27 (by decide) f_RX6_59 nX6_rests_144 rfl rfl ?_
                      refine V_iload_n nX6_rests_147 rfl ?_
                      refine V_iald (v := faP m_pl m_hm m_wk m_kd o_nf 31 (etQ o_nf o_ne m_kd g_f (nI b) (nI d)) o_ne a) 9 nX6_rests_148 rfl (by omega) (by decide) (mrP_2 _ _ _ _ _ _ _ _ _ _ (by omega)) ?_
                      refine V_isub (v := (nI (if (decide ((swP m_nd (mqP m_pl m_hm m_wk m_kd o_nf 31 (etQ o_nf o_ne m_kd g_f (nI b) (nI d)) o_ne) o_nf) / 2 ^ d % 2 = 1)) = true then 3 else 0)) - (faP m_pl m_hm m_wk m_kd o_nf 31 (etQ o_nf o_ne m_kd g_f (nI b) (nI d)) o_ne a)) nX6_rests_149 rfl ?_
                      refine V_iload nX6_rests_150 rfl ?_
                      refine V_joinN (b := false) (x := 4) (y := 0) (pj := 160) (st := [.int ((nI (if (decide ((swP m_nd (mqP m_pl m_hm m_wk m_kd o_nf 31 (etQ o_nf o_ne m_kd g_f (nI b) (nI d)) o_ne) o_nf) / 2 ^ d % 2 = 1)) = true then 3 else 0)) - (faP m_pl m_hm m_wk m_kd o_nf 31 (etQ o_nf o_ne m_kd g_f (nI b) (nI d)) o_ne a)), .int (nI (2 * k)), .ref (o_a 18)]) (fun J1 J2 => ?_) ?_
                      · skip
                        refine V_if_eq_b (tgt := 159) nX6_rests_152 rfl (fun h152 => ?_) (fun h152 => ?_)
                        · skip
                          refine V_iconst (v := (nI 0)) nX6_rests_159 rfl ?_
                          exact J2 (by simp [h152])
                        · skip
                          refine V_iconst (v := (nI 4)) nX6_rests_155 rfl ?_
                          refine V_goto (tgt := 160) nX6_rests_156 rfl ?_
                          exact J1 (by simp [h152])
                      refine V_iadd (v := ((nI (if (decide ((swP m_nd (mqP m_pl m_hm m_wk m_kd o_nf 31 (etQ o_nf o_ne m_kd g_f (nI b) (nI d)) o_ne) o_nf) / 2 ^ d % 2 = 1)) = true then 3 else 0)) - (faP m_pl m_hm m_wk m_kd o_nf 31 (etQ o_nf o_ne m_kd g_f (nI b) (nI d)) o_ne a)) + (nI (if false = true then 4 else 0))) nX6_rests_160 rfl ?_
                      refine V_iast (ws' := (wO g o_a (nI 0) o_ts o_pl o_nf o_ne o_rf o_re o_ac o_cm o_sd ((mrP m_pl m_hm m_wk m_kd o_nf 31 ((etQ o_nf o_ne m_kd g_f (nI b) (nI d)), r, v) o_ne).2.2) o_sm o_sf o_rm o_rs) ++ (wML g o_a m_pl m_yl m_nd m_hm m_wk m_kd) ++ (wI g (o_a 10) 29 g_f) ++ (wI g (o_a 11) 29 (mqP m_pl m_hm m_wk m_kd o_nf 31 (etQ o_nf o_ne m_kd g_f (nI b) (nI d)) o_ne)) ++ (wI g (o_a 17) 5 ((mrP m_pl m_hm m_wk m_kd o_nf 31 ((etQ o_nf o_ne m_kd g_f (nI b) (nI d)), r, v) o_ne).2.1)) ++ (wI g (o_a 18) 8 (upd (rqZ o_nf o_ne m_pl m_nd m_hm m_wk m_kd g_f a b d n_f k) (2 * k) (((nI (if (decide ((swP m_nd (mqP m_pl m_hm m_wk m_kd o_nf 31 (etQ o_nf o_ne m_kd g_f (nI b) (nI d)) o_ne) o_nf) / 2 ^ d % 2 = 1)) = true then 3 else 0)) - (faP m_pl m_hm m_wk m_kd o_nf 31 (etQ o_nf o_ne m_kd g_f (nI b) (nI d)) o_ne a)) + (nI (if false = true then 4 else 0)))))) 10 nX6_rests_161 rfl (by omega) (by decide) rfl ?_
                      refine V_aload_n nX6_rests_162 rfl ?_
                      refine V_get6 0 32 (by decide) f_RX6_62 nX6_rests_163 rfl rfl ?_
                      refine V_iconst (v := (nI 2)) nX6_rests_166 rfl ?_
                      refine V_iload nX6_rests_167 rfl ?_
                      refine V_imul (v := nI (2 * k)) nX6_rests_169 (pk_mul 2 k) ?_
                      refine V_iconst (v := (nI 1)) nX6_rests_170 rfl ?_
                      refine V_iadd (v := nI ((2 * k) + 1)) nX6_rests_171 (nI_add (2 * k) 1) ?_
                      refine V_iload nX6_rests_172 rfl ?_
                      refine V_aload_n nX6_rests_174 rfl ?_
                      refine V_get6 0 27 (by decide) f_RX6_59 nX6_rests_175 rfl rfl ?_
                      refine V_iload_n nX6_rests_178 rfl ?_
                      refine V_iald (v := faP m_pl m_hm m_wk m_kd o_nf 31 (etQ o_nf o_ne m_kd g_f (nI b) (nI d)) o_ne b) 9 nX6_rests_179 rfl (by omega) (by decide) (mrP_2 _ _ _ _ _ _ _ _ _ _ (by omega)) ?_
                      refine V_isub (v := (nI (if (decide ((swP m_nd (mqP m_pl m_hm m_wk m_kd o_nf 31 (etQ o_nf o_ne m_kd g_f (nI b) (nI d)) o_ne) o_nf) / 2 ^ d % 2 = 1)) = true then 3 else 0)) - (faP m_pl m_hm m_wk m_kd o_nf 31 (etQ o_nf o_ne m_kd g_f (nI b) (nI d)) o_ne b)) nX6_rests_180 rfl ?_
                      refine V_iload nX6_rests_181 rfl ?_
                      refine V_joinN (b := (etB o_nf o_ne m_kd g_f (nI b) (nI d))) (x := 4) (y := 0) (pj := 191) (st := [.int ((nI (if (decide ((swP m_nd (mqP m_pl m_hm m_wk m_kd o_nf 31 (etQ o_nf o_ne m_kd g_f (nI b) (nI d)) o_ne) o_nf) / 2 ^ d % 2 = 1)) = true then 3 else 0)) - (faP m_pl m_hm m_wk m_kd o_nf 31 (etQ o_nf o_ne m_kd g_f (nI b) (nI d)) o_ne b)), .int (nI ((2 * k) + 1)), .ref (o_a 18)]) (fun J1 J2 => ?_) ?_
                      · skip
                        refine V_if_eq_b (tgt := 190) nX6_rests_183 rfl (fun h183 => ?_) (fun h183 => ?_)
                        · skip
                          refine V_iconst (v := (nI 0)) nX6_rests_190 rfl ?_
                          exact J2 (by simp [h183])
                        · skip
                          refine V_iconst (v := (nI 4)) nX6_rests_186 rfl ?_
                          refine V_goto (tgt := 191) nX6_rests_187 rfl ?_
                          exact J1 (by simp [h183])
                      refine V_iadd (v := ((nI (if (decide ((swP m_nd (mqP m_pl m_hm m_wk m_kd o_nf 31 (etQ o_nf o_ne m_kd g_f (nI b) (nI d)) o_ne) o_nf) / 2 ^ d % 2 = 1)) = true then 3 else 0)) - (faP m_pl m_hm m_wk m_kd o_nf 31 (etQ o_nf o_ne m_kd g_f (nI b) (nI d)) o_ne b)) + (nI (if (etB o_nf o_ne m_kd g_f (nI b) (nI d)) = true then 4 else 0))) nX6_rests_191 rfl ?_
                      refine V_iast (ws' := (wO g o_a (nI 0) o_ts o_pl o_nf o_ne o_rf o_re o_ac o_cm o_sd ((mrP m_pl m_hm m_wk m_kd o_nf 31 ((etQ o_nf o_ne m_kd g_f (nI b) (nI d)), r, v) o_ne).2.2) o_sm o_sf o_rm o_rs) ++ (wML g o_a m_pl m_yl m_nd m_hm m_wk m_kd) ++ (wI g (o_a 10) 29 g_f) ++ (wI g (o_a 11) 29 (mqP m_pl m_hm m_wk m_kd o_nf 31 (etQ o_nf o_ne m_kd g_f (nI b) (nI d)) o_ne)) ++ (wI g (o_a 17) 5 ((mrP m_pl m_hm m_wk m_kd o_nf 31 ((etQ o_nf o_ne m_kd g_f (nI b) (nI d)), r, v) o_ne).2.1)) ++ (wI g (o_a 18) 8 (upd (upd (rqZ o_nf o_ne m_pl m_nd m_hm m_wk m_kd g_f a b d n_f k) (2 * k) (((nI (if (decide ((swP m_nd (mqP m_pl m_hm m_wk m_kd o_nf 31 (etQ o_nf o_ne m_kd g_f (nI b) (nI d)) o_ne) o_nf) / 2 ^ d % 2 = 1)) = true then 3 else 0)) - (faP m_pl m_hm m_wk m_kd o_nf 31 (etQ o_nf o_ne m_kd g_f (nI b) (nI d)) o_ne a)) + (nI (if false = true then 4 else 0)))) ((2 * k) + 1) (((nI (if (decide ((swP m_nd (mqP m_pl m_hm m_wk m_kd o_nf 31 (etQ o_nf o_ne m_kd g_f (nI b) (nI d)) o_ne) o_nf) / 2 ^ d % 2 = 1)) = true then 3 else 0)) - (faP m_pl m_hm m_wk m_kd o_nf 31 (etQ o_nf o_ne m_kd g_f (nI b) (nI d)) o_ne b)) + (nI (if (etB o_nf o_ne m_kd g_f (nI b) (nI d)) = true then 4 else 0)))))) 10 nX6_rests_192 rfl (by omega) (by decide) rfl ?_
                      refine V_iinc (v := nI (k + 1)) (lv' := [(0, .ref (o_a 0)), (1, .int (nI a)), (2, .int (nI b)), (3, .int (nI d)), (4, .int w), (5, .int (nI (k + 1))), (6, .int (bI false)), (7, .int (bI (etB o_nf o_ne m_kd g_f (nI b) (nI d)))), (8, .int (nI (if (decide ((swP m_nd (mqP m_pl m_hm m_wk m_kd o_nf 31 (etQ o_nf o_ne m_kd g_f (nI b) (nI d)) o_ne) o_nf) / 2 ^ d % 2 = 1)) = true then 3 else 0)))]) nX6_rests_193 rfl (nI_add k 1) (by decide) rfl ?_
                      refine V_goto (tgt := 53) nX6_rests_196 rfl ?_
                      refine V_pick (lv2 := [(0, .ref (o_a 0)), (1, .int (nI a)), (2, .int (nI b)), (3, .int (nI d)), (4, .int w), (5, .int (nI (k + 1)))]) [0, 1, 2, 3, 4, 5] rfl ?_
                      have hA : rqA o_nf o_ne m_kd g_f k a d = false := by unfold rqA; rw [decide_eq_false (by omega)]; rfl
                      have hC : rqC o_nf o_ne m_kd g_f k a d = g_f := if_neg (by omega)
                      have hB : rqB o_nf o_ne m_kd g_f k a b d = (etB o_nf o_ne m_kd g_f (nI b) (nI d)) := by unfold rqB; rw [hC, decide_eq_true h90]; rfl
                      have hD : rqD o_nf o_ne m_kd g_f k a b d = etQ o_nf o_ne m_kd g_f (nI b) (nI d) := by unfold rqD; rw [if_pos h90, hC]
                      have q9 := ih (k + 1) (mqP m_pl m_hm m_wk m_kd o_nf 31 (etQ o_nf o_ne m_kd g_f (nI b) (nI d)) o_ne) ((mrP m_pl m_hm m_wk m_kd o_nf 31 ((etQ o_nf o_ne m_kd g_f (nI b) (nI d)), r, v) o_ne).2.1) ((mrP m_pl m_hm m_wk m_kd o_nf 31 ((etQ o_nf o_ne m_kd g_f (nI b) (nI d)), r, v) o_ne).2.2) (by omega) (by omega)
                      rw [show rqZ o_nf o_ne m_pl m_nd m_hm m_wk m_kd g_f a b d n_f (k + 1) = upd (upd (rqZ o_nf o_ne m_pl m_nd m_hm m_wk m_kd g_f a b d n_f k) (2 * k) (rqG o_nf o_ne m_pl m_nd m_hm m_wk m_kd g_f k a b d (rqA o_nf o_ne m_kd g_f k a d) a)) (2 * k + 1) (rqG o_nf o_ne m_pl m_nd m_hm m_wk m_kd g_f k a b d (rqB o_nf o_ne m_kd g_f k a b d) b) from rfl, hA, hB] at q9
                      unfold rqG at q9
                      rw [hD] at q9
                      simp only [decide_eq_true_eq]
                      exact q9
                  · skip
                    refine V_aload_n nX6_rests_69 rfl ?_
                    refine V_iload_n nX6_rests_70 rfl ?_
                    refine V_iload_n nX6_rests_71 rfl ?_
                    refine V_blk (ws' := ((wO g o_a (nI 0) o_ts o_pl o_nf o_ne o_rf o_re o_ac o_cm o_sd v o_sm o_sf o_rm o_rs) ++ (wML g o_a m_pl m_yl m_nd m_hm m_wk m_kd) ++ (wI g (o_a 11) 29 g_f)) ++ ((wI g (o_a 10) 29 g_f) ++ (wI g (o_a 17) 5 r) ++ (wI g (o_a 18) 8 (rqZ o_nf o_ne m_pl m_nd m_hm m_wk m_kd g_f a b d n_f k)))) [wO g o_a (nI 0) o_ts o_pl o_nf o_ne o_rf o_re o_ac o_cm o_sd v o_sm o_sf o_rm o_rs, wML g o_a m_pl m_yl m_nd m_hm m_wk m_kd, wI g (o_a 10) 29 g_f, wI g (o_a 11) 29 g_f, wI g (o_a 17) 5 r, wI g (o_a 18) 8 (rqZ o_nf o_ne m_pl m_nd m_hm m_wk m_kd g_f a b d n_f k)] [0, 1, 3, 2, 4, 5] rfl (by simp only [List.flatten_cons, List.flatten_nil, List.append_nil, List.append_assoc]) (by show List.flatten [wO g o_a (nI 0) o_ts o_pl o_nf o_ne o_rf o_re o_ac o_cm o_sd v o_sm o_sf o_rm o_rs, wML g o_a m_pl m_yl m_nd m_hm m_wk m_kd, wI g (o_a 11) 29 g_f, wI g (o_a 10) 29 g_f, wI g (o_a 17) 5 r, wI g (o_a 18) 8 (rqZ o_nf o_ne m_pl m_nd m_hm m_wk m_kd g_f a b d n_f k)] = _; simp only [List.flatten_cons, List.flatten_nil, List.append_nil, List.append_assoc]) ?_
                    refine V_cVi (C := (RX6, TX6, 34)) (ci := 6) (ws' := ((wO g o_a (nI 0) o_ts o_pl o_nf o_ne o_rf o_re o_ac o_cm o_sd v o_sm o_sf o_rm o_rs) ++ (wML g o_a m_pl m_yl m_nd m_hm m_wk m_kd) ++ (wI g (o_a 11) 29 (etQ o_nf o_ne m_kd g_f (nI a) (nI d)))) ++ ((wI g (o_a 10) 29 g_f) ++ (wI g (o_a 17) 5 r) ++ (wI g (o_a 18) 8 (rqZ o_nf o_ne m_pl m_nd m_hm m_wk m_kd g_f a b d n_f k)))) (List.range _) 2 X (c_X6_eats g l o_a (nI 0) o_ts o_pl o_nf o_ne o_rf o_re o_ac o_cm o_sd v o_sm o_sf o_rm o_rs m_pl m_yl m_nd m_hm m_wk m_kd g_f  a d (by omega) (by omega) (by omega) (by omega)) k_RX6_202 hy_X6_eats (by decide) (range_at _ _) (range_nd _) 0 rfl rfl nX6_rests_72 rfl rfl (Nat.le_of_ble_eq_true rfl) (wput_range _ _ _ (by simp only [List.length_append, wI_len, wML_len, wO_len])) ?_
                    refine V_blk (ws' := (wO g o_a (nI 0) o_ts o_pl o_nf o_ne o_rf o_re o_ac o_cm o_sd v o_sm o_sf o_rm o_rs) ++ (wML g o_a m_pl m_yl m_nd m_hm m_wk m_kd) ++ (wI g (o_a 10) 29 g_f) ++ (wI g (o_a 11) 29 (etQ o_nf o_ne m_kd g_f (nI a) (nI d))) ++ (wI g (o_a 17) 5 r) ++ (wI g (o_a 18) 8 (rqZ o_nf o_ne m_pl m_nd m_hm m_wk m_kd g_f a b d n_f k))) [wO g o_a (nI 0) o_ts o_pl o_nf o_ne o_rf o_re o_ac o_cm o_sd v o_sm o_sf o_rm o_rs, wML g o_a m_pl m_yl m_nd m_hm m_wk m_kd, wI g (o_a 11) 29 (etQ o_nf o_ne m_kd g_f (nI a) (nI d)), wI g (o_a 10) 29 g_f, wI g (o_a 17) 5 r, wI g (o_a 18) 8 (rqZ o_nf o_ne m_pl m_nd m_hm m_wk m_kd g_f a b d n_f k)] [0, 1, 3, 2, 4, 5] rfl (by simp only [List.flatten_cons, List.flatten_nil, List.append_nil, List.append_assoc]) (by show List.flatten [wO g o_a (nI 0) o_ts o_pl o_nf o_ne o_rf o_re o_ac o_cm o_sd v o_sm o_sf o_rm o_rs, wML g o_a m_pl m_yl m_nd m_hm m_wk m_kd, wI g (o_a 10) 29 g_f, wI g (o_a 11) 29 (etQ o_nf o_ne m_kd g_f (nI a) (nI d)), wI g (o_a 17) 5 r, wI g (o_a 18) 8 (rqZ o_nf o_ne m_pl m_nd m_hm m_wk m_kd g_f a b d n_f k)] = _; simp only [List.flatten_cons, List.flatten_nil, List.append_nil, List.append_assoc]) ?_
                    refine V_joinb (b := (etB o_nf o_ne m_kd g_f (nI a) (nI d))) (pj := 83) (st := []) (fun J1 J2 => ?_) ?_
                    · skip
                      refine V_if_eq_b (tgt := 82) nX6_rests_75 rfl (fun h75 => ?_) (fun h75 => ?_)
                      · skip
                        refine V_iconst (v := (nI 0)) nX6_rests_82 rfl ?_
                        exact J2 (by simp [h75])
                      · skip
                        refine V_iconst (v := (nI 1)) nX6_rests_78 rfl ?_
                        refine V_goto (tgt := 83) nX6_rests_79 rfl ?_
                        exact J1 (by simp [h75])
                    refine V_istore (lv' := [(0, .ref (o_a 0)), (1, .int (nI a)), (2, .int (nI b)), (3, .int (nI d)), (4, .int w), (5, .int (nI k)), (6, .int (bI (etB o_nf o_ne m_kd g_f (nI a) (nI d))))]) nX6_rests_83 (by decide) rfl ?_
                    refine V_iload nX6_rests_85 rfl ?_
                    refine V_iconst (v := (nI 2)) nX6_rests_87 rfl ?_
                    refine V_irem (v := nI (k % 2)) nX6_rests_88 (nI_ne0 (by omega) (by omega)) (pk_rem (by omega) (by omega) (by omega)) ?_
                    refine V_iconst (v := (nI 1)) nX6_rests_89 rfl ?_
                    refine V_icmp_ne_N (tgt := 106) nX6_rests_90 rfl (by omega) (by omega) (fun h90 => ?_) (fun h90 => ?_)
                    · skip
                      refine V_iconst (v := (nI 0)) nX6_rests_106 rfl ?_
                      refine V_topb (b := false) rfl ?_
                      refine V_istore (lv' := [(0, .ref (o_a 0)), (1, .int (nI a)), (2, .int (nI b)), (3, .int (nI d)), (4, .int w), (5, .int (nI k)), (6, .int (bI (etB o_nf o_ne m_kd g_f (nI a) (nI d)))), (7, .int (bI false))]) nX6_rests_107 (by decide) rfl ?_
                      refine V_aload_n nX6_rests_109 rfl ?_
                      refine V_aload_n nX6_rests_110 rfl ?_
                      refine V_get6 0 17 (by decide) f_RX6_40 nX6_rests_111 rfl rfl ?_
                      refine V_bipush (v := (nI 31)) nX6_rests_114 (by decide) ?_
                      refine V_blk (ws' := ((wO g o_a (nI 0) o_ts o_pl o_nf o_ne o_rf o_re o_ac o_cm o_sd v o_sm o_sf o_rm o_rs) ++ (wML g o_a m_pl m_yl m_nd m_hm m_wk m_kd) ++ (wI g (o_a 11) 29 (etQ o_nf o_ne m_kd g_f (nI a) (nI d))) ++ (wI g (o_a 17) 5 r)) ++ ((wI g (o_a 10) 29 g_f) ++ (wI g (o_a 18) 8 (rqZ o_nf o_ne m_pl m_nd m_hm m_wk m_kd g_f a b d n_f k)))) [wO g o_a (nI 0) o_ts o_pl o_nf o_ne o_rf o_re o_ac o_cm o_sd v o_sm o_sf o_rm o_rs, wML g o_a m_pl m_yl m_nd m_hm m_wk m_kd, wI g (o_a 10) 29 g_f, wI g (o_a 11) 29 (etQ o_nf o_ne m_kd g_f (nI a) (nI d)), wI g (o_a 17) 5 r, wI g (o_a 18) 8 (rqZ o_nf o_ne m_pl m_nd m_hm m_wk m_kd g_f a b d n_f k)] [0, 1, 3, 4, 2, 5] rfl (by simp only [List.flatten_cons, List.flatten_nil, List.append_nil, List.append_assoc]) (by show List.flatten [wO g o_a (nI 0) o_ts o_pl o_nf o_ne o_rf o_re o_ac o_cm o_sd v o_sm o_sf o_rm o_rs, wML g o_a m_pl m_yl m_nd m_hm m_wk m_kd, wI g (o_a 11) 29 (etQ o_nf o_ne m_kd g_f (nI a) (nI d)), wI g (o_a 17) 5 r, wI g (o_a 10) 29 g_f, wI g (o_a 18) 8 (rqZ o_nf o_ne m_pl m_nd m_hm m_wk m_kd g_f a b d n_f k)] = _; simp only [List.flatten_cons, List.flatten_nil, List.append_nil, List.append_assoc]) ?_
                      refine V_cVi (C := (RX6, TX6, 34)) (ci := 6) (ws' := ((wO g o_a (nI 0) o_ts o_pl o_nf o_ne o_rf o_re o_ac o_cm o_sd ((mrP m_pl m_hm m_wk m_kd o_nf 31 ((etQ o_nf o_ne m_kd g_f (nI a) (nI d)), r, v) o_ne).2.2) o_sm o_sf o_rm o_rs) ++ (wML g o_a m_pl m_yl m_nd m_hm m_wk m_kd) ++ (wI g (o_a 11) 29 (mqP m_pl m_hm m_wk m_kd o_nf 31 (etQ o_nf o_ne m_kd g_f (nI a) (nI d)) o_ne)) ++ (wI g (o_a 17) 5 ((mrP m_pl m_hm m_wk m_kd o_nf 31 ((etQ o_nf o_ne m_kd g_f (nI a) (nI d)), r, v) o_ne).2.1))) ++ ((wI g (o_a 10) 29 g_f) ++ (wI g (o_a 18) 8 (rqZ o_nf o_ne m_pl m_nd m_hm m_wk m_kd g_f a b d n_f k)))) (List.range _) 2 X (c_X6_goMarch g l o_a (nI 0) o_ts o_pl o_nf o_ne o_rf o_re o_ac o_cm o_sd v o_sm o_sf o_rm o_rs m_pl m_yl m_nd m_hm m_wk m_kd (o_a 11) (etQ o_nf o_ne m_kd g_f (nI a) (nI d)) r  31 (by omega) (by omega) (by decide)) k_RX6_155 hy_X6_goMarch (by decide) (range_at _ _) (range_nd _) 0 rfl rfl nX6_rests_116 rfl rfl (Nat.le_of_ble_eq_true rfl) (wput_range _ _ _ (by simp only [List.length_append, wI_len, wML_len, wO_len])) ?_
                      refine V_blk (ws' := (wO g o_a (nI 0) o_ts o_pl o_nf o_ne o_rf o_re o_ac o_cm o_sd ((mrP m_pl m_hm m_wk m_kd o_nf 31 ((etQ o_nf o_ne m_kd g_f (nI a) (nI d)), r, v) o_ne).2.2) o_sm o_sf o_rm o_rs) ++ (wML g o_a m_pl m_yl m_nd m_hm m_wk m_kd) ++ (wI g (o_a 10) 29 g_f) ++ (wI g (o_a 11) 29 (mqP m_pl m_hm m_wk m_kd o_nf 31 (etQ o_nf o_ne m_kd g_f (nI a) (nI d)) o_ne)) ++ (wI g (o_a 17) 5 ((mrP m_pl m_hm m_wk m_kd o_nf 31 ((etQ o_nf o_ne m_kd g_f (nI a) (nI d)), r, v) o_ne).2.1)) ++ (wI g (o_a 18) 8 (rqZ o_nf o_ne m_pl m_nd m_hm m_wk m_kd g_f a b d n_f k))) [wO g o_a (nI 0) o_ts o_pl o_nf o_ne o_rf o_re o_ac o_cm o_sd ((mrP m_pl m_hm m_wk m_kd o_nf 31 ((etQ o_nf o_ne m_kd g_f (nI a) (nI d)), r, v) o_ne).2.2) o_sm o_sf o_rm o_rs, wML g o_a m_pl m_yl m_nd m_hm m_wk m_kd, wI g (o_a 11) 29 (mqP m_pl m_hm m_wk m_kd o_nf 31 (etQ o_nf o_ne m_kd g_f (nI a) (nI d)) o_ne), wI g (o_a 17) 5 ((mrP m_pl m_hm m_wk m_kd o_nf 31 ((etQ o_nf o_ne m_kd g_f (nI a) (nI d)), r, v) o_ne).2.1), wI g (o_a 10) 29 g_f, wI g (o_a 18) 8 (rqZ o_nf o_ne m_pl m_nd m_hm m_wk m_kd g_f a b d n_f k)] [0, 1, 4, 2, 3, 5] rfl (by simp only [List.flatten_cons, List.flatten_nil, List.append_nil, List.append_assoc]) (by show List.flatten [wO g o_a (nI 0) o_ts o_pl o_nf o_ne o_rf o_re o_ac o_cm o_sd ((mrP m_pl m_hm m_wk m_kd o_nf 31 ((etQ o_nf o_ne m_kd g_f (nI a) (nI d)), r, v) o_ne).2.2) o_sm o_sf o_rm o_rs, wML g o_a m_pl m_yl m_nd m_hm m_wk m_kd, wI g (o_a 10) 29 g_f, wI g (o_a 11) 29 (mqP m_pl m_hm m_wk m_kd o_nf 31 (etQ o_nf o_ne m_kd g_f (nI a) (nI d)) o_ne), wI g (o_a 17) 5 ((mrP m_pl m_hm m_wk m_kd o_nf 31 ((etQ o_nf o_ne m_kd g_f (nI a) (nI d)), r, v) o_ne).2.1), wI g (o_a 18) 8 (rqZ o_nf o_ne m_pl m_nd m_hm m_wk m_kd g_f a b d n_f k)] = _; simp only [List.flatten_cons, List.flatten_nil, List.append_nil, List.append_assoc]) ?_
                      refine V_iload_n nX6_rests_119 rfl ?_
                      refine V_cSi (ws' := (wO g o_a (nI 0) o_ts o_pl o_nf o_ne o_rf o_re o_ac o_cm o_sd ((mrP m_pl m_hm m_wk m_kd o_nf 31 ((etQ o_nf o_ne m_kd g_f (nI a) (nI d)), r, v) o_ne).2.2) o_sm o_sf o_rm o_rs) ++ (wML g o_a m_pl m_yl m_nd m_hm m_wk m_kd) ++ (wI g (o_a 10) 29 g_f) ++ (wI g (o_a 11) 29 (mqP m_pl m_hm m_wk m_kd o_nf 31 (etQ o_nf o_ne m_kd g_f (nI a) (nI d)) o_ne)) ++ (wI g (o_a 17) 5 ((mrP m_pl m_hm m_wk m_kd o_nf 31 ((etQ o_nf o_ne m_kd g_f (nI a) (nI d)), r, v) o_ne).2.1)) ++ (wI g (o_a 18) 8 (rqZ o_nf o_ne m_pl m_nd m_hm m_wk m_kd g_f a b d n_f k))) [] 2 X (c_X6_has g l   (swP m_nd (mqP m_pl m_hm m_wk m_kd o_nf 31 (etQ o_nf o_ne m_kd g_f (nI a) (nI d)) o_ne) o_nf) d (Nat.lt_trans (swP_lt hnf _ _) (by decide)) (by omega)) k_RX6_134 hy_X6_has.2 (by decide) rfl (by decide) nX6_rests_120 rfl rfl (Nat.le_of_ble_eq_true rfl) rfl ?_
                      refine V_joinN (b := (decide ((swP m_nd (mqP m_pl m_hm m_wk m_kd o_nf 31 (etQ o_nf o_ne m_kd g_f (nI a) (nI d)) o_ne) o_nf) / 2 ^ d % 2 = 1))) (x := 3) (y := 0) (pj := 131) (st := []) (fun J1 J2 => ?_) ?_
                      · skip
                        refine V_if_eq_b (tgt := 130) nX6_rests_123 rfl (fun h123 => ?_) (fun h123 => ?_)
                        · skip
                          refine V_iconst (v := (nI 0)) nX6_rests_130 rfl ?_
                          exact J2 (by simp [h123])
                        · skip
                          refine V_iconst (v := (nI 3)) nX6_rests_126 rfl ?_
                          refine V_goto (tgt := 131) nX6_rests_127 rfl ?_
                          exact J1 (by simp [h123])
                      refine V_istore (lv' := [(0, .ref (o_a 0)), (1, .int (nI a)), (2, .int (nI b)), (3, .int (nI d)), (4, .int w), (5, .int (nI k)), (6, .int (bI (etB o_nf o_ne m_kd g_f (nI a) (nI d)))), (7, .int (bI false)), (8, .int (nI (if (decide ((swP m_nd (mqP m_pl m_hm m_wk m_kd o_nf 31 (etQ o_nf o_ne m_kd g_f (nI a) (nI d)) o_ne) o_nf) / 2 ^ d % 2 = 1)) = true then 3 else 0)))]) nX6_rests_131 (by decide) rfl ?_
                      refine V_aload_n nX6_rests_133 rfl ?_
                      refine V_get6 0 32 (by decide) f_RX6_62 nX6_rests_134 rfl rfl ?_
                      refine V_iconst (v := (nI 2)) nX6_rests_137 rfl ?_
                      refine V_iload nX6_rests_138 rfl ?_
                      refine V_imul (v := nI (2 * k)) nX6_rests_140 (pk_mul 2 k) ?_
                      refine V_iload nX6_rests_141 rfl ?_
                      refine V_aload_n nX6_rests_143 rfl ?_
                      refine V_get6 0 27 (by decide) f_RX6_59 nX6_rests_144 rfl rfl ?_
                      refine V_iload_n nX6_rests_147 rfl ?_
                      refine V_iald (v := faP m_pl m_hm m_wk m_kd o_nf 31 (etQ o_nf o_ne m_kd g_f (nI a) (nI d)) o_ne a) 9 nX6_rests_148 rfl (by omega) (by decide) (mrP_2 _ _ _ _ _ _ _ _ _ _ (by omega)) ?_
                      refine V_isub (v := (nI (if (decide ((swP m_nd (mqP m_pl m_hm m_wk m_kd o_nf 31 (etQ o_nf o_ne m_kd g_f (nI a) (nI d)) o_ne) o_nf) / 2 ^ d % 2 = 1)) = true then 3 else 0)) - (faP m_pl m_hm m_wk m_kd o_nf 31 (etQ o_nf o_ne m_kd g_f (nI a) (nI d)) o_ne a)) nX6_rests_149 rfl ?_
                      refine V_iload nX6_rests_150 rfl ?_
                      refine V_joinN (b := (etB o_nf o_ne m_kd g_f (nI a) (nI d))) (x := 4) (y := 0) (pj := 160) (st := [.int ((nI (if (decide ((swP m_nd (mqP m_pl m_hm m_wk m_kd o_nf 31 (etQ o_nf o_ne m_kd g_f (nI a) (nI d)) o_ne) o_nf) / 2 ^ d % 2 = 1)) = true then 3 else 0)) - (faP m_pl m_hm m_wk m_kd o_nf 31 (etQ o_nf o_ne m_kd g_f (nI a) (nI d)) o_ne a)), .int (nI (2 * k)), .ref (o_a 18)]) (fun J1 J2 => ?_) ?_
                      · skip
                        refine V_if_eq_b (tgt := 159) nX6_rests_152 rfl (fun h152 => ?_) (fun h152 => ?_)
                        · skip
                          refine V_iconst (v := (nI 0)) nX6_rests_159 rfl ?_
                          exact J2 (by simp [h152])
                        · skip
                          refine V_iconst (v := (nI 4)) nX6_rests_155 rfl ?_
                          refine V_goto (tgt := 160) nX6_rests_156 rfl ?_
                          exact J1 (by simp [h152])
                      refine V_iadd (v := ((nI (if (decide ((swP m_nd (mqP m_pl m_hm m_wk m_kd o_nf 31 (etQ o_nf o_ne m_kd g_f (nI a) (nI d)) o_ne) o_nf) / 2 ^ d % 2 = 1)) = true then 3 else 0)) - (faP m_pl m_hm m_wk m_kd o_nf 31 (etQ o_nf o_ne m_kd g_f (nI a) (nI d)) o_ne a)) + (nI (if (etB o_nf o_ne m_kd g_f (nI a) (nI d)) = true then 4 else 0))) nX6_rests_160 rfl ?_
                      refine V_iast (ws' := (wO g o_a (nI 0) o_ts o_pl o_nf o_ne o_rf o_re o_ac o_cm o_sd ((mrP m_pl m_hm m_wk m_kd o_nf 31 ((etQ o_nf o_ne m_kd g_f (nI a) (nI d)), r, v) o_ne).2.2) o_sm o_sf o_rm o_rs) ++ (wML g o_a m_pl m_yl m_nd m_hm m_wk m_kd) ++ (wI g (o_a 10) 29 g_f) ++ (wI g (o_a 11) 29 (mqP m_pl m_hm m_wk m_kd o_nf 31 (etQ o_nf o_ne m_kd g_f (nI a) (nI d)) o_ne)) ++ (wI g (o_a 17) 5 ((mrP m_pl m_hm m_wk m_kd o_nf 31 ((etQ o_nf o_ne m_kd g_f (nI a) (nI d)), r, v) o_ne).2.1)) ++ (wI g (o_a 18) 8 (upd (rqZ o_nf o_ne m_pl m_nd m_hm m_wk m_kd g_f a b d n_f k) (2 * k) (((nI (if (decide ((swP m_nd (mqP m_pl m_hm m_wk m_kd o_nf 31 (etQ o_nf o_ne m_kd g_f (nI a) (nI d)) o_ne) o_nf) / 2 ^ d % 2 = 1)) = true then 3 else 0)) - (faP m_pl m_hm m_wk m_kd o_nf 31 (etQ o_nf o_ne m_kd g_f (nI a) (nI d)) o_ne a)) + (nI (if (etB o_nf o_ne m_kd g_f (nI a) (nI d)) = true then 4 else 0)))))) 10 nX6_rests_161 rfl (by omega) (by decide) rfl ?_
                      refine V_aload_n nX6_rests_162 rfl ?_
                      refine V_get6 0 32 (by decide) f_RX6_62 nX6_rests_163 rfl rfl ?_
                      refine V_iconst (v := (nI 2)) nX6_rests_166 rfl ?_
                      refine V_iload nX6_rests_167 rfl ?_
                      refine V_imul (v := nI (2 * k)) nX6_rests_169 (pk_mul 2 k) ?_
                      refine V_iconst (v := (nI 1)) nX6_rests_170 rfl ?_
                      refine V_iadd (v := nI ((2 * k) + 1)) nX6_rests_171 (nI_add (2 * k) 1) ?_
                      refine V_iload nX6_rests_172 rfl ?_
                      refine V_aload_n nX6_rests_174 rfl ?_
                      refine V_get6 0 27 (by decide) f_RX6_59 nX6_rests_175 rfl rfl ?_
                      refine V_iload_n nX6_rests_178 rfl ?_
                      refine V_iald (v := faP m_pl m_hm m_wk m_kd o_nf 31 (etQ o_nf o_ne m_kd g_f (nI a) (nI d)) o_ne b) 9 nX6_rests_179 rfl (by omega) (by decide) (mrP_2 _ _ _ _ _ _ _ _ _ _ (by omega)) ?_
                      refine V_isub (v := (nI (if (decide ((swP m_nd (mqP m_pl m_hm m_wk m_kd o_nf 31 (etQ o_nf o_ne m_kd g_f (nI a) (nI d)) o_ne) o_nf) / 2 ^ d % 2 = 1)) = true then 3 else 0)) - (faP m_pl m_hm m_wk m_kd o_nf 31 (etQ o_nf o_ne m_kd g_f (nI a) (nI d)) o_ne b)) nX6_rests_180 rfl ?_
                      refine V_iload nX6_rests_181 rfl ?_
                      refine V_joinN (b := false) (x := 4) (y := 0) (pj := 191) (st := [.int ((nI (if (decide ((swP m_nd (mqP m_pl m_hm m_wk m_kd o_nf 31 (etQ o_nf o_ne m_kd g_f (nI a) (nI d)) o_ne) o_nf) / 2 ^ d % 2 = 1)) = true then 3 else 0)) - (faP m_pl m_hm m_wk m_kd o_nf 31 (etQ o_nf o_ne m_kd g_f (nI a) (nI d)) o_ne b)), .int (nI ((2 * k) + 1)), .ref (o_a 18)]) (fun J1 J2 => ?_) ?_
                      · skip
                        refine V_if_eq_b (tgt := 190) nX6_rests_183 rfl (fun h183 => ?_) (fun h183 => ?_)
                        · skip
                          refine V_iconst (v := (nI 0)) nX6_rests_190 rfl ?_
                          exact J2 (by simp [h183])
                        · skip
                          refine V_iconst (v := (nI 4)) nX6_rests_186 rfl ?_
                          refine V_goto (tgt := 191) nX6_rests_187 rfl ?_
                          exact J1 (by simp [h183])
                      refine V_iadd (v := ((nI (if (decide ((swP m_nd (mqP m_pl m_hm m_wk m_kd o_nf 31 (etQ o_nf o_ne m_kd g_f (nI a) (nI d)) o_ne) o_nf) / 2 ^ d % 2 = 1)) = true then 3 else 0)) - (faP m_pl m_hm m_wk m_kd o_nf 31 (etQ o_nf o_ne m_kd g_f (nI a) (nI d)) o_ne b)) + (nI (if false = true then 4 else 0))) nX6_rests_191 rfl ?_
                      refine V_iast (ws' := (wO g o_a (nI 0) o_ts o_pl o_nf o_ne o_rf o_re o_ac o_cm o_sd ((mrP m_pl m_hm m_wk m_kd o_nf 31 ((etQ o_nf o_ne m_kd g_f (nI a) (nI d)), r, v) o_ne).2.2) o_sm o_sf o_rm o_rs) ++ (wML g o_a m_pl m_yl m_nd m_hm m_wk m_kd) ++ (wI g (o_a 10) 29 g_f) ++ (wI g (o_a 11) 29 (mqP m_pl m_hm m_wk m_kd o_nf 31 (etQ o_nf o_ne m_kd g_f (nI a) (nI d)) o_ne)) ++ (wI g (o_a 17) 5 ((mrP m_pl m_hm m_wk m_kd o_nf 31 ((etQ o_nf o_ne m_kd g_f (nI a) (nI d)), r, v) o_ne).2.1)) ++ (wI g (o_a 18) 8 (upd (upd (rqZ o_nf o_ne m_pl m_nd m_hm m_wk m_kd g_f a b d n_f k) (2 * k) (((nI (if (decide ((swP m_nd (mqP m_pl m_hm m_wk m_kd o_nf 31 (etQ o_nf o_ne m_kd g_f (nI a) (nI d)) o_ne) o_nf) / 2 ^ d % 2 = 1)) = true then 3 else 0)) - (faP m_pl m_hm m_wk m_kd o_nf 31 (etQ o_nf o_ne m_kd g_f (nI a) (nI d)) o_ne a)) + (nI (if (etB o_nf o_ne m_kd g_f (nI a) (nI d)) = true then 4 else 0)))) ((2 * k) + 1) (((nI (if (decide ((swP m_nd (mqP m_pl m_hm m_wk m_kd o_nf 31 (etQ o_nf o_ne m_kd g_f (nI a) (nI d)) o_ne) o_nf) / 2 ^ d % 2 = 1)) = true then 3 else 0)) - (faP m_pl m_hm m_wk m_kd o_nf 31 (etQ o_nf o_ne m_kd g_f (nI a) (nI d)) o_ne b)) + (nI (if false = true then 4 else 0)))))) 10 nX6_rests_192 rfl (by omega) (by decide) rfl ?_
                      refine V_iinc (v := nI (k + 1)) (lv' := [(0, .ref (o_a 0)), (1, .int (nI a)), (2, .int (nI b)), (3, .int (nI d)), (4, .int w), (5, .int (nI (k + 1))), (6, .int (bI (etB o_nf o_ne m_kd g_f (nI a) (nI d)))), (7, .int (bI false)), (8, .int (nI (if (decide ((swP m_nd (mqP m_pl m_hm m_wk m_kd o_nf 31 (etQ o_nf o_ne m_kd g_f (nI a) (nI d)) o_ne) o_nf) / 2 ^ d % 2 = 1)) = true then 3 else 0)))]) nX6_rests_193 rfl (nI_add k 1) (by decide) rfl ?_
                      refine V_goto (tgt := 53) nX6_rests_196 rfl ?_
                      refine V_pick (lv2 := [(0, .ref (o_a 0)), (1, .int (nI a)), (2, .int (nI b)), (3, .int (nI d)), (4, .int w), (5, .int (nI (k + 1)))]) [0, 1, 2, 3, 4, 5] rfl ?_
                      have hA : rqA o_nf o_ne m_kd g_f k a d = (etB o_nf o_ne m_kd g_f (nI a) (nI d)) := by unfold rqA; rw [decide_eq_true h66]; rfl
                      have hC : rqC o_nf o_ne m_kd g_f k a d = etQ o_nf o_ne m_kd g_f (nI a) (nI d) := if_pos h66
                      have hB : rqB o_nf o_ne m_kd g_f k a b d = false := by unfold rqB; rw [decide_eq_false h90]; rfl
                      have hD : rqD o_nf o_ne m_kd g_f k a b d = etQ o_nf o_ne m_kd g_f (nI a) (nI d) := by unfold rqD; rw [if_neg h90, hC]
                      have q9 := ih (k + 1) (mqP m_pl m_hm m_wk m_kd o_nf 31 (etQ o_nf o_ne m_kd g_f (nI a) (nI d)) o_ne) ((mrP m_pl m_hm m_wk m_kd o_nf 31 ((etQ o_nf o_ne m_kd g_f (nI a) (nI d)), r, v) o_ne).2.1) ((mrP m_pl m_hm m_wk m_kd o_nf 31 ((etQ o_nf o_ne m_kd g_f (nI a) (nI d)), r, v) o_ne).2.2) (by omega) (by omega)
                      rw [show rqZ o_nf o_ne m_pl m_nd m_hm m_wk m_kd g_f a b d n_f (k + 1) = upd (upd (rqZ o_nf o_ne m_pl m_nd m_hm m_wk m_kd g_f a b d n_f k) (2 * k) (rqG o_nf o_ne m_pl m_nd m_hm m_wk m_kd g_f k a b d (rqA o_nf o_ne m_kd g_f k a d) a)) (2 * k + 1) (rqG o_nf o_ne m_pl m_nd m_hm m_wk m_kd g_f k a b d (rqB o_nf o_ne m_kd g_f k a b d) b) from rfl, hA, hB] at q9
                      unfold rqG at q9
                      rw [hD] at q9
                      simp only [decide_eq_true_eq]
                      exact q9
                    · skip
                      refine V_aload_n nX6_rests_93 rfl ?_
                      refine V_iload_n nX6_rests_94 rfl ?_
                      refine V_iload_n nX6_rests_95 rfl ?_
                      refine V_blk (ws' := ((wO g o_a (nI 0) o_ts o_pl o_nf o_ne o_rf o_re o_ac o_cm o_sd v o_sm o_sf o_rm o_rs) ++ (wML g o_a m_pl m_yl m_nd m_hm m_wk m_kd) ++ (wI g (o_a 11) 29 (etQ o_nf o_ne m_kd g_f (nI a) (nI d)))) ++ ((wI g (o_a 10) 29 g_f) ++ (wI g (o_a 17) 5 r) ++ (wI g (o_a 18) 8 (rqZ o_nf o_ne m_pl m_nd m_hm m_wk m_kd g_f a b d n_f k)))) [wO g o_a (nI 0) o_ts o_pl o_nf o_ne o_rf o_re o_ac o_cm o_sd v o_sm o_sf o_rm o_rs, wML g o_a m_pl m_yl m_nd m_hm m_wk m_kd, wI g (o_a 10) 29 g_f, wI g (o_a 11) 29 (etQ o_nf o_ne m_kd g_f (nI a) (nI d)), wI g (o_a 17) 5 r, wI g (o_a 18) 8 (rqZ o_nf o_ne m_pl m_nd m_hm m_wk m_kd g_f a b d n_f k)] [0, 1, 3, 2, 4, 5] rfl (by simp only [List.flatten_cons, List.flatten_nil, List.append_nil, List.append_assoc]) (by show List.flatten [wO g o_a (nI 0) o_ts o_pl o_nf o_ne o_rf o_re o_ac o_cm o_sd v o_sm o_sf o_rm o_rs, wML g o_a m_pl m_yl m_nd m_hm m_wk m_kd, wI g (o_a 11) 29 (etQ o_nf o_ne m_kd g_f (nI a) (nI d)), wI g (o_a 10) 29 g_f, wI g (o_a 17) 5 r, wI g (o_a 18) 8 (rqZ o_nf o_ne m_pl m_nd m_hm m_wk m_kd g_f a b d n_f k)] = _; simp only [List.flatten_cons, List.flatten_nil, List.append_nil, List.append_assoc]) ?_
                      refine V_cVi (C := (RX6, TX6, 34)) (ci := 6) (ws' := ((wO g o_a (nI 0) o_ts o_pl o_nf o_ne o_rf o_re o_ac o_cm o_sd v o_sm o_sf o_rm o_rs) ++ (wML g o_a m_pl m_yl m_nd m_hm m_wk m_kd) ++ (wI g (o_a 11) 29 (etQ o_nf o_ne m_kd (etQ o_nf o_ne m_kd g_f (nI a) (nI d)) (nI b) (nI d)))) ++ ((wI g (o_a 10) 29 g_f) ++ (wI g (o_a 17) 5 r) ++ (wI g (o_a 18) 8 (rqZ o_nf o_ne m_pl m_nd m_hm m_wk m_kd g_f a b d n_f k)))) (List.range _) 2 X (c_X6_eats g l o_a (nI 0) o_ts o_pl o_nf o_ne o_rf o_re o_ac o_cm o_sd v o_sm o_sf o_rm o_rs m_pl m_yl m_nd m_hm m_wk m_kd (etQ o_nf o_ne m_kd g_f (nI a) (nI d))  b d (by omega) (by omega) (by omega) (by omega)) k_RX6_202 hy_X6_eats (by decide) (range_at _ _) (range_nd _) 0 rfl rfl nX6_rests_96 rfl rfl (Nat.le_of_ble_eq_true rfl) (wput_range _ _ _ (by simp only [List.length_append, wI_len, wML_len, wO_len])) ?_
                      refine V_blk (ws' := (wO g o_a (nI 0) o_ts o_pl o_nf o_ne o_rf o_re o_ac o_cm o_sd v o_sm o_sf o_rm o_rs) ++ (wML g o_a m_pl m_yl m_nd m_hm m_wk m_kd) ++ (wI g (o_a 10) 29 g_f) ++ (wI g (o_a 11) 29 (etQ o_nf o_ne m_kd (etQ o_nf o_ne m_kd g_f (nI a) (nI d)) (nI b) (nI d))) ++ (wI g (o_a 17) 5 r) ++ (wI g (o_a 18) 8 (rqZ o_nf o_ne m_pl m_nd m_hm m_wk m_kd g_f a b d n_f k))) [wO g o_a (nI 0) o_ts o_pl o_nf o_ne o_rf o_re o_ac o_cm o_sd v o_sm o_sf o_rm o_rs, wML g o_a m_pl m_yl m_nd m_hm m_wk m_kd, wI g (o_a 11) 29 (etQ o_nf o_ne m_kd (etQ o_nf o_ne m_kd g_f (nI a) (nI d)) (nI b) (nI d)), wI g (o_a 10) 29 g_f, wI g (o_a 17) 5 r, wI g (o_a 18) 8 (rqZ o_nf o_ne m_pl m_nd m_hm m_wk m_kd g_f a b d n_f k)] [0, 1, 3, 2, 4, 5] rfl (by simp only [List.flatten_cons, List.flatten_nil, List.append_nil, List.append_assoc]) (by show List.flatten [wO g o_a (nI 0) o_ts o_pl o_nf o_ne o_rf o_re o_ac o_cm o_sd v o_sm o_sf o_rm o_rs, wML g o_a m_pl m_yl m_nd m_hm m_wk m_kd, wI g (o_a 10) 29 g_f, wI g (o_a 11) 29 (etQ o_nf o_ne m_kd (etQ o_nf o_ne m_kd g_f (nI a) (nI d)) (nI b) (nI d)), wI g (o_a 17) 5 r, wI g (o_a 18) 8 (rqZ o_nf o_ne m_pl m_nd m_hm m_wk m_kd g_f a b d n_f k)] = _; simp only [List.flatten_cons, List.flatten_nil, List.append_nil, List.append_assoc]) ?_
                      refine V_joinb (b := (etB o_nf o_ne m_kd (etQ o_nf o_ne m_kd g_f (nI a) (nI d)) (nI b) (nI d))) (pj := 107) (st := []) (fun J1 J2 => ?_) ?_
                      · skip
                        refine V_if_eq_b (tgt := 106) nX6_rests_99 rfl (fun h99 => ?_) (fun h99 => ?_)
                        · skip
                          refine V_iconst (v := (nI 0)) nX6_rests_106 rfl ?_
                          exact J2 (by simp [h99])
                        · skip
                          refine V_iconst (v := (nI 1)) nX6_rests_102 rfl ?_
                          refine V_goto (tgt := 107) nX6_rests_103 rfl ?_
                          exact J1 (by simp [h99])
                      refine V_istore (lv' := [(0, .ref (o_a 0)), (1, .int (nI a)), (2, .int (nI b)), (3, .int (nI d)), (4, .int w), (5, .int (nI k)), (6, .int (bI (etB o_nf o_ne m_kd g_f (nI a) (nI d)))), (7, .int (bI (etB o_nf o_ne m_kd (etQ o_nf o_ne m_kd g_f (nI a) (nI d)) (nI b) (nI d))))]) nX6_rests_107 (by decide) rfl ?_
                      refine V_aload_n nX6_rests_109 rfl ?_
                      refine V_aload_n nX6_rests_110 rfl ?_
                      refine V_get6 0 17 (by decide) f_RX6_40 nX6_rests_111 rfl rfl ?_
                      refine V_bipush (v := (nI 31)) nX6_rests_114 (by decide) ?_
                      refine V_blk (ws' := ((wO g o_a (nI 0) o_ts o_pl o_nf o_ne o_rf o_re o_ac o_cm o_sd v o_sm o_sf o_rm o_rs) ++ (wML g o_a m_pl m_yl m_nd m_hm m_wk m_kd) ++ (wI g (o_a 11) 29 (etQ o_nf o_ne m_kd (etQ o_nf o_ne m_kd g_f (nI a) (nI d)) (nI b) (nI d))) ++ (wI g (o_a 17) 5 r)) ++ ((wI g (o_a 10) 29 g_f) ++ (wI g (o_a 18) 8 (rqZ o_nf o_ne m_pl m_nd m_hm m_wk m_kd g_f a b d n_f k)))) [wO g o_a (nI 0) o_ts o_pl o_nf o_ne o_rf o_re o_ac o_cm o_sd v o_sm o_sf o_rm o_rs, wML g o_a m_pl m_yl m_nd m_hm m_wk m_kd, wI g (o_a 10) 29 g_f, wI g (o_a 11) 29 (etQ o_nf o_ne m_kd (etQ o_nf o_ne m_kd g_f (nI a) (nI d)) (nI b) (nI d)), wI g (o_a 17) 5 r, wI g (o_a 18) 8 (rqZ o_nf o_ne m_pl m_nd m_hm m_wk m_kd g_f a b d n_f k)] [0, 1, 3, 4, 2, 5] rfl (by simp only [List.flatten_cons, List.flatten_nil, List.append_nil, List.append_assoc]) (by show List.flatten [wO g o_a (nI 0) o_ts o_pl o_nf o_ne o_rf o_re o_ac o_cm o_sd v o_sm o_sf o_rm o_rs, wML g o_a m_pl m_yl m_nd m_hm m_wk m_kd, wI g (o_a 11) 29 (etQ o_nf o_ne m_kd (etQ o_nf o_ne m_kd g_f (nI a) (nI d)) (nI b) (nI d)), wI g (o_a 17) 5 r, wI g (o_a 10) 29 g_f, wI g (o_a 18) 8 (rqZ o_nf o_ne m_pl m_nd m_hm m_wk m_kd g_f a b d n_f k)] = _; simp only [List.flatten_cons, List.flatten_nil, List.append_nil, List.append_assoc]) ?_
                      refine V_cVi (C := (RX6, TX6, 34)) (ci := 6) (ws' := ((wO g o_a (nI 0) o_ts o_pl o_nf o_ne o_rf o_re o_ac o_cm o_sd ((mrP m_pl m_hm m_wk m_kd o_nf 31 ((etQ o_nf o_ne m_kd (etQ o_nf o_ne m_kd g_f (nI a) (nI d)) (nI b) (nI d)), r, v) o_ne).2.2) o_sm o_sf o_rm o_rs) ++ (wML g o_a m_pl m_yl m_nd m_hm m_wk m_kd) ++ (wI g (o_a 11) 29 (mqP m_pl m_hm m_wk m_kd o_nf 31 (etQ o_nf o_ne m_kd (etQ o_nf o_ne m_kd g_f (nI a) (nI d)) (nI b) (nI d)) o_ne)) ++ (wI g (o_a 17) 5 ((mrP m_pl m_hm m_wk m_kd o_nf 31 ((etQ o_nf o_ne m_kd (etQ o_nf o_ne m_kd g_f (nI a) (nI d)) (nI b) (nI d)), r, v) o_ne).2.1))) ++ ((wI g (o_a 10) 29 g_f) ++ (wI g (o_a 18) 8 (rqZ o_nf o_ne m_pl m_nd m_hm m_wk m_kd g_f a b d n_f k)))) (List.range _) 2 X (c_X6_goMarch g l o_a (nI 0) o_ts o_pl o_nf o_ne o_rf o_re o_ac o_cm o_sd v o_sm o_sf o_rm o_rs m_pl m_yl m_nd m_hm m_wk m_kd (o_a 11) (etQ o_nf o_ne m_kd (etQ o_nf o_ne m_kd g_f (nI a) (nI d)) (nI b) (nI d)) r  31 (by omega) (by omega) (by decide)) k_RX6_155 hy_X6_goMarch (by decide) (range_at _ _) (range_nd _) 0 rfl rfl nX6_rests_116 rfl rfl (Nat.le_of_ble_eq_true rfl) (wput_range _ _ _ (by simp only [List.length_append, wI_len, wML_len, wO_len])) ?_
                      refine V_blk (ws' := (wO g o_a (nI 0) o_ts o_pl o_nf o_ne o_rf o_re o_ac o_cm o_sd ((mrP m_pl m_hm m_wk m_kd o_nf 31 ((etQ o_nf o_ne m_kd (etQ o_nf o_ne m_kd g_f (nI a) (nI d)) (nI b) (nI d)), r, v) o_ne).2.2) o_sm o_sf o_rm o_rs) ++ (wML g o_a m_pl m_yl m_nd m_hm m_wk m_kd) ++ (wI g (o_a 10) 29 g_f) ++ (wI g (o_a 11) 29 (mqP m_pl m_hm m_wk m_kd o_nf 31 (etQ o_nf o_ne m_kd (etQ o_nf o_ne m_kd g_f (nI a) (nI d)) (nI b) (nI d)) o_ne)) ++ (wI g (o_a 17) 5 ((mrP m_pl m_hm m_wk m_kd o_nf 31 ((etQ o_nf o_ne m_kd (etQ o_nf o_ne m_kd g_f (nI a) (nI d)) (nI b) (nI d)), r, v) o_ne).2.1)) ++ (wI g (o_a 18) 8 (rqZ o_nf o_ne m_pl m_nd m_hm m_wk m_kd g_f a b d n_f k))) [wO g o_a (nI 0) o_ts o_pl o_nf o_ne o_rf o_re o_ac o_cm o_sd ((mrP m_pl m_hm m_wk m_kd o_nf 31 ((etQ o_nf o_ne m_kd (etQ o_nf o_ne m_kd g_f (nI a) (nI d)) (nI b) (nI d)), r, v) o_ne).2.2) o_sm o_sf o_rm o_rs, wML g o_a m_pl m_yl m_nd m_hm m_wk m_kd, wI g (o_a 11) 29 (mqP m_pl m_hm m_wk m_kd o_nf 31 (etQ o_nf o_ne m_kd (etQ o_nf o_ne m_kd g_f (nI a) (nI d)) (nI b) (nI d)) o_ne), wI g (o_a 17) 5 ((mrP m_pl m_hm m_wk m_kd o_nf 31 ((etQ o_nf o_ne m_kd (etQ o_nf o_ne m_kd g_f (nI a) (nI d)) (nI b) (nI d)), r, v) o_ne).2.1), wI g (o_a 10) 29 g_f, wI g (o_a 18) 8 (rqZ o_nf o_ne m_pl m_nd m_hm m_wk m_kd g_f a b d n_f k)] [0, 1, 4, 2, 3, 5] rfl (by simp only [List.flatten_cons, List.flatten_nil, List.append_nil, List.append_assoc]) (by show List.flatten [wO g o_a (nI 0) o_ts o_pl o_nf o_ne o_rf o_re o_ac o_cm o_sd ((mrP m_pl m_hm m_wk m_kd o_nf 31 ((etQ o_nf o_ne m_kd (etQ o_nf o_ne m_kd g_f (nI a) (nI d)) (nI b) (nI d)), r, v) o_ne).2.2) o_sm o_sf o_rm o_rs, wML g o_a m_pl m_yl m_nd m_hm m_wk m_kd, wI g (o_a 10) 29 g_f, wI g (o_a 11) 29 (mqP m_pl m_hm m_wk m_kd o_nf 31 (etQ o_nf o_ne m_kd (etQ o_nf o_ne m_kd g_f (nI a) (nI d)) (nI b) (nI d)) o_ne), wI g (o_a 17) 5 ((mrP m_pl m_hm m_wk m_kd o_nf 31 ((etQ o_nf o_ne m_kd (etQ o_nf o_ne m_kd g_f (nI a) (nI d)) (nI b) (nI d)), r, v) o_ne).2.1), wI g (o_a 18) 8 (rqZ o_nf o_ne m_pl m_nd m_hm m_wk m_kd g_f a b d n_f k)] = _; simp only [List.flatten_cons, List.flatten_nil, List.append_nil, List.append_assoc]) ?_
                      refine V_iload_n nX6_rests_119 rfl ?_
                      refine V_cSi (ws' := (wO g o_a (nI 0) o_ts o_pl o_nf o_ne o_rf o_re o_ac o_cm o_sd ((mrP m_pl m_hm m_wk m_kd o_nf 31 ((etQ o_nf o_ne m_kd (etQ o_nf o_ne m_kd g_f (nI a) (nI d)) (nI b) (nI d)), r, v) o_ne).2.2) o_sm o_sf o_rm o_rs) ++ (wML g o_a m_pl m_yl m_nd m_hm m_wk m_kd) ++ (wI g (o_a 10) 29 g_f) ++ (wI g (o_a 11) 29 (mqP m_pl m_hm m_wk m_kd o_nf 31 (etQ o_nf o_ne m_kd (etQ o_nf o_ne m_kd g_f (nI a) (nI d)) (nI b) (nI d)) o_ne)) ++ (wI g (o_a 17) 5 ((mrP m_pl m_hm m_wk m_kd o_nf 31 ((etQ o_nf o_ne m_kd (etQ o_nf o_ne m_kd g_f (nI a) (nI d)) (nI b) (nI d)), r, v) o_ne).2.1)) ++ (wI g (o_a 18) 8 (rqZ o_nf o_ne m_pl m_nd m_hm m_wk m_kd g_f a b d n_f k))) [] 2 X (c_X6_has g l   (swP m_nd (mqP m_pl m_hm m_wk m_kd o_nf 31 (etQ o_nf o_ne m_kd (etQ o_nf o_ne m_kd g_f (nI a) (nI d)) (nI b) (nI d)) o_ne) o_nf) d (Nat.lt_trans (swP_lt hnf _ _) (by decide)) (by omega)) k_RX6_134 hy_X6_has.2 (by decide) rfl (by decide) nX6_rests_120 rfl rfl (Nat.le_of_ble_eq_true rfl) rfl ?_
                      refine V_joinN (b := (decide ((swP m_nd (mqP m_pl m_hm m_wk m_kd o_nf 31 (etQ o_nf o_ne m_kd (etQ o_nf o_ne m_kd g_f (nI a) (nI d)) (nI b) (nI d)) o_ne) o_nf) / 2 ^ d % 2 = 1))) (x := 3) (y := 0) (pj := 131) (st := []) (fun J1 J2 => ?_) ?_
                      · skip
                        refine V_if_eq_b (tgt := 130) nX6_rests_123 rfl (fun h123 => ?_) (fun h123 => ?_)
                        · skip
                          refine V_iconst (v := (nI 0)) nX6_rests_130 rfl ?_
                          exact J2 (by simp [h123])
                        · skip
                          refine V_iconst (v := (nI 3)) nX6_rests_126 rfl ?_
                          refine V_goto (tgt := 131) nX6_rests_127 rfl ?_
                          exact J1 (by simp [h123])
                      refine V_istore (lv' := [(0, .ref (o_a 0)), (1, .int (nI a)), (2, .int (nI b)), (3, .int (nI d)), (4, .int w), (5, .int (nI k)), (6, .int (bI (etB o_nf o_ne m_kd g_f (nI a) (nI d)))), (7, .int (bI (etB o_nf o_ne m_kd (etQ o_nf o_ne m_kd g_f (nI a) (nI d)) (nI b) (nI d)))), (8, .int (nI (if (decide ((swP m_nd (mqP m_pl m_hm m_wk m_kd o_nf 31 (etQ o_nf o_ne m_kd (etQ o_nf o_ne m_kd g_f (nI a) (nI d)) (nI b) (nI d)) o_ne) o_nf) / 2 ^ d % 2 = 1)) = true then 3 else 0)))]) nX6_rests_131 (by decide) rfl ?_
                      refine V_aload_n nX6_rests_133 rfl ?_
                      refine V_get6 0 32 (by decide) f_RX6_62 nX6_rests_134 rfl rfl ?_
                      refine V_iconst (v := (nI 2)) nX6_rests_137 rfl ?_
                      refine V_iload nX6_rests_138 rfl ?_
                      refine V_imul (v := nI (2 * k)) nX6_rests_140 (pk_mul 2 k) ?_
                      refine V_iload nX6_rests_141 rfl ?_
                      refine V_aload_n nX6_rests_143 rfl ?_
                      refine V_get6 0 27 (by decide) f_RX6_59 nX6_rests_144 rfl rfl ?_
                      refine V_iload_n nX6_rests_147 rfl ?_
                      refine V_iald (v := faP m_pl m_hm m_wk m_kd o_nf 31 (etQ o_nf o_ne m_kd (etQ o_nf o_ne m_kd g_f (nI a) (nI d)) (nI b) (nI d)) o_ne a) 9 nX6_rests_148 rfl (by omega) (by decide) (mrP_2 _ _ _ _ _ _ _ _ _ _ (by omega)) ?_
                      refine V_isub (v := (nI (if (decide ((swP m_nd (mqP m_pl m_hm m_wk m_kd o_nf 31 (etQ o_nf o_ne m_kd (etQ o_nf o_ne m_kd g_f (nI a) (nI d)) (nI b) (nI d)) o_ne) o_nf) / 2 ^ d % 2 = 1)) = true then 3 else 0)) - (faP m_pl m_hm m_wk m_kd o_nf 31 (etQ o_nf o_ne m_kd (etQ o_nf o_ne m_kd g_f (nI a) (nI d)) (nI b) (nI d)) o_ne a)) nX6_rests_149 rfl ?_
                      refine V_iload nX6_rests_150 rfl ?_
                      refine V_joinN (b := (etB o_nf o_ne m_kd g_f (nI a) (nI d))) (x := 4) (y := 0) (pj := 160) (st := [.int ((nI (if (decide ((swP m_nd (mqP m_pl m_hm m_wk m_kd o_nf 31 (etQ o_nf o_ne m_kd (etQ o_nf o_ne m_kd g_f (nI a) (nI d)) (nI b) (nI d)) o_ne) o_nf) / 2 ^ d % 2 = 1)) = true then 3 else 0)) - (faP m_pl m_hm m_wk m_kd o_nf 31 (etQ o_nf o_ne m_kd (etQ o_nf o_ne m_kd g_f (nI a) (nI d)) (nI b) (nI d)) o_ne a)), .int (nI (2 * k)), .ref (o_a 18)]) (fun J1 J2 => ?_) ?_
                      · skip
                        refine V_if_eq_b (tgt := 159) nX6_rests_152 rfl (fun h152 => ?_) (fun h152 => ?_)
                        · skip
                          refine V_iconst (v := (nI 0)) nX6_rests_159 rfl ?_
                          exact J2 (by simp [h152])
                        · skip
                          refine V_iconst (v := (nI 4)) nX6_rests_155 rfl ?_
                          refine V_goto (tgt := 160) nX6_rests_156 rfl ?_
                          exact J1 (by simp [h152])
                      refine V_iadd (v := ((nI (if (decide ((swP m_nd (mqP m_pl m_hm m_wk m_kd o_nf 31 (etQ o_nf o_ne m_kd (etQ o_nf o_ne m_kd g_f (nI a) (nI d)) (nI b) (nI d)) o_ne) o_nf) / 2 ^ d % 2 = 1)) = true then 3 else 0)) - (faP m_pl m_hm m_wk m_kd o_nf 31 (etQ o_nf o_ne m_kd (etQ o_nf o_ne m_kd g_f (nI a) (nI d)) (nI b) (nI d)) o_ne a)) + (nI (if (etB o_nf o_ne m_kd g_f (nI a) (nI d)) = true then 4 else 0))) nX6_rests_160 rfl ?_
                      refine V_iast (ws' := (wO g o_a (nI 0) o_ts o_pl o_nf o_ne o_rf o_re o_ac o_cm o_sd ((mrP m_pl m_hm m_wk m_kd o_nf 31 ((etQ o_nf o_ne m_kd (etQ o_nf o_ne m_kd g_f (nI a) (nI d)) (nI b) (nI d)), r, v) o_ne).2.2) o_sm o_sf o_rm o_rs) ++ (wML g o_a m_pl m_yl m_nd m_hm m_wk m_kd) ++ (wI g (o_a 10) 29 g_f) ++ (wI g (o_a 11) 29 (mqP m_pl m_hm m_wk m_kd o_nf 31 (etQ o_nf o_ne m_kd (etQ o_nf o_ne m_kd g_f (nI a) (nI d)) (nI b) (nI d)) o_ne)) ++ (wI g (o_a 17) 5 ((mrP m_pl m_hm m_wk m_kd o_nf 31 ((etQ o_nf o_ne m_kd (etQ o_nf o_ne m_kd g_f (nI a) (nI d)) (nI b) (nI d)), r, v) o_ne).2.1)) ++ (wI g (o_a 18) 8 (upd (rqZ o_nf o_ne m_pl m_nd m_hm m_wk m_kd g_f a b d n_f k) (2 * k) (((nI (if (decide ((swP m_nd (mqP m_pl m_hm m_wk m_kd o_nf 31 (etQ o_nf o_ne m_kd (etQ o_nf o_ne m_kd g_f (nI a) (nI d)) (nI b) (nI d)) o_ne) o_nf) / 2 ^ d % 2 = 1)) = true then 3 else 0)) - (faP m_pl m_hm m_wk m_kd o_nf 31 (etQ o_nf o_ne m_kd (etQ o_nf o_ne m_kd g_f (nI a) (nI d)) (nI b) (nI d)) o_ne a)) + (nI (if (etB o_nf o_ne m_kd g_f (nI a) (nI d)) = true then 4 else 0)))))) 10 nX6_rests_161 rfl (by omega) (by decide) rfl ?_
                      refine V_aload_n nX6_rests_162 rfl ?_
                      refine V_get6 0 32 (by decide) f_RX6_62 nX6_rests_163 rfl rfl ?_
                      refine V_iconst (v := (nI 2)) nX6_rests_166 rfl ?_
                      refine V_iload nX6_rests_167 rfl ?_
                      refine V_imul (v := nI (2 * k)) nX6_rests_169 (pk_mul 2 k) ?_
                      refine V_iconst (v := (nI 1)) nX6_rests_170 rfl ?_
                      refine V_iadd (v := nI ((2 * k) + 1)) nX6_rests_171 (nI_add (2 * k) 1) ?_
                      refine V_iload nX6_rests_172 rfl ?_
                      refine V_aload_n nX6_rests_174 rfl ?_
                      refine V_get6 0 27 (by decide) f_RX6_59 nX6_rests_175 rfl rfl ?_
                      refine V_iload_n nX6_rests_178 rfl ?_
                      refine V_iald (v := faP m_pl m_hm m_wk m_kd o_nf 31 (etQ o_nf o_ne m_kd (etQ o_nf o_ne m_kd g_f (nI a) (nI d)) (nI b) (nI d)) o_ne b) 9 nX6_rests_179 rfl (by omega) (by decide) (mrP_2 _ _ _ _ _ _ _ _ _ _ (by omega)) ?_
                      refine V_isub (v := (nI (if (decide ((swP m_nd (mqP m_pl m_hm m_wk m_kd o_nf 31 (etQ o_nf o_ne m_kd (etQ o_nf o_ne m_kd g_f (nI a) (nI d)) (nI b) (nI d)) o_ne) o_nf) / 2 ^ d % 2 = 1)) = true then 3 else 0)) - (faP m_pl m_hm m_wk m_kd o_nf 31 (etQ o_nf o_ne m_kd (etQ o_nf o_ne m_kd g_f (nI a) (nI d)) (nI b) (nI d)) o_ne b)) nX6_rests_180 rfl ?_
                      refine V_iload nX6_rests_181 rfl ?_
                      refine V_joinN (b := (etB o_nf o_ne m_kd (etQ o_nf o_ne m_kd g_f (nI a) (nI d)) (nI b) (nI d))) (x := 4) (y := 0) (pj := 191) (st := [.int ((nI (if (decide ((swP m_nd (mqP m_pl m_hm m_wk m_kd o_nf 31 (etQ o_nf o_ne m_kd (etQ o_nf o_ne m_kd g_f (nI a) (nI d)) (nI b) (nI d)) o_ne) o_nf) / 2 ^ d % 2 = 1)) = true then 3 else 0)) - (faP m_pl m_hm m_wk m_kd o_nf 31 (etQ o_nf o_ne m_kd (etQ o_nf o_ne m_kd g_f (nI a) (nI d)) (nI b) (nI d)) o_ne b)), .int (nI ((2 * k) + 1)), .ref (o_a 18)]) (fun J1 J2 => ?_) ?_
                      · skip
                        refine V_if_eq_b (tgt := 190) nX6_rests_183 rfl (fun h183 => ?_) (fun h183 => ?_)
                        · skip
                          refine V_iconst (v := (nI 0)) nX6_rests_190 rfl ?_
                          exact J2 (by simp [h183])
                        · skip
                          refine V_iconst (v := (nI 4)) nX6_rests_186 rfl ?_
                          refine V_goto (tgt := 191) nX6_rests_187 rfl ?_
                          exact J1 (by simp [h183])
                      refine V_iadd (v := ((nI (if (decide ((swP m_nd (mqP m_pl m_hm m_wk m_kd o_nf 31 (etQ o_nf o_ne m_kd (etQ o_nf o_ne m_kd g_f (nI a) (nI d)) (nI b) (nI d)) o_ne) o_nf) / 2 ^ d % 2 = 1)) = true then 3 else 0)) - (faP m_pl m_hm m_wk m_kd o_nf 31 (etQ o_nf o_ne m_kd (etQ o_nf o_ne m_kd g_f (nI a) (nI d)) (nI b) (nI d)) o_ne b)) + (nI (if (etB o_nf o_ne m_kd (etQ o_nf o_ne m_kd g_f (nI a) (nI d)) (nI b) (nI d)) = true then 4 else 0))) nX6_rests_191 rfl ?_
                      refine V_iast (ws' := (wO g o_a (nI 0) o_ts o_pl o_nf o_ne o_rf o_re o_ac o_cm o_sd ((mrP m_pl m_hm m_wk m_kd o_nf 31 ((etQ o_nf o_ne m_kd (etQ o_nf o_ne m_kd g_f (nI a) (nI d)) (nI b) (nI d)), r, v) o_ne).2.2) o_sm o_sf o_rm o_rs) ++ (wML g o_a m_pl m_yl m_nd m_hm m_wk m_kd) ++ (wI g (o_a 10) 29 g_f) ++ (wI g (o_a 11) 29 (mqP m_pl m_hm m_wk m_kd o_nf 31 (etQ o_nf o_ne m_kd (etQ o_nf o_ne m_kd g_f (nI a) (nI d)) (nI b) (nI d)) o_ne)) ++ (wI g (o_a 17) 5 ((mrP m_pl m_hm m_wk m_kd o_nf 31 ((etQ o_nf o_ne m_kd (etQ o_nf o_ne m_kd g_f (nI a) (nI d)) (nI b) (nI d)), r, v) o_ne).2.1)) ++ (wI g (o_a 18) 8 (upd (upd (rqZ o_nf o_ne m_pl m_nd m_hm m_wk m_kd g_f a b d n_f k) (2 * k) (((nI (if (decide ((swP m_nd (mqP m_pl m_hm m_wk m_kd o_nf 31 (etQ o_nf o_ne m_kd (etQ o_nf o_ne m_kd g_f (nI a) (nI d)) (nI b) (nI d)) o_ne) o_nf) / 2 ^ d % 2 = 1)) = true then 3 else 0)) - (faP m_pl m_hm m_wk m_kd o_nf 31 (etQ o_nf o_ne m_kd (etQ o_nf o_ne m_kd g_f (nI a) (nI d)) (nI b) (nI d)) o_ne a)) + (nI (if (etB o_nf o_ne m_kd g_f (nI a) (nI d)) = true then 4 else 0)))) ((2 * k) + 1) (((nI (if (decide ((swP m_nd (mqP m_pl m_hm m_wk m_kd o_nf 31 (etQ o_nf o_ne m_kd (etQ o_nf o_ne m_kd g_f (nI a) (nI d)) (nI b) (nI d)) o_ne) o_nf) / 2 ^ d % 2 = 1)) = true then 3 else 0)) - (faP m_pl m_hm m_wk m_kd o_nf 31 (etQ o_nf o_ne m_kd (etQ o_nf o_ne m_kd g_f (nI a) (nI d)) (nI b) (nI d)) o_ne b)) + (nI (if (etB o_nf o_ne m_kd (etQ o_nf o_ne m_kd g_f (nI a) (nI d)) (nI b) (nI d)) = true then 4 else 0)))))) 10 nX6_rests_192 rfl (by omega) (by decide) rfl ?_
                      refine V_iinc (v := nI (k + 1)) (lv' := [(0, .ref (o_a 0)), (1, .int (nI a)), (2, .int (nI b)), (3, .int (nI d)), (4, .int w), (5, .int (nI (k + 1))), (6, .int (bI (etB o_nf o_ne m_kd g_f (nI a) (nI d)))), (7, .int (bI (etB o_nf o_ne m_kd (etQ o_nf o_ne m_kd g_f (nI a) (nI d)) (nI b) (nI d)))), (8, .int (nI (if (decide ((swP m_nd (mqP m_pl m_hm m_wk m_kd o_nf 31 (etQ o_nf o_ne m_kd (etQ o_nf o_ne m_kd g_f (nI a) (nI d)) (nI b) (nI d)) o_ne) o_nf) / 2 ^ d % 2 = 1)) = true then 3 else 0)))]) nX6_rests_193 rfl (nI_add k 1) (by decide) rfl ?_
                      refine V_goto (tgt := 53) nX6_rests_196 rfl ?_
                      refine V_pick (lv2 := [(0, .ref (o_a 0)), (1, .int (nI a)), (2, .int (nI b)), (3, .int (nI d)), (4, .int w), (5, .int (nI (k + 1)))]) [0, 1, 2, 3, 4, 5] rfl ?_
                      have hA : rqA o_nf o_ne m_kd g_f k a d = (etB o_nf o_ne m_kd g_f (nI a) (nI d)) := by unfold rqA; rw [decide_eq_true h66]; rfl
                      have hC : rqC o_nf o_ne m_kd g_f k a d = etQ o_nf o_ne m_kd g_f (nI a) (nI d) := if_pos h66
                      have hB : rqB o_nf o_ne m_kd g_f k a b d = (etB o_nf o_ne m_kd (etQ o_nf o_ne m_kd g_f (nI a) (nI d)) (nI b) (nI d)) := by unfold rqB; rw [hC, decide_eq_true h90]; rfl
                      have hD : rqD o_nf o_ne m_kd g_f k a b d = etQ o_nf o_ne m_kd (etQ o_nf o_ne m_kd g_f (nI a) (nI d)) (nI b) (nI d) := by unfold rqD; rw [if_pos h90, hC]
                      have q9 := ih (k + 1) (mqP m_pl m_hm m_wk m_kd o_nf 31 (etQ o_nf o_ne m_kd (etQ o_nf o_ne m_kd g_f (nI a) (nI d)) (nI b) (nI d)) o_ne) ((mrP m_pl m_hm m_wk m_kd o_nf 31 ((etQ o_nf o_ne m_kd (etQ o_nf o_ne m_kd g_f (nI a) (nI d)) (nI b) (nI d)), r, v) o_ne).2.1) ((mrP m_pl m_hm m_wk m_kd o_nf 31 ((etQ o_nf o_ne m_kd (etQ o_nf o_ne m_kd g_f (nI a) (nI d)) (nI b) (nI d)), r, v) o_ne).2.2) (by omega) (by omega)
                      rw [show rqZ o_nf o_ne m_pl m_nd m_hm m_wk m_kd g_f a b d n_f (k + 1) = upd (upd (rqZ o_nf o_ne m_pl m_nd m_hm m_wk m_kd g_f a b d n_f k) (2 * k) (rqG o_nf o_ne m_pl m_nd m_hm m_wk m_kd g_f k a b d (rqA o_nf o_ne m_kd g_f k a d) a)) (2 * k + 1) (rqG o_nf o_ne m_pl m_nd m_hm m_wk m_kd g_f k a b d (rqB o_nf o_ne m_kd g_f k a b d) b) from rfl, hA, hB] at q9
                      unfold rqG at q9
                      rw [hD] at q9
                      simp only [decide_eq_true_eq]
                      exact q9
            exact L53 _ 0 y_f r_f o_wf (Nat.lt_succ_self _) (by omega)
          · skip
            refine V_bipush (v := (-2)) nX6_rests_47 (by decide) ?_
            exact R_i rfl X hQ nX6_rests_49 (by simp only [List.map_append, wI_fst, wML_fst, wO_fst]) (⟨y_f, r_f, o_wf, n_f, o_rm, o_rs, by simp [rsM, hix_a, hp_a, hix_b, hp_b, hix_d, hp_d, hab, h44], rfl⟩)
      · skip
        have hn_d : hasN o_nf f = false := by rw [Bool.not_eq_true'] at h26; exact h26
        refine V_iconst (v := (-1)) nX6_rests_29 (by decide) ?_
        exact R_i rfl X hQ nX6_rests_30 (by simp only [List.map_append, wI_fst, wML_fst, wO_fst]) (⟨y_f, r_f, o_wf, n_f, o_rm, o_rs, by simp [rsM, hix_a, hp_a, hix_b, hp_b, hn_d], rfl⟩)

set_option maxHeartbeats 4000000 in
set_option maxRecDepth 100000 in
theorem c_X6_home (g : Gx) (l : Launch) (o_a : Nat → Nat) (o_th : Int32) (o_ts : Nat) (o_pl : Nat) (o_nf : Nat) (o_ne : Nat) (o_rf : Nat) (o_re : Nat) (o_ac : Nat) (o_cm : Nat) (o_sd : Int64) (o_wf : Int32) (o_sm : Int32) (o_sf : Int32) (o_rm : Int32) (o_rs : Int32) (m_pl : Nat → Int32) (m_yl : Nat → Int32) (m_nd : Nat → Int32) (m_hm : Nat → Int32) (m_wk : Nat → Int32) (m_kd : Nat → Int32) (g_f : Nat → Int32) (y_f : Nat → Int32) (r_f : Nat → Int32)  (x : Int32) (y : Int32) (u : Bool) (hnf : o_nf ≤ 4) (hne : o_ne ≤ 5) : Ct g l yX6_home mX6_home ({ frames := 5, cells := 0, slots := 0, locals := 120 } : Room) [.ref (o_a 0), .int x, .int y, .int (bI u)] ((wO g o_a o_th o_ts o_pl o_nf o_ne o_rf o_re o_ac o_cm o_sd o_wf o_sm o_sf o_rm o_rs) ++ (wML g o_a m_pl m_yl m_nd m_hm m_wk m_kd) ++ (wI g (o_a 10) 29 g_f) ++ (wI g (o_a 11) 29 y_f) ++ (wI g (o_a 17) 5 r_f)) (fun r w' => ∃ (z_y : Nat → Int32) (z_r : Nat → Int32) (z_w : Int32), r = (some (.int (hoR o_nf o_ne m_pl m_nd m_hm m_wk m_kd g_f x y u))) ∧ w' = (wO g o_a (nI 0) o_ts o_pl o_nf o_ne o_rf o_re o_ac o_cm o_sd z_w o_sm o_sf o_rm o_rs) ++ (wML g o_a m_pl m_yl m_nd m_hm m_wk m_kd) ++ (wI g (o_a 10) 29 g_f) ++ (wI g (o_a 11) 29 z_y) ++ (wI g (o_a 17) 5 z_r)) := by
  refine Ct.of (lv := [(0, .ref (o_a 0)), (1, .int x), (2, .int y), (3, .int (bI u))]) ⟨by decide +kernel, rfl, Nat.le_of_ble_eq_true rfl⟩ rfl (fun E A sz Q X hQ => ?_)
  have hp5 : 2 ^ o_ne ≤ 32 := Nat.le_trans (Nat.pow_le_pow_right (by omega) hne) (by decide)
  have hp1 : 1 ≤ 2 ^ o_ne := Nat.one_le_two_pow
  refine V_aload_n nX6_home_0 rfl ?_
  refine V_iconst (v := (nI 0)) nX6_home_1 rfl ?_
  refine V_put6 (ws' := (wO g o_a (nI 0) o_ts o_pl o_nf o_ne o_rf o_re o_ac o_cm o_sd o_wf o_sm o_sf o_rm o_rs) ++ (wML g o_a m_pl m_yl m_nd m_hm m_wk m_kd) ++ (wI g (o_a 10) 29 g_f) ++ (wI g (o_a 11) 29 y_f) ++ (wI g (o_a 17) 5 r_f)) 0 0 (by decide) f_RX6_68 rfl rfl rfl rfl nX6_home_2 rfl (Nat.le_of_ble_eq_true rfl) rfl ?_
  refine V_aload_n nX6_home_5 rfl ?_
  refine V_iload_n nX6_home_6 rfl ?_
  refine V_blk (ws' := ((wO g o_a (nI 0) o_ts o_pl o_nf o_ne o_rf o_re o_ac o_cm o_sd o_wf o_sm o_sf o_rm o_rs)) ++ ((wML g o_a m_pl m_yl m_nd m_hm m_wk m_kd) ++ (wI g (o_a 10) 29 g_f) ++ (wI g (o_a 11) 29 y_f) ++ (wI g (o_a 17) 5 r_f))) [wO g o_a (nI 0) o_ts o_pl o_nf o_ne o_rf o_re o_ac o_cm o_sd o_wf o_sm o_sf o_rm o_rs, wML g o_a m_pl m_yl m_nd m_hm m_wk m_kd, wI g (o_a 10) 29 g_f, wI g (o_a 11) 29 y_f, wI g (o_a 17) 5 r_f] [0, 1, 2, 3, 4] rfl (by simp only [List.flatten_cons, List.flatten_nil, List.append_nil, List.append_assoc]) (by show List.flatten [wO g o_a (nI 0) o_ts o_pl o_nf o_ne o_rf o_re o_ac o_cm o_sd o_wf o_sm o_sf o_rm o_rs, wML g o_a m_pl m_yl m_nd m_hm m_wk m_kd, wI g (o_a 10) 29 g_f, wI g (o_a 11) 29 y_f, wI g (o_a 17) 5 r_f] = _; simp only [List.flatten_cons, List.flatten_nil, List.append_nil, List.append_assoc]) ?_
  refine V_cVi (C := (RX6, TX6, 34)) (ci := 6) (ws' := ((wO g o_a (nI 0) o_ts o_pl o_nf o_ne o_rf o_re o_ac o_cm o_sd o_wf o_sm o_sf o_rm o_rs)) ++ ((wML g o_a m_pl m_yl m_nd m_hm m_wk m_kd) ++ (wI g (o_a 10) 29 g_f) ++ (wI g (o_a 11) 29 y_f) ++ (wI g (o_a 17) 5 r_f))) (List.range _) 1 X (c_X6_noField g l o_a (nI 0) o_ts o_pl o_nf o_ne o_rf o_re o_ac o_cm o_sd o_wf o_sm o_sf o_rm o_rs  x (by omega)) k_RX6_167 hy_X6_noField (by decide) (range_at _ _) (range_nd _) 0 rfl rfl nX6_home_7 rfl rfl (Nat.le_of_ble_eq_true rfl) (wput_range _ _ _ (by simp only [List.length_append, wO_len])) ?_
  refine V_blk (ws' := (wO g o_a (nI 0) o_ts o_pl o_nf o_ne o_rf o_re o_ac o_cm o_sd o_wf o_sm o_sf o_rm o_rs) ++ (wML g o_a m_pl m_yl m_nd m_hm m_wk m_kd) ++ (wI g (o_a 10) 29 g_f) ++ (wI g (o_a 11) 29 y_f) ++ (wI g (o_a 17) 5 r_f)) [wO g o_a (nI 0) o_ts o_pl o_nf o_ne o_rf o_re o_ac o_cm o_sd o_wf o_sm o_sf o_rm o_rs, wML g o_a m_pl m_yl m_nd m_hm m_wk m_kd, wI g (o_a 10) 29 g_f, wI g (o_a 11) 29 y_f, wI g (o_a 17) 5 r_f] [0, 1, 2, 3, 4] rfl (by simp only [List.flatten_cons, List.flatten_nil, List.append_nil, List.append_assoc]) (by show List.flatten [wO g o_a (nI 0) o_ts o_pl o_nf o_ne o_rf o_re o_ac o_cm o_sd o_wf o_sm o_sf o_rm o_rs, wML g o_a m_pl m_yl m_nd m_hm m_wk m_kd, wI g (o_a 10) 29 g_f, wI g (o_a 11) 29 y_f, wI g (o_a 17) 5 r_f] = _; simp only [List.flatten_cons, List.flatten_nil, List.append_nil, List.append_assoc]) ?_
  refine V_if_eq_b (tgt := 15) nX6_home_10 rfl (fun h10 => ?_) (fun h10 => ?_)
  · skip
    obtain ⟨a, hf_a, rfl⟩ := nhas h10 (by omega)
    have hix_a : ix (nI a) = a := ix_nI (by omega)
    have hp_a : hasN o_nf (nI a) = true := by rw [Bool.not_eq_false'] at h10; exact h10
    refine V_iload_n nX6_home_15 rfl ?_
    refine V_i2l nX6_home_16 rfl ?_
    refine V_lconst (v := lN 0) nX6_home_17 rfl ?_
    refine V_ldc2 (v := lN 10) ct_RX6_238 nX6_home_18 ?_
    refine V_cSi (ws' := (wO g o_a (nI 0) o_ts o_pl o_nf o_ne o_rf o_re o_ac o_cm o_sd o_wf o_sm o_sf o_rm o_rs) ++ (wML g o_a m_pl m_yl m_nd m_hm m_wk m_kd) ++ (wI g (o_a 10) 29 g_f) ++ (wI g (o_a 11) 29 y_f) ++ (wI g (o_a 17) 5 r_f)) [] 3 X (c_X6_in g l   (Int32.toInt64 y) (lN 0) (lN 10) ) k_RX6_75 hy_X6_in.2 (by decide) rfl (by decide) nX6_home_21 rfl rfl (Nat.le_of_ble_eq_true rfl) rfl ?_
    refine V_topb (b := rgB y 10) (congrArg bI (inL_rg (by decide) y)) ?_
    refine V_if_ne_b (tgt := 30) nX6_home_24 rfl (fun h24 => ?_) (fun h24 => ?_)
    · skip
      obtain ⟨m, hf_m, rfl⟩ := rg_t h24 (by decide)
      have hix_m : ix (nI m) = m := ix_nI (by omega)
      refine V_iconst (v := (nI 0)) nX6_home_30 rfl ?_
      refine V_istore (lv' := [(0, .ref (o_a 0)), (1, .int (nI a)), (2, .int (nI m)), (3, .int (bI u)), (4, .int (nI 0))]) nX6_home_31 (by decide) rfl ?_
      refine V_iconst (v := (nI 0)) nX6_home_33 rfl ?_
      refine V_istore (lv' := [(0, .ref (o_a 0)), (1, .int (nI a)), (2, .int (nI m)), (3, .int (bI u)), (4, .int (nI 0)), (5, .int (nI 0))]) nX6_home_34 (by decide) rfl ?_
      have L36 : ∀ (n : Nat) (v : Nat) (q : Nat → Int32) (r : Nat → Int32) (s : Int32), 2 ^ o_ne - v < n → v ≤ 2 ^ o_ne → V g E mX6_home A Q 0 0 ((wO g o_a (nI 0) o_ts o_pl o_nf o_ne o_rf o_re o_ac o_cm o_sd s o_sm o_sf o_rm o_rs) ++ (wML g o_a m_pl m_yl m_nd m_hm m_wk m_kd) ++ (wI g (o_a 10) 29 g_f) ++ (wI g (o_a 11) 29 q) ++ (wI g (o_a 17) 5 r)) 36 [(0, .ref (o_a 0)), (1, .int (nI a)), (2, .int (nI m)), (3, .int (bI u)), (4, .int (nI (hoA o_nf o_ne m_pl m_nd m_hm m_wk m_kd g_f a m v))), (5, .int (nI v))] [] := by
        intro n
        induction n with
        | zero => intro v q r s hm; exact absurd hm (Nat.not_lt_zero _)
        | succ n ih =>
          intro v q r s hm hv
          refine V_iload nX6_home_36 rfl ?_
          refine V_iconst (v := (nI 1)) nX6_home_38 rfl ?_
          refine V_aload_n nX6_home_39 rfl ?_
          refine V_get6 0 8 (by decide) f_RX6_79 nX6_home_40 rfl rfl ?_
          refine V_ishl (v := nI (2 ^ o_ne)) nX6_home_43 (nI_shl1 (by omega)) ?_
          refine V_icmp_ge_N (tgt := 108) nX6_home_44 rfl (by omega) (by omega) (fun h44 => ?_) (fun h44 => ?_)
          · skip
            have hvx : v = 2 ^ o_ne := by omega
            have hsl := hoA_le (nf := o_nf) hne m_pl m_nd m_hm m_wk m_kd g_f a hf_m v hv
            refine V_iload nX6_home_108 rfl ?_
            refine V_bipush (v := (nI 10)) nX6_home_110 (by decide) ?_
            refine V_aload_n nX6_home_112 rfl ?_
            refine V_get6 0 8 (by decide) f_RX6_79 nX6_home_113 rfl rfl ?_
            refine V_cSi (ws' := (wO g o_a (nI 0) o_ts o_pl o_nf o_ne o_rf o_re o_ac o_cm o_sd s o_sm o_sf o_rm o_rs) ++ (wML g o_a m_pl m_yl m_nd m_hm m_wk m_kd) ++ (wI g (o_a 10) 29 g_f) ++ (wI g (o_a 11) 29 q) ++ (wI g (o_a 17) 5 r)) [] 2 X (c_X6_power g l   10 o_ne (by omega)) k_RX6_240 hy_X6_power.2 (by decide) rfl (by decide) nX6_home_116 rfl rfl (Nat.le_of_ble_eq_true rfl) rfl ?_
            refine V_iload_n nX6_home_119 rfl ?_
            refine V_cSi (ws' := (wO g o_a (nI 0) o_ts o_pl o_nf o_ne o_rf o_re o_ac o_cm o_sd s o_sm o_sf o_rm o_rs) ++ (wML g o_a m_pl m_yl m_nd m_hm m_wk m_kd) ++ (wI g (o_a 10) 29 g_f) ++ (wI g (o_a 11) 29 q) ++ (wI g (o_a 17) 5 r)) [] 3 X (c_X6_fraction g l   (hoA o_nf o_ne m_pl m_nd m_hm m_wk m_kd g_f a m v) (10 ^ o_ne) u (by omega) (Nat.lt_of_le_of_lt (Nat.pow_le_pow_right (by decide) hne) (by decide)) (Nat.pow_pos (by decide))) k_RX6_222 hy_X6_fraction.2 (by decide) rfl (by decide) nX6_home_120 rfl rfl (Nat.le_of_ble_eq_true rfl) rfl ?_
            exact R_i rfl X hQ nX6_home_123 (by simp only [List.map_append, wI_fst, wML_fst, wO_fst]) (⟨q, r, s, by rw [show hoR o_nf o_ne m_pl m_nd m_hm m_wk m_kd g_f (nI a) (nI m) u = _ from (if_pos hp_a).trans (if_pos h24), hix_a, hix_m, hvx], rfl⟩)
          · skip
            have hbl := bc_le o_ne hne v h44
            refine V_iload nX6_home_47 rfl ?_
            refine V_cSi (ws' := (wO g o_a (nI 0) o_ts o_pl o_nf o_ne o_rf o_re o_ac o_cm o_sd s o_sm o_sf o_rm o_rs) ++ (wML g o_a m_pl m_yl m_nd m_hm m_wk m_kd) ++ (wI g (o_a 10) 29 g_f) ++ (wI g (o_a 11) 29 q) ++ (wI g (o_a 17) 5 r)) [] 1 X (c_X6_many g l   v (by omega)) k_RX6_196 hy_X6_many.2 (by decide) rfl (by decide) nX6_home_49 rfl rfl (Nat.le_of_ble_eq_true rfl) rfl ?_
            refine V_istore (lv' := [(0, .ref (o_a 0)), (1, .int (nI a)), (2, .int (nI m)), (3, .int (bI u)), (4, .int (nI (hoA o_nf o_ne m_pl m_nd m_hm m_wk m_kd g_f a m v))), (5, .int (nI v)), (6, .int (nI (bcN v)))]) nX6_home_52 (by decide) rfl ?_
            refine V_iload nX6_home_54 rfl ?_
            refine V_aload_n nX6_home_56 rfl ?_
            refine V_bipush (v := (nI 31)) nX6_home_57 (by decide) ?_
            refine V_iload nX6_home_59 rfl ?_
            refine V_iconst (v := (-1)) nX6_home_61 (by decide) ?_
            refine V_ixor (v := (nI v) ^^^ (-1)) nX6_home_62 rfl ?_
            refine V_iand (v := (nI 31) &&& ((nI v) ^^^ (-1))) nX6_home_63 rfl ?_
            refine V_top (y := nI (31 - v)) (co31 v (by omega)) ?_
            refine V_blk (ws' := ((wO g o_a (nI 0) o_ts o_pl o_nf o_ne o_rf o_re o_ac o_cm o_sd s o_sm o_sf o_rm o_rs) ++ (wML g o_a m_pl m_yl m_nd m_hm m_wk m_kd) ++ (wI g (o_a 10) 29 g_f) ++ (wI g (o_a 11) 29 q) ++ (wI g (o_a 17) 5 r)) ++ ([] : va_W)) [wO g o_a (nI 0) o_ts o_pl o_nf o_ne o_rf o_re o_ac o_cm o_sd s o_sm o_sf o_rm o_rs, wML g o_a m_pl m_yl m_nd m_hm m_wk m_kd, wI g (o_a 10) 29 g_f, wI g (o_a 11) 29 q, wI g (o_a 17) 5 r] [0, 1, 2, 3, 4] rfl (by simp only [List.flatten_cons, List.flatten_nil, List.append_nil, List.append_assoc]) (by show List.flatten [wO g o_a (nI 0) o_ts o_pl o_nf o_ne o_rf o_re o_ac o_cm o_sd s o_sm o_sf o_rm o_rs, wML g o_a m_pl m_yl m_nd m_hm m_wk m_kd, wI g (o_a 10) 29 g_f, wI g (o_a 11) 29 q, wI g (o_a 17) 5 r] = _; simp only [List.flatten_cons, List.flatten_nil, List.append_nil, List.append_assoc]) ?_
            refine V_cVi (C := (RX6, TX6, 34)) (ci := 6) (ws' := ((wO g o_a (nI 0) o_ts o_pl o_nf o_ne o_rf o_re o_ac o_cm o_sd ((mrP m_pl m_hm m_wk m_kd o_nf (31 - v) (g_f, r, s) o_ne).2.2) o_sm o_sf o_rm o_rs) ++ (wML g o_a m_pl m_yl m_nd m_hm m_wk m_kd) ++ (wI g (o_a 10) 29 g_f) ++ (wI g (o_a 11) 29 (mqP m_pl m_hm m_wk m_kd o_nf (31 - v) g_f o_ne)) ++ (wI g (o_a 17) 5 ((mrP m_pl m_hm m_wk m_kd o_nf (31 - v) (g_f, r, s) o_ne).2.1))) ++ ([] : va_W)) (List.range _) 1 X (c_X6_marched g l o_a (nI 0) o_ts o_pl o_nf o_ne o_rf o_re o_ac o_cm o_sd s o_sm o_sf o_rm o_rs m_pl m_yl m_nd m_hm m_wk m_kd g_f q r  (31 - v) (by omega) (by omega) (by omega)) k_RX6_161 hy_X6_marched (by decide) (range_at _ _) (range_nd _) 0 rfl rfl nX6_home_64 rfl rfl (Nat.le_of_ble_eq_true rfl) (wput_range _ _ _ (by simp only [List.length_append, wI_len, wML_len, wO_len])) ?_
            refine V_blk (ws' := (wO g o_a (nI 0) o_ts o_pl o_nf o_ne o_rf o_re o_ac o_cm o_sd ((mrP m_pl m_hm m_wk m_kd o_nf (31 - v) (g_f, r, s) o_ne).2.2) o_sm o_sf o_rm o_rs) ++ (wML g o_a m_pl m_yl m_nd m_hm m_wk m_kd) ++ (wI g (o_a 10) 29 g_f) ++ (wI g (o_a 11) 29 (mqP m_pl m_hm m_wk m_kd o_nf (31 - v) g_f o_ne)) ++ (wI g (o_a 17) 5 ((mrP m_pl m_hm m_wk m_kd o_nf (31 - v) (g_f, r, s) o_ne).2.1))) [wO g o_a (nI 0) o_ts o_pl o_nf o_ne o_rf o_re o_ac o_cm o_sd ((mrP m_pl m_hm m_wk m_kd o_nf (31 - v) (g_f, r, s) o_ne).2.2) o_sm o_sf o_rm o_rs, wML g o_a m_pl m_yl m_nd m_hm m_wk m_kd, wI g (o_a 10) 29 g_f, wI g (o_a 11) 29 (mqP m_pl m_hm m_wk m_kd o_nf (31 - v) g_f o_ne), wI g (o_a 17) 5 ((mrP m_pl m_hm m_wk m_kd o_nf (31 - v) (g_f, r, s) o_ne).2.1)] [0, 1, 2, 3, 4] rfl (by simp only [List.flatten_cons, List.flatten_nil, List.append_nil, List.append_assoc]) (by show List.flatten [wO g o_a (nI 0) o_ts o_pl o_nf o_ne o_rf o_re o_ac o_cm o_sd ((mrP m_pl m_hm m_wk m_kd o_nf (31 - v) (g_f, r, s) o_ne).2.2) o_sm o_sf o_rm o_rs, wML g o_a m_pl m_yl m_nd m_hm m_wk m_kd, wI g (o_a 10) 29 g_f, wI g (o_a 11) 29 (mqP m_pl m_hm m_wk m_kd o_nf (31 - v) g_f o_ne), wI g (o_a 17) 5 ((mrP m_pl m_hm m_wk m_kd o_nf (31 - v) (g_f, r, s) o_ne).2.1)] = _; simp only [List.flatten_cons, List.flatten_nil, List.append_nil, List.append_assoc]) ?_
            refine V_iload_n nX6_home_67 rfl ?_
            refine V_cSi (ws' := (wO g o_a (nI 0) o_ts o_pl o_nf o_ne o_rf o_re o_ac o_cm o_sd ((mrP m_pl m_hm m_wk m_kd o_nf (31 - v) (g_f, r, s) o_ne).2.2) o_sm o_sf o_rm o_rs) ++ (wML g o_a m_pl m_yl m_nd m_hm m_wk m_kd) ++ (wI g (o_a 10) 29 g_f) ++ (wI g (o_a 11) 29 (mqP m_pl m_hm m_wk m_kd o_nf (31 - v) g_f o_ne)) ++ (wI g (o_a 17) 5 ((mrP m_pl m_hm m_wk m_kd o_nf (31 - v) (g_f, r, s) o_ne).2.1))) [] 2 X (c_X6_has g l   (swP m_nd (mqP m_pl m_hm m_wk m_kd o_nf (31 - v) g_f o_ne) o_nf) a (Nat.lt_trans (swP_lt hnf _ _) (by decide)) (by omega)) k_RX6_134 hy_X6_has.2 (by decide) rfl (by decide) nX6_home_68 rfl rfl (Nat.le_of_ble_eq_true rfl) rfl ?_
            refine V_if_eq_b (tgt := 98) nX6_home_71 rfl (fun h71 => ?_) (fun h71 => ?_)
            · skip
              refine V_iconst (v := (nI 0)) nX6_home_98 rfl ?_
              refine V_iadd (v := nI ((hoA o_nf o_ne m_pl m_nd m_hm m_wk m_kd g_f a m v) + 0)) nX6_home_99 (nI_add (hoA o_nf o_ne m_pl m_nd m_hm m_wk m_kd g_f a m v) 0) ?_
              refine V_istore (lv' := [(0, .ref (o_a 0)), (1, .int (nI a)), (2, .int (nI m)), (3, .int (bI u)), (4, .int (nI ((hoA o_nf o_ne m_pl m_nd m_hm m_wk m_kd g_f a m v) + 0))), (5, .int (nI v)), (6, .int (nI (bcN v)))]) nX6_home_100 (by decide) rfl ?_
              refine V_iinc (v := nI (v + 1)) (lv' := [(0, .ref (o_a 0)), (1, .int (nI a)), (2, .int (nI m)), (3, .int (bI u)), (4, .int (nI ((hoA o_nf o_ne m_pl m_nd m_hm m_wk m_kd g_f a m v) + 0))), (5, .int (nI (v + 1))), (6, .int (nI (bcN v)))]) nX6_home_102 rfl (nI_add v 1) (by decide) rfl ?_
              refine V_goto (tgt := 36) nX6_home_105 rfl ?_
              refine V_pick (lv2 := [(0, .ref (o_a 0)), (1, .int (nI a)), (2, .int (nI m)), (3, .int (bI u)), (4, .int (nI ((hoA o_nf o_ne m_pl m_nd m_hm m_wk m_kd g_f a m v) + 0))), (5, .int (nI (v + 1)))]) [0, 1, 2, 3, 4, 5] rfl ?_
              have q9 := ih (v + 1) (mqP m_pl m_hm m_wk m_kd o_nf (31 - v) g_f o_ne) ((mrP m_pl m_hm m_wk m_kd o_nf (31 - v) (g_f, r, s) o_ne).2.1) ((mrP m_pl m_hm m_wk m_kd o_nf (31 - v) (g_f, r, s) o_ne).2.2) (by omega) (by omega)
              rw [show hoA o_nf o_ne m_pl m_nd m_hm m_wk m_kd g_f a m (v + 1) = hoA o_nf o_ne m_pl m_nd m_hm m_wk m_kd g_f a m v + hoT o_nf o_ne m_pl m_nd m_hm m_wk m_kd g_f a m v from rfl, hoT_f h71] at q9
              exact q9
            · skip
              refine V_iload_n nX6_home_74 rfl ?_
              refine V_iload nX6_home_75 rfl ?_
              refine V_cSi (ws' := (wO g o_a (nI 0) o_ts o_pl o_nf o_ne o_rf o_re o_ac o_cm o_sd ((mrP m_pl m_hm m_wk m_kd o_nf (31 - v) (g_f, r, s) o_ne).2.2) o_sm o_sf o_rm o_rs) ++ (wML g o_a m_pl m_yl m_nd m_hm m_wk m_kd) ++ (wI g (o_a 10) 29 g_f) ++ (wI g (o_a 11) 29 (mqP m_pl m_hm m_wk m_kd o_nf (31 - v) g_f o_ne)) ++ (wI g (o_a 17) 5 ((mrP m_pl m_hm m_wk m_kd o_nf (31 - v) (g_f, r, s) o_ne).2.1))) [] 2 X (c_X6_power g l   m (bcN v) (by have := bcN_le v; omega)) k_RX6_240 hy_X6_power.2 (by decide) rfl (by decide) nX6_home_77 rfl rfl (Nat.le_of_ble_eq_true rfl) rfl ?_
              refine V_bipush (v := (nI 10)) nX6_home_80 (by decide) ?_
              refine V_iload_n nX6_home_82 rfl ?_
              refine V_isub (v := nI (10 - m)) nX6_home_83 (pk_sub (by omega)) ?_
              refine V_aload_n nX6_home_84 rfl ?_
              refine V_get6 0 8 (by decide) f_RX6_79 nX6_home_85 rfl rfl ?_
              refine V_iload nX6_home_88 rfl ?_
              refine V_isub (v := nI (o_ne - (bcN v))) nX6_home_90 (pk_sub (hbl)) ?_
              refine V_cSi (ws' := (wO g o_a (nI 0) o_ts o_pl o_nf o_ne o_rf o_re o_ac o_cm o_sd ((mrP m_pl m_hm m_wk m_kd o_nf (31 - v) (g_f, r, s) o_ne).2.2) o_sm o_sf o_rm o_rs) ++ (wML g o_a m_pl m_yl m_nd m_hm m_wk m_kd) ++ (wI g (o_a 10) 29 g_f) ++ (wI g (o_a 11) 29 (mqP m_pl m_hm m_wk m_kd o_nf (31 - v) g_f o_ne)) ++ (wI g (o_a 17) 5 ((mrP m_pl m_hm m_wk m_kd o_nf (31 - v) (g_f, r, s) o_ne).2.1))) [] 2 X (c_X6_power g l   (10 - m) (o_ne - (bcN v)) (by omega)) k_RX6_240 hy_X6_power.2 (by decide) rfl (by decide) nX6_home_91 rfl rfl (Nat.le_of_ble_eq_true rfl) rfl ?_
              refine V_imul (v := nI ((m ^ (bcN v)) * ((10 - m) ^ (o_ne - (bcN v))))) nX6_home_94 (pk_mul (m ^ (bcN v)) ((10 - m) ^ (o_ne - (bcN v)))) ?_
              refine V_goto (tgt := 99) nX6_home_95 rfl ?_
              refine V_iadd (v := nI ((hoA o_nf o_ne m_pl m_nd m_hm m_wk m_kd g_f a m v) + ((m ^ (bcN v)) * ((10 - m) ^ (o_ne - (bcN v)))))) nX6_home_99 (nI_add (hoA o_nf o_ne m_pl m_nd m_hm m_wk m_kd g_f a m v) ((m ^ (bcN v)) * ((10 - m) ^ (o_ne - (bcN v))))) ?_
              refine V_istore (lv' := [(0, .ref (o_a 0)), (1, .int (nI a)), (2, .int (nI m)), (3, .int (bI u)), (4, .int (nI ((hoA o_nf o_ne m_pl m_nd m_hm m_wk m_kd g_f a m v) + ((m ^ (bcN v)) * ((10 - m) ^ (o_ne - (bcN v))))))), (5, .int (nI v)), (6, .int (nI (bcN v)))]) nX6_home_100 (by decide) rfl ?_
              refine V_iinc (v := nI (v + 1)) (lv' := [(0, .ref (o_a 0)), (1, .int (nI a)), (2, .int (nI m)), (3, .int (bI u)), (4, .int (nI ((hoA o_nf o_ne m_pl m_nd m_hm m_wk m_kd g_f a m v) + ((m ^ (bcN v)) * ((10 - m) ^ (o_ne - (bcN v))))))), (5, .int (nI (v + 1))), (6, .int (nI (bcN v)))]) nX6_home_102 rfl (nI_add v 1) (by decide) rfl ?_
              refine V_goto (tgt := 36) nX6_home_105 rfl ?_
              refine V_pick (lv2 := [(0, .ref (o_a 0)), (1, .int (nI a)), (2, .int (nI m)), (3, .int (bI u)), (4, .int (nI ((hoA o_nf o_ne m_pl m_nd m_hm m_wk m_kd g_f a m v) + ((m ^ (bcN v)) * ((10 - m) ^ (o_ne - (bcN v))))))), (5, .int (nI (v + 1)))]) [0, 1, 2, 3, 4, 5] rfl ?_
              have q9 := ih (v + 1) (mqP m_pl m_hm m_wk m_kd o_nf (31 - v) g_f o_ne) ((mrP m_pl m_hm m_wk m_kd o_nf (31 - v) (g_f, r, s) o_ne).2.1) ((mrP m_pl m_hm m_wk m_kd o_nf (31 - v) (g_f, r, s) o_ne).2.2) (by omega) (by omega)
              rw [show hoA o_nf o_ne m_pl m_nd m_hm m_wk m_kd g_f a m (v + 1) = hoA o_nf o_ne m_pl m_nd m_hm m_wk m_kd g_f a m v + hoT o_nf o_ne m_pl m_nd m_hm m_wk m_kd g_f a m v from rfl, hoT_t h71] at q9
              exact q9
      exact L36 _ 0 y_f r_f o_wf (Nat.lt_succ_self _) (by omega)
    · skip
      refine V_bipush (v := (-2)) nX6_home_27 (by decide) ?_
      exact R_i rfl X hQ nX6_home_29 (by simp only [List.map_append, wI_fst, wML_fst, wO_fst]) (⟨y_f, r_f, o_wf, by simp [hoR, hix_a, hp_a, h24], rfl⟩)
  · skip
    have hn_a : hasN o_nf x = false := by rw [Bool.not_eq_true'] at h10; exact h10
    refine V_iconst (v := (-1)) nX6_home_13 (by decide) ?_
    exact R_i rfl X hQ nX6_home_14 (by simp only [List.map_append, wI_fst, wML_fst, wO_fst]) (⟨y_f, r_f, o_wf, by simp [hoR, hn_a], rfl⟩)

set_option maxHeartbeats 4000000 in
set_option maxRecDepth 100000 in
theorem c_X6_years (g : Gx) (l : Launch) (o_a : Nat → Nat) (o_th : Int32) (o_ts : Nat) (o_pl : Nat) (o_nf : Nat) (o_ne : Nat) (o_rf : Nat) (o_re : Nat) (o_ac : Nat) (o_cm : Nat) (o_sd : Int64) (o_wf : Int32) (o_sm : Int32) (o_sf : Int32) (o_rm : Int32) (o_rs : Int32) (m_pl : Nat → Int32) (m_yl : Nat → Int32) (m_nd : Nat → Int32) (m_hm : Nat → Int32) (m_wk : Nat → Int32) (m_kd : Nat → Int32) (g_f : Nat → Int32) (y_f : Nat → Int32) (r_f : Nat → Int32)  (y : Int32) (hnf : o_nf ≤ 4) (hne : o_ne ≤ 5) : Ct g l yX6_years mX6_years ({ frames := 5, cells := 0, slots := 0, locals := 123 } : Room) [.ref (o_a 0), .int y] ((wO g o_a o_th o_ts o_pl o_nf o_ne o_rf o_re o_ac o_cm o_sd o_wf o_sm o_sf o_rm o_rs) ++ (wML g o_a m_pl m_yl m_nd m_hm m_wk m_kd) ++ (wI g (o_a 10) 29 g_f) ++ (wI g (o_a 11) 29 y_f) ++ (wI g (o_a 17) 5 r_f)) (fun r w' => ∃ (z_y : Nat → Int32) (z_r : Nat → Int32) (z_w : Int32), r = (some (.int (yeM o_nf o_ne m_pl m_yl m_nd m_hm m_wk m_kd o_sd g_f y))) ∧ w' = (wO g o_a (nI 0) o_ts o_pl o_nf o_ne o_rf o_re o_ac o_cm (if yeOk y = true then (yrM o_nf o_ne m_pl m_yl m_nd m_hm m_wk m_kd o_sd g_f (ix y)).1 else o_sd) z_w o_sm o_sf o_rm o_rs) ++ (wML g o_a m_pl m_yl m_nd m_hm m_wk m_kd) ++ (wI g (o_a 10) 29 g_f) ++ (wI g (o_a 11) 29 z_y) ++ (wI g (o_a 17) 5 z_r)) := by
  refine Ct.of (lv := [(0, .ref (o_a 0)), (1, .int y)]) ⟨by decide +kernel, rfl, Nat.le_of_ble_eq_true rfl⟩ rfl (fun E A sz Q X hQ => ?_)
  refine V_aload_n nX6_years_0 rfl ?_
  refine V_iconst (v := (nI 0)) nX6_years_1 rfl ?_
  refine V_put6 (ws' := (wO g o_a (nI 0) o_ts o_pl o_nf o_ne o_rf o_re o_ac o_cm o_sd o_wf o_sm o_sf o_rm o_rs) ++ (wML g o_a m_pl m_yl m_nd m_hm m_wk m_kd) ++ (wI g (o_a 10) 29 g_f) ++ (wI g (o_a 11) 29 y_f) ++ (wI g (o_a 17) 5 r_f)) 0 0 (by decide) f_RX6_68 rfl rfl rfl rfl nX6_years_2 rfl (Nat.le_of_ble_eq_true rfl) rfl ?_
  refine V_iload_n nX6_years_5 rfl ?_
  refine V_i2l nX6_years_6 rfl ?_
  refine V_lconst (v := lN 1) nX6_years_7 rfl ?_
  refine V_ldc2 (v := lN 30) ct_RX6_247 nX6_years_8 ?_
  refine V_cSi (ws' := (wO g o_a (nI 0) o_ts o_pl o_nf o_ne o_rf o_re o_ac o_cm o_sd o_wf o_sm o_sf o_rm o_rs) ++ (wML g o_a m_pl m_yl m_nd m_hm m_wk m_kd) ++ (wI g (o_a 10) 29 g_f) ++ (wI g (o_a 11) 29 y_f) ++ (wI g (o_a 17) 5 r_f)) [] 3 X (c_X6_in g l   (Int32.toInt64 y) (lN 1) (lN 30) ) k_RX6_75 hy_X6_in.2 (by decide) rfl (by decide) nX6_years_11 rfl rfl (Nat.le_of_ble_eq_true rfl) rfl ?_
  refine V_topb (b := yeOk y) (congrArg bI (inL_ye y)) ?_
  refine V_if_ne_b (tgt := 20) nX6_years_14 rfl (fun h14 => ?_) (fun h14 => ?_)
  · skip
    obtain ⟨m, hf_m, rfl⟩ := ye_n h14
    have hix_m : ix (nI m) = m := ix_nI (by omega)
    refine V_aload_n nX6_years_20 rfl ?_
    refine V_blk (ws' := ((wO g o_a (nI 0) o_ts o_pl o_nf o_ne o_rf o_re o_ac o_cm o_sd o_wf o_sm o_sf o_rm o_rs) ++ (wI g (o_a 10) 29 g_f) ++ (wI g (o_a 11) 29 y_f)) ++ ((wML g o_a m_pl m_yl m_nd m_hm m_wk m_kd) ++ (wI g (o_a 17) 5 r_f))) [wO g o_a (nI 0) o_ts o_pl o_nf o_ne o_rf o_re o_ac o_cm o_sd o_wf o_sm o_sf o_rm o_rs, wML g o_a m_pl m_yl m_nd m_hm m_wk m_kd, wI g (o_a 10) 29 g_f, wI g (o_a 11) 29 y_f, wI g (o_a 17) 5 r_f] [0, 2, 3, 1, 4] rfl (by simp only [List.flatten_cons, List.flatten_nil, List.append_nil, List.append_assoc]) (by show List.flatten [wO g o_a (nI 0) o_ts o_pl o_nf o_ne o_rf o_re o_ac o_cm o_sd o_wf o_sm o_sf o_rm o_rs, wI g (o_a 10) 29 g_f, wI g (o_a 11) 29 y_f, wML g o_a m_pl m_yl m_nd m_hm m_wk m_kd, wI g (o_a 17) 5 r_f] = _; simp only [List.flatten_cons, List.flatten_nil, List.append_nil, List.append_assoc]) ?_
    refine V_cVv (C := (RX6, TX6, 34)) (ci := 6) (ws' := ((wO g o_a (nI 0) o_ts o_pl o_nf o_ne o_rf o_re o_ac o_cm o_sd o_wf o_sm o_sf o_rm o_rs) ++ (wI g (o_a 10) 29 g_f) ++ (wI g (o_a 11) 29 g_f)) ++ ((wML g o_a m_pl m_yl m_nd m_hm m_wk m_kd) ++ (wI g (o_a 17) 5 r_f))) (List.range _) 0 X (c_X6_begin g l o_a (nI 0) o_ts o_pl o_nf o_ne o_rf o_re o_ac o_cm o_sd o_wf o_sm o_sf o_rm o_rs g_f y_f   ) k_RX6_152 hy_X6_begin (by decide) (range_at _ _) (range_nd _) 0 rfl rfl nX6_years_21 rfl rfl (Nat.le_of_ble_eq_true rfl) (wput_range _ _ _ (by simp only [List.length_append, wI_len, wO_len])) ?_
    refine V_blk (ws' := (wO g o_a (nI 0) o_ts o_pl o_nf o_ne o_rf o_re o_ac o_cm o_sd o_wf o_sm o_sf o_rm o_rs) ++ (wML g o_a m_pl m_yl m_nd m_hm m_wk m_kd) ++ (wI g (o_a 10) 29 g_f) ++ (wI g (o_a 11) 29 g_f) ++ (wI g (o_a 17) 5 r_f)) [wO g o_a (nI 0) o_ts o_pl o_nf o_ne o_rf o_re o_ac o_cm o_sd o_wf o_sm o_sf o_rm o_rs, wI g (o_a 10) 29 g_f, wI g (o_a 11) 29 g_f, wML g o_a m_pl m_yl m_nd m_hm m_wk m_kd, wI g (o_a 17) 5 r_f] [0, 3, 1, 2, 4] rfl (by simp only [List.flatten_cons, List.flatten_nil, List.append_nil, List.append_assoc]) (by show List.flatten [wO g o_a (nI 0) o_ts o_pl o_nf o_ne o_rf o_re o_ac o_cm o_sd o_wf o_sm o_sf o_rm o_rs, wML g o_a m_pl m_yl m_nd m_hm m_wk m_kd, wI g (o_a 10) 29 g_f, wI g (o_a 11) 29 g_f, wI g (o_a 17) 5 r_f] = _; simp only [List.flatten_cons, List.flatten_nil, List.append_nil, List.append_assoc]) ?_
    refine V_iconst (v := (nI 0)) nX6_years_24 rfl ?_
    refine V_istore_n (lv' := [(0, .ref (o_a 0)), (1, .int (nI m)), (2, .int (nI 0))]) nX6_years_25 (by decide) rfl ?_
    refine V_iconst (v := (nI 0)) nX6_years_26 rfl ?_
    refine V_istore_n (lv' := [(0, .ref (o_a 0)), (1, .int (nI m)), (2, .int (nI 0)), (3, .int (nI 0))]) nX6_years_27 (by decide) rfl ?_
    have L28 : ∀ (n : Nat) (t : Nat) (r : Nat → Int32) (v : Int32), m - t < n → t ≤ m → V g E mX6_years A Q 0 0 ((wO g o_a (nI 0) o_ts o_pl o_nf o_ne o_rf o_re o_ac o_cm ((yrM o_nf o_ne m_pl m_yl m_nd m_hm m_wk m_kd o_sd g_f t).1) v o_sm o_sf o_rm o_rs) ++ (wML g o_a m_pl m_yl m_nd m_hm m_wk m_kd) ++ (wI g (o_a 10) 29 g_f) ++ (wI g (o_a 11) 29 ((yrM o_nf o_ne m_pl m_yl m_nd m_hm m_wk m_kd o_sd g_f t).2.1)) ++ (wI g (o_a 17) 5 r)) 28 [(0, .ref (o_a 0)), (1, .int (nI m)), (2, .int ((yrM o_nf o_ne m_pl m_yl m_nd m_hm m_wk m_kd o_sd g_f t).2.2)), (3, .int (nI t))] [] := by
      intro n
      induction n with
      | zero => intro t r v hm; exact absurd hm (Nat.not_lt_zero _)
      | succ n ih =>
        intro t r v hm ht
        have hlq := Nat.mod_lt (lotQ (nxS (yrM o_nf o_ne m_pl m_yl m_nd m_hm m_wk m_kd o_sd g_f t).1)) (show 28 > 0 by decide)
        refine V_iload_n nX6_years_28 rfl ?_
        refine V_iload_n nX6_years_29 rfl ?_
        refine V_icmp_ge_N (tgt := 123) nX6_years_30 rfl (by omega) (by omega) (fun h30 => ?_) (fun h30 => ?_)
        · skip
          have hx_t : m = t := by omega
          subst hx_t
          refine V_iload_n nX6_years_123 rfl ?_
          exact R_i rfl X hQ nX6_years_124 (by simp only [List.map_append, wI_fst, wML_fst, wO_fst]) (⟨(yrM o_nf o_ne m_pl m_yl m_nd m_hm m_wk m_kd o_sd g_f m).2.1, r, v, by simp [yeM, h14, hix_m], by simp [h14, hix_m]⟩)
        · skip
          refine V_aload_n nX6_years_33 rfl ?_
          refine V_aload_n nX6_years_34 rfl ?_
          refine V_get6 0 25 (by decide) f_RX6_243 nX6_years_35 rfl rfl ?_
          refine V_ldc2 ct_RX6_249 nX6_years_38 ?_
          refine V_lmul (v := ((yrM o_nf o_ne m_pl m_yl m_nd m_hm m_wk m_kd o_sd g_f t).1) * (6364136223846793005 : Int64)) nX6_years_41 rfl ?_
          refine V_ldc2 ct_RX6_251 nX6_years_42 ?_
          refine V_ladd (v := (((yrM o_nf o_ne m_pl m_yl m_nd m_hm m_wk m_kd o_sd g_f t).1) * (6364136223846793005 : Int64)) + (1442695040888963407 : Int64)) nX6_years_45 rfl ?_
          refine V_put6 (ws' := (wO g o_a (nI 0) o_ts o_pl o_nf o_ne o_rf o_re o_ac o_cm ((((yrM o_nf o_ne m_pl m_yl m_nd m_hm m_wk m_kd o_sd g_f t).1) * (6364136223846793005 : Int64)) + (1442695040888963407 : Int64)) v o_sm o_sf o_rm o_rs) ++ (wML g o_a m_pl m_yl m_nd m_hm m_wk m_kd) ++ (wI g (o_a 10) 29 g_f) ++ (wI g (o_a 11) 29 ((yrM o_nf o_ne m_pl m_yl m_nd m_hm m_wk m_kd o_sd g_f t).2.1)) ++ (wI g (o_a 17) 5 r)) 0 25 (by decide) f_RX6_243 rfl rfl rfl rfl nX6_years_46 rfl (Nat.le_of_ble_eq_true rfl) rfl ?_
          refine V_ws (ws' := (wO g o_a (nI 0) o_ts o_pl o_nf o_ne o_rf o_re o_ac o_cm (nxS (yrM o_nf o_ne m_pl m_yl m_nd m_hm m_wk m_kd o_sd g_f t).1) v o_sm o_sf o_rm o_rs) ++ (wML g o_a m_pl m_yl m_nd m_hm m_wk m_kd) ++ (wI g (o_a 10) 29 g_f) ++ (wI g (o_a 11) 29 ((yrM o_nf o_ne m_pl m_yl m_nd m_hm m_wk m_kd o_sd g_f t).2.1)) ++ (wI g (o_a 17) 5 r)) rfl ?_
          refine V_aload_n nX6_years_49 rfl ?_
          refine V_get6 0 25 (by decide) f_RX6_243 nX6_years_50 rfl rfl ?_
          refine V_bipush (v := (nI 33)) nX6_years_53 (by decide) ?_
          refine V_lushr (v := lN (lotQ (nxS (yrM o_nf o_ne m_pl m_yl m_nd m_hm m_wk m_kd o_sd g_f t).1))) nX6_years_55 (lotQ_eq (nxS (yrM o_nf o_ne m_pl m_yl m_nd m_hm m_wk m_kd o_sd g_f t).1)) ?_
          refine V_ldc2 (v := lN 28) ct_RX6_253 nX6_years_56 ?_
          refine V_lrem (v := lN ((lotQ (nxS (yrM o_nf o_ne m_pl m_yl m_nd m_hm m_wk m_kd o_sd g_f t).1)) % 28)) nX6_years_59 (lN_ne0 (by decide) (by decide)) (pk_lRem (Nat.lt_trans (lotQ_lt _) (by decide)) (by decide) (by decide)) ?_
          refine V_l2i (v := nI ((lotQ (nxS (yrM o_nf o_ne m_pl m_yl m_nd m_hm m_wk m_kd o_sd g_f t).1)) % 28)) nX6_years_60 (lN_i ((lotQ (nxS (yrM o_nf o_ne m_pl m_yl m_nd m_hm m_wk m_kd o_sd g_f t).1)) % 28)) ?_
          refine V_istore (lv' := [(0, .ref (o_a 0)), (1, .int (nI m)), (2, .int ((yrM o_nf o_ne m_pl m_yl m_nd m_hm m_wk m_kd o_sd g_f t).2.2)), (3, .int (nI t)), (4, .int (nI ((lotQ (nxS (yrM o_nf o_ne m_pl m_yl m_nd m_hm m_wk m_kd o_sd g_f t).1)) % 28)))]) nX6_years_61 (by decide) rfl ?_
          refine V_aload_n nX6_years_63 rfl ?_
          refine V_iload nX6_years_64 rfl ?_
          refine V_bipush (v := (nI 20)) nX6_years_66 (by decide) ?_
          refine V_icmp_ge_N (tgt := 90) nX6_years_68 rfl (by omega) (by omega) (fun h68 => ?_) (fun h68 => ?_)
          · skip
            refine V_iload nX6_years_90 rfl ?_
            refine V_bipush (v := (nI 25)) nX6_years_92 (by decide) ?_
            refine V_icmp_ge_N (tgt := 101) nX6_years_94 rfl (by omega) (by omega) (fun h94 => ?_) (fun h94 => ?_)
            · skip
              refine V_bipush (v := (nI 100)) nX6_years_101 (by decide) ?_
              refine V_top (y := nI (lotT (lotQ (nxS (yrM o_nf o_ne m_pl m_yl m_nd m_hm m_wk m_kd o_sd g_f t).1) % 28))) (by rw [show lotT (lotQ (nxS (yrM o_nf o_ne m_pl m_yl m_nd m_hm m_wk m_kd o_sd g_f t).1) % 28) = _ from (if_neg (Nat.not_lt.mpr h68)).trans (if_neg (Nat.not_lt.mpr h94))]) ?_
              refine V_blk (ws' := ((wO g o_a (nI 0) o_ts o_pl o_nf o_ne o_rf o_re o_ac o_cm (nxS (yrM o_nf o_ne m_pl m_yl m_nd m_hm m_wk m_kd o_sd g_f t).1) v o_sm o_sf o_rm o_rs) ++ (wML g o_a m_pl m_yl m_nd m_hm m_wk m_kd) ++ (wI g (o_a 11) 29 ((yrM o_nf o_ne m_pl m_yl m_nd m_hm m_wk m_kd o_sd g_f t).2.1)) ++ (wI g (o_a 17) 5 r)) ++ ((wI g (o_a 10) 29 g_f))) [wO g o_a (nI 0) o_ts o_pl o_nf o_ne o_rf o_re o_ac o_cm (nxS (yrM o_nf o_ne m_pl m_yl m_nd m_hm m_wk m_kd o_sd g_f t).1) v o_sm o_sf o_rm o_rs, wML g o_a m_pl m_yl m_nd m_hm m_wk m_kd, wI g (o_a 10) 29 g_f, wI g (o_a 11) 29 ((yrM o_nf o_ne m_pl m_yl m_nd m_hm m_wk m_kd o_sd g_f t).2.1), wI g (o_a 17) 5 r] [0, 1, 3, 4, 2] rfl (by simp only [List.flatten_cons, List.flatten_nil, List.append_nil, List.append_assoc]) (by show List.flatten [wO g o_a (nI 0) o_ts o_pl o_nf o_ne o_rf o_re o_ac o_cm (nxS (yrM o_nf o_ne m_pl m_yl m_nd m_hm m_wk m_kd o_sd g_f t).1) v o_sm o_sf o_rm o_rs, wML g o_a m_pl m_yl m_nd m_hm m_wk m_kd, wI g (o_a 11) 29 ((yrM o_nf o_ne m_pl m_yl m_nd m_hm m_wk m_kd o_sd g_f t).2.1), wI g (o_a 17) 5 r, wI g (o_a 10) 29 g_f] = _; simp only [List.flatten_cons, List.flatten_nil, List.append_nil, List.append_assoc]) ?_
              refine V_callV (C := (RX6, TX6, 34)) (ci := 6) (As := [.int (nI (lotT (lotQ (nxS (yrM o_nf o_ne m_pl m_yl m_nd m_hm m_wk m_kd o_sd g_f t).1) % 28)))]) (st := []) (List.range _) 1 X (c_X6_does g l o_a (nI 0) o_ts o_pl o_nf o_ne o_rf o_re o_ac o_cm (nxS (yrM o_nf o_ne m_pl m_yl m_nd m_hm m_wk m_kd o_sd g_f t).1) v o_sm o_sf o_rm o_rs m_pl m_yl m_nd m_hm m_wk m_kd ((yrM o_nf o_ne m_pl m_yl m_nd m_hm m_wk m_kd o_sd g_f t).2.1) r  (lotT (lotQ (nxS (yrM o_nf o_ne m_pl m_yl m_nd m_hm m_wk m_kd o_sd g_f t).1) % 28)) (by omega) (by omega) (lotT_lt (Nat.mod_lt _ (by decide)))) k_RX6_213 hy_X6_does (by decide) (range_at _ _) (range_nd _) 0 rfl rfl nX6_years_103 rfl rfl (Nat.le_of_ble_eq_true rfl) ?_
              rintro _ _ ⟨z_r1, z_w2, rfl, rfl⟩
              refine V_ws (ws' := ((wO g o_a (nI 0) o_ts o_pl o_nf o_ne o_rf o_re o_ac o_cm (nxS (yrM o_nf o_ne m_pl m_yl m_nd m_hm m_wk m_kd o_sd g_f t).1) z_w2 o_sm o_sf o_rm o_rs) ++ (wML g o_a m_pl m_yl m_nd m_hm m_wk m_kd) ++ (wI g (o_a 11) 29 (doQ o_nf o_ne m_pl m_yl m_nd m_hm m_wk m_kd ((yrM o_nf o_ne m_pl m_yl m_nd m_hm m_wk m_kd o_sd g_f t).2.1) (lotT (lotQ (nxS (yrM o_nf o_ne m_pl m_yl m_nd m_hm m_wk m_kd o_sd g_f t).1) % 28)))) ++ (wI g (o_a 17) 5 z_r1)) ++ ((wI g (o_a 10) 29 g_f))) (wput_range _ _ _ (by simp only [List.length_append, wI_len, wML_len, wO_len])) ?_
              refine V_st (st2 := [.int (bI (doB o_nf o_ne m_nd m_kd ((yrM o_nf o_ne m_pl m_yl m_nd m_hm m_wk m_kd o_sd g_f t).2.1) (lotT (lotQ (nxS (yrM o_nf o_ne m_pl m_yl m_nd m_hm m_wk m_kd o_sd g_f t).1) % 28))))]) rfl ?_
              refine V_blk (ws' := (wO g o_a (nI 0) o_ts o_pl o_nf o_ne o_rf o_re o_ac o_cm (nxS (yrM o_nf o_ne m_pl m_yl m_nd m_hm m_wk m_kd o_sd g_f t).1) z_w2 o_sm o_sf o_rm o_rs) ++ (wML g o_a m_pl m_yl m_nd m_hm m_wk m_kd) ++ (wI g (o_a 10) 29 g_f) ++ (wI g (o_a 11) 29 (doQ o_nf o_ne m_pl m_yl m_nd m_hm m_wk m_kd ((yrM o_nf o_ne m_pl m_yl m_nd m_hm m_wk m_kd o_sd g_f t).2.1) (lotT (lotQ (nxS (yrM o_nf o_ne m_pl m_yl m_nd m_hm m_wk m_kd o_sd g_f t).1) % 28)))) ++ (wI g (o_a 17) 5 z_r1)) [wO g o_a (nI 0) o_ts o_pl o_nf o_ne o_rf o_re o_ac o_cm (nxS (yrM o_nf o_ne m_pl m_yl m_nd m_hm m_wk m_kd o_sd g_f t).1) z_w2 o_sm o_sf o_rm o_rs, wML g o_a m_pl m_yl m_nd m_hm m_wk m_kd, wI g (o_a 11) 29 (doQ o_nf o_ne m_pl m_yl m_nd m_hm m_wk m_kd ((yrM o_nf o_ne m_pl m_yl m_nd m_hm m_wk m_kd o_sd g_f t).2.1) (lotT (lotQ (nxS (yrM o_nf o_ne m_pl m_yl m_nd m_hm m_wk m_kd o_sd g_f t).1) % 28))), wI g (o_a 17) 5 z_r1, wI g (o_a 10) 29 g_f] [0, 1, 4, 2, 3] rfl (by simp only [List.flatten_cons, List.flatten_nil, List.append_nil, List.append_assoc]) (by show List.flatten [wO g o_a (nI 0) o_ts o_pl o_nf o_ne o_rf o_re o_ac o_cm (nxS (yrM o_nf o_ne m_pl m_yl m_nd m_hm m_wk m_kd o_sd g_f t).1) z_w2 o_sm o_sf o_rm o_rs, wML g o_a m_pl m_yl m_nd m_hm m_wk m_kd, wI g (o_a 10) 29 g_f, wI g (o_a 11) 29 (doQ o_nf o_ne m_pl m_yl m_nd m_hm m_wk m_kd ((yrM o_nf o_ne m_pl m_yl m_nd m_hm m_wk m_kd o_sd g_f t).2.1) (lotT (lotQ (nxS (yrM o_nf o_ne m_pl m_yl m_nd m_hm m_wk m_kd o_sd g_f t).1) % 28))), wI g (o_a 17) 5 z_r1] = _; simp only [List.flatten_cons, List.flatten_nil, List.append_nil, List.append_assoc]) ?_
              refine V_pop nX6_years_106 rfl ?_
              refine V_iload_n nX6_years_107 rfl ?_
              refine V_aload_n nX6_years_108 rfl ?_
              refine V_get6 0 17 (by decide) f_RX6_40 nX6_years_109 rfl rfl ?_
              refine V_blk (ws' := ((wI g (o_a 11) 29 (doQ o_nf o_ne m_pl m_yl m_nd m_hm m_wk m_kd ((yrM o_nf o_ne m_pl m_yl m_nd m_hm m_wk m_kd o_sd g_f t).2.1) (lotT (lotQ (nxS (yrM o_nf o_ne m_pl m_yl m_nd m_hm m_wk m_kd o_sd g_f t).1) % 28))))) ++ ((wO g o_a (nI 0) o_ts o_pl o_nf o_ne o_rf o_re o_ac o_cm (nxS (yrM o_nf o_ne m_pl m_yl m_nd m_hm m_wk m_kd o_sd g_f t).1) z_w2 o_sm o_sf o_rm o_rs) ++ (wML g o_a m_pl m_yl m_nd m_hm m_wk m_kd) ++ (wI g (o_a 10) 29 g_f) ++ (wI g (o_a 17) 5 z_r1))) [wO g o_a (nI 0) o_ts o_pl o_nf o_ne o_rf o_re o_ac o_cm (nxS (yrM o_nf o_ne m_pl m_yl m_nd m_hm m_wk m_kd o_sd g_f t).1) z_w2 o_sm o_sf o_rm o_rs, wML g o_a m_pl m_yl m_nd m_hm m_wk m_kd, wI g (o_a 10) 29 g_f, wI g (o_a 11) 29 (doQ o_nf o_ne m_pl m_yl m_nd m_hm m_wk m_kd ((yrM o_nf o_ne m_pl m_yl m_nd m_hm m_wk m_kd o_sd g_f t).2.1) (lotT (lotQ (nxS (yrM o_nf o_ne m_pl m_yl m_nd m_hm m_wk m_kd o_sd g_f t).1) % 28))), wI g (o_a 17) 5 z_r1] [3, 0, 1, 2, 4] rfl (by simp only [List.flatten_cons, List.flatten_nil, List.append_nil, List.append_assoc]) (by show List.flatten [wI g (o_a 11) 29 (doQ o_nf o_ne m_pl m_yl m_nd m_hm m_wk m_kd ((yrM o_nf o_ne m_pl m_yl m_nd m_hm m_wk m_kd o_sd g_f t).2.1) (lotT (lotQ (nxS (yrM o_nf o_ne m_pl m_yl m_nd m_hm m_wk m_kd o_sd g_f t).1) % 28))), wO g o_a (nI 0) o_ts o_pl o_nf o_ne o_rf o_re o_ac o_cm (nxS (yrM o_nf o_ne m_pl m_yl m_nd m_hm m_wk m_kd o_sd g_f t).1) z_w2 o_sm o_sf o_rm o_rs, wML g o_a m_pl m_yl m_nd m_hm m_wk m_kd, wI g (o_a 10) 29 g_f, wI g (o_a 17) 5 z_r1] = _; simp only [List.flatten_cons, List.flatten_nil, List.append_nil, List.append_assoc]) ?_
              refine V_cSi (ws' := ((wI g (o_a 11) 29 (doQ o_nf o_ne m_pl m_yl m_nd m_hm m_wk m_kd ((yrM o_nf o_ne m_pl m_yl m_nd m_hm m_wk m_kd o_sd g_f t).2.1) (lotT (lotQ (nxS (yrM o_nf o_ne m_pl m_yl m_nd m_hm m_wk m_kd o_sd g_f t).1) % 28))))) ++ ((wO g o_a (nI 0) o_ts o_pl o_nf o_ne o_rf o_re o_ac o_cm (nxS (yrM o_nf o_ne m_pl m_yl m_nd m_hm m_wk m_kd o_sd g_f t).1) z_w2 o_sm o_sf o_rm o_rs) ++ (wML g o_a m_pl m_yl m_nd m_hm m_wk m_kd) ++ (wI g (o_a 10) 29 g_f) ++ (wI g (o_a 17) 5 z_r1))) (List.range _) 1 X (c_X6_loaves g l (o_a 11) (doQ o_nf o_ne m_pl m_yl m_nd m_hm m_wk m_kd ((yrM o_nf o_ne m_pl m_yl m_nd m_hm m_wk m_kd o_sd g_f t).2.1) (lotT (lotQ (nxS (yrM o_nf o_ne m_pl m_yl m_nd m_hm m_wk m_kd o_sd g_f t).1) % 28)))   ) k_RX6_145 hy_X6_loaves.2 (by decide) (range_at _ _) (range_nd _) nX6_years_112 rfl rfl (Nat.le_of_ble_eq_true rfl) (wput_range _ _ _ (by simp only [List.length_append, wI_len])) ?_
              refine V_blk (ws' := (wO g o_a (nI 0) o_ts o_pl o_nf o_ne o_rf o_re o_ac o_cm (nxS (yrM o_nf o_ne m_pl m_yl m_nd m_hm m_wk m_kd o_sd g_f t).1) z_w2 o_sm o_sf o_rm o_rs) ++ (wML g o_a m_pl m_yl m_nd m_hm m_wk m_kd) ++ (wI g (o_a 10) 29 g_f) ++ (wI g (o_a 11) 29 (doQ o_nf o_ne m_pl m_yl m_nd m_hm m_wk m_kd ((yrM o_nf o_ne m_pl m_yl m_nd m_hm m_wk m_kd o_sd g_f t).2.1) (lotT (lotQ (nxS (yrM o_nf o_ne m_pl m_yl m_nd m_hm m_wk m_kd o_sd g_f t).1) % 28)))) ++ (wI g (o_a 17) 5 z_r1)) [wI g (o_a 11) 29 (doQ o_nf o_ne m_pl m_yl m_nd m_hm m_wk m_kd ((yrM o_nf o_ne m_pl m_yl m_nd m_hm m_wk m_kd o_sd g_f t).2.1) (lotT (lotQ (nxS (yrM o_nf o_ne m_pl m_yl m_nd m_hm m_wk m_kd o_sd g_f t).1) % 28))), wO g o_a (nI 0) o_ts o_pl o_nf o_ne o_rf o_re o_ac o_cm (nxS (yrM o_nf o_ne m_pl m_yl m_nd m_hm m_wk m_kd o_sd g_f t).1) z_w2 o_sm o_sf o_rm o_rs, wML g o_a m_pl m_yl m_nd m_hm m_wk m_kd, wI g (o_a 10) 29 g_f, wI g (o_a 17) 5 z_r1] [1, 2, 3, 0, 4] rfl (by simp only [List.flatten_cons, List.flatten_nil, List.append_nil, List.append_assoc]) (by show List.flatten [wO g o_a (nI 0) o_ts o_pl o_nf o_ne o_rf o_re o_ac o_cm (nxS (yrM o_nf o_ne m_pl m_yl m_nd m_hm m_wk m_kd o_sd g_f t).1) z_w2 o_sm o_sf o_rm o_rs, wML g o_a m_pl m_yl m_nd m_hm m_wk m_kd, wI g (o_a 10) 29 g_f, wI g (o_a 11) 29 (doQ o_nf o_ne m_pl m_yl m_nd m_hm m_wk m_kd ((yrM o_nf o_ne m_pl m_yl m_nd m_hm m_wk m_kd o_sd g_f t).2.1) (lotT (lotQ (nxS (yrM o_nf o_ne m_pl m_yl m_nd m_hm m_wk m_kd o_sd g_f t).1) % 28))), wI g (o_a 17) 5 z_r1] = _; simp only [List.flatten_cons, List.flatten_nil, List.append_nil, List.append_assoc]) ?_
              refine V_iadd (v := ((yrM o_nf o_ne m_pl m_yl m_nd m_hm m_wk m_kd o_sd g_f t).2.2) + (lvP (doQ o_nf o_ne m_pl m_yl m_nd m_hm m_wk m_kd ((yrM o_nf o_ne m_pl m_yl m_nd m_hm m_wk m_kd o_sd g_f t).2.1) (lotT (lotQ (nxS (yrM o_nf o_ne m_pl m_yl m_nd m_hm m_wk m_kd o_sd g_f t).1) % 28))))) nX6_years_115 rfl ?_
              refine V_istore_n (lv' := [(0, .ref (o_a 0)), (1, .int (nI m)), (2, .int (((yrM o_nf o_ne m_pl m_yl m_nd m_hm m_wk m_kd o_sd g_f t).2.2) + (lvP (doQ o_nf o_ne m_pl m_yl m_nd m_hm m_wk m_kd ((yrM o_nf o_ne m_pl m_yl m_nd m_hm m_wk m_kd o_sd g_f t).2.1) (lotT (lotQ (nxS (yrM o_nf o_ne m_pl m_yl m_nd m_hm m_wk m_kd o_sd g_f t).1) % 28)))))), (3, .int (nI t)), (4, .int (nI ((lotQ (nxS (yrM o_nf o_ne m_pl m_yl m_nd m_hm m_wk m_kd o_sd g_f t).1)) % 28)))]) nX6_years_116 (by decide) rfl ?_
              refine V_iinc (v := nI (t + 1)) (lv' := [(0, .ref (o_a 0)), (1, .int (nI m)), (2, .int (((yrM o_nf o_ne m_pl m_yl m_nd m_hm m_wk m_kd o_sd g_f t).2.2) + (lvP (doQ o_nf o_ne m_pl m_yl m_nd m_hm m_wk m_kd ((yrM o_nf o_ne m_pl m_yl m_nd m_hm m_wk m_kd o_sd g_f t).2.1) (lotT (lotQ (nxS (yrM o_nf o_ne m_pl m_yl m_nd m_hm m_wk m_kd o_sd g_f t).1) % 28)))))), (3, .int (nI (t + 1))), (4, .int (nI ((lotQ (nxS (yrM o_nf o_ne m_pl m_yl m_nd m_hm m_wk m_kd o_sd g_f t).1)) % 28)))]) nX6_years_117 rfl (nI_add t 1) (by decide) rfl ?_
              refine V_goto (tgt := 28) nX6_years_120 rfl ?_
              refine V_pick (lv2 := [(0, .ref (o_a 0)), (1, .int (nI m)), (2, .int (((yrM o_nf o_ne m_pl m_yl m_nd m_hm m_wk m_kd o_sd g_f t).2.2) + (lvP (doQ o_nf o_ne m_pl m_yl m_nd m_hm m_wk m_kd ((yrM o_nf o_ne m_pl m_yl m_nd m_hm m_wk m_kd o_sd g_f t).2.1) (lotT (lotQ (nxS (yrM o_nf o_ne m_pl m_yl m_nd m_hm m_wk m_kd o_sd g_f t).1) % 28)))))), (3, .int (nI (t + 1)))]) [0, 1, 2, 3] rfl ?_
              exact ih (t + 1) z_r1 z_w2 (by omega) (by omega)
            · skip
              refine V_iconst (v := (nI 0)) nX6_years_97 rfl ?_
              refine V_goto (tgt := 103) nX6_years_98 rfl ?_
              refine V_top (y := nI (lotT (lotQ (nxS (yrM o_nf o_ne m_pl m_yl m_nd m_hm m_wk m_kd o_sd g_f t).1) % 28))) (by rw [show lotT (lotQ (nxS (yrM o_nf o_ne m_pl m_yl m_nd m_hm m_wk m_kd o_sd g_f t).1) % 28) = _ from (if_neg (Nat.not_lt.mpr h68)).trans (if_pos h94)]) ?_
              refine V_blk (ws' := ((wO g o_a (nI 0) o_ts o_pl o_nf o_ne o_rf o_re o_ac o_cm (nxS (yrM o_nf o_ne m_pl m_yl m_nd m_hm m_wk m_kd o_sd g_f t).1) v o_sm o_sf o_rm o_rs) ++ (wML g o_a m_pl m_yl m_nd m_hm m_wk m_kd) ++ (wI g (o_a 11) 29 ((yrM o_nf o_ne m_pl m_yl m_nd m_hm m_wk m_kd o_sd g_f t).2.1)) ++ (wI g (o_a 17) 5 r)) ++ ((wI g (o_a 10) 29 g_f))) [wO g o_a (nI 0) o_ts o_pl o_nf o_ne o_rf o_re o_ac o_cm (nxS (yrM o_nf o_ne m_pl m_yl m_nd m_hm m_wk m_kd o_sd g_f t).1) v o_sm o_sf o_rm o_rs, wML g o_a m_pl m_yl m_nd m_hm m_wk m_kd, wI g (o_a 10) 29 g_f, wI g (o_a 11) 29 ((yrM o_nf o_ne m_pl m_yl m_nd m_hm m_wk m_kd o_sd g_f t).2.1), wI g (o_a 17) 5 r] [0, 1, 3, 4, 2] rfl (by simp only [List.flatten_cons, List.flatten_nil, List.append_nil, List.append_assoc]) (by show List.flatten [wO g o_a (nI 0) o_ts o_pl o_nf o_ne o_rf o_re o_ac o_cm (nxS (yrM o_nf o_ne m_pl m_yl m_nd m_hm m_wk m_kd o_sd g_f t).1) v o_sm o_sf o_rm o_rs, wML g o_a m_pl m_yl m_nd m_hm m_wk m_kd, wI g (o_a 11) 29 ((yrM o_nf o_ne m_pl m_yl m_nd m_hm m_wk m_kd o_sd g_f t).2.1), wI g (o_a 17) 5 r, wI g (o_a 10) 29 g_f] = _; simp only [List.flatten_cons, List.flatten_nil, List.append_nil, List.append_assoc]) ?_
              refine V_callV (C := (RX6, TX6, 34)) (ci := 6) (As := [.int (nI (lotT (lotQ (nxS (yrM o_nf o_ne m_pl m_yl m_nd m_hm m_wk m_kd o_sd g_f t).1) % 28)))]) (st := []) (List.range _) 1 X (c_X6_does g l o_a (nI 0) o_ts o_pl o_nf o_ne o_rf o_re o_ac o_cm (nxS (yrM o_nf o_ne m_pl m_yl m_nd m_hm m_wk m_kd o_sd g_f t).1) v o_sm o_sf o_rm o_rs m_pl m_yl m_nd m_hm m_wk m_kd ((yrM o_nf o_ne m_pl m_yl m_nd m_hm m_wk m_kd o_sd g_f t).2.1) r  (lotT (lotQ (nxS (yrM o_nf o_ne m_pl m_yl m_nd m_hm m_wk m_kd o_sd g_f t).1) % 28)) (by omega) (by omega) (lotT_lt (Nat.mod_lt _ (by decide)))) k_RX6_213 hy_X6_does (by decide) (range_at _ _) (range_nd _) 0 rfl rfl nX6_years_103 rfl rfl (Nat.le_of_ble_eq_true rfl) ?_
              rintro _ _ ⟨z_r3, z_w4, rfl, rfl⟩
              refine V_ws (ws' := ((wO g o_a (nI 0) o_ts o_pl o_nf o_ne o_rf o_re o_ac o_cm (nxS (yrM o_nf o_ne m_pl m_yl m_nd m_hm m_wk m_kd o_sd g_f t).1) z_w4 o_sm o_sf o_rm o_rs) ++ (wML g o_a m_pl m_yl m_nd m_hm m_wk m_kd) ++ (wI g (o_a 11) 29 (doQ o_nf o_ne m_pl m_yl m_nd m_hm m_wk m_kd ((yrM o_nf o_ne m_pl m_yl m_nd m_hm m_wk m_kd o_sd g_f t).2.1) (lotT (lotQ (nxS (yrM o_nf o_ne m_pl m_yl m_nd m_hm m_wk m_kd o_sd g_f t).1) % 28)))) ++ (wI g (o_a 17) 5 z_r3)) ++ ((wI g (o_a 10) 29 g_f))) (wput_range _ _ _ (by simp only [List.length_append, wI_len, wML_len, wO_len])) ?_
              refine V_st (st2 := [.int (bI (doB o_nf o_ne m_nd m_kd ((yrM o_nf o_ne m_pl m_yl m_nd m_hm m_wk m_kd o_sd g_f t).2.1) (lotT (lotQ (nxS (yrM o_nf o_ne m_pl m_yl m_nd m_hm m_wk m_kd o_sd g_f t).1) % 28))))]) rfl ?_
              refine V_blk (ws' := (wO g o_a (nI 0) o_ts o_pl o_nf o_ne o_rf o_re o_ac o_cm (nxS (yrM o_nf o_ne m_pl m_yl m_nd m_hm m_wk m_kd o_sd g_f t).1) z_w4 o_sm o_sf o_rm o_rs) ++ (wML g o_a m_pl m_yl m_nd m_hm m_wk m_kd) ++ (wI g (o_a 10) 29 g_f) ++ (wI g (o_a 11) 29 (doQ o_nf o_ne m_pl m_yl m_nd m_hm m_wk m_kd ((yrM o_nf o_ne m_pl m_yl m_nd m_hm m_wk m_kd o_sd g_f t).2.1) (lotT (lotQ (nxS (yrM o_nf o_ne m_pl m_yl m_nd m_hm m_wk m_kd o_sd g_f t).1) % 28)))) ++ (wI g (o_a 17) 5 z_r3)) [wO g o_a (nI 0) o_ts o_pl o_nf o_ne o_rf o_re o_ac o_cm (nxS (yrM o_nf o_ne m_pl m_yl m_nd m_hm m_wk m_kd o_sd g_f t).1) z_w4 o_sm o_sf o_rm o_rs, wML g o_a m_pl m_yl m_nd m_hm m_wk m_kd, wI g (o_a 11) 29 (doQ o_nf o_ne m_pl m_yl m_nd m_hm m_wk m_kd ((yrM o_nf o_ne m_pl m_yl m_nd m_hm m_wk m_kd o_sd g_f t).2.1) (lotT (lotQ (nxS (yrM o_nf o_ne m_pl m_yl m_nd m_hm m_wk m_kd o_sd g_f t).1) % 28))), wI g (o_a 17) 5 z_r3, wI g (o_a 10) 29 g_f] [0, 1, 4, 2, 3] rfl (by simp only [List.flatten_cons, List.flatten_nil, List.append_nil, List.append_assoc]) (by show List.flatten [wO g o_a (nI 0) o_ts o_pl o_nf o_ne o_rf o_re o_ac o_cm (nxS (yrM o_nf o_ne m_pl m_yl m_nd m_hm m_wk m_kd o_sd g_f t).1) z_w4 o_sm o_sf o_rm o_rs, wML g o_a m_pl m_yl m_nd m_hm m_wk m_kd, wI g (o_a 10) 29 g_f, wI g (o_a 11) 29 (doQ o_nf o_ne m_pl m_yl m_nd m_hm m_wk m_kd ((yrM o_nf o_ne m_pl m_yl m_nd m_hm m_wk m_kd o_sd g_f t).2.1) (lotT (lotQ (nxS (yrM o_nf o_ne m_pl m_yl m_nd m_hm m_wk m_kd o_sd g_f t).1) % 28))), wI g (o_a 17) 5 z_r3] = _; simp only [List.flatten_cons, List.flatten_nil, List.append_nil, List.append_assoc]) ?_
              refine V_pop nX6_years_106 rfl ?_
              refine V_iload_n nX6_years_107 rfl ?_
              refine V_aload_n nX6_years_108 rfl ?_
              refine V_get6 0 17 (by decide) f_RX6_40 nX6_years_109 rfl rfl ?_
              refine V_blk (ws' := ((wI g (o_a 11) 29 (doQ o_nf o_ne m_pl m_yl m_nd m_hm m_wk m_kd ((yrM o_nf o_ne m_pl m_yl m_nd m_hm m_wk m_kd o_sd g_f t).2.1) (lotT (lotQ (nxS (yrM o_nf o_ne m_pl m_yl m_nd m_hm m_wk m_kd o_sd g_f t).1) % 28))))) ++ ((wO g o_a (nI 0) o_ts o_pl o_nf o_ne o_rf o_re o_ac o_cm (nxS (yrM o_nf o_ne m_pl m_yl m_nd m_hm m_wk m_kd o_sd g_f t).1) z_w4 o_sm o_sf o_rm o_rs) ++ (wML g o_a m_pl m_yl m_nd m_hm m_wk m_kd) ++ (wI g (o_a 10) 29 g_f) ++ (wI g (o_a 17) 5 z_r3))) [wO g o_a (nI 0) o_ts o_pl o_nf o_ne o_rf o_re o_ac o_cm (nxS (yrM o_nf o_ne m_pl m_yl m_nd m_hm m_wk m_kd o_sd g_f t).1) z_w4 o_sm o_sf o_rm o_rs, wML g o_a m_pl m_yl m_nd m_hm m_wk m_kd, wI g (o_a 10) 29 g_f, wI g (o_a 11) 29 (doQ o_nf o_ne m_pl m_yl m_nd m_hm m_wk m_kd ((yrM o_nf o_ne m_pl m_yl m_nd m_hm m_wk m_kd o_sd g_f t).2.1) (lotT (lotQ (nxS (yrM o_nf o_ne m_pl m_yl m_nd m_hm m_wk m_kd o_sd g_f t).1) % 28))), wI g (o_a 17) 5 z_r3] [3, 0, 1, 2, 4] rfl (by simp only [List.flatten_cons, List.flatten_nil, List.append_nil, List.append_assoc]) (by show List.flatten [wI g (o_a 11) 29 (doQ o_nf o_ne m_pl m_yl m_nd m_hm m_wk m_kd ((yrM o_nf o_ne m_pl m_yl m_nd m_hm m_wk m_kd o_sd g_f t).2.1) (lotT (lotQ (nxS (yrM o_nf o_ne m_pl m_yl m_nd m_hm m_wk m_kd o_sd g_f t).1) % 28))), wO g o_a (nI 0) o_ts o_pl o_nf o_ne o_rf o_re o_ac o_cm (nxS (yrM o_nf o_ne m_pl m_yl m_nd m_hm m_wk m_kd o_sd g_f t).1) z_w4 o_sm o_sf o_rm o_rs, wML g o_a m_pl m_yl m_nd m_hm m_wk m_kd, wI g (o_a 10) 29 g_f, wI g (o_a 17) 5 z_r3] = _; simp only [List.flatten_cons, List.flatten_nil, List.append_nil, List.append_assoc]) ?_
              refine V_cSi (ws' := ((wI g (o_a 11) 29 (doQ o_nf o_ne m_pl m_yl m_nd m_hm m_wk m_kd ((yrM o_nf o_ne m_pl m_yl m_nd m_hm m_wk m_kd o_sd g_f t).2.1) (lotT (lotQ (nxS (yrM o_nf o_ne m_pl m_yl m_nd m_hm m_wk m_kd o_sd g_f t).1) % 28))))) ++ ((wO g o_a (nI 0) o_ts o_pl o_nf o_ne o_rf o_re o_ac o_cm (nxS (yrM o_nf o_ne m_pl m_yl m_nd m_hm m_wk m_kd o_sd g_f t).1) z_w4 o_sm o_sf o_rm o_rs) ++ (wML g o_a m_pl m_yl m_nd m_hm m_wk m_kd) ++ (wI g (o_a 10) 29 g_f) ++ (wI g (o_a 17) 5 z_r3))) (List.range _) 1 X (c_X6_loaves g l (o_a 11) (doQ o_nf o_ne m_pl m_yl m_nd m_hm m_wk m_kd ((yrM o_nf o_ne m_pl m_yl m_nd m_hm m_wk m_kd o_sd g_f t).2.1) (lotT (lotQ (nxS (yrM o_nf o_ne m_pl m_yl m_nd m_hm m_wk m_kd o_sd g_f t).1) % 28)))   ) k_RX6_145 hy_X6_loaves.2 (by decide) (range_at _ _) (range_nd _) nX6_years_112 rfl rfl (Nat.le_of_ble_eq_true rfl) (wput_range _ _ _ (by simp only [List.length_append, wI_len])) ?_
              refine V_blk (ws' := (wO g o_a (nI 0) o_ts o_pl o_nf o_ne o_rf o_re o_ac o_cm (nxS (yrM o_nf o_ne m_pl m_yl m_nd m_hm m_wk m_kd o_sd g_f t).1) z_w4 o_sm o_sf o_rm o_rs) ++ (wML g o_a m_pl m_yl m_nd m_hm m_wk m_kd) ++ (wI g (o_a 10) 29 g_f) ++ (wI g (o_a 11) 29 (doQ o_nf o_ne m_pl m_yl m_nd m_hm m_wk m_kd ((yrM o_nf o_ne m_pl m_yl m_nd m_hm m_wk m_kd o_sd g_f t).2.1) (lotT (lotQ (nxS (yrM o_nf o_ne m_pl m_yl m_nd m_hm m_wk m_kd o_sd g_f t).1) % 28)))) ++ (wI g (o_a 17) 5 z_r3)) [wI g (o_a 11) 29 (doQ o_nf o_ne m_pl m_yl m_nd m_hm m_wk m_kd ((yrM o_nf o_ne m_pl m_yl m_nd m_hm m_wk m_kd o_sd g_f t).2.1) (lotT (lotQ (nxS (yrM o_nf o_ne m_pl m_yl m_nd m_hm m_wk m_kd o_sd g_f t).1) % 28))), wO g o_a (nI 0) o_ts o_pl o_nf o_ne o_rf o_re o_ac o_cm (nxS (yrM o_nf o_ne m_pl m_yl m_nd m_hm m_wk m_kd o_sd g_f t).1) z_w4 o_sm o_sf o_rm o_rs, wML g o_a m_pl m_yl m_nd m_hm m_wk m_kd, wI g (o_a 10) 29 g_f, wI g (o_a 17) 5 z_r3] [1, 2, 3, 0, 4] rfl (by simp only [List.flatten_cons, List.flatten_nil, List.append_nil, List.append_assoc]) (by show List.flatten [wO g o_a (nI 0) o_ts o_pl o_nf o_ne o_rf o_re o_ac o_cm (nxS (yrM o_nf o_ne m_pl m_yl m_nd m_hm m_wk m_kd o_sd g_f t).1) z_w4 o_sm o_sf o_rm o_rs, wML g o_a m_pl m_yl m_nd m_hm m_wk m_kd, wI g (o_a 10) 29 g_f, wI g (o_a 11) 29 (doQ o_nf o_ne m_pl m_yl m_nd m_hm m_wk m_kd ((yrM o_nf o_ne m_pl m_yl m_nd m_hm m_wk m_kd o_sd g_f t).2.1) (lotT (lotQ (nxS (yrM o_nf o_ne m_pl m_yl m_nd m_hm m_wk m_kd o_sd g_f t).1) % 28))), wI g (o_a 17) 5 z_r3] = _; simp only [List.flatten_cons, List.flatten_nil, List.append_nil, List.append_assoc]) ?_
              refine V_iadd (v := ((yrM o_nf o_ne m_pl m_yl m_nd m_hm m_wk m_kd o_sd g_f t).2.2) + (lvP (doQ o_nf o_ne m_pl m_yl m_nd m_hm m_wk m_kd ((yrM o_nf o_ne m_pl m_yl m_nd m_hm m_wk m_kd o_sd g_f t).2.1) (lotT (lotQ (nxS (yrM o_nf o_ne m_pl m_yl m_nd m_hm m_wk m_kd o_sd g_f t).1) % 28))))) nX6_years_115 rfl ?_
              refine V_istore_n (lv' := [(0, .ref (o_a 0)), (1, .int (nI m)), (2, .int (((yrM o_nf o_ne m_pl m_yl m_nd m_hm m_wk m_kd o_sd g_f t).2.2) + (lvP (doQ o_nf o_ne m_pl m_yl m_nd m_hm m_wk m_kd ((yrM o_nf o_ne m_pl m_yl m_nd m_hm m_wk m_kd o_sd g_f t).2.1) (lotT (lotQ (nxS (yrM o_nf o_ne m_pl m_yl m_nd m_hm m_wk m_kd o_sd g_f t).1) % 28)))))), (3, .int (nI t)), (4, .int (nI ((lotQ (nxS (yrM o_nf o_ne m_pl m_yl m_nd m_hm m_wk m_kd o_sd g_f t).1)) % 28)))]) nX6_years_116 (by decide) rfl ?_
              refine V_iinc (v := nI (t + 1)) (lv' := [(0, .ref (o_a 0)), (1, .int (nI m)), (2, .int (((yrM o_nf o_ne m_pl m_yl m_nd m_hm m_wk m_kd o_sd g_f t).2.2) + (lvP (doQ o_nf o_ne m_pl m_yl m_nd m_hm m_wk m_kd ((yrM o_nf o_ne m_pl m_yl m_nd m_hm m_wk m_kd o_sd g_f t).2.1) (lotT (lotQ (nxS (yrM o_nf o_ne m_pl m_yl m_nd m_hm m_wk m_kd o_sd g_f t).1) % 28)))))), (3, .int (nI (t + 1))), (4, .int (nI ((lotQ (nxS (yrM o_nf o_ne m_pl m_yl m_nd m_hm m_wk m_kd o_sd g_f t).1)) % 28)))]) nX6_years_117 rfl (nI_add t 1) (by decide) rfl ?_
              refine V_goto (tgt := 28) nX6_years_120 rfl ?_
              refine V_pick (lv2 := [(0, .ref (o_a 0)), (1, .int (nI m)), (2, .int (((yrM o_nf o_ne m_pl m_yl m_nd m_hm m_wk m_kd o_sd g_f t).2.2) + (lvP (doQ o_nf o_ne m_pl m_yl m_nd m_hm m_wk m_kd ((yrM o_nf o_ne m_pl m_yl m_nd m_hm m_wk m_kd o_sd g_f t).2.1) (lotT (lotQ (nxS (yrM o_nf o_ne m_pl m_yl m_nd m_hm m_wk m_kd o_sd g_f t).1) % 28)))))), (3, .int (nI (t + 1)))]) [0, 1, 2, 3] rfl ?_
              exact ih (t + 1) z_r3 z_w4 (by omega) (by omega)
          · skip
            refine V_sipush (v := (nI 200)) nX6_years_71 (by decide) ?_
            refine V_bipush (v := (nI 10)) nX6_years_74 (by decide) ?_
            refine V_iload nX6_years_76 rfl ?_
            refine V_iconst (v := (nI 4)) nX6_years_78 rfl ?_
            refine V_idiv (v := nI (((lotQ (nxS (yrM o_nf o_ne m_pl m_yl m_nd m_hm m_wk m_kd o_sd g_f t).1)) % 28) / 4)) nX6_years_79 (nI_ne0 (by omega) (by omega)) (pk_div (by omega) (by omega) (by omega)) ?_
            refine V_imul (v := nI (10 * (((lotQ (nxS (yrM o_nf o_ne m_pl m_yl m_nd m_hm m_wk m_kd o_sd g_f t).1)) % 28) / 4))) nX6_years_80 (pk_mul 10 (((lotQ (nxS (yrM o_nf o_ne m_pl m_yl m_nd m_hm m_wk m_kd o_sd g_f t).1)) % 28) / 4)) ?_
            refine V_iadd (v := nI (200 + (10 * (((lotQ (nxS (yrM o_nf o_ne m_pl m_yl m_nd m_hm m_wk m_kd o_sd g_f t).1)) % 28) / 4)))) nX6_years_81 (nI_add 200 (10 * (((lotQ (nxS (yrM o_nf o_ne m_pl m_yl m_nd m_hm m_wk m_kd o_sd g_f t).1)) % 28) / 4))) ?_
            refine V_iload nX6_years_82 rfl ?_
            refine V_iconst (v := (nI 4)) nX6_years_84 rfl ?_
            refine V_irem (v := nI (((lotQ (nxS (yrM o_nf o_ne m_pl m_yl m_nd m_hm m_wk m_kd o_sd g_f t).1)) % 28) % 4)) nX6_years_85 (nI_ne0 (by omega) (by omega)) (pk_rem (by omega) (by omega) (by omega)) ?_
            refine V_iadd (v := nI ((200 + (10 * (((lotQ (nxS (yrM o_nf o_ne m_pl m_yl m_nd m_hm m_wk m_kd o_sd g_f t).1)) % 28) / 4))) + (((lotQ (nxS (yrM o_nf o_ne m_pl m_yl m_nd m_hm m_wk m_kd o_sd g_f t).1)) % 28) % 4))) nX6_years_86 (nI_add (200 + (10 * (((lotQ (nxS (yrM o_nf o_ne m_pl m_yl m_nd m_hm m_wk m_kd o_sd g_f t).1)) % 28) / 4))) (((lotQ (nxS (yrM o_nf o_ne m_pl m_yl m_nd m_hm m_wk m_kd o_sd g_f t).1)) % 28) % 4)) ?_
            refine V_goto (tgt := 103) nX6_years_87 rfl ?_
            refine V_top (y := nI (lotT (lotQ (nxS (yrM o_nf o_ne m_pl m_yl m_nd m_hm m_wk m_kd o_sd g_f t).1) % 28))) (by rw [show lotT (lotQ (nxS (yrM o_nf o_ne m_pl m_yl m_nd m_hm m_wk m_kd o_sd g_f t).1) % 28) = _ from if_pos h68]) ?_
            refine V_blk (ws' := ((wO g o_a (nI 0) o_ts o_pl o_nf o_ne o_rf o_re o_ac o_cm (nxS (yrM o_nf o_ne m_pl m_yl m_nd m_hm m_wk m_kd o_sd g_f t).1) v o_sm o_sf o_rm o_rs) ++ (wML g o_a m_pl m_yl m_nd m_hm m_wk m_kd) ++ (wI g (o_a 11) 29 ((yrM o_nf o_ne m_pl m_yl m_nd m_hm m_wk m_kd o_sd g_f t).2.1)) ++ (wI g (o_a 17) 5 r)) ++ ((wI g (o_a 10) 29 g_f))) [wO g o_a (nI 0) o_ts o_pl o_nf o_ne o_rf o_re o_ac o_cm (nxS (yrM o_nf o_ne m_pl m_yl m_nd m_hm m_wk m_kd o_sd g_f t).1) v o_sm o_sf o_rm o_rs, wML g o_a m_pl m_yl m_nd m_hm m_wk m_kd, wI g (o_a 10) 29 g_f, wI g (o_a 11) 29 ((yrM o_nf o_ne m_pl m_yl m_nd m_hm m_wk m_kd o_sd g_f t).2.1), wI g (o_a 17) 5 r] [0, 1, 3, 4, 2] rfl (by simp only [List.flatten_cons, List.flatten_nil, List.append_nil, List.append_assoc]) (by show List.flatten [wO g o_a (nI 0) o_ts o_pl o_nf o_ne o_rf o_re o_ac o_cm (nxS (yrM o_nf o_ne m_pl m_yl m_nd m_hm m_wk m_kd o_sd g_f t).1) v o_sm o_sf o_rm o_rs, wML g o_a m_pl m_yl m_nd m_hm m_wk m_kd, wI g (o_a 11) 29 ((yrM o_nf o_ne m_pl m_yl m_nd m_hm m_wk m_kd o_sd g_f t).2.1), wI g (o_a 17) 5 r, wI g (o_a 10) 29 g_f] = _; simp only [List.flatten_cons, List.flatten_nil, List.append_nil, List.append_assoc]) ?_
            refine V_callV (C := (RX6, TX6, 34)) (ci := 6) (As := [.int (nI (lotT (lotQ (nxS (yrM o_nf o_ne m_pl m_yl m_nd m_hm m_wk m_kd o_sd g_f t).1) % 28)))]) (st := []) (List.range _) 1 X (c_X6_does g l o_a (nI 0) o_ts o_pl o_nf o_ne o_rf o_re o_ac o_cm (nxS (yrM o_nf o_ne m_pl m_yl m_nd m_hm m_wk m_kd o_sd g_f t).1) v o_sm o_sf o_rm o_rs m_pl m_yl m_nd m_hm m_wk m_kd ((yrM o_nf o_ne m_pl m_yl m_nd m_hm m_wk m_kd o_sd g_f t).2.1) r  (lotT (lotQ (nxS (yrM o_nf o_ne m_pl m_yl m_nd m_hm m_wk m_kd o_sd g_f t).1) % 28)) (by omega) (by omega) (lotT_lt (Nat.mod_lt _ (by decide)))) k_RX6_213 hy_X6_does (by decide) (range_at _ _) (range_nd _) 0 rfl rfl nX6_years_103 rfl rfl (Nat.le_of_ble_eq_true rfl) ?_
            rintro _ _ ⟨z_r5, z_w6, rfl, rfl⟩
            refine V_ws (ws' := ((wO g o_a (nI 0) o_ts o_pl o_nf o_ne o_rf o_re o_ac o_cm (nxS (yrM o_nf o_ne m_pl m_yl m_nd m_hm m_wk m_kd o_sd g_f t).1) z_w6 o_sm o_sf o_rm o_rs) ++ (wML g o_a m_pl m_yl m_nd m_hm m_wk m_kd) ++ (wI g (o_a 11) 29 (doQ o_nf o_ne m_pl m_yl m_nd m_hm m_wk m_kd ((yrM o_nf o_ne m_pl m_yl m_nd m_hm m_wk m_kd o_sd g_f t).2.1) (lotT (lotQ (nxS (yrM o_nf o_ne m_pl m_yl m_nd m_hm m_wk m_kd o_sd g_f t).1) % 28)))) ++ (wI g (o_a 17) 5 z_r5)) ++ ((wI g (o_a 10) 29 g_f))) (wput_range _ _ _ (by simp only [List.length_append, wI_len, wML_len, wO_len])) ?_
            refine V_st (st2 := [.int (bI (doB o_nf o_ne m_nd m_kd ((yrM o_nf o_ne m_pl m_yl m_nd m_hm m_wk m_kd o_sd g_f t).2.1) (lotT (lotQ (nxS (yrM o_nf o_ne m_pl m_yl m_nd m_hm m_wk m_kd o_sd g_f t).1) % 28))))]) rfl ?_
            refine V_blk (ws' := (wO g o_a (nI 0) o_ts o_pl o_nf o_ne o_rf o_re o_ac o_cm (nxS (yrM o_nf o_ne m_pl m_yl m_nd m_hm m_wk m_kd o_sd g_f t).1) z_w6 o_sm o_sf o_rm o_rs) ++ (wML g o_a m_pl m_yl m_nd m_hm m_wk m_kd) ++ (wI g (o_a 10) 29 g_f) ++ (wI g (o_a 11) 29 (doQ o_nf o_ne m_pl m_yl m_nd m_hm m_wk m_kd ((yrM o_nf o_ne m_pl m_yl m_nd m_hm m_wk m_kd o_sd g_f t).2.1) (lotT (lotQ (nxS (yrM o_nf o_ne m_pl m_yl m_nd m_hm m_wk m_kd o_sd g_f t).1) % 28)))) ++ (wI g (o_a 17) 5 z_r5)) [wO g o_a (nI 0) o_ts o_pl o_nf o_ne o_rf o_re o_ac o_cm (nxS (yrM o_nf o_ne m_pl m_yl m_nd m_hm m_wk m_kd o_sd g_f t).1) z_w6 o_sm o_sf o_rm o_rs, wML g o_a m_pl m_yl m_nd m_hm m_wk m_kd, wI g (o_a 11) 29 (doQ o_nf o_ne m_pl m_yl m_nd m_hm m_wk m_kd ((yrM o_nf o_ne m_pl m_yl m_nd m_hm m_wk m_kd o_sd g_f t).2.1) (lotT (lotQ (nxS (yrM o_nf o_ne m_pl m_yl m_nd m_hm m_wk m_kd o_sd g_f t).1) % 28))), wI g (o_a 17) 5 z_r5, wI g (o_a 10) 29 g_f] [0, 1, 4, 2, 3] rfl (by simp only [List.flatten_cons, List.flatten_nil, List.append_nil, List.append_assoc]) (by show List.flatten [wO g o_a (nI 0) o_ts o_pl o_nf o_ne o_rf o_re o_ac o_cm (nxS (yrM o_nf o_ne m_pl m_yl m_nd m_hm m_wk m_kd o_sd g_f t).1) z_w6 o_sm o_sf o_rm o_rs, wML g o_a m_pl m_yl m_nd m_hm m_wk m_kd, wI g (o_a 10) 29 g_f, wI g (o_a 11) 29 (doQ o_nf o_ne m_pl m_yl m_nd m_hm m_wk m_kd ((yrM o_nf o_ne m_pl m_yl m_nd m_hm m_wk m_kd o_sd g_f t).2.1) (lotT (lotQ (nxS (yrM o_nf o_ne m_pl m_yl m_nd m_hm m_wk m_kd o_sd g_f t).1) % 28))), wI g (o_a 17) 5 z_r5] = _; simp only [List.flatten_cons, List.flatten_nil, List.append_nil, List.append_assoc]) ?_
            refine V_pop nX6_years_106 rfl ?_
            refine V_iload_n nX6_years_107 rfl ?_
            refine V_aload_n nX6_years_108 rfl ?_
            refine V_get6 0 17 (by decide) f_RX6_40 nX6_years_109 rfl rfl ?_
            refine V_blk (ws' := ((wI g (o_a 11) 29 (doQ o_nf o_ne m_pl m_yl m_nd m_hm m_wk m_kd ((yrM o_nf o_ne m_pl m_yl m_nd m_hm m_wk m_kd o_sd g_f t).2.1) (lotT (lotQ (nxS (yrM o_nf o_ne m_pl m_yl m_nd m_hm m_wk m_kd o_sd g_f t).1) % 28))))) ++ ((wO g o_a (nI 0) o_ts o_pl o_nf o_ne o_rf o_re o_ac o_cm (nxS (yrM o_nf o_ne m_pl m_yl m_nd m_hm m_wk m_kd o_sd g_f t).1) z_w6 o_sm o_sf o_rm o_rs) ++ (wML g o_a m_pl m_yl m_nd m_hm m_wk m_kd) ++ (wI g (o_a 10) 29 g_f) ++ (wI g (o_a 17) 5 z_r5))) [wO g o_a (nI 0) o_ts o_pl o_nf o_ne o_rf o_re o_ac o_cm (nxS (yrM o_nf o_ne m_pl m_yl m_nd m_hm m_wk m_kd o_sd g_f t).1) z_w6 o_sm o_sf o_rm o_rs, wML g o_a m_pl m_yl m_nd m_hm m_wk m_kd, wI g (o_a 10) 29 g_f, wI g (o_a 11) 29 (doQ o_nf o_ne m_pl m_yl m_nd m_hm m_wk m_kd ((yrM o_nf o_ne m_pl m_yl m_nd m_hm m_wk m_kd o_sd g_f t).2.1) (lotT (lotQ (nxS (yrM o_nf o_ne m_pl m_yl m_nd m_hm m_wk m_kd o_sd g_f t).1) % 28))), wI g (o_a 17) 5 z_r5] [3, 0, 1, 2, 4] rfl (by simp only [List.flatten_cons, List.flatten_nil, List.append_nil, List.append_assoc]) (by show List.flatten [wI g (o_a 11) 29 (doQ o_nf o_ne m_pl m_yl m_nd m_hm m_wk m_kd ((yrM o_nf o_ne m_pl m_yl m_nd m_hm m_wk m_kd o_sd g_f t).2.1) (lotT (lotQ (nxS (yrM o_nf o_ne m_pl m_yl m_nd m_hm m_wk m_kd o_sd g_f t).1) % 28))), wO g o_a (nI 0) o_ts o_pl o_nf o_ne o_rf o_re o_ac o_cm (nxS (yrM o_nf o_ne m_pl m_yl m_nd m_hm m_wk m_kd o_sd g_f t).1) z_w6 o_sm o_sf o_rm o_rs, wML g o_a m_pl m_yl m_nd m_hm m_wk m_kd, wI g (o_a 10) 29 g_f, wI g (o_a 17) 5 z_r5] = _; simp only [List.flatten_cons, List.flatten_nil, List.append_nil, List.append_assoc]) ?_
            refine V_cSi (ws' := ((wI g (o_a 11) 29 (doQ o_nf o_ne m_pl m_yl m_nd m_hm m_wk m_kd ((yrM o_nf o_ne m_pl m_yl m_nd m_hm m_wk m_kd o_sd g_f t).2.1) (lotT (lotQ (nxS (yrM o_nf o_ne m_pl m_yl m_nd m_hm m_wk m_kd o_sd g_f t).1) % 28))))) ++ ((wO g o_a (nI 0) o_ts o_pl o_nf o_ne o_rf o_re o_ac o_cm (nxS (yrM o_nf o_ne m_pl m_yl m_nd m_hm m_wk m_kd o_sd g_f t).1) z_w6 o_sm o_sf o_rm o_rs) ++ (wML g o_a m_pl m_yl m_nd m_hm m_wk m_kd) ++ (wI g (o_a 10) 29 g_f) ++ (wI g (o_a 17) 5 z_r5))) (List.range _) 1 X (c_X6_loaves g l (o_a 11) (doQ o_nf o_ne m_pl m_yl m_nd m_hm m_wk m_kd ((yrM o_nf o_ne m_pl m_yl m_nd m_hm m_wk m_kd o_sd g_f t).2.1) (lotT (lotQ (nxS (yrM o_nf o_ne m_pl m_yl m_nd m_hm m_wk m_kd o_sd g_f t).1) % 28)))   ) k_RX6_145 hy_X6_loaves.2 (by decide) (range_at _ _) (range_nd _) nX6_years_112 rfl rfl (Nat.le_of_ble_eq_true rfl) (wput_range _ _ _ (by simp only [List.length_append, wI_len])) ?_
            refine V_blk (ws' := (wO g o_a (nI 0) o_ts o_pl o_nf o_ne o_rf o_re o_ac o_cm (nxS (yrM o_nf o_ne m_pl m_yl m_nd m_hm m_wk m_kd o_sd g_f t).1) z_w6 o_sm o_sf o_rm o_rs) ++ (wML g o_a m_pl m_yl m_nd m_hm m_wk m_kd) ++ (wI g (o_a 10) 29 g_f) ++ (wI g (o_a 11) 29 (doQ o_nf o_ne m_pl m_yl m_nd m_hm m_wk m_kd ((yrM o_nf o_ne m_pl m_yl m_nd m_hm m_wk m_kd o_sd g_f t).2.1) (lotT (lotQ (nxS (yrM o_nf o_ne m_pl m_yl m_nd m_hm m_wk m_kd o_sd g_f t).1) % 28)))) ++ (wI g (o_a 17) 5 z_r5)) [wI g (o_a 11) 29 (doQ o_nf o_ne m_pl m_yl m_nd m_hm m_wk m_kd ((yrM o_nf o_ne m_pl m_yl m_nd m_hm m_wk m_kd o_sd g_f t).2.1) (lotT (lotQ (nxS (yrM o_nf o_ne m_pl m_yl m_nd m_hm m_wk m_kd o_sd g_f t).1) % 28))), wO g o_a (nI 0) o_ts o_pl o_nf o_ne o_rf o_re o_ac o_cm (nxS (yrM o_nf o_ne m_pl m_yl m_nd m_hm m_wk m_kd o_sd g_f t).1) z_w6 o_sm o_sf o_rm o_rs, wML g o_a m_pl m_yl m_nd m_hm m_wk m_kd, wI g (o_a 10) 29 g_f, wI g (o_a 17) 5 z_r5] [1, 2, 3, 0, 4] rfl (by simp only [List.flatten_cons, List.flatten_nil, List.append_nil, List.append_assoc]) (by show List.flatten [wO g o_a (nI 0) o_ts o_pl o_nf o_ne o_rf o_re o_ac o_cm (nxS (yrM o_nf o_ne m_pl m_yl m_nd m_hm m_wk m_kd o_sd g_f t).1) z_w6 o_sm o_sf o_rm o_rs, wML g o_a m_pl m_yl m_nd m_hm m_wk m_kd, wI g (o_a 10) 29 g_f, wI g (o_a 11) 29 (doQ o_nf o_ne m_pl m_yl m_nd m_hm m_wk m_kd ((yrM o_nf o_ne m_pl m_yl m_nd m_hm m_wk m_kd o_sd g_f t).2.1) (lotT (lotQ (nxS (yrM o_nf o_ne m_pl m_yl m_nd m_hm m_wk m_kd o_sd g_f t).1) % 28))), wI g (o_a 17) 5 z_r5] = _; simp only [List.flatten_cons, List.flatten_nil, List.append_nil, List.append_assoc]) ?_
            refine V_iadd (v := ((yrM o_nf o_ne m_pl m_yl m_nd m_hm m_wk m_kd o_sd g_f t).2.2) + (lvP (doQ o_nf o_ne m_pl m_yl m_nd m_hm m_wk m_kd ((yrM o_nf o_ne m_pl m_yl m_nd m_hm m_wk m_kd o_sd g_f t).2.1) (lotT (lotQ (nxS (yrM o_nf o_ne m_pl m_yl m_nd m_hm m_wk m_kd o_sd g_f t).1) % 28))))) nX6_years_115 rfl ?_
            refine V_istore_n (lv' := [(0, .ref (o_a 0)), (1, .int (nI m)), (2, .int (((yrM o_nf o_ne m_pl m_yl m_nd m_hm m_wk m_kd o_sd g_f t).2.2) + (lvP (doQ o_nf o_ne m_pl m_yl m_nd m_hm m_wk m_kd ((yrM o_nf o_ne m_pl m_yl m_nd m_hm m_wk m_kd o_sd g_f t).2.1) (lotT (lotQ (nxS (yrM o_nf o_ne m_pl m_yl m_nd m_hm m_wk m_kd o_sd g_f t).1) % 28)))))), (3, .int (nI t)), (4, .int (nI ((lotQ (nxS (yrM o_nf o_ne m_pl m_yl m_nd m_hm m_wk m_kd o_sd g_f t).1)) % 28)))]) nX6_years_116 (by decide) rfl ?_
            refine V_iinc (v := nI (t + 1)) (lv' := [(0, .ref (o_a 0)), (1, .int (nI m)), (2, .int (((yrM o_nf o_ne m_pl m_yl m_nd m_hm m_wk m_kd o_sd g_f t).2.2) + (lvP (doQ o_nf o_ne m_pl m_yl m_nd m_hm m_wk m_kd ((yrM o_nf o_ne m_pl m_yl m_nd m_hm m_wk m_kd o_sd g_f t).2.1) (lotT (lotQ (nxS (yrM o_nf o_ne m_pl m_yl m_nd m_hm m_wk m_kd o_sd g_f t).1) % 28)))))), (3, .int (nI (t + 1))), (4, .int (nI ((lotQ (nxS (yrM o_nf o_ne m_pl m_yl m_nd m_hm m_wk m_kd o_sd g_f t).1)) % 28)))]) nX6_years_117 rfl (nI_add t 1) (by decide) rfl ?_
            refine V_goto (tgt := 28) nX6_years_120 rfl ?_
            refine V_pick (lv2 := [(0, .ref (o_a 0)), (1, .int (nI m)), (2, .int (((yrM o_nf o_ne m_pl m_yl m_nd m_hm m_wk m_kd o_sd g_f t).2.2) + (lvP (doQ o_nf o_ne m_pl m_yl m_nd m_hm m_wk m_kd ((yrM o_nf o_ne m_pl m_yl m_nd m_hm m_wk m_kd o_sd g_f t).2.1) (lotT (lotQ (nxS (yrM o_nf o_ne m_pl m_yl m_nd m_hm m_wk m_kd o_sd g_f t).1) % 28)))))), (3, .int (nI (t + 1)))]) [0, 1, 2, 3] rfl ?_
            exact ih (t + 1) z_r5 z_w6 (by omega) (by omega)
    exact L28 _ 0 r_f o_wf (Nat.lt_succ_self _) (by omega)
  · skip
    refine V_bipush (v := (-2)) nX6_years_17 (by decide) ?_
    exact R_i rfl X hQ nX6_years_19 (by simp only [List.map_append, wI_fst, wML_fst, wO_fst]) (⟨y_f, r_f, o_wf, by simp [yeM, h14], by simp [h14]⟩)

set_option maxHeartbeats 4000000 in
set_option maxRecDepth 100000 in
theorem c_X6_keep (g : Gx) (l : Launch) (o_a : Nat → Nat) (o_th : Int32) (o_ts : Nat) (o_pl : Nat) (o_nf : Nat) (o_ne : Nat) (o_rf : Nat) (o_re : Nat) (o_ac : Nat) (o_cm : Nat) (o_sd : Int64) (o_wf : Int32) (o_sm : Int32) (o_sf : Int32) (o_rm : Int32) (o_rs : Int32) (g_f : Nat → Int32) (k_f : Nat → Int32) (i_f : Nat → Int32)  (x : Int32)  : Cd g l yX6_keep mX6_keep ({ frames := 1, cells := 0, slots := 0, locals := 25 } : Room) [.ref (o_a 0), .int x] ((wO g o_a o_th o_ts o_pl o_nf o_ne o_rf o_re o_ac o_cm o_sd o_wf o_sm o_sf o_rm o_rs) ++ (wI g (o_a 10) 29 g_f) ++ (wI g (o_a 13) 58 k_f) ++ (wZ g (o_a 14) 2 i_f)) (some (.int (if kpB x = true then g_f 28 else -1))) ((wO g o_a (nI 0) o_ts o_pl o_nf o_ne o_rf o_re o_ac o_cm o_sd o_wf o_sm o_sf o_rm o_rs) ++ (wI g (o_a 10) 29 g_f) ++ (wI g (o_a 13) 58 (if kpB x = true then kpQ g_f k_f (ix x) else k_f)) ++ (wZ g (o_a 14) 2 (if kpB x = true then upd i_f (ix x) (bI true) else i_f))) := by
  refine Ct.of (lv := [(0, .ref (o_a 0)), (1, .int x)]) ⟨by decide +kernel, rfl, Nat.le_of_ble_eq_true rfl⟩ rfl (fun E A sz Q X hQ => ?_)
  refine V_aload_n nX6_keep_0 rfl ?_
  refine V_iconst (v := (nI 0)) nX6_keep_1 rfl ?_
  refine V_put6 (ws' := (wO g o_a (nI 0) o_ts o_pl o_nf o_ne o_rf o_re o_ac o_cm o_sd o_wf o_sm o_sf o_rm o_rs) ++ (wI g (o_a 10) 29 g_f) ++ (wI g (o_a 13) 58 k_f) ++ (wZ g (o_a 14) 2 i_f)) 0 0 (by decide) f_RX6_68 rfl rfl rfl rfl nX6_keep_2 rfl (Nat.le_of_ble_eq_true rfl) rfl ?_
  refine V_iload_n nX6_keep_5 rfl ?_
  refine V_i2l nX6_keep_6 rfl ?_
  refine V_lconst (v := lN 0) nX6_keep_7 rfl ?_
  refine V_lconst (v := lN 1) nX6_keep_8 rfl ?_
  refine V_cSi (ws' := (wO g o_a (nI 0) o_ts o_pl o_nf o_ne o_rf o_re o_ac o_cm o_sd o_wf o_sm o_sf o_rm o_rs) ++ (wI g (o_a 10) 29 g_f) ++ (wI g (o_a 13) 58 k_f) ++ (wZ g (o_a 14) 2 i_f)) [] 3 X (c_X6_in g l   (Int32.toInt64 x) (lN 0) (lN 1) ) k_RX6_75 hy_X6_in.2 (by decide) rfl (by decide) nX6_keep_9 rfl rfl (Nat.le_of_ble_eq_true rfl) rfl ?_
  refine V_topb (b := rgB x 1) (congrArg bI (inL_rg (by decide) x)) ?_
  refine V_if_ne_b (tgt := 17) nX6_keep_12 rfl (fun h12 => ?_) (fun h12 => ?_)
  · skip
    obtain ⟨m, hf_m, rfl⟩ := rg_t h12 (by decide)
    have hix_m : ix (nI m) = m := ix_nI (by omega)
    have hkp : kpB (nI m) = true := by rw [← kpB_rg]; exact h12
    refine V_aload_n nX6_keep_17 rfl ?_
    refine V_get6 0 21 (by decide) f_RX6_49 nX6_keep_18 rfl rfl ?_
    refine V_iload_n nX6_keep_21 rfl ?_
    refine V_iconst (v := (nI 1)) nX6_keep_22 rfl ?_
    refine V_topb (b := true) rfl ?_
    refine V_zast (ws' := (wO g o_a (nI 0) o_ts o_pl o_nf o_ne o_rf o_re o_ac o_cm o_sd o_wf o_sm o_sf o_rm o_rs) ++ (wI g (o_a 10) 29 g_f) ++ (wI g (o_a 13) 58 k_f) ++ (wZ g (o_a 14) 2 (upd i_f m (bI true)))) 3 nX6_keep_23 rfl (by omega) (by decide) rfl ?_
    refine V_iconst (v := (nI 0)) nX6_keep_24 rfl ?_
    refine V_istore_n (lv' := [(0, .ref (o_a 0)), (1, .int (nI m)), (2, .int (nI 0))]) nX6_keep_25 (by decide) rfl ?_
    have L26 : ∀ (n : Nat) (i : Nat), 29 - i < n → i ≤ 29 → V g E mX6_keep A Q 0 0 ((wO g o_a (nI 0) o_ts o_pl o_nf o_ne o_rf o_re o_ac o_cm o_sd o_wf o_sm o_sf o_rm o_rs) ++ (wI g (o_a 10) 29 g_f) ++ (wI g (o_a 13) 58 (fillO g_f k_f (29 * m) i)) ++ (wZ g (o_a 14) 2 (upd i_f m (bI true)))) 26 [(0, .ref (o_a 0)), (1, .int (nI m)), (2, .int (nI i))] [] := by
      intro n
      induction n with
      | zero => intro i hm; exact absurd hm (Nat.not_lt_zero _)
      | succ n ih =>
        intro i hm hi
        refine V_iload_n nX6_keep_26 rfl ?_
        refine V_bipush (v := (nI 29)) nX6_keep_27 (by decide) ?_
        refine V_icmp_ge_N (tgt := 55) nX6_keep_29 rfl (by omega) (by omega) (fun h29 => ?_) (fun h29 => ?_)
        · skip
          have hx_i : 29 = i := by omega
          subst hx_i
          refine V_arr (f' := kpQ g_f k_f m) (ws' := (wO g o_a (nI 0) o_ts o_pl o_nf o_ne o_rf o_re o_ac o_cm o_sd o_wf o_sm o_sf o_rm o_rs) ++ (wI g (o_a 10) 29 g_f) ++ (wI g (o_a 13) 58 (kpQ g_f k_f m)) ++ (wZ g (o_a 14) 2 (upd i_f m (bI true)))) 2 rfl (fun j hj => fillO_eq _ _ _ _ j) rfl ?_
          refine V_aload_n nX6_keep_55 rfl ?_
          refine V_get6 0 16 (by decide) f_RX6_37 nX6_keep_56 rfl rfl ?_
          refine V_bipush (v := (nI 28)) nX6_keep_59 (by decide) ?_
          refine V_iald 1 nX6_keep_61 rfl (by omega) (by decide) rfl ?_
          exact R_i rfl X hQ nX6_keep_62 (by simp only [List.map_append, wI_fst, wO_fst, wZ_fst]) (⟨by simp [hkp], by simp [hkp, hix_m]⟩)
        · skip
          refine V_aload_n nX6_keep_32 rfl ?_
          refine V_get6 0 20 (by decide) f_RX6_46 nX6_keep_33 rfl rfl ?_
          refine V_bipush (v := (nI 29)) nX6_keep_36 (by decide) ?_
          refine V_iload_n nX6_keep_38 rfl ?_
          refine V_imul (v := nI (29 * m)) nX6_keep_39 (pk_mul 29 m) ?_
          refine V_iload_n nX6_keep_40 rfl ?_
          refine V_iadd (v := nI ((29 * m) + i)) nX6_keep_41 (nI_add (29 * m) i) ?_
          refine V_aload_n nX6_keep_42 rfl ?_
          refine V_get6 0 16 (by decide) f_RX6_37 nX6_keep_43 rfl rfl ?_
          refine V_iload_n nX6_keep_46 rfl ?_
          refine V_iald 1 nX6_keep_47 rfl (by omega) (by decide) rfl ?_
          refine V_iast (ws' := (wO g o_a (nI 0) o_ts o_pl o_nf o_ne o_rf o_re o_ac o_cm o_sd o_wf o_sm o_sf o_rm o_rs) ++ (wI g (o_a 10) 29 g_f) ++ (wI g (o_a 13) 58 (upd (fillO g_f k_f (29 * m) i) ((29 * m) + i) (g_f i))) ++ (wZ g (o_a 14) 2 (upd i_f m (bI true)))) 2 nX6_keep_48 rfl (by omega) (by decide) rfl ?_
          refine V_iinc (v := nI (i + 1)) (lv' := [(0, .ref (o_a 0)), (1, .int (nI m)), (2, .int (nI (i + 1)))]) nX6_keep_49 rfl (nI_add i 1) (by decide) rfl ?_
          refine V_goto (tgt := 26) nX6_keep_52 rfl ?_
          exact ih (i + 1) (by omega) (by omega)
    exact L26 _ 0 (Nat.lt_succ_self _) (by omega)
  · skip
    have hkp : kpB x = false := by rw [← kpB_rg]; exact h12
    refine V_iconst (v := (-1)) nX6_keep_15 (by decide) ?_
    exact R_i rfl X hQ nX6_keep_16 (by simp only [List.map_append, wI_fst, wO_fst, wZ_fst]) (⟨by simp [hkp], by simp [hkp]⟩)

set_option maxHeartbeats 4000000 in
set_option maxRecDepth 100000 in
theorem c_X6_again (g : Gx) (l : Launch) (o_a : Nat → Nat) (o_th : Int32) (o_ts : Nat) (o_pl : Nat) (o_nf : Nat) (o_ne : Nat) (o_rf : Nat) (o_re : Nat) (o_ac : Nat) (o_cm : Nat) (o_sd : Int64) (o_wf : Int32) (o_sm : Int32) (o_sf : Int32) (o_rm : Int32) (o_rs : Int32) (g_f : Nat → Int32) (k_f : Nat → Int32) (i_f : Nat → Int32)  (x : Int32)  : Cd g l yX6_again mX6_again ({ frames := 1, cells := 0, slots := 0, locals := 25 } : Room) [.ref (o_a 0), .int x] ((wO g o_a o_th o_ts o_pl o_nf o_ne o_rf o_re o_ac o_cm o_sd o_wf o_sm o_sf o_rm o_rs) ++ (wI g (o_a 10) 29 g_f) ++ (wI g (o_a 13) 58 k_f) ++ (wZ g (o_a 14) 2 i_f)) (some (.int (if kpB x = true then (if i_f (ix x) = 0 then -3 else k_f (29 * ix x + 28)) else -1))) ((wO g o_a (nI 0) o_ts o_pl o_nf o_ne o_rf o_re (if kpB x = true ∧ ¬ i_f (ix x) = 0 then 0 else o_ac) o_cm o_sd o_wf o_sm o_sf o_rm o_rs) ++ (wI g (o_a 10) 29 (if kpB x = true ∧ ¬ i_f (ix x) = 0 then (fun i => k_f (29 * ix x + i)) else g_f)) ++ (wI g (o_a 13) 58 k_f) ++ (wZ g (o_a 14) 2 i_f)) := by
  refine Ct.of (lv := [(0, .ref (o_a 0)), (1, .int x)]) ⟨by decide +kernel, rfl, Nat.le_of_ble_eq_true rfl⟩ rfl (fun E A sz Q X hQ => ?_)
  refine V_aload_n nX6_again_0 rfl ?_
  refine V_iconst (v := (nI 0)) nX6_again_1 rfl ?_
  refine V_put6 (ws' := (wO g o_a (nI 0) o_ts o_pl o_nf o_ne o_rf o_re o_ac o_cm o_sd o_wf o_sm o_sf o_rm o_rs) ++ (wI g (o_a 10) 29 g_f) ++ (wI g (o_a 13) 58 k_f) ++ (wZ g (o_a 14) 2 i_f)) 0 0 (by decide) f_RX6_68 rfl rfl rfl rfl nX6_again_2 rfl (Nat.le_of_ble_eq_true rfl) rfl ?_
  refine V_iload_n nX6_again_5 rfl ?_
  refine V_i2l nX6_again_6 rfl ?_
  refine V_lconst (v := lN 0) nX6_again_7 rfl ?_
  refine V_lconst (v := lN 1) nX6_again_8 rfl ?_
  refine V_cSi (ws' := (wO g o_a (nI 0) o_ts o_pl o_nf o_ne o_rf o_re o_ac o_cm o_sd o_wf o_sm o_sf o_rm o_rs) ++ (wI g (o_a 10) 29 g_f) ++ (wI g (o_a 13) 58 k_f) ++ (wZ g (o_a 14) 2 i_f)) [] 3 X (c_X6_in g l   (Int32.toInt64 x) (lN 0) (lN 1) ) k_RX6_75 hy_X6_in.2 (by decide) rfl (by decide) nX6_again_9 rfl rfl (Nat.le_of_ble_eq_true rfl) rfl ?_
  refine V_topb (b := rgB x 1) (congrArg bI (inL_rg (by decide) x)) ?_
  refine V_if_ne_b (tgt := 17) nX6_again_12 rfl (fun h12 => ?_) (fun h12 => ?_)
  · skip
    obtain ⟨m, hf_m, rfl⟩ := rg_t h12 (by decide)
    have hix_m : ix (nI m) = m := ix_nI (by omega)
    have hkp : kpB (nI m) = true := by rw [← kpB_rg]; exact h12
    refine V_aload_n nX6_again_17 rfl ?_
    refine V_get6 0 21 (by decide) f_RX6_49 nX6_again_18 rfl rfl ?_
    refine V_iload_n nX6_again_21 rfl ?_
    refine V_zald 3 nX6_again_22 rfl (by omega) (by decide) rfl ?_
    refine V_if_ne (tgt := 29) nX6_again_23 rfl (fun h23 => ?_) (fun h23 => ?_)
    · skip
      refine V_iconst (v := (nI 0)) nX6_again_29 rfl ?_
      refine V_istore_n (lv' := [(0, .ref (o_a 0)), (1, .int (nI m)), (2, .int (nI 0))]) nX6_again_30 (by decide) rfl ?_
      have L31 : ∀ (n : Nat) (i : Nat), 29 - i < n → i ≤ 29 → V g E mX6_again A Q 0 0 ((wO g o_a (nI 0) o_ts o_pl o_nf o_ne o_rf o_re o_ac o_cm o_sd o_wf o_sm o_sf o_rm o_rs) ++ (wI g (o_a 10) 29 (fillI (fun i => k_f (29 * m + i)) g_f i)) ++ (wI g (o_a 13) 58 k_f) ++ (wZ g (o_a 14) 2 i_f)) 31 [(0, .ref (o_a 0)), (1, .int (nI m)), (2, .int (nI i))] [] := by
        intro n
        induction n with
        | zero => intro i hm; exact absurd hm (Nat.not_lt_zero _)
        | succ n ih =>
          intro i hm hi
          refine V_iload_n nX6_again_31 rfl ?_
          refine V_bipush (v := (nI 29)) nX6_again_32 (by decide) ?_
          refine V_icmp_ge_N (tgt := 60) nX6_again_34 rfl (by omega) (by omega) (fun h34 => ?_) (fun h34 => ?_)
          · skip
            have hx_i : 29 = i := by omega
            subst hx_i
            refine V_arr (f' := (fun i => k_f (29 * m + i))) (ws' := (wO g o_a (nI 0) o_ts o_pl o_nf o_ne o_rf o_re o_ac o_cm o_sd o_wf o_sm o_sf o_rm o_rs) ++ (wI g (o_a 10) 29 (fun i => k_f (29 * m + i))) ++ (wI g (o_a 13) 58 k_f) ++ (wZ g (o_a 14) 2 i_f)) 1 rfl (fun j hj => fillI_lt _ _ _ j hj) rfl ?_
            refine V_aload_n nX6_again_60 rfl ?_
            refine V_iconst (v := (nI 0)) nX6_again_61 rfl ?_
            refine V_put6 (ws' := (wO g o_a (nI 0) o_ts o_pl o_nf o_ne o_rf o_re 0 o_cm o_sd o_wf o_sm o_sf o_rm o_rs) ++ (wI g (o_a 10) 29 (fun i => k_f (29 * m + i))) ++ (wI g (o_a 13) 58 k_f) ++ (wZ g (o_a 14) 2 i_f)) 0 19 (by decide) f_RX6_114 rfl rfl rfl rfl nX6_again_62 rfl (Nat.le_of_ble_eq_true rfl) rfl ?_
            refine V_aload_n nX6_again_65 rfl ?_
            refine V_get6 0 16 (by decide) f_RX6_37 nX6_again_66 rfl rfl ?_
            refine V_bipush (v := (nI 28)) nX6_again_69 (by decide) ?_
            refine V_iald 1 nX6_again_71 rfl (by omega) (by decide) rfl ?_
            exact R_i rfl X hQ nX6_again_72 (by simp only [List.map_append, wI_fst, wO_fst, wZ_fst]) (⟨by simp [hkp, hix_m, h23], by simp [hkp, hix_m, h23]⟩)
          · skip
            refine V_aload_n nX6_again_37 rfl ?_
            refine V_get6 0 16 (by decide) f_RX6_37 nX6_again_38 rfl rfl ?_
            refine V_iload_n nX6_again_41 rfl ?_
            refine V_aload_n nX6_again_42 rfl ?_
            refine V_get6 0 20 (by decide) f_RX6_46 nX6_again_43 rfl rfl ?_
            refine V_bipush (v := (nI 29)) nX6_again_46 (by decide) ?_
            refine V_iload_n nX6_again_48 rfl ?_
            refine V_imul (v := nI (29 * m)) nX6_again_49 (pk_mul 29 m) ?_
            refine V_iload_n nX6_again_50 rfl ?_
            refine V_iadd (v := nI ((29 * m) + i)) nX6_again_51 (nI_add (29 * m) i) ?_
            refine V_iald 2 nX6_again_52 rfl (by omega) (by decide) rfl ?_
            refine V_iast (ws' := (wO g o_a (nI 0) o_ts o_pl o_nf o_ne o_rf o_re o_ac o_cm o_sd o_wf o_sm o_sf o_rm o_rs) ++ (wI g (o_a 10) 29 (upd (fillI (fun i => k_f (29 * m + i)) g_f i) i (k_f ((29 * m) + i)))) ++ (wI g (o_a 13) 58 k_f) ++ (wZ g (o_a 14) 2 i_f)) 1 nX6_again_53 rfl (by omega) (by decide) rfl ?_
            refine V_iinc (v := nI (i + 1)) (lv' := [(0, .ref (o_a 0)), (1, .int (nI m)), (2, .int (nI (i + 1)))]) nX6_again_54 rfl (nI_add i 1) (by decide) rfl ?_
            refine V_goto (tgt := 31) nX6_again_57 rfl ?_
            exact ih (i + 1) (by omega) (by omega)
      exact L31 _ 0 (Nat.lt_succ_self _) (by omega)
    · skip
      refine V_bipush (v := (-3)) nX6_again_26 (by decide) ?_
      exact R_i rfl X hQ nX6_again_28 (by simp only [List.map_append, wI_fst, wO_fst, wZ_fst]) (⟨by simp [hkp, hix_m, h23], by simp [hkp, hix_m, h23]⟩)
  · skip
    have hkp : kpB x = false := by rw [← kpB_rg]; exact h12
    refine V_iconst (v := (-1)) nX6_again_15 (by decide) ?_
    exact R_i rfl X hQ nX6_again_16 (by simp only [List.map_append, wI_fst, wO_fst, wZ_fst]) (⟨by simp [hkp], by simp [hkp]⟩)
