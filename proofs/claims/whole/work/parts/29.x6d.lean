set_option maxHeartbeats 4000000 in
set_option maxRecDepth 100000 in
theorem c_X6_longPower (g : Gx) (l : Launch)   (b : Nat) (k : Nat) (hk : k < 2 ^ 31) : Cd g l yX6_longPower mX6_longPower ({ frames := 0, cells := 0, slots := 0, locals := 0 } : Room) [.long (lN b), .int (nI k)] ([]) (some (.long (lN (b ^ k)))) ([]) := by
  refine Ct.of (lv := [(0, .long (lN b)), (2, .int (nI k))]) ⟨by decide +kernel, rfl, Nat.le_of_ble_eq_true rfl⟩ rfl (fun E A sz Q X hQ => ?_)
  refine V_lconst (v := lN 1) nX6_longPower_0 rfl ?_
  refine V_lstore_n (lv' := [(0, .long (lN b)), (2, .int (nI k)), (3, .long (lN 1))]) nX6_longPower_1 (by decide) rfl ?_
  refine V_iconst (v := (nI 0)) nX6_longPower_2 rfl ?_
  refine V_istore (lv' := [(0, .long (lN b)), (2, .int (nI k)), (3, .long (lN 1)), (5, .int (nI 0))]) nX6_longPower_3 (by decide) rfl ?_
  have L5 : ∀ (n : Nat) (i : Nat), k - i < n → i ≤ k → V g E mX6_longPower A Q 0 0 ([]) 5 [(0, .long (lN b)), (2, .int (nI k)), (3, .long (lN (b ^ i))), (5, .int (nI i))] [] := by
    intro n
    induction n with
    | zero => intro i hm; exact absurd hm (Nat.not_lt_zero _)
    | succ n ih =>
      intro i hm hi
      refine V_iload nX6_longPower_5 rfl ?_
      refine V_iload_n nX6_longPower_7 rfl ?_
      refine V_icmp_ge_N (tgt := 21) nX6_longPower_8 rfl (by omega) (by omega) (fun h8 => ?_) (fun h8 => ?_)
      · skip
        have hx_i : k = i := by omega
        subst hx_i
        refine V_lload_n nX6_longPower_21 rfl ?_
        exact R_l rfl X hQ nX6_longPower_22 rfl (⟨rfl, rfl⟩)
      · skip
        refine V_lload_n nX6_longPower_11 rfl ?_
        refine V_lload_n nX6_longPower_12 rfl ?_
        refine V_lmul (v := lN ((b ^ i) * b)) nX6_longPower_13 (lN_mul (b ^ i) b) ?_
        refine V_lstore_n (lv' := [(0, .long (lN b)), (2, .int (nI k)), (3, .long (lN ((b ^ i) * b))), (5, .int (nI i))]) nX6_longPower_14 (by decide) rfl ?_
        refine V_iinc (v := nI (i + 1)) (lv' := [(0, .long (lN b)), (2, .int (nI k)), (3, .long (lN ((b ^ i) * b))), (5, .int (nI (i + 1)))]) nX6_longPower_15 rfl (nI_add i 1) (by decide) rfl ?_
        refine V_goto (tgt := 5) nX6_longPower_18 rfl ?_
        exact ih (i + 1) (by omega) (by omega)
  exact L5 _ 0 (Nat.lt_succ_self _) (by omega)

set_option maxHeartbeats 4000000 in
set_option maxRecDepth 100000 in
theorem c_X6_eats (g : Gx) (l : Launch) (o_a : Nat → Nat) (o_th : Int32) (o_ts : Nat) (o_pl : Nat) (o_nf : Nat) (o_ne : Nat) (o_rf : Nat) (o_re : Nat) (o_ac : Nat) (o_cm : Nat) (o_sd : Int64) (o_wf : Int32) (o_sm : Int32) (o_sf : Int32) (o_rm : Int32) (o_rs : Int32) (m_pl : Nat → Int32) (m_yl : Nat → Int32) (m_nd : Nat → Int32) (m_hm : Nat → Int32) (m_wk : Nat → Int32) (m_kd : Nat → Int32) (y_f : Nat → Int32)  (a : Nat) (b : Nat) (hnf : o_nf ≤ 4) (hne : o_ne ≤ 5) (ha : a < 2 ^ 31) (hb : b < 2 ^ 31) : Cd g l yX6_eats mX6_eats ({ frames := 3, cells := 0, slots := 0, locals := 66 } : Room) [.ref (o_a 0), .int (nI a), .int (nI b)] ((wO g o_a o_th o_ts o_pl o_nf o_ne o_rf o_re o_ac o_cm o_sd o_wf o_sm o_sf o_rm o_rs) ++ (wML g o_a m_pl m_yl m_nd m_hm m_wk m_kd) ++ (wI g (o_a 11) 29 y_f)) (some (.int (bI (etB o_nf o_ne m_kd y_f (nI a) (nI b))))) ((wO g o_a o_th o_ts o_pl o_nf o_ne o_rf o_re o_ac o_cm o_sd o_wf o_sm o_sf o_rm o_rs) ++ (wML g o_a m_pl m_yl m_nd m_hm m_wk m_kd) ++ (wI g (o_a 11) 29 (etQ o_nf o_ne m_kd y_f (nI a) (nI b)))) := by
  refine Ct.of (lv := [(0, .ref (o_a 0)), (1, .int (nI a)), (2, .int (nI b))]) ⟨by decide +kernel, rfl, Nat.le_of_ble_eq_true rfl⟩ rfl (fun E A sz Q X hQ => ?_)
  refine V_aload_n nX6_eats_0 rfl ?_
  refine V_iload_n nX6_eats_1 rfl ?_
  refine V_blk (ws' := ((wO g o_a o_th o_ts o_pl o_nf o_ne o_rf o_re o_ac o_cm o_sd o_wf o_sm o_sf o_rm o_rs)) ++ ((wML g o_a m_pl m_yl m_nd m_hm m_wk m_kd) ++ (wI g (o_a 11) 29 y_f))) [wO g o_a o_th o_ts o_pl o_nf o_ne o_rf o_re o_ac o_cm o_sd o_wf o_sm o_sf o_rm o_rs, wML g o_a m_pl m_yl m_nd m_hm m_wk m_kd, wI g (o_a 11) 29 y_f] [0, 1, 2] rfl (by simp only [List.flatten_cons, List.flatten_nil, List.append_nil, List.append_assoc]) (by show List.flatten [wO g o_a o_th o_ts o_pl o_nf o_ne o_rf o_re o_ac o_cm o_sd o_wf o_sm o_sf o_rm o_rs, wML g o_a m_pl m_yl m_nd m_hm m_wk m_kd, wI g (o_a 11) 29 y_f] = _; simp only [List.flatten_cons, List.flatten_nil, List.append_nil, List.append_assoc]) ?_
  refine V_cVi (C := (RX6, TX6, 34)) (ci := 6) (ws' := ((wO g o_a o_th o_ts o_pl o_nf o_ne o_rf o_re o_ac o_cm o_sd o_wf o_sm o_sf o_rm o_rs)) ++ ((wML g o_a m_pl m_yl m_nd m_hm m_wk m_kd) ++ (wI g (o_a 11) 29 y_f))) (List.range _) 1 X (c_X6_noEater g l o_a o_th o_ts o_pl o_nf o_ne o_rf o_re o_ac o_cm o_sd o_wf o_sm o_sf o_rm o_rs  (nI a) (by omega)) k_RX6_174 hy_X6_noEater (by decide) (range_at _ _) (range_nd _) 0 rfl rfl nX6_eats_2 rfl rfl (Nat.le_of_ble_eq_true rfl) (wput_range _ _ _ (by simp only [List.length_append, wO_len])) ?_
  refine V_blk (ws' := (wO g o_a o_th o_ts o_pl o_nf o_ne o_rf o_re o_ac o_cm o_sd o_wf o_sm o_sf o_rm o_rs) ++ (wML g o_a m_pl m_yl m_nd m_hm m_wk m_kd) ++ (wI g (o_a 11) 29 y_f)) [wO g o_a o_th o_ts o_pl o_nf o_ne o_rf o_re o_ac o_cm o_sd o_wf o_sm o_sf o_rm o_rs, wML g o_a m_pl m_yl m_nd m_hm m_wk m_kd, wI g (o_a 11) 29 y_f] [0, 1, 2] rfl (by simp only [List.flatten_cons, List.flatten_nil, List.append_nil, List.append_assoc]) (by show List.flatten [wO g o_a o_th o_ts o_pl o_nf o_ne o_rf o_re o_ac o_cm o_sd o_wf o_sm o_sf o_rm o_rs, wML g o_a m_pl m_yl m_nd m_hm m_wk m_kd, wI g (o_a 11) 29 y_f] = _; simp only [List.flatten_cons, List.flatten_nil, List.append_nil, List.append_assoc]) ?_
  refine V_if_ne_b (tgt := 33) nX6_eats_5 rfl (fun h5 => ?_) (fun h5 => ?_)
  · skip
    have hn_a : hasN o_ne (nI a) = false := by rw [Bool.not_eq_true'] at h5; exact h5
    refine V_iconst (v := (nI 0)) nX6_eats_33 rfl ?_
    refine V_istore_n (lv' := [(0, .ref (o_a 0)), (1, .int (nI a)), (2, .int (nI b)), (3, .int (nI 0))]) nX6_eats_34 (by decide) rfl ?_
    refine V_iload_n nX6_eats_35 rfl ?_
    refine V_if_eq_N (tgt := 49) nX6_eats_36 rfl (by omega) (fun h36 => ?_) (fun h36 => ?_)
    · skip
      refine V_iload_n nX6_eats_49 rfl ?_
      have hB : etB o_nf o_ne m_kd y_f (nI a) (nI b) = false := by simp [etB, hn_a]
      refine V_top (y := bI false) rfl ?_
      exact R_z rfl X hQ nX6_eats_50 (by simp only [List.map_append, wI_fst, wML_fst, wO_fst]) (⟨by rw [hB], by simp only [etQ, hB, Bool.false_eq_true, ↓reduceIte]⟩)
    · skip
      exact absurd rfl h36
  · skip
    have hp_a : hasN o_ne (nI a) = true := by rw [Bool.not_eq_false'] at h5; exact h5
    have hl_a := hasN_lt hp_a (by omega) (by omega)
    have hix_a : ix (nI a) = a := ix_nI (by omega)
    refine V_aload_n nX6_eats_8 rfl ?_
    refine V_iload_n nX6_eats_9 rfl ?_
    refine V_blk (ws' := ((wO g o_a o_th o_ts o_pl o_nf o_ne o_rf o_re o_ac o_cm o_sd o_wf o_sm o_sf o_rm o_rs)) ++ ((wML g o_a m_pl m_yl m_nd m_hm m_wk m_kd) ++ (wI g (o_a 11) 29 y_f))) [wO g o_a o_th o_ts o_pl o_nf o_ne o_rf o_re o_ac o_cm o_sd o_wf o_sm o_sf o_rm o_rs, wML g o_a m_pl m_yl m_nd m_hm m_wk m_kd, wI g (o_a 11) 29 y_f] [0, 1, 2] rfl (by simp only [List.flatten_cons, List.flatten_nil, List.append_nil, List.append_assoc]) (by show List.flatten [wO g o_a o_th o_ts o_pl o_nf o_ne o_rf o_re o_ac o_cm o_sd o_wf o_sm o_sf o_rm o_rs, wML g o_a m_pl m_yl m_nd m_hm m_wk m_kd, wI g (o_a 11) 29 y_f] = _; simp only [List.flatten_cons, List.flatten_nil, List.append_nil, List.append_assoc]) ?_
    refine V_cVi (C := (RX6, TX6, 34)) (ci := 6) (ws' := ((wO g o_a o_th o_ts o_pl o_nf o_ne o_rf o_re o_ac o_cm o_sd o_wf o_sm o_sf o_rm o_rs)) ++ ((wML g o_a m_pl m_yl m_nd m_hm m_wk m_kd) ++ (wI g (o_a 11) 29 y_f))) (List.range _) 1 X (c_X6_noField g l o_a o_th o_ts o_pl o_nf o_ne o_rf o_re o_ac o_cm o_sd o_wf o_sm o_sf o_rm o_rs  (nI b) (by omega)) k_RX6_167 hy_X6_noField (by decide) (range_at _ _) (range_nd _) 0 rfl rfl nX6_eats_10 rfl rfl (Nat.le_of_ble_eq_true rfl) (wput_range _ _ _ (by simp only [List.length_append, wO_len])) ?_
    refine V_blk (ws' := (wO g o_a o_th o_ts o_pl o_nf o_ne o_rf o_re o_ac o_cm o_sd o_wf o_sm o_sf o_rm o_rs) ++ (wML g o_a m_pl m_yl m_nd m_hm m_wk m_kd) ++ (wI g (o_a 11) 29 y_f)) [wO g o_a o_th o_ts o_pl o_nf o_ne o_rf o_re o_ac o_cm o_sd o_wf o_sm o_sf o_rm o_rs, wML g o_a m_pl m_yl m_nd m_hm m_wk m_kd, wI g (o_a 11) 29 y_f] [0, 1, 2] rfl (by simp only [List.flatten_cons, List.flatten_nil, List.append_nil, List.append_assoc]) (by show List.flatten [wO g o_a o_th o_ts o_pl o_nf o_ne o_rf o_re o_ac o_cm o_sd o_wf o_sm o_sf o_rm o_rs, wML g o_a m_pl m_yl m_nd m_hm m_wk m_kd, wI g (o_a 11) 29 y_f] = _; simp only [List.flatten_cons, List.flatten_nil, List.append_nil, List.append_assoc]) ?_
    refine V_if_ne_b (tgt := 33) nX6_eats_13 rfl (fun h13 => ?_) (fun h13 => ?_)
    · skip
      have hn_b : hasN o_nf (nI b) = false := by rw [Bool.not_eq_true'] at h13; exact h13
      refine V_iconst (v := (nI 0)) nX6_eats_33 rfl ?_
      refine V_istore_n (lv' := [(0, .ref (o_a 0)), (1, .int (nI a)), (2, .int (nI b)), (3, .int (nI 0))]) nX6_eats_34 (by decide) rfl ?_
      refine V_iload_n nX6_eats_35 rfl ?_
      refine V_if_eq_N (tgt := 49) nX6_eats_36 rfl (by omega) (fun h36 => ?_) (fun h36 => ?_)
      · skip
        refine V_iload_n nX6_eats_49 rfl ?_
        have hB : etB o_nf o_ne m_kd y_f (nI a) (nI b) = false := by simp [etB, hp_a, hix_a, hn_b]
        refine V_top (y := bI false) rfl ?_
        exact R_z rfl X hQ nX6_eats_50 (by simp only [List.map_append, wI_fst, wML_fst, wO_fst]) (⟨by rw [hB], by simp only [etQ, hB, Bool.false_eq_true, ↓reduceIte, hix_a]⟩)
      · skip
        exact absurd rfl h36
    · skip
      have hp_b : hasN o_nf (nI b) = true := by rw [Bool.not_eq_false'] at h13; exact h13
      have hl_b := hasN_lt hp_b (by omega) (by omega)
      have hix_b : ix (nI b) = b := ix_nI (by omega)
      refine V_aload_n nX6_eats_16 rfl ?_
      refine V_aload_n nX6_eats_17 rfl ?_
      refine V_get6 0 17 (by decide) f_RX6_40 nX6_eats_18 rfl rfl ?_
      refine V_iload_n nX6_eats_21 rfl ?_
      refine V_iload_n nX6_eats_22 rfl ?_
      refine V_blk (ws' := ((wO g o_a o_th o_ts o_pl o_nf o_ne o_rf o_re o_ac o_cm o_sd o_wf o_sm o_sf o_rm o_rs) ++ (wML g o_a m_pl m_yl m_nd m_hm m_wk m_kd) ++ (wI g (o_a 11) 29 y_f)) ++ ([] : va_W)) [wO g o_a o_th o_ts o_pl o_nf o_ne o_rf o_re o_ac o_cm o_sd o_wf o_sm o_sf o_rm o_rs, wML g o_a m_pl m_yl m_nd m_hm m_wk m_kd, wI g (o_a 11) 29 y_f] [0, 1, 2] rfl (by simp only [List.flatten_cons, List.flatten_nil, List.append_nil, List.append_assoc]) (by show List.flatten [wO g o_a o_th o_ts o_pl o_nf o_ne o_rf o_re o_ac o_cm o_sd o_wf o_sm o_sf o_rm o_rs, wML g o_a m_pl m_yl m_nd m_hm m_wk m_kd, wI g (o_a 11) 29 y_f] = _; simp only [List.flatten_cons, List.flatten_nil, List.append_nil, List.append_assoc]) ?_
      refine V_cVi (C := (RX6, TX6, 34)) (ci := 6) (ws' := ((wO g o_a o_th o_ts o_pl o_nf o_ne o_rf o_re o_ac o_cm o_sd o_wf o_sm o_sf o_rm o_rs) ++ (wML g o_a m_pl m_yl m_nd m_hm m_wk m_kd) ++ (wI g (o_a 11) 29 y_f)) ++ ([] : va_W)) (List.range _) 3 X (c_X6_canEat g l o_a o_th o_ts o_pl o_nf o_ne o_rf o_re o_ac o_cm o_sd o_wf o_sm o_sf o_rm o_rs m_pl m_yl m_nd m_hm m_wk m_kd (o_a 11) y_f  a b (by omega) (by omega)) k_RX6_180 hy_X6_canEat (by decide) (range_at _ _) (range_nd _) 0 rfl rfl nX6_eats_23 rfl rfl (Nat.le_of_ble_eq_true rfl) (wput_range _ _ _ (by simp only [List.length_append, wI_len, wML_len, wO_len])) ?_
      refine V_blk (ws' := (wO g o_a o_th o_ts o_pl o_nf o_ne o_rf o_re o_ac o_cm o_sd o_wf o_sm o_sf o_rm o_rs) ++ (wML g o_a m_pl m_yl m_nd m_hm m_wk m_kd) ++ (wI g (o_a 11) 29 y_f)) [wO g o_a o_th o_ts o_pl o_nf o_ne o_rf o_re o_ac o_cm o_sd o_wf o_sm o_sf o_rm o_rs, wML g o_a m_pl m_yl m_nd m_hm m_wk m_kd, wI g (o_a 11) 29 y_f] [0, 1, 2] rfl (by simp only [List.flatten_cons, List.flatten_nil, List.append_nil, List.append_assoc]) (by show List.flatten [wO g o_a o_th o_ts o_pl o_nf o_ne o_rf o_re o_ac o_cm o_sd o_wf o_sm o_sf o_rm o_rs, wML g o_a m_pl m_yl m_nd m_hm m_wk m_kd, wI g (o_a 11) 29 y_f] = _; simp only [List.flatten_cons, List.flatten_nil, List.append_nil, List.append_assoc]) ?_
      refine V_if_eq_b (tgt := 33) nX6_eats_26 rfl (fun h26 => ?_) (fun h26 => ?_)
      · skip
        refine V_iconst (v := (nI 0)) nX6_eats_33 rfl ?_
        refine V_istore_n (lv' := [(0, .ref (o_a 0)), (1, .int (nI a)), (2, .int (nI b)), (3, .int (nI 0))]) nX6_eats_34 (by decide) rfl ?_
        refine V_iload_n nX6_eats_35 rfl ?_
        refine V_if_eq_N (tgt := 49) nX6_eats_36 rfl (by omega) (fun h36 => ?_) (fun h36 => ?_)
        · skip
          refine V_iload_n nX6_eats_49 rfl ?_
          have hB : etB o_nf o_ne m_kd y_f (nI a) (nI b) = false := by simp [etB, hp_a, hix_a, hp_b, hix_b, h26]
          refine V_top (y := bI false) rfl ?_
          exact R_z rfl X hQ nX6_eats_50 (by simp only [List.map_append, wI_fst, wML_fst, wO_fst]) (⟨by rw [hB], by simp only [etQ, hB, Bool.false_eq_true, ↓reduceIte, hix_a, hix_b]⟩)
        · skip
          exact absurd rfl h36
      · skip
        refine V_iconst (v := (nI 1)) nX6_eats_29 rfl ?_
        refine V_goto (tgt := 34) nX6_eats_30 rfl ?_
        refine V_istore_n (lv' := [(0, .ref (o_a 0)), (1, .int (nI a)), (2, .int (nI b)), (3, .int (nI 1))]) nX6_eats_34 (by decide) rfl ?_
        refine V_iload_n nX6_eats_35 rfl ?_
        refine V_if_eq_N (tgt := 49) nX6_eats_36 rfl (by omega) (fun h36 => ?_) (fun h36 => ?_)
        · skip
          exact absurd h36 (by decide)
        · skip
          refine V_aload_n nX6_eats_39 rfl ?_
          refine V_aload_n nX6_eats_40 rfl ?_
          refine V_get6 0 17 (by decide) f_RX6_40 nX6_eats_41 rfl rfl ?_
          refine V_iload_n nX6_eats_44 rfl ?_
          refine V_iload_n nX6_eats_45 rfl ?_
          refine V_blk (ws' := ((wO g o_a o_th o_ts o_pl o_nf o_ne o_rf o_re o_ac o_cm o_sd o_wf o_sm o_sf o_rm o_rs) ++ (wML g o_a m_pl m_yl m_nd m_hm m_wk m_kd) ++ (wI g (o_a 11) 29 y_f)) ++ ([] : va_W)) [wO g o_a o_th o_ts o_pl o_nf o_ne o_rf o_re o_ac o_cm o_sd o_wf o_sm o_sf o_rm o_rs, wML g o_a m_pl m_yl m_nd m_hm m_wk m_kd, wI g (o_a 11) 29 y_f] [0, 1, 2] rfl (by simp only [List.flatten_cons, List.flatten_nil, List.append_nil, List.append_assoc]) (by show List.flatten [wO g o_a o_th o_ts o_pl o_nf o_ne o_rf o_re o_ac o_cm o_sd o_wf o_sm o_sf o_rm o_rs, wML g o_a m_pl m_yl m_nd m_hm m_wk m_kd, wI g (o_a 11) 29 y_f] = _; simp only [List.flatten_cons, List.flatten_nil, List.append_nil, List.append_assoc]) ?_
          refine V_cVv (C := (RX6, TX6, 34)) (ci := 6) (ws' := ((wO g o_a o_th o_ts o_pl o_nf o_ne o_rf o_re o_ac o_cm o_sd o_wf o_sm o_sf o_rm o_rs) ++ (wML g o_a m_pl m_yl m_nd m_hm m_wk m_kd) ++ (wI g (o_a 11) 29 (geP m_kd y_f a b))) ++ ([] : va_W)) (List.range _) 3 X (c_X6_goEat g l o_a o_th o_ts o_pl o_nf o_ne o_rf o_re o_ac o_cm o_sd o_wf o_sm o_sf o_rm o_rs m_pl m_yl m_nd m_hm m_wk m_kd (o_a 11) y_f  a b (by omega) (by omega)) k_RX6_187 hy_X6_goEat (by decide) (range_at _ _) (range_nd _) 0 rfl rfl nX6_eats_46 rfl rfl (Nat.le_of_ble_eq_true rfl) (wput_range _ _ _ (by simp only [List.length_append, wI_len, wML_len, wO_len])) ?_
          refine V_blk (ws' := (wO g o_a o_th o_ts o_pl o_nf o_ne o_rf o_re o_ac o_cm o_sd o_wf o_sm o_sf o_rm o_rs) ++ (wML g o_a m_pl m_yl m_nd m_hm m_wk m_kd) ++ (wI g (o_a 11) 29 (geP m_kd y_f a b))) [wO g o_a o_th o_ts o_pl o_nf o_ne o_rf o_re o_ac o_cm o_sd o_wf o_sm o_sf o_rm o_rs, wML g o_a m_pl m_yl m_nd m_hm m_wk m_kd, wI g (o_a 11) 29 (geP m_kd y_f a b)] [0, 1, 2] rfl (by simp only [List.flatten_cons, List.flatten_nil, List.append_nil, List.append_assoc]) (by show List.flatten [wO g o_a o_th o_ts o_pl o_nf o_ne o_rf o_re o_ac o_cm o_sd o_wf o_sm o_sf o_rm o_rs, wML g o_a m_pl m_yl m_nd m_hm m_wk m_kd, wI g (o_a 11) 29 (geP m_kd y_f a b)] = _; simp only [List.flatten_cons, List.flatten_nil, List.append_nil, List.append_assoc]) ?_
          refine V_iload_n nX6_eats_49 rfl ?_
          have hB : etB o_nf o_ne m_kd y_f (nI a) (nI b) = true := by simp [etB, hp_a, hix_a, hp_b, hix_b, h26]
          refine V_top (y := bI true) rfl ?_
          exact R_z rfl X hQ nX6_eats_50 (by simp only [List.map_append, wI_fst, wML_fst, wO_fst]) (⟨by rw [hB], by simp only [etQ, hB, Bool.false_eq_true, ↓reduceIte, hix_a, hix_b]⟩)

set_option maxHeartbeats 4000000 in
set_option maxRecDepth 100000 in
theorem c_X6_does (g : Gx) (l : Launch) (o_a : Nat → Nat) (o_th : Int32) (o_ts : Nat) (o_pl : Nat) (o_nf : Nat) (o_ne : Nat) (o_rf : Nat) (o_re : Nat) (o_ac : Nat) (o_cm : Nat) (o_sd : Int64) (o_wf : Int32) (o_sm : Int32) (o_sf : Int32) (o_rm : Int32) (o_rs : Int32) (m_pl : Nat → Int32) (m_yl : Nat → Int32) (m_nd : Nat → Int32) (m_hm : Nat → Int32) (m_wk : Nat → Int32) (m_kd : Nat → Int32) (y_f : Nat → Int32) (r_f : Nat → Int32)  (t : Nat) (hnf : o_nf ≤ 4) (hne : o_ne ≤ 5) (ht : t < 1000) : Ct g l yX6_does mX6_does ({ frames := 4, cells := 0, slots := 0, locals := 99 } : Room) [.ref (o_a 0), .int (nI t)] ((wO g o_a o_th o_ts o_pl o_nf o_ne o_rf o_re o_ac o_cm o_sd o_wf o_sm o_sf o_rm o_rs) ++ (wML g o_a m_pl m_yl m_nd m_hm m_wk m_kd) ++ (wI g (o_a 11) 29 y_f) ++ (wI g (o_a 17) 5 r_f)) (fun r w' => ∃ (z_r : Nat → Int32) (z_w : Int32), r = (some (.int (bI (doB o_nf o_ne m_nd m_kd y_f t)))) ∧ w' = (wO g o_a o_th o_ts o_pl o_nf o_ne o_rf o_re o_ac o_cm o_sd z_w o_sm o_sf o_rm o_rs) ++ (wML g o_a m_pl m_yl m_nd m_hm m_wk m_kd) ++ (wI g (o_a 11) 29 (doQ o_nf o_ne m_pl m_yl m_nd m_hm m_wk m_kd y_f t)) ++ (wI g (o_a 17) 5 z_r)) := by
  refine Ct.of (lv := [(0, .ref (o_a 0)), (1, .int (nI t))]) ⟨by decide +kernel, rfl, Nat.le_of_ble_eq_true rfl⟩ rfl (fun E A sz Q X hQ => ?_)
  refine V_iload_n nX6_does_0 rfl ?_
  refine V_bipush (v := (nI 100)) nX6_does_1 (by decide) ?_
  refine V_idiv (v := nI (t / 100)) nX6_does_3 (nI_ne0 (by omega) (by omega)) (pk_div (by omega) (by omega) (by omega)) ?_
  refine V_istore_n (lv' := [(0, .ref (o_a 0)), (1, .int (nI t)), (2, .int (nI (t / 100)))]) nX6_does_4 (by decide) rfl ?_
  refine V_iload_n nX6_does_5 rfl ?_
  refine V_bipush (v := (nI 10)) nX6_does_6 (by decide) ?_
  refine V_idiv (v := nI (t / 10)) nX6_does_8 (nI_ne0 (by omega) (by omega)) (pk_div (by omega) (by omega) (by omega)) ?_
  refine V_bipush (v := (nI 10)) nX6_does_9 (by decide) ?_
  refine V_irem (v := nI ((t / 10) % 10)) nX6_does_11 (nI_ne0 (by omega) (by omega)) (pk_rem (by omega) (by omega) (by omega)) ?_
  refine V_istore_n (lv' := [(0, .ref (o_a 0)), (1, .int (nI t)), (2, .int (nI (t / 100))), (3, .int (nI ((t / 10) % 10)))]) nX6_does_12 (by decide) rfl ?_
  refine V_iload_n nX6_does_13 rfl ?_
  refine V_bipush (v := (nI 10)) nX6_does_14 (by decide) ?_
  refine V_irem (v := nI (t % 10)) nX6_does_16 (nI_ne0 (by omega) (by omega)) (pk_rem (by omega) (by omega) (by omega)) ?_
  refine V_istore (lv' := [(0, .ref (o_a 0)), (1, .int (nI t)), (2, .int (nI (t / 100))), (3, .int (nI ((t / 10) % 10))), (4, .int (nI (t % 10)))]) nX6_does_17 (by decide) rfl ?_
  refine V_iload_n nX6_does_19 rfl ?_
  refine V_if_ne_N (tgt := 36) nX6_does_20 rfl (by omega) (fun h20 => ?_) (fun h20 => ?_)
  · skip
    refine V_iload_n nX6_does_36 rfl ?_
    refine V_bipush (v := (nI 100)) nX6_does_37 (by decide) ?_
    refine V_icmp_ne_N (tgt := 53) nX6_does_39 rfl (by omega) (by omega) (fun h39 => ?_) (fun h39 => ?_)
    · skip
      refine V_iload_n nX6_does_53 rfl ?_
      rcases (show t / 100 = 2 ∨ t / 100 = 3 ∨ t / 100 = 4 ∨ (t / 100 < 2 ∨ 4 < t / 100) by omega) with hw | hw | hw | hw
      · skip
        refine V_tableIn (off := 26) (tgt := 80) nX6_does_54 (by rw [hw]; decide) (by rw [hw]; decide) (by rw [hw]; rfl) rfl ?_
        refine V_aload_n nX6_does_80 rfl ?_
        refine V_iload_n nX6_does_81 rfl ?_
        refine V_iload nX6_does_82 rfl ?_
        refine V_blk (ws' := ((wO g o_a o_th o_ts o_pl o_nf o_ne o_rf o_re o_ac o_cm o_sd o_wf o_sm o_sf o_rm o_rs) ++ (wML g o_a m_pl m_yl m_nd m_hm m_wk m_kd) ++ (wI g (o_a 11) 29 y_f)) ++ ((wI g (o_a 17) 5 r_f))) [wO g o_a o_th o_ts o_pl o_nf o_ne o_rf o_re o_ac o_cm o_sd o_wf o_sm o_sf o_rm o_rs, wML g o_a m_pl m_yl m_nd m_hm m_wk m_kd, wI g (o_a 11) 29 y_f, wI g (o_a 17) 5 r_f] [0, 1, 2, 3] rfl (by simp only [List.flatten_cons, List.flatten_nil, List.append_nil, List.append_assoc]) (by show List.flatten [wO g o_a o_th o_ts o_pl o_nf o_ne o_rf o_re o_ac o_cm o_sd o_wf o_sm o_sf o_rm o_rs, wML g o_a m_pl m_yl m_nd m_hm m_wk m_kd, wI g (o_a 11) 29 y_f, wI g (o_a 17) 5 r_f] = _; simp only [List.flatten_cons, List.flatten_nil, List.append_nil, List.append_assoc]) ?_
        refine V_cVi (C := (RX6, TX6, 34)) (ci := 6) (ws' := ((wO g o_a o_th o_ts o_pl o_nf o_ne o_rf o_re o_ac o_cm o_sd o_wf o_sm o_sf o_rm o_rs) ++ (wML g o_a m_pl m_yl m_nd m_hm m_wk m_kd) ++ (wI g (o_a 11) 29 (etQ o_nf o_ne m_kd y_f (nI ((t / 10) % 10)) (nI (t % 10))))) ++ ((wI g (o_a 17) 5 r_f))) (List.range _) 2 X (c_X6_eats g l o_a o_th o_ts o_pl o_nf o_ne o_rf o_re o_ac o_cm o_sd o_wf o_sm o_sf o_rm o_rs m_pl m_yl m_nd m_hm m_wk m_kd y_f  ((t / 10) % 10) (t % 10) (by omega) (by omega) (by omega) (by omega)) k_RX6_202 hy_X6_eats (by decide) (range_at _ _) (range_nd _) 0 rfl rfl nX6_does_84 rfl rfl (Nat.le_of_ble_eq_true rfl) (wput_range _ _ _ (by simp only [List.length_append, wI_len, wML_len, wO_len])) ?_
        refine V_blk (ws' := (wO g o_a o_th o_ts o_pl o_nf o_ne o_rf o_re o_ac o_cm o_sd o_wf o_sm o_sf o_rm o_rs) ++ (wML g o_a m_pl m_yl m_nd m_hm m_wk m_kd) ++ (wI g (o_a 11) 29 (etQ o_nf o_ne m_kd y_f (nI ((t / 10) % 10)) (nI (t % 10)))) ++ (wI g (o_a 17) 5 r_f)) [wO g o_a o_th o_ts o_pl o_nf o_ne o_rf o_re o_ac o_cm o_sd o_wf o_sm o_sf o_rm o_rs, wML g o_a m_pl m_yl m_nd m_hm m_wk m_kd, wI g (o_a 11) 29 (etQ o_nf o_ne m_kd y_f (nI ((t / 10) % 10)) (nI (t % 10))), wI g (o_a 17) 5 r_f] [0, 1, 2, 3] rfl (by simp only [List.flatten_cons, List.flatten_nil, List.append_nil, List.append_assoc]) (by show List.flatten [wO g o_a o_th o_ts o_pl o_nf o_ne o_rf o_re o_ac o_cm o_sd o_wf o_sm o_sf o_rm o_rs, wML g o_a m_pl m_yl m_nd m_hm m_wk m_kd, wI g (o_a 11) 29 (etQ o_nf o_ne m_kd y_f (nI ((t / 10) % 10)) (nI (t % 10))), wI g (o_a 17) 5 r_f] = _; simp only [List.flatten_cons, List.flatten_nil, List.append_nil, List.append_assoc]) ?_
        exact R_z rfl X hQ nX6_does_87 (by simp only [List.map_append, wI_fst, wML_fst, wO_fst]) (⟨r_f, o_wf, by simp [doB, h20, h39, hw], by simp [doQ, h20, h39, hw]⟩)
      · skip
        refine V_tableIn (off := 34) (tgt := 88) nX6_does_54 (by rw [hw]; decide) (by rw [hw]; decide) (by rw [hw]; rfl) rfl ?_
        refine V_iload_n nX6_does_88 rfl ?_
        refine V_if_ne_N (tgt := 121) nX6_does_89 rfl (by omega) (fun h89 => ?_) (fun h89 => ?_)
        · skip
          refine V_iconst (v := (nI 0)) nX6_does_121 rfl ?_
          refine V_top (y := bI false) rfl ?_
          exact R_z rfl X hQ nX6_does_122 (by simp only [List.map_append, wI_fst, wML_fst, wO_fst]) (⟨r_f, o_wf, by simp [doB, h20, h39, hw, h89], by simp [doQ, h20, h39, hw, h89]⟩)
        · skip
          refine V_aload_n nX6_does_92 rfl ?_
          refine V_iload nX6_does_93 rfl ?_
          refine V_blk (ws' := ((wO g o_a o_th o_ts o_pl o_nf o_ne o_rf o_re o_ac o_cm o_sd o_wf o_sm o_sf o_rm o_rs)) ++ ((wML g o_a m_pl m_yl m_nd m_hm m_wk m_kd) ++ (wI g (o_a 11) 29 y_f) ++ (wI g (o_a 17) 5 r_f))) [wO g o_a o_th o_ts o_pl o_nf o_ne o_rf o_re o_ac o_cm o_sd o_wf o_sm o_sf o_rm o_rs, wML g o_a m_pl m_yl m_nd m_hm m_wk m_kd, wI g (o_a 11) 29 y_f, wI g (o_a 17) 5 r_f] [0, 1, 2, 3] rfl (by simp only [List.flatten_cons, List.flatten_nil, List.append_nil, List.append_assoc]) (by show List.flatten [wO g o_a o_th o_ts o_pl o_nf o_ne o_rf o_re o_ac o_cm o_sd o_wf o_sm o_sf o_rm o_rs, wML g o_a m_pl m_yl m_nd m_hm m_wk m_kd, wI g (o_a 11) 29 y_f, wI g (o_a 17) 5 r_f] = _; simp only [List.flatten_cons, List.flatten_nil, List.append_nil, List.append_assoc]) ?_
          refine V_cVi (C := (RX6, TX6, 34)) (ci := 6) (ws' := ((wO g o_a o_th o_ts o_pl o_nf o_ne o_rf o_re o_ac o_cm o_sd o_wf o_sm o_sf o_rm o_rs)) ++ ((wML g o_a m_pl m_yl m_nd m_hm m_wk m_kd) ++ (wI g (o_a 11) 29 y_f) ++ (wI g (o_a 17) 5 r_f))) (List.range _) 1 X (c_X6_noField g l o_a o_th o_ts o_pl o_nf o_ne o_rf o_re o_ac o_cm o_sd o_wf o_sm o_sf o_rm o_rs  (nI (t % 10)) (by omega)) k_RX6_167 hy_X6_noField (by decide) (range_at _ _) (range_nd _) 0 rfl rfl nX6_does_95 rfl rfl (Nat.le_of_ble_eq_true rfl) (wput_range _ _ _ (by simp only [List.length_append, wO_len])) ?_
          refine V_blk (ws' := (wO g o_a o_th o_ts o_pl o_nf o_ne o_rf o_re o_ac o_cm o_sd o_wf o_sm o_sf o_rm o_rs) ++ (wML g o_a m_pl m_yl m_nd m_hm m_wk m_kd) ++ (wI g (o_a 11) 29 y_f) ++ (wI g (o_a 17) 5 r_f)) [wO g o_a o_th o_ts o_pl o_nf o_ne o_rf o_re o_ac o_cm o_sd o_wf o_sm o_sf o_rm o_rs, wML g o_a m_pl m_yl m_nd m_hm m_wk m_kd, wI g (o_a 11) 29 y_f, wI g (o_a 17) 5 r_f] [0, 1, 2, 3] rfl (by simp only [List.flatten_cons, List.flatten_nil, List.append_nil, List.append_assoc]) (by show List.flatten [wO g o_a o_th o_ts o_pl o_nf o_ne o_rf o_re o_ac o_cm o_sd o_wf o_sm o_sf o_rm o_rs, wML g o_a m_pl m_yl m_nd m_hm m_wk m_kd, wI g (o_a 11) 29 y_f, wI g (o_a 17) 5 r_f] = _; simp only [List.flatten_cons, List.flatten_nil, List.append_nil, List.append_assoc]) ?_
          refine V_if_ne_b (tgt := 121) nX6_does_98 rfl (fun h98 => ?_) (fun h98 => ?_)
          · skip
            have hn_b : hasN o_nf (nI (t % 10)) = false := by rw [Bool.not_eq_true'] at h98; exact h98
            refine V_iconst (v := (nI 0)) nX6_does_121 rfl ?_
            refine V_top (y := bI false) rfl ?_
            exact R_z rfl X hQ nX6_does_122 (by simp only [List.map_append, wI_fst, wML_fst, wO_fst]) (⟨r_f, o_wf, by simp [doB, h20, h39, hw, h89, hn_b], by simp [doQ, h20, h39, hw, h89, hn_b]⟩)
          · skip
            have hp_b : hasN o_nf (nI (t % 10)) = true := by rw [Bool.not_eq_false'] at h98; exact h98
            have hl_b := hasN_lt hp_b (by omega) (by omega)
            have hix_b : ix (nI (t % 10)) = t % 10 := ix_nI (by omega)
            refine V_aload_n nX6_does_101 rfl ?_
            refine V_aload_n nX6_does_102 rfl ?_
            refine V_get6 0 17 (by decide) f_RX6_40 nX6_does_103 rfl rfl ?_
            refine V_blk (ws' := ((wO g o_a o_th o_ts o_pl o_nf o_ne o_rf o_re o_ac o_cm o_sd o_wf o_sm o_sf o_rm o_rs) ++ (wML g o_a m_pl m_yl m_nd m_hm m_wk m_kd) ++ (wI g (o_a 11) 29 y_f)) ++ ((wI g (o_a 17) 5 r_f))) [wO g o_a o_th o_ts o_pl o_nf o_ne o_rf o_re o_ac o_cm o_sd o_wf o_sm o_sf o_rm o_rs, wML g o_a m_pl m_yl m_nd m_hm m_wk m_kd, wI g (o_a 11) 29 y_f, wI g (o_a 17) 5 r_f] [0, 1, 2, 3] rfl (by simp only [List.flatten_cons, List.flatten_nil, List.append_nil, List.append_assoc]) (by show List.flatten [wO g o_a o_th o_ts o_pl o_nf o_ne o_rf o_re o_ac o_cm o_sd o_wf o_sm o_sf o_rm o_rs, wML g o_a m_pl m_yl m_nd m_hm m_wk m_kd, wI g (o_a 11) 29 y_f, wI g (o_a 17) 5 r_f] = _; simp only [List.flatten_cons, List.flatten_nil, List.append_nil, List.append_assoc]) ?_
            refine V_cVi (C := (RX6, TX6, 34)) (ci := 6) (ws' := ((wO g o_a o_th o_ts o_pl o_nf o_ne o_rf o_re o_ac o_cm o_sd o_wf o_sm o_sf o_rm o_rs) ++ (wML g o_a m_pl m_yl m_nd m_hm m_wk m_kd) ++ (wI g (o_a 11) 29 y_f)) ++ ((wI g (o_a 17) 5 r_f))) (List.range _) 1 X (c_X6_sown g l o_a o_th o_ts o_pl o_nf o_ne o_rf o_re o_ac o_cm o_sd o_wf o_sm o_sf o_rm o_rs m_pl m_yl m_nd m_hm m_wk m_kd (o_a 11) y_f   (by omega)) k_RX6_141 hy_X6_sown (by decide) (range_at _ _) (range_nd _) 0 rfl rfl nX6_does_106 rfl rfl (Nat.le_of_ble_eq_true rfl) (wput_range _ _ _ (by simp only [List.length_append, wI_len, wML_len, wO_len])) ?_
            refine V_blk (ws' := (wO g o_a o_th o_ts o_pl o_nf o_ne o_rf o_re o_ac o_cm o_sd o_wf o_sm o_sf o_rm o_rs) ++ (wML g o_a m_pl m_yl m_nd m_hm m_wk m_kd) ++ (wI g (o_a 11) 29 y_f) ++ (wI g (o_a 17) 5 r_f)) [wO g o_a o_th o_ts o_pl o_nf o_ne o_rf o_re o_ac o_cm o_sd o_wf o_sm o_sf o_rm o_rs, wML g o_a m_pl m_yl m_nd m_hm m_wk m_kd, wI g (o_a 11) 29 y_f, wI g (o_a 17) 5 r_f] [0, 1, 2, 3] rfl (by simp only [List.flatten_cons, List.flatten_nil, List.append_nil, List.append_assoc]) (by show List.flatten [wO g o_a o_th o_ts o_pl o_nf o_ne o_rf o_re o_ac o_cm o_sd o_wf o_sm o_sf o_rm o_rs, wML g o_a m_pl m_yl m_nd m_hm m_wk m_kd, wI g (o_a 11) 29 y_f, wI g (o_a 17) 5 r_f] = _; simp only [List.flatten_cons, List.flatten_nil, List.append_nil, List.append_assoc]) ?_
            refine V_iload nX6_does_109 rfl ?_
            refine V_cSi (ws' := (wO g o_a o_th o_ts o_pl o_nf o_ne o_rf o_re o_ac o_cm o_sd o_wf o_sm o_sf o_rm o_rs) ++ (wML g o_a m_pl m_yl m_nd m_hm m_wk m_kd) ++ (wI g (o_a 11) 29 y_f) ++ (wI g (o_a 17) 5 r_f)) [] 2 X (c_X6_has g l   (swP m_nd y_f o_nf) (t % 10) (Nat.lt_trans (swP_lt hnf _ _) (by decide)) (by omega)) k_RX6_134 hy_X6_has.2 (by decide) rfl (by decide) nX6_does_111 rfl rfl (Nat.le_of_ble_eq_true rfl) rfl ?_
            refine V_if_eq_b (tgt := 121) nX6_does_114 rfl (fun h114 => ?_) (fun h114 => ?_)
            · skip
              refine V_iconst (v := (nI 0)) nX6_does_121 rfl ?_
              refine V_top (y := bI false) rfl ?_
              exact R_z rfl X hQ nX6_does_122 (by simp only [List.map_append, wI_fst, wML_fst, wO_fst]) (⟨r_f, o_wf, by simp [doB, h20, h39, hw, h89, hp_b, hix_b, h114], by simp [doQ, h20, h39, hw, h89, hp_b, hix_b, h114]⟩)
            · skip
              refine V_iconst (v := (nI 1)) nX6_does_117 rfl ?_
              refine V_goto (tgt := 122) nX6_does_118 rfl ?_
              refine V_top (y := bI true) rfl ?_
              exact R_z rfl X hQ nX6_does_122 (by simp only [List.map_append, wI_fst, wML_fst, wO_fst]) (⟨r_f, o_wf, by simp [doB, h20, h39, hw, h89, hp_b, hix_b, h114], by simp [doQ, h20, h39, hw, h89, hp_b, hix_b, h114]⟩)
      · skip
        refine V_tableIn (off := 69) (tgt := 123) nX6_does_54 (by rw [hw]; decide) (by rw [hw]; decide) (by rw [hw]; rfl) rfl ?_
        refine V_aload_n nX6_does_123 rfl ?_
        refine V_iload_n nX6_does_124 rfl ?_
        refine V_blk (ws' := ((wO g o_a o_th o_ts o_pl o_nf o_ne o_rf o_re o_ac o_cm o_sd o_wf o_sm o_sf o_rm o_rs)) ++ ((wML g o_a m_pl m_yl m_nd m_hm m_wk m_kd) ++ (wI g (o_a 11) 29 y_f) ++ (wI g (o_a 17) 5 r_f))) [wO g o_a o_th o_ts o_pl o_nf o_ne o_rf o_re o_ac o_cm o_sd o_wf o_sm o_sf o_rm o_rs, wML g o_a m_pl m_yl m_nd m_hm m_wk m_kd, wI g (o_a 11) 29 y_f, wI g (o_a 17) 5 r_f] [0, 1, 2, 3] rfl (by simp only [List.flatten_cons, List.flatten_nil, List.append_nil, List.append_assoc]) (by show List.flatten [wO g o_a o_th o_ts o_pl o_nf o_ne o_rf o_re o_ac o_cm o_sd o_wf o_sm o_sf o_rm o_rs, wML g o_a m_pl m_yl m_nd m_hm m_wk m_kd, wI g (o_a 11) 29 y_f, wI g (o_a 17) 5 r_f] = _; simp only [List.flatten_cons, List.flatten_nil, List.append_nil, List.append_assoc]) ?_
        refine V_cVi (C := (RX6, TX6, 34)) (ci := 6) (ws' := ((wO g o_a o_th o_ts o_pl o_nf o_ne o_rf o_re o_ac o_cm o_sd o_wf o_sm o_sf o_rm o_rs)) ++ ((wML g o_a m_pl m_yl m_nd m_hm m_wk m_kd) ++ (wI g (o_a 11) 29 y_f) ++ (wI g (o_a 17) 5 r_f))) (List.range _) 1 X (c_X6_noField g l o_a o_th o_ts o_pl o_nf o_ne o_rf o_re o_ac o_cm o_sd o_wf o_sm o_sf o_rm o_rs  (nI ((t / 10) % 10)) (by omega)) k_RX6_167 hy_X6_noField (by decide) (range_at _ _) (range_nd _) 0 rfl rfl nX6_does_125 rfl rfl (Nat.le_of_ble_eq_true rfl) (wput_range _ _ _ (by simp only [List.length_append, wO_len])) ?_
        refine V_blk (ws' := (wO g o_a o_th o_ts o_pl o_nf o_ne o_rf o_re o_ac o_cm o_sd o_wf o_sm o_sf o_rm o_rs) ++ (wML g o_a m_pl m_yl m_nd m_hm m_wk m_kd) ++ (wI g (o_a 11) 29 y_f) ++ (wI g (o_a 17) 5 r_f)) [wO g o_a o_th o_ts o_pl o_nf o_ne o_rf o_re o_ac o_cm o_sd o_wf o_sm o_sf o_rm o_rs, wML g o_a m_pl m_yl m_nd m_hm m_wk m_kd, wI g (o_a 11) 29 y_f, wI g (o_a 17) 5 r_f] [0, 1, 2, 3] rfl (by simp only [List.flatten_cons, List.flatten_nil, List.append_nil, List.append_assoc]) (by show List.flatten [wO g o_a o_th o_ts o_pl o_nf o_ne o_rf o_re o_ac o_cm o_sd o_wf o_sm o_sf o_rm o_rs, wML g o_a m_pl m_yl m_nd m_hm m_wk m_kd, wI g (o_a 11) 29 y_f, wI g (o_a 17) 5 r_f] = _; simp only [List.flatten_cons, List.flatten_nil, List.append_nil, List.append_assoc]) ?_
        refine V_if_ne_b (tgt := 146) nX6_does_128 rfl (fun h128 => ?_) (fun h128 => ?_)
        · skip
          have hn_a : hasN o_nf (nI (t / 10 % 10)) = false := by rw [Bool.not_eq_true'] at h128; exact h128
          refine V_iconst (v := (nI 0)) nX6_does_146 rfl ?_
          refine V_top (y := bI false) rfl ?_
          exact R_z rfl X hQ nX6_does_147 (by simp only [List.map_append, wI_fst, wML_fst, wO_fst]) (⟨r_f, o_wf, by simp [doB, h20, h39, hw, hn_a], by simp [doQ, h20, h39, hw, hn_a]⟩)
        · skip
          have hp_a : hasN o_nf (nI (t / 10 % 10)) = true := by rw [Bool.not_eq_false'] at h128; exact h128
          have hl_a := hasN_lt hp_a (by omega) (by omega)
          have hix_a : ix (nI (t / 10 % 10)) = t / 10 % 10 := ix_nI (by omega)
          refine V_aload_n nX6_does_131 rfl ?_
          refine V_get6 0 17 (by decide) f_RX6_40 nX6_does_132 rfl rfl ?_
          refine V_iload_n nX6_does_135 rfl ?_
          refine V_iald 7 nX6_does_136 rfl (by omega) (by decide) rfl ?_
          refine V_iload nX6_does_137 rfl ?_
          refine V_icmp_lt (tgt := 146) nX6_does_139 rfl (fun h139 => ?_) (fun h139 => ?_)
          · skip
            refine V_iconst (v := (nI 0)) nX6_does_146 rfl ?_
            refine V_top (y := bI false) rfl ?_
            exact R_z rfl X hQ nX6_does_147 (by simp only [List.map_append, wI_fst, wML_fst, wO_fst]) (⟨r_f, o_wf, by simp [doB, h20, h39, hw, hp_a, hix_a, h139], by simp [doQ, h20, h39, hw, hp_a, hix_a, h139]⟩)
          · skip
            refine V_iconst (v := (nI 1)) nX6_does_142 rfl ?_
            refine V_goto (tgt := 147) nX6_does_143 rfl ?_
            refine V_top (y := bI true) rfl ?_
            exact R_z rfl X hQ nX6_does_147 (by simp only [List.map_append, wI_fst, wML_fst, wO_fst]) (⟨r_f, o_wf, by simp [doB, h20, h39, hw, hp_a, hix_a, h139], by simp [doQ, h20, h39, hw, hp_a, hix_a, h139]⟩)
      · skip
        have hw2 : ¬ t / 100 = 2 := by omega
        have hw3 : ¬ t / 100 = 3 := by omega
        have hw4 : ¬ t / 100 = 4 := by omega
        refine V_tableOut (tgt := 148) nX6_does_54 (by rw [nI_toInt (by omega)]; omega) rfl ?_
        refine V_iload_n nX6_does_148 rfl ?_
        refine V_iconst (v := (nI 5)) nX6_does_149 rfl ?_
        refine V_icmp_ne_N (tgt := 187) nX6_does_150 rfl (by omega) (by omega) (fun h150 => ?_) (fun h150 => ?_)
        · skip
          refine V_iconst (v := (nI 0)) nX6_does_187 rfl ?_
          refine V_top (y := bI false) rfl ?_
          exact R_z rfl X hQ nX6_does_188 (by simp only [List.map_append, wI_fst, wML_fst, wO_fst]) (⟨r_f, o_wf, by simp [doB, h20, h39, hw2, hw3, hw4, h150], by simp [doQ, h20, h39, hw2, hw3, hw4, h150]⟩)
        · skip
          refine V_aload_n nX6_does_153 rfl ?_
          refine V_iload_n nX6_does_154 rfl ?_
          refine V_blk (ws' := ((wO g o_a o_th o_ts o_pl o_nf o_ne o_rf o_re o_ac o_cm o_sd o_wf o_sm o_sf o_rm o_rs)) ++ ((wML g o_a m_pl m_yl m_nd m_hm m_wk m_kd) ++ (wI g (o_a 11) 29 y_f) ++ (wI g (o_a 17) 5 r_f))) [wO g o_a o_th o_ts o_pl o_nf o_ne o_rf o_re o_ac o_cm o_sd o_wf o_sm o_sf o_rm o_rs, wML g o_a m_pl m_yl m_nd m_hm m_wk m_kd, wI g (o_a 11) 29 y_f, wI g (o_a 17) 5 r_f] [0, 1, 2, 3] rfl (by simp only [List.flatten_cons, List.flatten_nil, List.append_nil, List.append_assoc]) (by show List.flatten [wO g o_a o_th o_ts o_pl o_nf o_ne o_rf o_re o_ac o_cm o_sd o_wf o_sm o_sf o_rm o_rs, wML g o_a m_pl m_yl m_nd m_hm m_wk m_kd, wI g (o_a 11) 29 y_f, wI g (o_a 17) 5 r_f] = _; simp only [List.flatten_cons, List.flatten_nil, List.append_nil, List.append_assoc]) ?_
          refine V_cVi (C := (RX6, TX6, 34)) (ci := 6) (ws' := ((wO g o_a o_th o_ts o_pl o_nf o_ne o_rf o_re o_ac o_cm o_sd o_wf o_sm o_sf o_rm o_rs)) ++ ((wML g o_a m_pl m_yl m_nd m_hm m_wk m_kd) ++ (wI g (o_a 11) 29 y_f) ++ (wI g (o_a 17) 5 r_f))) (List.range _) 1 X (c_X6_noEater g l o_a o_th o_ts o_pl o_nf o_ne o_rf o_re o_ac o_cm o_sd o_wf o_sm o_sf o_rm o_rs  (nI ((t / 10) % 10)) (by omega)) k_RX6_174 hy_X6_noEater (by decide) (range_at _ _) (range_nd _) 0 rfl rfl nX6_does_155 rfl rfl (Nat.le_of_ble_eq_true rfl) (wput_range _ _ _ (by simp only [List.length_append, wO_len])) ?_
          refine V_blk (ws' := (wO g o_a o_th o_ts o_pl o_nf o_ne o_rf o_re o_ac o_cm o_sd o_wf o_sm o_sf o_rm o_rs) ++ (wML g o_a m_pl m_yl m_nd m_hm m_wk m_kd) ++ (wI g (o_a 11) 29 y_f) ++ (wI g (o_a 17) 5 r_f)) [wO g o_a o_th o_ts o_pl o_nf o_ne o_rf o_re o_ac o_cm o_sd o_wf o_sm o_sf o_rm o_rs, wML g o_a m_pl m_yl m_nd m_hm m_wk m_kd, wI g (o_a 11) 29 y_f, wI g (o_a 17) 5 r_f] [0, 1, 2, 3] rfl (by simp only [List.flatten_cons, List.flatten_nil, List.append_nil, List.append_assoc]) (by show List.flatten [wO g o_a o_th o_ts o_pl o_nf o_ne o_rf o_re o_ac o_cm o_sd o_wf o_sm o_sf o_rm o_rs, wML g o_a m_pl m_yl m_nd m_hm m_wk m_kd, wI g (o_a 11) 29 y_f, wI g (o_a 17) 5 r_f] = _; simp only [List.flatten_cons, List.flatten_nil, List.append_nil, List.append_assoc]) ?_
          refine V_if_ne_b (tgt := 187) nX6_does_158 rfl (fun h158 => ?_) (fun h158 => ?_)
          · skip
            have hn_a : hasN o_ne (nI (t / 10 % 10)) = false := by rw [Bool.not_eq_true'] at h158; exact h158
            refine V_iconst (v := (nI 0)) nX6_does_187 rfl ?_
            refine V_top (y := bI false) rfl ?_
            exact R_z rfl X hQ nX6_does_188 (by simp only [List.map_append, wI_fst, wML_fst, wO_fst]) (⟨r_f, o_wf, by simp [doB, h20, h39, hw2, hw3, hw4, h150, hn_a], by simp [doQ, h20, h39, hw2, hw3, hw4, h150, hn_a]⟩)
          · skip
            have hp_a : hasN o_ne (nI (t / 10 % 10)) = true := by rw [Bool.not_eq_false'] at h158; exact h158
            have hl_a := hasN_lt hp_a (by omega) (by omega)
            have hix_a : ix (nI (t / 10 % 10)) = t / 10 % 10 := ix_nI (by omega)
            refine V_aload_n nX6_does_161 rfl ?_
            refine V_iload nX6_does_162 rfl ?_
            refine V_blk (ws' := ((wO g o_a o_th o_ts o_pl o_nf o_ne o_rf o_re o_ac o_cm o_sd o_wf o_sm o_sf o_rm o_rs)) ++ ((wML g o_a m_pl m_yl m_nd m_hm m_wk m_kd) ++ (wI g (o_a 11) 29 y_f) ++ (wI g (o_a 17) 5 r_f))) [wO g o_a o_th o_ts o_pl o_nf o_ne o_rf o_re o_ac o_cm o_sd o_wf o_sm o_sf o_rm o_rs, wML g o_a m_pl m_yl m_nd m_hm m_wk m_kd, wI g (o_a 11) 29 y_f, wI g (o_a 17) 5 r_f] [0, 1, 2, 3] rfl (by simp only [List.flatten_cons, List.flatten_nil, List.append_nil, List.append_assoc]) (by show List.flatten [wO g o_a o_th o_ts o_pl o_nf o_ne o_rf o_re o_ac o_cm o_sd o_wf o_sm o_sf o_rm o_rs, wML g o_a m_pl m_yl m_nd m_hm m_wk m_kd, wI g (o_a 11) 29 y_f, wI g (o_a 17) 5 r_f] = _; simp only [List.flatten_cons, List.flatten_nil, List.append_nil, List.append_assoc]) ?_
            refine V_cVi (C := (RX6, TX6, 34)) (ci := 6) (ws' := ((wO g o_a o_th o_ts o_pl o_nf o_ne o_rf o_re o_ac o_cm o_sd o_wf o_sm o_sf o_rm o_rs)) ++ ((wML g o_a m_pl m_yl m_nd m_hm m_wk m_kd) ++ (wI g (o_a 11) 29 y_f) ++ (wI g (o_a 17) 5 r_f))) (List.range _) 1 X (c_X6_noField g l o_a o_th o_ts o_pl o_nf o_ne o_rf o_re o_ac o_cm o_sd o_wf o_sm o_sf o_rm o_rs  (nI (t % 10)) (by omega)) k_RX6_167 hy_X6_noField (by decide) (range_at _ _) (range_nd _) 0 rfl rfl nX6_does_164 rfl rfl (Nat.le_of_ble_eq_true rfl) (wput_range _ _ _ (by simp only [List.length_append, wO_len])) ?_
            refine V_blk (ws' := (wO g o_a o_th o_ts o_pl o_nf o_ne o_rf o_re o_ac o_cm o_sd o_wf o_sm o_sf o_rm o_rs) ++ (wML g o_a m_pl m_yl m_nd m_hm m_wk m_kd) ++ (wI g (o_a 11) 29 y_f) ++ (wI g (o_a 17) 5 r_f)) [wO g o_a o_th o_ts o_pl o_nf o_ne o_rf o_re o_ac o_cm o_sd o_wf o_sm o_sf o_rm o_rs, wML g o_a m_pl m_yl m_nd m_hm m_wk m_kd, wI g (o_a 11) 29 y_f, wI g (o_a 17) 5 r_f] [0, 1, 2, 3] rfl (by simp only [List.flatten_cons, List.flatten_nil, List.append_nil, List.append_assoc]) (by show List.flatten [wO g o_a o_th o_ts o_pl o_nf o_ne o_rf o_re o_ac o_cm o_sd o_wf o_sm o_sf o_rm o_rs, wML g o_a m_pl m_yl m_nd m_hm m_wk m_kd, wI g (o_a 11) 29 y_f, wI g (o_a 17) 5 r_f] = _; simp only [List.flatten_cons, List.flatten_nil, List.append_nil, List.append_assoc]) ?_
            refine V_if_ne_b (tgt := 187) nX6_does_167 rfl (fun h167 => ?_) (fun h167 => ?_)
            · skip
              have hn_b : hasN o_nf (nI (t % 10)) = false := by rw [Bool.not_eq_true'] at h167; exact h167
              refine V_iconst (v := (nI 0)) nX6_does_187 rfl ?_
              refine V_top (y := bI false) rfl ?_
              exact R_z rfl X hQ nX6_does_188 (by simp only [List.map_append, wI_fst, wML_fst, wO_fst]) (⟨r_f, o_wf, by simp [doB, h20, h39, hw2, hw3, hw4, h150, hp_a, hix_a, hn_b], by simp [doQ, h20, h39, hw2, hw3, hw4, h150, hp_a, hix_a, hn_b]⟩)
            · skip
              have hp_b : hasN o_nf (nI (t % 10)) = true := by rw [Bool.not_eq_false'] at h167; exact h167
              have hl_b := hasN_lt hp_b (by omega) (by omega)
              have hix_b : ix (nI (t % 10)) = t % 10 := ix_nI (by omega)
              refine V_aload_n nX6_does_170 rfl ?_
              refine V_get6 0 17 (by decide) f_RX6_40 nX6_does_171 rfl rfl ?_
              refine V_iload_n nX6_does_174 rfl ?_
              refine V_iload nX6_does_175 rfl ?_
              refine V_blk (ws' := ((wI g (o_a 11) 29 y_f)) ++ ((wO g o_a o_th o_ts o_pl o_nf o_ne o_rf o_re o_ac o_cm o_sd o_wf o_sm o_sf o_rm o_rs) ++ (wML g o_a m_pl m_yl m_nd m_hm m_wk m_kd) ++ (wI g (o_a 17) 5 r_f))) [wO g o_a o_th o_ts o_pl o_nf o_ne o_rf o_re o_ac o_cm o_sd o_wf o_sm o_sf o_rm o_rs, wML g o_a m_pl m_yl m_nd m_hm m_wk m_kd, wI g (o_a 11) 29 y_f, wI g (o_a 17) 5 r_f] [2, 0, 1, 3] rfl (by simp only [List.flatten_cons, List.flatten_nil, List.append_nil, List.append_assoc]) (by show List.flatten [wI g (o_a 11) 29 y_f, wO g o_a o_th o_ts o_pl o_nf o_ne o_rf o_re o_ac o_cm o_sd o_wf o_sm o_sf o_rm o_rs, wML g o_a m_pl m_yl m_nd m_hm m_wk m_kd, wI g (o_a 17) 5 r_f] = _; simp only [List.flatten_cons, List.flatten_nil, List.append_nil, List.append_assoc]) ?_
              refine V_cSi (ws' := ((wI g (o_a 11) 29 y_f)) ++ ((wO g o_a o_th o_ts o_pl o_nf o_ne o_rf o_re o_ac o_cm o_sd o_wf o_sm o_sf o_rm o_rs) ++ (wML g o_a m_pl m_yl m_nd m_hm m_wk m_kd) ++ (wI g (o_a 17) 5 r_f))) (List.range _) 3 X (c_X6_owed g l (o_a 11) y_f  ((t / 10) % 10) (t % 10) (by omega) (by omega)) k_RX6_117 hy_X6_owed.2 (by decide) (range_at _ _) (range_nd _) nX6_does_177 rfl rfl (Nat.le_of_ble_eq_true rfl) (wput_range _ _ _ (by simp only [List.length_append, wI_len])) ?_
              refine V_blk (ws' := (wO g o_a o_th o_ts o_pl o_nf o_ne o_rf o_re o_ac o_cm o_sd o_wf o_sm o_sf o_rm o_rs) ++ (wML g o_a m_pl m_yl m_nd m_hm m_wk m_kd) ++ (wI g (o_a 11) 29 y_f) ++ (wI g (o_a 17) 5 r_f)) [wI g (o_a 11) 29 y_f, wO g o_a o_th o_ts o_pl o_nf o_ne o_rf o_re o_ac o_cm o_sd o_wf o_sm o_sf o_rm o_rs, wML g o_a m_pl m_yl m_nd m_hm m_wk m_kd, wI g (o_a 17) 5 r_f] [1, 2, 0, 3] rfl (by simp only [List.flatten_cons, List.flatten_nil, List.append_nil, List.append_assoc]) (by show List.flatten [wO g o_a o_th o_ts o_pl o_nf o_ne o_rf o_re o_ac o_cm o_sd o_wf o_sm o_sf o_rm o_rs, wML g o_a m_pl m_yl m_nd m_hm m_wk m_kd, wI g (o_a 11) 29 y_f, wI g (o_a 17) 5 r_f] = _; simp only [List.flatten_cons, List.flatten_nil, List.append_nil, List.append_assoc]) ?_
              refine V_if_le (tgt := 187) nX6_does_180 rfl (fun h180 => ?_) (fun h180 => ?_)
              · skip
                refine V_iconst (v := (nI 0)) nX6_does_187 rfl ?_
                refine V_top (y := bI false) rfl ?_
                exact R_z rfl X hQ nX6_does_188 (by simp only [List.map_append, wI_fst, wML_fst, wO_fst]) (⟨r_f, o_wf, by simp [doB, h20, h39, hw2, hw3, hw4, h150, hp_a, hix_a, hp_b, hix_b, h180], by simp [doQ, h20, h39, hw2, hw3, hw4, h150, hp_a, hix_a, hp_b, hix_b, h180]⟩)
              · skip
                refine V_iconst (v := (nI 1)) nX6_does_183 rfl ?_
                refine V_goto (tgt := 188) nX6_does_184 rfl ?_
                refine V_top (y := bI true) rfl ?_
                exact R_z rfl X hQ nX6_does_188 (by simp only [List.map_append, wI_fst, wML_fst, wO_fst]) (⟨r_f, o_wf, by simp [doB, h20, h39, hw2, hw3, hw4, h150, hp_a, hix_a, hp_b, hix_b, h180], by simp [doQ, h20, h39, hw2, hw3, hw4, h150, hp_a, hix_a, hp_b, hix_b, h180]⟩)
    · skip
      refine V_aload_n nX6_does_42 rfl ?_
      refine V_aload_n nX6_does_43 rfl ?_
      refine V_get6 0 17 (by decide) f_RX6_40 nX6_does_44 rfl rfl ?_
      refine V_blk (ws' := ((wO g o_a o_th o_ts o_pl o_nf o_ne o_rf o_re o_ac o_cm o_sd o_wf o_sm o_sf o_rm o_rs) ++ (wML g o_a m_pl m_yl m_nd m_hm m_wk m_kd) ++ (wI g (o_a 11) 29 y_f)) ++ ((wI g (o_a 17) 5 r_f))) [wO g o_a o_th o_ts o_pl o_nf o_ne o_rf o_re o_ac o_cm o_sd o_wf o_sm o_sf o_rm o_rs, wML g o_a m_pl m_yl m_nd m_hm m_wk m_kd, wI g (o_a 11) 29 y_f, wI g (o_a 17) 5 r_f] [0, 1, 2, 3] rfl (by simp only [List.flatten_cons, List.flatten_nil, List.append_nil, List.append_assoc]) (by show List.flatten [wO g o_a o_th o_ts o_pl o_nf o_ne o_rf o_re o_ac o_cm o_sd o_wf o_sm o_sf o_rm o_rs, wML g o_a m_pl m_yl m_nd m_hm m_wk m_kd, wI g (o_a 11) 29 y_f, wI g (o_a 17) 5 r_f] = _; simp only [List.flatten_cons, List.flatten_nil, List.append_nil, List.append_assoc]) ?_
      refine V_cVi (C := (RX6, TX6, 34)) (ci := 6) (ws' := ((wO g o_a o_th o_ts o_pl o_nf o_ne o_rf o_re o_ac o_cm o_sd o_wf o_sm o_sf o_rm o_rs) ++ (wML g o_a m_pl m_yl m_nd m_hm m_wk m_kd) ++ (wI g (o_a 11) 29 (hvQ m_yl m_nd y_f o_nf))) ++ ((wI g (o_a 17) 5 r_f))) (List.range _) 1 X (c_X6_goHarvest g l o_a o_th o_ts o_pl o_nf o_ne o_rf o_re o_ac o_cm o_sd o_wf o_sm o_sf o_rm o_rs m_pl m_yl m_nd m_hm m_wk m_kd (o_a 11) y_f   (by omega)) k_RX6_191 hy_X6_goHarvest (by decide) (range_at _ _) (range_nd _) 0 rfl rfl nX6_does_47 rfl rfl (Nat.le_of_ble_eq_true rfl) (wput_range _ _ _ (by simp only [List.length_append, wI_len, wML_len, wO_len])) ?_
      refine V_blk (ws' := (wO g o_a o_th o_ts o_pl o_nf o_ne o_rf o_re o_ac o_cm o_sd o_wf o_sm o_sf o_rm o_rs) ++ (wML g o_a m_pl m_yl m_nd m_hm m_wk m_kd) ++ (wI g (o_a 11) 29 (hvQ m_yl m_nd y_f o_nf)) ++ (wI g (o_a 17) 5 r_f)) [wO g o_a o_th o_ts o_pl o_nf o_ne o_rf o_re o_ac o_cm o_sd o_wf o_sm o_sf o_rm o_rs, wML g o_a m_pl m_yl m_nd m_hm m_wk m_kd, wI g (o_a 11) 29 (hvQ m_yl m_nd y_f o_nf), wI g (o_a 17) 5 r_f] [0, 1, 2, 3] rfl (by simp only [List.flatten_cons, List.flatten_nil, List.append_nil, List.append_assoc]) (by show List.flatten [wO g o_a o_th o_ts o_pl o_nf o_ne o_rf o_re o_ac o_cm o_sd o_wf o_sm o_sf o_rm o_rs, wML g o_a m_pl m_yl m_nd m_hm m_wk m_kd, wI g (o_a 11) 29 (hvQ m_yl m_nd y_f o_nf), wI g (o_a 17) 5 r_f] = _; simp only [List.flatten_cons, List.flatten_nil, List.append_nil, List.append_assoc]) ?_
      refine V_pop nX6_does_50 rfl ?_
      refine V_iconst (v := (nI 1)) nX6_does_51 rfl ?_
      refine V_top (y := bI true) rfl ?_
      exact R_z rfl X hQ nX6_does_52 (by simp only [List.map_append, wI_fst, wML_fst, wO_fst]) (⟨r_f, o_wf, by simp [doB, h20, h39], by simp [doQ, h20, h39]⟩)
  · skip
    refine V_aload_n nX6_does_23 rfl ?_
    refine V_aload_n nX6_does_24 rfl ?_
    refine V_get6 0 17 (by decide) f_RX6_40 nX6_does_25 rfl rfl ?_
    refine V_bipush (v := (nI 31)) nX6_does_28 (by decide) ?_
    refine V_blk (ws' := ((wO g o_a o_th o_ts o_pl o_nf o_ne o_rf o_re o_ac o_cm o_sd o_wf o_sm o_sf o_rm o_rs) ++ (wML g o_a m_pl m_yl m_nd m_hm m_wk m_kd) ++ (wI g (o_a 11) 29 y_f) ++ (wI g (o_a 17) 5 r_f)) ++ ([] : va_W)) [wO g o_a o_th o_ts o_pl o_nf o_ne o_rf o_re o_ac o_cm o_sd o_wf o_sm o_sf o_rm o_rs, wML g o_a m_pl m_yl m_nd m_hm m_wk m_kd, wI g (o_a 11) 29 y_f, wI g (o_a 17) 5 r_f] [0, 1, 2, 3] rfl (by simp only [List.flatten_cons, List.flatten_nil, List.append_nil, List.append_assoc]) (by show List.flatten [wO g o_a o_th o_ts o_pl o_nf o_ne o_rf o_re o_ac o_cm o_sd o_wf o_sm o_sf o_rm o_rs, wML g o_a m_pl m_yl m_nd m_hm m_wk m_kd, wI g (o_a 11) 29 y_f, wI g (o_a 17) 5 r_f] = _; simp only [List.flatten_cons, List.flatten_nil, List.append_nil, List.append_assoc]) ?_
    refine V_cVi (C := (RX6, TX6, 34)) (ci := 6) (ws' := ((wO g o_a o_th o_ts o_pl o_nf o_ne o_rf o_re o_ac o_cm o_sd ((mrP m_pl m_hm m_wk m_kd o_nf 31 (y_f, r_f, o_wf) o_ne).2.2) o_sm o_sf o_rm o_rs) ++ (wML g o_a m_pl m_yl m_nd m_hm m_wk m_kd) ++ (wI g (o_a 11) 29 (mqP m_pl m_hm m_wk m_kd o_nf 31 y_f o_ne)) ++ (wI g (o_a 17) 5 ((mrP m_pl m_hm m_wk m_kd o_nf 31 (y_f, r_f, o_wf) o_ne).2.1))) ++ ([] : va_W)) (List.range _) 2 X (c_X6_goMarch g l o_a o_th o_ts o_pl o_nf o_ne o_rf o_re o_ac o_cm o_sd o_wf o_sm o_sf o_rm o_rs m_pl m_yl m_nd m_hm m_wk m_kd (o_a 11) y_f r_f  31 (by omega) (by omega) (by decide)) k_RX6_155 hy_X6_goMarch (by decide) (range_at _ _) (range_nd _) 0 rfl rfl nX6_does_30 rfl rfl (Nat.le_of_ble_eq_true rfl) (wput_range _ _ _ (by simp only [List.length_append, wI_len, wML_len, wO_len])) ?_
    refine V_blk (ws' := (wO g o_a o_th o_ts o_pl o_nf o_ne o_rf o_re o_ac o_cm o_sd ((mrP m_pl m_hm m_wk m_kd o_nf 31 (y_f, r_f, o_wf) o_ne).2.2) o_sm o_sf o_rm o_rs) ++ (wML g o_a m_pl m_yl m_nd m_hm m_wk m_kd) ++ (wI g (o_a 11) 29 (mqP m_pl m_hm m_wk m_kd o_nf 31 y_f o_ne)) ++ (wI g (o_a 17) 5 ((mrP m_pl m_hm m_wk m_kd o_nf 31 (y_f, r_f, o_wf) o_ne).2.1))) [wO g o_a o_th o_ts o_pl o_nf o_ne o_rf o_re o_ac o_cm o_sd ((mrP m_pl m_hm m_wk m_kd o_nf 31 (y_f, r_f, o_wf) o_ne).2.2) o_sm o_sf o_rm o_rs, wML g o_a m_pl m_yl m_nd m_hm m_wk m_kd, wI g (o_a 11) 29 (mqP m_pl m_hm m_wk m_kd o_nf 31 y_f o_ne), wI g (o_a 17) 5 ((mrP m_pl m_hm m_wk m_kd o_nf 31 (y_f, r_f, o_wf) o_ne).2.1)] [0, 1, 2, 3] rfl (by simp only [List.flatten_cons, List.flatten_nil, List.append_nil, List.append_assoc]) (by show List.flatten [wO g o_a o_th o_ts o_pl o_nf o_ne o_rf o_re o_ac o_cm o_sd ((mrP m_pl m_hm m_wk m_kd o_nf 31 (y_f, r_f, o_wf) o_ne).2.2) o_sm o_sf o_rm o_rs, wML g o_a m_pl m_yl m_nd m_hm m_wk m_kd, wI g (o_a 11) 29 (mqP m_pl m_hm m_wk m_kd o_nf 31 y_f o_ne), wI g (o_a 17) 5 ((mrP m_pl m_hm m_wk m_kd o_nf 31 (y_f, r_f, o_wf) o_ne).2.1)] = _; simp only [List.flatten_cons, List.flatten_nil, List.append_nil, List.append_assoc]) ?_
    refine V_pop nX6_does_33 rfl ?_
    refine V_iconst (v := (nI 1)) nX6_does_34 rfl ?_
    refine V_top (y := bI true) rfl ?_
    exact R_z rfl X hQ nX6_does_35 (by simp only [List.map_append, wI_fst, wML_fst, wO_fst]) (⟨(mrP m_pl m_hm m_wk m_kd o_nf 31 (y_f, r_f, o_wf) o_ne).2.1, (mrP m_pl m_hm m_wk m_kd o_nf 31 (y_f, r_f, o_wf) o_ne).2.2, by simp [doB, h20], by simp [doQ, h20]⟩)

set_option maxHeartbeats 4000000 in
set_option maxRecDepth 100000 in
theorem c_X6_judge (g : Gx) (l : Launch) (o_a : Nat → Nat) (o_th : Int32) (o_ts : Nat) (o_pl : Nat) (o_nf : Nat) (o_ne : Nat) (o_rf : Nat) (o_re : Nat) (o_ac : Nat) (o_cm : Nat) (o_sd : Int64) (o_wf : Int32) (o_sm : Int32) (o_sf : Int32) (o_rm : Int32) (o_rs : Int32) (m_pl : Nat → Int32) (m_yl : Nat → Int32) (m_nd : Nat → Int32) (m_hm : Nat → Int32) (m_wk : Nat → Int32) (m_kd : Nat → Int32) (g_f : Nat → Int32) (y_f : Nat → Int32) (r_f : Nat → Int32)  (y : Int32) (row : Int64) (hnf : o_nf ≤ 4) (hne : o_ne ≤ 5) : Ct g l yX6_judge mX6_judge ({ frames := 5, cells := 0, slots := 0, locals := 123 } : Room) [.ref (o_a 0), .int y, .long row] ((wO g o_a o_th o_ts o_pl o_nf o_ne o_rf o_re o_ac o_cm o_sd o_wf o_sm o_sf o_rm o_rs) ++ (wML g o_a m_pl m_yl m_nd m_hm m_wk m_kd) ++ (wI g (o_a 10) 29 g_f) ++ (wI g (o_a 11) 29 y_f) ++ (wI g (o_a 17) 5 r_f)) (fun r w' => ∃ (z_y : Nat → Int32) (z_r : Nat → Int32) (z_w : Int32), r = (some (.int (juM o_nf o_ne m_pl m_yl m_nd m_hm m_wk m_kd g_f y row))) ∧ w' = (wO g o_a (nI 0) o_ts o_pl o_nf o_ne o_rf o_re o_ac o_cm o_sd z_w o_sm o_sf o_rm o_rs) ++ (wML g o_a m_pl m_yl m_nd m_hm m_wk m_kd) ++ (wI g (o_a 10) 29 g_f) ++ (wI g (o_a 11) 29 z_y) ++ (wI g (o_a 17) 5 z_r)) := by
  refine Ct.of (lv := [(0, .ref (o_a 0)), (1, .int y), (2, .long row)]) ⟨by decide +kernel, rfl, Nat.le_of_ble_eq_true rfl⟩ rfl (fun E A sz Q X hQ => ?_)
  refine V_aload_n nX6_judge_0 rfl ?_
  refine V_iconst (v := (nI 0)) nX6_judge_1 rfl ?_
  refine V_put6 (ws' := (wO g o_a (nI 0) o_ts o_pl o_nf o_ne o_rf o_re o_ac o_cm o_sd o_wf o_sm o_sf o_rm o_rs) ++ (wML g o_a m_pl m_yl m_nd m_hm m_wk m_kd) ++ (wI g (o_a 10) 29 g_f) ++ (wI g (o_a 11) 29 y_f) ++ (wI g (o_a 17) 5 r_f)) 0 0 (by decide) f_RX6_68 rfl rfl rfl rfl nX6_judge_2 rfl (Nat.le_of_ble_eq_true rfl) rfl ?_
  refine V_iload_n nX6_judge_5 rfl ?_
  refine V_i2l nX6_judge_6 rfl ?_
  refine V_lconst (v := lN 1) nX6_judge_7 rfl ?_
  refine V_ldc2 (v := lN 4) ct_RX6_205 nX6_judge_8 ?_
  refine V_cSi (ws' := (wO g o_a (nI 0) o_ts o_pl o_nf o_ne o_rf o_re o_ac o_cm o_sd o_wf o_sm o_sf o_rm o_rs) ++ (wML g o_a m_pl m_yl m_nd m_hm m_wk m_kd) ++ (wI g (o_a 10) 29 g_f) ++ (wI g (o_a 11) 29 y_f) ++ (wI g (o_a 17) 5 r_f)) [] 3 X (c_X6_in g l   (Int32.toInt64 y) (lN 1) (lN 4) ) k_RX6_75 hy_X6_in.2 (by decide) rfl (by decide) nX6_judge_11 rfl rfl (Nat.le_of_ble_eq_true rfl) rfl ?_
  refine V_if_eq_b (tgt := 34) nX6_judge_14 rfl (fun h14 => ?_) (fun h14 => ?_)
  · skip
    have hB : juOk y row = false := in14_f h14
    refine V_bipush (v := (-2)) nX6_judge_34 (by decide) ?_
    exact R_i rfl X hQ nX6_judge_36 (by simp only [List.map_append, wI_fst, wML_fst, wO_fst]) (⟨y_f, r_f, o_wf, by simp only [juM, hB, Bool.false_eq_true, ↓reduceIte], rfl⟩)
  · skip
    obtain ⟨k, hk, rfl⟩ := in14_t h14
    refine V_lload_n nX6_judge_17 rfl ?_
    refine V_lconst (v := lN 0) nX6_judge_18 rfl ?_
    refine V_ldc2 (v := lN 1000) ct_RX6_207 nX6_judge_19 ?_
    refine V_iload_n nX6_judge_22 rfl ?_
    refine V_cSl (ws' := (wO g o_a (nI 0) o_ts o_pl o_nf o_ne o_rf o_re o_ac o_cm o_sd o_wf o_sm o_sf o_rm o_rs) ++ (wML g o_a m_pl m_yl m_nd m_hm m_wk m_kd) ++ (wI g (o_a 10) 29 g_f) ++ (wI g (o_a 11) 29 y_f) ++ (wI g (o_a 17) 5 r_f)) [] 2 X (c_X6_longPower g l   1000 k (by omega)) k_RX6_209 hy_X6_longPower.2 (by decide) rfl (by decide) nX6_judge_23 rfl rfl (Nat.le_of_ble_eq_true rfl) rfl ?_
    refine V_lconst (v := lN 1) nX6_judge_26 rfl ?_
    refine V_lsub (v := (lN (1000 ^ k)) - (lN 1)) nX6_judge_27 rfl ?_
    refine V_cSi (ws' := (wO g o_a (nI 0) o_ts o_pl o_nf o_ne o_rf o_re o_ac o_cm o_sd o_wf o_sm o_sf o_rm o_rs) ++ (wML g o_a m_pl m_yl m_nd m_hm m_wk m_kd) ++ (wI g (o_a 10) 29 g_f) ++ (wI g (o_a 11) 29 y_f) ++ (wI g (o_a 17) 5 r_f)) [] 3 X (c_X6_in g l   row (lN 0) ((lN (1000 ^ k)) - (lN 1)) ) k_RX6_75 hy_X6_in.2 (by decide) rfl (by decide) nX6_judge_28 rfl rfl (Nat.le_of_ble_eq_true rfl) rfl ?_
    refine V_topb (b := juOk (nI k) row) (congrArg bI (inL_ju hk.1 hk.2 row)) ?_
    refine V_if_ne_b (tgt := 37) nX6_judge_31 rfl (fun h31 => ?_) (fun h31 => ?_)
    · skip
      obtain ⟨r, hr, rfl⟩ := ju_row h31
      refine V_aload_n nX6_judge_37 rfl ?_
      refine V_blk (ws' := ((wO g o_a (nI 0) o_ts o_pl o_nf o_ne o_rf o_re o_ac o_cm o_sd o_wf o_sm o_sf o_rm o_rs) ++ (wI g (o_a 10) 29 g_f) ++ (wI g (o_a 11) 29 y_f)) ++ ((wML g o_a m_pl m_yl m_nd m_hm m_wk m_kd) ++ (wI g (o_a 17) 5 r_f))) [wO g o_a (nI 0) o_ts o_pl o_nf o_ne o_rf o_re o_ac o_cm o_sd o_wf o_sm o_sf o_rm o_rs, wML g o_a m_pl m_yl m_nd m_hm m_wk m_kd, wI g (o_a 10) 29 g_f, wI g (o_a 11) 29 y_f, wI g (o_a 17) 5 r_f] [0, 2, 3, 1, 4] rfl (by simp only [List.flatten_cons, List.flatten_nil, List.append_nil, List.append_assoc]) (by show List.flatten [wO g o_a (nI 0) o_ts o_pl o_nf o_ne o_rf o_re o_ac o_cm o_sd o_wf o_sm o_sf o_rm o_rs, wI g (o_a 10) 29 g_f, wI g (o_a 11) 29 y_f, wML g o_a m_pl m_yl m_nd m_hm m_wk m_kd, wI g (o_a 17) 5 r_f] = _; simp only [List.flatten_cons, List.flatten_nil, List.append_nil, List.append_assoc]) ?_
      refine V_cVv (C := (RX6, TX6, 34)) (ci := 6) (ws' := ((wO g o_a (nI 0) o_ts o_pl o_nf o_ne o_rf o_re o_ac o_cm o_sd o_wf o_sm o_sf o_rm o_rs) ++ (wI g (o_a 10) 29 g_f) ++ (wI g (o_a 11) 29 g_f)) ++ ((wML g o_a m_pl m_yl m_nd m_hm m_wk m_kd) ++ (wI g (o_a 17) 5 r_f))) (List.range _) 0 X (c_X6_begin g l o_a (nI 0) o_ts o_pl o_nf o_ne o_rf o_re o_ac o_cm o_sd o_wf o_sm o_sf o_rm o_rs g_f y_f   ) k_RX6_152 hy_X6_begin (by decide) (range_at _ _) (range_nd _) 0 rfl rfl nX6_judge_38 rfl rfl (Nat.le_of_ble_eq_true rfl) (wput_range _ _ _ (by simp only [List.length_append, wI_len, wO_len])) ?_
      refine V_blk (ws' := (wO g o_a (nI 0) o_ts o_pl o_nf o_ne o_rf o_re o_ac o_cm o_sd o_wf o_sm o_sf o_rm o_rs) ++ (wML g o_a m_pl m_yl m_nd m_hm m_wk m_kd) ++ (wI g (o_a 10) 29 g_f) ++ (wI g (o_a 11) 29 g_f) ++ (wI g (o_a 17) 5 r_f)) [wO g o_a (nI 0) o_ts o_pl o_nf o_ne o_rf o_re o_ac o_cm o_sd o_wf o_sm o_sf o_rm o_rs, wI g (o_a 10) 29 g_f, wI g (o_a 11) 29 g_f, wML g o_a m_pl m_yl m_nd m_hm m_wk m_kd, wI g (o_a 17) 5 r_f] [0, 3, 1, 2, 4] rfl (by simp only [List.flatten_cons, List.flatten_nil, List.append_nil, List.append_assoc]) (by show List.flatten [wO g o_a (nI 0) o_ts o_pl o_nf o_ne o_rf o_re o_ac o_cm o_sd o_wf o_sm o_sf o_rm o_rs, wML g o_a m_pl m_yl m_nd m_hm m_wk m_kd, wI g (o_a 10) 29 g_f, wI g (o_a 11) 29 g_f, wI g (o_a 17) 5 r_f] = _; simp only [List.flatten_cons, List.flatten_nil, List.append_nil, List.append_assoc]) ?_
      refine V_iconst (v := (nI 0)) nX6_judge_41 rfl ?_
      refine V_istore (lv' := [(0, .ref (o_a 0)), (1, .int (nI k)), (2, .long (lN r)), (4, .int (nI 0))]) nX6_judge_42 (by decide) rfl ?_
      have L44 : ∀ (n : Nat) (i : Nat) (q : Nat → Int32) (s : Nat → Int32) (v : Int32), k - i < n → i ≤ k → jdM o_nf o_ne m_pl m_yl m_nd m_hm m_wk m_kd r k (k - i) i q = jdM o_nf o_ne m_pl m_yl m_nd m_hm m_wk m_kd r k k 0 g_f → V g E mX6_judge A Q 0 0 ((wO g o_a (nI 0) o_ts o_pl o_nf o_ne o_rf o_re o_ac o_cm o_sd v o_sm o_sf o_rm o_rs) ++ (wML g o_a m_pl m_yl m_nd m_hm m_wk m_kd) ++ (wI g (o_a 10) 29 g_f) ++ (wI g (o_a 11) 29 q) ++ (wI g (o_a 17) 5 s)) 44 [(0, .ref (o_a 0)), (1, .int (nI k)), (2, .long (lN r)), (4, .int (nI i))] [] := by
        intro n
        induction n with
        | zero => intro i q s v hm; exact absurd hm (Nat.not_lt_zero _)
        | succ n ih =>
          intro i q s v hm hi hj
          refine V_iload nX6_judge_44 rfl ?_
          refine V_iload_n nX6_judge_46 rfl ?_
          refine V_icmp_ge_N (tgt := 85) nX6_judge_47 rfl (by omega) (by omega) (fun h47 => ?_) (fun h47 => ?_)
          · skip
            refine V_bipush (v := (-9)) nX6_judge_85 (by decide) ?_
            exact R_i rfl X hQ nX6_judge_87 (by simp only [List.map_append, wI_fst, wML_fst, wO_fst]) (⟨q, s, v, by rw [show juM o_nf o_ne m_pl m_yl m_nd m_hm m_wk m_kd g_f (nI k) (lN r) = _ from if_pos h31, rN_l hr, ix_nI (by omega), ← hj, show k - i = 0 by omega]; rfl, rfl⟩)
          · skip
            refine V_aload_n nX6_judge_50 rfl ?_
            refine V_lload_n nX6_judge_51 rfl ?_
            refine V_ldc2 (v := lN 1000) ct_RX6_207 nX6_judge_52 ?_
            refine V_iload_n nX6_judge_55 rfl ?_
            refine V_iconst (v := (nI 1)) nX6_judge_56 rfl ?_
            refine V_isub (v := nI (k - 1)) nX6_judge_57 (pk_sub (by omega)) ?_
            refine V_iload nX6_judge_58 rfl ?_
            refine V_isub (v := nI ((k - 1) - i)) nX6_judge_60 (pk_sub (by omega)) ?_
            refine V_cSl (ws' := (wO g o_a (nI 0) o_ts o_pl o_nf o_ne o_rf o_re o_ac o_cm o_sd v o_sm o_sf o_rm o_rs) ++ (wML g o_a m_pl m_yl m_nd m_hm m_wk m_kd) ++ (wI g (o_a 10) 29 g_f) ++ (wI g (o_a 11) 29 q) ++ (wI g (o_a 17) 5 s)) [] 2 X (c_X6_longPower g l   1000 ((k - 1) - i) (by omega)) k_RX6_209 hy_X6_longPower.2 (by decide) rfl (by decide) nX6_judge_61 rfl rfl (Nat.le_of_ble_eq_true rfl) rfl ?_
            refine V_ldiv (v := lN (r / (1000 ^ ((k - 1) - i)))) nX6_judge_64 (lN_ne0 (Nat.pow_pos (by decide)) (Nat.lt_of_le_of_lt (Nat.pow_le_pow_right (by decide) (show k - 1 - i ≤ 4 by omega)) (by decide))) (pk_lDiv (hr) (Nat.pow_pos (by decide)) (Nat.lt_of_le_of_lt (Nat.pow_le_pow_right (by decide) (show k - 1 - i ≤ 4 by omega)) (by decide))) ?_
            refine V_ldc2 (v := lN 1000) ct_RX6_207 nX6_judge_65 ?_
            refine V_lrem (v := lN ((r / (1000 ^ ((k - 1) - i))) % 1000)) nX6_judge_68 (lN_ne0 (by decide) (by decide)) (pk_lRem (Nat.lt_of_le_of_lt (Nat.div_le_self _ _) hr) (by decide) (by decide)) ?_
            refine V_l2i (v := nI ((r / (1000 ^ ((k - 1) - i))) % 1000)) nX6_judge_69 (lN_i ((r / (1000 ^ ((k - 1) - i))) % 1000)) ?_
            refine V_blk (ws' := ((wO g o_a (nI 0) o_ts o_pl o_nf o_ne o_rf o_re o_ac o_cm o_sd v o_sm o_sf o_rm o_rs) ++ (wML g o_a m_pl m_yl m_nd m_hm m_wk m_kd) ++ (wI g (o_a 11) 29 q) ++ (wI g (o_a 17) 5 s)) ++ ((wI g (o_a 10) 29 g_f))) [wO g o_a (nI 0) o_ts o_pl o_nf o_ne o_rf o_re o_ac o_cm o_sd v o_sm o_sf o_rm o_rs, wML g o_a m_pl m_yl m_nd m_hm m_wk m_kd, wI g (o_a 10) 29 g_f, wI g (o_a 11) 29 q, wI g (o_a 17) 5 s] [0, 1, 3, 4, 2] rfl (by simp only [List.flatten_cons, List.flatten_nil, List.append_nil, List.append_assoc]) (by show List.flatten [wO g o_a (nI 0) o_ts o_pl o_nf o_ne o_rf o_re o_ac o_cm o_sd v o_sm o_sf o_rm o_rs, wML g o_a m_pl m_yl m_nd m_hm m_wk m_kd, wI g (o_a 11) 29 q, wI g (o_a 17) 5 s, wI g (o_a 10) 29 g_f] = _; simp only [List.flatten_cons, List.flatten_nil, List.append_nil, List.append_assoc]) ?_
            refine V_callV (C := (RX6, TX6, 34)) (ci := 6) (As := [.int (nI ((r / (1000 ^ ((k - 1) - i))) % 1000))]) (st := []) (List.range _) 1 X (c_X6_does g l o_a (nI 0) o_ts o_pl o_nf o_ne o_rf o_re o_ac o_cm o_sd v o_sm o_sf o_rm o_rs m_pl m_yl m_nd m_hm m_wk m_kd q s  ((r / (1000 ^ ((k - 1) - i))) % 1000) (by omega) (by omega) (Nat.mod_lt _ (by decide))) k_RX6_213 hy_X6_does (by decide) (range_at _ _) (range_nd _) 0 rfl rfl nX6_judge_70 rfl rfl (Nat.le_of_ble_eq_true rfl) ?_
            rintro _ _ ⟨z_r1, z_w2, rfl, rfl⟩
            refine V_ws (ws' := ((wO g o_a (nI 0) o_ts o_pl o_nf o_ne o_rf o_re o_ac o_cm o_sd z_w2 o_sm o_sf o_rm o_rs) ++ (wML g o_a m_pl m_yl m_nd m_hm m_wk m_kd) ++ (wI g (o_a 11) 29 (doQ o_nf o_ne m_pl m_yl m_nd m_hm m_wk m_kd q ((r / (1000 ^ ((k - 1) - i))) % 1000))) ++ (wI g (o_a 17) 5 z_r1)) ++ ((wI g (o_a 10) 29 g_f))) (wput_range _ _ _ (by simp only [List.length_append, wI_len, wML_len, wO_len])) ?_
            refine V_st (st2 := [.int (bI (doB o_nf o_ne m_nd m_kd q ((r / (1000 ^ ((k - 1) - i))) % 1000)))]) rfl ?_
            refine V_blk (ws' := (wO g o_a (nI 0) o_ts o_pl o_nf o_ne o_rf o_re o_ac o_cm o_sd z_w2 o_sm o_sf o_rm o_rs) ++ (wML g o_a m_pl m_yl m_nd m_hm m_wk m_kd) ++ (wI g (o_a 10) 29 g_f) ++ (wI g (o_a 11) 29 (doQ o_nf o_ne m_pl m_yl m_nd m_hm m_wk m_kd q ((r / (1000 ^ ((k - 1) - i))) % 1000))) ++ (wI g (o_a 17) 5 z_r1)) [wO g o_a (nI 0) o_ts o_pl o_nf o_ne o_rf o_re o_ac o_cm o_sd z_w2 o_sm o_sf o_rm o_rs, wML g o_a m_pl m_yl m_nd m_hm m_wk m_kd, wI g (o_a 11) 29 (doQ o_nf o_ne m_pl m_yl m_nd m_hm m_wk m_kd q ((r / (1000 ^ ((k - 1) - i))) % 1000)), wI g (o_a 17) 5 z_r1, wI g (o_a 10) 29 g_f] [0, 1, 4, 2, 3] rfl (by simp only [List.flatten_cons, List.flatten_nil, List.append_nil, List.append_assoc]) (by show List.flatten [wO g o_a (nI 0) o_ts o_pl o_nf o_ne o_rf o_re o_ac o_cm o_sd z_w2 o_sm o_sf o_rm o_rs, wML g o_a m_pl m_yl m_nd m_hm m_wk m_kd, wI g (o_a 10) 29 g_f, wI g (o_a 11) 29 (doQ o_nf o_ne m_pl m_yl m_nd m_hm m_wk m_kd q ((r / (1000 ^ ((k - 1) - i))) % 1000)), wI g (o_a 17) 5 z_r1] = _; simp only [List.flatten_cons, List.flatten_nil, List.append_nil, List.append_assoc]) ?_
            refine V_if_ne_b (tgt := 79) nX6_judge_73 rfl (fun h73 => ?_) (fun h73 => ?_)
            · skip
              refine V_iinc (v := nI (i + 1)) (lv' := [(0, .ref (o_a 0)), (1, .int (nI k)), (2, .long (lN r)), (4, .int (nI (i + 1)))]) nX6_judge_79 rfl (nI_add i 1) (by decide) rfl ?_
              refine V_goto (tgt := 44) nX6_judge_82 rfl ?_
              exact ih (i + 1) (doQ o_nf o_ne m_pl m_yl m_nd m_hm m_wk m_kd q (r / 1000 ^ (k - 1 - i) % 1000)) z_r1 z_w2 (by omega) (by omega) (by rw [← hj]; exact (jdM_go h47 h73).symm)
            · skip
              refine V_iload nX6_judge_76 rfl ?_
              exact R_i rfl X hQ nX6_judge_78 (by simp only [List.map_append, wI_fst, wML_fst, wO_fst]) (⟨doQ o_nf o_ne m_pl m_yl m_nd m_hm m_wk m_kd q ((r / (1000 ^ ((k - 1) - i))) % 1000), z_r1, z_w2, by rw [show juM o_nf o_ne m_pl m_yl m_nd m_hm m_wk m_kd g_f (nI k) (lN r) = _ from if_pos h31, rN_l hr, ix_nI (by omega), ← hj, jdM_no h47 h73], rfl⟩)
      exact L44 _ 0 g_f r_f o_wf (Nat.lt_succ_self _) (by omega) (rfl)
    · skip
      have hB := h31
      refine V_bipush (v := (-2)) nX6_judge_34 (by decide) ?_
      exact R_i rfl X hQ nX6_judge_36 (by simp only [List.map_append, wI_fst, wML_fst, wO_fst]) (⟨y_f, r_f, o_wf, by simp only [juM, hB, Bool.false_eq_true, ↓reduceIte], rfl⟩)

set_option maxHeartbeats 4000000 in
set_option maxRecDepth 100000 in
theorem c_X6_ways (g : Gx) (l : Launch)   (k : Nat) (hk : k ≤ 5) : Cd g l yX6_ways mX6_ways ({ frames := 0, cells := 0, slots := 0, locals := 0 } : Room) [.int (nI k)] ([]) (some (.int (nI (facN k)))) ([]) := by
  refine Ct.of (lv := [(0, .int (nI k))]) ⟨by decide +kernel, rfl, Nat.le_of_ble_eq_true rfl⟩ rfl (fun E A sz Q X hQ => ?_)
  refine V_iconst (v := (nI 1)) nX6_ways_0 rfl ?_
  refine V_istore_n (lv' := [(0, .int (nI k)), (1, .int (nI 1))]) nX6_ways_1 (by decide) rfl ?_
  refine V_iconst (v := (nI 2)) nX6_ways_2 rfl ?_
  refine V_istore_n (lv' := [(0, .int (nI k)), (1, .int (nI 1)), (2, .int (nI 2))]) nX6_ways_3 (by decide) rfl ?_
  have L4 : ∀ (n : Nat) (j : Nat), 6 - j < n → j ≤ k ∨ j = 1 → 1 ≤ j → V g E mX6_ways A Q 0 0 ([]) 4 [(0, .int (nI k)), (1, .int (nI (facN j))), (2, .int (nI (j + 1)))] [] := by
    intro n
    induction n with
    | zero => intro j hm; exact absurd hm (Nat.not_lt_zero _)
    | succ n ih =>
      intro j hm hj hj1
      refine V_iload_n nX6_ways_4 rfl ?_
      refine V_iload_n nX6_ways_5 rfl ?_
      refine V_icmp_gt_N (tgt := 19) nX6_ways_6 rfl (by omega) (by omega) (fun h6 => ?_) (fun h6 => ?_)
      · skip
        refine V_iload_n nX6_ways_19 rfl ?_
        exact R_i rfl X hQ nX6_ways_20 rfl (⟨by rw [facN_ok hj hj1 h6], rfl⟩)
      · skip
        refine V_iload_n nX6_ways_9 rfl ?_
        refine V_iload_n nX6_ways_10 rfl ?_
        refine V_imul (v := nI ((facN j) * (j + 1))) nX6_ways_11 (pk_mul (facN j) (j + 1)) ?_
        refine V_istore_n (lv' := [(0, .int (nI k)), (1, .int (nI ((facN j) * (j + 1)))), (2, .int (nI (j + 1)))]) nX6_ways_12 (by decide) rfl ?_
        refine V_iinc (v := nI ((j + 1) + 1)) (lv' := [(0, .int (nI k)), (1, .int (nI ((facN j) * (j + 1)))), (2, .int (nI ((j + 1) + 1)))]) nX6_ways_13 rfl (nI_add (j + 1) 1) (by decide) rfl ?_
        refine V_goto (tgt := 4) nX6_ways_16 rfl ?_
        exact ih (j + 1) (by omega) (by omega) (by omega)
  exact L4 _ 1 (Nat.lt_succ_self _) (Or.inr rfl) (by omega)

set_option maxHeartbeats 4000000 in
set_option maxRecDepth 100000 in
theorem c_X6_divisor (g : Gx) (l : Launch)   (a : Nat) (b : Nat) (ha : a < 2 ^ 31) (hb : b < 2 ^ 31) : Cd g l yX6_divisor mX6_divisor ({ frames := 0, cells := 0, slots := 0, locals := 0 } : Room) [.int (nI a), .int (nI b)] ([]) (some (.int (nI (Nat.gcd a b)))) ([]) := by
  refine Ct.of (lv := [(0, .int (nI a)), (1, .int (nI b))]) ⟨by decide +kernel, rfl, Nat.le_of_ble_eq_true rfl⟩ rfl (fun E A sz Q X hQ => ?_)
  refine V_iload_n nX6_divisor_0 rfl ?_
  refine V_if_ge_N (tgt := 9) nX6_divisor_1 rfl (by omega) (fun h1 => ?_) (fun h1 => ?_)
  · skip
    refine V_iload_n nX6_divisor_9 rfl ?_
    refine V_istore_n (lv' := [(0, .int (nI a)), (1, .int (nI b)), (2, .int (nI a))]) nX6_divisor_10 (by decide) rfl ?_
    refine V_iload_n nX6_divisor_11 rfl ?_
    refine V_istore_n (lv' := [(0, .int (nI a)), (1, .int (nI b)), (2, .int (nI a)), (3, .int (nI b))]) nX6_divisor_12 (by decide) rfl ?_
    have L13 : ∀ (n : Nat) (x : Nat) (y : Nat), y < n → Nat.gcd x y = Nat.gcd a b → x < 2 ^ 31 → y < 2 ^ 31 → V g E mX6_divisor A Q 0 0 ([]) 13 [(2, .int (nI x)), (3, .int (nI y))] [] := by
      intro n
      induction n with
      | zero => intro x y hm; exact absurd hm (Nat.not_lt_zero _)
      | succ n ih =>
        intro x y hm hg hx hy
        refine V_iload_n nX6_divisor_13 rfl ?_
        refine V_if_eq_N (tgt := 30) nX6_divisor_14 rfl (by omega) (fun h14 => ?_) (fun h14 => ?_)
        · skip
          subst h14
          have hgx : x = Nat.gcd a b := by rw [← hg, Nat.gcd_zero_right]
          refine V_iload_n nX6_divisor_30 rfl ?_
          exact R_i rfl X hQ nX6_divisor_31 rfl (⟨by rw [← hgx], rfl⟩)
        · skip
          have hml := Nat.mod_lt x (show 0 < y by omega)
          refine V_iload_n nX6_divisor_17 rfl ?_
          refine V_iload_n nX6_divisor_18 rfl ?_
          refine V_irem (v := nI (x % y)) nX6_divisor_19 (nI_ne0 (by omega) (by omega)) (pk_rem (by omega) (by omega) (by omega)) ?_
          refine V_istore (lv' := [(2, .int (nI x)), (3, .int (nI y)), (4, .int (nI (x % y)))]) nX6_divisor_20 (by decide) rfl ?_
          refine V_iload_n nX6_divisor_22 rfl ?_
          refine V_istore_n (lv' := [(2, .int (nI y)), (3, .int (nI y)), (4, .int (nI (x % y)))]) nX6_divisor_23 (by decide) rfl ?_
          refine V_iload nX6_divisor_24 rfl ?_
          refine V_istore_n (lv' := [(2, .int (nI y)), (3, .int (nI (x % y))), (4, .int (nI (x % y)))]) nX6_divisor_26 (by decide) rfl ?_
          refine V_goto (tgt := 13) nX6_divisor_27 rfl ?_
          refine V_pick (lv2 := [(2, .int (nI y)), (3, .int (nI (x % y)))]) [0, 1] rfl ?_
          exact ih y (x % y) (by omega) (by rw [← hg]; exact gcd_step x y) (hy) (by omega)
    refine V_pick (lv2 := [(2, .int (nI a)), (3, .int (nI b))]) [2, 3] rfl ?_
    exact L13 _ a b (Nat.lt_succ_self _) (rfl) (ha) (hb)
  · skip
    exact h1.elim

set_option maxHeartbeats 4000000 in
set_option maxRecDepth 100000 in
theorem c_X6_fraction (g : Gx) (l : Launch)   (a : Nat) (b : Nat) (u : Bool) (ha : a < 2 ^ 31) (hb : b < 2 ^ 31) (hb0 : 0 < b) : Cd g l yX6_fraction mX6_fraction ({ frames := 1, cells := 0, slots := 0, locals := 24 } : Room) [.int (nI a), .int (nI b), .int (bI u)] ([]) (some (.int (frR a b u))) ([]) := by
  refine Ct.of (lv := [(0, .int (nI a)), (1, .int (nI b)), (2, .int (bI u))]) ⟨by decide +kernel, rfl, Nat.le_of_ble_eq_true rfl⟩ rfl (fun E A sz Q X hQ => ?_)
  have hgp := Nat.gcd_pos_of_pos_right a hb0
  have hgl := Nat.gcd_le_right a hb0
  refine V_iload_n nX6_fraction_0 rfl ?_
  refine V_iload_n nX6_fraction_1 rfl ?_
  refine V_cSi (ws' := []) [] 2 X (c_X6_divisor g l   a b (by omega) (by omega)) k_RX6_216 hy_X6_divisor.2 (by decide) rfl (by decide) nX6_fraction_2 rfl rfl (Nat.le_of_ble_eq_true rfl) rfl ?_
  refine V_istore_n (lv' := [(0, .int (nI a)), (1, .int (nI b)), (2, .int (bI u)), (3, .int (nI (Nat.gcd a b)))]) nX6_fraction_5 (by decide) rfl ?_
  refine V_iload_n nX6_fraction_6 rfl ?_
  refine V_if_eq_b (tgt := 16) nX6_fraction_7 rfl (fun h7 => ?_) (fun h7 => ?_)
  · skip
    refine V_iload_n nX6_fraction_16 rfl ?_
    refine V_iload_n nX6_fraction_17 rfl ?_
    refine V_idiv (v := nI (b / (Nat.gcd a b))) nX6_fraction_18 (nI_ne0 (by omega) (by omega)) (pk_div (by omega) (by omega) (by omega)) ?_
    exact R_i rfl X hQ nX6_fraction_19 rfl (⟨by simp [frR, h7], rfl⟩)
  · skip
    refine V_iload_n nX6_fraction_10 rfl ?_
    refine V_iload_n nX6_fraction_11 rfl ?_
    refine V_idiv (v := nI (a / (Nat.gcd a b))) nX6_fraction_12 (nI_ne0 (by omega) (by omega)) (pk_div (by omega) (by omega) (by omega)) ?_
    refine V_goto (tgt := 19) nX6_fraction_13 rfl ?_
    exact R_i rfl X hQ nX6_fraction_19 rfl (⟨by simp [frR, h7], rfl⟩)

set_option maxHeartbeats 4000000 in
set_option maxRecDepth 100000 in
theorem c_X6_share (g : Gx) (l : Launch) (o_a : Nat → Nat) (o_th : Int32) (o_ts : Nat) (o_pl : Nat) (o_nf : Nat) (o_ne : Nat) (o_rf : Nat) (o_re : Nat) (o_ac : Nat) (o_cm : Nat) (o_sd : Int64) (o_wf : Int32) (o_sm : Int32) (o_sf : Int32) (o_rm : Int32) (o_rs : Int32) (m_pl : Nat → Int32) (m_yl : Nat → Int32) (m_nd : Nat → Int32) (m_hm : Nat → Int32) (m_wk : Nat → Int32) (m_kd : Nat → Int32) (g_f : Nat → Int32) (y_f : Nat → Int32) (r_f : Nat → Int32) (w_f : Nat → Int32)  (x : Int32) (u : Bool) (hnf : o_nf ≤ 4) (hne : o_ne ≤ 5) (hmo : ∀ e v, e < o_ne → v < 32 → vaM o_nf o_ne m_pl m_nd m_hm m_wk m_kd g_f v ≤ vaM o_nf o_ne m_pl m_nd m_hm m_wk m_kd g_f (v ||| 2 ^ e)) : Ct g l yX6_share mX6_share ({ frames := 5, cells := 0, slots := 0, locals := 120 } : Room) [.ref (o_a 0), .int x, .int (bI u)] ((wO g o_a o_th o_ts o_pl o_nf o_ne o_rf o_re o_ac o_cm o_sd o_wf o_sm o_sf o_rm o_rs) ++ (wML g o_a m_pl m_yl m_nd m_hm m_wk m_kd) ++ (wI g (o_a 10) 29 g_f) ++ (wI g (o_a 11) 29 y_f) ++ (wI g (o_a 17) 5 r_f) ++ (wI g (o_a 19) 32 w_f)) (fun r w' => ∃ (z_y : Nat → Int32) (z_r : Nat → Int32) (z_w : Int32) (z_v : Nat → Int32), r = (some (.int (shMR o_nf o_ne m_pl m_nd m_hm m_wk m_kd g_f x u))) ∧ w' = (wO g o_a (nI 0) o_ts o_pl o_nf o_ne o_rf o_re o_ac o_cm o_sd z_w o_sm o_sf o_rm o_rs) ++ (wML g o_a m_pl m_yl m_nd m_hm m_wk m_kd) ++ (wI g (o_a 10) 29 g_f) ++ (wI g (o_a 11) 29 z_y) ++ (wI g (o_a 17) 5 z_r) ++ (wI g (o_a 19) 32 z_v)) := by
  refine Ct.of (lv := [(0, .ref (o_a 0)), (1, .int x), (2, .int (bI u))]) ⟨by decide +kernel, rfl, Nat.le_of_ble_eq_true rfl⟩ rfl (fun E A sz Q X hQ => ?_)
  have hp5 : 2 ^ o_ne ≤ 32 := Nat.le_trans (Nat.pow_le_pow_right (by omega) hne) (by decide)
  have hp1 : 1 ≤ 2 ^ o_ne := Nat.one_le_two_pow
  refine V_aload_n nX6_share_0 rfl ?_
  refine V_iconst (v := (nI 0)) nX6_share_1 rfl ?_
  refine V_put6 (ws' := (wO g o_a (nI 0) o_ts o_pl o_nf o_ne o_rf o_re o_ac o_cm o_sd o_wf o_sm o_sf o_rm o_rs) ++ (wML g o_a m_pl m_yl m_nd m_hm m_wk m_kd) ++ (wI g (o_a 10) 29 g_f) ++ (wI g (o_a 11) 29 y_f) ++ (wI g (o_a 17) 5 r_f) ++ (wI g (o_a 19) 32 w_f)) 0 0 (by decide) f_RX6_68 rfl rfl rfl rfl nX6_share_2 rfl (Nat.le_of_ble_eq_true rfl) rfl ?_
  refine V_aload_n nX6_share_5 rfl ?_
  refine V_iload_n nX6_share_6 rfl ?_
  refine V_blk (ws' := ((wO g o_a (nI 0) o_ts o_pl o_nf o_ne o_rf o_re o_ac o_cm o_sd o_wf o_sm o_sf o_rm o_rs)) ++ ((wML g o_a m_pl m_yl m_nd m_hm m_wk m_kd) ++ (wI g (o_a 10) 29 g_f) ++ (wI g (o_a 11) 29 y_f) ++ (wI g (o_a 17) 5 r_f) ++ (wI g (o_a 19) 32 w_f))) [wO g o_a (nI 0) o_ts o_pl o_nf o_ne o_rf o_re o_ac o_cm o_sd o_wf o_sm o_sf o_rm o_rs, wML g o_a m_pl m_yl m_nd m_hm m_wk m_kd, wI g (o_a 10) 29 g_f, wI g (o_a 11) 29 y_f, wI g (o_a 17) 5 r_f, wI g (o_a 19) 32 w_f] [0, 1, 2, 3, 4, 5] rfl (by simp only [List.flatten_cons, List.flatten_nil, List.append_nil, List.append_assoc]) (by show List.flatten [wO g o_a (nI 0) o_ts o_pl o_nf o_ne o_rf o_re o_ac o_cm o_sd o_wf o_sm o_sf o_rm o_rs, wML g o_a m_pl m_yl m_nd m_hm m_wk m_kd, wI g (o_a 10) 29 g_f, wI g (o_a 11) 29 y_f, wI g (o_a 17) 5 r_f, wI g (o_a 19) 32 w_f] = _; simp only [List.flatten_cons, List.flatten_nil, List.append_nil, List.append_assoc]) ?_
  refine V_cVi (C := (RX6, TX6, 34)) (ci := 6) (ws' := ((wO g o_a (nI 0) o_ts o_pl o_nf o_ne o_rf o_re o_ac o_cm o_sd o_wf o_sm o_sf o_rm o_rs)) ++ ((wML g o_a m_pl m_yl m_nd m_hm m_wk m_kd) ++ (wI g (o_a 10) 29 g_f) ++ (wI g (o_a 11) 29 y_f) ++ (wI g (o_a 17) 5 r_f) ++ (wI g (o_a 19) 32 w_f))) (List.range _) 1 X (c_X6_noEater g l o_a (nI 0) o_ts o_pl o_nf o_ne o_rf o_re o_ac o_cm o_sd o_wf o_sm o_sf o_rm o_rs  x (by omega)) k_RX6_174 hy_X6_noEater (by decide) (range_at _ _) (range_nd _) 0 rfl rfl nX6_share_7 rfl rfl (Nat.le_of_ble_eq_true rfl) (wput_range _ _ _ (by simp only [List.length_append, wO_len])) ?_
  refine V_blk (ws' := (wO g o_a (nI 0) o_ts o_pl o_nf o_ne o_rf o_re o_ac o_cm o_sd o_wf o_sm o_sf o_rm o_rs) ++ (wML g o_a m_pl m_yl m_nd m_hm m_wk m_kd) ++ (wI g (o_a 10) 29 g_f) ++ (wI g (o_a 11) 29 y_f) ++ (wI g (o_a 17) 5 r_f) ++ (wI g (o_a 19) 32 w_f)) [wO g o_a (nI 0) o_ts o_pl o_nf o_ne o_rf o_re o_ac o_cm o_sd o_wf o_sm o_sf o_rm o_rs, wML g o_a m_pl m_yl m_nd m_hm m_wk m_kd, wI g (o_a 10) 29 g_f, wI g (o_a 11) 29 y_f, wI g (o_a 17) 5 r_f, wI g (o_a 19) 32 w_f] [0, 1, 2, 3, 4, 5] rfl (by simp only [List.flatten_cons, List.flatten_nil, List.append_nil, List.append_assoc]) (by show List.flatten [wO g o_a (nI 0) o_ts o_pl o_nf o_ne o_rf o_re o_ac o_cm o_sd o_wf o_sm o_sf o_rm o_rs, wML g o_a m_pl m_yl m_nd m_hm m_wk m_kd, wI g (o_a 10) 29 g_f, wI g (o_a 11) 29 y_f, wI g (o_a 17) 5 r_f, wI g (o_a 19) 32 w_f] = _; simp only [List.flatten_cons, List.flatten_nil, List.append_nil, List.append_assoc]) ?_
  refine V_if_eq_b (tgt := 15) nX6_share_10 rfl (fun h10 => ?_) (fun h10 => ?_)
  · skip
    obtain ⟨a, hf_a, rfl⟩ := nhas h10 (by omega)
    have hix_a : ix (nI a) = a := ix_nI (by omega)
    have hp_a : hasN o_ne (nI a) = true := by rw [Bool.not_eq_false'] at h10; exact h10
    refine V_iconst (v := (nI 0)) nX6_share_15 rfl ?_
    refine V_istore_n (lv' := [(0, .ref (o_a 0)), (1, .int (nI a)), (2, .int (bI u)), (3, .int (nI 0))]) nX6_share_16 (by decide) rfl ?_
    have L17 : ∀ (n : Nat) (v : Nat) (q : Nat → Int32) (r : Nat → Int32) (s : Int32), 2 ^ o_ne - v < n → v ≤ 2 ^ o_ne → V g E mX6_share A Q 0 0 ((wO g o_a (nI 0) o_ts o_pl o_nf o_ne o_rf o_re o_ac o_cm o_sd s o_sm o_sf o_rm o_rs) ++ (wML g o_a m_pl m_yl m_nd m_hm m_wk m_kd) ++ (wI g (o_a 10) 29 g_f) ++ (wI g (o_a 11) 29 q) ++ (wI g (o_a 17) 5 r) ++ (wI g (o_a 19) 32 (fillI (fun z9 => nI (vaM o_nf o_ne m_pl m_nd m_hm m_wk m_kd g_f z9)) w_f v))) 17 [(0, .ref (o_a 0)), (1, .int (nI a)), (2, .int (bI u)), (3, .int (nI v))] [] := by
      intro n
      induction n with
      | zero => intro v q r s hm; exact absurd hm (Nat.not_lt_zero _)
      | succ n ih =>
        intro v q r s hm hv
        refine V_iload_n nX6_share_17 rfl ?_
        refine V_iconst (v := (nI 1)) nX6_share_18 rfl ?_
        refine V_aload_n nX6_share_19 rfl ?_
        refine V_get6 0 8 (by decide) f_RX6_79 nX6_share_20 rfl rfl ?_
        refine V_ishl (v := nI (2 ^ o_ne)) nX6_share_23 (nI_shl1 (by omega)) ?_
        refine V_icmp_ge_N (tgt := 47) nX6_share_24 rfl (by omega) (by omega) (fun h24 => ?_) (fun h24 => ?_)
        · skip
          have hvx : v = 2 ^ o_ne := by omega
          subst hvx
          refine V_iconst (v := (nI 0)) nX6_share_47 rfl ?_
          refine V_istore_n (lv' := [(0, .ref (o_a 0)), (1, .int (nI a)), (2, .int (bI u)), (3, .int (nI 0))]) nX6_share_48 (by decide) rfl ?_
          refine V_iconst (v := (nI 0)) nX6_share_49 rfl ?_
          refine V_istore (lv' := [(0, .ref (o_a 0)), (1, .int (nI a)), (2, .int (bI u)), (3, .int (nI 0)), (4, .int (nI 0))]) nX6_share_50 (by decide) rfl ?_
          have L52 : ∀ (n : Nat) (v : Nat), 2 ^ o_ne - v < n → v ≤ 2 ^ o_ne → V g E mX6_share A Q 0 0 ((wO g o_a (nI 0) o_ts o_pl o_nf o_ne o_rf o_re o_ac o_cm o_sd s o_sm o_sf o_rm o_rs) ++ (wML g o_a m_pl m_yl m_nd m_hm m_wk m_kd) ++ (wI g (o_a 10) 29 g_f) ++ (wI g (o_a 11) 29 q) ++ (wI g (o_a 17) 5 r) ++ (wI g (o_a 19) 32 (fillI (fun z9 => nI (vaM o_nf o_ne m_pl m_nd m_hm m_wk m_kd g_f z9)) w_f (2 ^ o_ne)))) 52 [(0, .ref (o_a 0)), (1, .int (nI a)), (2, .int (bI u)), (3, .int (nI (shMA o_nf o_ne m_pl m_nd m_hm m_wk m_kd g_f a v))), (4, .int (nI v))] [] := by
            intro n
            induction n with
            | zero => intro v hm; exact absurd hm (Nat.not_lt_zero _)
            | succ n ih52 =>
              intro v hm hv2
              refine V_iload nX6_share_52 rfl ?_
              refine V_iconst (v := (nI 1)) nX6_share_54 rfl ?_
              refine V_aload_n nX6_share_55 rfl ?_
              refine V_get6 0 8 (by decide) f_RX6_79 nX6_share_56 rfl rfl ?_
              refine V_ishl (v := nI (2 ^ o_ne)) nX6_share_59 (nI_shl1 (by omega)) ?_
              refine V_icmp_ge_N (tgt := 126) nX6_share_60 rfl (by omega) (by omega) (fun h60 => ?_) (fun h60 => ?_)
              · skip
                have hvx : v = 2 ^ o_ne := by omega
                have hsl := shMA_le (nf := o_nf) hne m_pl m_nd m_hm m_wk m_kd g_f a v
                refine V_iload_n nX6_share_126 rfl ?_
                refine V_aload_n nX6_share_127 rfl ?_
                refine V_get6 0 8 (by decide) f_RX6_79 nX6_share_128 rfl rfl ?_
                refine V_cSi (ws' := (wO g o_a (nI 0) o_ts o_pl o_nf o_ne o_rf o_re o_ac o_cm o_sd s o_sm o_sf o_rm o_rs) ++ (wML g o_a m_pl m_yl m_nd m_hm m_wk m_kd) ++ (wI g (o_a 10) 29 g_f) ++ (wI g (o_a 11) 29 q) ++ (wI g (o_a 17) 5 r) ++ (wI g (o_a 19) 32 (fillI (fun z9 => nI (vaM o_nf o_ne m_pl m_nd m_hm m_wk m_kd g_f z9)) w_f (2 ^ o_ne)))) [] 1 X (c_X6_ways g l   o_ne (hne)) k_RX6_219 hy_X6_ways.2 (by decide) rfl (by decide) nX6_share_131 rfl rfl (Nat.le_of_ble_eq_true rfl) rfl ?_
                refine V_iload_n nX6_share_134 rfl ?_
                refine V_cSi (ws' := (wO g o_a (nI 0) o_ts o_pl o_nf o_ne o_rf o_re o_ac o_cm o_sd s o_sm o_sf o_rm o_rs) ++ (wML g o_a m_pl m_yl m_nd m_hm m_wk m_kd) ++ (wI g (o_a 10) 29 g_f) ++ (wI g (o_a 11) 29 q) ++ (wI g (o_a 17) 5 r) ++ (wI g (o_a 19) 32 (fillI (fun z9 => nI (vaM o_nf o_ne m_pl m_nd m_hm m_wk m_kd g_f z9)) w_f (2 ^ o_ne)))) [] 3 X (c_X6_fraction g l   (shMA o_nf o_ne m_pl m_nd m_hm m_wk m_kd g_f a v) (facN o_ne) u (by omega) (by have := (facN_le o_ne hne).2; omega) ((facN_le _ hne).1)) k_RX6_222 hy_X6_fraction.2 (by decide) rfl (by decide) nX6_share_135 rfl rfl (Nat.le_of_ble_eq_true rfl) rfl ?_
                exact R_i rfl X hQ nX6_share_138 (by simp only [List.map_append, wI_fst, wML_fst, wO_fst]) (⟨q, r, s, fillI (fun z9 => nI (vaM o_nf o_ne m_pl m_nd m_hm m_wk m_kd g_f z9)) w_f (2 ^ o_ne), by rw [show shMR o_nf o_ne m_pl m_nd m_hm m_wk m_kd g_f (nI a) u = _ from if_pos hp_a, hix_a, hvx], rfl⟩)
              · skip
                have hor := or_lt hne hf_a h60
                have hor2 := or_lt2 hf_a h60
                refine V_iload nX6_share_63 rfl ?_
                refine V_iload_n nX6_share_65 rfl ?_
                refine V_cSi (ws' := (wO g o_a (nI 0) o_ts o_pl o_nf o_ne o_rf o_re o_ac o_cm o_sd s o_sm o_sf o_rm o_rs) ++ (wML g o_a m_pl m_yl m_nd m_hm m_wk m_kd) ++ (wI g (o_a 10) 29 g_f) ++ (wI g (o_a 11) 29 q) ++ (wI g (o_a 17) 5 r) ++ (wI g (o_a 19) 32 (fillI (fun z9 => nI (vaM o_nf o_ne m_pl m_nd m_hm m_wk m_kd g_f z9)) w_f (2 ^ o_ne)))) [] 2 X (c_X6_has g l   v a (by omega) (by omega)) k_RX6_134 hy_X6_has.2 (by decide) rfl (by decide) nX6_share_66 rfl rfl (Nat.le_of_ble_eq_true rfl) rfl ?_
                refine V_if_ne_b (tgt := 120) nX6_share_69 rfl (fun h69 => ?_) (fun h69 => ?_)
                · skip
                  refine V_iinc (v := nI (v + 1)) (lv' := [(0, .ref (o_a 0)), (1, .int (nI a)), (2, .int (bI u)), (3, .int (nI (shMA o_nf o_ne m_pl m_nd m_hm m_wk m_kd g_f a v))), (4, .int (nI (v + 1)))]) nX6_share_120 rfl (nI_add v 1) (by decide) rfl ?_
                  refine V_goto (tgt := 52) nX6_share_123 rfl ?_
                  have q9 := ih52 (v + 1) (by omega) (by omega)
                  rw [show shMA o_nf o_ne m_pl m_nd m_hm m_wk m_kd g_f a (v + 1) = _ from if_pos (of_decide_eq_true h69)] at q9
                  exact q9
                · skip
                  have hbl := bc_less o_ne hne a hf_a v h60 (by have := of_decide_eq_false h69; omega)
                  have hmv := hmo a v hf_a (by omega)
                  refine V_iload nX6_share_72 rfl ?_
                  refine V_cSi (ws' := (wO g o_a (nI 0) o_ts o_pl o_nf o_ne o_rf o_re o_ac o_cm o_sd s o_sm o_sf o_rm o_rs) ++ (wML g o_a m_pl m_yl m_nd m_hm m_wk m_kd) ++ (wI g (o_a 10) 29 g_f) ++ (wI g (o_a 11) 29 q) ++ (wI g (o_a 17) 5 r) ++ (wI g (o_a 19) 32 (fillI (fun z9 => nI (vaM o_nf o_ne m_pl m_nd m_hm m_wk m_kd g_f z9)) w_f (2 ^ o_ne)))) [] 1 X (c_X6_many g l   v (by omega)) k_RX6_196 hy_X6_many.2 (by decide) rfl (by decide) nX6_share_74 rfl rfl (Nat.le_of_ble_eq_true rfl) rfl ?_
                  refine V_istore (lv' := [(0, .ref (o_a 0)), (1, .int (nI a)), (2, .int (bI u)), (3, .int (nI (shMA o_nf o_ne m_pl m_nd m_hm m_wk m_kd g_f a v))), (4, .int (nI v)), (5, .int (nI (bcN v)))]) nX6_share_77 (by decide) rfl ?_
                  refine V_iload_n nX6_share_79 rfl ?_
                  refine V_iload nX6_share_80 rfl ?_
                  refine V_cSi (ws' := (wO g o_a (nI 0) o_ts o_pl o_nf o_ne o_rf o_re o_ac o_cm o_sd s o_sm o_sf o_rm o_rs) ++ (wML g o_a m_pl m_yl m_nd m_hm m_wk m_kd) ++ (wI g (o_a 10) 29 g_f) ++ (wI g (o_a 11) 29 q) ++ (wI g (o_a 17) 5 r) ++ (wI g (o_a 19) 32 (fillI (fun z9 => nI (vaM o_nf o_ne m_pl m_nd m_hm m_wk m_kd g_f z9)) w_f (2 ^ o_ne)))) [] 1 X (c_X6_ways g l   (bcN v) (bcN_le v)) k_RX6_219 hy_X6_ways.2 (by decide) rfl (by decide) nX6_share_82 rfl rfl (Nat.le_of_ble_eq_true rfl) rfl ?_
                  refine V_aload_n nX6_share_85 rfl ?_
                  refine V_get6 0 8 (by decide) f_RX6_79 nX6_share_86 rfl rfl ?_
                  refine V_iconst (v := (nI 1)) nX6_share_89 rfl ?_
                  refine V_isub (v := nI (o_ne - 1)) nX6_share_90 (pk_sub (by omega)) ?_
                  refine V_iload nX6_share_91 rfl ?_
                  refine V_isub (v := nI ((o_ne - 1) - (bcN v))) nX6_share_93 (pk_sub (hbl)) ?_
                  refine V_cSi (ws' := (wO g o_a (nI 0) o_ts o_pl o_nf o_ne o_rf o_re o_ac o_cm o_sd s o_sm o_sf o_rm o_rs) ++ (wML g o_a m_pl m_yl m_nd m_hm m_wk m_kd) ++ (wI g (o_a 10) 29 g_f) ++ (wI g (o_a 11) 29 q) ++ (wI g (o_a 17) 5 r) ++ (wI g (o_a 19) 32 (fillI (fun z9 => nI (vaM o_nf o_ne m_pl m_nd m_hm m_wk m_kd g_f z9)) w_f (2 ^ o_ne)))) [] 1 X (c_X6_ways g l   ((o_ne - 1) - (bcN v)) (by omega)) k_RX6_219 hy_X6_ways.2 (by decide) rfl (by decide) nX6_share_94 rfl rfl (Nat.le_of_ble_eq_true rfl) rfl ?_
                  refine V_imul (v := nI ((facN (bcN v)) * (facN ((o_ne - 1) - (bcN v))))) nX6_share_97 (pk_mul (facN (bcN v)) (facN ((o_ne - 1) - (bcN v)))) ?_
                  refine V_aload_n nX6_share_98 rfl ?_
                  refine V_get6 0 33 (by decide) f_RX6_65 nX6_share_99 rfl rfl ?_
                  refine V_iload nX6_share_102 rfl ?_
                  refine V_iconst (v := (nI 1)) nX6_share_104 rfl ?_
                  refine V_iload_n nX6_share_105 rfl ?_
                  refine V_ishl (v := nI (2 ^ a)) nX6_share_106 (nI_shl1 (by omega)) ?_
                  refine V_ior (v := nI (v ||| (2 ^ a))) nX6_share_107 (nx_or v (2 ^ a)) ?_
                  refine V_iald (v := nI (vaM o_nf o_ne m_pl m_nd m_hm m_wk m_kd g_f (v ||| (2 ^ a)))) 10 nX6_share_108 rfl (by omega) (by decide) (fillI_lt _ _ _ _ (by omega)) ?_
                  refine V_aload_n nX6_share_109 rfl ?_
                  refine V_get6 0 33 (by decide) f_RX6_65 nX6_share_110 rfl rfl ?_
                  refine V_iload nX6_share_113 rfl ?_
                  refine V_iald (v := nI (vaM o_nf o_ne m_pl m_nd m_hm m_wk m_kd g_f v)) 10 nX6_share_115 rfl (by omega) (by decide) (fillI_lt _ _ _ _ (by omega)) ?_
                  refine V_isub (v := nI ((vaM o_nf o_ne m_pl m_nd m_hm m_wk m_kd g_f (v ||| (2 ^ a))) - (vaM o_nf o_ne m_pl m_nd m_hm m_wk m_kd g_f v))) nX6_share_116 (pk_sub (hmv)) ?_
                  refine V_imul (v := nI (((facN (bcN v)) * (facN ((o_ne - 1) - (bcN v)))) * ((vaM o_nf o_ne m_pl m_nd m_hm m_wk m_kd g_f (v ||| (2 ^ a))) - (vaM o_nf o_ne m_pl m_nd m_hm m_wk m_kd g_f v)))) nX6_share_117 (pk_mul ((facN (bcN v)) * (facN ((o_ne - 1) - (bcN v)))) ((vaM o_nf o_ne m_pl m_nd m_hm m_wk m_kd g_f (v ||| (2 ^ a))) - (vaM o_nf o_ne m_pl m_nd m_hm m_wk m_kd g_f v))) ?_
                  refine V_iadd (v := nI ((shMA o_nf o_ne m_pl m_nd m_hm m_wk m_kd g_f a v) + (((facN (bcN v)) * (facN ((o_ne - 1) - (bcN v)))) * ((vaM o_nf o_ne m_pl m_nd m_hm m_wk m_kd g_f (v ||| (2 ^ a))) - (vaM o_nf o_ne m_pl m_nd m_hm m_wk m_kd g_f v))))) nX6_share_118 (nI_add (shMA o_nf o_ne m_pl m_nd m_hm m_wk m_kd g_f a v) (((facN (bcN v)) * (facN ((o_ne - 1) - (bcN v)))) * ((vaM o_nf o_ne m_pl m_nd m_hm m_wk m_kd g_f (v ||| (2 ^ a))) - (vaM o_nf o_ne m_pl m_nd m_hm m_wk m_kd g_f v)))) ?_
                  refine V_istore_n (lv' := [(0, .ref (o_a 0)), (1, .int (nI a)), (2, .int (bI u)), (3, .int (nI ((shMA o_nf o_ne m_pl m_nd m_hm m_wk m_kd g_f a v) + (((facN (bcN v)) * (facN ((o_ne - 1) - (bcN v)))) * ((vaM o_nf o_ne m_pl m_nd m_hm m_wk m_kd g_f (v ||| (2 ^ a))) - (vaM o_nf o_ne m_pl m_nd m_hm m_wk m_kd g_f v)))))), (4, .int (nI v)), (5, .int (nI (bcN v)))]) nX6_share_119 (by decide) rfl ?_
                  refine V_iinc (v := nI (v + 1)) (lv' := [(0, .ref (o_a 0)), (1, .int (nI a)), (2, .int (bI u)), (3, .int (nI ((shMA o_nf o_ne m_pl m_nd m_hm m_wk m_kd g_f a v) + (((facN (bcN v)) * (facN ((o_ne - 1) - (bcN v)))) * ((vaM o_nf o_ne m_pl m_nd m_hm m_wk m_kd g_f (v ||| (2 ^ a))) - (vaM o_nf o_ne m_pl m_nd m_hm m_wk m_kd g_f v)))))), (4, .int (nI (v + 1))), (5, .int (nI (bcN v)))]) nX6_share_120 rfl (nI_add v 1) (by decide) rfl ?_
                  refine V_goto (tgt := 52) nX6_share_123 rfl ?_
                  refine V_pick (lv2 := [(0, .ref (o_a 0)), (1, .int (nI a)), (2, .int (bI u)), (3, .int (nI ((shMA o_nf o_ne m_pl m_nd m_hm m_wk m_kd g_f a v) + (((facN (bcN v)) * (facN ((o_ne - 1) - (bcN v)))) * ((vaM o_nf o_ne m_pl m_nd m_hm m_wk m_kd g_f (v ||| (2 ^ a))) - (vaM o_nf o_ne m_pl m_nd m_hm m_wk m_kd g_f v)))))), (4, .int (nI (v + 1)))]) [0, 1, 2, 3, 4] rfl ?_
                  have q9 := ih52 (v + 1) (by omega) (by omega)
                  rw [show shMA o_nf o_ne m_pl m_nd m_hm m_wk m_kd g_f a (v + 1) = _ from if_neg (of_decide_eq_false h69)] at q9
                  exact q9
          exact L52 _ 0 (Nat.lt_succ_self _) (by omega)
        · skip
          refine V_aload_n nX6_share_27 rfl ?_
          refine V_get6 0 33 (by decide) f_RX6_65 nX6_share_28 rfl rfl ?_
          refine V_iload_n nX6_share_31 rfl ?_
          refine V_aload_n nX6_share_32 rfl ?_
          refine V_iload_n nX6_share_33 rfl ?_
          refine V_blk (ws' := ((wO g o_a (nI 0) o_ts o_pl o_nf o_ne o_rf o_re o_ac o_cm o_sd s o_sm o_sf o_rm o_rs) ++ (wML g o_a m_pl m_yl m_nd m_hm m_wk m_kd) ++ (wI g (o_a 10) 29 g_f) ++ (wI g (o_a 11) 29 q) ++ (wI g (o_a 17) 5 r)) ++ ((wI g (o_a 19) 32 (fillI (fun z9 => nI (vaM o_nf o_ne m_pl m_nd m_hm m_wk m_kd g_f z9)) w_f v)))) [wO g o_a (nI 0) o_ts o_pl o_nf o_ne o_rf o_re o_ac o_cm o_sd s o_sm o_sf o_rm o_rs, wML g o_a m_pl m_yl m_nd m_hm m_wk m_kd, wI g (o_a 10) 29 g_f, wI g (o_a 11) 29 q, wI g (o_a 17) 5 r, wI g (o_a 19) 32 (fillI (fun z9 => nI (vaM o_nf o_ne m_pl m_nd m_hm m_wk m_kd g_f z9)) w_f v)] [0, 1, 2, 3, 4, 5] rfl (by simp only [List.flatten_cons, List.flatten_nil, List.append_nil, List.append_assoc]) (by show List.flatten [wO g o_a (nI 0) o_ts o_pl o_nf o_ne o_rf o_re o_ac o_cm o_sd s o_sm o_sf o_rm o_rs, wML g o_a m_pl m_yl m_nd m_hm m_wk m_kd, wI g (o_a 10) 29 g_f, wI g (o_a 11) 29 q, wI g (o_a 17) 5 r, wI g (o_a 19) 32 (fillI (fun z9 => nI (vaM o_nf o_ne m_pl m_nd m_hm m_wk m_kd g_f z9)) w_f v)] = _; simp only [List.flatten_cons, List.flatten_nil, List.append_nil, List.append_assoc]) ?_
          refine V_cVi (C := (RX6, TX6, 34)) (ci := 6) (ws' := ((wO g o_a (nI 0) o_ts o_pl o_nf o_ne o_rf o_re o_ac o_cm o_sd ((mrP m_pl m_hm m_wk m_kd o_nf v (g_f, r, s) o_ne).2.2) o_sm o_sf o_rm o_rs) ++ (wML g o_a m_pl m_yl m_nd m_hm m_wk m_kd) ++ (wI g (o_a 10) 29 g_f) ++ (wI g (o_a 11) 29 (mqP m_pl m_hm m_wk m_kd o_nf v g_f o_ne)) ++ (wI g (o_a 17) 5 ((mrP m_pl m_hm m_wk m_kd o_nf v (g_f, r, s) o_ne).2.1))) ++ ((wI g (o_a 19) 32 (fillI (fun z9 => nI (vaM o_nf o_ne m_pl m_nd m_hm m_wk m_kd g_f z9)) w_f v)))) (List.range _) 1 X (c_X6_marched g l o_a (nI 0) o_ts o_pl o_nf o_ne o_rf o_re o_ac o_cm o_sd s o_sm o_sf o_rm o_rs m_pl m_yl m_nd m_hm m_wk m_kd g_f q r  v (by omega) (by omega) (by omega)) k_RX6_161 hy_X6_marched (by decide) (range_at _ _) (range_nd _) 0 rfl rfl nX6_share_34 rfl rfl (Nat.le_of_ble_eq_true rfl) (wput_range _ _ _ (by simp only [List.length_append, wI_len, wML_len, wO_len])) ?_
          refine V_blk (ws' := (wO g o_a (nI 0) o_ts o_pl o_nf o_ne o_rf o_re o_ac o_cm o_sd ((mrP m_pl m_hm m_wk m_kd o_nf v (g_f, r, s) o_ne).2.2) o_sm o_sf o_rm o_rs) ++ (wML g o_a m_pl m_yl m_nd m_hm m_wk m_kd) ++ (wI g (o_a 10) 29 g_f) ++ (wI g (o_a 11) 29 (mqP m_pl m_hm m_wk m_kd o_nf v g_f o_ne)) ++ (wI g (o_a 17) 5 ((mrP m_pl m_hm m_wk m_kd o_nf v (g_f, r, s) o_ne).2.1)) ++ (wI g (o_a 19) 32 (fillI (fun z9 => nI (vaM o_nf o_ne m_pl m_nd m_hm m_wk m_kd g_f z9)) w_f v))) [wO g o_a (nI 0) o_ts o_pl o_nf o_ne o_rf o_re o_ac o_cm o_sd ((mrP m_pl m_hm m_wk m_kd o_nf v (g_f, r, s) o_ne).2.2) o_sm o_sf o_rm o_rs, wML g o_a m_pl m_yl m_nd m_hm m_wk m_kd, wI g (o_a 10) 29 g_f, wI g (o_a 11) 29 (mqP m_pl m_hm m_wk m_kd o_nf v g_f o_ne), wI g (o_a 17) 5 ((mrP m_pl m_hm m_wk m_kd o_nf v (g_f, r, s) o_ne).2.1), wI g (o_a 19) 32 (fillI (fun z9 => nI (vaM o_nf o_ne m_pl m_nd m_hm m_wk m_kd g_f z9)) w_f v)] [0, 1, 2, 3, 4, 5] rfl (by simp only [List.flatten_cons, List.flatten_nil, List.append_nil, List.append_assoc]) (by show List.flatten [wO g o_a (nI 0) o_ts o_pl o_nf o_ne o_rf o_re o_ac o_cm o_sd ((mrP m_pl m_hm m_wk m_kd o_nf v (g_f, r, s) o_ne).2.2) o_sm o_sf o_rm o_rs, wML g o_a m_pl m_yl m_nd m_hm m_wk m_kd, wI g (o_a 10) 29 g_f, wI g (o_a 11) 29 (mqP m_pl m_hm m_wk m_kd o_nf v g_f o_ne), wI g (o_a 17) 5 ((mrP m_pl m_hm m_wk m_kd o_nf v (g_f, r, s) o_ne).2.1), wI g (o_a 19) 32 (fillI (fun z9 => nI (vaM o_nf o_ne m_pl m_nd m_hm m_wk m_kd g_f z9)) w_f v)] = _; simp only [List.flatten_cons, List.flatten_nil, List.append_nil, List.append_assoc]) ?_
          refine V_cSi (ws' := (wO g o_a (nI 0) o_ts o_pl o_nf o_ne o_rf o_re o_ac o_cm o_sd ((mrP m_pl m_hm m_wk m_kd o_nf v (g_f, r, s) o_ne).2.2) o_sm o_sf o_rm o_rs) ++ (wML g o_a m_pl m_yl m_nd m_hm m_wk m_kd) ++ (wI g (o_a 10) 29 g_f) ++ (wI g (o_a 11) 29 (mqP m_pl m_hm m_wk m_kd o_nf v g_f o_ne)) ++ (wI g (o_a 17) 5 ((mrP m_pl m_hm m_wk m_kd o_nf v (g_f, r, s) o_ne).2.1)) ++ (wI g (o_a 19) 32 (fillI (fun z9 => nI (vaM o_nf o_ne m_pl m_nd m_hm m_wk m_kd g_f z9)) w_f v))) [] 1 X (c_X6_many g l   (swP m_nd (mqP m_pl m_hm m_wk m_kd o_nf v g_f o_ne) o_nf) (Nat.lt_trans (swP_lt hnf _ _) (by decide))) k_RX6_196 hy_X6_many.2 (by decide) rfl (by decide) nX6_share_37 rfl rfl (Nat.le_of_ble_eq_true rfl) rfl ?_
          refine V_iast (ws' := (wO g o_a (nI 0) o_ts o_pl o_nf o_ne o_rf o_re o_ac o_cm o_sd ((mrP m_pl m_hm m_wk m_kd o_nf v (g_f, r, s) o_ne).2.2) o_sm o_sf o_rm o_rs) ++ (wML g o_a m_pl m_yl m_nd m_hm m_wk m_kd) ++ (wI g (o_a 10) 29 g_f) ++ (wI g (o_a 11) 29 (mqP m_pl m_hm m_wk m_kd o_nf v g_f o_ne)) ++ (wI g (o_a 17) 5 ((mrP m_pl m_hm m_wk m_kd o_nf v (g_f, r, s) o_ne).2.1)) ++ (wI g (o_a 19) 32 (upd (fillI (fun z9 => nI (vaM o_nf o_ne m_pl m_nd m_hm m_wk m_kd g_f z9)) w_f v) v (nI (bcN (swP m_nd (mqP m_pl m_hm m_wk m_kd o_nf v g_f o_ne) o_nf)))))) 10 nX6_share_40 rfl (by omega) (by decide) rfl ?_
          refine V_iinc (v := nI (v + 1)) (lv' := [(0, .ref (o_a 0)), (1, .int (nI a)), (2, .int (bI u)), (3, .int (nI (v + 1)))]) nX6_share_41 rfl (nI_add v 1) (by decide) rfl ?_
          refine V_goto (tgt := 17) nX6_share_44 rfl ?_
          exact ih (v + 1) (mqP m_pl m_hm m_wk m_kd o_nf v g_f o_ne) ((mrP m_pl m_hm m_wk m_kd o_nf v (g_f, r, s) o_ne).2.1) ((mrP m_pl m_hm m_wk m_kd o_nf v (g_f, r, s) o_ne).2.2) (by omega) (by omega)
    exact L17 _ 0 y_f r_f o_wf (Nat.lt_succ_self _) (by omega)
  · skip
    have hn_a : hasN o_ne x = false := by rw [Bool.not_eq_true'] at h10; exact h10
    refine V_iconst (v := (-1)) nX6_share_13 (by decide) ?_
    exact R_i rfl X hQ nX6_share_14 (by simp only [List.map_append, wI_fst, wML_fst, wO_fst]) (⟨y_f, r_f, o_wf, w_f, by simp [shMR, hn_a], rfl⟩)

set_option maxHeartbeats 4000000 in
set_option maxRecDepth 100000 in
theorem c_X6_came (g : Gx) (l : Launch) (o_a : Nat → Nat) (o_th : Int32) (o_ts : Nat) (o_pl : Nat) (o_nf : Nat) (o_ne : Nat) (o_rf : Nat) (o_re : Nat) (o_ac : Nat) (o_cm : Nat) (o_sd : Int64) (o_wf : Int32) (o_sm : Int32) (o_sf : Int32) (o_rm : Int32) (o_rs : Int32) (c_f : Nat → Int32) (d_f : Nat → Int32)  (q : Int32) (c : Int32) (hn : o_cm ≤ 6) : Cd g l yX6_came mX6_came ({ frames := 1, cells := 0, slots := 0, locals := 25 } : Room) [.ref (o_a 0), .int q, .int c] ((wO g o_a o_th o_ts o_pl o_nf o_ne o_rf o_re o_ac o_cm o_sd o_wf o_sm o_sf o_rm o_rs) ++ (wI g (o_a 15) 6 c_f) ++ (wI g (o_a 16) 6 d_f)) (some (.int (cmR o_cm q c))) ((wO g o_a (nI 0) o_ts o_pl o_nf o_ne o_rf o_re o_ac (cmN o_cm q c) o_sd o_wf o_sm o_sf o_rm o_rs) ++ (wI g (o_a 15) 6 (cmP c_f o_cm q c)) ++ (wI g (o_a 16) 6 (cmJ d_f o_cm q c))) := by
  refine Ct.of (lv := [(0, .ref (o_a 0)), (1, .int q), (2, .int c)]) ⟨by decide +kernel, rfl, Nat.le_of_ble_eq_true rfl⟩ rfl (fun E A sz Q X hQ => ?_)
  refine V_aload_n nX6_came_0 rfl ?_
  refine V_iconst (v := (nI 0)) nX6_came_1 rfl ?_
  refine V_put6 (ws' := (wO g o_a (nI 0) o_ts o_pl o_nf o_ne o_rf o_re o_ac o_cm o_sd o_wf o_sm o_sf o_rm o_rs) ++ (wI g (o_a 15) 6 c_f) ++ (wI g (o_a 16) 6 d_f)) 0 0 (by decide) f_RX6_68 rfl rfl rfl rfl nX6_came_2 rfl (Nat.le_of_ble_eq_true rfl) rfl ?_
  refine V_iload_n nX6_came_5 rfl ?_
  refine V_i2l nX6_came_6 rfl ?_
  refine V_lconst (v := lN 0) nX6_came_7 rfl ?_
  refine V_ldc2 (v := lN 9) ct_RX6_194 nX6_came_8 ?_
  refine V_cSi (ws' := (wO g o_a (nI 0) o_ts o_pl o_nf o_ne o_rf o_re o_ac o_cm o_sd o_wf o_sm o_sf o_rm o_rs) ++ (wI g (o_a 15) 6 c_f) ++ (wI g (o_a 16) 6 d_f)) [] 3 X (c_X6_in g l   (Int32.toInt64 q) (lN 0) (lN 9) ) k_RX6_75 hy_X6_in.2 (by decide) rfl (by decide) nX6_came_11 rfl rfl (Nat.le_of_ble_eq_true rfl) rfl ?_
  refine V_topb (b := rgB q 9) (congrArg bI (inL_rg (by decide) q)) ?_
  refine V_if_eq_b (tgt := 27) nX6_came_14 rfl (fun h14 => ?_) (fun h14 => ?_)
  · skip
    refine V_bipush (v := (-2)) nX6_came_27 (by decide) ?_
    exact R_i rfl X hQ nX6_came_29 (by simp only [List.map_append, wI_fst, wO_fst]) (⟨by simp [cmR, cmOk_rg, h14], by simp [cmN, cmP, cmJ, cmOk_rg, h14]⟩)
  · skip
    refine V_iload_n nX6_came_17 rfl ?_
    refine V_i2l nX6_came_18 rfl ?_
    refine V_lconst (v := lN 0) nX6_came_19 rfl ?_
    refine V_lconst (v := lN 1) nX6_came_20 rfl ?_
    refine V_cSi (ws' := (wO g o_a (nI 0) o_ts o_pl o_nf o_ne o_rf o_re o_ac o_cm o_sd o_wf o_sm o_sf o_rm o_rs) ++ (wI g (o_a 15) 6 c_f) ++ (wI g (o_a 16) 6 d_f)) [] 3 X (c_X6_in g l   (Int32.toInt64 c) (lN 0) (lN 1) ) k_RX6_75 hy_X6_in.2 (by decide) rfl (by decide) nX6_came_21 rfl rfl (Nat.le_of_ble_eq_true rfl) rfl ?_
    refine V_topb (b := rgB c 1) (congrArg bI (inL_rg (by decide) c)) ?_
    refine V_if_ne_b (tgt := 30) nX6_came_24 rfl (fun h24 => ?_) (fun h24 => ?_)
    · skip
      refine V_aload_n nX6_came_30 rfl ?_
      refine V_get6 0 22 (by decide) f_RX6_164 nX6_came_31 rfl rfl ?_
      refine V_bipush (v := (nI 6)) nX6_came_34 (by decide) ?_
      refine V_icmp_ne_N (tgt := 42) nX6_came_36 rfl (by omega) (by omega) (fun h36 => ?_) (fun h36 => ?_)
      · skip
        have k6 : o_cm < 6 := by omega
        refine V_aload_n nX6_came_42 rfl ?_
        refine V_get6 0 23 (by decide) f_RX6_53 nX6_came_43 rfl rfl ?_
        refine V_aload_n nX6_came_46 rfl ?_
        refine V_get6 0 22 (by decide) f_RX6_164 nX6_came_47 rfl rfl ?_
        refine V_iload_n nX6_came_50 rfl ?_
        refine V_iast (ws' := (wO g o_a (nI 0) o_ts o_pl o_nf o_ne o_rf o_re o_ac o_cm o_sd o_wf o_sm o_sf o_rm o_rs) ++ (wI g (o_a 15) 6 (upd c_f o_cm q)) ++ (wI g (o_a 16) 6 d_f)) 1 nX6_came_51 rfl (by omega) (by decide) rfl ?_
        refine V_aload_n nX6_came_52 rfl ?_
        refine V_get6 0 24 (by decide) f_RX6_56 nX6_came_53 rfl rfl ?_
        refine V_aload_n nX6_came_56 rfl ?_
        refine V_get6 0 22 (by decide) f_RX6_164 nX6_came_57 rfl rfl ?_
        refine V_iload_n nX6_came_60 rfl ?_
        refine V_iast (ws' := (wO g o_a (nI 0) o_ts o_pl o_nf o_ne o_rf o_re o_ac o_cm o_sd o_wf o_sm o_sf o_rm o_rs) ++ (wI g (o_a 15) 6 (upd c_f o_cm q)) ++ (wI g (o_a 16) 6 (upd d_f o_cm c))) 2 nX6_came_61 rfl (by omega) (by decide) rfl ?_
        refine V_aload_n nX6_came_62 rfl ?_
        refine V_dup nX6_came_63 rfl ?_
        refine V_get6 0 22 (by decide) f_RX6_164 nX6_came_64 rfl rfl ?_
        refine V_iconst (v := (nI 1)) nX6_came_67 rfl ?_
        refine V_iadd (v := nI (o_cm + 1)) nX6_came_68 (nI_add o_cm 1) ?_
        refine V_put6 (ws' := (wO g o_a (nI 0) o_ts o_pl o_nf o_ne o_rf o_re o_ac (o_cm + 1) o_sd o_wf o_sm o_sf o_rm o_rs) ++ (wI g (o_a 15) 6 (upd c_f o_cm q)) ++ (wI g (o_a 16) 6 (upd d_f o_cm c))) 0 22 (by decide) f_RX6_164 rfl rfl rfl rfl nX6_came_69 rfl (Nat.le_of_ble_eq_true rfl) rfl ?_
        refine V_aload_n nX6_came_72 rfl ?_
        refine V_get6 0 22 (by decide) f_RX6_164 nX6_came_73 rfl rfl ?_
        exact R_i rfl X hQ nX6_came_76 (by simp only [List.map_append, wI_fst, wO_fst]) (⟨by simp [cmR, cmOk_rg, h14, h24, k6], by simp [cmN, cmP, cmJ, cmOk_rg, h14, h24, k6]⟩)
      · skip
        have k6 : ¬ o_cm < 6 := by omega
        refine V_bipush (v := (-4)) nX6_came_39 (by decide) ?_
        exact R_i rfl X hQ nX6_came_41 (by simp only [List.map_append, wI_fst, wO_fst]) (⟨by simp [cmR, cmOk_rg, h14, h24, k6], by simp [cmN, cmP, cmJ, cmOk_rg, h14, h24, k6]⟩)
    · skip
      refine V_bipush (v := (-2)) nX6_came_27 (by decide) ?_
      exact R_i rfl X hQ nX6_came_29 (by simp only [List.map_append, wI_fst, wO_fst]) (⟨by simp [cmR, cmOk_rg, h14, h24], by simp [cmN, cmP, cmJ, cmOk_rg, h14, h24]⟩)

set_option maxHeartbeats 4000000 in
set_option maxRecDepth 100000 in
theorem c_X6_forget (g : Gx) (l : Launch) (o_a : Nat → Nat) (o_th : Int32) (o_ts : Nat) (o_pl : Nat) (o_nf : Nat) (o_ne : Nat) (o_rf : Nat) (o_re : Nat) (o_ac : Nat) (o_cm : Nat) (o_sd : Int64) (o_wf : Int32) (o_sm : Int32) (o_sf : Int32) (o_rm : Int32) (o_rs : Int32)    : Cd g l yX6_forget mX6_forget ({ frames := 0, cells := 0, slots := 0, locals := 0 } : Room) [.ref (o_a 0)] (wO g o_a o_th o_ts o_pl o_nf o_ne o_rf o_re o_ac o_cm o_sd o_wf o_sm o_sf o_rm o_rs) (some (.int (nI o_cm))) (wO g o_a (nI 0) o_ts o_pl o_nf o_ne o_rf o_re o_ac 0 o_sd o_wf o_sm o_sf o_rm o_rs) := by
  refine Ct.of (lv := [(0, .ref (o_a 0))]) ⟨by decide +kernel, rfl, Nat.le_of_ble_eq_true rfl⟩ rfl (fun E A sz Q X hQ => ?_)
  refine V_aload_n nX6_forget_0 rfl ?_
  refine V_iconst (v := (nI 0)) nX6_forget_1 rfl ?_
  refine V_put6 (ws' := wO g o_a (nI 0) o_ts o_pl o_nf o_ne o_rf o_re o_ac o_cm o_sd o_wf o_sm o_sf o_rm o_rs) 0 0 (by decide) f_RX6_68 rfl rfl rfl rfl nX6_forget_2 rfl (Nat.le_of_ble_eq_true rfl) rfl ?_
  refine V_aload_n nX6_forget_5 rfl ?_
  refine V_get6 0 22 (by decide) f_RX6_164 nX6_forget_6 rfl rfl ?_
  refine V_istore_n (lv' := [(0, .ref (o_a 0)), (1, .int (nI o_cm))]) nX6_forget_9 (by decide) rfl ?_
  refine V_aload_n nX6_forget_10 rfl ?_
  refine V_iconst (v := (nI 0)) nX6_forget_11 rfl ?_
  refine V_put6 (ws' := wO g o_a (nI 0) o_ts o_pl o_nf o_ne o_rf o_re o_ac 0 o_sd o_wf o_sm o_sf o_rm o_rs) 0 22 (by decide) f_RX6_164 rfl rfl rfl rfl nX6_forget_12 rfl (Nat.le_of_ble_eq_true rfl) rfl ?_
  refine V_iload_n nX6_forget_15 rfl ?_
  exact R_i rfl X hQ nX6_forget_16 (by simp only [List.map_append, wO_fst]) (⟨rfl, rfl⟩)

set_option maxHeartbeats 4000000 in
set_option maxRecDepth 100000 in
theorem c_X6_strangers (g : Gx) (l : Launch) (o_a : Nat → Nat) (o_th : Int32) (o_ts : Nat) (o_pl : Nat) (o_nf : Nat) (o_ne : Nat) (o_rf : Nat) (o_re : Nat) (o_ac : Nat) (o_cm : Nat) (o_sd : Int64) (o_wf : Int32) (o_sm : Int32) (o_sf : Int32) (o_rm : Int32) (o_rs : Int32) (c_f : Nat → Int32) (d_f : Nat → Int32)  (x : Int32) (hn : o_cm ≤ 6) : Ct g l yX6_strangers mX6_strangers ({ frames := 1, cells := 0, slots := 0, locals := 25 } : Room) [.ref (o_a 0), .int x] ((wO g o_a o_th o_ts o_pl o_nf o_ne o_rf o_re o_ac o_cm o_sd o_wf o_sm o_sf o_rm o_rs) ++ (wI g (o_a 15) 6 c_f) ++ (wI g (o_a 16) 6 d_f)) (fun r w' => ∃ (z_m : Int32) (z_f : Int32), r = (some (.int (stM c_f d_f o_cm x))) ∧ w' = (wO g o_a (nI 0) o_ts o_pl o_nf o_ne o_rf o_re o_ac o_cm o_sd o_wf z_m z_f o_rm o_rs) ++ (wI g (o_a 15) 6 c_f) ++ (wI g (o_a 16) 6 d_f)) := by
  refine Ct.of (lv := [(0, .ref (o_a 0)), (1, .int x)]) ⟨by decide +kernel, rfl, Nat.le_of_ble_eq_true rfl⟩ rfl (fun E A sz Q X hQ => ?_)
  refine V_aload_n nX6_strangers_0 rfl ?_
  refine V_iconst (v := (nI 0)) nX6_strangers_1 rfl ?_
  refine V_put6 (ws' := (wO g o_a (nI 0) o_ts o_pl o_nf o_ne o_rf o_re o_ac o_cm o_sd o_wf o_sm o_sf o_rm o_rs) ++ (wI g (o_a 15) 6 c_f) ++ (wI g (o_a 16) 6 d_f)) 0 0 (by decide) f_RX6_68 rfl rfl rfl rfl nX6_strangers_2 rfl (Nat.le_of_ble_eq_true rfl) rfl ?_
  refine V_iload_n nX6_strangers_5 rfl ?_
  refine V_i2l nX6_strangers_6 rfl ?_
  refine V_lconst (v := lN 0) nX6_strangers_7 rfl ?_
  refine V_lconst (v := lN 1) nX6_strangers_8 rfl ?_
  refine V_cSi (ws' := (wO g o_a (nI 0) o_ts o_pl o_nf o_ne o_rf o_re o_ac o_cm o_sd o_wf o_sm o_sf o_rm o_rs) ++ (wI g (o_a 15) 6 c_f) ++ (wI g (o_a 16) 6 d_f)) [] 3 X (c_X6_in g l   (Int32.toInt64 x) (lN 0) (lN 1) ) k_RX6_75 hy_X6_in.2 (by decide) rfl (by decide) nX6_strangers_9 rfl rfl (Nat.le_of_ble_eq_true rfl) rfl ?_
  refine V_topb (b := rgB x 1) (congrArg bI (inL_rg (by decide) x)) ?_
  refine V_if_ne_b (tgt := 18) nX6_strangers_12 rfl (fun h12 => ?_) (fun h12 => ?_)
  · skip
    refine V_aload_n nX6_strangers_18 rfl ?_
    refine V_iconst (v := (nI 0)) nX6_strangers_19 rfl ?_
    refine V_put6 (ws' := (wO g o_a (nI 0) o_ts o_pl o_nf o_ne o_rf o_re o_ac o_cm o_sd o_wf (nI 0) o_sf o_rm o_rs) ++ (wI g (o_a 15) 6 c_f) ++ (wI g (o_a 16) 6 d_f)) 0 28 (by decide) f_RX6_226 rfl rfl rfl rfl nX6_strangers_20 rfl (Nat.le_of_ble_eq_true rfl) rfl ?_
    refine V_aload_n nX6_strangers_23 rfl ?_
    refine V_bipush (v := (-9)) nX6_strangers_24 (by decide) ?_
    refine V_put6 (ws' := (wO g o_a (nI 0) o_ts o_pl o_nf o_ne o_rf o_re o_ac o_cm o_sd o_wf (nI 0) (-9) o_rm o_rs) ++ (wI g (o_a 15) 6 c_f) ++ (wI g (o_a 16) 6 d_f)) 0 29 (by decide) f_RX6_229 rfl rfl rfl rfl nX6_strangers_26 rfl (Nat.le_of_ble_eq_true rfl) rfl ?_
    refine V_iconst (v := (nI 0)) nX6_strangers_29 rfl ?_
    refine V_istore_n (lv' := [(0, .ref (o_a 0)), (1, .int x), (2, .int (nI 0))]) nX6_strangers_30 (by decide) rfl ?_
    have L31 : ∀ (n : Nat) (v : Nat), 100 - v < n → v ≤ 100 → V g E mX6_strangers A Q 0 0 ((wO g o_a (nI 0) o_ts o_pl o_nf o_ne o_rf o_re o_ac o_cm o_sd o_wf (ctM (fun k => alM c_f d_f k o_cm) v) (fsM (fun k => alM c_f d_f k o_cm) (fun k => k) v) o_rm o_rs) ++ (wI g (o_a 15) 6 c_f) ++ (wI g (o_a 16) 6 d_f)) 31 [(0, .ref (o_a 0)), (1, .int x), (2, .int (nI v))] [] := by
      intro n
      induction n with
      | zero => intro v hm; exact absurd hm (Nat.not_lt_zero _)
      | succ n ih =>
        intro v hm hv
        refine V_iload_n nX6_strangers_31 rfl ?_
        refine V_bipush (v := (nI 100)) nX6_strangers_32 (by decide) ?_
        refine V_icmp_ge_N (tgt := 159) nX6_strangers_34 rfl (by omega) (by omega) (fun h34 => ?_) (fun h34 => ?_)
        · skip
          have hvx : v = 100 := by omega
          subst hvx
          refine V_iload_n nX6_strangers_159 rfl ?_
          refine V_if_ne (tgt := 170) nX6_strangers_160 rfl (fun h160 => ?_) (fun h160 => ?_)
          · skip
            refine V_aload_n nX6_strangers_170 rfl ?_
            refine V_get6 0 29 (by decide) f_RX6_229 nX6_strangers_171 rfl rfl ?_
            exact R_i rfl X hQ nX6_strangers_174 (by simp only [List.map_append, wI_fst, wO_fst]) (⟨ctM (fun k => alM c_f d_f k o_cm) 100, fsM (fun k => alM c_f d_f k o_cm) (fun k => k) 100, by rw [show stM c_f d_f o_cm x = _ from if_pos h12]; simp [h160], rfl⟩)
          · skip
            refine V_aload_n nX6_strangers_163 rfl ?_
            refine V_get6 0 28 (by decide) f_RX6_226 nX6_strangers_164 rfl rfl ?_
            refine V_goto (tgt := 174) nX6_strangers_167 rfl ?_
            exact R_i rfl X hQ nX6_strangers_174 (by simp only [List.map_append, wI_fst, wO_fst]) (⟨ctM (fun k => alM c_f d_f k o_cm) 100, fsM (fun k => alM c_f d_f k o_cm) (fun k => k) 100, by rw [show stM c_f d_f o_cm x = _ from if_pos h12]; simp [h160], rfl⟩)
        · skip
          refine V_iconst (v := (nI 1)) nX6_strangers_37 rfl ?_
          refine V_istore_n (lv' := [(0, .ref (o_a 0)), (1, .int x), (2, .int (nI v)), (3, .int (nI 1))]) nX6_strangers_38 (by decide) rfl ?_
          refine V_iconst (v := (nI 0)) nX6_strangers_39 rfl ?_
          refine V_istore (lv' := [(0, .ref (o_a 0)), (1, .int x), (2, .int (nI v)), (3, .int (nI 1)), (4, .int (nI 0))]) nX6_strangers_40 (by decide) rfl ?_
          have L42 : ∀ (n : Nat) (i : Nat), o_cm - i < n → i ≤ o_cm → V g E mX6_strangers A Q 0 0 ((wO g o_a (nI 0) o_ts o_pl o_nf o_ne o_rf o_re o_ac o_cm o_sd o_wf (ctM (fun k => alM c_f d_f k o_cm) v) (fsM (fun k => alM c_f d_f k o_cm) (fun k => k) v) o_rm o_rs) ++ (wI g (o_a 15) 6 c_f) ++ (wI g (o_a 16) 6 d_f)) 42 [(0, .ref (o_a 0)), (1, .int x), (2, .int (nI v)), (3, .int (bI (alM c_f d_f v i))), (4, .int (nI i))] [] := by
            intro n
            induction n with
            | zero => intro i hm; exact absurd hm (Nat.not_lt_zero _)
            | succ n ih42 =>
              intro i hm hi
              refine V_iload nX6_strangers_42 rfl ?_
              refine V_aload_n nX6_strangers_44 rfl ?_
              refine V_get6 0 22 (by decide) f_RX6_164 nX6_strangers_45 rfl rfl ?_
              refine V_icmp_ge_N (tgt := 112) nX6_strangers_48 rfl (by omega) (by omega) (fun h48 => ?_) (fun h48 => ?_)
              · skip
                have hx_i : o_cm = i := by omega
                subst hx_i
                refine V_aload_n nX6_strangers_112 rfl ?_
                refine V_iload_n nX6_strangers_113 rfl ?_
                refine V_if_eq_b (tgt := 128) nX6_strangers_114 rfl (fun h114 => ?_) (fun h114 => ?_)
                · skip
                  refine V_aload_n nX6_strangers_128 rfl ?_
                  refine V_get6 0 29 (by decide) f_RX6_229 nX6_strangers_129 rfl rfl ?_
                  refine V_put6 (ws' := (wO g o_a (nI 0) o_ts o_pl o_nf o_ne o_rf o_re o_ac o_cm o_sd o_wf (ctM (fun k => alM c_f d_f k o_cm) v) (fsM (fun k => alM c_f d_f k o_cm) (fun k => k) v) o_rm o_rs) ++ (wI g (o_a 15) 6 c_f) ++ (wI g (o_a 16) 6 d_f)) 0 29 (by decide) f_RX6_229 rfl rfl rfl rfl nX6_strangers_132 rfl (Nat.le_of_ble_eq_true rfl) rfl ?_
                  refine V_aload_n nX6_strangers_135 rfl ?_
                  refine V_dup nX6_strangers_136 rfl ?_
                  refine V_get6 0 28 (by decide) f_RX6_226 nX6_strangers_137 rfl rfl ?_
                  refine V_iload_n nX6_strangers_140 rfl ?_
                  refine V_joinb (b := (alM c_f d_f v o_cm)) (pj := 149) (st := [.int (ctM (fun k => alM c_f d_f k o_cm) v), .ref (o_a 0)]) (fun J1 J2 => ?_) ?_
                  · skip
                    refine V_if_eq_b (tgt := 148) nX6_strangers_141 rfl (fun h141 => ?_) (fun h141 => ?_)
                    · skip
                      refine V_iconst (v := (nI 0)) nX6_strangers_148 rfl ?_
                      exact J2 (by simp [h141])
                    · skip
                      refine V_iconst (v := (nI 1)) nX6_strangers_144 rfl ?_
                      refine V_goto (tgt := 149) nX6_strangers_145 rfl ?_
                      exact J1 (by simp [h141])
                  refine V_iadd (v := (ctM (fun k => alM c_f d_f k o_cm) v) + (bI (alM c_f d_f v o_cm))) nX6_strangers_149 rfl ?_
                  refine V_put6 (ws' := (wO g o_a (nI 0) o_ts o_pl o_nf o_ne o_rf o_re o_ac o_cm o_sd o_wf ((ctM (fun k => alM c_f d_f k o_cm) v) + (bI (alM c_f d_f v o_cm))) (fsM (fun k => alM c_f d_f k o_cm) (fun k => k) v) o_rm o_rs) ++ (wI g (o_a 15) 6 c_f) ++ (wI g (o_a 16) 6 d_f)) 0 28 (by decide) f_RX6_226 rfl rfl rfl rfl nX6_strangers_150 rfl (Nat.le_of_ble_eq_true rfl) rfl ?_
                  refine V_iinc (v := nI (v + 1)) (lv' := [(0, .ref (o_a 0)), (1, .int x), (2, .int (nI (v + 1))), (3, .int (bI (alM c_f d_f v o_cm))), (4, .int (nI o_cm))]) nX6_strangers_153 rfl (nI_add v 1) (by decide) rfl ?_
                  refine V_goto (tgt := 31) nX6_strangers_156 rfl ?_
                  refine V_pick (lv2 := [(0, .ref (o_a 0)), (1, .int x), (2, .int (nI (v + 1)))]) [0, 1, 2] rfl ?_
                  have q9 := ih (v + 1) (by omega) (by omega)
                  rw [show fsM (fun k => alM c_f d_f k o_cm) (fun k => k) (v + 1) = _ from if_neg (fun q => by have q1 : alM c_f d_f v o_cm = true := q.1; rw [h114] at q1; exact absurd q1 (by decide))] at q9
                  exact q9
                · skip
                  refine V_aload_n nX6_strangers_117 rfl ?_
                  refine V_get6 0 28 (by decide) f_RX6_226 nX6_strangers_118 rfl rfl ?_
                  refine V_if_ne (tgt := 128) nX6_strangers_121 rfl (fun h121 => ?_) (fun h121 => ?_)
                  · skip
                    refine V_aload_n nX6_strangers_128 rfl ?_
                    refine V_get6 0 29 (by decide) f_RX6_229 nX6_strangers_129 rfl rfl ?_
                    refine V_put6 (ws' := (wO g o_a (nI 0) o_ts o_pl o_nf o_ne o_rf o_re o_ac o_cm o_sd o_wf (ctM (fun k => alM c_f d_f k o_cm) v) (fsM (fun k => alM c_f d_f k o_cm) (fun k => k) v) o_rm o_rs) ++ (wI g (o_a 15) 6 c_f) ++ (wI g (o_a 16) 6 d_f)) 0 29 (by decide) f_RX6_229 rfl rfl rfl rfl nX6_strangers_132 rfl (Nat.le_of_ble_eq_true rfl) rfl ?_
                    refine V_aload_n nX6_strangers_135 rfl ?_
                    refine V_dup nX6_strangers_136 rfl ?_
                    refine V_get6 0 28 (by decide) f_RX6_226 nX6_strangers_137 rfl rfl ?_
                    refine V_iload_n nX6_strangers_140 rfl ?_
                    refine V_joinb (b := (alM c_f d_f v o_cm)) (pj := 149) (st := [.int (ctM (fun k => alM c_f d_f k o_cm) v), .ref (o_a 0)]) (fun J1 J2 => ?_) ?_
                    · skip
                      refine V_if_eq_b (tgt := 148) nX6_strangers_141 rfl (fun h141 => ?_) (fun h141 => ?_)
                      · skip
                        refine V_iconst (v := (nI 0)) nX6_strangers_148 rfl ?_
                        exact J2 (by simp [h141])
                      · skip
                        refine V_iconst (v := (nI 1)) nX6_strangers_144 rfl ?_
                        refine V_goto (tgt := 149) nX6_strangers_145 rfl ?_
                        exact J1 (by simp [h141])
                    refine V_iadd (v := (ctM (fun k => alM c_f d_f k o_cm) v) + (bI (alM c_f d_f v o_cm))) nX6_strangers_149 rfl ?_
                    refine V_put6 (ws' := (wO g o_a (nI 0) o_ts o_pl o_nf o_ne o_rf o_re o_ac o_cm o_sd o_wf ((ctM (fun k => alM c_f d_f k o_cm) v) + (bI (alM c_f d_f v o_cm))) (fsM (fun k => alM c_f d_f k o_cm) (fun k => k) v) o_rm o_rs) ++ (wI g (o_a 15) 6 c_f) ++ (wI g (o_a 16) 6 d_f)) 0 28 (by decide) f_RX6_226 rfl rfl rfl rfl nX6_strangers_150 rfl (Nat.le_of_ble_eq_true rfl) rfl ?_
                    refine V_iinc (v := nI (v + 1)) (lv' := [(0, .ref (o_a 0)), (1, .int x), (2, .int (nI (v + 1))), (3, .int (bI (alM c_f d_f v o_cm))), (4, .int (nI o_cm))]) nX6_strangers_153 rfl (nI_add v 1) (by decide) rfl ?_
                    refine V_goto (tgt := 31) nX6_strangers_156 rfl ?_
                    refine V_pick (lv2 := [(0, .ref (o_a 0)), (1, .int x), (2, .int (nI (v + 1)))]) [0, 1, 2] rfl ?_
                    have q9 := ih (v + 1) (by omega) (by omega)
                    rw [show fsM (fun k => alM c_f d_f k o_cm) (fun k => k) (v + 1) = _ from if_neg (fun q => h121 q.2)] at q9
                    exact q9
                  · skip
                    refine V_iload_n nX6_strangers_124 rfl ?_
                    refine V_goto (tgt := 132) nX6_strangers_125 rfl ?_
                    refine V_put6 (ws' := (wO g o_a (nI 0) o_ts o_pl o_nf o_ne o_rf o_re o_ac o_cm o_sd o_wf (ctM (fun k => alM c_f d_f k o_cm) v) (nI v) o_rm o_rs) ++ (wI g (o_a 15) 6 c_f) ++ (wI g (o_a 16) 6 d_f)) 0 29 (by decide) f_RX6_229 rfl rfl rfl rfl nX6_strangers_132 rfl (Nat.le_of_ble_eq_true rfl) rfl ?_
                    refine V_aload_n nX6_strangers_135 rfl ?_
                    refine V_dup nX6_strangers_136 rfl ?_
                    refine V_get6 0 28 (by decide) f_RX6_226 nX6_strangers_137 rfl rfl ?_
                    refine V_iload_n nX6_strangers_140 rfl ?_
                    refine V_joinb (b := (alM c_f d_f v o_cm)) (pj := 149) (st := [.int (ctM (fun k => alM c_f d_f k o_cm) v), .ref (o_a 0)]) (fun J1 J2 => ?_) ?_
                    · skip
                      refine V_if_eq_b (tgt := 148) nX6_strangers_141 rfl (fun h141 => ?_) (fun h141 => ?_)
                      · skip
                        refine V_iconst (v := (nI 0)) nX6_strangers_148 rfl ?_
                        exact J2 (by simp [h141])
                      · skip
                        refine V_iconst (v := (nI 1)) nX6_strangers_144 rfl ?_
                        refine V_goto (tgt := 149) nX6_strangers_145 rfl ?_
                        exact J1 (by simp [h141])
                    refine V_iadd (v := (ctM (fun k => alM c_f d_f k o_cm) v) + (bI (alM c_f d_f v o_cm))) nX6_strangers_149 rfl ?_
                    refine V_put6 (ws' := (wO g o_a (nI 0) o_ts o_pl o_nf o_ne o_rf o_re o_ac o_cm o_sd o_wf ((ctM (fun k => alM c_f d_f k o_cm) v) + (bI (alM c_f d_f v o_cm))) (nI v) o_rm o_rs) ++ (wI g (o_a 15) 6 c_f) ++ (wI g (o_a 16) 6 d_f)) 0 28 (by decide) f_RX6_226 rfl rfl rfl rfl nX6_strangers_150 rfl (Nat.le_of_ble_eq_true rfl) rfl ?_
                    refine V_iinc (v := nI (v + 1)) (lv' := [(0, .ref (o_a 0)), (1, .int x), (2, .int (nI (v + 1))), (3, .int (bI (alM c_f d_f v o_cm))), (4, .int (nI o_cm))]) nX6_strangers_153 rfl (nI_add v 1) (by decide) rfl ?_
                    refine V_goto (tgt := 31) nX6_strangers_156 rfl ?_
                    refine V_pick (lv2 := [(0, .ref (o_a 0)), (1, .int x), (2, .int (nI (v + 1)))]) [0, 1, 2] rfl ?_
                    have q9 := ih (v + 1) (by omega) (by omega)
                    rw [show fsM (fun k => alM c_f d_f k o_cm) (fun k => k) (v + 1) = _ from if_pos ⟨h114, h121⟩] at q9
                    exact q9
              · skip
                refine V_iload_n nX6_strangers_51 rfl ?_
                refine V_if_eq_b (tgt := 104) nX6_strangers_52 rfl (fun h52 => ?_) (fun h52 => ?_)
                · skip
                  refine V_iconst (v := (nI 0)) nX6_strangers_104 rfl ?_
                  refine V_istore_n (lv' := [(0, .ref (o_a 0)), (1, .int x), (2, .int (nI v)), (3, .int (nI 0)), (4, .int (nI i))]) nX6_strangers_105 (by decide) rfl ?_
                  refine V_iinc (v := nI (i + 1)) (lv' := [(0, .ref (o_a 0)), (1, .int x), (2, .int (nI v)), (3, .int (nI 0)), (4, .int (nI (i + 1)))]) nX6_strangers_106 rfl (nI_add i 1) (by decide) rfl ?_
                  refine V_goto (tgt := 42) nX6_strangers_109 rfl ?_
                  have q9 := ih42 (i + 1) (by omega) (by omega)
                  rw [alM_f h52] at q9
                  exact q9
                · skip
                  refine V_iload_n nX6_strangers_55 rfl ?_
                  refine V_bipush (v := (nI 10)) nX6_strangers_56 (by decide) ?_
                  refine V_idiv (v := nI (v / 10)) nX6_strangers_58 (nI_ne0 (by omega) (by omega)) (pk_div (by omega) (by omega) (by omega)) ?_
                  refine V_aload_n nX6_strangers_59 rfl ?_
                  refine V_get6 0 23 (by decide) f_RX6_53 nX6_strangers_60 rfl rfl ?_
                  refine V_iload nX6_strangers_63 rfl ?_
                  refine V_iald 1 nX6_strangers_65 rfl (by omega) (by decide) rfl ?_
                  refine V_cSi (ws' := (wO g o_a (nI 0) o_ts o_pl o_nf o_ne o_rf o_re o_ac o_cm o_sd o_wf (ctM (fun k => alM c_f d_f k o_cm) v) (fsM (fun k => alM c_f d_f k o_cm) (fun k => k) v) o_rm o_rs) ++ (wI g (o_a 15) 6 c_f) ++ (wI g (o_a 16) 6 d_f)) [] 2 X (c_X6_apart g l   (nI (v / 10)) (c_f i) ) k_RX6_121 hy_X6_apart.2 (by decide) rfl (by decide) nX6_strangers_66 rfl rfl (Nat.le_of_ble_eq_true rfl) rfl ?_
                  refine V_iload_n nX6_strangers_69 rfl ?_
                  refine V_bipush (v := (nI 10)) nX6_strangers_70 (by decide) ?_
                  refine V_irem (v := nI (v % 10)) nX6_strangers_72 (nI_ne0 (by omega) (by omega)) (pk_rem (by omega) (by omega) (by omega)) ?_
                  refine V_joinb (b := !decide ((nI (v % 10)) < (apI (nI (v / 10)) (c_f i)))) (pj := 81) (st := []) (fun J1 J2 => ?_) ?_
                  · skip
                    refine V_icmp_gt (tgt := 80) nX6_strangers_73 rfl (fun h73 => ?_) (fun h73 => ?_)
                    · skip
                      refine V_iconst (v := (nI 0)) nX6_strangers_80 rfl ?_
                      exact J2 (by simp [h73])
                    · skip
                      refine V_iconst (v := (nI 1)) nX6_strangers_76 rfl ?_
                      refine V_goto (tgt := 81) nX6_strangers_77 rfl ?_
                      exact J1 (by simp [h73])
                  refine V_aload_n nX6_strangers_81 rfl ?_
                  refine V_get6 0 24 (by decide) f_RX6_56 nX6_strangers_82 rfl rfl ?_
                  refine V_iload nX6_strangers_85 rfl ?_
                  refine V_iald 2 nX6_strangers_87 rfl (by omega) (by decide) rfl ?_
                  refine V_iconst (v := (nI 1)) nX6_strangers_88 rfl ?_
                  refine V_joinb (b := decide ((d_f i) = (nI 1))) (pj := 97) (st := [.int (bI (!decide ((nI (v % 10)) < (apI (nI (v / 10)) (c_f i)))))]) (fun J1 J2 => ?_) ?_
                  · skip
                    refine V_icmp_ne (tgt := 96) nX6_strangers_89 rfl (fun h89 => ?_) (fun h89 => ?_)
                    · skip
                      refine V_iconst (v := (nI 0)) nX6_strangers_96 rfl ?_
                      exact J2 (by simp [h89])
                    · skip
                      refine V_iconst (v := (nI 1)) nX6_strangers_92 rfl ?_
                      refine V_goto (tgt := 97) nX6_strangers_93 rfl ?_
                      exact J1 (by simp [h89])
                  refine V_joinb (b := decide ((bI (!decide ((nI (v % 10)) < (apI (nI (v / 10)) (c_f i))))) = (bI (decide ((d_f i) = (nI 1)))))) (pj := 105) (st := []) (fun J1 J2 => ?_) ?_
                  · skip
                    refine V_icmp_ne (tgt := 104) nX6_strangers_97 rfl (fun h97 => ?_) (fun h97 => ?_)
                    · skip
                      refine V_iconst (v := (nI 0)) nX6_strangers_104 rfl ?_
                      exact J2 (by simp [h97])
                    · skip
                      refine V_iconst (v := (nI 1)) nX6_strangers_100 rfl ?_
                      refine V_goto (tgt := 105) nX6_strangers_101 rfl ?_
                      exact J1 (by simp [h97])
                  refine V_istore_n (lv' := [(0, .ref (o_a 0)), (1, .int x), (2, .int (nI v)), (3, .int (bI (decide ((bI (!decide ((nI (v % 10)) < (apI (nI (v / 10)) (c_f i))))) = (bI (decide ((d_f i) = (nI 1)))))))), (4, .int (nI i))]) nX6_strangers_105 (by decide) rfl ?_
                  refine V_iinc (v := nI (i + 1)) (lv' := [(0, .ref (o_a 0)), (1, .int x), (2, .int (nI v)), (3, .int (bI (decide ((bI (!decide ((nI (v % 10)) < (apI (nI (v / 10)) (c_f i))))) = (bI (decide ((d_f i) = (nI 1)))))))), (4, .int (nI (i + 1)))]) nX6_strangers_106 rfl (nI_add i 1) (by decide) rfl ?_
                  refine V_goto (tgt := 42) nX6_strangers_109 rfl ?_
                  have q9 := ih42 (i + 1) (by omega) (by omega)
                  rw [alM_t h52] at q9
                  exact q9
          exact L42 _ 0 (Nat.lt_succ_self _) (by omega)
    exact L31 _ 0 (Nat.lt_succ_self _) (by omega)
  · skip
    refine V_bipush (v := (-2)) nX6_strangers_15 (by decide) ?_
    exact R_i rfl X hQ nX6_strangers_17 (by simp only [List.map_append, wI_fst, wO_fst]) (⟨o_sm, o_sf, by simp [stM, h12], rfl⟩)

set_option maxHeartbeats 4000000 in
set_option maxRecDepth 100000 in
theorem c_X6_seed (g : Gx) (l : Launch) (o_a : Nat → Nat) (o_th : Int32) (o_ts : Nat) (o_pl : Nat) (o_nf : Nat) (o_ne : Nat) (o_rf : Nat) (o_re : Nat) (o_ac : Nat) (o_cm : Nat) (o_sd : Int64) (o_wf : Int32) (o_sm : Int32) (o_sf : Int32) (o_rm : Int32) (o_rs : Int32)  (v : Int64)  : Cd g l yX6_seed mX6_seed ({ frames := 0, cells := 0, slots := 0, locals := 0 } : Room) [.ref (o_a 0), .long v] (wO g o_a o_th o_ts o_pl o_nf o_ne o_rf o_re o_ac o_cm o_sd o_wf o_sm o_sf o_rm o_rs) (some (.long o_sd)) (wO g o_a (nI 0) o_ts o_pl o_nf o_ne o_rf o_re o_ac o_cm v o_wf o_sm o_sf o_rm o_rs) := by
  refine Ct.of (lv := [(0, .ref (o_a 0)), (1, .long v)]) ⟨by decide +kernel, rfl, Nat.le_of_ble_eq_true rfl⟩ rfl (fun E A sz Q X hQ => ?_)
  refine V_aload_n nX6_seed_0 rfl ?_
  refine V_iconst (v := (nI 0)) nX6_seed_1 rfl ?_
  refine V_put6 (ws' := wO g o_a (nI 0) o_ts o_pl o_nf o_ne o_rf o_re o_ac o_cm o_sd o_wf o_sm o_sf o_rm o_rs) 0 0 (by decide) f_RX6_68 rfl rfl rfl rfl nX6_seed_2 rfl (Nat.le_of_ble_eq_true rfl) rfl ?_
  refine V_aload_n nX6_seed_5 rfl ?_
  refine V_get6 0 25 (by decide) f_RX6_243 nX6_seed_6 rfl rfl ?_
  refine V_lstore_n (lv' := [(0, .ref (o_a 0)), (1, .long v), (3, .long o_sd)]) nX6_seed_9 (by decide) rfl ?_
  refine V_aload_n nX6_seed_10 rfl ?_
  refine V_lload_n nX6_seed_11 rfl ?_
  refine V_put6 (ws' := wO g o_a (nI 0) o_ts o_pl o_nf o_ne o_rf o_re o_ac o_cm v o_wf o_sm o_sf o_rm o_rs) 0 25 (by decide) f_RX6_243 rfl rfl rfl rfl nX6_seed_12 rfl (Nat.le_of_ble_eq_true rfl) rfl ?_
  refine V_lload_n nX6_seed_15 rfl ?_
  exact R_l rfl X hQ nX6_seed_16 (by simp only [List.map_append, wO_fst]) (⟨rfl, rfl⟩)
