set_option maxHeartbeats 4000000 in
set_option maxRecDepth 100000 in
theorem c_X2_hasField (g : Gx) (l : Launch) (l_a : Nat → Nat) (l_nf : Nat) (l_ne : Nat) (l_pl : Nat → Int32) (l_yl : Nat → Int32) (l_nd : Nat → Int32) (l_hm : Nat → Int32) (l_wk : Nat → Int32) (l_kd : Nat → Int32)  (x : Int32) (hnf : l_nf ≤ 4) : Cd g l yX2_hasField mX2_hasField ({ frames := 0, cells := 0, slots := 0, locals := 0 } : Room) [.ref (l_a 0), .int x] (wL g l_a l_nf l_ne l_pl l_yl l_nd l_hm l_wk l_kd) (some (.int (bI (hasN l_nf x)))) (wL g l_a l_nf l_ne l_pl l_yl l_nd l_hm l_wk l_kd) := by
  refine Ct.of (lv := [(0, .ref (l_a 0)), (1, .int x)]) ⟨by decide +kernel, rfl, Nat.le_of_ble_eq_true rfl⟩ rfl (fun E A sz Q X hQ => ?_)
  refine V_iload_n nX2_hasField_0 rfl ?_
  refine V_joinb (b := (!decide (x < 0) && !decide ((nI l_nf) ≤ x))) (pj := 17) (st := []) (fun J1 J2 => ?_) ?_
  · skip
    refine V_if_lt (tgt := 16) nX2_hasField_1 rfl (fun h1 => ?_) (fun h1 => ?_)
    · skip
      refine V_iconst (v := (nI 0)) nX2_hasField_16 rfl ?_
      exact J2 (by simp [h1])
    · skip
      refine V_iload_n nX2_hasField_4 rfl ?_
      refine V_aload_n nX2_hasField_5 rfl ?_
      refine V_get2 0 6 (by decide) f_RX2_30 nX2_hasField_6 rfl rfl ?_
      refine V_icmp_ge (tgt := 16) nX2_hasField_9 rfl (fun h9 => ?_) (fun h9 => ?_)
      · skip
        refine V_iconst (v := (nI 0)) nX2_hasField_16 rfl ?_
        exact J2 (by simp [h1, h9])
      · skip
        refine V_iconst (v := (nI 1)) nX2_hasField_12 rfl ?_
        refine V_goto (tgt := 17) nX2_hasField_13 rfl ?_
        exact J1 (by simp [h1, h9])
  exact R_z rfl X hQ nX2_hasField_17 (by simp only [List.map_append, wL_fst]) (⟨rfl, rfl⟩)

set_option maxHeartbeats 4000000 in
set_option maxRecDepth 100000 in
theorem c_X2_hasEater (g : Gx) (l : Launch) (l_a : Nat → Nat) (l_nf : Nat) (l_ne : Nat) (l_pl : Nat → Int32) (l_yl : Nat → Int32) (l_nd : Nat → Int32) (l_hm : Nat → Int32) (l_wk : Nat → Int32) (l_kd : Nat → Int32)  (x : Int32) (hne : l_ne ≤ 5) : Cd g l yX2_hasEater mX2_hasEater ({ frames := 0, cells := 0, slots := 0, locals := 0 } : Room) [.ref (l_a 0), .int x] (wL g l_a l_nf l_ne l_pl l_yl l_nd l_hm l_wk l_kd) (some (.int (bI (hasN l_ne x)))) (wL g l_a l_nf l_ne l_pl l_yl l_nd l_hm l_wk l_kd) := by
  refine Ct.of (lv := [(0, .ref (l_a 0)), (1, .int x)]) ⟨by decide +kernel, rfl, Nat.le_of_ble_eq_true rfl⟩ rfl (fun E A sz Q X hQ => ?_)
  refine V_iload_n nX2_hasEater_0 rfl ?_
  refine V_joinb (b := (!decide (x < 0) && !decide ((nI l_ne) ≤ x))) (pj := 17) (st := []) (fun J1 J2 => ?_) ?_
  · skip
    refine V_if_lt (tgt := 16) nX2_hasEater_1 rfl (fun h1 => ?_) (fun h1 => ?_)
    · skip
      refine V_iconst (v := (nI 0)) nX2_hasEater_16 rfl ?_
      exact J2 (by simp [h1])
    · skip
      refine V_iload_n nX2_hasEater_4 rfl ?_
      refine V_aload_n nX2_hasEater_5 rfl ?_
      refine V_get2 0 7 (by decide) f_RX2_34 nX2_hasEater_6 rfl rfl ?_
      refine V_icmp_ge (tgt := 16) nX2_hasEater_9 rfl (fun h9 => ?_) (fun h9 => ?_)
      · skip
        refine V_iconst (v := (nI 0)) nX2_hasEater_16 rfl ?_
        exact J2 (by simp [h1, h9])
      · skip
        refine V_iconst (v := (nI 1)) nX2_hasEater_12 rfl ?_
        refine V_goto (tgt := 17) nX2_hasEater_13 rfl ?_
        exact J1 (by simp [h1, h9])
  exact R_z rfl X hQ nX2_hasEater_17 (by simp only [List.map_append, wL_fst]) (⟨rfl, rfl⟩)

set_option maxHeartbeats 4000000 in
set_option maxRecDepth 100000 in
theorem c_X2_allEaters (g : Gx) (l : Launch) (l_a : Nat → Nat) (l_nf : Nat) (l_ne : Nat) (l_pl : Nat → Int32) (l_yl : Nat → Int32) (l_nd : Nat → Int32) (l_hm : Nat → Int32) (l_wk : Nat → Int32) (l_kd : Nat → Int32)   (hne : l_ne ≤ 5) : Cd g l yX2_allEaters mX2_allEaters ({ frames := 0, cells := 0, slots := 0, locals := 0 } : Room) [.ref (l_a 0)] (wL g l_a l_nf l_ne l_pl l_yl l_nd l_hm l_wk l_kd) (some (.int (nI (2 ^ l_ne - 1)))) (wL g l_a l_nf l_ne l_pl l_yl l_nd l_hm l_wk l_kd) := by
  refine Ct.of (lv := [(0, .ref (l_a 0))]) ⟨by decide +kernel, rfl, Nat.le_of_ble_eq_true rfl⟩ rfl (fun E A sz Q X hQ => ?_)
  refine V_iconst (v := (nI 1)) nX2_allEaters_0 rfl ?_
  refine V_aload_n nX2_allEaters_1 rfl ?_
  refine V_get2 0 7 (by decide) f_RX2_34 nX2_allEaters_2 rfl rfl ?_
  refine V_ishl (v := nI (2 ^ l_ne)) nX2_allEaters_5 (nI_shl1 (by omega)) ?_
  refine V_iconst (v := (nI 1)) nX2_allEaters_6 rfl ?_
  refine V_isub (v := nI ((2 ^ l_ne) - 1)) nX2_allEaters_7 (pk_sub (Nat.one_le_two_pow)) ?_
  exact R_i rfl X hQ nX2_allEaters_8 (by simp only [List.map_append, wL_fst]) (⟨rfl, rfl⟩)

set_option maxHeartbeats 4000000 in
set_option maxRecDepth 100000 in
theorem c_X2_portionOf (g : Gx) (l : Launch) (l_a : Nat → Nat) (l_nf : Nat) (l_ne : Nat) (l_pl : Nat → Int32) (l_yl : Nat → Int32) (l_nd : Nat → Int32) (l_hm : Nat → Int32) (l_wk : Nat → Int32) (l_kd : Nat → Int32)  (e : Nat) (he : e < 5) : Cd g l yX2_portionOf mX2_portionOf ({ frames := 0, cells := 0, slots := 0, locals := 0 } : Room) [.ref (l_a 0), .int (nI e)] (wL g l_a l_nf l_ne l_pl l_yl l_nd l_hm l_wk l_kd) (some (.int (nI (porN l_kd e)))) (wL g l_a l_nf l_ne l_pl l_yl l_nd l_hm l_wk l_kd) := by
  refine Ct.of (lv := [(0, .ref (l_a 0)), (1, .int (nI e))]) ⟨by decide +kernel, rfl, Nat.le_of_ble_eq_true rfl⟩ rfl (fun E A sz Q X hQ => ?_)
  refine V_aload_n nX2_portionOf_0 rfl ?_
  refine V_get2 0 5 (by decide) f_RX2_27 nX2_portionOf_1 rfl rfl ?_
  refine V_iload_n nX2_portionOf_4 rfl ?_
  refine V_iald 6 nX2_portionOf_5 rfl (by omega) (by decide) rfl ?_
  refine V_iconst (v := (nI 2)) nX2_portionOf_6 rfl ?_
  refine V_joinN (b := decide ((l_kd e) = (nI 2))) (x := 2) (y := 1) (pj := 15) (st := []) (fun J1 J2 => ?_) ?_
  · skip
    refine V_icmp_ne (tgt := 14) nX2_portionOf_7 rfl (fun h7 => ?_) (fun h7 => ?_)
    · skip
      refine V_iconst (v := (nI 1)) nX2_portionOf_14 rfl ?_
      exact J2 (by simp [h7])
    · skip
      refine V_iconst (v := (nI 2)) nX2_portionOf_10 rfl ?_
      refine V_goto (tgt := 15) nX2_portionOf_11 rfl ?_
      exact J1 (by simp [h7])
  exact R_i rfl X hQ nX2_portionOf_15 (by simp only [List.map_append, wL_fst]) (⟨rfl, rfl⟩)

set_option maxHeartbeats 4000000 in
set_option maxRecDepth 100000 in
theorem c_X1_debt (g : Gx) (l : Launch) (c_a : Nat → Nat) (c_la : Nat → Nat) (c_lo : Nat → Int32) (c_sk : Nat → Int32) (c_db : Nat → Int32) (c_yr : Int32) (c_vi : Nat → Int32) (c_wy : Nat → Int32)  (e : Nat) (f : Nat) (he : e < 5) (hf : f < 4) : Cd g l yX1_debt mX1_debt ({ frames := 0, cells := 0, slots := 0, locals := 0 } : Room) [.ref (c_a 0), .int (nI e), .int (nI f)] (wC g c_a c_la c_lo c_sk c_db c_yr c_vi c_wy) (some (.int (c_db (e * 4 + f)))) (wC g c_a c_la c_lo c_sk c_db c_yr c_vi c_wy) := by
  refine Ct.of (lv := [(0, .ref (c_a 0)), (1, .int (nI e)), (2, .int (nI f))]) ⟨by decide +kernel, rfl, Nat.le_of_ble_eq_true rfl⟩ rfl (fun E A sz Q X hQ => ?_)
  refine V_aload_n nX1_debt_0 rfl ?_
  refine V_get1 0 3 (by decide) f_RX1_22 nX1_debt_1 rfl rfl ?_
  refine V_iload_n nX1_debt_4 rfl ?_
  refine V_iconst (v := (nI 4)) nX1_debt_5 rfl ?_
  refine V_imul (v := nI (e * 4)) nX1_debt_6 (pk_mul e 4) ?_
  refine V_iload_n nX1_debt_7 rfl ?_
  refine V_iadd (v := nI ((e * 4) + f)) nX1_debt_8 (nI_add (e * 4) f) ?_
  refine V_iald 3 nX1_debt_9 rfl (by omega) (by decide) rfl ?_
  exact R_i rfl X hQ nX1_debt_10 (by simp only [List.map_append, wC_fst]) (⟨rfl, rfl⟩)

set_option maxHeartbeats 4000000 in
set_option maxRecDepth 100000 in
theorem c_X1_debtsOf (g : Gx) (l : Launch) (c_a : Nat → Nat) (c_lo : Nat → Int32) (c_sk : Nat → Int32) (c_db : Nat → Int32) (c_yr : Int32) (c_vi : Nat → Int32) (c_wy : Nat → Int32) (l_a : Nat → Nat) (l_nf : Nat) (l_ne : Nat) (l_pl : Nat → Int32) (l_yl : Nat → Int32) (l_nd : Nat → Int32) (l_hm : Nat → Int32) (l_wk : Nat → Int32) (l_kd : Nat → Int32)  (e : Nat) (hnf : l_nf ≤ 4) (he : e < 5) : Cd g l yX1_debtsOf mX1_debtsOf ({ frames := 1, cells := 0, slots := 0, locals := 22 } : Room) [.ref (c_a 0), .int (nI e)] ((wC g c_a l_a c_lo c_sk c_db c_yr c_vi c_wy) ++ (wL g l_a l_nf l_ne l_pl l_yl l_nd l_hm l_wk l_kd)) (some (.int (debtS c_db e l_nf))) ((wC g c_a l_a c_lo c_sk c_db c_yr c_vi c_wy) ++ (wL g l_a l_nf l_ne l_pl l_yl l_nd l_hm l_wk l_kd)) := by
  refine Ct.of (lv := [(0, .ref (c_a 0)), (1, .int (nI e))]) ⟨by decide +kernel, rfl, Nat.le_of_ble_eq_true rfl⟩ rfl (fun E A sz Q X hQ => ?_)
  refine V_iconst (v := (nI 0)) nX1_debtsOf_0 rfl ?_
  refine V_istore_n (lv' := [(0, .ref (c_a 0)), (1, .int (nI e)), (2, .int (nI 0))]) nX1_debtsOf_1 (by decide) rfl ?_
  refine V_iconst (v := (nI 0)) nX1_debtsOf_2 rfl ?_
  refine V_istore_n (lv' := [(0, .ref (c_a 0)), (1, .int (nI e)), (2, .int (nI 0)), (3, .int (nI 0))]) nX1_debtsOf_3 (by decide) rfl ?_
  have L4 : ∀ (n : Nat) (i : Nat), l_nf - i < n → i ≤ l_nf → V g E mX1_debtsOf A Q 0 0 ((wC g c_a l_a c_lo c_sk c_db c_yr c_vi c_wy) ++ (wL g l_a l_nf l_ne l_pl l_yl l_nd l_hm l_wk l_kd)) 4 [(0, .ref (c_a 0)), (1, .int (nI e)), (2, .int (debtS c_db e i)), (3, .int (nI i))] [] := by
    intro n
    induction n with
    | zero => intro i hm; exact absurd hm (Nat.not_lt_zero _)
    | succ n ih =>
      intro i hm hi
      refine V_iload_n nX1_debtsOf_4 rfl ?_
      refine V_aload_n nX1_debtsOf_5 rfl ?_
      refine V_get1 0 0 (by decide) f_RX1_9 nX1_debtsOf_6 rfl rfl ?_
      refine V_get2 6 6 (by decide) f_RX1_35 nX1_debtsOf_9 rfl rfl ?_
      refine V_icmp_ge_N (tgt := 30) nX1_debtsOf_12 rfl (by omega) (by omega) (fun h12 => ?_) (fun h12 => ?_)
      · skip
        have hx_i : l_nf = i := by omega
        subst hx_i
        refine V_iload_n nX1_debtsOf_30 rfl ?_
        exact R_i rfl X hQ nX1_debtsOf_31 (by simp only [List.map_append, wC_fst, wL_fst]) (⟨rfl, rfl⟩)
      · skip
        refine V_iload_n nX1_debtsOf_15 rfl ?_
        refine V_aload_n nX1_debtsOf_16 rfl ?_
        refine V_iload_n nX1_debtsOf_17 rfl ?_
        refine V_iload_n nX1_debtsOf_18 rfl ?_
        refine V_blk (ws' := ((wC g c_a l_a c_lo c_sk c_db c_yr c_vi c_wy)) ++ ((wL g l_a l_nf l_ne l_pl l_yl l_nd l_hm l_wk l_kd))) [wC g c_a l_a c_lo c_sk c_db c_yr c_vi c_wy, wL g l_a l_nf l_ne l_pl l_yl l_nd l_hm l_wk l_kd] [0, 1] rfl (by simp only [List.flatten_cons, List.flatten_nil, List.append_nil, List.append_assoc]) (by show List.flatten [wC g c_a l_a c_lo c_sk c_db c_yr c_vi c_wy, wL g l_a l_nf l_ne l_pl l_yl l_nd l_hm l_wk l_kd] = _; simp only [List.flatten_cons, List.flatten_nil, List.append_nil, List.append_assoc]) ?_
        refine V_cVi (C := (RX1, TX1, 7)) (ci := 1) (ws' := ((wC g c_a l_a c_lo c_sk c_db c_yr c_vi c_wy)) ++ ((wL g l_a l_nf l_ne l_pl l_yl l_nd l_hm l_wk l_kd))) (List.range _) 2 X (c_X1_debt g l c_a l_a c_lo c_sk c_db c_yr c_vi c_wy  e i (by omega) (by omega)) k_RX1_49 hy_X1_debt (by decide) (range_at _ _) (range_nd _) 0 rfl rfl nX1_debtsOf_19 rfl rfl (Nat.le_of_ble_eq_true rfl) (wput_range _ _ _ (by simp only [List.length_append, wC_len])) ?_
        refine V_blk (ws' := (wC g c_a l_a c_lo c_sk c_db c_yr c_vi c_wy) ++ (wL g l_a l_nf l_ne l_pl l_yl l_nd l_hm l_wk l_kd)) [wC g c_a l_a c_lo c_sk c_db c_yr c_vi c_wy, wL g l_a l_nf l_ne l_pl l_yl l_nd l_hm l_wk l_kd] [0, 1] rfl (by simp only [List.flatten_cons, List.flatten_nil, List.append_nil, List.append_assoc]) (by show List.flatten [wC g c_a l_a c_lo c_sk c_db c_yr c_vi c_wy, wL g l_a l_nf l_ne l_pl l_yl l_nd l_hm l_wk l_kd] = _; simp only [List.flatten_cons, List.flatten_nil, List.append_nil, List.append_assoc]) ?_
        refine V_iadd (v := (debtS c_db e i) + (c_db (e * 4 + i))) nX1_debtsOf_22 rfl ?_
        refine V_istore_n (lv' := [(0, .ref (c_a 0)), (1, .int (nI e)), (2, .int ((debtS c_db e i) + (c_db (e * 4 + i)))), (3, .int (nI i))]) nX1_debtsOf_23 (by decide) rfl ?_
        refine V_iinc (v := nI (i + 1)) (lv' := [(0, .ref (c_a 0)), (1, .int (nI e)), (2, .int ((debtS c_db e i) + (c_db (e * 4 + i)))), (3, .int (nI (i + 1)))]) nX1_debtsOf_24 rfl (nI_add i 1) (by decide) rfl ?_
        refine V_goto (tgt := 4) nX1_debtsOf_27 rfl ?_
        exact ih (i + 1) (by omega) (by omega)
  exact L4 _ 0 (Nat.lt_succ_self _) (by omega)

set_option maxHeartbeats 4000000 in
set_option maxRecDepth 100000 in
theorem c_X1_allDebts (g : Gx) (l : Launch) (c_a : Nat → Nat) (c_lo : Nat → Int32) (c_sk : Nat → Int32) (c_db : Nat → Int32) (c_yr : Int32) (c_vi : Nat → Int32) (c_wy : Nat → Int32) (l_a : Nat → Nat) (l_nf : Nat) (l_ne : Nat) (l_pl : Nat → Int32) (l_yl : Nat → Int32) (l_nd : Nat → Int32) (l_hm : Nat → Int32) (l_wk : Nat → Int32) (l_kd : Nat → Int32)   (hnf : l_nf ≤ 4) (hne : l_ne ≤ 5) : Cd g l yX1_allDebts mX1_allDebts ({ frames := 2, cells := 0, slots := 0, locals := 45 } : Room) [.ref (c_a 0)] ((wC g c_a l_a c_lo c_sk c_db c_yr c_vi c_wy) ++ (wL g l_a l_nf l_ne l_pl l_yl l_nd l_hm l_wk l_kd)) (some (.int (sumI (fun e => debtS c_db e l_nf) l_ne))) ((wC g c_a l_a c_lo c_sk c_db c_yr c_vi c_wy) ++ (wL g l_a l_nf l_ne l_pl l_yl l_nd l_hm l_wk l_kd)) := by
  refine Ct.of (lv := [(0, .ref (c_a 0))]) ⟨by decide +kernel, rfl, Nat.le_of_ble_eq_true rfl⟩ rfl (fun E A sz Q X hQ => ?_)
  refine V_iconst (v := (nI 0)) nX1_allDebts_0 rfl ?_
  refine V_istore_n (lv' := [(0, .ref (c_a 0)), (1, .int (nI 0))]) nX1_allDebts_1 (by decide) rfl ?_
  refine V_iconst (v := (nI 0)) nX1_allDebts_2 rfl ?_
  refine V_istore_n (lv' := [(0, .ref (c_a 0)), (1, .int (nI 0)), (2, .int (nI 0))]) nX1_allDebts_3 (by decide) rfl ?_
  have L4 : ∀ (n : Nat) (i : Nat), l_ne - i < n → i ≤ l_ne → V g E mX1_allDebts A Q 0 0 ((wC g c_a l_a c_lo c_sk c_db c_yr c_vi c_wy) ++ (wL g l_a l_nf l_ne l_pl l_yl l_nd l_hm l_wk l_kd)) 4 [(0, .ref (c_a 0)), (1, .int (sumI (fun e => debtS c_db e l_nf) i)), (2, .int (nI i))] [] := by
    intro n
    induction n with
    | zero => intro i hm; exact absurd hm (Nat.not_lt_zero _)
    | succ n ih =>
      intro i hm hi
      refine V_iload_n nX1_allDebts_4 rfl ?_
      refine V_aload_n nX1_allDebts_5 rfl ?_
      refine V_get1 0 0 (by decide) f_RX1_9 nX1_allDebts_6 rfl rfl ?_
      refine V_get2 6 7 (by decide) f_RX1_53 nX1_allDebts_9 rfl rfl ?_
      refine V_icmp_ge_N (tgt := 29) nX1_allDebts_12 rfl (by omega) (by omega) (fun h12 => ?_) (fun h12 => ?_)
      · skip
        have hx_i : l_ne = i := by omega
        subst hx_i
        refine V_iload_n nX1_allDebts_29 rfl ?_
        exact R_i rfl X hQ nX1_allDebts_30 (by simp only [List.map_append, wC_fst, wL_fst]) (⟨rfl, rfl⟩)
      · skip
        refine V_iload_n nX1_allDebts_15 rfl ?_
        refine V_aload_n nX1_allDebts_16 rfl ?_
        refine V_iload_n nX1_allDebts_17 rfl ?_
        refine V_blk (ws' := ((wC g c_a l_a c_lo c_sk c_db c_yr c_vi c_wy) ++ (wL g l_a l_nf l_ne l_pl l_yl l_nd l_hm l_wk l_kd)) ++ ([] : va_W)) [wC g c_a l_a c_lo c_sk c_db c_yr c_vi c_wy, wL g l_a l_nf l_ne l_pl l_yl l_nd l_hm l_wk l_kd] [0, 1] rfl (by simp only [List.flatten_cons, List.flatten_nil, List.append_nil, List.append_assoc]) (by show List.flatten [wC g c_a l_a c_lo c_sk c_db c_yr c_vi c_wy, wL g l_a l_nf l_ne l_pl l_yl l_nd l_hm l_wk l_kd] = _; simp only [List.flatten_cons, List.flatten_nil, List.append_nil, List.append_assoc]) ?_
        refine V_cVi (C := (RX1, TX1, 7)) (ci := 1) (ws' := ((wC g c_a l_a c_lo c_sk c_db c_yr c_vi c_wy) ++ (wL g l_a l_nf l_ne l_pl l_yl l_nd l_hm l_wk l_kd)) ++ ([] : va_W)) (List.range _) 1 X (c_X1_debtsOf g l c_a c_lo c_sk c_db c_yr c_vi c_wy l_a l_nf l_ne l_pl l_yl l_nd l_hm l_wk l_kd  i (by omega) (by omega)) k_RX1_56 hy_X1_debtsOf (by decide) (range_at _ _) (range_nd _) 0 rfl rfl nX1_allDebts_18 rfl rfl (Nat.le_of_ble_eq_true rfl) (wput_range _ _ _ (by simp only [List.length_append, wC_len, wL_len])) ?_
        refine V_blk (ws' := (wC g c_a l_a c_lo c_sk c_db c_yr c_vi c_wy) ++ (wL g l_a l_nf l_ne l_pl l_yl l_nd l_hm l_wk l_kd)) [wC g c_a l_a c_lo c_sk c_db c_yr c_vi c_wy, wL g l_a l_nf l_ne l_pl l_yl l_nd l_hm l_wk l_kd] [0, 1] rfl (by simp only [List.flatten_cons, List.flatten_nil, List.append_nil, List.append_assoc]) (by show List.flatten [wC g c_a l_a c_lo c_sk c_db c_yr c_vi c_wy, wL g l_a l_nf l_ne l_pl l_yl l_nd l_hm l_wk l_kd] = _; simp only [List.flatten_cons, List.flatten_nil, List.append_nil, List.append_assoc]) ?_
        refine V_iadd (v := (sumI (fun e => debtS c_db e l_nf) i) + (debtS c_db i l_nf)) nX1_allDebts_21 rfl ?_
        refine V_istore_n (lv' := [(0, .ref (c_a 0)), (1, .int ((sumI (fun e => debtS c_db e l_nf) i) + (debtS c_db i l_nf))), (2, .int (nI i))]) nX1_allDebts_22 (by decide) rfl ?_
        refine V_iinc (v := nI (i + 1)) (lv' := [(0, .ref (c_a 0)), (1, .int ((sumI (fun e => debtS c_db e l_nf) i) + (debtS c_db i l_nf))), (2, .int (nI (i + 1)))]) nX1_allDebts_23 rfl (nI_add i 1) (by decide) rfl ?_
        refine V_goto (tgt := 4) nX1_allDebts_26 rfl ?_
        exact ih (i + 1) (by omega) (by omega)
  exact L4 _ 0 (Nat.lt_succ_self _) (by omega)

set_option maxHeartbeats 4000000 in
set_option maxRecDepth 100000 in
theorem c_X1_debtorsOf (g : Gx) (l : Launch) (c_a : Nat → Nat) (c_lo : Nat → Int32) (c_sk : Nat → Int32) (c_db : Nat → Int32) (c_yr : Int32) (c_vi : Nat → Int32) (c_wy : Nat → Int32) (l_a : Nat → Nat) (l_nf : Nat) (l_ne : Nat) (l_pl : Nat → Int32) (l_yl : Nat → Int32) (l_nd : Nat → Int32) (l_hm : Nat → Int32) (l_wk : Nat → Int32) (l_kd : Nat → Int32)  (f : Nat) (hne : l_ne ≤ 5) (hf : f < 4) : Cd g l yX1_debtorsOf mX1_debtorsOf ({ frames := 1, cells := 0, slots := 0, locals := 22 } : Room) [.ref (c_a 0), .int (nI f)] ((wC g c_a l_a c_lo c_sk c_db c_yr c_vi c_wy) ++ (wL g l_a l_nf l_ne l_pl l_yl l_nd l_hm l_wk l_kd)) (some (.int (nI (bitsN (fun e => !decide (c_db (e * 4 + f) ≤ 0)) l_ne)))) ((wC g c_a l_a c_lo c_sk c_db c_yr c_vi c_wy) ++ (wL g l_a l_nf l_ne l_pl l_yl l_nd l_hm l_wk l_kd)) := by
  refine Ct.of (lv := [(0, .ref (c_a 0)), (1, .int (nI f))]) ⟨by decide +kernel, rfl, Nat.le_of_ble_eq_true rfl⟩ rfl (fun E A sz Q X hQ => ?_)
  refine V_iconst (v := (nI 0)) nX1_debtorsOf_0 rfl ?_
  refine V_istore_n (lv' := [(0, .ref (c_a 0)), (1, .int (nI f)), (2, .int (nI 0))]) nX1_debtorsOf_1 (by decide) rfl ?_
  refine V_iconst (v := (nI 0)) nX1_debtorsOf_2 rfl ?_
  refine V_istore_n (lv' := [(0, .ref (c_a 0)), (1, .int (nI f)), (2, .int (nI 0)), (3, .int (nI 0))]) nX1_debtorsOf_3 (by decide) rfl ?_
  have L4 : ∀ (n : Nat) (i : Nat), l_ne - i < n → i ≤ l_ne → V g E mX1_debtorsOf A Q 0 0 ((wC g c_a l_a c_lo c_sk c_db c_yr c_vi c_wy) ++ (wL g l_a l_nf l_ne l_pl l_yl l_nd l_hm l_wk l_kd)) 4 [(0, .ref (c_a 0)), (1, .int (nI f)), (2, .int (nI (bitsN (fun e => !decide (c_db (e * 4 + f) ≤ 0)) i))), (3, .int (nI i))] [] := by
    intro n
    induction n with
    | zero => intro i hm; exact absurd hm (Nat.not_lt_zero _)
    | succ n ih =>
      intro i hm hi
      refine V_iload_n nX1_debtorsOf_4 rfl ?_
      refine V_aload_n nX1_debtorsOf_5 rfl ?_
      refine V_get1 0 0 (by decide) f_RX1_9 nX1_debtorsOf_6 rfl rfl ?_
      refine V_get2 6 7 (by decide) f_RX1_53 nX1_debtorsOf_9 rfl rfl ?_
      refine V_icmp_ge_N (tgt := 40) nX1_debtorsOf_12 rfl (by omega) (by omega) (fun h12 => ?_) (fun h12 => ?_)
      · skip
        have hx_i : l_ne = i := by omega
        subst hx_i
        refine V_iload_n nX1_debtorsOf_40 rfl ?_
        exact R_i rfl X hQ nX1_debtorsOf_41 (by simp only [List.map_append, wC_fst, wL_fst]) (⟨rfl, rfl⟩)
      · skip
        refine V_iload_n nX1_debtorsOf_15 rfl ?_
        refine V_aload_n nX1_debtorsOf_16 rfl ?_
        refine V_iload_n nX1_debtorsOf_17 rfl ?_
        refine V_iload_n nX1_debtorsOf_18 rfl ?_
        refine V_blk (ws' := ((wC g c_a l_a c_lo c_sk c_db c_yr c_vi c_wy)) ++ ((wL g l_a l_nf l_ne l_pl l_yl l_nd l_hm l_wk l_kd))) [wC g c_a l_a c_lo c_sk c_db c_yr c_vi c_wy, wL g l_a l_nf l_ne l_pl l_yl l_nd l_hm l_wk l_kd] [0, 1] rfl (by simp only [List.flatten_cons, List.flatten_nil, List.append_nil, List.append_assoc]) (by show List.flatten [wC g c_a l_a c_lo c_sk c_db c_yr c_vi c_wy, wL g l_a l_nf l_ne l_pl l_yl l_nd l_hm l_wk l_kd] = _; simp only [List.flatten_cons, List.flatten_nil, List.append_nil, List.append_assoc]) ?_
        refine V_cVi (C := (RX1, TX1, 7)) (ci := 1) (ws' := ((wC g c_a l_a c_lo c_sk c_db c_yr c_vi c_wy)) ++ ((wL g l_a l_nf l_ne l_pl l_yl l_nd l_hm l_wk l_kd))) (List.range _) 2 X (c_X1_debt g l c_a l_a c_lo c_sk c_db c_yr c_vi c_wy  i f (by omega) (by omega)) k_RX1_49 hy_X1_debt (by decide) (range_at _ _) (range_nd _) 0 rfl rfl nX1_debtorsOf_19 rfl rfl (Nat.le_of_ble_eq_true rfl) (wput_range _ _ _ (by simp only [List.length_append, wC_len])) ?_
        refine V_blk (ws' := (wC g c_a l_a c_lo c_sk c_db c_yr c_vi c_wy) ++ (wL g l_a l_nf l_ne l_pl l_yl l_nd l_hm l_wk l_kd)) [wC g c_a l_a c_lo c_sk c_db c_yr c_vi c_wy, wL g l_a l_nf l_ne l_pl l_yl l_nd l_hm l_wk l_kd] [0, 1] rfl (by simp only [List.flatten_cons, List.flatten_nil, List.append_nil, List.append_assoc]) (by show List.flatten [wC g c_a l_a c_lo c_sk c_db c_yr c_vi c_wy, wL g l_a l_nf l_ne l_pl l_yl l_nd l_hm l_wk l_kd] = _; simp only [List.flatten_cons, List.flatten_nil, List.append_nil, List.append_assoc]) ?_
        refine V_joinN (b := !decide ((c_db (i * 4 + f)) ≤ 0)) (x := (2 ^ i)) (y := 0) (pj := 32) (st := [.int (nI (bitsN (fun e => !decide (c_db (e * 4 + f) ≤ 0)) i))]) (fun J1 J2 => ?_) ?_
        · skip
          refine V_if_le (tgt := 31) nX1_debtorsOf_22 rfl (fun h22 => ?_) (fun h22 => ?_)
          · skip
            refine V_iconst (v := (nI 0)) nX1_debtorsOf_31 rfl ?_
            exact J2 (by simp [h22])
          · skip
            refine V_iconst (v := (nI 1)) nX1_debtorsOf_25 rfl ?_
            refine V_iload_n nX1_debtorsOf_26 rfl ?_
            refine V_ishl (v := nI (2 ^ i)) nX1_debtorsOf_27 (nI_shl1 (by omega)) ?_
            refine V_goto (tgt := 32) nX1_debtorsOf_28 rfl ?_
            exact J1 (by simp [h22])
        refine V_ior (v := nI ((bitsN (fun e => !decide (c_db (e * 4 + f) ≤ 0)) i) ||| (if (!decide ((c_db (i * 4 + f)) ≤ 0)) = true then 2 ^ i else 0))) nX1_debtorsOf_32 (nx_or (bitsN (fun e => !decide (c_db (e * 4 + f) ≤ 0)) i) (if (!decide ((c_db (i * 4 + f)) ≤ 0)) = true then 2 ^ i else 0)) ?_
        refine V_istore_n (lv' := [(0, .ref (c_a 0)), (1, .int (nI f)), (2, .int (nI ((bitsN (fun e => !decide (c_db (e * 4 + f) ≤ 0)) i) ||| (if (!decide ((c_db (i * 4 + f)) ≤ 0)) = true then 2 ^ i else 0)))), (3, .int (nI i))]) nX1_debtorsOf_33 (by decide) rfl ?_
        refine V_iinc (v := nI (i + 1)) (lv' := [(0, .ref (c_a 0)), (1, .int (nI f)), (2, .int (nI ((bitsN (fun e => !decide (c_db (e * 4 + f) ≤ 0)) i) ||| (if (!decide ((c_db (i * 4 + f)) ≤ 0)) = true then 2 ^ i else 0)))), (3, .int (nI (i + 1)))]) nX1_debtorsOf_34 rfl (nI_add i 1) (by decide) rfl ?_
        refine V_goto (tgt := 4) nX1_debtorsOf_37 rfl ?_
        exact ih (i + 1) (by omega) (by omega)
  exact L4 _ 0 (Nat.lt_succ_self _) (by omega)

set_option maxHeartbeats 4000000 in
set_option maxRecDepth 100000 in
theorem c_X1_allLoaves (g : Gx) (l : Launch) (c_a : Nat → Nat) (c_lo : Nat → Int32) (c_sk : Nat → Int32) (c_db : Nat → Int32) (c_yr : Int32) (c_vi : Nat → Int32) (c_wy : Nat → Int32) (l_a : Nat → Nat) (l_nf : Nat) (l_ne : Nat) (l_pl : Nat → Int32) (l_yl : Nat → Int32) (l_nd : Nat → Int32) (l_hm : Nat → Int32) (l_wk : Nat → Int32) (l_kd : Nat → Int32)   (hnf : l_nf ≤ 4) : Cd g l yX1_allLoaves mX1_allLoaves ({ frames := 0, cells := 0, slots := 0, locals := 0 } : Room) [.ref (c_a 0)] ((wC g c_a l_a c_lo c_sk c_db c_yr c_vi c_wy) ++ (wL g l_a l_nf l_ne l_pl l_yl l_nd l_hm l_wk l_kd)) (some (.int (sumI c_lo l_nf))) ((wC g c_a l_a c_lo c_sk c_db c_yr c_vi c_wy) ++ (wL g l_a l_nf l_ne l_pl l_yl l_nd l_hm l_wk l_kd)) := by
  refine Ct.of (lv := [(0, .ref (c_a 0))]) ⟨by decide +kernel, rfl, Nat.le_of_ble_eq_true rfl⟩ rfl (fun E A sz Q X hQ => ?_)
  refine V_iconst (v := (nI 0)) nX1_allLoaves_0 rfl ?_
  refine V_istore_n (lv' := [(0, .ref (c_a 0)), (1, .int (nI 0))]) nX1_allLoaves_1 (by decide) rfl ?_
  refine V_iconst (v := (nI 0)) nX1_allLoaves_2 rfl ?_
  refine V_istore_n (lv' := [(0, .ref (c_a 0)), (1, .int (nI 0)), (2, .int (nI 0))]) nX1_allLoaves_3 (by decide) rfl ?_
  have L4 : ∀ (n : Nat) (i : Nat), l_nf - i < n → i ≤ l_nf → V g E mX1_allLoaves A Q 0 0 ((wC g c_a l_a c_lo c_sk c_db c_yr c_vi c_wy) ++ (wL g l_a l_nf l_ne l_pl l_yl l_nd l_hm l_wk l_kd)) 4 [(0, .ref (c_a 0)), (1, .int (sumI c_lo i)), (2, .int (nI i))] [] := by
    intro n
    induction n with
    | zero => intro i hm; exact absurd hm (Nat.not_lt_zero _)
    | succ n ih =>
      intro i hm hi
      refine V_iload_n nX1_allLoaves_4 rfl ?_
      refine V_aload_n nX1_allLoaves_5 rfl ?_
      refine V_get1 0 0 (by decide) f_RX1_9 nX1_allLoaves_6 rfl rfl ?_
      refine V_get2 6 6 (by decide) f_RX1_35 nX1_allLoaves_9 rfl rfl ?_
      refine V_icmp_ge_N (tgt := 30) nX1_allLoaves_12 rfl (by omega) (by omega) (fun h12 => ?_) (fun h12 => ?_)
      · skip
        have hx_i : l_nf = i := by omega
        subst hx_i
        refine V_iload_n nX1_allLoaves_30 rfl ?_
        exact R_i rfl X hQ nX1_allLoaves_31 (by simp only [List.map_append, wC_fst, wL_fst]) (⟨rfl, rfl⟩)
      · skip
        refine V_iload_n nX1_allLoaves_15 rfl ?_
        refine V_aload_n nX1_allLoaves_16 rfl ?_
        refine V_get1 0 1 (by decide) f_RX1_15 nX1_allLoaves_17 rfl rfl ?_
        refine V_iload_n nX1_allLoaves_20 rfl ?_
        refine V_iald 1 nX1_allLoaves_21 rfl (by omega) (by decide) rfl ?_
        refine V_iadd (v := (sumI c_lo i) + (c_lo i)) nX1_allLoaves_22 rfl ?_
        refine V_istore_n (lv' := [(0, .ref (c_a 0)), (1, .int ((sumI c_lo i) + (c_lo i))), (2, .int (nI i))]) nX1_allLoaves_23 (by decide) rfl ?_
        refine V_iinc (v := nI (i + 1)) (lv' := [(0, .ref (c_a 0)), (1, .int ((sumI c_lo i) + (c_lo i))), (2, .int (nI (i + 1)))]) nX1_allLoaves_24 rfl (nI_add i 1) (by decide) rfl ?_
        refine V_goto (tgt := 4) nX1_allLoaves_27 rfl ?_
        exact ih (i + 1) (by omega) (by omega)
  exact L4 _ 0 (Nat.lt_succ_self _) (by omega)

set_option maxHeartbeats 4000000 in
set_option maxRecDepth 100000 in
theorem c_X1_allSeed (g : Gx) (l : Launch) (c_a : Nat → Nat) (c_lo : Nat → Int32) (c_sk : Nat → Int32) (c_db : Nat → Int32) (c_yr : Int32) (c_vi : Nat → Int32) (c_wy : Nat → Int32) (l_a : Nat → Nat) (l_nf : Nat) (l_ne : Nat) (l_pl : Nat → Int32) (l_yl : Nat → Int32) (l_nd : Nat → Int32) (l_hm : Nat → Int32) (l_wk : Nat → Int32) (l_kd : Nat → Int32)   (hnf : l_nf ≤ 4) : Cd g l yX1_allSeed mX1_allSeed ({ frames := 0, cells := 0, slots := 0, locals := 0 } : Room) [.ref (c_a 0)] ((wC g c_a l_a c_lo c_sk c_db c_yr c_vi c_wy) ++ (wL g l_a l_nf l_ne l_pl l_yl l_nd l_hm l_wk l_kd)) (some (.int (sumI c_sk l_nf))) ((wC g c_a l_a c_lo c_sk c_db c_yr c_vi c_wy) ++ (wL g l_a l_nf l_ne l_pl l_yl l_nd l_hm l_wk l_kd)) := by
  refine Ct.of (lv := [(0, .ref (c_a 0))]) ⟨by decide +kernel, rfl, Nat.le_of_ble_eq_true rfl⟩ rfl (fun E A sz Q X hQ => ?_)
  refine V_iconst (v := (nI 0)) nX1_allSeed_0 rfl ?_
  refine V_istore_n (lv' := [(0, .ref (c_a 0)), (1, .int (nI 0))]) nX1_allSeed_1 (by decide) rfl ?_
  refine V_iconst (v := (nI 0)) nX1_allSeed_2 rfl ?_
  refine V_istore_n (lv' := [(0, .ref (c_a 0)), (1, .int (nI 0)), (2, .int (nI 0))]) nX1_allSeed_3 (by decide) rfl ?_
  have L4 : ∀ (n : Nat) (i : Nat), l_nf - i < n → i ≤ l_nf → V g E mX1_allSeed A Q 0 0 ((wC g c_a l_a c_lo c_sk c_db c_yr c_vi c_wy) ++ (wL g l_a l_nf l_ne l_pl l_yl l_nd l_hm l_wk l_kd)) 4 [(0, .ref (c_a 0)), (1, .int (sumI c_sk i)), (2, .int (nI i))] [] := by
    intro n
    induction n with
    | zero => intro i hm; exact absurd hm (Nat.not_lt_zero _)
    | succ n ih =>
      intro i hm hi
      refine V_iload_n nX1_allSeed_4 rfl ?_
      refine V_aload_n nX1_allSeed_5 rfl ?_
      refine V_get1 0 0 (by decide) f_RX1_9 nX1_allSeed_6 rfl rfl ?_
      refine V_get2 6 6 (by decide) f_RX1_35 nX1_allSeed_9 rfl rfl ?_
      refine V_icmp_ge_N (tgt := 30) nX1_allSeed_12 rfl (by omega) (by omega) (fun h12 => ?_) (fun h12 => ?_)
      · skip
        have hx_i : l_nf = i := by omega
        subst hx_i
        refine V_iload_n nX1_allSeed_30 rfl ?_
        exact R_i rfl X hQ nX1_allSeed_31 (by simp only [List.map_append, wC_fst, wL_fst]) (⟨rfl, rfl⟩)
      · skip
        refine V_iload_n nX1_allSeed_15 rfl ?_
        refine V_aload_n nX1_allSeed_16 rfl ?_
        refine V_get1 0 2 (by decide) f_RX1_19 nX1_allSeed_17 rfl rfl ?_
        refine V_iload_n nX1_allSeed_20 rfl ?_
        refine V_iald 2 nX1_allSeed_21 rfl (by omega) (by decide) rfl ?_
        refine V_iadd (v := (sumI c_sk i) + (c_sk i)) nX1_allSeed_22 rfl ?_
        refine V_istore_n (lv' := [(0, .ref (c_a 0)), (1, .int ((sumI c_sk i) + (c_sk i))), (2, .int (nI i))]) nX1_allSeed_23 (by decide) rfl ?_
        refine V_iinc (v := nI (i + 1)) (lv' := [(0, .ref (c_a 0)), (1, .int ((sumI c_sk i) + (c_sk i))), (2, .int (nI (i + 1)))]) nX1_allSeed_24 rfl (nI_add i 1) (by decide) rfl ?_
        refine V_goto (tgt := 4) nX1_allSeed_27 rfl ?_
        exact ih (i + 1) (by omega) (by omega)
  exact L4 _ 0 (Nat.lt_succ_self _) (by omega)

set_option maxHeartbeats 4000000 in
set_option maxRecDepth 100000 in
theorem c_X1_isSown (g : Gx) (l : Launch) (c_a : Nat → Nat) (c_lo : Nat → Int32) (c_sk : Nat → Int32) (c_db : Nat → Int32) (c_yr : Int32) (c_vi : Nat → Int32) (c_wy : Nat → Int32) (l_a : Nat → Nat) (l_nf : Nat) (l_ne : Nat) (l_pl : Nat → Int32) (l_yl : Nat → Int32) (l_nd : Nat → Int32) (l_hm : Nat → Int32) (l_wk : Nat → Int32) (l_kd : Nat → Int32)  (f : Nat) (hf : f < 4) : Cd g l yX1_isSown mX1_isSown ({ frames := 0, cells := 0, slots := 0, locals := 0 } : Room) [.ref (c_a 0), .int (nI f)] ((wC g c_a l_a c_lo c_sk c_db c_yr c_vi c_wy) ++ (wL g l_a l_nf l_ne l_pl l_yl l_nd l_hm l_wk l_kd)) (some (.int (bI (isSw l_nd c_sk f)))) ((wC g c_a l_a c_lo c_sk c_db c_yr c_vi c_wy) ++ (wL g l_a l_nf l_ne l_pl l_yl l_nd l_hm l_wk l_kd)) := by
  refine Ct.of (lv := [(0, .ref (c_a 0)), (1, .int (nI f))]) ⟨by decide +kernel, rfl, Nat.le_of_ble_eq_true rfl⟩ rfl (fun E A sz Q X hQ => ?_)
  refine V_aload_n nX1_isSown_0 rfl ?_
  refine V_get1 0 2 (by decide) f_RX1_19 nX1_isSown_1 rfl rfl ?_
  refine V_iload_n nX1_isSown_4 rfl ?_
  refine V_iald 2 nX1_isSown_5 rfl (by omega) (by decide) rfl ?_
  refine V_aload_n nX1_isSown_6 rfl ?_
  refine V_get1 0 0 (by decide) f_RX1_9 nX1_isSown_7 rfl rfl ?_
  refine V_get2 6 2 (by decide) f_RX1_60 nX1_isSown_10 rfl rfl ?_
  refine V_iload_n nX1_isSown_13 rfl ?_
  refine V_iald 9 nX1_isSown_14 rfl (by omega) (by decide) rfl ?_
  refine V_joinb (b := !decide ((c_sk f) < (l_nd f))) (pj := 23) (st := []) (fun J1 J2 => ?_) ?_
  · skip
    refine V_icmp_lt (tgt := 22) nX1_isSown_15 rfl (fun h15 => ?_) (fun h15 => ?_)
    · skip
      refine V_iconst (v := (nI 0)) nX1_isSown_22 rfl ?_
      exact J2 (by simp [h15])
    · skip
      refine V_iconst (v := (nI 1)) nX1_isSown_18 rfl ?_
      refine V_goto (tgt := 23) nX1_isSown_19 rfl ?_
      exact J1 (by simp [h15])
  exact R_z rfl X hQ nX1_isSown_23 (by simp only [List.map_append, wC_fst, wL_fst]) (⟨rfl, rfl⟩)

set_option maxHeartbeats 4000000 in
set_option maxRecDepth 100000 in
theorem c_X1_sownFields (g : Gx) (l : Launch) (c_a : Nat → Nat) (c_lo : Nat → Int32) (c_sk : Nat → Int32) (c_db : Nat → Int32) (c_yr : Int32) (c_vi : Nat → Int32) (c_wy : Nat → Int32) (l_a : Nat → Nat) (l_nf : Nat) (l_ne : Nat) (l_pl : Nat → Int32) (l_yl : Nat → Int32) (l_nd : Nat → Int32) (l_hm : Nat → Int32) (l_wk : Nat → Int32) (l_kd : Nat → Int32)   (hnf : l_nf ≤ 4) : Cd g l yX1_sownFields mX1_sownFields ({ frames := 1, cells := 0, slots := 0, locals := 21 } : Room) [.ref (c_a 0)] ((wC g c_a l_a c_lo c_sk c_db c_yr c_vi c_wy) ++ (wL g l_a l_nf l_ne l_pl l_yl l_nd l_hm l_wk l_kd)) (some (.int (nI (bitsN (isSw l_nd c_sk) l_nf)))) ((wC g c_a l_a c_lo c_sk c_db c_yr c_vi c_wy) ++ (wL g l_a l_nf l_ne l_pl l_yl l_nd l_hm l_wk l_kd)) := by
  refine Ct.of (lv := [(0, .ref (c_a 0))]) ⟨by decide +kernel, rfl, Nat.le_of_ble_eq_true rfl⟩ rfl (fun E A sz Q X hQ => ?_)
  refine V_iconst (v := (nI 0)) nX1_sownFields_0 rfl ?_
  refine V_istore_n (lv' := [(0, .ref (c_a 0)), (1, .int (nI 0))]) nX1_sownFields_1 (by decide) rfl ?_
  refine V_iconst (v := (nI 0)) nX1_sownFields_2 rfl ?_
  refine V_istore_n (lv' := [(0, .ref (c_a 0)), (1, .int (nI 0)), (2, .int (nI 0))]) nX1_sownFields_3 (by decide) rfl ?_
  have L4 : ∀ (n : Nat) (i : Nat), l_nf - i < n → i ≤ l_nf → V g E mX1_sownFields A Q 0 0 ((wC g c_a l_a c_lo c_sk c_db c_yr c_vi c_wy) ++ (wL g l_a l_nf l_ne l_pl l_yl l_nd l_hm l_wk l_kd)) 4 [(0, .ref (c_a 0)), (1, .int (nI (bitsN (isSw l_nd c_sk) i))), (2, .int (nI i))] [] := by
    intro n
    induction n with
    | zero => intro i hm; exact absurd hm (Nat.not_lt_zero _)
    | succ n ih =>
      intro i hm hi
      refine V_iload_n nX1_sownFields_4 rfl ?_
      refine V_aload_n nX1_sownFields_5 rfl ?_
      refine V_get1 0 0 (by decide) f_RX1_9 nX1_sownFields_6 rfl rfl ?_
      refine V_get2 6 6 (by decide) f_RX1_35 nX1_sownFields_9 rfl rfl ?_
      refine V_icmp_ge_N (tgt := 39) nX1_sownFields_12 rfl (by omega) (by omega) (fun h12 => ?_) (fun h12 => ?_)
      · skip
        have hx_i : l_nf = i := by omega
        subst hx_i
        refine V_iload_n nX1_sownFields_39 rfl ?_
        exact R_i rfl X hQ nX1_sownFields_40 (by simp only [List.map_append, wC_fst, wL_fst]) (⟨rfl, rfl⟩)
      · skip
        refine V_iload_n nX1_sownFields_15 rfl ?_
        refine V_aload_n nX1_sownFields_16 rfl ?_
        refine V_iload_n nX1_sownFields_17 rfl ?_
        refine V_blk (ws' := ((wC g c_a l_a c_lo c_sk c_db c_yr c_vi c_wy) ++ (wL g l_a l_nf l_ne l_pl l_yl l_nd l_hm l_wk l_kd)) ++ ([] : va_W)) [wC g c_a l_a c_lo c_sk c_db c_yr c_vi c_wy, wL g l_a l_nf l_ne l_pl l_yl l_nd l_hm l_wk l_kd] [0, 1] rfl (by simp only [List.flatten_cons, List.flatten_nil, List.append_nil, List.append_assoc]) (by show List.flatten [wC g c_a l_a c_lo c_sk c_db c_yr c_vi c_wy, wL g l_a l_nf l_ne l_pl l_yl l_nd l_hm l_wk l_kd] = _; simp only [List.flatten_cons, List.flatten_nil, List.append_nil, List.append_assoc]) ?_
        refine V_cVi (C := (RX1, TX1, 7)) (ci := 1) (ws' := ((wC g c_a l_a c_lo c_sk c_db c_yr c_vi c_wy) ++ (wL g l_a l_nf l_ne l_pl l_yl l_nd l_hm l_wk l_kd)) ++ ([] : va_W)) (List.range _) 1 X (c_X1_isSown g l c_a c_lo c_sk c_db c_yr c_vi c_wy l_a l_nf l_ne l_pl l_yl l_nd l_hm l_wk l_kd  i (by omega)) k_RX1_63 hy_X1_isSown (by decide) (range_at _ _) (range_nd _) 0 rfl rfl nX1_sownFields_18 rfl rfl (Nat.le_of_ble_eq_true rfl) (wput_range _ _ _ (by simp only [List.length_append, wC_len, wL_len])) ?_
        refine V_blk (ws' := (wC g c_a l_a c_lo c_sk c_db c_yr c_vi c_wy) ++ (wL g l_a l_nf l_ne l_pl l_yl l_nd l_hm l_wk l_kd)) [wC g c_a l_a c_lo c_sk c_db c_yr c_vi c_wy, wL g l_a l_nf l_ne l_pl l_yl l_nd l_hm l_wk l_kd] [0, 1] rfl (by simp only [List.flatten_cons, List.flatten_nil, List.append_nil, List.append_assoc]) (by show List.flatten [wC g c_a l_a c_lo c_sk c_db c_yr c_vi c_wy, wL g l_a l_nf l_ne l_pl l_yl l_nd l_hm l_wk l_kd] = _; simp only [List.flatten_cons, List.flatten_nil, List.append_nil, List.append_assoc]) ?_
        refine V_joinN (b := (isSw l_nd c_sk i)) (x := (2 ^ i)) (y := 0) (pj := 31) (st := [.int (nI (bitsN (isSw l_nd c_sk) i))]) (fun J1 J2 => ?_) ?_
        · skip
          refine V_if_eq_b (tgt := 30) nX1_sownFields_21 rfl (fun h21 => ?_) (fun h21 => ?_)
          · skip
            refine V_iconst (v := (nI 0)) nX1_sownFields_30 rfl ?_
            exact J2 (by simp [h21])
          · skip
            refine V_iconst (v := (nI 1)) nX1_sownFields_24 rfl ?_
            refine V_iload_n nX1_sownFields_25 rfl ?_
            refine V_ishl (v := nI (2 ^ i)) nX1_sownFields_26 (nI_shl1 (by omega)) ?_
            refine V_goto (tgt := 31) nX1_sownFields_27 rfl ?_
            exact J1 (by simp [h21])
        refine V_ior (v := nI ((bitsN (isSw l_nd c_sk) i) ||| (if (isSw l_nd c_sk i) = true then 2 ^ i else 0))) nX1_sownFields_31 (nx_or (bitsN (isSw l_nd c_sk) i) (if (isSw l_nd c_sk i) = true then 2 ^ i else 0)) ?_
        refine V_istore_n (lv' := [(0, .ref (c_a 0)), (1, .int (nI ((bitsN (isSw l_nd c_sk) i) ||| (if (isSw l_nd c_sk i) = true then 2 ^ i else 0)))), (2, .int (nI i))]) nX1_sownFields_32 (by decide) rfl ?_
        refine V_iinc (v := nI (i + 1)) (lv' := [(0, .ref (c_a 0)), (1, .int (nI ((bitsN (isSw l_nd c_sk) i) ||| (if (isSw l_nd c_sk i) = true then 2 ^ i else 0)))), (2, .int (nI (i + 1)))]) nX1_sownFields_33 rfl (nI_add i 1) (by decide) rfl ?_
        refine V_goto (tgt := 4) nX1_sownFields_36 rfl ?_
        exact ih (i + 1) (by omega) (by omega)
  exact L4 _ 0 (Nat.lt_succ_self _) (by omega)

set_option maxHeartbeats 4000000 in
set_option maxRecDepth 100000 in
theorem c_X1_canTake (g : Gx) (l : Launch) (c_a : Nat → Nat) (c_lo : Nat → Int32) (c_sk : Nat → Int32) (c_db : Nat → Int32) (c_yr : Int32) (c_vi : Nat → Int32) (c_wy : Nat → Int32) (l_a : Nat → Nat) (l_nf : Nat) (l_ne : Nat) (l_pl : Nat → Int32) (l_yl : Nat → Int32) (l_nd : Nat → Int32) (l_hm : Nat → Int32) (l_wk : Nat → Int32) (l_kd : Nat → Int32)  (e : Nat) (f : Nat) (hnf : l_nf ≤ 4) (he : e < 5) (hf : f < 4) : Cd g l yX1_canTake mX1_canTake ({ frames := 2, cells := 0, slots := 0, locals := 45 } : Room) [.ref (c_a 0), .int (nI e), .int (nI f)] ((wC g c_a l_a c_lo c_sk c_db c_yr c_vi c_wy) ++ (wL g l_a l_nf l_ne l_pl l_yl l_nd l_hm l_wk l_kd)) (some (.int (bI (canT l_kd c_lo c_db l_nf e f)))) ((wC g c_a l_a c_lo c_sk c_db c_yr c_vi c_wy) ++ (wL g l_a l_nf l_ne l_pl l_yl l_nd l_hm l_wk l_kd)) := by
  refine Ct.of (lv := [(0, .ref (c_a 0)), (1, .int (nI e)), (2, .int (nI f))]) ⟨by decide +kernel, rfl, Nat.le_of_ble_eq_true rfl⟩ rfl (fun E A sz Q X hQ => ?_)
  refine V_aload_n nX1_canTake_0 rfl ?_
  refine V_get1 0 0 (by decide) f_RX1_9 nX1_canTake_1 rfl rfl ?_
  refine V_get2 6 5 (by decide) f_RX1_67 nX1_canTake_4 rfl rfl ?_
  refine V_iload_n nX1_canTake_7 rfl ?_
  refine V_iald 12 nX1_canTake_8 rfl (by omega) (by decide) rfl ?_
  refine V_iconst (v := (nI 3)) nX1_canTake_9 rfl ?_
  refine V_joinb (b := (decide ((l_kd e) = (nI 3)) && !decide ((debtS c_db e l_nf) ≤ 0))) (pj := 26) (st := []) (fun J1 J2 => ?_) ?_
  · skip
    refine V_icmp_ne (tgt := 25) nX1_canTake_10 rfl (fun h10 => ?_) (fun h10 => ?_)
    · skip
      refine V_iconst (v := (nI 0)) nX1_canTake_25 rfl ?_
      exact J2 (by simp [h10])
    · skip
      refine V_aload_n nX1_canTake_13 rfl ?_
      refine V_iload_n nX1_canTake_14 rfl ?_
      refine V_blk (ws' := ((wC g c_a l_a c_lo c_sk c_db c_yr c_vi c_wy) ++ (wL g l_a l_nf l_ne l_pl l_yl l_nd l_hm l_wk l_kd)) ++ ([] : va_W)) [wC g c_a l_a c_lo c_sk c_db c_yr c_vi c_wy, wL g l_a l_nf l_ne l_pl l_yl l_nd l_hm l_wk l_kd] [0, 1] rfl (by simp only [List.flatten_cons, List.flatten_nil, List.append_nil, List.append_assoc]) (by show List.flatten [wC g c_a l_a c_lo c_sk c_db c_yr c_vi c_wy, wL g l_a l_nf l_ne l_pl l_yl l_nd l_hm l_wk l_kd] = _; simp only [List.flatten_cons, List.flatten_nil, List.append_nil, List.append_assoc]) ?_
      refine V_cVi (C := (RX1, TX1, 7)) (ci := 1) (ws' := ((wC g c_a l_a c_lo c_sk c_db c_yr c_vi c_wy) ++ (wL g l_a l_nf l_ne l_pl l_yl l_nd l_hm l_wk l_kd)) ++ ([] : va_W)) (List.range _) 1 X (c_X1_debtsOf g l c_a c_lo c_sk c_db c_yr c_vi c_wy l_a l_nf l_ne l_pl l_yl l_nd l_hm l_wk l_kd  e (by omega) (by omega)) k_RX1_56 hy_X1_debtsOf (by decide) (range_at _ _) (range_nd _) 0 rfl rfl nX1_canTake_15 rfl rfl (Nat.le_of_ble_eq_true rfl) (wput_range _ _ _ (by simp only [List.length_append, wC_len, wL_len])) ?_
      refine V_blk (ws' := (wC g c_a l_a c_lo c_sk c_db c_yr c_vi c_wy) ++ (wL g l_a l_nf l_ne l_pl l_yl l_nd l_hm l_wk l_kd)) [wC g c_a l_a c_lo c_sk c_db c_yr c_vi c_wy, wL g l_a l_nf l_ne l_pl l_yl l_nd l_hm l_wk l_kd] [0, 1] rfl (by simp only [List.flatten_cons, List.flatten_nil, List.append_nil, List.append_assoc]) (by show List.flatten [wC g c_a l_a c_lo c_sk c_db c_yr c_vi c_wy, wL g l_a l_nf l_ne l_pl l_yl l_nd l_hm l_wk l_kd] = _; simp only [List.flatten_cons, List.flatten_nil, List.append_nil, List.append_assoc]) ?_
      refine V_if_le (tgt := 25) nX1_canTake_18 rfl (fun h18 => ?_) (fun h18 => ?_)
      · skip
        refine V_iconst (v := (nI 0)) nX1_canTake_25 rfl ?_
        exact J2 (by simp [h10, h18])
      · skip
        refine V_iconst (v := (nI 1)) nX1_canTake_21 rfl ?_
        refine V_goto (tgt := 26) nX1_canTake_22 rfl ?_
        exact J1 (by simp [h10, h18])
  refine V_istore_n (lv' := [(0, .ref (c_a 0)), (1, .int (nI e)), (2, .int (nI f)), (3, .int (bI (decide ((l_kd e) = (nI 3)) && !decide ((debtS c_db e l_nf) ≤ 0))))]) nX1_canTake_26 (by decide) rfl ?_
  refine V_aload_n nX1_canTake_27 rfl ?_
  refine V_get1 0 1 (by decide) f_RX1_15 nX1_canTake_28 rfl rfl ?_
  refine V_iload_n nX1_canTake_31 rfl ?_
  refine V_iald 1 nX1_canTake_32 rfl (by omega) (by decide) rfl ?_
  refine V_aload_n nX1_canTake_33 rfl ?_
  refine V_get1 0 0 (by decide) f_RX1_9 nX1_canTake_34 rfl rfl ?_
  refine V_iload_n nX1_canTake_37 rfl ?_
  refine V_blk (ws' := ((wL g l_a l_nf l_ne l_pl l_yl l_nd l_hm l_wk l_kd)) ++ ((wC g c_a l_a c_lo c_sk c_db c_yr c_vi c_wy))) [wC g c_a l_a c_lo c_sk c_db c_yr c_vi c_wy, wL g l_a l_nf l_ne l_pl l_yl l_nd l_hm l_wk l_kd] [1, 0] rfl (by simp only [List.flatten_cons, List.flatten_nil, List.append_nil, List.append_assoc]) (by show List.flatten [wL g l_a l_nf l_ne l_pl l_yl l_nd l_hm l_wk l_kd, wC g c_a l_a c_lo c_sk c_db c_yr c_vi c_wy] = _; simp only [List.flatten_cons, List.flatten_nil, List.append_nil, List.append_assoc]) ?_
  refine V_cVi (C := (RX2, TX2, 8)) (ci := 2) (ws' := ((wL g l_a l_nf l_ne l_pl l_yl l_nd l_hm l_wk l_kd)) ++ ((wC g c_a l_a c_lo c_sk c_db c_yr c_vi c_wy))) (List.range _) 1 X (c_X2_portionOf g l l_a l_nf l_ne l_pl l_yl l_nd l_hm l_wk l_kd  e (by omega)) k_RX1_70 hy_X2_portionOf (by decide) (range_at _ _) (range_nd _) 0 rfl rfl nX1_canTake_38 rfl rfl (Nat.le_of_ble_eq_true rfl) (wput_range _ _ _ (by simp only [List.length_append, wL_len])) ?_
  refine V_blk (ws' := (wC g c_a l_a c_lo c_sk c_db c_yr c_vi c_wy) ++ (wL g l_a l_nf l_ne l_pl l_yl l_nd l_hm l_wk l_kd)) [wL g l_a l_nf l_ne l_pl l_yl l_nd l_hm l_wk l_kd, wC g c_a l_a c_lo c_sk c_db c_yr c_vi c_wy] [1, 0] rfl (by simp only [List.flatten_cons, List.flatten_nil, List.append_nil, List.append_assoc]) (by show List.flatten [wC g c_a l_a c_lo c_sk c_db c_yr c_vi c_wy, wL g l_a l_nf l_ne l_pl l_yl l_nd l_hm l_wk l_kd] = _; simp only [List.flatten_cons, List.flatten_nil, List.append_nil, List.append_assoc]) ?_
  refine V_joinb (b := (!decide ((c_lo f) < (nI (porN l_kd e))) && !(decide ((l_kd e) = (nI 3)) && !decide ((debtS c_db e l_nf) ≤ 0)))) (pj := 53) (st := []) (fun J1 J2 => ?_) ?_
  · skip
    refine V_icmp_lt (tgt := 52) nX1_canTake_41 rfl (fun h41 => ?_) (fun h41 => ?_)
    · skip
      refine V_iconst (v := (nI 0)) nX1_canTake_52 rfl ?_
      exact J2 (by simp [h41])
    · skip
      refine V_iload_n nX1_canTake_44 rfl ?_
      refine V_if_ne_b (tgt := 52) nX1_canTake_45 rfl (fun h45 => ?_) (fun h45 => ?_)
      · skip
        refine V_iconst (v := (nI 0)) nX1_canTake_52 rfl ?_
        exact J2 (by simp [h41, h45])
      · skip
        refine V_iconst (v := (nI 1)) nX1_canTake_48 rfl ?_
        refine V_goto (tgt := 53) nX1_canTake_49 rfl ?_
        exact J1 (by simp [h41, h45])
  exact R_z rfl X hQ nX1_canTake_53 (by simp only [List.map_append, wC_fst, wL_fst]) (⟨rfl, rfl⟩)

set_option maxHeartbeats 4000000 in
set_option maxRecDepth 100000 in
theorem c_X1_takeLoaves (g : Gx) (l : Launch) (c_a : Nat → Nat) (c_lo : Nat → Int32) (c_sk : Nat → Int32) (c_db : Nat → Int32) (c_yr : Int32) (c_vi : Nat → Int32) (c_wy : Nat → Int32) (l_a : Nat → Nat) (l_nf : Nat) (l_ne : Nat) (l_pl : Nat → Int32) (l_yl : Nat → Int32) (l_nd : Nat → Int32) (l_hm : Nat → Int32) (l_wk : Nat → Int32) (l_kd : Nat → Int32)  (e : Nat) (f : Nat) (he : e < 5) (hf : f < 4) : Cd g l yX1_takeLoaves mX1_takeLoaves ({ frames := 1, cells := 0, slots := 0, locals := 24 } : Room) [.ref (c_a 0), .int (nI e), .int (nI f)] ((wC g c_a l_a c_lo c_sk c_db c_yr c_vi c_wy) ++ (wL g l_a l_nf l_ne l_pl l_yl l_nd l_hm l_wk l_kd)) none ((wC g c_a l_a (upd c_lo f (c_lo f - nI (porN l_kd e))) c_sk (upd c_db (e * 4 + f) (capI (c_db (e * 4 + f) + nI (porN l_kd e)))) c_yr c_vi c_wy) ++ (wL g l_a l_nf l_ne l_pl l_yl l_nd l_hm l_wk l_kd)) := by
  refine Ct.of (lv := [(0, .ref (c_a 0)), (1, .int (nI e)), (2, .int (nI f))]) ⟨by decide +kernel, rfl, Nat.le_of_ble_eq_true rfl⟩ rfl (fun E A sz Q X hQ => ?_)
  refine V_aload_n nX1_takeLoaves_0 rfl ?_
  refine V_get1 0 0 (by decide) f_RX1_9 nX1_takeLoaves_1 rfl rfl ?_
  refine V_iload_n nX1_takeLoaves_4 rfl ?_
  refine V_blk (ws' := ((wL g l_a l_nf l_ne l_pl l_yl l_nd l_hm l_wk l_kd)) ++ ((wC g c_a l_a c_lo c_sk c_db c_yr c_vi c_wy))) [wC g c_a l_a c_lo c_sk c_db c_yr c_vi c_wy, wL g l_a l_nf l_ne l_pl l_yl l_nd l_hm l_wk l_kd] [1, 0] rfl (by simp only [List.flatten_cons, List.flatten_nil, List.append_nil, List.append_assoc]) (by show List.flatten [wL g l_a l_nf l_ne l_pl l_yl l_nd l_hm l_wk l_kd, wC g c_a l_a c_lo c_sk c_db c_yr c_vi c_wy] = _; simp only [List.flatten_cons, List.flatten_nil, List.append_nil, List.append_assoc]) ?_
  refine V_cVi (C := (RX2, TX2, 8)) (ci := 2) (ws' := ((wL g l_a l_nf l_ne l_pl l_yl l_nd l_hm l_wk l_kd)) ++ ((wC g c_a l_a c_lo c_sk c_db c_yr c_vi c_wy))) (List.range _) 1 X (c_X2_portionOf g l l_a l_nf l_ne l_pl l_yl l_nd l_hm l_wk l_kd  e (by omega)) k_RX1_70 hy_X2_portionOf (by decide) (range_at _ _) (range_nd _) 0 rfl rfl nX1_takeLoaves_5 rfl rfl (Nat.le_of_ble_eq_true rfl) (wput_range _ _ _ (by simp only [List.length_append, wL_len])) ?_
  refine V_blk (ws' := (wC g c_a l_a c_lo c_sk c_db c_yr c_vi c_wy) ++ (wL g l_a l_nf l_ne l_pl l_yl l_nd l_hm l_wk l_kd)) [wL g l_a l_nf l_ne l_pl l_yl l_nd l_hm l_wk l_kd, wC g c_a l_a c_lo c_sk c_db c_yr c_vi c_wy] [1, 0] rfl (by simp only [List.flatten_cons, List.flatten_nil, List.append_nil, List.append_assoc]) (by show List.flatten [wC g c_a l_a c_lo c_sk c_db c_yr c_vi c_wy, wL g l_a l_nf l_ne l_pl l_yl l_nd l_hm l_wk l_kd] = _; simp only [List.flatten_cons, List.flatten_nil, List.append_nil, List.append_assoc]) ?_
  refine V_istore_n (lv' := [(0, .ref (c_a 0)), (1, .int (nI e)), (2, .int (nI f)), (3, .int (nI (porN l_kd e)))]) nX1_takeLoaves_8 (by decide) rfl ?_
  refine V_aload_n nX1_takeLoaves_9 rfl ?_
  refine V_get1 0 1 (by decide) f_RX1_15 nX1_takeLoaves_10 rfl rfl ?_
  refine V_iload_n nX1_takeLoaves_13 rfl ?_
  refine V_dup2 nX1_takeLoaves_14 rfl rfl ?_
  refine V_iald 1 nX1_takeLoaves_15 rfl (by omega) (by decide) rfl ?_
  refine V_iload_n nX1_takeLoaves_16 rfl ?_
  refine V_isub (v := (c_lo f) - (nI (porN l_kd e))) nX1_takeLoaves_17 rfl ?_
  refine V_iast (ws' := (wC g c_a l_a (upd c_lo f ((c_lo f) - (nI (porN l_kd e)))) c_sk c_db c_yr c_vi c_wy) ++ (wL g l_a l_nf l_ne l_pl l_yl l_nd l_hm l_wk l_kd)) 1 nX1_takeLoaves_18 rfl (by omega) (by decide) rfl ?_
  refine V_aload_n nX1_takeLoaves_19 rfl ?_
  refine V_get1 0 3 (by decide) f_RX1_22 nX1_takeLoaves_20 rfl rfl ?_
  refine V_iload_n nX1_takeLoaves_23 rfl ?_
  refine V_iconst (v := (nI 4)) nX1_takeLoaves_24 rfl ?_
  refine V_imul (v := nI (e * 4)) nX1_takeLoaves_25 (pk_mul e 4) ?_
  refine V_iload_n nX1_takeLoaves_26 rfl ?_
  refine V_iadd (v := nI ((e * 4) + f)) nX1_takeLoaves_27 (nI_add (e * 4) f) ?_
  refine V_bipush (v := (nI 99)) nX1_takeLoaves_28 (by decide) ?_
  refine V_aload_n nX1_takeLoaves_30 rfl ?_
  refine V_iload_n nX1_takeLoaves_31 rfl ?_
  refine V_iload_n nX1_takeLoaves_32 rfl ?_
  refine V_blk (ws' := ((wC g c_a l_a (upd c_lo f ((c_lo f) - (nI (porN l_kd e)))) c_sk c_db c_yr c_vi c_wy)) ++ ((wL g l_a l_nf l_ne l_pl l_yl l_nd l_hm l_wk l_kd))) [wC g c_a l_a (upd c_lo f ((c_lo f) - (nI (porN l_kd e)))) c_sk c_db c_yr c_vi c_wy, wL g l_a l_nf l_ne l_pl l_yl l_nd l_hm l_wk l_kd] [0, 1] rfl (by simp only [List.flatten_cons, List.flatten_nil, List.append_nil, List.append_assoc]) (by show List.flatten [wC g c_a l_a (upd c_lo f ((c_lo f) - (nI (porN l_kd e)))) c_sk c_db c_yr c_vi c_wy, wL g l_a l_nf l_ne l_pl l_yl l_nd l_hm l_wk l_kd] = _; simp only [List.flatten_cons, List.flatten_nil, List.append_nil, List.append_assoc]) ?_
  refine V_cVi (C := (RX1, TX1, 7)) (ci := 1) (ws' := ((wC g c_a l_a (upd c_lo f ((c_lo f) - (nI (porN l_kd e)))) c_sk c_db c_yr c_vi c_wy)) ++ ((wL g l_a l_nf l_ne l_pl l_yl l_nd l_hm l_wk l_kd))) (List.range _) 2 X (c_X1_debt g l c_a l_a (upd c_lo f ((c_lo f) - (nI (porN l_kd e)))) c_sk c_db c_yr c_vi c_wy  e f (by omega) (by omega)) k_RX1_49 hy_X1_debt (by decide) (range_at _ _) (range_nd _) 0 rfl rfl nX1_takeLoaves_33 rfl rfl (Nat.le_of_ble_eq_true rfl) (wput_range _ _ _ (by simp only [List.length_append, wC_len])) ?_
  refine V_blk (ws' := (wC g c_a l_a (upd c_lo f ((c_lo f) - (nI (porN l_kd e)))) c_sk c_db c_yr c_vi c_wy) ++ (wL g l_a l_nf l_ne l_pl l_yl l_nd l_hm l_wk l_kd)) [wC g c_a l_a (upd c_lo f ((c_lo f) - (nI (porN l_kd e)))) c_sk c_db c_yr c_vi c_wy, wL g l_a l_nf l_ne l_pl l_yl l_nd l_hm l_wk l_kd] [0, 1] rfl (by simp only [List.flatten_cons, List.flatten_nil, List.append_nil, List.append_assoc]) (by show List.flatten [wC g c_a l_a (upd c_lo f ((c_lo f) - (nI (porN l_kd e)))) c_sk c_db c_yr c_vi c_wy, wL g l_a l_nf l_ne l_pl l_yl l_nd l_hm l_wk l_kd] = _; simp only [List.flatten_cons, List.flatten_nil, List.append_nil, List.append_assoc]) ?_
  refine V_iload_n nX1_takeLoaves_36 rfl ?_
  refine V_iadd (v := (c_db (e * 4 + f)) + (nI (porN l_kd e))) nX1_takeLoaves_37 rfl ?_
  refine V_mmin (v := capI ((c_db (e * 4 + f)) + (nI (porN l_kd e)))) X k_RX1_73 ⟨Nat.le_of_ble_eq_true rfl, Nat.le_of_ble_eq_true rfl, Nat.le_of_ble_eq_true rfl, Nat.le_of_ble_eq_true rfl⟩ nX1_takeLoaves_38 (rfl) ?_
  refine V_iast (ws' := (wC g c_a l_a (upd c_lo f ((c_lo f) - (nI (porN l_kd e)))) c_sk (upd c_db ((e * 4) + f) (capI ((c_db (e * 4 + f)) + (nI (porN l_kd e))))) c_yr c_vi c_wy) ++ (wL g l_a l_nf l_ne l_pl l_yl l_nd l_hm l_wk l_kd)) 3 nX1_takeLoaves_41 rfl (by omega) (by decide) rfl ?_
  exact R_v rfl X hQ nX1_takeLoaves_42 (by simp only [List.map_append, wC_fst, wL_fst]) (⟨rfl, rfl⟩)

set_option maxHeartbeats 4000000 in
set_option maxRecDepth 100000 in
theorem c_X1_nearestOwed (g : Gx) (l : Launch) (c_a : Nat → Nat) (c_lo : Nat → Int32) (c_sk : Nat → Int32) (c_db : Nat → Int32) (c_yr : Int32) (c_vi : Nat → Int32) (c_wy : Nat → Int32) (l_a : Nat → Nat) (l_nf : Nat) (l_ne : Nat) (l_pl : Nat → Int32) (l_yl : Nat → Int32) (l_nd : Nat → Int32) (l_hm : Nat → Int32) (l_wk : Nat → Int32) (l_kd : Nat → Int32)  (e : Nat) (a : Int32) (hnf : l_nf ≤ 4) (he : e < 5) : Cd g l yX1_nearestOwed mX1_nearestOwed ({ frames := 1, cells := 0, slots := 0, locals := 24 } : Room) [.ref (c_a 0), .int (nI e), .int a] ((wC g c_a l_a c_lo c_sk c_db c_yr c_vi c_wy) ++ (wL g l_a l_nf l_ne l_pl l_yl l_nd l_hm l_wk l_kd)) (some (.int (oI (nrO l_pl c_db e a l_nf).1))) ((wC g c_a l_a c_lo c_sk c_db c_yr c_vi c_wy) ++ (wL g l_a l_nf l_ne l_pl l_yl l_nd l_hm l_wk l_kd)) := by
  refine Ct.of (lv := [(0, .ref (c_a 0)), (1, .int (nI e)), (2, .int a)]) ⟨by decide +kernel, rfl, Nat.le_of_ble_eq_true rfl⟩ rfl (fun E A sz Q X hQ => ?_)
  refine V_bipush (v := (-9)) nX1_nearestOwed_0 (by decide) ?_
  refine V_istore_n (lv' := [(0, .ref (c_a 0)), (1, .int (nI e)), (2, .int a), (3, .int (-9))]) nX1_nearestOwed_2 (by decide) rfl ?_
  refine V_bipush (v := (nI 10)) nX1_nearestOwed_3 (by decide) ?_
  refine V_istore (lv' := [(0, .ref (c_a 0)), (1, .int (nI e)), (2, .int a), (3, .int (-9)), (4, .int (nI 10))]) nX1_nearestOwed_5 (by decide) rfl ?_
  refine V_iconst (v := (nI 0)) nX1_nearestOwed_7 rfl ?_
  refine V_istore (lv' := [(0, .ref (c_a 0)), (1, .int (nI e)), (2, .int a), (3, .int (-9)), (4, .int (nI 10)), (5, .int (nI 0))]) nX1_nearestOwed_8 (by decide) rfl ?_
  have L10 : ∀ (n : Nat) (i : Nat), l_nf - i < n → i ≤ l_nf → V g E mX1_nearestOwed A Q 0 0 ((wC g c_a l_a c_lo c_sk c_db c_yr c_vi c_wy) ++ (wL g l_a l_nf l_ne l_pl l_yl l_nd l_hm l_wk l_kd)) 10 [(0, .ref (c_a 0)), (1, .int (nI e)), (2, .int a), (3, .int (oI (nrO l_pl c_db e a i).1)), (4, .int ((nrO l_pl c_db e a i).2)), (5, .int (nI i))] [] := by
    intro n
    induction n with
    | zero => intro i hm; exact absurd hm (Nat.not_lt_zero _)
    | succ n ih =>
      intro i hm hi
      refine V_iload nX1_nearestOwed_10 rfl ?_
      refine V_aload_n nX1_nearestOwed_12 rfl ?_
      refine V_get1 0 0 (by decide) f_RX1_9 nX1_nearestOwed_13 rfl rfl ?_
      refine V_get2 6 6 (by decide) f_RX1_35 nX1_nearestOwed_16 rfl rfl ?_
      refine V_icmp_ge_N (tgt := 69) nX1_nearestOwed_19 rfl (by omega) (by omega) (fun h19 => ?_) (fun h19 => ?_)
      · skip
        have hx_i : l_nf = i := by omega
        subst hx_i
        refine V_iload_n nX1_nearestOwed_69 rfl ?_
        exact R_i rfl X hQ nX1_nearestOwed_70 (by simp only [List.map_append, wC_fst, wL_fst]) (⟨rfl, rfl⟩)
      · skip
        refine V_aload_n nX1_nearestOwed_22 rfl ?_
        refine V_get1 0 0 (by decide) f_RX1_9 nX1_nearestOwed_23 rfl rfl ?_
        refine V_get2 6 0 (by decide) f_RX1_91 nX1_nearestOwed_26 rfl rfl ?_
        refine V_iload nX1_nearestOwed_29 rfl ?_
        refine V_iald 7 nX1_nearestOwed_31 rfl (by omega) (by decide) rfl ?_
        refine V_iload_n nX1_nearestOwed_32 rfl ?_
        refine V_isub (v := (l_pl i) - a) nX1_nearestOwed_33 rfl ?_
        refine V_mabs (v := absI ((l_pl i) - a)) X k_RX1_94 ⟨Nat.le_of_ble_eq_true rfl, Nat.le_of_ble_eq_true rfl, Nat.le_of_ble_eq_true rfl, Nat.le_of_ble_eq_true rfl⟩ nX1_nearestOwed_34 (rfl) ?_
        refine V_istore (lv' := [(0, .ref (c_a 0)), (1, .int (nI e)), (2, .int a), (3, .int (oI (nrO l_pl c_db e a i).1)), (4, .int ((nrO l_pl c_db e a i).2)), (5, .int (nI i)), (6, .int (absI ((l_pl i) - a)))]) nX1_nearestOwed_37 (by decide) rfl ?_
        refine V_aload_n nX1_nearestOwed_39 rfl ?_
        refine V_iload_n nX1_nearestOwed_40 rfl ?_
        refine V_iload nX1_nearestOwed_41 rfl ?_
        refine V_blk (ws' := ((wC g c_a l_a c_lo c_sk c_db c_yr c_vi c_wy)) ++ ((wL g l_a l_nf l_ne l_pl l_yl l_nd l_hm l_wk l_kd))) [wC g c_a l_a c_lo c_sk c_db c_yr c_vi c_wy, wL g l_a l_nf l_ne l_pl l_yl l_nd l_hm l_wk l_kd] [0, 1] rfl (by simp only [List.flatten_cons, List.flatten_nil, List.append_nil, List.append_assoc]) (by show List.flatten [wC g c_a l_a c_lo c_sk c_db c_yr c_vi c_wy, wL g l_a l_nf l_ne l_pl l_yl l_nd l_hm l_wk l_kd] = _; simp only [List.flatten_cons, List.flatten_nil, List.append_nil, List.append_assoc]) ?_
        refine V_cVi (C := (RX1, TX1, 7)) (ci := 1) (ws' := ((wC g c_a l_a c_lo c_sk c_db c_yr c_vi c_wy)) ++ ((wL g l_a l_nf l_ne l_pl l_yl l_nd l_hm l_wk l_kd))) (List.range _) 2 X (c_X1_debt g l c_a l_a c_lo c_sk c_db c_yr c_vi c_wy  e i (by omega) (by omega)) k_RX1_49 hy_X1_debt (by decide) (range_at _ _) (range_nd _) 0 rfl rfl nX1_nearestOwed_43 rfl rfl (Nat.le_of_ble_eq_true rfl) (wput_range _ _ _ (by simp only [List.length_append, wC_len])) ?_
        refine V_blk (ws' := (wC g c_a l_a c_lo c_sk c_db c_yr c_vi c_wy) ++ (wL g l_a l_nf l_ne l_pl l_yl l_nd l_hm l_wk l_kd)) [wC g c_a l_a c_lo c_sk c_db c_yr c_vi c_wy, wL g l_a l_nf l_ne l_pl l_yl l_nd l_hm l_wk l_kd] [0, 1] rfl (by simp only [List.flatten_cons, List.flatten_nil, List.append_nil, List.append_assoc]) (by show List.flatten [wC g c_a l_a c_lo c_sk c_db c_yr c_vi c_wy, wL g l_a l_nf l_ne l_pl l_yl l_nd l_hm l_wk l_kd] = _; simp only [List.flatten_cons, List.flatten_nil, List.append_nil, List.append_assoc]) ?_
        refine V_if_le (tgt := 63) nX1_nearestOwed_46 rfl (fun h46 => ?_) (fun h46 => ?_)
        · skip
          refine V_iinc (v := nI (i + 1)) (lv' := [(0, .ref (c_a 0)), (1, .int (nI e)), (2, .int a), (3, .int (oI (nrO l_pl c_db e a i).1)), (4, .int ((nrO l_pl c_db e a i).2)), (5, .int (nI (i + 1))), (6, .int (absI ((l_pl i) - a)))]) nX1_nearestOwed_63 rfl (nI_add i 1) (by decide) rfl ?_
          refine V_goto (tgt := 10) nX1_nearestOwed_66 rfl ?_
          refine V_pick (lv2 := [(0, .ref (c_a 0)), (1, .int (nI e)), (2, .int a), (3, .int (oI (nrO l_pl c_db e a i).1)), (4, .int ((nrO l_pl c_db e a i).2)), (5, .int (nI (i + 1)))]) [0, 1, 2, 3, 4, 5] rfl ?_
          have q := ih (i + 1) (by omega) (by omega)
          rw [show nrO l_pl c_db e a (i + 1) = _ from if_neg (fun q => q.1 h46)] at q
          exact q
        · skip
          refine V_iload nX1_nearestOwed_49 rfl ?_
          refine V_iload nX1_nearestOwed_51 rfl ?_
          refine V_icmp_ge (tgt := 63) nX1_nearestOwed_53 rfl (fun h53 => ?_) (fun h53 => ?_)
          · skip
            refine V_iinc (v := nI (i + 1)) (lv' := [(0, .ref (c_a 0)), (1, .int (nI e)), (2, .int a), (3, .int (oI (nrO l_pl c_db e a i).1)), (4, .int ((nrO l_pl c_db e a i).2)), (5, .int (nI (i + 1))), (6, .int (absI ((l_pl i) - a)))]) nX1_nearestOwed_63 rfl (nI_add i 1) (by decide) rfl ?_
            refine V_goto (tgt := 10) nX1_nearestOwed_66 rfl ?_
            refine V_pick (lv2 := [(0, .ref (c_a 0)), (1, .int (nI e)), (2, .int a), (3, .int (oI (nrO l_pl c_db e a i).1)), (4, .int ((nrO l_pl c_db e a i).2)), (5, .int (nI (i + 1)))]) [0, 1, 2, 3, 4, 5] rfl ?_
            have q := ih (i + 1) (by omega) (by omega)
            rw [show nrO l_pl c_db e a (i + 1) = _ from if_neg (fun q => q.2 h53)] at q
            exact q
          · skip
            refine V_iload nX1_nearestOwed_56 rfl ?_
            refine V_istore_n (lv' := [(0, .ref (c_a 0)), (1, .int (nI e)), (2, .int a), (3, .int (nI i)), (4, .int ((nrO l_pl c_db e a i).2)), (5, .int (nI i)), (6, .int (absI ((l_pl i) - a)))]) nX1_nearestOwed_58 (by decide) rfl ?_
            refine V_iload nX1_nearestOwed_59 rfl ?_
            refine V_istore (lv' := [(0, .ref (c_a 0)), (1, .int (nI e)), (2, .int a), (3, .int (nI i)), (4, .int (absI ((l_pl i) - a))), (5, .int (nI i)), (6, .int (absI ((l_pl i) - a)))]) nX1_nearestOwed_61 (by decide) rfl ?_
            refine V_iinc (v := nI (i + 1)) (lv' := [(0, .ref (c_a 0)), (1, .int (nI e)), (2, .int a), (3, .int (nI i)), (4, .int (absI ((l_pl i) - a))), (5, .int (nI (i + 1))), (6, .int (absI ((l_pl i) - a)))]) nX1_nearestOwed_63 rfl (nI_add i 1) (by decide) rfl ?_
            refine V_goto (tgt := 10) nX1_nearestOwed_66 rfl ?_
            refine V_pick (lv2 := [(0, .ref (c_a 0)), (1, .int (nI e)), (2, .int a), (3, .int (nI i)), (4, .int (absI ((l_pl i) - a))), (5, .int (nI (i + 1)))]) [0, 1, 2, 3, 4, 5] rfl ?_
            have q := ih (i + 1) (by omega) (by omega)
            rw [show nrO l_pl c_db e a (i + 1) = _ from if_pos ⟨h46, h53⟩] at q
            exact q
  exact L10 _ 0 (Nat.lt_succ_self _) (by omega)

set_option maxHeartbeats 4000000 in
set_option maxRecDepth 100000 in
theorem c_X1_bringSeed (g : Gx) (l : Launch) (c_a : Nat → Nat) (c_la : Nat → Nat) (c_lo : Nat → Int32) (c_sk : Nat → Int32) (c_db : Nat → Int32) (c_yr : Int32) (c_vi : Nat → Int32) (c_wy : Nat → Int32)  (e : Nat) (f : Nat) (he : e < 5) (hf : f < 4) : Cd g l yX1_bringSeed mX1_bringSeed ({ frames := 1, cells := 0, slots := 0, locals := 24 } : Room) [.ref (c_a 0), .int (nI e), .int (nI f)] (wC g c_a c_la c_lo c_sk c_db c_yr c_vi c_wy) none (wC g c_a c_la c_lo (upd c_sk f (capI (c_sk f + c_db (e * 4 + f)))) (upd c_db (e * 4 + f) (nI 0)) c_yr c_vi c_wy) := by
  refine Ct.of (lv := [(0, .ref (c_a 0)), (1, .int (nI e)), (2, .int (nI f))]) ⟨by decide +kernel, rfl, Nat.le_of_ble_eq_true rfl⟩ rfl (fun E A sz Q X hQ => ?_)
  refine V_aload_n nX1_bringSeed_0 rfl ?_
  refine V_get1 0 2 (by decide) f_RX1_19 nX1_bringSeed_1 rfl rfl ?_
  refine V_iload_n nX1_bringSeed_4 rfl ?_
  refine V_bipush (v := (nI 99)) nX1_bringSeed_5 (by decide) ?_
  refine V_aload_n nX1_bringSeed_7 rfl ?_
  refine V_get1 0 2 (by decide) f_RX1_19 nX1_bringSeed_8 rfl rfl ?_
  refine V_iload_n nX1_bringSeed_11 rfl ?_
  refine V_iald 2 nX1_bringSeed_12 rfl (by omega) (by decide) rfl ?_
  refine V_aload_n nX1_bringSeed_13 rfl ?_
  refine V_iload_n nX1_bringSeed_14 rfl ?_
  refine V_iload_n nX1_bringSeed_15 rfl ?_
  refine V_blk (ws' := ((wC g c_a c_la c_lo c_sk c_db c_yr c_vi c_wy)) ++ ([] : va_W)) [wC g c_a c_la c_lo c_sk c_db c_yr c_vi c_wy] [0] rfl (by simp only [List.flatten_cons, List.flatten_nil, List.append_nil, List.append_assoc]) (by show List.flatten [wC g c_a c_la c_lo c_sk c_db c_yr c_vi c_wy] = _; simp only [List.flatten_cons, List.flatten_nil, List.append_nil, List.append_assoc]) ?_
  refine V_cVi (C := (RX1, TX1, 7)) (ci := 1) (ws' := ((wC g c_a c_la c_lo c_sk c_db c_yr c_vi c_wy)) ++ ([] : va_W)) (List.range _) 2 X (c_X1_debt g l c_a c_la c_lo c_sk c_db c_yr c_vi c_wy  e f (by omega) (by omega)) k_RX1_49 hy_X1_debt (by decide) (range_at _ _) (range_nd _) 0 rfl rfl nX1_bringSeed_16 rfl rfl (Nat.le_of_ble_eq_true rfl) (wput_range _ _ _ (by simp only [List.length_append, wC_len])) ?_
  refine V_blk (ws' := wC g c_a c_la c_lo c_sk c_db c_yr c_vi c_wy) [wC g c_a c_la c_lo c_sk c_db c_yr c_vi c_wy] [0] rfl (by simp only [List.flatten_cons, List.flatten_nil, List.append_nil, List.append_assoc]) (by show List.flatten [wC g c_a c_la c_lo c_sk c_db c_yr c_vi c_wy] = _; simp only [List.flatten_cons, List.flatten_nil, List.append_nil, List.append_assoc]) ?_
  refine V_iadd (v := (c_sk f) + (c_db (e * 4 + f))) nX1_bringSeed_19 rfl ?_
  refine V_mmin (v := capI ((c_sk f) + (c_db (e * 4 + f)))) X k_RX1_73 ⟨Nat.le_of_ble_eq_true rfl, Nat.le_of_ble_eq_true rfl, Nat.le_of_ble_eq_true rfl, Nat.le_of_ble_eq_true rfl⟩ nX1_bringSeed_20 (rfl) ?_
  refine V_iast (ws' := wC g c_a c_la c_lo (upd c_sk f (capI ((c_sk f) + (c_db (e * 4 + f))))) c_db c_yr c_vi c_wy) 2 nX1_bringSeed_23 rfl (by omega) (by decide) rfl ?_
  refine V_aload_n nX1_bringSeed_24 rfl ?_
  refine V_get1 0 3 (by decide) f_RX1_22 nX1_bringSeed_25 rfl rfl ?_
  refine V_iload_n nX1_bringSeed_28 rfl ?_
  refine V_iconst (v := (nI 4)) nX1_bringSeed_29 rfl ?_
  refine V_imul (v := nI (e * 4)) nX1_bringSeed_30 (pk_mul e 4) ?_
  refine V_iload_n nX1_bringSeed_31 rfl ?_
  refine V_iadd (v := nI ((e * 4) + f)) nX1_bringSeed_32 (nI_add (e * 4) f) ?_
  refine V_iconst (v := (nI 0)) nX1_bringSeed_33 rfl ?_
  refine V_iast (ws' := wC g c_a c_la c_lo (upd c_sk f (capI ((c_sk f) + (c_db (e * 4 + f))))) (upd c_db ((e * 4) + f) (nI 0)) c_yr c_vi c_wy) 3 nX1_bringSeed_34 rfl (by omega) (by decide) rfl ?_
  exact R_v rfl X hQ nX1_bringSeed_35 (by simp only [List.map_append, wC_fst]) (⟨rfl, rfl⟩)

set_option maxHeartbeats 4000000 in
set_option maxRecDepth 100000 in
theorem c_X1_sendOut (g : Gx) (l : Launch) (c_a : Nat → Nat) (c_lo : Nat → Int32) (c_sk : Nat → Int32) (c_db : Nat → Int32) (c_yr : Int32) (c_vi : Nat → Int32) (c_wy : Nat → Int32) (l_a : Nat → Nat) (l_nf : Nat) (l_ne : Nat) (l_pl : Nat → Int32) (l_yl : Nat → Int32) (l_nd : Nat → Int32) (l_hm : Nat → Int32) (l_wk : Nat → Int32) (l_kd : Nat → Int32)  (e : Nat) (wk : Int32) (hnf : l_nf ≤ 4) (he : e < 5) : Cd g l yX1_sendOut mX1_sendOut ({ frames := 2, cells := 0, slots := 0, locals := 50 } : Room) [.ref (c_a 0), .int (nI e), .int wk] ((wC g c_a l_a c_lo c_sk c_db c_yr c_vi c_wy) ++ (wL g l_a l_nf l_ne l_pl l_yl l_nd l_hm l_wk l_kd)) none ((wC g c_a l_a c_lo ((sendS l_pl l_hm l_kd l_nf e wk c_sk c_db).1) ((sendS l_pl l_hm l_kd l_nf e wk c_sk c_db).2.1) c_yr (upd c_vi e (sendS l_pl l_hm l_kd l_nf e wk c_sk c_db).2.2.1) (upd c_wy e (sendS l_pl l_hm l_kd l_nf e wk c_sk c_db).2.2.2)) ++ (wL g l_a l_nf l_ne l_pl l_yl l_nd l_hm l_wk l_kd)) := by
  refine Ct.of (lv := [(0, .ref (c_a 0)), (1, .int (nI e)), (2, .int wk)]) ⟨by decide +kernel, rfl, Nat.le_of_ble_eq_true rfl⟩ rfl (fun E A sz Q X hQ => ?_)
  refine V_aload_n nX1_sendOut_0 rfl ?_
  refine V_get1 0 5 (by decide) f_RX1_29 nX1_sendOut_1 rfl rfl ?_
  refine V_iload_n nX1_sendOut_4 rfl ?_
  refine V_iconst (v := (nI 0)) nX1_sendOut_5 rfl ?_
  refine V_iast (ws' := (wC g c_a l_a c_lo c_sk c_db c_yr (upd c_vi e (nI 0)) c_wy) ++ (wL g l_a l_nf l_ne l_pl l_yl l_nd l_hm l_wk l_kd)) 4 nX1_sendOut_6 rfl (by omega) (by decide) rfl ?_
  refine V_aload_n nX1_sendOut_7 rfl ?_
  refine V_get1 0 6 (by decide) f_RX1_32 nX1_sendOut_8 rfl rfl ?_
  refine V_iload_n nX1_sendOut_11 rfl ?_
  refine V_iconst (v := (nI 0)) nX1_sendOut_12 rfl ?_
  refine V_iast (ws' := (wC g c_a l_a c_lo c_sk c_db c_yr (upd c_vi e (nI 0)) (upd c_wy e (nI 0))) ++ (wL g l_a l_nf l_ne l_pl l_yl l_nd l_hm l_wk l_kd)) 5 nX1_sendOut_13 rfl (by omega) (by decide) rfl ?_
  refine V_aload_n nX1_sendOut_14 rfl ?_
  refine V_get1 0 0 (by decide) f_RX1_9 nX1_sendOut_15 rfl rfl ?_
  refine V_get2 6 3 (by decide) f_RX1_85 nX1_sendOut_18 rfl rfl ?_
  refine V_iload_n nX1_sendOut_21 rfl ?_
  refine V_iald 10 nX1_sendOut_22 rfl (by omega) (by decide) rfl ?_
  refine V_istore_n (lv' := [(0, .ref (c_a 0)), (1, .int (nI e)), (2, .int wk), (3, .int (l_hm e))]) nX1_sendOut_23 (by decide) rfl ?_
  refine V_iconst (v := (nI 0)) nX1_sendOut_24 rfl ?_
  refine V_istore (lv' := [(0, .ref (c_a 0)), (1, .int (nI e)), (2, .int wk), (3, .int (l_hm e)), (4, .int (nI 0))]) nX1_sendOut_25 (by decide) rfl ?_
  have L27 : ∀ (n : Nat) (i : Nat) (a : Int32) (s : G4), 4 - i < n → i ≤ 4 → (goS l_pl l_kd l_nf e wk (4 - i) a s) = (sendS l_pl l_hm l_kd l_nf e wk c_sk c_db) → V g E mX1_sendOut A Q 0 0 ((wC g c_a l_a c_lo s.1 s.2.1 c_yr (upd c_vi e s.2.2.1) (upd c_wy e s.2.2.2)) ++ (wL g l_a l_nf l_ne l_pl l_yl l_nd l_hm l_wk l_kd)) 27 [(0, .ref (c_a 0)), (1, .int (nI e)), (2, .int wk), (3, .int a), (4, .int (nI i))] [] := by
    intro n
    induction n with
    | zero => intro i a s hm; exact absurd hm (Nat.not_lt_zero _)
    | succ n ih =>
      intro i a s hm hi hs
      refine V_iload nX1_sendOut_27 rfl ?_
      refine V_iconst (v := (nI 4)) nX1_sendOut_29 rfl ?_
      refine V_icmp_ge_N (tgt := 141) nX1_sendOut_30 rfl (by omega) (by omega) (fun h30 => ?_) (fun h30 => ?_)
      · skip
        have hz : i = 4 := by omega
        subst hz
        have hs : s = _ := hs
        exact R_v rfl X hQ nX1_sendOut_141 (by simp only [List.map_append, wC_fst, wL_fst]) (⟨rfl, by rw [← hs]⟩)
      · skip
        have hi4 : i < 4 := h30
        refine V_aload_n nX1_sendOut_33 rfl ?_
        refine V_iload_n nX1_sendOut_34 rfl ?_
        refine V_iload_n nX1_sendOut_35 rfl ?_
        refine V_blk (ws' := ((wC g c_a l_a c_lo s.1 s.2.1 c_yr (upd c_vi e s.2.2.1) (upd c_wy e s.2.2.2)) ++ (wL g l_a l_nf l_ne l_pl l_yl l_nd l_hm l_wk l_kd)) ++ ([] : va_W)) [wC g c_a l_a c_lo s.1 s.2.1 c_yr (upd c_vi e s.2.2.1) (upd c_wy e s.2.2.2), wL g l_a l_nf l_ne l_pl l_yl l_nd l_hm l_wk l_kd] [0, 1] rfl (by simp only [List.flatten_cons, List.flatten_nil, List.append_nil, List.append_assoc]) (by show List.flatten [wC g c_a l_a c_lo s.1 s.2.1 c_yr (upd c_vi e s.2.2.1) (upd c_wy e s.2.2.2), wL g l_a l_nf l_ne l_pl l_yl l_nd l_hm l_wk l_kd] = _; simp only [List.flatten_cons, List.flatten_nil, List.append_nil, List.append_assoc]) ?_
        refine V_cVi (C := (RX1, TX1, 7)) (ci := 1) (ws' := ((wC g c_a l_a c_lo s.1 s.2.1 c_yr (upd c_vi e s.2.2.1) (upd c_wy e s.2.2.2)) ++ (wL g l_a l_nf l_ne l_pl l_yl l_nd l_hm l_wk l_kd)) ++ ([] : va_W)) (List.range _) 2 X (c_X1_nearestOwed g l c_a c_lo s.1 s.2.1 c_yr (upd c_vi e s.2.2.1) (upd c_wy e s.2.2.2) l_a l_nf l_ne l_pl l_yl l_nd l_hm l_wk l_kd  e a (by omega) (by omega)) k_RX1_88 hy_X1_nearestOwed (by decide) (range_at _ _) (range_nd _) 0 rfl rfl nX1_sendOut_36 rfl rfl (Nat.le_of_ble_eq_true rfl) (wput_range _ _ _ (by simp only [List.length_append, wC_len, wL_len])) ?_
        refine V_blk (ws' := (wC g c_a l_a c_lo s.1 s.2.1 c_yr (upd c_vi e s.2.2.1) (upd c_wy e s.2.2.2)) ++ (wL g l_a l_nf l_ne l_pl l_yl l_nd l_hm l_wk l_kd)) [wC g c_a l_a c_lo s.1 s.2.1 c_yr (upd c_vi e s.2.2.1) (upd c_wy e s.2.2.2), wL g l_a l_nf l_ne l_pl l_yl l_nd l_hm l_wk l_kd] [0, 1] rfl (by simp only [List.flatten_cons, List.flatten_nil, List.append_nil, List.append_assoc]) (by show List.flatten [wC g c_a l_a c_lo s.1 s.2.1 c_yr (upd c_vi e s.2.2.1) (upd c_wy e s.2.2.2), wL g l_a l_nf l_ne l_pl l_yl l_nd l_hm l_wk l_kd] = _; simp only [List.flatten_cons, List.flatten_nil, List.append_nil, List.append_assoc]) ?_
        refine V_istore (lv' := [(0, .ref (c_a 0)), (1, .int (nI e)), (2, .int wk), (3, .int a), (4, .int (nI i)), (5, .int (oI (nrO l_pl s.2.1 e a l_nf).1))]) nX1_sendOut_39 (by decide) rfl ?_
        refine V_iload nX1_sendOut_41 rfl ?_
        refine V_bipush (v := (-9)) nX1_sendOut_43 (by decide) ?_
        refine V_icmp_ne (tgt := 49) nX1_sendOut_45 rfl (fun h45 => ?_) (fun h45 => ?_)
        · skip
          obtain ⟨f, hf⟩ : ∃ f, (nrO l_pl s.2.1 e a l_nf).1 = some f := by
            cases hq : (nrO l_pl s.2.1 e a l_nf).1 with
            | none => rw [hq] at h45; exact absurd rfl h45
            | some f => exact ⟨f, rfl⟩
          have hf4 : f < l_nf := nrO_lt _ _ _ _ _ _ hf
          rw [hf]
          refine V_aload_n nX1_sendOut_49 rfl ?_
          refine V_get1 0 0 (by decide) f_RX1_9 nX1_sendOut_50 rfl rfl ?_
          refine V_get2 6 0 (by decide) f_RX1_91 nX1_sendOut_53 rfl rfl ?_
          refine V_iload nX1_sendOut_56 rfl ?_
          refine V_iald 7 nX1_sendOut_58 rfl (by omega) (by decide) rfl ?_
          refine V_iload_n nX1_sendOut_59 rfl ?_
          refine V_isub (v := (l_pl f) - a) nX1_sendOut_60 rfl ?_
          refine V_mabs (v := absI ((l_pl f) - a)) X k_RX1_94 ⟨Nat.le_of_ble_eq_true rfl, Nat.le_of_ble_eq_true rfl, Nat.le_of_ble_eq_true rfl, Nat.le_of_ble_eq_true rfl⟩ nX1_sendOut_61 (rfl) ?_
          refine V_istore (lv' := [(0, .ref (c_a 0)), (1, .int (nI e)), (2, .int wk), (3, .int a), (4, .int (nI i)), (5, .int (nI f)), (6, .int (absI ((l_pl f) - a)))]) nX1_sendOut_64 (by decide) rfl ?_
          refine V_aload_n nX1_sendOut_66 rfl ?_
          refine V_get1 0 0 (by decide) f_RX1_9 nX1_sendOut_67 rfl rfl ?_
          refine V_get2 6 5 (by decide) f_RX1_67 nX1_sendOut_70 rfl rfl ?_
          refine V_iload_n nX1_sendOut_73 rfl ?_
          refine V_iald 12 nX1_sendOut_74 rfl (by omega) (by decide) rfl ?_
          refine V_iconst (v := (nI 1)) nX1_sendOut_75 rfl ?_
          refine V_icmp_eq (tgt := 93) nX1_sendOut_76 rfl (fun h76 => ?_) (fun h76 => ?_)
          · skip
            refine V_aload_n nX1_sendOut_93 rfl ?_
            refine V_iload_n nX1_sendOut_94 rfl ?_
            refine V_iload nX1_sendOut_95 rfl ?_
            refine V_blk (ws' := ((wC g c_a l_a c_lo s.1 s.2.1 c_yr (upd c_vi e s.2.2.1) (upd c_wy e s.2.2.2))) ++ ((wL g l_a l_nf l_ne l_pl l_yl l_nd l_hm l_wk l_kd))) [wC g c_a l_a c_lo s.1 s.2.1 c_yr (upd c_vi e s.2.2.1) (upd c_wy e s.2.2.2), wL g l_a l_nf l_ne l_pl l_yl l_nd l_hm l_wk l_kd] [0, 1] rfl (by simp only [List.flatten_cons, List.flatten_nil, List.append_nil, List.append_assoc]) (by show List.flatten [wC g c_a l_a c_lo s.1 s.2.1 c_yr (upd c_vi e s.2.2.1) (upd c_wy e s.2.2.2), wL g l_a l_nf l_ne l_pl l_yl l_nd l_hm l_wk l_kd] = _; simp only [List.flatten_cons, List.flatten_nil, List.append_nil, List.append_assoc]) ?_
            refine V_cVv (C := (RX1, TX1, 7)) (ci := 1) (ws' := ((wC g c_a l_a c_lo (upd s.1 f (capI (s.1 f + s.2.1 (e * 4 + f)))) (upd s.2.1 (e * 4 + f) (nI 0)) c_yr (upd c_vi e s.2.2.1) (upd c_wy e s.2.2.2))) ++ ((wL g l_a l_nf l_ne l_pl l_yl l_nd l_hm l_wk l_kd))) (List.range _) 2 X (c_X1_bringSeed g l c_a l_a c_lo s.1 s.2.1 c_yr (upd c_vi e s.2.2.1) (upd c_wy e s.2.2.2)  e f (by omega) (by omega)) k_RX1_97 hy_X1_bringSeed (by decide) (range_at _ _) (range_nd _) 0 rfl rfl nX1_sendOut_97 rfl rfl (Nat.le_of_ble_eq_true rfl) (wput_range _ _ _ (by simp only [List.length_append, wC_len])) ?_
            refine V_blk (ws' := (wC g c_a l_a c_lo (upd s.1 f (capI (s.1 f + s.2.1 (e * 4 + f)))) (upd s.2.1 (e * 4 + f) (nI 0)) c_yr (upd c_vi e s.2.2.1) (upd c_wy e s.2.2.2)) ++ (wL g l_a l_nf l_ne l_pl l_yl l_nd l_hm l_wk l_kd)) [wC g c_a l_a c_lo (upd s.1 f (capI (s.1 f + s.2.1 (e * 4 + f)))) (upd s.2.1 (e * 4 + f) (nI 0)) c_yr (upd c_vi e s.2.2.1) (upd c_wy e s.2.2.2), wL g l_a l_nf l_ne l_pl l_yl l_nd l_hm l_wk l_kd] [0, 1] rfl (by simp only [List.flatten_cons, List.flatten_nil, List.append_nil, List.append_assoc]) (by show List.flatten [wC g c_a l_a c_lo (upd s.1 f (capI (s.1 f + s.2.1 (e * 4 + f)))) (upd s.2.1 (e * 4 + f) (nI 0)) c_yr (upd c_vi e s.2.2.1) (upd c_wy e s.2.2.2), wL g l_a l_nf l_ne l_pl l_yl l_nd l_hm l_wk l_kd] = _; simp only [List.flatten_cons, List.flatten_nil, List.append_nil, List.append_assoc]) ?_
            refine V_aload_n nX1_sendOut_100 rfl ?_
            refine V_get1 0 5 (by decide) f_RX1_29 nX1_sendOut_101 rfl rfl ?_
            refine V_iload_n nX1_sendOut_104 rfl ?_
            refine V_dup2 nX1_sendOut_105 rfl rfl ?_
            refine V_iald (v := s.2.2.1) 4 nX1_sendOut_106 rfl (by omega) (by decide) (pk_us) ?_
            refine V_iconst (v := (nI 1)) nX1_sendOut_107 rfl ?_
            refine V_iload nX1_sendOut_108 rfl ?_
            refine V_ishl (v := nI (2 ^ f)) nX1_sendOut_110 (nI_shl1 (by omega)) ?_
            refine V_ior (v := s.2.2.1 ||| (nI (2 ^ f))) nX1_sendOut_111 rfl ?_
            refine V_iast (ws' := (wC g c_a l_a c_lo (upd s.1 f (capI (s.1 f + s.2.1 (e * 4 + f)))) (upd s.2.1 (e * 4 + f) (nI 0)) c_yr (upd (upd c_vi e s.2.2.1) e (s.2.2.1 ||| (nI (2 ^ f)))) (upd c_wy e s.2.2.2)) ++ (wL g l_a l_nf l_ne l_pl l_yl l_nd l_hm l_wk l_kd)) 4 nX1_sendOut_112 rfl (by omega) (by decide) rfl ?_
            refine V_ws (ws' := (wC g c_a l_a c_lo (upd s.1 f (capI (s.1 f + s.2.1 (e * 4 + f)))) (upd s.2.1 (e * 4 + f) (nI 0)) c_yr (upd c_vi e (s.2.2.1 ||| nI (2 ^ f))) (upd c_wy e s.2.2.2)) ++ (wL g l_a l_nf l_ne l_pl l_yl l_nd l_hm l_wk l_kd)) (by rw [upd_upd]) ?_
            refine V_aload_n nX1_sendOut_113 rfl ?_
            refine V_get1 0 6 (by decide) f_RX1_32 nX1_sendOut_114 rfl rfl ?_
            refine V_iload_n nX1_sendOut_117 rfl ?_
            refine V_dup2 nX1_sendOut_118 rfl rfl ?_
            refine V_iald (v := s.2.2.2) 5 nX1_sendOut_119 rfl (by omega) (by decide) (pk_us) ?_
            refine V_iload nX1_sendOut_120 rfl ?_
            refine V_iadd (v := s.2.2.2 + (absI ((l_pl f) - a))) nX1_sendOut_122 rfl ?_
            refine V_iast (ws' := (wC g c_a l_a c_lo (upd s.1 f (capI (s.1 f + s.2.1 (e * 4 + f)))) (upd s.2.1 (e * 4 + f) (nI 0)) c_yr (upd c_vi e (s.2.2.1 ||| nI (2 ^ f))) (upd (upd c_wy e s.2.2.2) e (s.2.2.2 + (absI ((l_pl f) - a))))) ++ (wL g l_a l_nf l_ne l_pl l_yl l_nd l_hm l_wk l_kd)) 5 nX1_sendOut_123 rfl (by omega) (by decide) rfl ?_
            refine V_ws (ws' := (wC g c_a l_a c_lo (upd s.1 f (capI (s.1 f + s.2.1 (e * 4 + f)))) (upd s.2.1 (e * 4 + f) (nI 0)) c_yr (upd c_vi e (s.2.2.1 ||| nI (2 ^ f))) (upd c_wy e (s.2.2.2 + absI (l_pl f - a)))) ++ (wL g l_a l_nf l_ne l_pl l_yl l_nd l_hm l_wk l_kd)) (by rw [upd_upd]) ?_
            refine V_aload_n nX1_sendOut_124 rfl ?_
            refine V_get1 0 0 (by decide) f_RX1_9 nX1_sendOut_125 rfl rfl ?_
            refine V_get2 6 0 (by decide) f_RX1_91 nX1_sendOut_128 rfl rfl ?_
            refine V_iload nX1_sendOut_131 rfl ?_
            refine V_iald 7 nX1_sendOut_133 rfl (by omega) (by decide) rfl ?_
            refine V_istore_n (lv' := [(0, .ref (c_a 0)), (1, .int (nI e)), (2, .int wk), (3, .int (l_pl f)), (4, .int (nI i)), (5, .int (nI f)), (6, .int (absI ((l_pl f) - a)))]) nX1_sendOut_134 (by decide) rfl ?_
            refine V_iinc (v := nI (i + 1)) (lv' := [(0, .ref (c_a 0)), (1, .int (nI e)), (2, .int wk), (3, .int (l_pl f)), (4, .int (nI (i + 1))), (5, .int (nI f)), (6, .int (absI ((l_pl f) - a)))]) nX1_sendOut_135 rfl (nI_add i 1) (by decide) rfl ?_
            refine V_goto (tgt := 27) nX1_sendOut_138 rfl ?_
            refine V_pick (lv2 := [(0, .ref (c_a 0)), (1, .int (nI e)), (2, .int wk), (3, .int (l_pl f)), (4, .int (nI (i + 1)))]) [0, 1, 2, 3, 4] rfl ?_
            exact ih (i + 1) (l_pl f) (stepS l_pl e f a s) (by omega) (by omega) (by rw [← hs]; exact (goS_go hi4 hf (fun q => q.1 h76)).symm)
          · skip
            refine V_aload_n nX1_sendOut_79 rfl ?_
            refine V_get1 0 6 (by decide) f_RX1_32 nX1_sendOut_80 rfl rfl ?_
            refine V_iload_n nX1_sendOut_83 rfl ?_
            refine V_iald (v := s.2.2.2) 5 nX1_sendOut_84 rfl (by omega) (by decide) (pk_us) ?_
            refine V_iload nX1_sendOut_85 rfl ?_
            refine V_iadd (v := s.2.2.2 + (absI ((l_pl f) - a))) nX1_sendOut_87 rfl ?_
            refine V_iload_n nX1_sendOut_88 rfl ?_
            refine V_icmp_le (tgt := 93) nX1_sendOut_89 rfl (fun h89 => ?_) (fun h89 => ?_)
            · skip
              refine V_aload_n nX1_sendOut_93 rfl ?_
              refine V_iload_n nX1_sendOut_94 rfl ?_
              refine V_iload nX1_sendOut_95 rfl ?_
              refine V_blk (ws' := ((wC g c_a l_a c_lo s.1 s.2.1 c_yr (upd c_vi e s.2.2.1) (upd c_wy e s.2.2.2))) ++ ((wL g l_a l_nf l_ne l_pl l_yl l_nd l_hm l_wk l_kd))) [wC g c_a l_a c_lo s.1 s.2.1 c_yr (upd c_vi e s.2.2.1) (upd c_wy e s.2.2.2), wL g l_a l_nf l_ne l_pl l_yl l_nd l_hm l_wk l_kd] [0, 1] rfl (by simp only [List.flatten_cons, List.flatten_nil, List.append_nil, List.append_assoc]) (by show List.flatten [wC g c_a l_a c_lo s.1 s.2.1 c_yr (upd c_vi e s.2.2.1) (upd c_wy e s.2.2.2), wL g l_a l_nf l_ne l_pl l_yl l_nd l_hm l_wk l_kd] = _; simp only [List.flatten_cons, List.flatten_nil, List.append_nil, List.append_assoc]) ?_
              refine V_cVv (C := (RX1, TX1, 7)) (ci := 1) (ws' := ((wC g c_a l_a c_lo (upd s.1 f (capI (s.1 f + s.2.1 (e * 4 + f)))) (upd s.2.1 (e * 4 + f) (nI 0)) c_yr (upd c_vi e s.2.2.1) (upd c_wy e s.2.2.2))) ++ ((wL g l_a l_nf l_ne l_pl l_yl l_nd l_hm l_wk l_kd))) (List.range _) 2 X (c_X1_bringSeed g l c_a l_a c_lo s.1 s.2.1 c_yr (upd c_vi e s.2.2.1) (upd c_wy e s.2.2.2)  e f (by omega) (by omega)) k_RX1_97 hy_X1_bringSeed (by decide) (range_at _ _) (range_nd _) 0 rfl rfl nX1_sendOut_97 rfl rfl (Nat.le_of_ble_eq_true rfl) (wput_range _ _ _ (by simp only [List.length_append, wC_len])) ?_
              refine V_blk (ws' := (wC g c_a l_a c_lo (upd s.1 f (capI (s.1 f + s.2.1 (e * 4 + f)))) (upd s.2.1 (e * 4 + f) (nI 0)) c_yr (upd c_vi e s.2.2.1) (upd c_wy e s.2.2.2)) ++ (wL g l_a l_nf l_ne l_pl l_yl l_nd l_hm l_wk l_kd)) [wC g c_a l_a c_lo (upd s.1 f (capI (s.1 f + s.2.1 (e * 4 + f)))) (upd s.2.1 (e * 4 + f) (nI 0)) c_yr (upd c_vi e s.2.2.1) (upd c_wy e s.2.2.2), wL g l_a l_nf l_ne l_pl l_yl l_nd l_hm l_wk l_kd] [0, 1] rfl (by simp only [List.flatten_cons, List.flatten_nil, List.append_nil, List.append_assoc]) (by show List.flatten [wC g c_a l_a c_lo (upd s.1 f (capI (s.1 f + s.2.1 (e * 4 + f)))) (upd s.2.1 (e * 4 + f) (nI 0)) c_yr (upd c_vi e s.2.2.1) (upd c_wy e s.2.2.2), wL g l_a l_nf l_ne l_pl l_yl l_nd l_hm l_wk l_kd] = _; simp only [List.flatten_cons, List.flatten_nil, List.append_nil, List.append_assoc]) ?_
              refine V_aload_n nX1_sendOut_100 rfl ?_
              refine V_get1 0 5 (by decide) f_RX1_29 nX1_sendOut_101 rfl rfl ?_
              refine V_iload_n nX1_sendOut_104 rfl ?_
              refine V_dup2 nX1_sendOut_105 rfl rfl ?_
              refine V_iald (v := s.2.2.1) 4 nX1_sendOut_106 rfl (by omega) (by decide) (pk_us) ?_
              refine V_iconst (v := (nI 1)) nX1_sendOut_107 rfl ?_
              refine V_iload nX1_sendOut_108 rfl ?_
              refine V_ishl (v := nI (2 ^ f)) nX1_sendOut_110 (nI_shl1 (by omega)) ?_
              refine V_ior (v := s.2.2.1 ||| (nI (2 ^ f))) nX1_sendOut_111 rfl ?_
              refine V_iast (ws' := (wC g c_a l_a c_lo (upd s.1 f (capI (s.1 f + s.2.1 (e * 4 + f)))) (upd s.2.1 (e * 4 + f) (nI 0)) c_yr (upd (upd c_vi e s.2.2.1) e (s.2.2.1 ||| (nI (2 ^ f)))) (upd c_wy e s.2.2.2)) ++ (wL g l_a l_nf l_ne l_pl l_yl l_nd l_hm l_wk l_kd)) 4 nX1_sendOut_112 rfl (by omega) (by decide) rfl ?_
              refine V_ws (ws' := (wC g c_a l_a c_lo (upd s.1 f (capI (s.1 f + s.2.1 (e * 4 + f)))) (upd s.2.1 (e * 4 + f) (nI 0)) c_yr (upd c_vi e (s.2.2.1 ||| nI (2 ^ f))) (upd c_wy e s.2.2.2)) ++ (wL g l_a l_nf l_ne l_pl l_yl l_nd l_hm l_wk l_kd)) (by rw [upd_upd]) ?_
              refine V_aload_n nX1_sendOut_113 rfl ?_
              refine V_get1 0 6 (by decide) f_RX1_32 nX1_sendOut_114 rfl rfl ?_
              refine V_iload_n nX1_sendOut_117 rfl ?_
              refine V_dup2 nX1_sendOut_118 rfl rfl ?_
              refine V_iald (v := s.2.2.2) 5 nX1_sendOut_119 rfl (by omega) (by decide) (pk_us) ?_
              refine V_iload nX1_sendOut_120 rfl ?_
              refine V_iadd (v := s.2.2.2 + (absI ((l_pl f) - a))) nX1_sendOut_122 rfl ?_
              refine V_iast (ws' := (wC g c_a l_a c_lo (upd s.1 f (capI (s.1 f + s.2.1 (e * 4 + f)))) (upd s.2.1 (e * 4 + f) (nI 0)) c_yr (upd c_vi e (s.2.2.1 ||| nI (2 ^ f))) (upd (upd c_wy e s.2.2.2) e (s.2.2.2 + (absI ((l_pl f) - a))))) ++ (wL g l_a l_nf l_ne l_pl l_yl l_nd l_hm l_wk l_kd)) 5 nX1_sendOut_123 rfl (by omega) (by decide) rfl ?_
              refine V_ws (ws' := (wC g c_a l_a c_lo (upd s.1 f (capI (s.1 f + s.2.1 (e * 4 + f)))) (upd s.2.1 (e * 4 + f) (nI 0)) c_yr (upd c_vi e (s.2.2.1 ||| nI (2 ^ f))) (upd c_wy e (s.2.2.2 + absI (l_pl f - a)))) ++ (wL g l_a l_nf l_ne l_pl l_yl l_nd l_hm l_wk l_kd)) (by rw [upd_upd]) ?_
              refine V_aload_n nX1_sendOut_124 rfl ?_
              refine V_get1 0 0 (by decide) f_RX1_9 nX1_sendOut_125 rfl rfl ?_
              refine V_get2 6 0 (by decide) f_RX1_91 nX1_sendOut_128 rfl rfl ?_
              refine V_iload nX1_sendOut_131 rfl ?_
              refine V_iald 7 nX1_sendOut_133 rfl (by omega) (by decide) rfl ?_
              refine V_istore_n (lv' := [(0, .ref (c_a 0)), (1, .int (nI e)), (2, .int wk), (3, .int (l_pl f)), (4, .int (nI i)), (5, .int (nI f)), (6, .int (absI ((l_pl f) - a)))]) nX1_sendOut_134 (by decide) rfl ?_
              refine V_iinc (v := nI (i + 1)) (lv' := [(0, .ref (c_a 0)), (1, .int (nI e)), (2, .int wk), (3, .int (l_pl f)), (4, .int (nI (i + 1))), (5, .int (nI f)), (6, .int (absI ((l_pl f) - a)))]) nX1_sendOut_135 rfl (nI_add i 1) (by decide) rfl ?_
              refine V_goto (tgt := 27) nX1_sendOut_138 rfl ?_
              refine V_pick (lv2 := [(0, .ref (c_a 0)), (1, .int (nI e)), (2, .int wk), (3, .int (l_pl f)), (4, .int (nI (i + 1)))]) [0, 1, 2, 3, 4] rfl ?_
              exact ih (i + 1) (l_pl f) (stepS l_pl e f a s) (by omega) (by omega) (by rw [← hs]; exact (goS_go hi4 hf (fun q => q.2 h89)).symm)
            · skip
              exact R_v rfl X hQ nX1_sendOut_92 (by simp only [List.map_append, wC_fst, wL_fst]) (⟨rfl, by rw [← hs, goS_stop hi4 hf ⟨h76, h89⟩]⟩)
        · skip
          have hz : (nrO l_pl s.2.1 e a l_nf).1 = none := by
            cases hq : (nrO l_pl s.2.1 e a l_nf).1 with
            | none => rfl
            | some f => rw [hq] at h45; exact absurd h45 (oI_ne (nrO_lt _ _ _ _ _ _ hq) hnf)
          exact R_v rfl X hQ nX1_sendOut_48 (by simp only [List.map_append, wC_fst, wL_fst]) (⟨rfl, by rw [← hs, goS_none hi4 hz]⟩)
  exact L27 _ 0 (l_hm e) (c_sk, c_db, nI 0, nI 0) (Nat.lt_succ_self _) (by omega) (rfl)

set_option maxHeartbeats 4000000 in
set_option maxRecDepth 100000 in
theorem c_X1_callOut (g : Gx) (l : Launch) (c_a : Nat → Nat) (c_lo : Nat → Int32) (c_sk : Nat → Int32) (c_db : Nat → Int32) (c_yr : Int32) (c_vi : Nat → Int32) (c_wy : Nat → Int32) (l_a : Nat → Nat) (l_nf : Nat) (l_ne : Nat) (l_pl : Nat → Int32) (l_yl : Nat → Int32) (l_nd : Nat → Int32) (l_hm : Nat → Int32) (l_wk : Nat → Int32) (l_kd : Nat → Int32)  (x : Nat) (hnf : l_nf ≤ 4) (hne : l_ne ≤ 5) (hx : x < 2 ^ 31) : Cd g l yX1_callOut mX1_callOut ({ frames := 3, cells := 0, slots := 0, locals := 76 } : Room) [.ref (c_a 0), .int (nI x)] ((wC g c_a l_a c_lo c_sk c_db c_yr c_vi c_wy) ++ (wL g l_a l_nf l_ne l_pl l_yl l_nd l_hm l_wk l_kd)) none ((wC g c_a l_a c_lo ((marS l_pl l_hm l_wk l_kd l_nf x (c_sk, c_db, c_vi, c_wy) l_ne).1) ((marS l_pl l_hm l_wk l_kd l_nf x (c_sk, c_db, c_vi, c_wy) l_ne).2.1) c_yr ((marS l_pl l_hm l_wk l_kd l_nf x (c_sk, c_db, c_vi, c_wy) l_ne).2.2.1) ((marS l_pl l_hm l_wk l_kd l_nf x (c_sk, c_db, c_vi, c_wy) l_ne).2.2.2)) ++ (wL g l_a l_nf l_ne l_pl l_yl l_nd l_hm l_wk l_kd)) := by
  refine Ct.of (lv := [(0, .ref (c_a 0)), (1, .int (nI x))]) ⟨by decide +kernel, rfl, Nat.le_of_ble_eq_true rfl⟩ rfl (fun E A sz Q X hQ => ?_)
  refine V_iconst (v := (nI 0)) nX1_callOut_0 rfl ?_
  refine V_istore_n (lv' := [(0, .ref (c_a 0)), (1, .int (nI x)), (2, .int (nI 0))]) nX1_callOut_1 (by decide) rfl ?_
  have L2 : ∀ (n : Nat) (i : Nat), l_ne - i < n → i ≤ l_ne → V g E mX1_callOut A Q 0 0 ((wC g c_a l_a c_lo ((marS l_pl l_hm l_wk l_kd l_nf x (c_sk, c_db, c_vi, c_wy) i).1) ((marS l_pl l_hm l_wk l_kd l_nf x (c_sk, c_db, c_vi, c_wy) i).2.1) c_yr ((marS l_pl l_hm l_wk l_kd l_nf x (c_sk, c_db, c_vi, c_wy) i).2.2.1) ((marS l_pl l_hm l_wk l_kd l_nf x (c_sk, c_db, c_vi, c_wy) i).2.2.2)) ++ (wL g l_a l_nf l_ne l_pl l_yl l_nd l_hm l_wk l_kd)) 2 [(0, .ref (c_a 0)), (1, .int (nI x)), (2, .int (nI i))] [] := by
    intro n
    induction n with
    | zero => intro i hm; exact absurd hm (Nat.not_lt_zero _)
    | succ n ih =>
      intro i hm hi
      refine V_iload_n nX1_callOut_2 rfl ?_
      refine V_aload_n nX1_callOut_3 rfl ?_
      refine V_get1 0 0 (by decide) f_RX1_9 nX1_callOut_4 rfl rfl ?_
      refine V_get2 6 7 (by decide) f_RX1_53 nX1_callOut_7 rfl rfl ?_
      refine V_icmp_ge_N (tgt := 42) nX1_callOut_10 rfl (by omega) (by omega) (fun h10 => ?_) (fun h10 => ?_)
      · skip
        have hx_i : l_ne = i := by omega
        subst hx_i
        exact R_v rfl X hQ nX1_callOut_42 (by simp only [List.map_append, wC_fst, wL_fst]) (⟨rfl, rfl⟩)
      · skip
        refine V_iload_n nX1_callOut_13 rfl ?_
        refine V_iload_n nX1_callOut_14 rfl ?_
        refine V_ishr (v := nI (x / 2 ^ i)) nX1_callOut_15 (nI_shr (by omega) (by omega)) ?_
        refine V_iconst (v := (nI 1)) nX1_callOut_16 rfl ?_
        refine V_iand (v := nI ((x / 2 ^ i) % 2)) nX1_callOut_17 (nx_and1 (x / 2 ^ i)) ?_
        refine V_iconst (v := (nI 1)) nX1_callOut_18 rfl ?_
        refine V_icmp_ne_N (tgt := 36) nX1_callOut_19 rfl (by omega) (by omega) (fun h19 => ?_) (fun h19 => ?_)
        · skip
          refine V_iinc (v := nI (i + 1)) (lv' := [(0, .ref (c_a 0)), (1, .int (nI x)), (2, .int (nI (i + 1)))]) nX1_callOut_36 rfl (nI_add i 1) (by decide) rfl ?_
          refine V_goto (tgt := 2) nX1_callOut_39 rfl ?_
          have q := ih (i + 1) (by omega) (by omega)
          rw [show marS l_pl l_hm l_wk l_kd l_nf x (c_sk, c_db, c_vi, c_wy) (i + 1) = _ from if_neg h19] at q
          exact q
        · skip
          refine V_aload_n nX1_callOut_22 rfl ?_
          refine V_iload_n nX1_callOut_23 rfl ?_
          refine V_aload_n nX1_callOut_24 rfl ?_
          refine V_get1 0 0 (by decide) f_RX1_9 nX1_callOut_25 rfl rfl ?_
          refine V_get2 6 4 (by decide) f_RX1_78 nX1_callOut_28 rfl rfl ?_
          refine V_iload_n nX1_callOut_31 rfl ?_
          refine V_iald 11 nX1_callOut_32 rfl (by omega) (by decide) rfl ?_
          refine V_blk (ws' := ((wC g c_a l_a c_lo ((marS l_pl l_hm l_wk l_kd l_nf x (c_sk, c_db, c_vi, c_wy) i).1) ((marS l_pl l_hm l_wk l_kd l_nf x (c_sk, c_db, c_vi, c_wy) i).2.1) c_yr ((marS l_pl l_hm l_wk l_kd l_nf x (c_sk, c_db, c_vi, c_wy) i).2.2.1) ((marS l_pl l_hm l_wk l_kd l_nf x (c_sk, c_db, c_vi, c_wy) i).2.2.2)) ++ (wL g l_a l_nf l_ne l_pl l_yl l_nd l_hm l_wk l_kd)) ++ ([] : va_W)) [wC g c_a l_a c_lo ((marS l_pl l_hm l_wk l_kd l_nf x (c_sk, c_db, c_vi, c_wy) i).1) ((marS l_pl l_hm l_wk l_kd l_nf x (c_sk, c_db, c_vi, c_wy) i).2.1) c_yr ((marS l_pl l_hm l_wk l_kd l_nf x (c_sk, c_db, c_vi, c_wy) i).2.2.1) ((marS l_pl l_hm l_wk l_kd l_nf x (c_sk, c_db, c_vi, c_wy) i).2.2.2), wL g l_a l_nf l_ne l_pl l_yl l_nd l_hm l_wk l_kd] [0, 1] rfl (by simp only [List.flatten_cons, List.flatten_nil, List.append_nil, List.append_assoc]) (by show List.flatten [wC g c_a l_a c_lo ((marS l_pl l_hm l_wk l_kd l_nf x (c_sk, c_db, c_vi, c_wy) i).1) ((marS l_pl l_hm l_wk l_kd l_nf x (c_sk, c_db, c_vi, c_wy) i).2.1) c_yr ((marS l_pl l_hm l_wk l_kd l_nf x (c_sk, c_db, c_vi, c_wy) i).2.2.1) ((marS l_pl l_hm l_wk l_kd l_nf x (c_sk, c_db, c_vi, c_wy) i).2.2.2), wL g l_a l_nf l_ne l_pl l_yl l_nd l_hm l_wk l_kd] = _; simp only [List.flatten_cons, List.flatten_nil, List.append_nil, List.append_assoc]) ?_
          refine V_cVv (C := (RX1, TX1, 7)) (ci := 1) (ws' := ((wC g c_a l_a c_lo ((sendS l_pl l_hm l_kd l_nf i (l_wk i) ((marS l_pl l_hm l_wk l_kd l_nf x (c_sk, c_db, c_vi, c_wy) i).1) ((marS l_pl l_hm l_wk l_kd l_nf x (c_sk, c_db, c_vi, c_wy) i).2.1)).1) ((sendS l_pl l_hm l_kd l_nf i (l_wk i) ((marS l_pl l_hm l_wk l_kd l_nf x (c_sk, c_db, c_vi, c_wy) i).1) ((marS l_pl l_hm l_wk l_kd l_nf x (c_sk, c_db, c_vi, c_wy) i).2.1)).2.1) c_yr (upd ((marS l_pl l_hm l_wk l_kd l_nf x (c_sk, c_db, c_vi, c_wy) i).2.2.1) i (sendS l_pl l_hm l_kd l_nf i (l_wk i) ((marS l_pl l_hm l_wk l_kd l_nf x (c_sk, c_db, c_vi, c_wy) i).1) ((marS l_pl l_hm l_wk l_kd l_nf x (c_sk, c_db, c_vi, c_wy) i).2.1)).2.2.1) (upd ((marS l_pl l_hm l_wk l_kd l_nf x (c_sk, c_db, c_vi, c_wy) i).2.2.2) i (sendS l_pl l_hm l_kd l_nf i (l_wk i) ((marS l_pl l_hm l_wk l_kd l_nf x (c_sk, c_db, c_vi, c_wy) i).1) ((marS l_pl l_hm l_wk l_kd l_nf x (c_sk, c_db, c_vi, c_wy) i).2.1)).2.2.2)) ++ (wL g l_a l_nf l_ne l_pl l_yl l_nd l_hm l_wk l_kd)) ++ ([] : va_W)) (List.range _) 2 X (c_X1_sendOut g l c_a c_lo ((marS l_pl l_hm l_wk l_kd l_nf x (c_sk, c_db, c_vi, c_wy) i).1) ((marS l_pl l_hm l_wk l_kd l_nf x (c_sk, c_db, c_vi, c_wy) i).2.1) c_yr ((marS l_pl l_hm l_wk l_kd l_nf x (c_sk, c_db, c_vi, c_wy) i).2.2.1) ((marS l_pl l_hm l_wk l_kd l_nf x (c_sk, c_db, c_vi, c_wy) i).2.2.2) l_a l_nf l_ne l_pl l_yl l_nd l_hm l_wk l_kd  i (l_wk i) (by omega) (by omega)) k_RX1_81 hy_X1_sendOut (by decide) (range_at _ _) (range_nd _) 0 rfl rfl nX1_callOut_33 rfl rfl (Nat.le_of_ble_eq_true rfl) (wput_range _ _ _ (by simp only [List.length_append, wC_len, wL_len])) ?_
          refine V_blk (ws' := (wC g c_a l_a c_lo ((sendS l_pl l_hm l_kd l_nf i (l_wk i) ((marS l_pl l_hm l_wk l_kd l_nf x (c_sk, c_db, c_vi, c_wy) i).1) ((marS l_pl l_hm l_wk l_kd l_nf x (c_sk, c_db, c_vi, c_wy) i).2.1)).1) ((sendS l_pl l_hm l_kd l_nf i (l_wk i) ((marS l_pl l_hm l_wk l_kd l_nf x (c_sk, c_db, c_vi, c_wy) i).1) ((marS l_pl l_hm l_wk l_kd l_nf x (c_sk, c_db, c_vi, c_wy) i).2.1)).2.1) c_yr (upd ((marS l_pl l_hm l_wk l_kd l_nf x (c_sk, c_db, c_vi, c_wy) i).2.2.1) i (sendS l_pl l_hm l_kd l_nf i (l_wk i) ((marS l_pl l_hm l_wk l_kd l_nf x (c_sk, c_db, c_vi, c_wy) i).1) ((marS l_pl l_hm l_wk l_kd l_nf x (c_sk, c_db, c_vi, c_wy) i).2.1)).2.2.1) (upd ((marS l_pl l_hm l_wk l_kd l_nf x (c_sk, c_db, c_vi, c_wy) i).2.2.2) i (sendS l_pl l_hm l_kd l_nf i (l_wk i) ((marS l_pl l_hm l_wk l_kd l_nf x (c_sk, c_db, c_vi, c_wy) i).1) ((marS l_pl l_hm l_wk l_kd l_nf x (c_sk, c_db, c_vi, c_wy) i).2.1)).2.2.2)) ++ (wL g l_a l_nf l_ne l_pl l_yl l_nd l_hm l_wk l_kd)) [wC g c_a l_a c_lo ((sendS l_pl l_hm l_kd l_nf i (l_wk i) ((marS l_pl l_hm l_wk l_kd l_nf x (c_sk, c_db, c_vi, c_wy) i).1) ((marS l_pl l_hm l_wk l_kd l_nf x (c_sk, c_db, c_vi, c_wy) i).2.1)).1) ((sendS l_pl l_hm l_kd l_nf i (l_wk i) ((marS l_pl l_hm l_wk l_kd l_nf x (c_sk, c_db, c_vi, c_wy) i).1) ((marS l_pl l_hm l_wk l_kd l_nf x (c_sk, c_db, c_vi, c_wy) i).2.1)).2.1) c_yr (upd ((marS l_pl l_hm l_wk l_kd l_nf x (c_sk, c_db, c_vi, c_wy) i).2.2.1) i (sendS l_pl l_hm l_kd l_nf i (l_wk i) ((marS l_pl l_hm l_wk l_kd l_nf x (c_sk, c_db, c_vi, c_wy) i).1) ((marS l_pl l_hm l_wk l_kd l_nf x (c_sk, c_db, c_vi, c_wy) i).2.1)).2.2.1) (upd ((marS l_pl l_hm l_wk l_kd l_nf x (c_sk, c_db, c_vi, c_wy) i).2.2.2) i (sendS l_pl l_hm l_kd l_nf i (l_wk i) ((marS l_pl l_hm l_wk l_kd l_nf x (c_sk, c_db, c_vi, c_wy) i).1) ((marS l_pl l_hm l_wk l_kd l_nf x (c_sk, c_db, c_vi, c_wy) i).2.1)).2.2.2), wL g l_a l_nf l_ne l_pl l_yl l_nd l_hm l_wk l_kd] [0, 1] rfl (by simp only [List.flatten_cons, List.flatten_nil, List.append_nil, List.append_assoc]) (by show List.flatten [wC g c_a l_a c_lo ((sendS l_pl l_hm l_kd l_nf i (l_wk i) ((marS l_pl l_hm l_wk l_kd l_nf x (c_sk, c_db, c_vi, c_wy) i).1) ((marS l_pl l_hm l_wk l_kd l_nf x (c_sk, c_db, c_vi, c_wy) i).2.1)).1) ((sendS l_pl l_hm l_kd l_nf i (l_wk i) ((marS l_pl l_hm l_wk l_kd l_nf x (c_sk, c_db, c_vi, c_wy) i).1) ((marS l_pl l_hm l_wk l_kd l_nf x (c_sk, c_db, c_vi, c_wy) i).2.1)).2.1) c_yr (upd ((marS l_pl l_hm l_wk l_kd l_nf x (c_sk, c_db, c_vi, c_wy) i).2.2.1) i (sendS l_pl l_hm l_kd l_nf i (l_wk i) ((marS l_pl l_hm l_wk l_kd l_nf x (c_sk, c_db, c_vi, c_wy) i).1) ((marS l_pl l_hm l_wk l_kd l_nf x (c_sk, c_db, c_vi, c_wy) i).2.1)).2.2.1) (upd ((marS l_pl l_hm l_wk l_kd l_nf x (c_sk, c_db, c_vi, c_wy) i).2.2.2) i (sendS l_pl l_hm l_kd l_nf i (l_wk i) ((marS l_pl l_hm l_wk l_kd l_nf x (c_sk, c_db, c_vi, c_wy) i).1) ((marS l_pl l_hm l_wk l_kd l_nf x (c_sk, c_db, c_vi, c_wy) i).2.1)).2.2.2), wL g l_a l_nf l_ne l_pl l_yl l_nd l_hm l_wk l_kd] = _; simp only [List.flatten_cons, List.flatten_nil, List.append_nil, List.append_assoc]) ?_
          refine V_iinc (v := nI (i + 1)) (lv' := [(0, .ref (c_a 0)), (1, .int (nI x)), (2, .int (nI (i + 1)))]) nX1_callOut_36 rfl (nI_add i 1) (by decide) rfl ?_
          refine V_goto (tgt := 2) nX1_callOut_39 rfl ?_
          have q := ih (i + 1) (by omega) (by omega)
          rw [show marS l_pl l_hm l_wk l_kd l_nf x (c_sk, c_db, c_vi, c_wy) (i + 1) = _ from if_pos h19] at q
          exact q
  exact L2 _ 0 (Nat.lt_succ_self _) (by omega)

set_option maxHeartbeats 4000000 in
set_option maxRecDepth 100000 in
theorem c_X1_reap (g : Gx) (l : Launch) (c_a : Nat → Nat) (c_lo : Nat → Int32) (c_sk : Nat → Int32) (c_db : Nat → Int32) (c_yr : Int32) (c_vi : Nat → Int32) (c_wy : Nat → Int32) (l_a : Nat → Nat) (l_nf : Nat) (l_ne : Nat) (l_pl : Nat → Int32) (l_yl : Nat → Int32) (l_nd : Nat → Int32) (l_hm : Nat → Int32) (l_wk : Nat → Int32) (l_kd : Nat → Int32)   (hnf : l_nf ≤ 4) : Cd g l yX1_reap mX1_reap ({ frames := 1, cells := 0, slots := 0, locals := 24 } : Room) [.ref (c_a 0)] ((wC g c_a l_a c_lo c_sk c_db c_yr c_vi c_wy) ++ (wL g l_a l_nf l_ne l_pl l_yl l_nd l_hm l_wk l_kd)) none ((wC g c_a l_a ((reapS l_yl l_nd c_lo c_sk l_nf).1) ((reapS l_yl l_nd c_lo c_sk l_nf).2) c_db (c_yr + nI 1) c_vi c_wy) ++ (wL g l_a l_nf l_ne l_pl l_yl l_nd l_hm l_wk l_kd)) := by
  refine Ct.of (lv := [(0, .ref (c_a 0))]) ⟨by decide +kernel, rfl, Nat.le_of_ble_eq_true rfl⟩ rfl (fun E A sz Q X hQ => ?_)
  refine V_iconst (v := (nI 0)) nX1_reap_0 rfl ?_
  refine V_istore_n (lv' := [(0, .ref (c_a 0)), (1, .int (nI 0))]) nX1_reap_1 (by decide) rfl ?_
  have L2 : ∀ (n : Nat) (i : Nat), l_nf - i < n → i ≤ l_nf → V g E mX1_reap A Q 0 0 ((wC g c_a l_a ((reapS l_yl l_nd c_lo c_sk i).1) ((reapS l_yl l_nd c_lo c_sk i).2) c_db c_yr c_vi c_wy) ++ (wL g l_a l_nf l_ne l_pl l_yl l_nd l_hm l_wk l_kd)) 2 [(0, .ref (c_a 0)), (1, .int (nI i))] [] := by
    intro n
    induction n with
    | zero => intro i hm; exact absurd hm (Nat.not_lt_zero _)
    | succ n ih =>
      intro i hm hi
      refine V_iload_n nX1_reap_2 rfl ?_
      refine V_aload_n nX1_reap_3 rfl ?_
      refine V_get1 0 0 (by decide) f_RX1_9 nX1_reap_4 rfl rfl ?_
      refine V_get2 6 6 (by decide) f_RX1_35 nX1_reap_7 rfl rfl ?_
      refine V_icmp_ge_N (tgt := 61) nX1_reap_10 rfl (by omega) (by omega) (fun h10 => ?_) (fun h10 => ?_)
      · skip
        have hx_i : l_nf = i := by omega
        subst hx_i
        refine V_aload_n nX1_reap_61 rfl ?_
        refine V_dup nX1_reap_62 rfl ?_
        refine V_get1 0 4 (by decide) f_RX1_25 nX1_reap_63 rfl rfl ?_
        refine V_iconst (v := (nI 1)) nX1_reap_66 rfl ?_
        refine V_iadd (v := c_yr + (nI 1)) nX1_reap_67 rfl ?_
        refine V_put1 (ws' := (wC g c_a l_a ((reapS l_yl l_nd c_lo c_sk l_nf).1) ((reapS l_yl l_nd c_lo c_sk l_nf).2) c_db (c_yr + (nI 1)) c_vi c_wy) ++ (wL g l_a l_nf l_ne l_pl l_yl l_nd l_hm l_wk l_kd)) 0 4 (by decide) f_RX1_25 rfl rfl rfl rfl nX1_reap_68 rfl (Nat.le_of_ble_eq_true rfl) rfl ?_
        exact R_v rfl X hQ nX1_reap_71 (by simp only [List.map_append, wC_fst, wL_fst]) (⟨rfl, rfl⟩)
      · skip
        refine V_aload_n nX1_reap_13 rfl ?_
        refine V_iload_n nX1_reap_14 rfl ?_
        refine V_blk (ws' := ((wC g c_a l_a ((reapS l_yl l_nd c_lo c_sk i).1) ((reapS l_yl l_nd c_lo c_sk i).2) c_db c_yr c_vi c_wy) ++ (wL g l_a l_nf l_ne l_pl l_yl l_nd l_hm l_wk l_kd)) ++ ([] : va_W)) [wC g c_a l_a ((reapS l_yl l_nd c_lo c_sk i).1) ((reapS l_yl l_nd c_lo c_sk i).2) c_db c_yr c_vi c_wy, wL g l_a l_nf l_ne l_pl l_yl l_nd l_hm l_wk l_kd] [0, 1] rfl (by simp only [List.flatten_cons, List.flatten_nil, List.append_nil, List.append_assoc]) (by show List.flatten [wC g c_a l_a ((reapS l_yl l_nd c_lo c_sk i).1) ((reapS l_yl l_nd c_lo c_sk i).2) c_db c_yr c_vi c_wy, wL g l_a l_nf l_ne l_pl l_yl l_nd l_hm l_wk l_kd] = _; simp only [List.flatten_cons, List.flatten_nil, List.append_nil, List.append_assoc]) ?_
        refine V_cVi (C := (RX1, TX1, 7)) (ci := 1) (ws' := ((wC g c_a l_a ((reapS l_yl l_nd c_lo c_sk i).1) ((reapS l_yl l_nd c_lo c_sk i).2) c_db c_yr c_vi c_wy) ++ (wL g l_a l_nf l_ne l_pl l_yl l_nd l_hm l_wk l_kd)) ++ ([] : va_W)) (List.range _) 1 X (c_X1_isSown g l c_a ((reapS l_yl l_nd c_lo c_sk i).1) ((reapS l_yl l_nd c_lo c_sk i).2) c_db c_yr c_vi c_wy l_a l_nf l_ne l_pl l_yl l_nd l_hm l_wk l_kd  i (by omega)) k_RX1_63 hy_X1_isSown (by decide) (range_at _ _) (range_nd _) 0 rfl rfl nX1_reap_15 rfl rfl (Nat.le_of_ble_eq_true rfl) (wput_range _ _ _ (by simp only [List.length_append, wC_len, wL_len])) ?_
        refine V_blk (ws' := (wC g c_a l_a ((reapS l_yl l_nd c_lo c_sk i).1) ((reapS l_yl l_nd c_lo c_sk i).2) c_db c_yr c_vi c_wy) ++ (wL g l_a l_nf l_ne l_pl l_yl l_nd l_hm l_wk l_kd)) [wC g c_a l_a ((reapS l_yl l_nd c_lo c_sk i).1) ((reapS l_yl l_nd c_lo c_sk i).2) c_db c_yr c_vi c_wy, wL g l_a l_nf l_ne l_pl l_yl l_nd l_hm l_wk l_kd] [0, 1] rfl (by simp only [List.flatten_cons, List.flatten_nil, List.append_nil, List.append_assoc]) (by show List.flatten [wC g c_a l_a ((reapS l_yl l_nd c_lo c_sk i).1) ((reapS l_yl l_nd c_lo c_sk i).2) c_db c_yr c_vi c_wy, wL g l_a l_nf l_ne l_pl l_yl l_nd l_hm l_wk l_kd] = _; simp only [List.flatten_cons, List.flatten_nil, List.append_nil, List.append_assoc]) ?_
        refine V_if_eq_b (tgt := 48) nX1_reap_18 rfl (fun h18 => ?_) (fun h18 => ?_)
        · skip
          refine V_aload_n nX1_reap_48 rfl ?_
          refine V_get1 0 2 (by decide) f_RX1_19 nX1_reap_49 rfl rfl ?_
          refine V_iload_n nX1_reap_52 rfl ?_
          refine V_iconst (v := (nI 0)) nX1_reap_53 rfl ?_
          refine V_iast (ws' := (wC g c_a l_a ((reapS l_yl l_nd c_lo c_sk i).1) (upd ((reapS l_yl l_nd c_lo c_sk i).2) i (nI 0)) c_db c_yr c_vi c_wy) ++ (wL g l_a l_nf l_ne l_pl l_yl l_nd l_hm l_wk l_kd)) 2 nX1_reap_54 rfl (by omega) (by decide) rfl ?_
          refine V_iinc (v := nI (i + 1)) (lv' := [(0, .ref (c_a 0)), (1, .int (nI (i + 1)))]) nX1_reap_55 rfl (nI_add i 1) (by decide) rfl ?_
          refine V_goto (tgt := 2) nX1_reap_58 rfl ?_
          have q := ih (i + 1) (by omega) (by omega)
          rw [show (reapS l_yl l_nd c_lo c_sk (i + 1)).1 = _ from if_neg (by rw [h18]; decide)] at q
          exact q
        · skip
          refine V_aload_n nX1_reap_21 rfl ?_
          refine V_get1 0 1 (by decide) f_RX1_15 nX1_reap_22 rfl rfl ?_
          refine V_iload_n nX1_reap_25 rfl ?_
          refine V_bipush (v := (nI 99)) nX1_reap_26 (by decide) ?_
          refine V_aload_n nX1_reap_28 rfl ?_
          refine V_get1 0 1 (by decide) f_RX1_15 nX1_reap_29 rfl rfl ?_
          refine V_iload_n nX1_reap_32 rfl ?_
          refine V_iald 1 nX1_reap_33 rfl (by omega) (by decide) rfl ?_
          refine V_aload_n nX1_reap_34 rfl ?_
          refine V_get1 0 0 (by decide) f_RX1_9 nX1_reap_35 rfl rfl ?_
          refine V_get2 6 1 (by decide) f_RX1_40 nX1_reap_38 rfl rfl ?_
          refine V_iload_n nX1_reap_41 rfl ?_
          refine V_iald 8 nX1_reap_42 rfl (by omega) (by decide) rfl ?_
          refine V_iadd (v := (((reapS l_yl l_nd c_lo c_sk i).1) i) + (l_yl i)) nX1_reap_43 rfl ?_
          refine V_mmin (v := capI ((((reapS l_yl l_nd c_lo c_sk i).1) i) + (l_yl i))) X k_RX1_73 ⟨Nat.le_of_ble_eq_true rfl, Nat.le_of_ble_eq_true rfl, Nat.le_of_ble_eq_true rfl, Nat.le_of_ble_eq_true rfl⟩ nX1_reap_44 (rfl) ?_
          refine V_iast (ws' := (wC g c_a l_a (upd ((reapS l_yl l_nd c_lo c_sk i).1) i (capI ((((reapS l_yl l_nd c_lo c_sk i).1) i) + (l_yl i)))) ((reapS l_yl l_nd c_lo c_sk i).2) c_db c_yr c_vi c_wy) ++ (wL g l_a l_nf l_ne l_pl l_yl l_nd l_hm l_wk l_kd)) 1 nX1_reap_47 rfl (by omega) (by decide) rfl ?_
          refine V_aload_n nX1_reap_48 rfl ?_
          refine V_get1 0 2 (by decide) f_RX1_19 nX1_reap_49 rfl rfl ?_
          refine V_iload_n nX1_reap_52 rfl ?_
          refine V_iconst (v := (nI 0)) nX1_reap_53 rfl ?_
          refine V_iast (ws' := (wC g c_a l_a (upd ((reapS l_yl l_nd c_lo c_sk i).1) i (capI ((((reapS l_yl l_nd c_lo c_sk i).1) i) + (l_yl i)))) (upd ((reapS l_yl l_nd c_lo c_sk i).2) i (nI 0)) c_db c_yr c_vi c_wy) ++ (wL g l_a l_nf l_ne l_pl l_yl l_nd l_hm l_wk l_kd)) 2 nX1_reap_54 rfl (by omega) (by decide) rfl ?_
          refine V_iinc (v := nI (i + 1)) (lv' := [(0, .ref (c_a 0)), (1, .int (nI (i + 1)))]) nX1_reap_55 rfl (nI_add i 1) (by decide) rfl ?_
          refine V_goto (tgt := 2) nX1_reap_58 rfl ?_
          have q := ih (i + 1) (by omega) (by omega)
          rw [show (reapS l_yl l_nd c_lo c_sk (i + 1)).1 = _ from if_pos h18] at q
          exact q
  exact L2 _ 0 (Nat.lt_succ_self _) (by omega)

set_option maxHeartbeats 4000000 in
set_option maxRecDepth 100000 in
theorem c_X1_beginAnew (g : Gx) (l : Launch) (c_a : Nat → Nat) (c_lo : Nat → Int32) (c_sk : Nat → Int32) (c_db : Nat → Int32) (c_yr : Int32) (c_vi : Nat → Int32) (c_wy : Nat → Int32) (l_a : Nat → Nat) (l_nf : Nat) (l_ne : Nat) (l_pl : Nat → Int32) (l_yl : Nat → Int32) (l_nd : Nat → Int32) (l_hm : Nat → Int32) (l_wk : Nat → Int32) (l_kd : Nat → Int32)   (hnf : l_nf ≤ 4) : Cd g l yX1_beginAnew mX1_beginAnew ({ frames := 0, cells := 0, slots := 0, locals := 0 } : Room) [.ref (c_a 0)] ((wC g c_a l_a c_lo c_sk c_db c_yr c_vi c_wy) ++ (wL g l_a l_nf l_ne l_pl l_yl l_nd l_hm l_wk l_kd)) none ((wC g c_a l_a (fun j => if (decide (j < l_nf)) = true then l_yl j else nI 0) (fun _ => nI 0) (fun _ => nI 0) (nI 0) c_vi c_wy) ++ (wL g l_a l_nf l_ne l_pl l_yl l_nd l_hm l_wk l_kd)) := by
  refine Ct.of (lv := [(0, .ref (c_a 0))]) ⟨by decide +kernel, rfl, Nat.le_of_ble_eq_true rfl⟩ rfl (fun E A sz Q X hQ => ?_)
  refine V_iconst (v := (nI 0)) nX1_beginAnew_0 rfl ?_
  refine V_istore_n (lv' := [(0, .ref (c_a 0)), (1, .int (nI 0))]) nX1_beginAnew_1 (by decide) rfl ?_
  have L2 : ∀ (n : Nat) (i : Nat), 4 - i < n → i ≤ 4 → V g E mX1_beginAnew A Q 0 0 ((wC g c_a l_a (fillI (fun j => if (decide (j < l_nf)) = true then l_yl j else nI 0) c_lo i) (fillI (fun _ => nI 0) c_sk i) c_db c_yr c_vi c_wy) ++ (wL g l_a l_nf l_ne l_pl l_yl l_nd l_hm l_wk l_kd)) 2 [(0, .ref (c_a 0)), (1, .int (nI i))] [] := by
    intro n
    induction n with
    | zero => intro i hm; exact absurd hm (Nat.not_lt_zero _)
    | succ n ih =>
      intro i hm hi
      refine V_iload_n nX1_beginAnew_2 rfl ?_
      refine V_iconst (v := (nI 4)) nX1_beginAnew_3 rfl ?_
      refine V_icmp_ge_N (tgt := 50) nX1_beginAnew_4 rfl (by omega) (by omega) (fun h4 => ?_) (fun h4 => ?_)
      · skip
        have hx_i : 4 = i := by omega
        subst hx_i
        refine V_iconst (v := (nI 0)) nX1_beginAnew_50 rfl ?_
        refine V_istore_n (lv' := [(0, .ref (c_a 0)), (1, .int (nI 0))]) nX1_beginAnew_51 (by decide) rfl ?_
        have L52 : ∀ (n : Nat) (i : Nat), 20 - i < n → i ≤ 20 → V g E mX1_beginAnew A Q 0 0 ((wC g c_a l_a (fillI (fun j => if (decide (j < l_nf)) = true then l_yl j else nI 0) c_lo 4) (fillI (fun _ => nI 0) c_sk 4) (fillI (fun _ => nI 0) c_db i) c_yr c_vi c_wy) ++ (wL g l_a l_nf l_ne l_pl l_yl l_nd l_hm l_wk l_kd)) 52 [(0, .ref (c_a 0)), (1, .int (nI i))] [] := by
          intro n
          induction n with
          | zero => intro i hm; exact absurd hm (Nat.not_lt_zero _)
          | succ n ih52 =>
            intro i hm hi
            refine V_iload_n nX1_beginAnew_52 rfl ?_
            refine V_bipush (v := (nI 20)) nX1_beginAnew_53 (by decide) ?_
            refine V_icmp_ge_N (tgt := 71) nX1_beginAnew_55 rfl (by omega) (by omega) (fun h55 => ?_) (fun h55 => ?_)
            · skip
              have hx_i : 20 = i := by omega
              subst hx_i
              refine V_aload_n nX1_beginAnew_71 rfl ?_
              refine V_iconst (v := (nI 0)) nX1_beginAnew_72 rfl ?_
              refine V_put1 (ws' := (wC g c_a l_a (fillI (fun j => if (decide (j < l_nf)) = true then l_yl j else nI 0) c_lo 4) (fillI (fun _ => nI 0) c_sk 4) (fillI (fun _ => nI 0) c_db 20) (nI 0) c_vi c_wy) ++ (wL g l_a l_nf l_ne l_pl l_yl l_nd l_hm l_wk l_kd)) 0 4 (by decide) f_RX1_25 rfl rfl rfl rfl nX1_beginAnew_73 rfl (Nat.le_of_ble_eq_true rfl) rfl ?_
              refine V_arr (f' := (fun j => if (decide (j < l_nf)) = true then l_yl j else nI 0)) (ws' := (wC g c_a l_a (fun j => if (decide (j < l_nf)) = true then l_yl j else nI 0) (fillI (fun _ => nI 0) c_sk 4) (fillI (fun _ => nI 0) c_db 20) (nI 0) c_vi c_wy) ++ (wL g l_a l_nf l_ne l_pl l_yl l_nd l_hm l_wk l_kd)) 1 rfl (fun j hj => fillI_lt _ _ _ j hj) rfl ?_
              refine V_arr (f' := (fun _ => nI 0)) (ws' := (wC g c_a l_a (fun j => if (decide (j < l_nf)) = true then l_yl j else nI 0) (fun _ => nI 0) (fillI (fun _ => nI 0) c_db 20) (nI 0) c_vi c_wy) ++ (wL g l_a l_nf l_ne l_pl l_yl l_nd l_hm l_wk l_kd)) 2 rfl (fun j hj => fillI_lt _ _ _ j hj) rfl ?_
              refine V_arr (f' := (fun _ => nI 0)) (ws' := (wC g c_a l_a (fun j => if (decide (j < l_nf)) = true then l_yl j else nI 0) (fun _ => nI 0) (fun _ => nI 0) (nI 0) c_vi c_wy) ++ (wL g l_a l_nf l_ne l_pl l_yl l_nd l_hm l_wk l_kd)) 3 rfl (fun j hj => fillI_lt _ _ _ j hj) rfl ?_
              exact R_v rfl X hQ nX1_beginAnew_76 (by simp only [List.map_append, wC_fst, wL_fst]) (⟨rfl, rfl⟩)
            · skip
              refine V_aload_n nX1_beginAnew_58 rfl ?_
              refine V_get1 0 3 (by decide) f_RX1_22 nX1_beginAnew_59 rfl rfl ?_
              refine V_iload_n nX1_beginAnew_62 rfl ?_
              refine V_iconst (v := (nI 0)) nX1_beginAnew_63 rfl ?_
              refine V_iast (ws' := (wC g c_a l_a (fillI (fun j => if (decide (j < l_nf)) = true then l_yl j else nI 0) c_lo 4) (fillI (fun _ => nI 0) c_sk 4) (upd (fillI (fun _ => nI 0) c_db i) i (nI 0)) c_yr c_vi c_wy) ++ (wL g l_a l_nf l_ne l_pl l_yl l_nd l_hm l_wk l_kd)) 3 nX1_beginAnew_64 rfl (by omega) (by decide) rfl ?_
              refine V_iinc (v := nI (i + 1)) (lv' := [(0, .ref (c_a 0)), (1, .int (nI (i + 1)))]) nX1_beginAnew_65 rfl (nI_add i 1) (by decide) rfl ?_
              refine V_goto (tgt := 52) nX1_beginAnew_68 rfl ?_
              exact ih52 (i + 1) (by omega) (by omega)
        exact L52 _ 0 (Nat.lt_succ_self _) (by omega)
      · skip
        refine V_aload_n nX1_beginAnew_7 rfl ?_
        refine V_get1 0 1 (by decide) f_RX1_15 nX1_beginAnew_8 rfl rfl ?_
        refine V_iload_n nX1_beginAnew_11 rfl ?_
        refine V_iload_n nX1_beginAnew_12 rfl ?_
        refine V_aload_n nX1_beginAnew_13 rfl ?_
        refine V_get1 0 0 (by decide) f_RX1_9 nX1_beginAnew_14 rfl rfl ?_
        refine V_get2 6 6 (by decide) f_RX1_35 nX1_beginAnew_17 rfl rfl ?_
        refine V_join (b := decide (i < l_nf)) (x := (l_yl i)) (y := (nI 0)) (pj := 36) (st := [.int (nI i), .ref (c_a 1)]) (fun J1 J2 => ?_) ?_
        · skip
          refine V_icmp_ge_N (tgt := 35) nX1_beginAnew_20 rfl (by omega) (by omega) (fun h20 => ?_) (fun h20 => ?_)
          · skip
            refine V_iconst (v := (nI 0)) nX1_beginAnew_35 rfl ?_
            exact J2 (by simp [h20])
          · skip
            refine V_aload_n nX1_beginAnew_23 rfl ?_
            refine V_get1 0 0 (by decide) f_RX1_9 nX1_beginAnew_24 rfl rfl ?_
            refine V_get2 6 1 (by decide) f_RX1_40 nX1_beginAnew_27 rfl rfl ?_
            refine V_iload_n nX1_beginAnew_30 rfl ?_
            refine V_iald 8 nX1_beginAnew_31 rfl (by omega) (by decide) rfl ?_
            refine V_goto (tgt := 36) nX1_beginAnew_32 rfl ?_
            exact J1 (by simp [h20])
        refine V_iast (ws' := (wC g c_a l_a (upd (fillI (fun j => if (decide (j < l_nf)) = true then l_yl j else nI 0) c_lo i) i (if (decide (i < l_nf)) = true then l_yl i else nI 0)) (fillI (fun _ => nI 0) c_sk i) c_db c_yr c_vi c_wy) ++ (wL g l_a l_nf l_ne l_pl l_yl l_nd l_hm l_wk l_kd)) 1 nX1_beginAnew_36 rfl (by omega) (by decide) rfl ?_
        refine V_aload_n nX1_beginAnew_37 rfl ?_
        refine V_get1 0 2 (by decide) f_RX1_19 nX1_beginAnew_38 rfl rfl ?_
        refine V_iload_n nX1_beginAnew_41 rfl ?_
        refine V_iconst (v := (nI 0)) nX1_beginAnew_42 rfl ?_
        refine V_iast (ws' := (wC g c_a l_a (upd (fillI (fun j => if (decide (j < l_nf)) = true then l_yl j else nI 0) c_lo i) i (if (decide (i < l_nf)) = true then l_yl i else nI 0)) (upd (fillI (fun _ => nI 0) c_sk i) i (nI 0)) c_db c_yr c_vi c_wy) ++ (wL g l_a l_nf l_ne l_pl l_yl l_nd l_hm l_wk l_kd)) 2 nX1_beginAnew_43 rfl (by omega) (by decide) rfl ?_
        refine V_iinc (v := nI (i + 1)) (lv' := [(0, .ref (c_a 0)), (1, .int (nI (i + 1)))]) nX1_beginAnew_44 rfl (nI_add i 1) (by decide) rfl ?_
        refine V_goto (tgt := 2) nX1_beginAnew_47 rfl ?_
        exact ih (i + 1) (by omega) (by omega)
  exact L2 _ 0 (Nat.lt_succ_self _) (by omega)

set_option maxHeartbeats 4000000 in
set_option maxRecDepth 100000 in
theorem c_X1_copyFrom (g : Gx) (l : Launch) (c_a : Nat → Nat) (c_la : Nat → Nat) (c_lo : Nat → Int32) (c_sk : Nat → Int32) (c_db : Nat → Int32) (c_yr : Int32) (c_vi : Nat → Int32) (c_wy : Nat → Int32) (d_a : Nat → Nat) (d_la : Nat → Nat) (d_lo : Nat → Int32) (d_sk : Nat → Int32) (d_db : Nat → Int32) (d_yr : Int32) (d_vi : Nat → Int32) (d_wy : Nat → Int32)    : Cd g l yX1_copyFrom mX1_copyFrom ({ frames := 1, cells := 0, slots := 0, locals := 26 } : Room) [.ref (c_a 0), .ref (d_a 0)] ((wC g c_a c_la c_lo c_sk c_db c_yr c_vi c_wy) ++ (wC g d_a d_la d_lo d_sk d_db d_yr d_vi d_wy)) none ((wC g c_a c_la d_lo d_sk d_db d_yr c_vi c_wy) ++ (wC g d_a d_la d_lo d_sk d_db d_yr d_vi d_wy)) := by
  refine Ct.of (lv := [(0, .ref (c_a 0)), (1, .ref (d_a 0))]) ⟨by decide +kernel, rfl, Nat.le_of_ble_eq_true rfl⟩ rfl (fun E A sz Q X hQ => ?_)
  refine V_aload_n nX1_copyFrom_0 rfl ?_
  refine V_get1 6 1 (by decide) f_RX1_15 nX1_copyFrom_1 rfl rfl ?_
  refine V_iconst (v := (nI 0)) nX1_copyFrom_4 rfl ?_
  refine V_aload_n nX1_copyFrom_5 rfl ?_
  refine V_get1 0 1 (by decide) f_RX1_15 nX1_copyFrom_6 rfl rfl ?_
  refine V_iconst (v := (nI 0)) nX1_copyFrom_9 rfl ?_
  refine V_iconst (v := (nI 4)) nX1_copyFrom_10 rfl ?_
  refine V_copy (ws' := (wC g c_a c_la d_lo c_sk c_db c_yr c_vi c_wy) ++ (wC g d_a d_la d_lo d_sk d_db d_yr d_vi d_wy)) 7 1 X k_RX1_43 ⟨Nat.le_of_ble_eq_true rfl, Nat.le_of_ble_eq_true rfl⟩ nX1_copyFrom_11 rfl rfl (by decide) rfl ?_
  refine V_aload_n nX1_copyFrom_14 rfl ?_
  refine V_get1 6 2 (by decide) f_RX1_19 nX1_copyFrom_15 rfl rfl ?_
  refine V_iconst (v := (nI 0)) nX1_copyFrom_18 rfl ?_
  refine V_aload_n nX1_copyFrom_19 rfl ?_
  refine V_get1 0 2 (by decide) f_RX1_19 nX1_copyFrom_20 rfl rfl ?_
  refine V_iconst (v := (nI 0)) nX1_copyFrom_23 rfl ?_
  refine V_iconst (v := (nI 4)) nX1_copyFrom_24 rfl ?_
  refine V_copy (ws' := (wC g c_a c_la d_lo d_sk c_db c_yr c_vi c_wy) ++ (wC g d_a d_la d_lo d_sk d_db d_yr d_vi d_wy)) 8 2 X k_RX1_43 ⟨Nat.le_of_ble_eq_true rfl, Nat.le_of_ble_eq_true rfl⟩ nX1_copyFrom_25 rfl rfl (by decide) rfl ?_
  refine V_aload_n nX1_copyFrom_28 rfl ?_
  refine V_get1 6 3 (by decide) f_RX1_22 nX1_copyFrom_29 rfl rfl ?_
  refine V_iconst (v := (nI 0)) nX1_copyFrom_32 rfl ?_
  refine V_aload_n nX1_copyFrom_33 rfl ?_
  refine V_get1 0 3 (by decide) f_RX1_22 nX1_copyFrom_34 rfl rfl ?_
  refine V_iconst (v := (nI 0)) nX1_copyFrom_37 rfl ?_
  refine V_bipush (v := (nI 20)) nX1_copyFrom_38 (by decide) ?_
  refine V_copy (ws' := (wC g c_a c_la d_lo d_sk d_db c_yr c_vi c_wy) ++ (wC g d_a d_la d_lo d_sk d_db d_yr d_vi d_wy)) 9 3 X k_RX1_43 ⟨Nat.le_of_ble_eq_true rfl, Nat.le_of_ble_eq_true rfl⟩ nX1_copyFrom_40 rfl rfl (by decide) rfl ?_
  refine V_aload_n nX1_copyFrom_43 rfl ?_
  refine V_aload_n nX1_copyFrom_44 rfl ?_
  refine V_get1 6 4 (by decide) f_RX1_25 nX1_copyFrom_45 rfl rfl ?_
  refine V_put1 (ws' := (wC g c_a c_la d_lo d_sk d_db d_yr c_vi c_wy) ++ (wC g d_a d_la d_lo d_sk d_db d_yr d_vi d_wy)) 0 4 (by decide) f_RX1_25 rfl rfl rfl rfl nX1_copyFrom_48 rfl (Nat.le_of_ble_eq_true rfl) rfl ?_
  exact R_v rfl X hQ nX1_copyFrom_51 (by simp only [List.map_append, wC_fst]) (⟨rfl, rfl⟩)
