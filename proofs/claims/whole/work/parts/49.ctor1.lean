/-! constructors that only make rows -/
set_option maxHeartbeats 1000000 in
set_option maxRecDepth 100000 in
theorem c_X3_init (g : Gx) (l : Launch) (b : Nat) : Cn g l yX3_init mX3_init ({ frames := 1, cells := 1, slots := 48, locals := 12 } : Room) [.ref b] [(b, .inr (3, [.null, .int 0]))] 1 48 (fun w' => ∃ a : Nat → Nat, a 0 = b ∧ w' = wT g a 0 (fun _ => nI 0)) := by
  refine Cn.of (lv := [(0, .ref b)]) ⟨by decide +kernel, rfl, Nat.le_of_ble_eq_true rfl⟩ rfl rfl (fun E A sz Q X I hQ => ?_)
  refine V_aload_n nX3_init_0 rfl ?_
  refine V_obj X ml_RX3_3 (by decide) nX3_init_1 ?_
  refine V_aload_n nX3_init_4 rfl ?_
  refine V_bipush (v := nI 48) nX3_init_5 (by decide) ?_
  refine V_newi X (by decide) (by decide) nX3_init_7 (fun q1 => ?_)
  refine V_putF (C := RX3) (T := TX3) (N := 2) (ci := 3) (ws' := [(b, .inr (3, [.ref q1, .int 0])), (q1, .inl (g.2.1, 48, .inl (fun _ => nI 0)))]) 0 0 I iX3 tyX3 tyX3_ok nmX3 rfl (by decide) f_RX3_9 rfl rfl rfl rfl rfl nX3_init_9 rfl (Nat.le_of_ble_eq_true rfl) rfl ?_
  refine V_aload_n nX3_init_12 rfl ?_
  refine V_iconst (v := nI 0) nX3_init_13 rfl ?_
  refine V_put3 (ws' := [(b, .inr (3, [.ref q1, .int (nI 0)])), (q1, .inl (g.2.1, 48, .inl (fun _ => nI 0)))]) 0 1 (by decide) f_RX3_15 rfl rfl rfl rfl nX3_init_14 rfl (Nat.le_of_ble_eq_true rfl) rfl ?_
  exact V_vretN rfl nX3_init_17 ⟨fun i => [b, q1].getD i 0, rfl, rfl⟩ X hQ
set_option maxHeartbeats 1000000 in
set_option maxRecDepth 100000 in
theorem c_X4_init (g : Gx) (l : Launch) (b : Nat) : Cn g l yX4_init mX4_init ({ frames := 1, cells := 2, slots := 12, locals := 12 } : Room) [.ref b] [(b, .inr (4, [.null, .null, .int 0]))] 2 12 (fun w' => ∃ a : Nat → Nat, a 0 = b ∧ w' = wD g a (fun _ => nI 0) (fun _ => nI 0) 0) := by
  refine Cn.of (lv := [(0, .ref b)]) ⟨by decide +kernel, rfl, Nat.le_of_ble_eq_true rfl⟩ rfl rfl (fun E A sz Q X I hQ => ?_)
  refine V_aload_n nX4_init_0 rfl ?_
  refine V_obj X ml_RX4_3 (by decide) nX4_init_1 ?_
  refine V_aload_n nX4_init_4 rfl ?_
  refine V_bipush (v := nI 6) nX4_init_5 (by decide) ?_
  refine V_newi X (by decide) (by decide) nX4_init_7 (fun q1 => ?_)
  refine V_putF (C := RX4) (T := TX4) (N := 3) (ci := 4) (ws' := [(b, .inr (4, [.ref q1, .null, .int 0])), (q1, .inl (g.2.1, 6, .inl (fun _ => nI 0)))]) 0 0 I iX4 tyX4 tyX4_ok nmX4 rfl (by decide) f_RX4_9 rfl rfl rfl rfl rfl nX4_init_9 rfl (Nat.le_of_ble_eq_true rfl) rfl ?_
  refine V_aload_n nX4_init_12 rfl ?_
  refine V_bipush (v := nI 6) nX4_init_13 (by decide) ?_
  refine V_newz X (by decide) (by decide) nX4_init_15 (fun q2 => ?_)
  refine V_putF (C := RX4) (T := TX4) (N := 3) (ci := 4) (ws' := [(b, .inr (4, [.ref q1, .ref q2, .int 0])), (q1, .inl (g.2.1, 6, .inl (fun _ => nI 0))), (q2, .inl (g.2.2.1, 6, .inl (fun _ => nI 0)))]) 0 1 I iX4 tyX4 tyX4_ok nmX4 rfl (by decide) f_RX4_15 rfl rfl rfl rfl rfl nX4_init_17 rfl (Nat.le_of_ble_eq_true rfl) rfl ?_
  refine V_aload_n nX4_init_20 rfl ?_
  refine V_iconst (v := nI 0) nX4_init_21 rfl ?_
  refine V_put4 (ws' := [(b, .inr (4, [.ref q1, .ref q2, .int (nI 0)])), (q1, .inl (g.2.1, 6, .inl (fun _ => nI 0))), (q2, .inl (g.2.2.1, 6, .inl (fun _ => nI 0)))]) 0 2 (by decide) f_RX4_19 rfl rfl rfl rfl nX4_init_22 rfl (Nat.le_of_ble_eq_true rfl) rfl ?_
  exact V_vretN rfl nX4_init_25 ⟨fun i => [b, q1, q2].getD i 0, rfl, rfl⟩ X hQ
set_option maxHeartbeats 1000000 in
set_option maxRecDepth 100000 in
theorem c_X2_init (g : Gx) (l : Launch) (b : Nat) : Cn g l yX2_init mX2_init ({ frames := 1, cells := 6, slots := 27, locals := 12 } : Room) [.ref b] [(b, .inr (2, [.null, .null, .null, .null, .null, .null, .int 0, .int 0]))] 6 27 (fun w' => ∃ a : Nat → Nat, a 0 = b ∧ w' = wL g a 0 0 (fun _ => nI 0) (fun _ => nI 0) (fun _ => nI 0) (fun _ => nI 0) (fun _ => nI 0) (fun _ => nI 0)) := by
  refine Cn.of (lv := [(0, .ref b)]) ⟨by decide +kernel, rfl, Nat.le_of_ble_eq_true rfl⟩ rfl rfl (fun E A sz Q X I hQ => ?_)
  refine V_aload_n nX2_init_0 rfl ?_
  refine V_obj X ml_RX2_3 (by decide) nX2_init_1 ?_
  refine V_aload_n nX2_init_4 rfl ?_
  refine V_iconst (v := nI 4) nX2_init_5 rfl ?_
  refine V_newi X (by decide) (by decide) nX2_init_6 (fun q1 => ?_)
  refine V_putF (C := RX2) (T := TX2) (N := 8) (ci := 2) (ws' := [(b, .inr (2, [.ref q1, .null, .null, .null, .null, .null, .int 0, .int 0])), (q1, .inl (g.2.1, 4, .inl (fun _ => nI 0)))]) 0 0 I iX2 tyX2 tyX2_ok nmX2 rfl (by decide) f_RX2_9 rfl rfl rfl rfl rfl nX2_init_8 rfl (Nat.le_of_ble_eq_true rfl) rfl ?_
  refine V_aload_n nX2_init_11 rfl ?_
  refine V_iconst (v := nI 4) nX2_init_12 rfl ?_
  refine V_newi X (by decide) (by decide) nX2_init_13 (fun q2 => ?_)
  refine V_putF (C := RX2) (T := TX2) (N := 8) (ci := 2) (ws' := [(b, .inr (2, [.ref q1, .ref q2, .null, .null, .null, .null, .int 0, .int 0])), (q1, .inl (g.2.1, 4, .inl (fun _ => nI 0))), (q2, .inl (g.2.1, 4, .inl (fun _ => nI 0)))]) 0 1 I iX2 tyX2 tyX2_ok nmX2 rfl (by decide) f_RX2_15 rfl rfl rfl rfl rfl nX2_init_15 rfl (Nat.le_of_ble_eq_true rfl) rfl ?_
  refine V_aload_n nX2_init_18 rfl ?_
  refine V_iconst (v := nI 4) nX2_init_19 rfl ?_
  refine V_newi X (by decide) (by decide) nX2_init_20 (fun q3 => ?_)
  refine V_putF (C := RX2) (T := TX2) (N := 8) (ci := 2) (ws' := [(b, .inr (2, [.ref q1, .ref q2, .ref q3, .null, .null, .null, .int 0, .int 0])), (q1, .inl (g.2.1, 4, .inl (fun _ => nI 0))), (q2, .inl (g.2.1, 4, .inl (fun _ => nI 0))), (q3, .inl (g.2.1, 4, .inl (fun _ => nI 0)))]) 0 2 I iX2 tyX2 tyX2_ok nmX2 rfl (by decide) f_RX2_18 rfl rfl rfl rfl rfl nX2_init_22 rfl (Nat.le_of_ble_eq_true rfl) rfl ?_
  refine V_aload_n nX2_init_25 rfl ?_
  refine V_iconst (v := nI 5) nX2_init_26 rfl ?_
  refine V_newi X (by decide) (by decide) nX2_init_27 (fun q4 => ?_)
  refine V_putF (C := RX2) (T := TX2) (N := 8) (ci := 2) (ws' := [(b, .inr (2, [.ref q1, .ref q2, .ref q3, .ref q4, .null, .null, .int 0, .int 0])), (q1, .inl (g.2.1, 4, .inl (fun _ => nI 0))), (q2, .inl (g.2.1, 4, .inl (fun _ => nI 0))), (q3, .inl (g.2.1, 4, .inl (fun _ => nI 0))), (q4, .inl (g.2.1, 5, .inl (fun _ => nI 0)))]) 0 3 I iX2 tyX2 tyX2_ok nmX2 rfl (by decide) f_RX2_21 rfl rfl rfl rfl rfl nX2_init_29 rfl (Nat.le_of_ble_eq_true rfl) rfl ?_
  refine V_aload_n nX2_init_32 rfl ?_
  refine V_iconst (v := nI 5) nX2_init_33 rfl ?_
  refine V_newi X (by decide) (by decide) nX2_init_34 (fun q5 => ?_)
  refine V_putF (C := RX2) (T := TX2) (N := 8) (ci := 2) (ws' := [(b, .inr (2, [.ref q1, .ref q2, .ref q3, .ref q4, .ref q5, .null, .int 0, .int 0])), (q1, .inl (g.2.1, 4, .inl (fun _ => nI 0))), (q2, .inl (g.2.1, 4, .inl (fun _ => nI 0))), (q3, .inl (g.2.1, 4, .inl (fun _ => nI 0))), (q4, .inl (g.2.1, 5, .inl (fun _ => nI 0))), (q5, .inl (g.2.1, 5, .inl (fun _ => nI 0)))]) 0 4 I iX2 tyX2 tyX2_ok nmX2 rfl (by decide) f_RX2_24 rfl rfl rfl rfl rfl nX2_init_36 rfl (Nat.le_of_ble_eq_true rfl) rfl ?_
  refine V_aload_n nX2_init_39 rfl ?_
  refine V_iconst (v := nI 5) nX2_init_40 rfl ?_
  refine V_newi X (by decide) (by decide) nX2_init_41 (fun q6 => ?_)
  refine V_putF (C := RX2) (T := TX2) (N := 8) (ci := 2) (ws' := [(b, .inr (2, [.ref q1, .ref q2, .ref q3, .ref q4, .ref q5, .ref q6, .int 0, .int 0])), (q1, .inl (g.2.1, 4, .inl (fun _ => nI 0))), (q2, .inl (g.2.1, 4, .inl (fun _ => nI 0))), (q3, .inl (g.2.1, 4, .inl (fun _ => nI 0))), (q4, .inl (g.2.1, 5, .inl (fun _ => nI 0))), (q5, .inl (g.2.1, 5, .inl (fun _ => nI 0))), (q6, .inl (g.2.1, 5, .inl (fun _ => nI 0)))]) 0 5 I iX2 tyX2 tyX2_ok nmX2 rfl (by decide) f_RX2_27 rfl rfl rfl rfl rfl nX2_init_43 rfl (Nat.le_of_ble_eq_true rfl) rfl ?_
  refine V_aload_n nX2_init_46 rfl ?_
  refine V_iconst (v := nI 0) nX2_init_47 rfl ?_
  refine V_put2 (ws' := [(b, .inr (2, [.ref q1, .ref q2, .ref q3, .ref q4, .ref q5, .ref q6, .int (nI 0), .int 0])), (q1, .inl (g.2.1, 4, .inl (fun _ => nI 0))), (q2, .inl (g.2.1, 4, .inl (fun _ => nI 0))), (q3, .inl (g.2.1, 4, .inl (fun _ => nI 0))), (q4, .inl (g.2.1, 5, .inl (fun _ => nI 0))), (q5, .inl (g.2.1, 5, .inl (fun _ => nI 0))), (q6, .inl (g.2.1, 5, .inl (fun _ => nI 0)))]) 0 6 (by decide) f_RX2_30 rfl rfl rfl rfl nX2_init_48 rfl (Nat.le_of_ble_eq_true rfl) rfl ?_
  refine V_aload_n nX2_init_51 rfl ?_
  refine V_iconst (v := nI 0) nX2_init_52 rfl ?_
  refine V_put2 (ws' := [(b, .inr (2, [.ref q1, .ref q2, .ref q3, .ref q4, .ref q5, .ref q6, .int (nI 0), .int (nI 0)])), (q1, .inl (g.2.1, 4, .inl (fun _ => nI 0))), (q2, .inl (g.2.1, 4, .inl (fun _ => nI 0))), (q3, .inl (g.2.1, 4, .inl (fun _ => nI 0))), (q4, .inl (g.2.1, 5, .inl (fun _ => nI 0))), (q5, .inl (g.2.1, 5, .inl (fun _ => nI 0))), (q6, .inl (g.2.1, 5, .inl (fun _ => nI 0)))]) 0 7 (by decide) f_RX2_34 rfl rfl rfl rfl nX2_init_53 rfl (Nat.le_of_ble_eq_true rfl) rfl ?_
  exact V_vretN rfl nX2_init_56 ⟨fun i => [b, q1, q2, q3, q4, q5, q6].getD i 0, rfl, rfl⟩ X hQ
def zCm : Cm := ((fun _ => nI 0), (fun _ => nI 0), (fun _ => nI 0), nI 0, (fun _ => nI 0), (fun _ => nI 0))
set_option maxHeartbeats 1000000 in
set_option maxRecDepth 100000 in
theorem c_X1_init (g : Gx) (l : Launch) (b : Nat) (la : Nat → Nat) : Cn g l yX1_init mX1_init ({ frames := 1, cells := 5, slots := 38, locals := 12 } : Room) [.ref b, .ref (la 0)] [(b, .inr (1, [.null, .null, .null, .null, .int 0, .null, .null]))] 5 38 (fun w' => ∃ a : Nat → Nat, a 0 = b ∧ w' = wCm g a la zCm) := by
  refine Cn.of (lv := [(0, .ref b), (1, .ref (la 0))]) ⟨by decide +kernel, rfl, Nat.le_of_ble_eq_true rfl⟩ rfl rfl (fun E A sz Q X I hQ => ?_)
  refine V_aload_n nX1_init_0 rfl ?_
  refine V_obj X ml_RX1_3 (by decide) nX1_init_1 ?_
  refine V_aload_n nX1_init_4 rfl ?_
  refine V_aload_n nX1_init_5 rfl ?_
  refine V_putF (C := RX1) (T := TX1) (N := 7) (ci := 1) (ws' := [(b, .inr (1, [.ref (la 0), .null, .null, .null, .int 0, .null, .null]))]) 0 0 I iX1 tyX1 tyX1_ok nmX1 rfl (by decide) f_RX1_9 rfl rfl rfl rfl rfl nX1_init_6 rfl (Nat.le_of_ble_eq_true rfl) rfl ?_
  refine V_aload_n nX1_init_9 rfl ?_
  refine V_iconst (v := nI 4) nX1_init_10 rfl ?_
  refine V_newi X (by decide) (by decide) nX1_init_11 (fun q1 => ?_)
  refine V_putF (C := RX1) (T := TX1) (N := 7) (ci := 1) (ws' := [(b, .inr (1, [.ref (la 0), .ref q1, .null, .null, .int 0, .null, .null])), (q1, .inl (g.2.1, 4, .inl (fun _ => nI 0)))]) 0 1 I iX1 tyX1 tyX1_ok nmX1 rfl (by decide) f_RX1_15 rfl rfl rfl rfl rfl nX1_init_13 rfl (Nat.le_of_ble_eq_true rfl) rfl ?_
  refine V_aload_n nX1_init_16 rfl ?_
  refine V_iconst (v := nI 4) nX1_init_17 rfl ?_
  refine V_newi X (by decide) (by decide) nX1_init_18 (fun q2 => ?_)
  refine V_putF (C := RX1) (T := TX1) (N := 7) (ci := 1) (ws' := [(b, .inr (1, [.ref (la 0), .ref q1, .ref q2, .null, .int 0, .null, .null])), (q1, .inl (g.2.1, 4, .inl (fun _ => nI 0))), (q2, .inl (g.2.1, 4, .inl (fun _ => nI 0)))]) 0 2 I iX1 tyX1 tyX1_ok nmX1 rfl (by decide) f_RX1_19 rfl rfl rfl rfl rfl nX1_init_20 rfl (Nat.le_of_ble_eq_true rfl) rfl ?_
  refine V_aload_n nX1_init_23 rfl ?_
  refine V_bipush (v := nI 20) nX1_init_24 (by decide) ?_
  refine V_newi X (by decide) (by decide) nX1_init_26 (fun q3 => ?_)
  refine V_putF (C := RX1) (T := TX1) (N := 7) (ci := 1) (ws' := [(b, .inr (1, [.ref (la 0), .ref q1, .ref q2, .ref q3, .int 0, .null, .null])), (q1, .inl (g.2.1, 4, .inl (fun _ => nI 0))), (q2, .inl (g.2.1, 4, .inl (fun _ => nI 0))), (q3, .inl (g.2.1, 20, .inl (fun _ => nI 0)))]) 0 3 I iX1 tyX1 tyX1_ok nmX1 rfl (by decide) f_RX1_22 rfl rfl rfl rfl rfl nX1_init_28 rfl (Nat.le_of_ble_eq_true rfl) rfl ?_
  refine V_aload_n nX1_init_31 rfl ?_
  refine V_iconst (v := nI 0) nX1_init_32 rfl ?_
  refine V_put1 (ws' := [(b, .inr (1, [.ref (la 0), .ref q1, .ref q2, .ref q3, .int (nI 0), .null, .null])), (q1, .inl (g.2.1, 4, .inl (fun _ => nI 0))), (q2, .inl (g.2.1, 4, .inl (fun _ => nI 0))), (q3, .inl (g.2.1, 20, .inl (fun _ => nI 0)))]) 0 4 (by decide) f_RX1_25 rfl rfl rfl rfl nX1_init_33 rfl (Nat.le_of_ble_eq_true rfl) rfl ?_
  refine V_aload_n nX1_init_36 rfl ?_
  refine V_iconst (v := nI 5) nX1_init_37 rfl ?_
  refine V_newi X (by decide) (by decide) nX1_init_38 (fun q4 => ?_)
  refine V_putF (C := RX1) (T := TX1) (N := 7) (ci := 1) (ws' := [(b, .inr (1, [.ref (la 0), .ref q1, .ref q2, .ref q3, .int (nI 0), .ref q4, .null])), (q1, .inl (g.2.1, 4, .inl (fun _ => nI 0))), (q2, .inl (g.2.1, 4, .inl (fun _ => nI 0))), (q3, .inl (g.2.1, 20, .inl (fun _ => nI 0))), (q4, .inl (g.2.1, 5, .inl (fun _ => nI 0)))]) 0 5 I iX1 tyX1 tyX1_ok nmX1 rfl (by decide) f_RX1_29 rfl rfl rfl rfl rfl nX1_init_40 rfl (Nat.le_of_ble_eq_true rfl) rfl ?_
  refine V_aload_n nX1_init_43 rfl ?_
  refine V_iconst (v := nI 5) nX1_init_44 rfl ?_
  refine V_newi X (by decide) (by decide) nX1_init_45 (fun q5 => ?_)
  refine V_putF (C := RX1) (T := TX1) (N := 7) (ci := 1) (ws' := [(b, .inr (1, [.ref (la 0), .ref q1, .ref q2, .ref q3, .int (nI 0), .ref q4, .ref q5])), (q1, .inl (g.2.1, 4, .inl (fun _ => nI 0))), (q2, .inl (g.2.1, 4, .inl (fun _ => nI 0))), (q3, .inl (g.2.1, 20, .inl (fun _ => nI 0))), (q4, .inl (g.2.1, 5, .inl (fun _ => nI 0))), (q5, .inl (g.2.1, 5, .inl (fun _ => nI 0)))]) 0 6 I iX1 tyX1 tyX1_ok nmX1 rfl (by decide) f_RX1_32 rfl rfl rfl rfl rfl nX1_init_47 rfl (Nat.le_of_ble_eq_true rfl) rfl ?_
  exact V_vretN rfl nX1_init_50 ⟨fun i => [b, q1, q2, q3, q4, q5].getD i 0, rfl, rfl⟩ X hQ
set_option maxHeartbeats 1000000 in
set_option maxRecDepth 100000 in
theorem c_X6_init (g : Gx) (l : Launch) (b : Nat) : Cn g l yX6_init mX6_init ({ frames := 1, cells := 19, slots := 683, locals := 12 } : Room) [.ref b] [(b, .inr (6, [.int 0, .null, .int 0, .int 0, .int 0, .null, .null, .null, .int 0, .null, .null, .null, .int 0, .null, .int 0, .null, .null, .null, .null, .int 0, .null, .null, .int 0, .null, .null, .long 0, .int 0, .null, .int 0, .int 0, .int 0, .int 0, .null, .null]))] 19 683 (fun w' => ∃ a : Nat → Nat, a 0 = b ∧ w' = (wO g a (nI 0) 0 0 0 0 0 0 0 0 0 (nI 0) (nI 0) (nI 0) (nI 0) (nI 0)) ++ (wI g (a 1) 48 (fun _ => nI 0)) ++ (wML g a (fun _ => nI 0) (fun _ => nI 0) (fun _ => nI 0) (fun _ => nI 0) (fun _ => nI 0) (fun _ => nI 0)) ++ (wI g (a 8) 12 (fun _ => nI 0)) ++ (wI g (a 9) 15 (fun _ => nI 0)) ++ (wI g (a 10) 29 (fun _ => nI 0)) ++ (wI g (a 11) 29 (fun _ => nI 0)) ++ (wI g (a 12) 406 (fun _ => nI 0)) ++ (wI g (a 13) 58 (fun _ => nI 0)) ++ (wZ g (a 14) 2 (fun _ => nI 0)) ++ (wI g (a 15) 6 (fun _ => nI 0)) ++ (wI g (a 16) 6 (fun _ => nI 0)) ++ (wI g (a 17) 5 (fun _ => nI 0)) ++ (wI g (a 18) 8 (fun _ => nI 0)) ++ (wI g (a 19) 32 (fun _ => nI 0))) := by
  refine Cn.of (lv := [(0, .ref b)]) ⟨by decide +kernel, rfl, Nat.le_of_ble_eq_true rfl⟩ rfl rfl (fun E A sz Q X I hQ => ?_)
  refine V_aload_n nX6_init_0 rfl ?_
  refine V_obj X ml_RX6_1 (by decide) nX6_init_1 ?_
  refine V_aload_n nX6_init_4 rfl ?_
  refine V_bipush (v := nI 48) nX6_init_5 (by decide) ?_
  refine V_newi X (by decide) (by decide) nX6_init_7 (fun q1 => ?_)
  refine V_putF (C := RX6) (T := TX6) (N := 34) (ci := 6) (ws' := [(b, .inr (6, [.int 0, .ref q1, .int 0, .int 0, .int 0, .null, .null, .null, .int 0, .null, .null, .null, .int 0, .null, .int 0, .null, .null, .null, .null, .int 0, .null, .null, .int 0, .null, .null, .long 0, .int 0, .null, .int 0, .int 0, .int 0, .int 0, .null, .null])), (q1, .inl (g.2.1, 48, .inl (fun _ => nI 0)))]) 0 1 I iX6 tyX6 tyX6_ok nmX6 rfl (by decide) f_RX6_7 rfl rfl rfl rfl rfl nX6_init_9 rfl (Nat.le_of_ble_eq_true rfl) rfl ?_
  refine V_aload_n nX6_init_12 rfl ?_
  refine V_iconst (v := nI 4) nX6_init_13 rfl ?_
  refine V_newi X (by decide) (by decide) nX6_init_14 (fun q2 => ?_)
  refine V_putF (C := RX6) (T := TX6) (N := 34) (ci := 6) (ws' := [(b, .inr (6, [.int 0, .ref q1, .int 0, .int 0, .int 0, .ref q2, .null, .null, .int 0, .null, .null, .null, .int 0, .null, .int 0, .null, .null, .null, .null, .int 0, .null, .null, .int 0, .null, .null, .long 0, .int 0, .null, .int 0, .int 0, .int 0, .int 0, .null, .null])), (q1, .inl (g.2.1, 48, .inl (fun _ => nI 0))), (q2, .inl (g.2.1, 4, .inl (fun _ => nI 0)))]) 0 5 I iX6 tyX6 tyX6_ok nmX6 rfl (by decide) f_RX6_13 rfl rfl rfl rfl rfl nX6_init_16 rfl (Nat.le_of_ble_eq_true rfl) rfl ?_
  refine V_aload_n nX6_init_19 rfl ?_
  refine V_iconst (v := nI 4) nX6_init_20 rfl ?_
  refine V_newi X (by decide) (by decide) nX6_init_21 (fun q3 => ?_)
  refine V_putF (C := RX6) (T := TX6) (N := 34) (ci := 6) (ws' := [(b, .inr (6, [.int 0, .ref q1, .int 0, .int 0, .int 0, .ref q2, .ref q3, .null, .int 0, .null, .null, .null, .int 0, .null, .int 0, .null, .null, .null, .null, .int 0, .null, .null, .int 0, .null, .null, .long 0, .int 0, .null, .int 0, .int 0, .int 0, .int 0, .null, .null])), (q1, .inl (g.2.1, 48, .inl (fun _ => nI 0))), (q2, .inl (g.2.1, 4, .inl (fun _ => nI 0))), (q3, .inl (g.2.1, 4, .inl (fun _ => nI 0)))]) 0 6 I iX6 tyX6 tyX6_ok nmX6 rfl (by decide) f_RX6_16 rfl rfl rfl rfl rfl nX6_init_23 rfl (Nat.le_of_ble_eq_true rfl) rfl ?_
  refine V_aload_n nX6_init_26 rfl ?_
  refine V_iconst (v := nI 4) nX6_init_27 rfl ?_
  refine V_newi X (by decide) (by decide) nX6_init_28 (fun q4 => ?_)
  refine V_putF (C := RX6) (T := TX6) (N := 34) (ci := 6) (ws' := [(b, .inr (6, [.int 0, .ref q1, .int 0, .int 0, .int 0, .ref q2, .ref q3, .ref q4, .int 0, .null, .null, .null, .int 0, .null, .int 0, .null, .null, .null, .null, .int 0, .null, .null, .int 0, .null, .null, .long 0, .int 0, .null, .int 0, .int 0, .int 0, .int 0, .null, .null])), (q1, .inl (g.2.1, 48, .inl (fun _ => nI 0))), (q2, .inl (g.2.1, 4, .inl (fun _ => nI 0))), (q3, .inl (g.2.1, 4, .inl (fun _ => nI 0))), (q4, .inl (g.2.1, 4, .inl (fun _ => nI 0)))]) 0 7 I iX6 tyX6 tyX6_ok nmX6 rfl (by decide) f_RX6_19 rfl rfl rfl rfl rfl nX6_init_30 rfl (Nat.le_of_ble_eq_true rfl) rfl ?_
  refine V_aload_n nX6_init_33 rfl ?_
  refine V_iconst (v := nI 5) nX6_init_34 rfl ?_
  refine V_newi X (by decide) (by decide) nX6_init_35 (fun q5 => ?_)
  refine V_putF (C := RX6) (T := TX6) (N := 34) (ci := 6) (ws' := [(b, .inr (6, [.int 0, .ref q1, .int 0, .int 0, .int 0, .ref q2, .ref q3, .ref q4, .int 0, .ref q5, .null, .null, .int 0, .null, .int 0, .null, .null, .null, .null, .int 0, .null, .null, .int 0, .null, .null, .long 0, .int 0, .null, .int 0, .int 0, .int 0, .int 0, .null, .null])), (q1, .inl (g.2.1, 48, .inl (fun _ => nI 0))), (q2, .inl (g.2.1, 4, .inl (fun _ => nI 0))), (q3, .inl (g.2.1, 4, .inl (fun _ => nI 0))), (q4, .inl (g.2.1, 4, .inl (fun _ => nI 0))), (q5, .inl (g.2.1, 5, .inl (fun _ => nI 0)))]) 0 9 I iX6 tyX6 tyX6_ok nmX6 rfl (by decide) f_RX6_22 rfl rfl rfl rfl rfl nX6_init_37 rfl (Nat.le_of_ble_eq_true rfl) rfl ?_
  refine V_aload_n nX6_init_40 rfl ?_
  refine V_iconst (v := nI 5) nX6_init_41 rfl ?_
  refine V_newi X (by decide) (by decide) nX6_init_42 (fun q6 => ?_)
  refine V_putF (C := RX6) (T := TX6) (N := 34) (ci := 6) (ws' := [(b, .inr (6, [.int 0, .ref q1, .int 0, .int 0, .int 0, .ref q2, .ref q3, .ref q4, .int 0, .ref q5, .ref q6, .null, .int 0, .null, .int 0, .null, .null, .null, .null, .int 0, .null, .null, .int 0, .null, .null, .long 0, .int 0, .null, .int 0, .int 0, .int 0, .int 0, .null, .null])), (q1, .inl (g.2.1, 48, .inl (fun _ => nI 0))), (q2, .inl (g.2.1, 4, .inl (fun _ => nI 0))), (q3, .inl (g.2.1, 4, .inl (fun _ => nI 0))), (q4, .inl (g.2.1, 4, .inl (fun _ => nI 0))), (q5, .inl (g.2.1, 5, .inl (fun _ => nI 0))), (q6, .inl (g.2.1, 5, .inl (fun _ => nI 0)))]) 0 10 I iX6 tyX6 tyX6_ok nmX6 rfl (by decide) f_RX6_25 rfl rfl rfl rfl rfl nX6_init_44 rfl (Nat.le_of_ble_eq_true rfl) rfl ?_
  refine V_aload_n nX6_init_47 rfl ?_
  refine V_iconst (v := nI 5) nX6_init_48 rfl ?_
  refine V_newi X (by decide) (by decide) nX6_init_49 (fun q7 => ?_)
  refine V_putF (C := RX6) (T := TX6) (N := 34) (ci := 6) (ws' := [(b, .inr (6, [.int 0, .ref q1, .int 0, .int 0, .int 0, .ref q2, .ref q3, .ref q4, .int 0, .ref q5, .ref q6, .ref q7, .int 0, .null, .int 0, .null, .null, .null, .null, .int 0, .null, .null, .int 0, .null, .null, .long 0, .int 0, .null, .int 0, .int 0, .int 0, .int 0, .null, .null])), (q1, .inl (g.2.1, 48, .inl (fun _ => nI 0))), (q2, .inl (g.2.1, 4, .inl (fun _ => nI 0))), (q3, .inl (g.2.1, 4, .inl (fun _ => nI 0))), (q4, .inl (g.2.1, 4, .inl (fun _ => nI 0))), (q5, .inl (g.2.1, 5, .inl (fun _ => nI 0))), (q6, .inl (g.2.1, 5, .inl (fun _ => nI 0))), (q7, .inl (g.2.1, 5, .inl (fun _ => nI 0)))]) 0 11 I iX6 tyX6 tyX6_ok nmX6 rfl (by decide) f_RX6_28 rfl rfl rfl rfl rfl nX6_init_51 rfl (Nat.le_of_ble_eq_true rfl) rfl ?_
  refine V_aload_n nX6_init_54 rfl ?_
  refine V_bipush (v := nI 12) nX6_init_55 (by decide) ?_
  refine V_newi X (by decide) (by decide) nX6_init_57 (fun q8 => ?_)
  refine V_putF (C := RX6) (T := TX6) (N := 34) (ci := 6) (ws' := [(b, .inr (6, [.int 0, .ref q1, .int 0, .int 0, .int 0, .ref q2, .ref q3, .ref q4, .int 0, .ref q5, .ref q6, .ref q7, .int 0, .ref q8, .int 0, .null, .null, .null, .null, .int 0, .null, .null, .int 0, .null, .null, .long 0, .int 0, .null, .int 0, .int 0, .int 0, .int 0, .null, .null])), (q1, .inl (g.2.1, 48, .inl (fun _ => nI 0))), (q2, .inl (g.2.1, 4, .inl (fun _ => nI 0))), (q3, .inl (g.2.1, 4, .inl (fun _ => nI 0))), (q4, .inl (g.2.1, 4, .inl (fun _ => nI 0))), (q5, .inl (g.2.1, 5, .inl (fun _ => nI 0))), (q6, .inl (g.2.1, 5, .inl (fun _ => nI 0))), (q7, .inl (g.2.1, 5, .inl (fun _ => nI 0))), (q8, .inl (g.2.1, 12, .inl (fun _ => nI 0)))]) 0 13 I iX6 tyX6 tyX6_ok nmX6 rfl (by decide) f_RX6_31 rfl rfl rfl rfl rfl nX6_init_59 rfl (Nat.le_of_ble_eq_true rfl) rfl ?_
  refine V_aload_n nX6_init_62 rfl ?_
  refine V_bipush (v := nI 15) nX6_init_63 (by decide) ?_
  refine V_newi X (by decide) (by decide) nX6_init_65 (fun q9 => ?_)
  refine V_putF (C := RX6) (T := TX6) (N := 34) (ci := 6) (ws' := [(b, .inr (6, [.int 0, .ref q1, .int 0, .int 0, .int 0, .ref q2, .ref q3, .ref q4, .int 0, .ref q5, .ref q6, .ref q7, .int 0, .ref q8, .int 0, .ref q9, .null, .null, .null, .int 0, .null, .null, .int 0, .null, .null, .long 0, .int 0, .null, .int 0, .int 0, .int 0, .int 0, .null, .null])), (q1, .inl (g.2.1, 48, .inl (fun _ => nI 0))), (q2, .inl (g.2.1, 4, .inl (fun _ => nI 0))), (q3, .inl (g.2.1, 4, .inl (fun _ => nI 0))), (q4, .inl (g.2.1, 4, .inl (fun _ => nI 0))), (q5, .inl (g.2.1, 5, .inl (fun _ => nI 0))), (q6, .inl (g.2.1, 5, .inl (fun _ => nI 0))), (q7, .inl (g.2.1, 5, .inl (fun _ => nI 0))), (q8, .inl (g.2.1, 12, .inl (fun _ => nI 0))), (q9, .inl (g.2.1, 15, .inl (fun _ => nI 0)))]) 0 15 I iX6 tyX6 tyX6_ok nmX6 rfl (by decide) f_RX6_34 rfl rfl rfl rfl rfl nX6_init_67 rfl (Nat.le_of_ble_eq_true rfl) rfl ?_
  refine V_aload_n nX6_init_70 rfl ?_
  refine V_bipush (v := nI 29) nX6_init_71 (by decide) ?_
  refine V_newi X (by decide) (by decide) nX6_init_73 (fun q10 => ?_)
  refine V_putF (C := RX6) (T := TX6) (N := 34) (ci := 6) (ws' := [(b, .inr (6, [.int 0, .ref q1, .int 0, .int 0, .int 0, .ref q2, .ref q3, .ref q4, .int 0, .ref q5, .ref q6, .ref q7, .int 0, .ref q8, .int 0, .ref q9, .ref q10, .null, .null, .int 0, .null, .null, .int 0, .null, .null, .long 0, .int 0, .null, .int 0, .int 0, .int 0, .int 0, .null, .null])), (q1, .inl (g.2.1, 48, .inl (fun _ => nI 0))), (q2, .inl (g.2.1, 4, .inl (fun _ => nI 0))), (q3, .inl (g.2.1, 4, .inl (fun _ => nI 0))), (q4, .inl (g.2.1, 4, .inl (fun _ => nI 0))), (q5, .inl (g.2.1, 5, .inl (fun _ => nI 0))), (q6, .inl (g.2.1, 5, .inl (fun _ => nI 0))), (q7, .inl (g.2.1, 5, .inl (fun _ => nI 0))), (q8, .inl (g.2.1, 12, .inl (fun _ => nI 0))), (q9, .inl (g.2.1, 15, .inl (fun _ => nI 0))), (q10, .inl (g.2.1, 29, .inl (fun _ => nI 0)))]) 0 16 I iX6 tyX6 tyX6_ok nmX6 rfl (by decide) f_RX6_37 rfl rfl rfl rfl rfl nX6_init_75 rfl (Nat.le_of_ble_eq_true rfl) rfl ?_
  refine V_aload_n nX6_init_78 rfl ?_
  refine V_bipush (v := nI 29) nX6_init_79 (by decide) ?_
  refine V_newi X (by decide) (by decide) nX6_init_81 (fun q11 => ?_)
  refine V_putF (C := RX6) (T := TX6) (N := 34) (ci := 6) (ws' := [(b, .inr (6, [.int 0, .ref q1, .int 0, .int 0, .int 0, .ref q2, .ref q3, .ref q4, .int 0, .ref q5, .ref q6, .ref q7, .int 0, .ref q8, .int 0, .ref q9, .ref q10, .ref q11, .null, .int 0, .null, .null, .int 0, .null, .null, .long 0, .int 0, .null, .int 0, .int 0, .int 0, .int 0, .null, .null])), (q1, .inl (g.2.1, 48, .inl (fun _ => nI 0))), (q2, .inl (g.2.1, 4, .inl (fun _ => nI 0))), (q3, .inl (g.2.1, 4, .inl (fun _ => nI 0))), (q4, .inl (g.2.1, 4, .inl (fun _ => nI 0))), (q5, .inl (g.2.1, 5, .inl (fun _ => nI 0))), (q6, .inl (g.2.1, 5, .inl (fun _ => nI 0))), (q7, .inl (g.2.1, 5, .inl (fun _ => nI 0))), (q8, .inl (g.2.1, 12, .inl (fun _ => nI 0))), (q9, .inl (g.2.1, 15, .inl (fun _ => nI 0))), (q10, .inl (g.2.1, 29, .inl (fun _ => nI 0))), (q11, .inl (g.2.1, 29, .inl (fun _ => nI 0)))]) 0 17 I iX6 tyX6 tyX6_ok nmX6 rfl (by decide) f_RX6_40 rfl rfl rfl rfl rfl nX6_init_83 rfl (Nat.le_of_ble_eq_true rfl) rfl ?_
  refine V_aload_n nX6_init_86 rfl ?_
  refine V_sipush (v := nI 406) nX6_init_87 (by decide) ?_
  refine V_newi X (by decide) (by decide) nX6_init_90 (fun q12 => ?_)
  refine V_putF (C := RX6) (T := TX6) (N := 34) (ci := 6) (ws' := [(b, .inr (6, [.int 0, .ref q1, .int 0, .int 0, .int 0, .ref q2, .ref q3, .ref q4, .int 0, .ref q5, .ref q6, .ref q7, .int 0, .ref q8, .int 0, .ref q9, .ref q10, .ref q11, .ref q12, .int 0, .null, .null, .int 0, .null, .null, .long 0, .int 0, .null, .int 0, .int 0, .int 0, .int 0, .null, .null])), (q1, .inl (g.2.1, 48, .inl (fun _ => nI 0))), (q2, .inl (g.2.1, 4, .inl (fun _ => nI 0))), (q3, .inl (g.2.1, 4, .inl (fun _ => nI 0))), (q4, .inl (g.2.1, 4, .inl (fun _ => nI 0))), (q5, .inl (g.2.1, 5, .inl (fun _ => nI 0))), (q6, .inl (g.2.1, 5, .inl (fun _ => nI 0))), (q7, .inl (g.2.1, 5, .inl (fun _ => nI 0))), (q8, .inl (g.2.1, 12, .inl (fun _ => nI 0))), (q9, .inl (g.2.1, 15, .inl (fun _ => nI 0))), (q10, .inl (g.2.1, 29, .inl (fun _ => nI 0))), (q11, .inl (g.2.1, 29, .inl (fun _ => nI 0))), (q12, .inl (g.2.1, 406, .inl (fun _ => nI 0)))]) 0 18 I iX6 tyX6 tyX6_ok nmX6 rfl (by decide) f_RX6_43 rfl rfl rfl rfl rfl nX6_init_92 rfl (Nat.le_of_ble_eq_true rfl) rfl ?_
  refine V_aload_n nX6_init_95 rfl ?_
  refine V_bipush (v := nI 58) nX6_init_96 (by decide) ?_
  refine V_newi X (by decide) (by decide) nX6_init_98 (fun q13 => ?_)
  refine V_putF (C := RX6) (T := TX6) (N := 34) (ci := 6) (ws' := [(b, .inr (6, [.int 0, .ref q1, .int 0, .int 0, .int 0, .ref q2, .ref q3, .ref q4, .int 0, .ref q5, .ref q6, .ref q7, .int 0, .ref q8, .int 0, .ref q9, .ref q10, .ref q11, .ref q12, .int 0, .ref q13, .null, .int 0, .null, .null, .long 0, .int 0, .null, .int 0, .int 0, .int 0, .int 0, .null, .null])), (q1, .inl (g.2.1, 48, .inl (fun _ => nI 0))), (q2, .inl (g.2.1, 4, .inl (fun _ => nI 0))), (q3, .inl (g.2.1, 4, .inl (fun _ => nI 0))), (q4, .inl (g.2.1, 4, .inl (fun _ => nI 0))), (q5, .inl (g.2.1, 5, .inl (fun _ => nI 0))), (q6, .inl (g.2.1, 5, .inl (fun _ => nI 0))), (q7, .inl (g.2.1, 5, .inl (fun _ => nI 0))), (q8, .inl (g.2.1, 12, .inl (fun _ => nI 0))), (q9, .inl (g.2.1, 15, .inl (fun _ => nI 0))), (q10, .inl (g.2.1, 29, .inl (fun _ => nI 0))), (q11, .inl (g.2.1, 29, .inl (fun _ => nI 0))), (q12, .inl (g.2.1, 406, .inl (fun _ => nI 0))), (q13, .inl (g.2.1, 58, .inl (fun _ => nI 0)))]) 0 20 I iX6 tyX6 tyX6_ok nmX6 rfl (by decide) f_RX6_46 rfl rfl rfl rfl rfl nX6_init_100 rfl (Nat.le_of_ble_eq_true rfl) rfl ?_
  refine V_aload_n nX6_init_103 rfl ?_
  refine V_iconst (v := nI 2) nX6_init_104 rfl ?_
  refine V_newz X (by decide) (by decide) nX6_init_105 (fun q14 => ?_)
  refine V_putF (C := RX6) (T := TX6) (N := 34) (ci := 6) (ws' := [(b, .inr (6, [.int 0, .ref q1, .int 0, .int 0, .int 0, .ref q2, .ref q3, .ref q4, .int 0, .ref q5, .ref q6, .ref q7, .int 0, .ref q8, .int 0, .ref q9, .ref q10, .ref q11, .ref q12, .int 0, .ref q13, .ref q14, .int 0, .null, .null, .long 0, .int 0, .null, .int 0, .int 0, .int 0, .int 0, .null, .null])), (q1, .inl (g.2.1, 48, .inl (fun _ => nI 0))), (q2, .inl (g.2.1, 4, .inl (fun _ => nI 0))), (q3, .inl (g.2.1, 4, .inl (fun _ => nI 0))), (q4, .inl (g.2.1, 4, .inl (fun _ => nI 0))), (q5, .inl (g.2.1, 5, .inl (fun _ => nI 0))), (q6, .inl (g.2.1, 5, .inl (fun _ => nI 0))), (q7, .inl (g.2.1, 5, .inl (fun _ => nI 0))), (q8, .inl (g.2.1, 12, .inl (fun _ => nI 0))), (q9, .inl (g.2.1, 15, .inl (fun _ => nI 0))), (q10, .inl (g.2.1, 29, .inl (fun _ => nI 0))), (q11, .inl (g.2.1, 29, .inl (fun _ => nI 0))), (q12, .inl (g.2.1, 406, .inl (fun _ => nI 0))), (q13, .inl (g.2.1, 58, .inl (fun _ => nI 0))), (q14, .inl (g.2.2.1, 2, .inl (fun _ => nI 0)))]) 0 21 I iX6 tyX6 tyX6_ok nmX6 rfl (by decide) f_RX6_49 rfl rfl rfl rfl rfl nX6_init_107 rfl (Nat.le_of_ble_eq_true rfl) rfl ?_
  refine V_aload_n nX6_init_110 rfl ?_
  refine V_bipush (v := nI 6) nX6_init_111 (by decide) ?_
  refine V_newi X (by decide) (by decide) nX6_init_113 (fun q15 => ?_)
  refine V_putF (C := RX6) (T := TX6) (N := 34) (ci := 6) (ws' := [(b, .inr (6, [.int 0, .ref q1, .int 0, .int 0, .int 0, .ref q2, .ref q3, .ref q4, .int 0, .ref q5, .ref q6, .ref q7, .int 0, .ref q8, .int 0, .ref q9, .ref q10, .ref q11, .ref q12, .int 0, .ref q13, .ref q14, .int 0, .ref q15, .null, .long 0, .int 0, .null, .int 0, .int 0, .int 0, .int 0, .null, .null])), (q1, .inl (g.2.1, 48, .inl (fun _ => nI 0))), (q2, .inl (g.2.1, 4, .inl (fun _ => nI 0))), (q3, .inl (g.2.1, 4, .inl (fun _ => nI 0))), (q4, .inl (g.2.1, 4, .inl (fun _ => nI 0))), (q5, .inl (g.2.1, 5, .inl (fun _ => nI 0))), (q6, .inl (g.2.1, 5, .inl (fun _ => nI 0))), (q7, .inl (g.2.1, 5, .inl (fun _ => nI 0))), (q8, .inl (g.2.1, 12, .inl (fun _ => nI 0))), (q9, .inl (g.2.1, 15, .inl (fun _ => nI 0))), (q10, .inl (g.2.1, 29, .inl (fun _ => nI 0))), (q11, .inl (g.2.1, 29, .inl (fun _ => nI 0))), (q12, .inl (g.2.1, 406, .inl (fun _ => nI 0))), (q13, .inl (g.2.1, 58, .inl (fun _ => nI 0))), (q14, .inl (g.2.2.1, 2, .inl (fun _ => nI 0))), (q15, .inl (g.2.1, 6, .inl (fun _ => nI 0)))]) 0 23 I iX6 tyX6 tyX6_ok nmX6 rfl (by decide) f_RX6_53 rfl rfl rfl rfl rfl nX6_init_115 rfl (Nat.le_of_ble_eq_true rfl) rfl ?_
  refine V_aload_n nX6_init_118 rfl ?_
  refine V_bipush (v := nI 6) nX6_init_119 (by decide) ?_
  refine V_newi X (by decide) (by decide) nX6_init_121 (fun q16 => ?_)
  refine V_putF (C := RX6) (T := TX6) (N := 34) (ci := 6) (ws' := [(b, .inr (6, [.int 0, .ref q1, .int 0, .int 0, .int 0, .ref q2, .ref q3, .ref q4, .int 0, .ref q5, .ref q6, .ref q7, .int 0, .ref q8, .int 0, .ref q9, .ref q10, .ref q11, .ref q12, .int 0, .ref q13, .ref q14, .int 0, .ref q15, .ref q16, .long 0, .int 0, .null, .int 0, .int 0, .int 0, .int 0, .null, .null])), (q1, .inl (g.2.1, 48, .inl (fun _ => nI 0))), (q2, .inl (g.2.1, 4, .inl (fun _ => nI 0))), (q3, .inl (g.2.1, 4, .inl (fun _ => nI 0))), (q4, .inl (g.2.1, 4, .inl (fun _ => nI 0))), (q5, .inl (g.2.1, 5, .inl (fun _ => nI 0))), (q6, .inl (g.2.1, 5, .inl (fun _ => nI 0))), (q7, .inl (g.2.1, 5, .inl (fun _ => nI 0))), (q8, .inl (g.2.1, 12, .inl (fun _ => nI 0))), (q9, .inl (g.2.1, 15, .inl (fun _ => nI 0))), (q10, .inl (g.2.1, 29, .inl (fun _ => nI 0))), (q11, .inl (g.2.1, 29, .inl (fun _ => nI 0))), (q12, .inl (g.2.1, 406, .inl (fun _ => nI 0))), (q13, .inl (g.2.1, 58, .inl (fun _ => nI 0))), (q14, .inl (g.2.2.1, 2, .inl (fun _ => nI 0))), (q15, .inl (g.2.1, 6, .inl (fun _ => nI 0))), (q16, .inl (g.2.1, 6, .inl (fun _ => nI 0)))]) 0 24 I iX6 tyX6 tyX6_ok nmX6 rfl (by decide) f_RX6_56 rfl rfl rfl rfl rfl nX6_init_123 rfl (Nat.le_of_ble_eq_true rfl) rfl ?_
  refine V_aload_n nX6_init_126 rfl ?_
  refine V_iconst (v := nI 5) nX6_init_127 rfl ?_
  refine V_newi X (by decide) (by decide) nX6_init_128 (fun q17 => ?_)
  refine V_putF (C := RX6) (T := TX6) (N := 34) (ci := 6) (ws' := [(b, .inr (6, [.int 0, .ref q1, .int 0, .int 0, .int 0, .ref q2, .ref q3, .ref q4, .int 0, .ref q5, .ref q6, .ref q7, .int 0, .ref q8, .int 0, .ref q9, .ref q10, .ref q11, .ref q12, .int 0, .ref q13, .ref q14, .int 0, .ref q15, .ref q16, .long 0, .int 0, .ref q17, .int 0, .int 0, .int 0, .int 0, .null, .null])), (q1, .inl (g.2.1, 48, .inl (fun _ => nI 0))), (q2, .inl (g.2.1, 4, .inl (fun _ => nI 0))), (q3, .inl (g.2.1, 4, .inl (fun _ => nI 0))), (q4, .inl (g.2.1, 4, .inl (fun _ => nI 0))), (q5, .inl (g.2.1, 5, .inl (fun _ => nI 0))), (q6, .inl (g.2.1, 5, .inl (fun _ => nI 0))), (q7, .inl (g.2.1, 5, .inl (fun _ => nI 0))), (q8, .inl (g.2.1, 12, .inl (fun _ => nI 0))), (q9, .inl (g.2.1, 15, .inl (fun _ => nI 0))), (q10, .inl (g.2.1, 29, .inl (fun _ => nI 0))), (q11, .inl (g.2.1, 29, .inl (fun _ => nI 0))), (q12, .inl (g.2.1, 406, .inl (fun _ => nI 0))), (q13, .inl (g.2.1, 58, .inl (fun _ => nI 0))), (q14, .inl (g.2.2.1, 2, .inl (fun _ => nI 0))), (q15, .inl (g.2.1, 6, .inl (fun _ => nI 0))), (q16, .inl (g.2.1, 6, .inl (fun _ => nI 0))), (q17, .inl (g.2.1, 5, .inl (fun _ => nI 0)))]) 0 27 I iX6 tyX6 tyX6_ok nmX6 rfl (by decide) f_RX6_59 rfl rfl rfl rfl rfl nX6_init_130 rfl (Nat.le_of_ble_eq_true rfl) rfl ?_
  refine V_aload_n nX6_init_133 rfl ?_
  refine V_bipush (v := nI 8) nX6_init_134 (by decide) ?_
  refine V_newi X (by decide) (by decide) nX6_init_136 (fun q18 => ?_)
  refine V_putF (C := RX6) (T := TX6) (N := 34) (ci := 6) (ws' := [(b, .inr (6, [.int 0, .ref q1, .int 0, .int 0, .int 0, .ref q2, .ref q3, .ref q4, .int 0, .ref q5, .ref q6, .ref q7, .int 0, .ref q8, .int 0, .ref q9, .ref q10, .ref q11, .ref q12, .int 0, .ref q13, .ref q14, .int 0, .ref q15, .ref q16, .long 0, .int 0, .ref q17, .int 0, .int 0, .int 0, .int 0, .ref q18, .null])), (q1, .inl (g.2.1, 48, .inl (fun _ => nI 0))), (q2, .inl (g.2.1, 4, .inl (fun _ => nI 0))), (q3, .inl (g.2.1, 4, .inl (fun _ => nI 0))), (q4, .inl (g.2.1, 4, .inl (fun _ => nI 0))), (q5, .inl (g.2.1, 5, .inl (fun _ => nI 0))), (q6, .inl (g.2.1, 5, .inl (fun _ => nI 0))), (q7, .inl (g.2.1, 5, .inl (fun _ => nI 0))), (q8, .inl (g.2.1, 12, .inl (fun _ => nI 0))), (q9, .inl (g.2.1, 15, .inl (fun _ => nI 0))), (q10, .inl (g.2.1, 29, .inl (fun _ => nI 0))), (q11, .inl (g.2.1, 29, .inl (fun _ => nI 0))), (q12, .inl (g.2.1, 406, .inl (fun _ => nI 0))), (q13, .inl (g.2.1, 58, .inl (fun _ => nI 0))), (q14, .inl (g.2.2.1, 2, .inl (fun _ => nI 0))), (q15, .inl (g.2.1, 6, .inl (fun _ => nI 0))), (q16, .inl (g.2.1, 6, .inl (fun _ => nI 0))), (q17, .inl (g.2.1, 5, .inl (fun _ => nI 0))), (q18, .inl (g.2.1, 8, .inl (fun _ => nI 0)))]) 0 32 I iX6 tyX6 tyX6_ok nmX6 rfl (by decide) f_RX6_62 rfl rfl rfl rfl rfl nX6_init_138 rfl (Nat.le_of_ble_eq_true rfl) rfl ?_
  refine V_aload_n nX6_init_141 rfl ?_
  refine V_bipush (v := nI 32) nX6_init_142 (by decide) ?_
  refine V_newi X (by decide) (by decide) nX6_init_144 (fun q19 => ?_)
  refine V_putF (C := RX6) (T := TX6) (N := 34) (ci := 6) (ws' := [(b, .inr (6, [.int 0, .ref q1, .int 0, .int 0, .int 0, .ref q2, .ref q3, .ref q4, .int 0, .ref q5, .ref q6, .ref q7, .int 0, .ref q8, .int 0, .ref q9, .ref q10, .ref q11, .ref q12, .int 0, .ref q13, .ref q14, .int 0, .ref q15, .ref q16, .long 0, .int 0, .ref q17, .int 0, .int 0, .int 0, .int 0, .ref q18, .ref q19])), (q1, .inl (g.2.1, 48, .inl (fun _ => nI 0))), (q2, .inl (g.2.1, 4, .inl (fun _ => nI 0))), (q3, .inl (g.2.1, 4, .inl (fun _ => nI 0))), (q4, .inl (g.2.1, 4, .inl (fun _ => nI 0))), (q5, .inl (g.2.1, 5, .inl (fun _ => nI 0))), (q6, .inl (g.2.1, 5, .inl (fun _ => nI 0))), (q7, .inl (g.2.1, 5, .inl (fun _ => nI 0))), (q8, .inl (g.2.1, 12, .inl (fun _ => nI 0))), (q9, .inl (g.2.1, 15, .inl (fun _ => nI 0))), (q10, .inl (g.2.1, 29, .inl (fun _ => nI 0))), (q11, .inl (g.2.1, 29, .inl (fun _ => nI 0))), (q12, .inl (g.2.1, 406, .inl (fun _ => nI 0))), (q13, .inl (g.2.1, 58, .inl (fun _ => nI 0))), (q14, .inl (g.2.2.1, 2, .inl (fun _ => nI 0))), (q15, .inl (g.2.1, 6, .inl (fun _ => nI 0))), (q16, .inl (g.2.1, 6, .inl (fun _ => nI 0))), (q17, .inl (g.2.1, 5, .inl (fun _ => nI 0))), (q18, .inl (g.2.1, 8, .inl (fun _ => nI 0))), (q19, .inl (g.2.1, 32, .inl (fun _ => nI 0)))]) 0 33 I iX6 tyX6 tyX6_ok nmX6 rfl (by decide) f_RX6_65 rfl rfl rfl rfl rfl nX6_init_146 rfl (Nat.le_of_ble_eq_true rfl) rfl ?_
  exact V_vretN rfl nX6_init_149 ⟨fun i => [b, q1, q2, q3, q4, q5, q6, q7, q8, q9, q10, q11, q12, q13, q14, q15, q16, q17, q18, q19].getD i 0, rfl, rfl⟩ X hQ
