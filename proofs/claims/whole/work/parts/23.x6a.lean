set_option maxHeartbeats 4000000 in
set_option maxRecDepth 100000 in
theorem c_X6_in (g : Gx) (l : Launch)   (v : Int64) (a : Int64) (b : Int64)  : Cd g l yX6_in mX6_in ({ frames := 0, cells := 0, slots := 0, locals := 0 } : Room) [.long v, .long a, .long b] ([]) (some (.int (bI (inL v a b)))) ([]) := by
  refine Ct.of (lv := [(0, .long v), (2, .long a), (4, .long b)]) ⟨by decide +kernel, rfl, Nat.le_of_ble_eq_true rfl⟩ rfl (fun E A sz Q X hQ => ?_)
  refine V_lload_n nX6_in_0 rfl ?_
  refine V_lload_n nX6_in_1 rfl ?_
  refine V_lcmp nX6_in_2 ?_
  refine V_if_lt (tgt := 17) nX6_in_3 rfl (fun h3 => ?_) (fun h3 => ?_)
  · skip
    refine V_iconst (v := (nI 0)) nX6_in_17 rfl ?_
    refine V_top (y := bI false) rfl ?_
    exact R_z rfl X hQ nX6_in_18 rfl (⟨by simp [inL, h3], by simp [inL, h3]⟩)
  · skip
    refine V_lload_n nX6_in_6 rfl ?_
    refine V_lload nX6_in_7 rfl ?_
    refine V_lcmp nX6_in_9 ?_
    refine V_if_gt (tgt := 17) nX6_in_10 rfl (fun h10 => ?_) (fun h10 => ?_)
    · skip
      refine V_iconst (v := (nI 0)) nX6_in_17 rfl ?_
      refine V_top (y := bI false) rfl ?_
      exact R_z rfl X hQ nX6_in_18 rfl (⟨by simp [inL, h3, h10], by simp [inL, h3, h10]⟩)
    · skip
      refine V_iconst (v := (nI 1)) nX6_in_13 rfl ?_
      refine V_goto (tgt := 18) nX6_in_14 rfl ?_
      refine V_top (y := bI true) rfl ?_
      exact R_z rfl X hQ nX6_in_18 rfl (⟨by simp [inL, h3, h10], by simp [inL, h3, h10]⟩)

set_option maxHeartbeats 4000000 in
set_option maxRecDepth 100000 in
theorem c_X6_has (g : Gx) (l : Launch)   (s : Nat) (k : Nat) (hs : s < 2 ^ 31) (hk : k < 31) : Cd g l yX6_has mX6_has ({ frames := 0, cells := 0, slots := 0, locals := 0 } : Room) [.int (nI s), .int (nI k)] ([]) (some (.int (bI (decide (s / 2 ^ k % 2 = 1))))) ([]) := by
  refine Ct.of (lv := [(0, .int (nI s)), (1, .int (nI k))]) ⟨by decide +kernel, rfl, Nat.le_of_ble_eq_true rfl⟩ rfl (fun E A sz Q X hQ => ?_)
  refine V_iload_n nX6_has_0 rfl ?_
  refine V_iload_n nX6_has_1 rfl ?_
  refine V_ishr (v := nI (s / 2 ^ k)) nX6_has_2 (nI_shr (by omega) (by omega)) ?_
  refine V_iconst (v := (nI 1)) nX6_has_3 rfl ?_
  refine V_iand (v := nI ((s / 2 ^ k) % 2)) nX6_has_4 (nx_and1 (s / 2 ^ k)) ?_
  refine V_iconst (v := (nI 1)) nX6_has_5 rfl ?_
  refine V_joinb (b := decide (((s / 2 ^ k) % 2) = 1)) (pj := 14) (st := []) (fun J1 J2 => ?_) ?_
  · skip
    refine V_icmp_ne_N (tgt := 13) nX6_has_6 rfl (by omega) (by omega) (fun h6 => ?_) (fun h6 => ?_)
    · skip
      refine V_iconst (v := (nI 0)) nX6_has_13 rfl ?_
      exact J2 (by simp [h6])
    · skip
      refine V_iconst (v := (nI 1)) nX6_has_9 rfl ?_
      refine V_goto (tgt := 14) nX6_has_10 rfl ?_
      exact J1 (by simp [h6])
  exact R_z rfl X hQ nX6_has_14 rfl (⟨rfl, rfl⟩)

set_option maxHeartbeats 4000000 in
set_option maxRecDepth 100000 in
theorem c_X6_many (g : Gx) (l : Launch)   (s : Nat) (hs : s < 2 ^ 31) : Cd g l yX6_many mX6_many ({ frames := 0, cells := 0, slots := 0, locals := 0 } : Room) [.int (nI s)] ([]) (some (.int (nI (bcN s)))) ([]) := by
  refine Ct.of (lv := [(0, .int (nI s))]) ⟨by decide +kernel, rfl, Nat.le_of_ble_eq_true rfl⟩ rfl (fun E A sz Q X hQ => ?_)
  refine V_iconst (v := (nI 0)) nX6_many_0 rfl ?_
  refine V_istore_n (lv' := [(0, .int (nI s)), (1, .int (nI 0))]) nX6_many_1 (by decide) rfl ?_
  refine V_iconst (v := (nI 0)) nX6_many_2 rfl ?_
  refine V_istore_n (lv' := [(0, .int (nI s)), (1, .int (nI 0)), (2, .int (nI 0))]) nX6_many_3 (by decide) rfl ?_
  have L4 : ∀ (n : Nat) (i : Nat), 5 - i < n → i ≤ 5 → V g E mX6_many A Q 0 0 ([]) 4 [(0, .int (nI s)), (1, .int (nI (mnN s i))), (2, .int (nI i))] [] := by
    intro n
    induction n with
    | zero => intro i hm; exact absurd hm (Nat.not_lt_zero _)
    | succ n ih =>
      intro i hm hi
      refine V_iload_n nX6_many_4 rfl ?_
      refine V_iconst (v := (nI 5)) nX6_many_5 rfl ?_
      refine V_icmp_ge_N (tgt := 23) nX6_many_6 rfl (by omega) (by omega) (fun h6 => ?_) (fun h6 => ?_)
      · skip
        have hx_i : 5 = i := by omega
        subst hx_i
        refine V_iload_n nX6_many_23 rfl ?_
        exact R_i rfl X hQ nX6_many_24 rfl (⟨by rw [mnN_bc], rfl⟩)
      · skip
        refine V_iload_n nX6_many_9 rfl ?_
        refine V_iload_n nX6_many_10 rfl ?_
        refine V_iload_n nX6_many_11 rfl ?_
        refine V_ishr (v := nI (s / 2 ^ i)) nX6_many_12 (nI_shr (by omega) (by omega)) ?_
        refine V_iconst (v := (nI 1)) nX6_many_13 rfl ?_
        refine V_iand (v := nI ((s / 2 ^ i) % 2)) nX6_many_14 (nx_and1 (s / 2 ^ i)) ?_
        refine V_iadd (v := nI ((mnN s i) + ((s / 2 ^ i) % 2))) nX6_many_15 (nI_add (mnN s i) ((s / 2 ^ i) % 2)) ?_
        refine V_istore_n (lv' := [(0, .int (nI s)), (1, .int (nI ((mnN s i) + ((s / 2 ^ i) % 2)))), (2, .int (nI i))]) nX6_many_16 (by decide) rfl ?_
        refine V_iinc (v := nI (i + 1)) (lv' := [(0, .int (nI s)), (1, .int (nI ((mnN s i) + ((s / 2 ^ i) % 2)))), (2, .int (nI (i + 1)))]) nX6_many_17 rfl (nI_add i 1) (by decide) rfl ?_
        refine V_goto (tgt := 4) nX6_many_20 rfl ?_
        exact ih (i + 1) (by omega) (by omega)
  exact L4 _ 0 (Nat.lt_succ_self _) (by omega)

set_option maxHeartbeats 4000000 in
set_option maxRecDepth 100000 in
theorem c_X6_power (g : Gx) (l : Launch)   (a : Nat) (k : Nat) (hk : k < 2 ^ 31) : Cd g l yX6_power mX6_power ({ frames := 0, cells := 0, slots := 0, locals := 0 } : Room) [.int (nI a), .int (nI k)] ([]) (some (.int (nI (a ^ k)))) ([]) := by
  refine Ct.of (lv := [(0, .int (nI a)), (1, .int (nI k))]) ⟨by decide +kernel, rfl, Nat.le_of_ble_eq_true rfl⟩ rfl (fun E A sz Q X hQ => ?_)
  refine V_iconst (v := (nI 1)) nX6_power_0 rfl ?_
  refine V_istore_n (lv' := [(0, .int (nI a)), (1, .int (nI k)), (2, .int (nI 1))]) nX6_power_1 (by decide) rfl ?_
  refine V_iconst (v := (nI 0)) nX6_power_2 rfl ?_
  refine V_istore_n (lv' := [(0, .int (nI a)), (1, .int (nI k)), (2, .int (nI 1)), (3, .int (nI 0))]) nX6_power_3 (by decide) rfl ?_
  have L4 : ∀ (n : Nat) (i : Nat), k - i < n → i ≤ k → V g E mX6_power A Q 0 0 ([]) 4 [(0, .int (nI a)), (1, .int (nI k)), (2, .int (nI (a ^ i))), (3, .int (nI i))] [] := by
    intro n
    induction n with
    | zero => intro i hm; exact absurd hm (Nat.not_lt_zero _)
    | succ n ih =>
      intro i hm hi
      refine V_iload_n nX6_power_4 rfl ?_
      refine V_iload_n nX6_power_5 rfl ?_
      refine V_icmp_ge_N (tgt := 19) nX6_power_6 rfl (by omega) (by omega) (fun h6 => ?_) (fun h6 => ?_)
      · skip
        have hx_i : k = i := by omega
        subst hx_i
        refine V_iload_n nX6_power_19 rfl ?_
        exact R_i rfl X hQ nX6_power_20 rfl (⟨rfl, rfl⟩)
      · skip
        refine V_iload_n nX6_power_9 rfl ?_
        refine V_iload_n nX6_power_10 rfl ?_
        refine V_imul (v := nI ((a ^ i) * a)) nX6_power_11 (pk_mul (a ^ i) a) ?_
        refine V_istore_n (lv' := [(0, .int (nI a)), (1, .int (nI k)), (2, .int (nI ((a ^ i) * a))), (3, .int (nI i))]) nX6_power_12 (by decide) rfl ?_
        refine V_iinc (v := nI (i + 1)) (lv' := [(0, .int (nI a)), (1, .int (nI k)), (2, .int (nI ((a ^ i) * a))), (3, .int (nI (i + 1)))]) nX6_power_13 rfl (nI_add i 1) (by decide) rfl ?_
        refine V_goto (tgt := 4) nX6_power_16 rfl ?_
        exact ih (i + 1) (by omega) (by omega)
  exact L4 _ 0 (Nat.lt_succ_self _) (by omega)

set_option maxHeartbeats 4000000 in
set_option maxRecDepth 100000 in
theorem c_X6_capped (g : Gx) (l : Launch)   (v : Int32)  : Cd g l yX6_capped mX6_capped ({ frames := 0, cells := 0, slots := 0, locals := 0 } : Room) [.int v] ([]) (some (.int (capI v))) ([]) := by
  refine Ct.of (lv := [(0, .int v)]) ⟨by decide +kernel, rfl, Nat.le_of_ble_eq_true rfl⟩ rfl (fun E A sz Q X hQ => ?_)
  refine V_iload_n nX6_capped_0 rfl ?_
  refine V_bipush (v := (nI 99)) nX6_capped_1 (by decide) ?_
  refine V_icmp_le (tgt := 11) nX6_capped_3 rfl (fun h3 => ?_) (fun h3 => ?_)
  · skip
    refine V_iload_n nX6_capped_11 rfl ?_
    exact R_i rfl X hQ nX6_capped_12 rfl (⟨by rw [capI_le h3], rfl⟩)
  · skip
    refine V_bipush (v := (nI 99)) nX6_capped_6 (by decide) ?_
    refine V_goto (tgt := 12) nX6_capped_8 rfl ?_
    exact R_i rfl X hQ nX6_capped_12 rfl (⟨by rw [capI_gt h3], rfl⟩)

set_option maxHeartbeats 4000000 in
set_option maxRecDepth 100000 in
theorem c_X6_apart (g : Gx) (l : Launch)   (a : Int32) (b : Int32)  : Cd g l yX6_apart mX6_apart ({ frames := 0, cells := 0, slots := 0, locals := 0 } : Room) [.int a, .int b] ([]) (some (.int (apI a b))) ([]) := by
  refine Ct.of (lv := [(0, .int a), (1, .int b)]) ⟨by decide +kernel, rfl, Nat.le_of_ble_eq_true rfl⟩ rfl (fun E A sz Q X hQ => ?_)
  refine V_iload_n nX6_apart_0 rfl ?_
  refine V_iload_n nX6_apart_1 rfl ?_
  refine V_icmp_ge (tgt := 11) nX6_apart_2 rfl (fun h2 => ?_) (fun h2 => ?_)
  · skip
    refine V_iload_n nX6_apart_11 rfl ?_
    refine V_iload_n nX6_apart_12 rfl ?_
    refine V_isub (v := a - b) nX6_apart_13 rfl ?_
    exact R_i rfl X hQ nX6_apart_14 rfl (⟨by rw [apI_ge h2], rfl⟩)
  · skip
    refine V_iload_n nX6_apart_5 rfl ?_
    refine V_iload_n nX6_apart_6 rfl ?_
    refine V_isub (v := b - a) nX6_apart_7 rfl ?_
    refine V_goto (tgt := 14) nX6_apart_8 rfl ?_
    exact R_i rfl X hQ nX6_apart_14 rfl (⟨by rw [apI_lt h2], rfl⟩)

set_option maxHeartbeats 4000000 in
set_option maxRecDepth 100000 in
theorem c_X6_noField (g : Gx) (l : Launch) (o_a : Nat → Nat) (o_th : Int32) (o_ts : Nat) (o_pl : Nat) (o_nf : Nat) (o_ne : Nat) (o_rf : Nat) (o_re : Nat) (o_ac : Nat) (o_cm : Nat) (o_sd : Int64) (o_wf : Int32) (o_sm : Int32) (o_sf : Int32) (o_rm : Int32) (o_rs : Int32)  (x : Int32) (hnf : o_nf ≤ 5) : Cd g l yX6_noField mX6_noField ({ frames := 1, cells := 0, slots := 0, locals := 25 } : Room) [.ref (o_a 0), .int x] (wO g o_a o_th o_ts o_pl o_nf o_ne o_rf o_re o_ac o_cm o_sd o_wf o_sm o_sf o_rm o_rs) (some (.int (bI (!hasN o_nf x)))) (wO g o_a o_th o_ts o_pl o_nf o_ne o_rf o_re o_ac o_cm o_sd o_wf o_sm o_sf o_rm o_rs) := by
  refine Ct.of (lv := [(0, .ref (o_a 0)), (1, .int x)]) ⟨by decide +kernel, rfl, Nat.le_of_ble_eq_true rfl⟩ rfl (fun E A sz Q X hQ => ?_)
  refine V_iload_n nX6_noField_0 rfl ?_
  refine V_i2l nX6_noField_1 rfl ?_
  refine V_lconst (v := lN 0) nX6_noField_2 rfl ?_
  refine V_aload_n nX6_noField_3 rfl ?_
  refine V_get6 0 4 (by decide) f_RX6_72 nX6_noField_4 rfl rfl ?_
  refine V_iconst (v := (nI 1)) nX6_noField_7 rfl ?_
  refine V_isub (v := nI o_nf - nI 1) nX6_noField_8 rfl ?_
  refine V_i2l nX6_noField_9 rfl ?_
  refine V_cSi (ws' := wO g o_a o_th o_ts o_pl o_nf o_ne o_rf o_re o_ac o_cm o_sd o_wf o_sm o_sf o_rm o_rs) [] 3 X (c_X6_in g l   (Int32.toInt64 x) (lN 0) (Int32.toInt64 (nI o_nf - nI 1)) ) k_RX6_75 hy_X6_in.2 (by decide) rfl (by decide) nX6_noField_10 rfl rfl (Nat.le_of_ble_eq_true rfl) rfl ?_
  refine V_topb (b := hasN o_nf x) (congrArg bI (inL_has (by omega) x)) ?_
  refine V_joinb (b := !(hasN o_nf x)) (pj := 21) (st := []) (fun J1 J2 => ?_) ?_
  · skip
    refine V_if_ne_b (tgt := 20) nX6_noField_13 rfl (fun h13 => ?_) (fun h13 => ?_)
    · skip
      refine V_iconst (v := (nI 0)) nX6_noField_20 rfl ?_
      exact J2 (by simp [h13])
    · skip
      refine V_iconst (v := (nI 1)) nX6_noField_16 rfl ?_
      refine V_goto (tgt := 21) nX6_noField_17 rfl ?_
      exact J1 (by simp [h13])
  exact R_z rfl X hQ nX6_noField_21 (by simp only [List.map_append, wO_fst]) (⟨rfl, rfl⟩)

set_option maxHeartbeats 4000000 in
set_option maxRecDepth 100000 in
theorem c_X6_noEater (g : Gx) (l : Launch) (o_a : Nat → Nat) (o_th : Int32) (o_ts : Nat) (o_pl : Nat) (o_nf : Nat) (o_ne : Nat) (o_rf : Nat) (o_re : Nat) (o_ac : Nat) (o_cm : Nat) (o_sd : Int64) (o_wf : Int32) (o_sm : Int32) (o_sf : Int32) (o_rm : Int32) (o_rs : Int32)  (x : Int32) (hne : o_ne ≤ 5) : Cd g l yX6_noEater mX6_noEater ({ frames := 1, cells := 0, slots := 0, locals := 25 } : Room) [.ref (o_a 0), .int x] (wO g o_a o_th o_ts o_pl o_nf o_ne o_rf o_re o_ac o_cm o_sd o_wf o_sm o_sf o_rm o_rs) (some (.int (bI (!hasN o_ne x)))) (wO g o_a o_th o_ts o_pl o_nf o_ne o_rf o_re o_ac o_cm o_sd o_wf o_sm o_sf o_rm o_rs) := by
  refine Ct.of (lv := [(0, .ref (o_a 0)), (1, .int x)]) ⟨by decide +kernel, rfl, Nat.le_of_ble_eq_true rfl⟩ rfl (fun E A sz Q X hQ => ?_)
  refine V_iload_n nX6_noEater_0 rfl ?_
  refine V_i2l nX6_noEater_1 rfl ?_
  refine V_lconst (v := lN 0) nX6_noEater_2 rfl ?_
  refine V_aload_n nX6_noEater_3 rfl ?_
  refine V_get6 0 8 (by decide) f_RX6_79 nX6_noEater_4 rfl rfl ?_
  refine V_iconst (v := (nI 1)) nX6_noEater_7 rfl ?_
  refine V_isub (v := nI o_ne - nI 1) nX6_noEater_8 rfl ?_
  refine V_i2l nX6_noEater_9 rfl ?_
  refine V_cSi (ws' := wO g o_a o_th o_ts o_pl o_nf o_ne o_rf o_re o_ac o_cm o_sd o_wf o_sm o_sf o_rm o_rs) [] 3 X (c_X6_in g l   (Int32.toInt64 x) (lN 0) (Int32.toInt64 (nI o_ne - nI 1)) ) k_RX6_75 hy_X6_in.2 (by decide) rfl (by decide) nX6_noEater_10 rfl rfl (Nat.le_of_ble_eq_true rfl) rfl ?_
  refine V_topb (b := hasN o_ne x) (congrArg bI (inL_has (by omega) x)) ?_
  refine V_joinb (b := !(hasN o_ne x)) (pj := 21) (st := []) (fun J1 J2 => ?_) ?_
  · skip
    refine V_if_ne_b (tgt := 20) nX6_noEater_13 rfl (fun h13 => ?_) (fun h13 => ?_)
    · skip
      refine V_iconst (v := (nI 0)) nX6_noEater_20 rfl ?_
      exact J2 (by simp [h13])
    · skip
      refine V_iconst (v := (nI 1)) nX6_noEater_16 rfl ?_
      refine V_goto (tgt := 21) nX6_noEater_17 rfl ?_
      exact J1 (by simp [h13])
  exact R_z rfl X hQ nX6_noEater_21 (by simp only [List.map_append, wO_fst]) (⟨rfl, rfl⟩)

set_option maxHeartbeats 4000000 in
set_option maxRecDepth 100000 in
theorem c_X6_write (g : Gx) (l : Launch) (o_a : Nat → Nat) (o_th : Int32) (o_ts : Nat) (o_pl : Nat) (o_nf : Nat) (o_ne : Nat) (o_rf : Nat) (o_re : Nat) (o_ac : Nat) (o_cm : Nat) (o_sd : Int64) (o_wf : Int32) (o_sm : Int32) (o_sf : Int32) (o_rm : Int32) (o_rs : Int32) (t_f : Nat → Int32)  (x : Int32) (hn : o_ts ≤ 48) : Cd g l yX6_write mX6_write ({ frames := 1, cells := 0, slots := 0, locals := 25 } : Room) [.ref (o_a 0), .int x] ((wO g o_a o_th o_ts o_pl o_nf o_ne o_rf o_re o_ac o_cm o_sd o_wf o_sm o_sf o_rm o_rs) ++ (wI g (o_a 1) 48 t_f)) (some (.int (wrR o_ts x))) ((wO g o_a (nI 0) (wrN o_ts x) o_pl o_nf o_ne o_rf o_re o_ac o_cm o_sd o_wf o_sm o_sf o_rm o_rs) ++ (wI g (o_a 1) 48 (wrF t_f o_ts x))) := by
  refine Ct.of (lv := [(0, .ref (o_a 0)), (1, .int x)]) ⟨by decide +kernel, rfl, Nat.le_of_ble_eq_true rfl⟩ rfl (fun E A sz Q X hQ => ?_)
  refine V_aload_n nX6_write_0 rfl ?_
  refine V_iconst (v := (nI 0)) nX6_write_1 rfl ?_
  refine V_put6 (ws' := (wO g o_a (nI 0) o_ts o_pl o_nf o_ne o_rf o_re o_ac o_cm o_sd o_wf o_sm o_sf o_rm o_rs) ++ (wI g (o_a 1) 48 t_f)) 0 0 (by decide) f_RX6_68 rfl rfl rfl rfl nX6_write_2 rfl (Nat.le_of_ble_eq_true rfl) rfl ?_
  refine V_iload_n nX6_write_5 rfl ?_
  refine V_i2l nX6_write_6 rfl ?_
  refine V_lconst (v := lN 0) nX6_write_7 rfl ?_
  refine V_ldc2 (v := lN 255) ct_RX6_82 nX6_write_8 ?_
  refine V_cSi (ws' := (wO g o_a (nI 0) o_ts o_pl o_nf o_ne o_rf o_re o_ac o_cm o_sd o_wf o_sm o_sf o_rm o_rs) ++ (wI g (o_a 1) 48 t_f)) [] 3 X (c_X6_in g l   (Int32.toInt64 x) (lN 0) (lN 255) ) k_RX6_75 hy_X6_in.2 (by decide) rfl (by decide) nX6_write_11 rfl rfl (Nat.le_of_ble_eq_true rfl) rfl ?_
  refine V_topb (b := wrOk x) (congrArg bI (inL_rg (by decide) x)) ?_
  refine V_if_ne_b (tgt := 20) nX6_write_14 rfl (fun h14 => ?_) (fun h14 => ?_)
  · skip
    refine V_aload_n nX6_write_20 rfl ?_
    refine V_get6 0 2 (by decide) f_RX6_84 nX6_write_21 rfl rfl ?_
    refine V_bipush (v := (nI 48)) nX6_write_24 (by decide) ?_
    refine V_icmp_ne_N (tgt := 32) nX6_write_26 rfl (by omega) (by omega) (fun h26 => ?_) (fun h26 => ?_)
    · skip
      have k48 : o_ts < 48 := by omega
      refine V_aload_n nX6_write_32 rfl ?_
      refine V_get6 0 1 (by decide) f_RX6_7 nX6_write_33 rfl rfl ?_
      refine V_aload_n nX6_write_36 rfl ?_
      refine V_get6 0 2 (by decide) f_RX6_84 nX6_write_37 rfl rfl ?_
      refine V_iload_n nX6_write_40 rfl ?_
      refine V_iast (ws' := (wO g o_a (nI 0) o_ts o_pl o_nf o_ne o_rf o_re o_ac o_cm o_sd o_wf o_sm o_sf o_rm o_rs) ++ (wI g (o_a 1) 48 (upd t_f o_ts x))) 1 nX6_write_41 rfl (by omega) (by decide) rfl ?_
      refine V_aload_n nX6_write_42 rfl ?_
      refine V_dup nX6_write_43 rfl ?_
      refine V_get6 0 2 (by decide) f_RX6_84 nX6_write_44 rfl rfl ?_
      refine V_iconst (v := (nI 1)) nX6_write_47 rfl ?_
      refine V_iadd (v := nI (o_ts + 1)) nX6_write_48 (nI_add o_ts 1) ?_
      refine V_put6 (ws' := (wO g o_a (nI 0) (o_ts + 1) o_pl o_nf o_ne o_rf o_re o_ac o_cm o_sd o_wf o_sm o_sf o_rm o_rs) ++ (wI g (o_a 1) 48 (upd t_f o_ts x))) 0 2 (by decide) f_RX6_84 rfl rfl rfl rfl nX6_write_49 rfl (Nat.le_of_ble_eq_true rfl) rfl ?_
      refine V_aload_n nX6_write_52 rfl ?_
      refine V_get6 0 2 (by decide) f_RX6_84 nX6_write_53 rfl rfl ?_
      exact R_i rfl X hQ nX6_write_56 (by simp only [List.map_append, wI_fst, wO_fst]) (⟨by simp [wrR, h14, k48], by simp [wrN, wrF, h14, k48]⟩)
    · skip
      have k48 : ¬ o_ts < 48 := by omega
      refine V_bipush (v := (-4)) nX6_write_29 (by decide) ?_
      exact R_i rfl X hQ nX6_write_31 (by simp only [List.map_append, wI_fst, wO_fst]) (⟨by simp [wrR, h14, k48], by simp [wrN, wrF, h14, k48]⟩)
  · skip
    refine V_bipush (v := (-2)) nX6_write_17 (by decide) ?_
    exact R_i rfl X hQ nX6_write_19 (by simp only [List.map_append, wI_fst, wO_fst]) (⟨by simp [wrR, h14], by simp [wrN, wrF, h14]⟩)

set_option maxHeartbeats 4000000 in
set_option maxRecDepth 100000 in
theorem c_X6_wipe (g : Gx) (l : Launch) (o_a : Nat → Nat) (o_th : Int32) (o_ts : Nat) (o_pl : Nat) (o_nf : Nat) (o_ne : Nat) (o_rf : Nat) (o_re : Nat) (o_ac : Nat) (o_cm : Nat) (o_sd : Int64) (o_wf : Int32) (o_sm : Int32) (o_sf : Int32) (o_rm : Int32) (o_rs : Int32)    : Cd g l yX6_wipe mX6_wipe ({ frames := 0, cells := 0, slots := 0, locals := 0 } : Room) [.ref (o_a 0)] (wO g o_a o_th o_ts o_pl o_nf o_ne o_rf o_re o_ac o_cm o_sd o_wf o_sm o_sf o_rm o_rs) (some (.int (nI o_ts))) (wO g o_a (nI 0) 0 o_pl o_nf o_ne o_rf o_re o_ac o_cm o_sd o_wf o_sm o_sf o_rm o_rs) := by
  refine Ct.of (lv := [(0, .ref (o_a 0))]) ⟨by decide +kernel, rfl, Nat.le_of_ble_eq_true rfl⟩ rfl (fun E A sz Q X hQ => ?_)
  refine V_aload_n nX6_wipe_0 rfl ?_
  refine V_iconst (v := (nI 0)) nX6_wipe_1 rfl ?_
  refine V_put6 (ws' := wO g o_a (nI 0) o_ts o_pl o_nf o_ne o_rf o_re o_ac o_cm o_sd o_wf o_sm o_sf o_rm o_rs) 0 0 (by decide) f_RX6_68 rfl rfl rfl rfl nX6_wipe_2 rfl (Nat.le_of_ble_eq_true rfl) rfl ?_
  refine V_aload_n nX6_wipe_5 rfl ?_
  refine V_get6 0 2 (by decide) f_RX6_84 nX6_wipe_6 rfl rfl ?_
  refine V_istore_n (lv' := [(0, .ref (o_a 0)), (1, .int (nI o_ts))]) nX6_wipe_9 (by decide) rfl ?_
  refine V_aload_n nX6_wipe_10 rfl ?_
  refine V_iconst (v := (nI 0)) nX6_wipe_11 rfl ?_
  refine V_put6 (ws' := wO g o_a (nI 0) 0 o_pl o_nf o_ne o_rf o_re o_ac o_cm o_sd o_wf o_sm o_sf o_rm o_rs) 0 2 (by decide) f_RX6_84 rfl rfl rfl rfl nX6_wipe_12 rfl (Nat.le_of_ble_eq_true rfl) rfl ?_
  refine V_iload_n nX6_wipe_15 rfl ?_
  exact R_i rfl X hQ nX6_wipe_16 (by simp only [List.map_append, wO_fst]) (⟨rfl, rfl⟩)

set_option maxHeartbeats 4000000 in
set_option maxRecDepth 100000 in
theorem c_X6_figure_y (g : Gx) (l : Launch) (o_a : Nat → Nat) (o_th : Int32) (o_ts : Nat) (o_pl : Nat) (o_nf : Nat) (o_ne : Nat) (o_rf : Nat) (o_re : Nat) (o_ac : Nat) (o_cm : Nat) (o_sd : Int64) (o_wf : Int32) (o_sm : Int32) (o_sf : Int32) (o_rm : Int32) (o_rs : Int32) (t_f : Nat → Int32)  (lo : Nat) (hi : Nat) (hn : o_ts ≤ 48) (hp : o_pl ≤ o_ts) (hlo : lo < 100) (hhi : hi < 100) (hk : fgOk t_f o_ts o_pl lo hi = true) : Cd g l yX6_figure mX6_figure ({ frames := 1, cells := 0, slots := 0, locals := 25 } : Room) [.ref (o_a 0), .int (nI lo), .int (nI hi)] ((wO g o_a o_th o_ts o_pl o_nf o_ne o_rf o_re o_ac o_cm o_sd o_wf o_sm o_sf o_rm o_rs) ++ (wI g (o_a 1) 48 t_f)) (some (.int (t_f o_pl - nI 48))) ((wO g o_a o_th o_ts (o_pl + 1) o_nf o_ne o_rf o_re o_ac o_cm o_sd o_wf o_sm o_sf o_rm o_rs) ++ (wI g (o_a 1) 48 t_f)) := by
  refine Ct.of (lv := [(0, .ref (o_a 0)), (1, .int (nI lo)), (2, .int (nI hi))]) ⟨by decide +kernel, rfl, Nat.le_of_ble_eq_true rfl⟩ rfl (fun E A sz Q X hQ => ?_)
  refine V_aload_n nX6_figure_0 rfl ?_
  refine V_get6 0 3 (by decide) f_RX6_87 nX6_figure_1 rfl rfl ?_
  refine V_aload_n nX6_figure_4 rfl ?_
  refine V_get6 0 2 (by decide) f_RX6_84 nX6_figure_5 rfl rfl ?_
  refine V_icmp_eq_N (tgt := 34) nX6_figure_8 rfl (by omega) (by omega) (fun h8 => ?_) (fun h8 => ?_)
  · skip
    exact absurd hk (by simp [fgOk, h8])
  · skip
    refine V_aload_n nX6_figure_11 rfl ?_
    refine V_get6 0 1 (by decide) f_RX6_7 nX6_figure_12 rfl rfl ?_
    refine V_aload_n nX6_figure_15 rfl ?_
    refine V_get6 0 3 (by decide) f_RX6_87 nX6_figure_16 rfl rfl ?_
    refine V_iald 1 nX6_figure_19 rfl (by omega) (by decide) rfl ?_
    refine V_bipush (v := (nI 48)) nX6_figure_20 (by decide) ?_
    refine V_isub (v := (t_f o_pl) - (nI 48)) nX6_figure_22 rfl ?_
    refine V_i2l nX6_figure_23 rfl ?_
    refine V_iload_n nX6_figure_24 rfl ?_
    refine V_i2l (v := lN lo) nX6_figure_25 (nI_l (by omega)) ?_
    refine V_iload_n nX6_figure_26 rfl ?_
    refine V_i2l (v := lN hi) nX6_figure_27 (nI_l (by omega)) ?_
    refine V_cSi (ws' := (wO g o_a o_th o_ts o_pl o_nf o_ne o_rf o_re o_ac o_cm o_sd o_wf o_sm o_sf o_rm o_rs) ++ (wI g (o_a 1) 48 t_f)) [] 3 X (c_X6_in g l   (Int32.toInt64 ((t_f o_pl) - (nI 48))) (lN lo) (lN hi) ) k_RX6_75 hy_X6_in.2 (by decide) rfl (by decide) nX6_figure_28 rfl rfl (Nat.le_of_ble_eq_true rfl) rfl ?_
    refine V_if_ne_b (tgt := 37) nX6_figure_31 rfl (fun h31 => ?_) (fun h31 => ?_)
    · skip
      refine V_aload_n nX6_figure_37 rfl ?_
      refine V_dup nX6_figure_38 rfl ?_
      refine V_get6 0 3 (by decide) f_RX6_87 nX6_figure_39 rfl rfl ?_
      refine V_iconst (v := (nI 1)) nX6_figure_42 rfl ?_
      refine V_iadd (v := nI (o_pl + 1)) nX6_figure_43 (nI_add o_pl 1) ?_
      refine V_put6 (ws' := (wO g o_a o_th o_ts (o_pl + 1) o_nf o_ne o_rf o_re o_ac o_cm o_sd o_wf o_sm o_sf o_rm o_rs) ++ (wI g (o_a 1) 48 t_f)) 0 3 (by decide) f_RX6_87 rfl rfl rfl rfl nX6_figure_44 rfl (Nat.le_of_ble_eq_true rfl) rfl ?_
      refine V_aload_n nX6_figure_47 rfl ?_
      refine V_get6 0 1 (by decide) f_RX6_7 nX6_figure_48 rfl rfl ?_
      refine V_aload_n nX6_figure_51 rfl ?_
      refine V_get6 0 3 (by decide) f_RX6_87 nX6_figure_52 rfl rfl ?_
      refine V_iconst (v := (nI 1)) nX6_figure_55 rfl ?_
      refine V_isub (v := nI ((o_pl + 1) - 1)) nX6_figure_56 (pk_sub (by omega)) ?_
      refine V_iald 1 nX6_figure_57 rfl (by omega) (by decide) rfl ?_
      refine V_bipush (v := (nI 48)) nX6_figure_58 (by decide) ?_
      refine V_isub (v := (t_f ((o_pl + 1) - 1)) - (nI 48)) nX6_figure_60 rfl ?_
      exact R_i rfl X hQ nX6_figure_61 (by simp only [List.map_append, wI_fst, wO_fst]) (⟨rfl, rfl⟩)
    · skip
      exact absurd hk (by simp [fgOk, h31])

set_option maxHeartbeats 4000000 in
set_option maxRecDepth 100000 in
theorem c_X6_figure_n (g : Gx) (l : Launch) (o_a : Nat → Nat) (o_th : Int32) (o_ts : Nat) (o_pl : Nat) (o_nf : Nat) (o_ne : Nat) (o_rf : Nat) (o_re : Nat) (o_ac : Nat) (o_cm : Nat) (o_sd : Int64) (o_wf : Int32) (o_sm : Int32) (o_sf : Int32) (o_rm : Int32) (o_rs : Int32) (t_f : Nat → Int32)  (lo : Nat) (hi : Nat) (hn : o_ts ≤ 48) (hp : o_pl ≤ o_ts) (hlo : lo < 100) (hhi : hi < 100) (hk : fgOk t_f o_ts o_pl lo hi = false) : Cd g l yX6_figure mX6_figure ({ frames := 1, cells := 0, slots := 0, locals := 25 } : Room) [.ref (o_a 0), .int (nI lo), .int (nI hi)] ((wO g o_a o_th o_ts o_pl o_nf o_ne o_rf o_re o_ac o_cm o_sd o_wf o_sm o_sf o_rm o_rs) ++ (wI g (o_a 1) 48 t_f)) (some (.int (-9))) ((wO g o_a o_th o_ts o_pl o_nf o_ne o_rf o_re o_ac o_cm o_sd o_wf o_sm o_sf o_rm o_rs) ++ (wI g (o_a 1) 48 t_f)) := by
  refine Ct.of (lv := [(0, .ref (o_a 0)), (1, .int (nI lo)), (2, .int (nI hi))]) ⟨by decide +kernel, rfl, Nat.le_of_ble_eq_true rfl⟩ rfl (fun E A sz Q X hQ => ?_)
  refine V_aload_n nX6_figure_0 rfl ?_
  refine V_get6 0 3 (by decide) f_RX6_87 nX6_figure_1 rfl rfl ?_
  refine V_aload_n nX6_figure_4 rfl ?_
  refine V_get6 0 2 (by decide) f_RX6_84 nX6_figure_5 rfl rfl ?_
  refine V_icmp_eq_N (tgt := 34) nX6_figure_8 rfl (by omega) (by omega) (fun h8 => ?_) (fun h8 => ?_)
  · skip
    refine V_bipush (v := (-9)) nX6_figure_34 (by decide) ?_
    exact R_i rfl X hQ nX6_figure_36 (by simp only [List.map_append, wI_fst, wO_fst]) (⟨rfl, rfl⟩)
  · skip
    refine V_aload_n nX6_figure_11 rfl ?_
    refine V_get6 0 1 (by decide) f_RX6_7 nX6_figure_12 rfl rfl ?_
    refine V_aload_n nX6_figure_15 rfl ?_
    refine V_get6 0 3 (by decide) f_RX6_87 nX6_figure_16 rfl rfl ?_
    refine V_iald 1 nX6_figure_19 rfl (by omega) (by decide) rfl ?_
    refine V_bipush (v := (nI 48)) nX6_figure_20 (by decide) ?_
    refine V_isub (v := (t_f o_pl) - (nI 48)) nX6_figure_22 rfl ?_
    refine V_i2l nX6_figure_23 rfl ?_
    refine V_iload_n nX6_figure_24 rfl ?_
    refine V_i2l (v := lN lo) nX6_figure_25 (nI_l (by omega)) ?_
    refine V_iload_n nX6_figure_26 rfl ?_
    refine V_i2l (v := lN hi) nX6_figure_27 (nI_l (by omega)) ?_
    refine V_cSi (ws' := (wO g o_a o_th o_ts o_pl o_nf o_ne o_rf o_re o_ac o_cm o_sd o_wf o_sm o_sf o_rm o_rs) ++ (wI g (o_a 1) 48 t_f)) [] 3 X (c_X6_in g l   (Int32.toInt64 ((t_f o_pl) - (nI 48))) (lN lo) (lN hi) ) k_RX6_75 hy_X6_in.2 (by decide) rfl (by decide) nX6_figure_28 rfl rfl (Nat.le_of_ble_eq_true rfl) rfl ?_
    refine V_if_ne_b (tgt := 37) nX6_figure_31 rfl (fun h31 => ?_) (fun h31 => ?_)
    · skip
      exact absurd hk (by simp [fgOk, h31, h8])
    · skip
      refine V_bipush (v := (-9)) nX6_figure_34 (by decide) ?_
      exact R_i rfl X hQ nX6_figure_36 (by simp only [List.map_append, wI_fst, wO_fst]) (⟨rfl, rfl⟩)

set_option maxHeartbeats 4000000 in
set_option maxRecDepth 100000 in
theorem c_X6_readOneField (g : Gx) (l : Launch) (o_a : Nat → Nat) (o_th : Int32) (o_ts : Nat) (o_pl : Nat) (o_nf : Nat) (o_ne : Nat) (o_rf : Nat) (o_re : Nat) (o_ac : Nat) (o_cm : Nat) (o_sd : Int64) (o_wf : Int32) (o_sm : Int32) (o_sf : Int32) (o_rm : Int32) (o_rs : Int32) (t_f : Nat → Int32) (z_f : Nat → Int32)   (hn : o_ts ≤ 48) (hp : o_pl ≤ o_ts) (hk : o_rf < 4) : Cd g l yX6_readOneField mX6_readOneField ({ frames := 2, cells := 0, slots := 0, locals := 47 } : Room) [.ref (o_a 0)] ((wO g o_a o_th o_ts o_pl o_nf o_ne o_rf o_re o_ac o_cm o_sd o_wf o_sm o_sf o_rm o_rs) ++ (wI g (o_a 1) 48 t_f) ++ (wI g (o_a 8) 12 z_f)) (some (.int (bI (o3B t_f o_ts o_pl 1 9)))) ((wO g o_a o_th o_ts (o3Q t_f o_ts o_pl 1 9) o_nf o_ne (if o3B t_f o_ts o_pl 1 9 = true then o_rf + 1 else o_rf) o_re o_ac o_cm o_sd o_wf o_sm o_sf o_rm o_rs) ++ (wI g (o_a 1) 48 t_f) ++ (wI g (o_a 8) 12 (if o3B t_f o_ts o_pl 1 9 = true then o3A t_f o_pl o_rf z_f else z_f))) := by
  refine Ct.of (lv := [(0, .ref (o_a 0))]) ⟨by decide +kernel, rfl, Nat.le_of_ble_eq_true rfl⟩ rfl (fun E A sz Q X hQ => ?_)
  refine V_aload_n nX6_readOneField_0 rfl ?_
  refine V_iconst (v := (nI 0)) nX6_readOneField_1 rfl ?_
  refine V_bipush (v := (nI 9)) nX6_readOneField_2 (by decide) ?_
  rcases Bool.eq_false_or_eq_true (fgOk t_f o_ts o_pl 0 9) with k1 | k1
  · skip
    have nk1 : o_pl < o_ts := by
      have e := k1
      unfold fgOk at e
      rw [Bool.and_eq_true, Bool.not_eq_true', decide_eq_false_iff_not] at e
      omega
    refine V_blk (ws' := ((wO g o_a o_th o_ts o_pl o_nf o_ne o_rf o_re o_ac o_cm o_sd o_wf o_sm o_sf o_rm o_rs) ++ (wI g (o_a 1) 48 t_f)) ++ ((wI g (o_a 8) 12 z_f))) [wO g o_a o_th o_ts o_pl o_nf o_ne o_rf o_re o_ac o_cm o_sd o_wf o_sm o_sf o_rm o_rs, wI g (o_a 1) 48 t_f, wI g (o_a 8) 12 z_f] [0, 1, 2] rfl (by simp only [List.flatten_cons, List.flatten_nil, List.append_nil, List.append_assoc]) (by show List.flatten [wO g o_a o_th o_ts o_pl o_nf o_ne o_rf o_re o_ac o_cm o_sd o_wf o_sm o_sf o_rm o_rs, wI g (o_a 1) 48 t_f, wI g (o_a 8) 12 z_f] = _; simp only [List.flatten_cons, List.flatten_nil, List.append_nil, List.append_assoc]) ?_
    refine V_cVi (C := (RX6, TX6, 34)) (ci := 6) (ws' := ((wO g o_a o_th o_ts (o_pl + 1) o_nf o_ne o_rf o_re o_ac o_cm o_sd o_wf o_sm o_sf o_rm o_rs) ++ (wI g (o_a 1) 48 t_f)) ++ ((wI g (o_a 8) 12 z_f))) (List.range _) 2 X (c_X6_figure_y g l o_a o_th o_ts o_pl o_nf o_ne o_rf o_re o_ac o_cm o_sd o_wf o_sm o_sf o_rm o_rs t_f  0 9 (by omega) (by omega) (by omega) (by omega) (k1)) k_RX6_90 hy_X6_figure (by decide) (range_at _ _) (range_nd _) 0 rfl rfl nX6_readOneField_4 rfl rfl (Nat.le_of_ble_eq_true rfl) (wput_range _ _ _ (by simp only [List.length_append, wI_len, wO_len])) ?_
    refine V_blk (ws' := (wO g o_a o_th o_ts (o_pl + 1) o_nf o_ne o_rf o_re o_ac o_cm o_sd o_wf o_sm o_sf o_rm o_rs) ++ (wI g (o_a 1) 48 t_f) ++ (wI g (o_a 8) 12 z_f)) [wO g o_a o_th o_ts (o_pl + 1) o_nf o_ne o_rf o_re o_ac o_cm o_sd o_wf o_sm o_sf o_rm o_rs, wI g (o_a 1) 48 t_f, wI g (o_a 8) 12 z_f] [0, 1, 2] rfl (by simp only [List.flatten_cons, List.flatten_nil, List.append_nil, List.append_assoc]) (by show List.flatten [wO g o_a o_th o_ts (o_pl + 1) o_nf o_ne o_rf o_re o_ac o_cm o_sd o_wf o_sm o_sf o_rm o_rs, wI g (o_a 1) 48 t_f, wI g (o_a 8) 12 z_f] = _; simp only [List.flatten_cons, List.flatten_nil, List.append_nil, List.append_assoc]) ?_
    refine V_istore_n (lv' := [(0, .ref (o_a 0)), (1, .int (t_f o_pl - nI 48))]) nX6_readOneField_7 (by decide) rfl ?_
    refine V_iload_n nX6_readOneField_8 rfl ?_
    refine V_bipush (v := (-9)) nX6_readOneField_9 (by decide) ?_
    refine V_icmp_ne (tgt := 19) nX6_readOneField_11 rfl (fun h11 => ?_) (fun h11 => ?_)
    · skip
      refine V_aload_n nX6_readOneField_19 rfl ?_
      refine V_iconst (v := (nI 1)) nX6_readOneField_20 rfl ?_
      refine V_bipush (v := (nI 9)) nX6_readOneField_21 (by decide) ?_
      rcases Bool.eq_false_or_eq_true (fgOk t_f o_ts (o_pl + 1) 1 9) with k2 | k2
      · skip
        have nk2 : o_pl + 1 < o_ts := by
          have e := k2
          unfold fgOk at e
          rw [Bool.and_eq_true, Bool.not_eq_true', decide_eq_false_iff_not] at e
          omega
        refine V_blk (ws' := ((wO g o_a o_th o_ts (o_pl + 1) o_nf o_ne o_rf o_re o_ac o_cm o_sd o_wf o_sm o_sf o_rm o_rs) ++ (wI g (o_a 1) 48 t_f)) ++ ((wI g (o_a 8) 12 z_f))) [wO g o_a o_th o_ts (o_pl + 1) o_nf o_ne o_rf o_re o_ac o_cm o_sd o_wf o_sm o_sf o_rm o_rs, wI g (o_a 1) 48 t_f, wI g (o_a 8) 12 z_f] [0, 1, 2] rfl (by simp only [List.flatten_cons, List.flatten_nil, List.append_nil, List.append_assoc]) (by show List.flatten [wO g o_a o_th o_ts (o_pl + 1) o_nf o_ne o_rf o_re o_ac o_cm o_sd o_wf o_sm o_sf o_rm o_rs, wI g (o_a 1) 48 t_f, wI g (o_a 8) 12 z_f] = _; simp only [List.flatten_cons, List.flatten_nil, List.append_nil, List.append_assoc]) ?_
        refine V_cVi (C := (RX6, TX6, 34)) (ci := 6) (ws' := ((wO g o_a o_th o_ts ((o_pl + 1) + 1) o_nf o_ne o_rf o_re o_ac o_cm o_sd o_wf o_sm o_sf o_rm o_rs) ++ (wI g (o_a 1) 48 t_f)) ++ ((wI g (o_a 8) 12 z_f))) (List.range _) 2 X (c_X6_figure_y g l o_a o_th o_ts (o_pl + 1) o_nf o_ne o_rf o_re o_ac o_cm o_sd o_wf o_sm o_sf o_rm o_rs t_f  1 9 (by omega) (by omega) (by omega) (by omega) (k2)) k_RX6_90 hy_X6_figure (by decide) (range_at _ _) (range_nd _) 0 rfl rfl nX6_readOneField_23 rfl rfl (Nat.le_of_ble_eq_true rfl) (wput_range _ _ _ (by simp only [List.length_append, wI_len, wO_len])) ?_
        refine V_blk (ws' := (wO g o_a o_th o_ts ((o_pl + 1) + 1) o_nf o_ne o_rf o_re o_ac o_cm o_sd o_wf o_sm o_sf o_rm o_rs) ++ (wI g (o_a 1) 48 t_f) ++ (wI g (o_a 8) 12 z_f)) [wO g o_a o_th o_ts ((o_pl + 1) + 1) o_nf o_ne o_rf o_re o_ac o_cm o_sd o_wf o_sm o_sf o_rm o_rs, wI g (o_a 1) 48 t_f, wI g (o_a 8) 12 z_f] [0, 1, 2] rfl (by simp only [List.flatten_cons, List.flatten_nil, List.append_nil, List.append_assoc]) (by show List.flatten [wO g o_a o_th o_ts ((o_pl + 1) + 1) o_nf o_ne o_rf o_re o_ac o_cm o_sd o_wf o_sm o_sf o_rm o_rs, wI g (o_a 1) 48 t_f, wI g (o_a 8) 12 z_f] = _; simp only [List.flatten_cons, List.flatten_nil, List.append_nil, List.append_assoc]) ?_
        refine V_istore_n (lv' := [(0, .ref (o_a 0)), (1, .int (t_f o_pl - nI 48)), (2, .int (t_f (o_pl + 1) - nI 48))]) nX6_readOneField_26 (by decide) rfl ?_
        refine V_iload_n nX6_readOneField_27 rfl ?_
        refine V_bipush (v := (-9)) nX6_readOneField_28 (by decide) ?_
        refine V_icmp_ne (tgt := 38) nX6_readOneField_30 rfl (fun h30 => ?_) (fun h30 => ?_)
        · skip
          refine V_aload_n nX6_readOneField_38 rfl ?_
          refine V_iconst (v := (nI 1)) nX6_readOneField_39 rfl ?_
          refine V_bipush (v := (nI 9)) nX6_readOneField_40 (by decide) ?_
          rcases Bool.eq_false_or_eq_true (fgOk t_f o_ts (o_pl + 2) 1 9) with k3 | k3
          · skip
            have nk3 : o_pl + 2 < o_ts := by
              have e := k3
              unfold fgOk at e
              rw [Bool.and_eq_true, Bool.not_eq_true', decide_eq_false_iff_not] at e
              omega
            refine V_blk (ws' := ((wO g o_a o_th o_ts ((o_pl + 1) + 1) o_nf o_ne o_rf o_re o_ac o_cm o_sd o_wf o_sm o_sf o_rm o_rs) ++ (wI g (o_a 1) 48 t_f)) ++ ((wI g (o_a 8) 12 z_f))) [wO g o_a o_th o_ts ((o_pl + 1) + 1) o_nf o_ne o_rf o_re o_ac o_cm o_sd o_wf o_sm o_sf o_rm o_rs, wI g (o_a 1) 48 t_f, wI g (o_a 8) 12 z_f] [0, 1, 2] rfl (by simp only [List.flatten_cons, List.flatten_nil, List.append_nil, List.append_assoc]) (by show List.flatten [wO g o_a o_th o_ts ((o_pl + 1) + 1) o_nf o_ne o_rf o_re o_ac o_cm o_sd o_wf o_sm o_sf o_rm o_rs, wI g (o_a 1) 48 t_f, wI g (o_a 8) 12 z_f] = _; simp only [List.flatten_cons, List.flatten_nil, List.append_nil, List.append_assoc]) ?_
            refine V_cVi (C := (RX6, TX6, 34)) (ci := 6) (ws' := ((wO g o_a o_th o_ts (((o_pl + 1) + 1) + 1) o_nf o_ne o_rf o_re o_ac o_cm o_sd o_wf o_sm o_sf o_rm o_rs) ++ (wI g (o_a 1) 48 t_f)) ++ ((wI g (o_a 8) 12 z_f))) (List.range _) 2 X (c_X6_figure_y g l o_a o_th o_ts ((o_pl + 1) + 1) o_nf o_ne o_rf o_re o_ac o_cm o_sd o_wf o_sm o_sf o_rm o_rs t_f  1 9 (by omega) (by omega) (by omega) (by omega) (k3)) k_RX6_90 hy_X6_figure (by decide) (range_at _ _) (range_nd _) 0 rfl rfl nX6_readOneField_42 rfl rfl (Nat.le_of_ble_eq_true rfl) (wput_range _ _ _ (by simp only [List.length_append, wI_len, wO_len])) ?_
            refine V_blk (ws' := (wO g o_a o_th o_ts (((o_pl + 1) + 1) + 1) o_nf o_ne o_rf o_re o_ac o_cm o_sd o_wf o_sm o_sf o_rm o_rs) ++ (wI g (o_a 1) 48 t_f) ++ (wI g (o_a 8) 12 z_f)) [wO g o_a o_th o_ts (((o_pl + 1) + 1) + 1) o_nf o_ne o_rf o_re o_ac o_cm o_sd o_wf o_sm o_sf o_rm o_rs, wI g (o_a 1) 48 t_f, wI g (o_a 8) 12 z_f] [0, 1, 2] rfl (by simp only [List.flatten_cons, List.flatten_nil, List.append_nil, List.append_assoc]) (by show List.flatten [wO g o_a o_th o_ts (((o_pl + 1) + 1) + 1) o_nf o_ne o_rf o_re o_ac o_cm o_sd o_wf o_sm o_sf o_rm o_rs, wI g (o_a 1) 48 t_f, wI g (o_a 8) 12 z_f] = _; simp only [List.flatten_cons, List.flatten_nil, List.append_nil, List.append_assoc]) ?_
            refine V_istore_n (lv' := [(0, .ref (o_a 0)), (1, .int (t_f o_pl - nI 48)), (2, .int (t_f (o_pl + 1) - nI 48)), (3, .int (t_f ((o_pl + 1) + 1) - nI 48))]) nX6_readOneField_45 (by decide) rfl ?_
            refine V_iload_n nX6_readOneField_46 rfl ?_
            refine V_bipush (v := (-9)) nX6_readOneField_47 (by decide) ?_
            refine V_icmp_ne (tgt := 54) nX6_readOneField_49 rfl (fun h49 => ?_) (fun h49 => ?_)
            · skip
              refine V_aload_n nX6_readOneField_54 rfl ?_
              refine V_get6 0 13 (by decide) f_RX6_31 nX6_readOneField_55 rfl rfl ?_
              refine V_iconst (v := (nI 3)) nX6_readOneField_58 rfl ?_
              refine V_aload_n nX6_readOneField_59 rfl ?_
              refine V_get6 0 12 (by decide) f_RX6_94 nX6_readOneField_60 rfl rfl ?_
              refine V_imul (v := nI (3 * o_rf)) nX6_readOneField_63 (pk_mul 3 o_rf) ?_
              refine V_iload_n nX6_readOneField_64 rfl ?_
              refine V_iast (ws' := (wO g o_a o_th o_ts (((o_pl + 1) + 1) + 1) o_nf o_ne o_rf o_re o_ac o_cm o_sd o_wf o_sm o_sf o_rm o_rs) ++ (wI g (o_a 1) 48 t_f) ++ (wI g (o_a 8) 12 (upd z_f (3 * o_rf) (t_f o_pl - nI 48)))) 2 nX6_readOneField_65 rfl (by omega) (by decide) rfl ?_
              refine V_aload_n nX6_readOneField_66 rfl ?_
              refine V_get6 0 13 (by decide) f_RX6_31 nX6_readOneField_67 rfl rfl ?_
              refine V_iconst (v := (nI 3)) nX6_readOneField_70 rfl ?_
              refine V_aload_n nX6_readOneField_71 rfl ?_
              refine V_get6 0 12 (by decide) f_RX6_94 nX6_readOneField_72 rfl rfl ?_
              refine V_imul (v := nI (3 * o_rf)) nX6_readOneField_75 (pk_mul 3 o_rf) ?_
              refine V_iconst (v := (nI 1)) nX6_readOneField_76 rfl ?_
              refine V_iadd (v := nI ((3 * o_rf) + 1)) nX6_readOneField_77 (nI_add (3 * o_rf) 1) ?_
              refine V_iload_n nX6_readOneField_78 rfl ?_
              refine V_iast (ws' := (wO g o_a o_th o_ts (((o_pl + 1) + 1) + 1) o_nf o_ne o_rf o_re o_ac o_cm o_sd o_wf o_sm o_sf o_rm o_rs) ++ (wI g (o_a 1) 48 t_f) ++ (wI g (o_a 8) 12 (upd (upd z_f (3 * o_rf) (t_f o_pl - nI 48)) ((3 * o_rf) + 1) (t_f (o_pl + 1) - nI 48)))) 2 nX6_readOneField_79 rfl (by omega) (by decide) rfl ?_
              refine V_aload_n nX6_readOneField_80 rfl ?_
              refine V_get6 0 13 (by decide) f_RX6_31 nX6_readOneField_81 rfl rfl ?_
              refine V_iconst (v := (nI 3)) nX6_readOneField_84 rfl ?_
              refine V_aload_n nX6_readOneField_85 rfl ?_
              refine V_get6 0 12 (by decide) f_RX6_94 nX6_readOneField_86 rfl rfl ?_
              refine V_imul (v := nI (3 * o_rf)) nX6_readOneField_89 (pk_mul 3 o_rf) ?_
              refine V_iconst (v := (nI 2)) nX6_readOneField_90 rfl ?_
              refine V_iadd (v := nI ((3 * o_rf) + 2)) nX6_readOneField_91 (nI_add (3 * o_rf) 2) ?_
              refine V_iload_n nX6_readOneField_92 rfl ?_
              refine V_iast (ws' := (wO g o_a o_th o_ts (((o_pl + 1) + 1) + 1) o_nf o_ne o_rf o_re o_ac o_cm o_sd o_wf o_sm o_sf o_rm o_rs) ++ (wI g (o_a 1) 48 t_f) ++ (wI g (o_a 8) 12 (upd (upd (upd z_f (3 * o_rf) (t_f o_pl - nI 48)) ((3 * o_rf) + 1) (t_f (o_pl + 1) - nI 48)) ((3 * o_rf) + 2) (t_f ((o_pl + 1) + 1) - nI 48)))) 2 nX6_readOneField_93 rfl (by omega) (by decide) rfl ?_
              refine V_aload_n nX6_readOneField_94 rfl ?_
              refine V_dup nX6_readOneField_95 rfl ?_
              refine V_get6 0 12 (by decide) f_RX6_94 nX6_readOneField_96 rfl rfl ?_
              refine V_iconst (v := (nI 1)) nX6_readOneField_99 rfl ?_
              refine V_iadd (v := nI (o_rf + 1)) nX6_readOneField_100 (nI_add o_rf 1) ?_
              refine V_put6 (ws' := (wO g o_a o_th o_ts (((o_pl + 1) + 1) + 1) o_nf o_ne (o_rf + 1) o_re o_ac o_cm o_sd o_wf o_sm o_sf o_rm o_rs) ++ (wI g (o_a 1) 48 t_f) ++ (wI g (o_a 8) 12 (upd (upd (upd z_f (3 * o_rf) (t_f o_pl - nI 48)) ((3 * o_rf) + 1) (t_f (o_pl + 1) - nI 48)) ((3 * o_rf) + 2) (t_f ((o_pl + 1) + 1) - nI 48)))) 0 12 (by decide) f_RX6_94 rfl rfl rfl rfl nX6_readOneField_101 rfl (Nat.le_of_ble_eq_true rfl) rfl ?_
              refine V_iconst (v := (nI 1)) nX6_readOneField_104 rfl ?_
              refine V_top (y := bI true) rfl ?_
              exact R_z rfl X hQ nX6_readOneField_105 (by simp only [List.map_append, wI_fst, wO_fst]) (⟨by simp [o3B, k1, k2, k3], by simp [o3B, o3Q, o3A, k1, k2, k3]⟩)
            · skip
              exact absurd h49 (fg_ne (by decide) k3)
          · skip
            refine V_blk (ws' := ((wO g o_a o_th o_ts ((o_pl + 1) + 1) o_nf o_ne o_rf o_re o_ac o_cm o_sd o_wf o_sm o_sf o_rm o_rs) ++ (wI g (o_a 1) 48 t_f)) ++ ((wI g (o_a 8) 12 z_f))) [wO g o_a o_th o_ts ((o_pl + 1) + 1) o_nf o_ne o_rf o_re o_ac o_cm o_sd o_wf o_sm o_sf o_rm o_rs, wI g (o_a 1) 48 t_f, wI g (o_a 8) 12 z_f] [0, 1, 2] rfl (by simp only [List.flatten_cons, List.flatten_nil, List.append_nil, List.append_assoc]) (by show List.flatten [wO g o_a o_th o_ts ((o_pl + 1) + 1) o_nf o_ne o_rf o_re o_ac o_cm o_sd o_wf o_sm o_sf o_rm o_rs, wI g (o_a 1) 48 t_f, wI g (o_a 8) 12 z_f] = _; simp only [List.flatten_cons, List.flatten_nil, List.append_nil, List.append_assoc]) ?_
            refine V_cVi (C := (RX6, TX6, 34)) (ci := 6) (ws' := ((wO g o_a o_th o_ts ((o_pl + 1) + 1) o_nf o_ne o_rf o_re o_ac o_cm o_sd o_wf o_sm o_sf o_rm o_rs) ++ (wI g (o_a 1) 48 t_f)) ++ ((wI g (o_a 8) 12 z_f))) (List.range _) 2 X (c_X6_figure_n g l o_a o_th o_ts ((o_pl + 1) + 1) o_nf o_ne o_rf o_re o_ac o_cm o_sd o_wf o_sm o_sf o_rm o_rs t_f  1 9 (by omega) (by omega) (by omega) (by omega) (k3)) k_RX6_90 hy_X6_figure (by decide) (range_at _ _) (range_nd _) 0 rfl rfl nX6_readOneField_42 rfl rfl (Nat.le_of_ble_eq_true rfl) (wput_range _ _ _ (by simp only [List.length_append, wI_len, wO_len])) ?_
            refine V_blk (ws' := (wO g o_a o_th o_ts ((o_pl + 1) + 1) o_nf o_ne o_rf o_re o_ac o_cm o_sd o_wf o_sm o_sf o_rm o_rs) ++ (wI g (o_a 1) 48 t_f) ++ (wI g (o_a 8) 12 z_f)) [wO g o_a o_th o_ts ((o_pl + 1) + 1) o_nf o_ne o_rf o_re o_ac o_cm o_sd o_wf o_sm o_sf o_rm o_rs, wI g (o_a 1) 48 t_f, wI g (o_a 8) 12 z_f] [0, 1, 2] rfl (by simp only [List.flatten_cons, List.flatten_nil, List.append_nil, List.append_assoc]) (by show List.flatten [wO g o_a o_th o_ts ((o_pl + 1) + 1) o_nf o_ne o_rf o_re o_ac o_cm o_sd o_wf o_sm o_sf o_rm o_rs, wI g (o_a 1) 48 t_f, wI g (o_a 8) 12 z_f] = _; simp only [List.flatten_cons, List.flatten_nil, List.append_nil, List.append_assoc]) ?_
            refine V_istore_n (lv' := [(0, .ref (o_a 0)), (1, .int (t_f o_pl - nI 48)), (2, .int (t_f (o_pl + 1) - nI 48)), (3, .int (-9))]) nX6_readOneField_45 (by decide) rfl ?_
            refine V_iload_n nX6_readOneField_46 rfl ?_
            refine V_bipush (v := (-9)) nX6_readOneField_47 (by decide) ?_
            refine V_icmp_ne (tgt := 54) nX6_readOneField_49 rfl (fun h49 => ?_) (fun h49 => ?_)
            · skip
              exact absurd rfl h49
            · skip
              refine V_iconst (v := (nI 0)) nX6_readOneField_52 rfl ?_
              refine V_top (y := bI false) rfl ?_
              exact R_z rfl X hQ nX6_readOneField_53 (by simp only [List.map_append, wI_fst, wO_fst]) (⟨by simp [o3B, k1, k2, k3], by simp [o3B, o3Q, o3A, k1, k2, k3]⟩)
        · skip
          exact absurd h30 (fg_ne (by decide) k2)
      · skip
        refine V_blk (ws' := ((wO g o_a o_th o_ts (o_pl + 1) o_nf o_ne o_rf o_re o_ac o_cm o_sd o_wf o_sm o_sf o_rm o_rs) ++ (wI g (o_a 1) 48 t_f)) ++ ((wI g (o_a 8) 12 z_f))) [wO g o_a o_th o_ts (o_pl + 1) o_nf o_ne o_rf o_re o_ac o_cm o_sd o_wf o_sm o_sf o_rm o_rs, wI g (o_a 1) 48 t_f, wI g (o_a 8) 12 z_f] [0, 1, 2] rfl (by simp only [List.flatten_cons, List.flatten_nil, List.append_nil, List.append_assoc]) (by show List.flatten [wO g o_a o_th o_ts (o_pl + 1) o_nf o_ne o_rf o_re o_ac o_cm o_sd o_wf o_sm o_sf o_rm o_rs, wI g (o_a 1) 48 t_f, wI g (o_a 8) 12 z_f] = _; simp only [List.flatten_cons, List.flatten_nil, List.append_nil, List.append_assoc]) ?_
        refine V_cVi (C := (RX6, TX6, 34)) (ci := 6) (ws' := ((wO g o_a o_th o_ts (o_pl + 1) o_nf o_ne o_rf o_re o_ac o_cm o_sd o_wf o_sm o_sf o_rm o_rs) ++ (wI g (o_a 1) 48 t_f)) ++ ((wI g (o_a 8) 12 z_f))) (List.range _) 2 X (c_X6_figure_n g l o_a o_th o_ts (o_pl + 1) o_nf o_ne o_rf o_re o_ac o_cm o_sd o_wf o_sm o_sf o_rm o_rs t_f  1 9 (by omega) (by omega) (by omega) (by omega) (k2)) k_RX6_90 hy_X6_figure (by decide) (range_at _ _) (range_nd _) 0 rfl rfl nX6_readOneField_23 rfl rfl (Nat.le_of_ble_eq_true rfl) (wput_range _ _ _ (by simp only [List.length_append, wI_len, wO_len])) ?_
        refine V_blk (ws' := (wO g o_a o_th o_ts (o_pl + 1) o_nf o_ne o_rf o_re o_ac o_cm o_sd o_wf o_sm o_sf o_rm o_rs) ++ (wI g (o_a 1) 48 t_f) ++ (wI g (o_a 8) 12 z_f)) [wO g o_a o_th o_ts (o_pl + 1) o_nf o_ne o_rf o_re o_ac o_cm o_sd o_wf o_sm o_sf o_rm o_rs, wI g (o_a 1) 48 t_f, wI g (o_a 8) 12 z_f] [0, 1, 2] rfl (by simp only [List.flatten_cons, List.flatten_nil, List.append_nil, List.append_assoc]) (by show List.flatten [wO g o_a o_th o_ts (o_pl + 1) o_nf o_ne o_rf o_re o_ac o_cm o_sd o_wf o_sm o_sf o_rm o_rs, wI g (o_a 1) 48 t_f, wI g (o_a 8) 12 z_f] = _; simp only [List.flatten_cons, List.flatten_nil, List.append_nil, List.append_assoc]) ?_
        refine V_istore_n (lv' := [(0, .ref (o_a 0)), (1, .int (t_f o_pl - nI 48)), (2, .int (-9))]) nX6_readOneField_26 (by decide) rfl ?_
        refine V_iload_n nX6_readOneField_27 rfl ?_
        refine V_bipush (v := (-9)) nX6_readOneField_28 (by decide) ?_
        refine V_icmp_ne (tgt := 38) nX6_readOneField_30 rfl (fun h30 => ?_) (fun h30 => ?_)
        · skip
          exact absurd rfl h30
        · skip
          refine V_bipush (v := (-9)) nX6_readOneField_33 (by decide) ?_
          refine V_goto (tgt := 45) nX6_readOneField_35 rfl ?_
          refine V_istore_n (lv' := [(0, .ref (o_a 0)), (1, .int (t_f o_pl - nI 48)), (2, .int (-9)), (3, .int (-9))]) nX6_readOneField_45 (by decide) rfl ?_
          refine V_iload_n nX6_readOneField_46 rfl ?_
          refine V_bipush (v := (-9)) nX6_readOneField_47 (by decide) ?_
          refine V_icmp_ne (tgt := 54) nX6_readOneField_49 rfl (fun h49 => ?_) (fun h49 => ?_)
          · skip
            exact absurd rfl h49
          · skip
            refine V_iconst (v := (nI 0)) nX6_readOneField_52 rfl ?_
            refine V_top (y := bI false) rfl ?_
            exact R_z rfl X hQ nX6_readOneField_53 (by simp only [List.map_append, wI_fst, wO_fst]) (⟨by simp [o3B, k1, k2], by simp [o3B, o3Q, o3A, k1, k2]⟩)
    · skip
      exact absurd h11 (fg_ne (by decide) k1)
  · skip
    refine V_blk (ws' := ((wO g o_a o_th o_ts o_pl o_nf o_ne o_rf o_re o_ac o_cm o_sd o_wf o_sm o_sf o_rm o_rs) ++ (wI g (o_a 1) 48 t_f)) ++ ((wI g (o_a 8) 12 z_f))) [wO g o_a o_th o_ts o_pl o_nf o_ne o_rf o_re o_ac o_cm o_sd o_wf o_sm o_sf o_rm o_rs, wI g (o_a 1) 48 t_f, wI g (o_a 8) 12 z_f] [0, 1, 2] rfl (by simp only [List.flatten_cons, List.flatten_nil, List.append_nil, List.append_assoc]) (by show List.flatten [wO g o_a o_th o_ts o_pl o_nf o_ne o_rf o_re o_ac o_cm o_sd o_wf o_sm o_sf o_rm o_rs, wI g (o_a 1) 48 t_f, wI g (o_a 8) 12 z_f] = _; simp only [List.flatten_cons, List.flatten_nil, List.append_nil, List.append_assoc]) ?_
    refine V_cVi (C := (RX6, TX6, 34)) (ci := 6) (ws' := ((wO g o_a o_th o_ts o_pl o_nf o_ne o_rf o_re o_ac o_cm o_sd o_wf o_sm o_sf o_rm o_rs) ++ (wI g (o_a 1) 48 t_f)) ++ ((wI g (o_a 8) 12 z_f))) (List.range _) 2 X (c_X6_figure_n g l o_a o_th o_ts o_pl o_nf o_ne o_rf o_re o_ac o_cm o_sd o_wf o_sm o_sf o_rm o_rs t_f  0 9 (by omega) (by omega) (by omega) (by omega) (k1)) k_RX6_90 hy_X6_figure (by decide) (range_at _ _) (range_nd _) 0 rfl rfl nX6_readOneField_4 rfl rfl (Nat.le_of_ble_eq_true rfl) (wput_range _ _ _ (by simp only [List.length_append, wI_len, wO_len])) ?_
    refine V_blk (ws' := (wO g o_a o_th o_ts o_pl o_nf o_ne o_rf o_re o_ac o_cm o_sd o_wf o_sm o_sf o_rm o_rs) ++ (wI g (o_a 1) 48 t_f) ++ (wI g (o_a 8) 12 z_f)) [wO g o_a o_th o_ts o_pl o_nf o_ne o_rf o_re o_ac o_cm o_sd o_wf o_sm o_sf o_rm o_rs, wI g (o_a 1) 48 t_f, wI g (o_a 8) 12 z_f] [0, 1, 2] rfl (by simp only [List.flatten_cons, List.flatten_nil, List.append_nil, List.append_assoc]) (by show List.flatten [wO g o_a o_th o_ts o_pl o_nf o_ne o_rf o_re o_ac o_cm o_sd o_wf o_sm o_sf o_rm o_rs, wI g (o_a 1) 48 t_f, wI g (o_a 8) 12 z_f] = _; simp only [List.flatten_cons, List.flatten_nil, List.append_nil, List.append_assoc]) ?_
    refine V_istore_n (lv' := [(0, .ref (o_a 0)), (1, .int (-9))]) nX6_readOneField_7 (by decide) rfl ?_
    refine V_iload_n nX6_readOneField_8 rfl ?_
    refine V_bipush (v := (-9)) nX6_readOneField_9 (by decide) ?_
    refine V_icmp_ne (tgt := 19) nX6_readOneField_11 rfl (fun h11 => ?_) (fun h11 => ?_)
    · skip
      exact absurd rfl h11
    · skip
      refine V_bipush (v := (-9)) nX6_readOneField_14 (by decide) ?_
      refine V_goto (tgt := 26) nX6_readOneField_16 rfl ?_
      refine V_istore_n (lv' := [(0, .ref (o_a 0)), (1, .int (-9)), (2, .int (-9))]) nX6_readOneField_26 (by decide) rfl ?_
      refine V_iload_n nX6_readOneField_27 rfl ?_
      refine V_bipush (v := (-9)) nX6_readOneField_28 (by decide) ?_
      refine V_icmp_ne (tgt := 38) nX6_readOneField_30 rfl (fun h30 => ?_) (fun h30 => ?_)
      · skip
        exact absurd rfl h30
      · skip
        refine V_bipush (v := (-9)) nX6_readOneField_33 (by decide) ?_
        refine V_goto (tgt := 45) nX6_readOneField_35 rfl ?_
        refine V_istore_n (lv' := [(0, .ref (o_a 0)), (1, .int (-9)), (2, .int (-9)), (3, .int (-9))]) nX6_readOneField_45 (by decide) rfl ?_
        refine V_iload_n nX6_readOneField_46 rfl ?_
        refine V_bipush (v := (-9)) nX6_readOneField_47 (by decide) ?_
        refine V_icmp_ne (tgt := 54) nX6_readOneField_49 rfl (fun h49 => ?_) (fun h49 => ?_)
        · skip
          exact absurd rfl h49
        · skip
          refine V_iconst (v := (nI 0)) nX6_readOneField_52 rfl ?_
          refine V_top (y := bI false) rfl ?_
          exact R_z rfl X hQ nX6_readOneField_53 (by simp only [List.map_append, wI_fst, wO_fst]) (⟨by simp [o3B, k1], by simp [o3B, o3Q, o3A, k1]⟩)

set_option maxHeartbeats 4000000 in
set_option maxRecDepth 100000 in
theorem c_X6_readOneEater (g : Gx) (l : Launch) (o_a : Nat → Nat) (o_th : Int32) (o_ts : Nat) (o_pl : Nat) (o_nf : Nat) (o_ne : Nat) (o_rf : Nat) (o_re : Nat) (o_ac : Nat) (o_cm : Nat) (o_sd : Int64) (o_wf : Int32) (o_sm : Int32) (o_sf : Int32) (o_rm : Int32) (o_rs : Int32) (t_f : Nat → Int32) (z_f : Nat → Int32)   (hn : o_ts ≤ 48) (hp : o_pl ≤ o_ts) (hk : o_re < 5) : Cd g l yX6_readOneEater mX6_readOneEater ({ frames := 2, cells := 0, slots := 0, locals := 47 } : Room) [.ref (o_a 0)] ((wO g o_a o_th o_ts o_pl o_nf o_ne o_rf o_re o_ac o_cm o_sd o_wf o_sm o_sf o_rm o_rs) ++ (wI g (o_a 1) 48 t_f) ++ (wI g (o_a 9) 15 z_f)) (some (.int (bI (o3B t_f o_ts o_pl 0 3)))) ((wO g o_a o_th o_ts (o3Q t_f o_ts o_pl 0 3) o_nf o_ne o_rf (if o3B t_f o_ts o_pl 0 3 = true then o_re + 1 else o_re) o_ac o_cm o_sd o_wf o_sm o_sf o_rm o_rs) ++ (wI g (o_a 1) 48 t_f) ++ (wI g (o_a 9) 15 (if o3B t_f o_ts o_pl 0 3 = true then o3A t_f o_pl o_re z_f else z_f))) := by
  refine Ct.of (lv := [(0, .ref (o_a 0))]) ⟨by decide +kernel, rfl, Nat.le_of_ble_eq_true rfl⟩ rfl (fun E A sz Q X hQ => ?_)
  refine V_aload_n nX6_readOneEater_0 rfl ?_
  refine V_iconst (v := (nI 0)) nX6_readOneEater_1 rfl ?_
  refine V_bipush (v := (nI 9)) nX6_readOneEater_2 (by decide) ?_
  rcases Bool.eq_false_or_eq_true (fgOk t_f o_ts o_pl 0 9) with k1 | k1
  · skip
    have nk1 : o_pl < o_ts := by
      have e := k1
      unfold fgOk at e
      rw [Bool.and_eq_true, Bool.not_eq_true', decide_eq_false_iff_not] at e
      omega
    refine V_blk (ws' := ((wO g o_a o_th o_ts o_pl o_nf o_ne o_rf o_re o_ac o_cm o_sd o_wf o_sm o_sf o_rm o_rs) ++ (wI g (o_a 1) 48 t_f)) ++ ((wI g (o_a 9) 15 z_f))) [wO g o_a o_th o_ts o_pl o_nf o_ne o_rf o_re o_ac o_cm o_sd o_wf o_sm o_sf o_rm o_rs, wI g (o_a 1) 48 t_f, wI g (o_a 9) 15 z_f] [0, 1, 2] rfl (by simp only [List.flatten_cons, List.flatten_nil, List.append_nil, List.append_assoc]) (by show List.flatten [wO g o_a o_th o_ts o_pl o_nf o_ne o_rf o_re o_ac o_cm o_sd o_wf o_sm o_sf o_rm o_rs, wI g (o_a 1) 48 t_f, wI g (o_a 9) 15 z_f] = _; simp only [List.flatten_cons, List.flatten_nil, List.append_nil, List.append_assoc]) ?_
    refine V_cVi (C := (RX6, TX6, 34)) (ci := 6) (ws' := ((wO g o_a o_th o_ts (o_pl + 1) o_nf o_ne o_rf o_re o_ac o_cm o_sd o_wf o_sm o_sf o_rm o_rs) ++ (wI g (o_a 1) 48 t_f)) ++ ((wI g (o_a 9) 15 z_f))) (List.range _) 2 X (c_X6_figure_y g l o_a o_th o_ts o_pl o_nf o_ne o_rf o_re o_ac o_cm o_sd o_wf o_sm o_sf o_rm o_rs t_f  0 9 (by omega) (by omega) (by omega) (by omega) (k1)) k_RX6_90 hy_X6_figure (by decide) (range_at _ _) (range_nd _) 0 rfl rfl nX6_readOneEater_4 rfl rfl (Nat.le_of_ble_eq_true rfl) (wput_range _ _ _ (by simp only [List.length_append, wI_len, wO_len])) ?_
    refine V_blk (ws' := (wO g o_a o_th o_ts (o_pl + 1) o_nf o_ne o_rf o_re o_ac o_cm o_sd o_wf o_sm o_sf o_rm o_rs) ++ (wI g (o_a 1) 48 t_f) ++ (wI g (o_a 9) 15 z_f)) [wO g o_a o_th o_ts (o_pl + 1) o_nf o_ne o_rf o_re o_ac o_cm o_sd o_wf o_sm o_sf o_rm o_rs, wI g (o_a 1) 48 t_f, wI g (o_a 9) 15 z_f] [0, 1, 2] rfl (by simp only [List.flatten_cons, List.flatten_nil, List.append_nil, List.append_assoc]) (by show List.flatten [wO g o_a o_th o_ts (o_pl + 1) o_nf o_ne o_rf o_re o_ac o_cm o_sd o_wf o_sm o_sf o_rm o_rs, wI g (o_a 1) 48 t_f, wI g (o_a 9) 15 z_f] = _; simp only [List.flatten_cons, List.flatten_nil, List.append_nil, List.append_assoc]) ?_
    refine V_istore_n (lv' := [(0, .ref (o_a 0)), (1, .int (t_f o_pl - nI 48))]) nX6_readOneEater_7 (by decide) rfl ?_
    refine V_iload_n nX6_readOneEater_8 rfl ?_
    refine V_bipush (v := (-9)) nX6_readOneEater_9 (by decide) ?_
    refine V_icmp_ne (tgt := 19) nX6_readOneEater_11 rfl (fun h11 => ?_) (fun h11 => ?_)
    · skip
      refine V_aload_n nX6_readOneEater_19 rfl ?_
      refine V_iconst (v := (nI 0)) nX6_readOneEater_20 rfl ?_
      refine V_bipush (v := (nI 9)) nX6_readOneEater_21 (by decide) ?_
      rcases Bool.eq_false_or_eq_true (fgOk t_f o_ts (o_pl + 1) 0 9) with k2 | k2
      · skip
        have nk2 : o_pl + 1 < o_ts := by
          have e := k2
          unfold fgOk at e
          rw [Bool.and_eq_true, Bool.not_eq_true', decide_eq_false_iff_not] at e
          omega
        refine V_blk (ws' := ((wO g o_a o_th o_ts (o_pl + 1) o_nf o_ne o_rf o_re o_ac o_cm o_sd o_wf o_sm o_sf o_rm o_rs) ++ (wI g (o_a 1) 48 t_f)) ++ ((wI g (o_a 9) 15 z_f))) [wO g o_a o_th o_ts (o_pl + 1) o_nf o_ne o_rf o_re o_ac o_cm o_sd o_wf o_sm o_sf o_rm o_rs, wI g (o_a 1) 48 t_f, wI g (o_a 9) 15 z_f] [0, 1, 2] rfl (by simp only [List.flatten_cons, List.flatten_nil, List.append_nil, List.append_assoc]) (by show List.flatten [wO g o_a o_th o_ts (o_pl + 1) o_nf o_ne o_rf o_re o_ac o_cm o_sd o_wf o_sm o_sf o_rm o_rs, wI g (o_a 1) 48 t_f, wI g (o_a 9) 15 z_f] = _; simp only [List.flatten_cons, List.flatten_nil, List.append_nil, List.append_assoc]) ?_
        refine V_cVi (C := (RX6, TX6, 34)) (ci := 6) (ws' := ((wO g o_a o_th o_ts ((o_pl + 1) + 1) o_nf o_ne o_rf o_re o_ac o_cm o_sd o_wf o_sm o_sf o_rm o_rs) ++ (wI g (o_a 1) 48 t_f)) ++ ((wI g (o_a 9) 15 z_f))) (List.range _) 2 X (c_X6_figure_y g l o_a o_th o_ts (o_pl + 1) o_nf o_ne o_rf o_re o_ac o_cm o_sd o_wf o_sm o_sf o_rm o_rs t_f  0 9 (by omega) (by omega) (by omega) (by omega) (k2)) k_RX6_90 hy_X6_figure (by decide) (range_at _ _) (range_nd _) 0 rfl rfl nX6_readOneEater_23 rfl rfl (Nat.le_of_ble_eq_true rfl) (wput_range _ _ _ (by simp only [List.length_append, wI_len, wO_len])) ?_
        refine V_blk (ws' := (wO g o_a o_th o_ts ((o_pl + 1) + 1) o_nf o_ne o_rf o_re o_ac o_cm o_sd o_wf o_sm o_sf o_rm o_rs) ++ (wI g (o_a 1) 48 t_f) ++ (wI g (o_a 9) 15 z_f)) [wO g o_a o_th o_ts ((o_pl + 1) + 1) o_nf o_ne o_rf o_re o_ac o_cm o_sd o_wf o_sm o_sf o_rm o_rs, wI g (o_a 1) 48 t_f, wI g (o_a 9) 15 z_f] [0, 1, 2] rfl (by simp only [List.flatten_cons, List.flatten_nil, List.append_nil, List.append_assoc]) (by show List.flatten [wO g o_a o_th o_ts ((o_pl + 1) + 1) o_nf o_ne o_rf o_re o_ac o_cm o_sd o_wf o_sm o_sf o_rm o_rs, wI g (o_a 1) 48 t_f, wI g (o_a 9) 15 z_f] = _; simp only [List.flatten_cons, List.flatten_nil, List.append_nil, List.append_assoc]) ?_
        refine V_istore_n (lv' := [(0, .ref (o_a 0)), (1, .int (t_f o_pl - nI 48)), (2, .int (t_f (o_pl + 1) - nI 48))]) nX6_readOneEater_26 (by decide) rfl ?_
        refine V_iload_n nX6_readOneEater_27 rfl ?_
        refine V_bipush (v := (-9)) nX6_readOneEater_28 (by decide) ?_
        refine V_icmp_ne (tgt := 38) nX6_readOneEater_30 rfl (fun h30 => ?_) (fun h30 => ?_)
        · skip
          refine V_aload_n nX6_readOneEater_38 rfl ?_
          refine V_iconst (v := (nI 0)) nX6_readOneEater_39 rfl ?_
          refine V_iconst (v := (nI 3)) nX6_readOneEater_40 rfl ?_
          rcases Bool.eq_false_or_eq_true (fgOk t_f o_ts (o_pl + 2) 0 3) with k3 | k3
          · skip
            have nk3 : o_pl + 2 < o_ts := by
              have e := k3
              unfold fgOk at e
              rw [Bool.and_eq_true, Bool.not_eq_true', decide_eq_false_iff_not] at e
              omega
            refine V_blk (ws' := ((wO g o_a o_th o_ts ((o_pl + 1) + 1) o_nf o_ne o_rf o_re o_ac o_cm o_sd o_wf o_sm o_sf o_rm o_rs) ++ (wI g (o_a 1) 48 t_f)) ++ ((wI g (o_a 9) 15 z_f))) [wO g o_a o_th o_ts ((o_pl + 1) + 1) o_nf o_ne o_rf o_re o_ac o_cm o_sd o_wf o_sm o_sf o_rm o_rs, wI g (o_a 1) 48 t_f, wI g (o_a 9) 15 z_f] [0, 1, 2] rfl (by simp only [List.flatten_cons, List.flatten_nil, List.append_nil, List.append_assoc]) (by show List.flatten [wO g o_a o_th o_ts ((o_pl + 1) + 1) o_nf o_ne o_rf o_re o_ac o_cm o_sd o_wf o_sm o_sf o_rm o_rs, wI g (o_a 1) 48 t_f, wI g (o_a 9) 15 z_f] = _; simp only [List.flatten_cons, List.flatten_nil, List.append_nil, List.append_assoc]) ?_
            refine V_cVi (C := (RX6, TX6, 34)) (ci := 6) (ws' := ((wO g o_a o_th o_ts (((o_pl + 1) + 1) + 1) o_nf o_ne o_rf o_re o_ac o_cm o_sd o_wf o_sm o_sf o_rm o_rs) ++ (wI g (o_a 1) 48 t_f)) ++ ((wI g (o_a 9) 15 z_f))) (List.range _) 2 X (c_X6_figure_y g l o_a o_th o_ts ((o_pl + 1) + 1) o_nf o_ne o_rf o_re o_ac o_cm o_sd o_wf o_sm o_sf o_rm o_rs t_f  0 3 (by omega) (by omega) (by omega) (by omega) (k3)) k_RX6_90 hy_X6_figure (by decide) (range_at _ _) (range_nd _) 0 rfl rfl nX6_readOneEater_41 rfl rfl (Nat.le_of_ble_eq_true rfl) (wput_range _ _ _ (by simp only [List.length_append, wI_len, wO_len])) ?_
            refine V_blk (ws' := (wO g o_a o_th o_ts (((o_pl + 1) + 1) + 1) o_nf o_ne o_rf o_re o_ac o_cm o_sd o_wf o_sm o_sf o_rm o_rs) ++ (wI g (o_a 1) 48 t_f) ++ (wI g (o_a 9) 15 z_f)) [wO g o_a o_th o_ts (((o_pl + 1) + 1) + 1) o_nf o_ne o_rf o_re o_ac o_cm o_sd o_wf o_sm o_sf o_rm o_rs, wI g (o_a 1) 48 t_f, wI g (o_a 9) 15 z_f] [0, 1, 2] rfl (by simp only [List.flatten_cons, List.flatten_nil, List.append_nil, List.append_assoc]) (by show List.flatten [wO g o_a o_th o_ts (((o_pl + 1) + 1) + 1) o_nf o_ne o_rf o_re o_ac o_cm o_sd o_wf o_sm o_sf o_rm o_rs, wI g (o_a 1) 48 t_f, wI g (o_a 9) 15 z_f] = _; simp only [List.flatten_cons, List.flatten_nil, List.append_nil, List.append_assoc]) ?_
            refine V_istore_n (lv' := [(0, .ref (o_a 0)), (1, .int (t_f o_pl - nI 48)), (2, .int (t_f (o_pl + 1) - nI 48)), (3, .int (t_f ((o_pl + 1) + 1) - nI 48))]) nX6_readOneEater_44 (by decide) rfl ?_
            refine V_iload_n nX6_readOneEater_45 rfl ?_
            refine V_bipush (v := (-9)) nX6_readOneEater_46 (by decide) ?_
            refine V_icmp_ne (tgt := 53) nX6_readOneEater_48 rfl (fun h48 => ?_) (fun h48 => ?_)
            · skip
              refine V_aload_n nX6_readOneEater_53 rfl ?_
              refine V_get6 0 15 (by decide) f_RX6_34 nX6_readOneEater_54 rfl rfl ?_
              refine V_iconst (v := (nI 3)) nX6_readOneEater_57 rfl ?_
              refine V_aload_n nX6_readOneEater_58 rfl ?_
              refine V_get6 0 14 (by decide) f_RX6_97 nX6_readOneEater_59 rfl rfl ?_
              refine V_imul (v := nI (3 * o_re)) nX6_readOneEater_62 (pk_mul 3 o_re) ?_
              refine V_iload_n nX6_readOneEater_63 rfl ?_
              refine V_iast (ws' := (wO g o_a o_th o_ts (((o_pl + 1) + 1) + 1) o_nf o_ne o_rf o_re o_ac o_cm o_sd o_wf o_sm o_sf o_rm o_rs) ++ (wI g (o_a 1) 48 t_f) ++ (wI g (o_a 9) 15 (upd z_f (3 * o_re) (t_f o_pl - nI 48)))) 2 nX6_readOneEater_64 rfl (by omega) (by decide) rfl ?_
              refine V_aload_n nX6_readOneEater_65 rfl ?_
              refine V_get6 0 15 (by decide) f_RX6_34 nX6_readOneEater_66 rfl rfl ?_
              refine V_iconst (v := (nI 3)) nX6_readOneEater_69 rfl ?_
              refine V_aload_n nX6_readOneEater_70 rfl ?_
              refine V_get6 0 14 (by decide) f_RX6_97 nX6_readOneEater_71 rfl rfl ?_
              refine V_imul (v := nI (3 * o_re)) nX6_readOneEater_74 (pk_mul 3 o_re) ?_
              refine V_iconst (v := (nI 1)) nX6_readOneEater_75 rfl ?_
              refine V_iadd (v := nI ((3 * o_re) + 1)) nX6_readOneEater_76 (nI_add (3 * o_re) 1) ?_
              refine V_iload_n nX6_readOneEater_77 rfl ?_
              refine V_iast (ws' := (wO g o_a o_th o_ts (((o_pl + 1) + 1) + 1) o_nf o_ne o_rf o_re o_ac o_cm o_sd o_wf o_sm o_sf o_rm o_rs) ++ (wI g (o_a 1) 48 t_f) ++ (wI g (o_a 9) 15 (upd (upd z_f (3 * o_re) (t_f o_pl - nI 48)) ((3 * o_re) + 1) (t_f (o_pl + 1) - nI 48)))) 2 nX6_readOneEater_78 rfl (by omega) (by decide) rfl ?_
              refine V_aload_n nX6_readOneEater_79 rfl ?_
              refine V_get6 0 15 (by decide) f_RX6_34 nX6_readOneEater_80 rfl rfl ?_
              refine V_iconst (v := (nI 3)) nX6_readOneEater_83 rfl ?_
              refine V_aload_n nX6_readOneEater_84 rfl ?_
              refine V_get6 0 14 (by decide) f_RX6_97 nX6_readOneEater_85 rfl rfl ?_
              refine V_imul (v := nI (3 * o_re)) nX6_readOneEater_88 (pk_mul 3 o_re) ?_
              refine V_iconst (v := (nI 2)) nX6_readOneEater_89 rfl ?_
              refine V_iadd (v := nI ((3 * o_re) + 2)) nX6_readOneEater_90 (nI_add (3 * o_re) 2) ?_
              refine V_iload_n nX6_readOneEater_91 rfl ?_
              refine V_iast (ws' := (wO g o_a o_th o_ts (((o_pl + 1) + 1) + 1) o_nf o_ne o_rf o_re o_ac o_cm o_sd o_wf o_sm o_sf o_rm o_rs) ++ (wI g (o_a 1) 48 t_f) ++ (wI g (o_a 9) 15 (upd (upd (upd z_f (3 * o_re) (t_f o_pl - nI 48)) ((3 * o_re) + 1) (t_f (o_pl + 1) - nI 48)) ((3 * o_re) + 2) (t_f ((o_pl + 1) + 1) - nI 48)))) 2 nX6_readOneEater_92 rfl (by omega) (by decide) rfl ?_
              refine V_aload_n nX6_readOneEater_93 rfl ?_
              refine V_dup nX6_readOneEater_94 rfl ?_
              refine V_get6 0 14 (by decide) f_RX6_97 nX6_readOneEater_95 rfl rfl ?_
              refine V_iconst (v := (nI 1)) nX6_readOneEater_98 rfl ?_
              refine V_iadd (v := nI (o_re + 1)) nX6_readOneEater_99 (nI_add o_re 1) ?_
              refine V_put6 (ws' := (wO g o_a o_th o_ts (((o_pl + 1) + 1) + 1) o_nf o_ne o_rf (o_re + 1) o_ac o_cm o_sd o_wf o_sm o_sf o_rm o_rs) ++ (wI g (o_a 1) 48 t_f) ++ (wI g (o_a 9) 15 (upd (upd (upd z_f (3 * o_re) (t_f o_pl - nI 48)) ((3 * o_re) + 1) (t_f (o_pl + 1) - nI 48)) ((3 * o_re) + 2) (t_f ((o_pl + 1) + 1) - nI 48)))) 0 14 (by decide) f_RX6_97 rfl rfl rfl rfl nX6_readOneEater_100 rfl (Nat.le_of_ble_eq_true rfl) rfl ?_
              refine V_iconst (v := (nI 1)) nX6_readOneEater_103 rfl ?_
              refine V_top (y := bI true) rfl ?_
              exact R_z rfl X hQ nX6_readOneEater_104 (by simp only [List.map_append, wI_fst, wO_fst]) (⟨by simp [o3B, k1, k2, k3], by simp [o3B, o3Q, o3A, k1, k2, k3]⟩)
            · skip
              exact absurd h48 (fg_ne (by decide) k3)
          · skip
            refine V_blk (ws' := ((wO g o_a o_th o_ts ((o_pl + 1) + 1) o_nf o_ne o_rf o_re o_ac o_cm o_sd o_wf o_sm o_sf o_rm o_rs) ++ (wI g (o_a 1) 48 t_f)) ++ ((wI g (o_a 9) 15 z_f))) [wO g o_a o_th o_ts ((o_pl + 1) + 1) o_nf o_ne o_rf o_re o_ac o_cm o_sd o_wf o_sm o_sf o_rm o_rs, wI g (o_a 1) 48 t_f, wI g (o_a 9) 15 z_f] [0, 1, 2] rfl (by simp only [List.flatten_cons, List.flatten_nil, List.append_nil, List.append_assoc]) (by show List.flatten [wO g o_a o_th o_ts ((o_pl + 1) + 1) o_nf o_ne o_rf o_re o_ac o_cm o_sd o_wf o_sm o_sf o_rm o_rs, wI g (o_a 1) 48 t_f, wI g (o_a 9) 15 z_f] = _; simp only [List.flatten_cons, List.flatten_nil, List.append_nil, List.append_assoc]) ?_
            refine V_cVi (C := (RX6, TX6, 34)) (ci := 6) (ws' := ((wO g o_a o_th o_ts ((o_pl + 1) + 1) o_nf o_ne o_rf o_re o_ac o_cm o_sd o_wf o_sm o_sf o_rm o_rs) ++ (wI g (o_a 1) 48 t_f)) ++ ((wI g (o_a 9) 15 z_f))) (List.range _) 2 X (c_X6_figure_n g l o_a o_th o_ts ((o_pl + 1) + 1) o_nf o_ne o_rf o_re o_ac o_cm o_sd o_wf o_sm o_sf o_rm o_rs t_f  0 3 (by omega) (by omega) (by omega) (by omega) (k3)) k_RX6_90 hy_X6_figure (by decide) (range_at _ _) (range_nd _) 0 rfl rfl nX6_readOneEater_41 rfl rfl (Nat.le_of_ble_eq_true rfl) (wput_range _ _ _ (by simp only [List.length_append, wI_len, wO_len])) ?_
            refine V_blk (ws' := (wO g o_a o_th o_ts ((o_pl + 1) + 1) o_nf o_ne o_rf o_re o_ac o_cm o_sd o_wf o_sm o_sf o_rm o_rs) ++ (wI g (o_a 1) 48 t_f) ++ (wI g (o_a 9) 15 z_f)) [wO g o_a o_th o_ts ((o_pl + 1) + 1) o_nf o_ne o_rf o_re o_ac o_cm o_sd o_wf o_sm o_sf o_rm o_rs, wI g (o_a 1) 48 t_f, wI g (o_a 9) 15 z_f] [0, 1, 2] rfl (by simp only [List.flatten_cons, List.flatten_nil, List.append_nil, List.append_assoc]) (by show List.flatten [wO g o_a o_th o_ts ((o_pl + 1) + 1) o_nf o_ne o_rf o_re o_ac o_cm o_sd o_wf o_sm o_sf o_rm o_rs, wI g (o_a 1) 48 t_f, wI g (o_a 9) 15 z_f] = _; simp only [List.flatten_cons, List.flatten_nil, List.append_nil, List.append_assoc]) ?_
            refine V_istore_n (lv' := [(0, .ref (o_a 0)), (1, .int (t_f o_pl - nI 48)), (2, .int (t_f (o_pl + 1) - nI 48)), (3, .int (-9))]) nX6_readOneEater_44 (by decide) rfl ?_
            refine V_iload_n nX6_readOneEater_45 rfl ?_
            refine V_bipush (v := (-9)) nX6_readOneEater_46 (by decide) ?_
            refine V_icmp_ne (tgt := 53) nX6_readOneEater_48 rfl (fun h48 => ?_) (fun h48 => ?_)
            · skip
              exact absurd rfl h48
            · skip
              refine V_iconst (v := (nI 0)) nX6_readOneEater_51 rfl ?_
              refine V_top (y := bI false) rfl ?_
              exact R_z rfl X hQ nX6_readOneEater_52 (by simp only [List.map_append, wI_fst, wO_fst]) (⟨by simp [o3B, k1, k2, k3], by simp [o3B, o3Q, o3A, k1, k2, k3]⟩)
        · skip
          exact absurd h30 (fg_ne (by decide) k2)
      · skip
        refine V_blk (ws' := ((wO g o_a o_th o_ts (o_pl + 1) o_nf o_ne o_rf o_re o_ac o_cm o_sd o_wf o_sm o_sf o_rm o_rs) ++ (wI g (o_a 1) 48 t_f)) ++ ((wI g (o_a 9) 15 z_f))) [wO g o_a o_th o_ts (o_pl + 1) o_nf o_ne o_rf o_re o_ac o_cm o_sd o_wf o_sm o_sf o_rm o_rs, wI g (o_a 1) 48 t_f, wI g (o_a 9) 15 z_f] [0, 1, 2] rfl (by simp only [List.flatten_cons, List.flatten_nil, List.append_nil, List.append_assoc]) (by show List.flatten [wO g o_a o_th o_ts (o_pl + 1) o_nf o_ne o_rf o_re o_ac o_cm o_sd o_wf o_sm o_sf o_rm o_rs, wI g (o_a 1) 48 t_f, wI g (o_a 9) 15 z_f] = _; simp only [List.flatten_cons, List.flatten_nil, List.append_nil, List.append_assoc]) ?_
        refine V_cVi (C := (RX6, TX6, 34)) (ci := 6) (ws' := ((wO g o_a o_th o_ts (o_pl + 1) o_nf o_ne o_rf o_re o_ac o_cm o_sd o_wf o_sm o_sf o_rm o_rs) ++ (wI g (o_a 1) 48 t_f)) ++ ((wI g (o_a 9) 15 z_f))) (List.range _) 2 X (c_X6_figure_n g l o_a o_th o_ts (o_pl + 1) o_nf o_ne o_rf o_re o_ac o_cm o_sd o_wf o_sm o_sf o_rm o_rs t_f  0 9 (by omega) (by omega) (by omega) (by omega) (k2)) k_RX6_90 hy_X6_figure (by decide) (range_at _ _) (range_nd _) 0 rfl rfl nX6_readOneEater_23 rfl rfl (Nat.le_of_ble_eq_true rfl) (wput_range _ _ _ (by simp only [List.length_append, wI_len, wO_len])) ?_
        refine V_blk (ws' := (wO g o_a o_th o_ts (o_pl + 1) o_nf o_ne o_rf o_re o_ac o_cm o_sd o_wf o_sm o_sf o_rm o_rs) ++ (wI g (o_a 1) 48 t_f) ++ (wI g (o_a 9) 15 z_f)) [wO g o_a o_th o_ts (o_pl + 1) o_nf o_ne o_rf o_re o_ac o_cm o_sd o_wf o_sm o_sf o_rm o_rs, wI g (o_a 1) 48 t_f, wI g (o_a 9) 15 z_f] [0, 1, 2] rfl (by simp only [List.flatten_cons, List.flatten_nil, List.append_nil, List.append_assoc]) (by show List.flatten [wO g o_a o_th o_ts (o_pl + 1) o_nf o_ne o_rf o_re o_ac o_cm o_sd o_wf o_sm o_sf o_rm o_rs, wI g (o_a 1) 48 t_f, wI g (o_a 9) 15 z_f] = _; simp only [List.flatten_cons, List.flatten_nil, List.append_nil, List.append_assoc]) ?_
        refine V_istore_n (lv' := [(0, .ref (o_a 0)), (1, .int (t_f o_pl - nI 48)), (2, .int (-9))]) nX6_readOneEater_26 (by decide) rfl ?_
        refine V_iload_n nX6_readOneEater_27 rfl ?_
        refine V_bipush (v := (-9)) nX6_readOneEater_28 (by decide) ?_
        refine V_icmp_ne (tgt := 38) nX6_readOneEater_30 rfl (fun h30 => ?_) (fun h30 => ?_)
        · skip
          exact absurd rfl h30
        · skip
          refine V_bipush (v := (-9)) nX6_readOneEater_33 (by decide) ?_
          refine V_goto (tgt := 44) nX6_readOneEater_35 rfl ?_
          refine V_istore_n (lv' := [(0, .ref (o_a 0)), (1, .int (t_f o_pl - nI 48)), (2, .int (-9)), (3, .int (-9))]) nX6_readOneEater_44 (by decide) rfl ?_
          refine V_iload_n nX6_readOneEater_45 rfl ?_
          refine V_bipush (v := (-9)) nX6_readOneEater_46 (by decide) ?_
          refine V_icmp_ne (tgt := 53) nX6_readOneEater_48 rfl (fun h48 => ?_) (fun h48 => ?_)
          · skip
            exact absurd rfl h48
          · skip
            refine V_iconst (v := (nI 0)) nX6_readOneEater_51 rfl ?_
            refine V_top (y := bI false) rfl ?_
            exact R_z rfl X hQ nX6_readOneEater_52 (by simp only [List.map_append, wI_fst, wO_fst]) (⟨by simp [o3B, k1, k2], by simp [o3B, o3Q, o3A, k1, k2]⟩)
    · skip
      exact absurd h11 (fg_ne (by decide) k1)
  · skip
    refine V_blk (ws' := ((wO g o_a o_th o_ts o_pl o_nf o_ne o_rf o_re o_ac o_cm o_sd o_wf o_sm o_sf o_rm o_rs) ++ (wI g (o_a 1) 48 t_f)) ++ ((wI g (o_a 9) 15 z_f))) [wO g o_a o_th o_ts o_pl o_nf o_ne o_rf o_re o_ac o_cm o_sd o_wf o_sm o_sf o_rm o_rs, wI g (o_a 1) 48 t_f, wI g (o_a 9) 15 z_f] [0, 1, 2] rfl (by simp only [List.flatten_cons, List.flatten_nil, List.append_nil, List.append_assoc]) (by show List.flatten [wO g o_a o_th o_ts o_pl o_nf o_ne o_rf o_re o_ac o_cm o_sd o_wf o_sm o_sf o_rm o_rs, wI g (o_a 1) 48 t_f, wI g (o_a 9) 15 z_f] = _; simp only [List.flatten_cons, List.flatten_nil, List.append_nil, List.append_assoc]) ?_
    refine V_cVi (C := (RX6, TX6, 34)) (ci := 6) (ws' := ((wO g o_a o_th o_ts o_pl o_nf o_ne o_rf o_re o_ac o_cm o_sd o_wf o_sm o_sf o_rm o_rs) ++ (wI g (o_a 1) 48 t_f)) ++ ((wI g (o_a 9) 15 z_f))) (List.range _) 2 X (c_X6_figure_n g l o_a o_th o_ts o_pl o_nf o_ne o_rf o_re o_ac o_cm o_sd o_wf o_sm o_sf o_rm o_rs t_f  0 9 (by omega) (by omega) (by omega) (by omega) (k1)) k_RX6_90 hy_X6_figure (by decide) (range_at _ _) (range_nd _) 0 rfl rfl nX6_readOneEater_4 rfl rfl (Nat.le_of_ble_eq_true rfl) (wput_range _ _ _ (by simp only [List.length_append, wI_len, wO_len])) ?_
    refine V_blk (ws' := (wO g o_a o_th o_ts o_pl o_nf o_ne o_rf o_re o_ac o_cm o_sd o_wf o_sm o_sf o_rm o_rs) ++ (wI g (o_a 1) 48 t_f) ++ (wI g (o_a 9) 15 z_f)) [wO g o_a o_th o_ts o_pl o_nf o_ne o_rf o_re o_ac o_cm o_sd o_wf o_sm o_sf o_rm o_rs, wI g (o_a 1) 48 t_f, wI g (o_a 9) 15 z_f] [0, 1, 2] rfl (by simp only [List.flatten_cons, List.flatten_nil, List.append_nil, List.append_assoc]) (by show List.flatten [wO g o_a o_th o_ts o_pl o_nf o_ne o_rf o_re o_ac o_cm o_sd o_wf o_sm o_sf o_rm o_rs, wI g (o_a 1) 48 t_f, wI g (o_a 9) 15 z_f] = _; simp only [List.flatten_cons, List.flatten_nil, List.append_nil, List.append_assoc]) ?_
    refine V_istore_n (lv' := [(0, .ref (o_a 0)), (1, .int (-9))]) nX6_readOneEater_7 (by decide) rfl ?_
    refine V_iload_n nX6_readOneEater_8 rfl ?_
    refine V_bipush (v := (-9)) nX6_readOneEater_9 (by decide) ?_
    refine V_icmp_ne (tgt := 19) nX6_readOneEater_11 rfl (fun h11 => ?_) (fun h11 => ?_)
    · skip
      exact absurd rfl h11
    · skip
      refine V_bipush (v := (-9)) nX6_readOneEater_14 (by decide) ?_
      refine V_goto (tgt := 26) nX6_readOneEater_16 rfl ?_
      refine V_istore_n (lv' := [(0, .ref (o_a 0)), (1, .int (-9)), (2, .int (-9))]) nX6_readOneEater_26 (by decide) rfl ?_
      refine V_iload_n nX6_readOneEater_27 rfl ?_
      refine V_bipush (v := (-9)) nX6_readOneEater_28 (by decide) ?_
      refine V_icmp_ne (tgt := 38) nX6_readOneEater_30 rfl (fun h30 => ?_) (fun h30 => ?_)
      · skip
        exact absurd rfl h30
      · skip
        refine V_bipush (v := (-9)) nX6_readOneEater_33 (by decide) ?_
        refine V_goto (tgt := 44) nX6_readOneEater_35 rfl ?_
        refine V_istore_n (lv' := [(0, .ref (o_a 0)), (1, .int (-9)), (2, .int (-9)), (3, .int (-9))]) nX6_readOneEater_44 (by decide) rfl ?_
        refine V_iload_n nX6_readOneEater_45 rfl ?_
        refine V_bipush (v := (-9)) nX6_readOneEater_46 (by decide) ?_
        refine V_icmp_ne (tgt := 53) nX6_readOneEater_48 rfl (fun h48 => ?_) (fun h48 => ?_)
        · skip
          exact absurd rfl h48
        · skip
          refine V_iconst (v := (nI 0)) nX6_readOneEater_51 rfl ?_
          refine V_top (y := bI false) rfl ?_
          exact R_z rfl X hQ nX6_readOneEater_52 (by simp only [List.map_append, wI_fst, wO_fst]) (⟨by simp [o3B, k1], by simp [o3B, o3Q, o3A, k1]⟩)
