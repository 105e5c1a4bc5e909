set_option maxHeartbeats 4000000 in
set_option maxRecDepth 100000 in
theorem c_X3_append (g : Gx) (l : Launch) (t_a : Nat → Nat) (t_n : Nat) (t_F : Nat → Int32)  (x : Int32) (hn : t_n < 48) : Cd g l yX3_append mX3_append ({ frames := 0, cells := 0, slots := 0, locals := 0 } : Room) [.ref (t_a 0), .int x] (wT g t_a t_n t_F) none (wT g t_a (t_n + 1) (upd t_F t_n x)) := by
  refine Ct.of (lv := [(0, .ref (t_a 0)), (1, .int x)]) ⟨by decide +kernel, rfl, Nat.le_of_ble_eq_true rfl⟩ rfl (fun E A sz Q X hQ => ?_)
  refine V_aload_n nX3_append_0 rfl ?_
  refine V_get3 0 1 (by decide) f_RX3_15 nX3_append_1 rfl rfl ?_
  refine V_bipush (v := (nI 48)) nX3_append_4 (by decide) ?_
  refine V_icmp_ge_N (tgt := 29) nX3_append_6 rfl (by omega) (by omega) (fun h6 => ?_) (fun h6 => ?_)
  · skip
    exact absurd h6 (by omega)
  · skip
    refine V_aload_n nX3_append_9 rfl ?_
    refine V_get3 0 0 (by decide) f_RX3_9 nX3_append_10 rfl rfl ?_
    refine V_aload_n nX3_append_13 rfl ?_
    refine V_get3 0 1 (by decide) f_RX3_15 nX3_append_14 rfl rfl ?_
    refine V_iload_n nX3_append_17 rfl ?_
    refine V_iast (ws' := wT g t_a t_n (upd t_F t_n x)) 1 nX3_append_18 rfl (by omega) (by decide) rfl ?_
    refine V_aload_n nX3_append_19 rfl ?_
    refine V_dup nX3_append_20 rfl ?_
    refine V_get3 0 1 (by decide) f_RX3_15 nX3_append_21 rfl rfl ?_
    refine V_iconst (v := (nI 1)) nX3_append_24 rfl ?_
    refine V_iadd (v := nI (t_n + 1)) nX3_append_25 (nI_add t_n 1) ?_
    refine V_put3 (ws' := wT g t_a (t_n + 1) (upd t_F t_n x)) 0 1 (by decide) f_RX3_15 rfl rfl rfl rfl nX3_append_26 rfl (Nat.le_of_ble_eq_true rfl) rfl ?_
    exact R_v rfl X hQ nX3_append_29 (by simp only [List.map_append, wT_fst]) (⟨rfl, rfl⟩)

set_option maxHeartbeats 4000000 in
set_option maxRecDepth 100000 in
theorem c_X3_figure (g : Gx) (l : Launch) (t_a : Nat → Nat) (t_n : Nat) (t_F : Nat → Int32)  (q : Nat) (hn : t_n ≤ 48) (hq : q < 2 ^ 31) : Cd g l yX3_figure mX3_figure ({ frames := 0, cells := 0, slots := 0, locals := 0 } : Room) [.ref (t_a 0), .int (nI q)] (wT g t_a t_n t_F) (some (.int (figT t_F t_n q))) (wT g t_a t_n t_F) := by
  refine Ct.of (lv := [(0, .ref (t_a 0)), (1, .int (nI q))]) ⟨by decide +kernel, rfl, Nat.le_of_ble_eq_true rfl⟩ rfl (fun E A sz Q X hQ => ?_)
  refine V_iload_n nX3_figure_0 rfl ?_
  refine V_join (b := (decide (True) && decide (q < t_n))) (x := ((t_F q) - (nI 48))) (y := (nI 0)) (pj := 25) (st := []) (fun J1 J2 => ?_) ?_
  · skip
    refine V_if_lt_N (tgt := 24) nX3_figure_1 rfl (by omega) (fun h1 => ?_) (fun h1 => ?_)
    · skip
      exact h1.elim
    · skip
      refine V_iload_n nX3_figure_4 rfl ?_
      refine V_aload_n nX3_figure_5 rfl ?_
      refine V_get3 0 1 (by decide) f_RX3_15 nX3_figure_6 rfl rfl ?_
      refine V_icmp_ge_N (tgt := 24) nX3_figure_9 rfl (by omega) (by omega) (fun h9 => ?_) (fun h9 => ?_)
      · skip
        refine V_iconst (v := (nI 0)) nX3_figure_24 rfl ?_
        exact J2 (by simp [h1, h9])
      · skip
        refine V_aload_n nX3_figure_12 rfl ?_
        refine V_get3 0 0 (by decide) f_RX3_9 nX3_figure_13 rfl rfl ?_
        refine V_iload_n nX3_figure_16 rfl ?_
        refine V_iald 1 nX3_figure_17 rfl (by omega) (by decide) rfl ?_
        refine V_bipush (v := (nI 48)) nX3_figure_18 (by decide) ?_
        refine V_isub (v := (t_F q) - (nI 48)) nX3_figure_20 rfl ?_
        refine V_goto (tgt := 25) nX3_figure_21 rfl ?_
        exact J1 (by simp [h1, h9])
  exact R_i rfl X hQ nX3_figure_25 (by simp only [List.map_append, wT_fst]) (⟨by simp [figT], rfl⟩)

set_option maxHeartbeats 4000000 in
set_option maxRecDepth 100000 in
theorem c_X3_faultOfThing (g : Gx) (l : Launch) (t_a : Nat → Nat) (t_n : Nat) (t_F : Nat → Int32)  (s : Nat) (b : Bool) (hn : t_n ≤ 48) (hs : s ≤ 100) : Cd g l yX3_faultOfThing mX3_faultOfThing ({ frames := 0, cells := 0, slots := 0, locals := 0 } : Room) [.ref (t_a 0), .int (nI s), .int (bI b)] (wT g t_a t_n t_F) (some (.int (oI (thF t_F t_n s b 3 1)))) (wT g t_a t_n t_F) := by
  refine Ct.of (lv := [(0, .ref (t_a 0)), (1, .int (nI s)), (2, .int (bI b))]) ⟨by decide +kernel, rfl, Nat.le_of_ble_eq_true rfl⟩ rfl (fun E A sz Q X hQ => ?_)
  refine V_iconst (v := (nI 1)) nX3_faultOfThing_0 rfl ?_
  refine V_istore_n (lv' := [(0, .ref (t_a 0)), (1, .int (nI s)), (2, .int (bI b)), (3, .int (nI 1))]) nX3_faultOfThing_1 (by decide) rfl ?_
  have L2 : ∀ (n : Nat) (i : Nat), 4 - i < n → i ≤ 4 → 1 ≤ i → thF t_F t_n s b (4 - i) i = thF t_F t_n s b 3 1 → V g E mX3_faultOfThing A Q 0 0 (wT g t_a t_n t_F) 2 [(0, .ref (t_a 0)), (1, .int (nI s)), (2, .int (bI b)), (3, .int (nI i))] [] := by
    intro n
    induction n with
    | zero => intro i hm; exact absurd hm (Nat.not_lt_zero _)
    | succ n ih =>
      intro i hm hi hi1 hr
      refine V_iload_n nX3_faultOfThing_2 rfl ?_
      refine V_iconst (v := (nI 4)) nX3_faultOfThing_3 rfl ?_
      refine V_icmp_ge_N (tgt := 95) nX3_faultOfThing_4 rfl (by omega) (by omega) (fun h4 => ?_) (fun h4 => ?_)
      · skip
        have hz : i = 4 := by omega
        subst hz
        refine V_bipush (v := (-9)) nX3_faultOfThing_95 (by decide) ?_
        exact R_i rfl X hQ nX3_faultOfThing_97 (by simp only [List.map_append, wT_fst]) (⟨by rw [← hr]; rfl, rfl⟩)
      · skip
        refine V_iload_n nX3_faultOfThing_7 rfl ?_
        refine V_iload_n nX3_faultOfThing_8 rfl ?_
        refine V_iadd (v := nI (s + i)) nX3_faultOfThing_9 (nI_add s i) ?_
        refine V_istore (lv' := [(0, .ref (t_a 0)), (1, .int (nI s)), (2, .int (bI b)), (3, .int (nI i)), (4, .int (nI (s + i)))]) nX3_faultOfThing_10 (by decide) rfl ?_
        refine V_iload nX3_faultOfThing_12 rfl ?_
        refine V_aload_n nX3_faultOfThing_14 rfl ?_
        refine V_get3 0 1 (by decide) f_RX3_15 nX3_faultOfThing_15 rfl rfl ?_
        refine V_icmp_lt_N (tgt := 26) nX3_faultOfThing_18 rfl (by omega) (by omega) (fun h18 => ?_) (fun h18 => ?_)
        · skip
          refine V_iload_n nX3_faultOfThing_26 rfl ?_
          refine V_joinN (b := (b && decide (1 < i))) (x := 49) (y := 48) (pj := 42) (st := []) (fun J1 J2 => ?_) ?_
          · skip
            refine V_if_eq_b (tgt := 40) nX3_faultOfThing_27 rfl (fun h27 => ?_) (fun h27 => ?_)
            · skip
              refine V_bipush (v := (nI 48)) nX3_faultOfThing_40 (by decide) ?_
              exact J2 (by simp [h27])
            · skip
              refine V_iload_n nX3_faultOfThing_30 rfl ?_
              refine V_iconst (v := (nI 1)) nX3_faultOfThing_31 rfl ?_
              refine V_icmp_le_N (tgt := 40) nX3_faultOfThing_32 rfl (by omega) (by omega) (fun h32 => ?_) (fun h32 => ?_)
              · skip
                refine V_bipush (v := (nI 48)) nX3_faultOfThing_40 (by decide) ?_
                exact J2 (by simp [h27, h32])
              · skip
                refine V_bipush (v := (nI 49)) nX3_faultOfThing_35 (by decide) ?_
                refine V_goto (tgt := 42) nX3_faultOfThing_37 rfl ?_
                exact J1 (by simp [h27, h32])
          refine V_istore (lv' := [(0, .ref (t_a 0)), (1, .int (nI s)), (2, .int (bI b)), (3, .int (nI i)), (4, .int (nI (s + i))), (5, .int (nI (if (b && decide (1 < i)) = true then 49 else 48)))]) nX3_faultOfThing_42 (by decide) rfl ?_
          refine V_iload_n nX3_faultOfThing_44 rfl ?_
          refine V_joinN (b := (!b && decide (i = 3))) (x := 51) (y := 57) (pj := 60) (st := []) (fun J1 J2 => ?_) ?_
          · skip
            refine V_if_ne_b (tgt := 58) nX3_faultOfThing_45 rfl (fun h45 => ?_) (fun h45 => ?_)
            · skip
              refine V_bipush (v := (nI 57)) nX3_faultOfThing_58 (by decide) ?_
              exact J2 (by simp [h45])
            · skip
              refine V_iload_n nX3_faultOfThing_48 rfl ?_
              refine V_iconst (v := (nI 3)) nX3_faultOfThing_49 rfl ?_
              refine V_icmp_ne_N (tgt := 58) nX3_faultOfThing_50 rfl (by omega) (by omega) (fun h50 => ?_) (fun h50 => ?_)
              · skip
                refine V_bipush (v := (nI 57)) nX3_faultOfThing_58 (by decide) ?_
                exact J2 (by simp [h45, h50])
              · skip
                refine V_bipush (v := (nI 51)) nX3_faultOfThing_53 (by decide) ?_
                refine V_goto (tgt := 60) nX3_faultOfThing_55 rfl ?_
                exact J1 (by simp [h45, h50])
          refine V_istore (lv' := [(0, .ref (t_a 0)), (1, .int (nI s)), (2, .int (bI b)), (3, .int (nI i)), (4, .int (nI (s + i))), (5, .int (nI (if (b && decide (1 < i)) = true then 49 else 48))), (6, .int (nI (if (!b && decide (i = 3)) = true then 51 else 57)))]) nX3_faultOfThing_60 (by decide) rfl ?_
          refine V_aload_n nX3_faultOfThing_62 rfl ?_
          refine V_get3 0 0 (by decide) f_RX3_9 nX3_faultOfThing_63 rfl rfl ?_
          refine V_iload nX3_faultOfThing_66 rfl ?_
          refine V_iald 1 nX3_faultOfThing_68 rfl (by omega) (by decide) rfl ?_
          refine V_iload nX3_faultOfThing_69 rfl ?_
          refine V_icmp_lt (tgt := 86) nX3_faultOfThing_71 rfl (fun h71 => ?_) (fun h71 => ?_)
          · skip
            refine V_iload nX3_faultOfThing_86 rfl ?_
            exact R_i rfl X hQ nX3_faultOfThing_88 (by simp only [List.map_append, wT_fst]) (⟨by rw [← hr, thF_bad h4 h18 (Or.inl h71)]; rfl, rfl⟩)
          · skip
            refine V_aload_n nX3_faultOfThing_74 rfl ?_
            refine V_get3 0 0 (by decide) f_RX3_9 nX3_faultOfThing_75 rfl rfl ?_
            refine V_iload nX3_faultOfThing_78 rfl ?_
            refine V_iald 1 nX3_faultOfThing_80 rfl (by omega) (by decide) rfl ?_
            refine V_iload nX3_faultOfThing_81 rfl ?_
            refine V_icmp_le (tgt := 89) nX3_faultOfThing_83 rfl (fun h83 => ?_) (fun h83 => ?_)
            · skip
              refine V_iinc (v := nI (i + 1)) (lv' := [(0, .ref (t_a 0)), (1, .int (nI s)), (2, .int (bI b)), (3, .int (nI (i + 1))), (4, .int (nI (s + i))), (5, .int (nI (if (b && decide (1 < i)) = true then 49 else 48))), (6, .int (nI (if (!b && decide (i = 3)) = true then 51 else 57)))]) nX3_faultOfThing_89 rfl (nI_add i 1) (by decide) rfl ?_
              refine V_goto (tgt := 2) nX3_faultOfThing_92 rfl ?_
              refine V_pick (lv2 := [(0, .ref (t_a 0)), (1, .int (nI s)), (2, .int (bI b)), (3, .int (nI (i + 1)))]) [0, 1, 2, 3] rfl ?_
              exact ih (i + 1) (by omega) (by omega) (by omega) (by rw [← hr]; exact (thF_go h4 h18 (fun q => q.elim h71 (fun q => q h83))).symm)
            · skip
              refine V_iload nX3_faultOfThing_86 rfl ?_
              exact R_i rfl X hQ nX3_faultOfThing_88 (by simp only [List.map_append, wT_fst]) (⟨by rw [← hr, thF_bad h4 h18 (Or.inr h83)]; rfl, rfl⟩)
        · skip
          refine V_aload_n nX3_faultOfThing_21 rfl ?_
          refine V_get3 0 1 (by decide) f_RX3_15 nX3_faultOfThing_22 rfl rfl ?_
          exact R_i rfl X hQ nX3_faultOfThing_25 (by simp only [List.map_append, wT_fst]) (⟨by rw [← hr, thF_end h4 h18]; rfl, rfl⟩)
  exact L2 _ 1 (Nat.lt_succ_self _) (by omega) (by omega) (rfl)

set_option maxHeartbeats 4000000 in
set_option maxRecDepth 100000 in
theorem c_X3_firstFault (g : Gx) (l : Launch) (t_a : Nat → Nat) (t_n : Nat) (t_F : Nat → Int32)   (hn : t_n ≤ 48) : Cd g l yX3_firstFault mX3_firstFault ({ frames := 1, cells := 0, slots := 0, locals := 26 } : Room) [.ref (t_a 0)] (wT g t_a t_n t_F) (some (.int (oI (faultT t_F t_n)))) (wT g t_a t_n t_F) := by
  refine Ct.of (lv := [(0, .ref (t_a 0))]) ⟨by decide +kernel, rfl, Nat.le_of_ble_eq_true rfl⟩ rfl (fun E A sz Q X hQ => ?_)
  refine V_aload_n nX3_firstFault_0 rfl ?_
  refine V_get3 0 1 (by decide) f_RX3_15 nX3_firstFault_1 rfl rfl ?_
  refine V_if_eq_N (tgt := 18) nX3_firstFault_4 rfl (by omega) (fun h4 => ?_) (fun h4 => ?_)
  · skip
    refine V_iconst (v := (nI 0)) nX3_firstFault_18 rfl ?_
    exact R_i rfl X hQ nX3_firstFault_19 (by simp only [List.map_append, wT_fst]) (⟨by rw [show faultT t_F t_n = _ from if_neg (by simp_all)]; rfl, rfl⟩)
  · skip
    refine V_aload_n nX3_firstFault_7 rfl ?_
    refine V_get3 0 0 (by decide) f_RX3_9 nX3_firstFault_8 rfl rfl ?_
    refine V_iconst (v := (nI 0)) nX3_firstFault_11 rfl ?_
    refine V_iald 1 nX3_firstFault_12 rfl (by omega) (by decide) rfl ?_
    refine V_bipush (v := (nI 70)) nX3_firstFault_13 (by decide) ?_
    refine V_icmp_eq (tgt := 20) nX3_firstFault_15 rfl (fun h15 => ?_) (fun h15 => ?_)
    · skip
      refine V_iconst (v := (nI 0)) nX3_firstFault_20 rfl ?_
      refine V_istore_n (lv' := [(0, .ref (t_a 0)), (1, .int (nI 0))]) nX3_firstFault_21 (by decide) rfl ?_
      refine V_iconst (v := (nI 0)) nX3_firstFault_22 rfl ?_
      refine V_istore_n (lv' := [(0, .ref (t_a 0)), (1, .int (nI 0)), (2, .int (nI 0))]) nX3_firstFault_23 (by decide) rfl ?_
      refine V_iconst (v := (nI 1)) nX3_firstFault_24 rfl ?_
      refine V_istore_n (lv' := [(0, .ref (t_a 0)), (1, .int (nI 0)), (2, .int (nI 0)), (3, .int (nI 1))]) nX3_firstFault_25 (by decide) rfl ?_
      have L26 : ∀ (n : Nat) (i : Nat) (a : Nat) (b : Nat) (k : Nat), 60 - i < n → i ≤ 60 → a ≤ 4 → b ≤ 5 → t_n ≤ i + 4 * k → ffC t_F t_n k i a b = ffC t_F t_n 12 1 0 0 → V g E mX3_firstFault A Q 0 0 (wT g t_a t_n t_F) 26 [(0, .ref (t_a 0)), (1, .int (nI a)), (2, .int (nI b)), (3, .int (nI i))] [] := by
        intro n
        induction n with
        | zero => intro i a b k hm; exact absurd hm (Nat.not_lt_zero _)
        | succ n ih =>
          intro i a b k hm hi ha hb hk hr
          have hG := ite1 (decide (t_F i = nI 71))
          have hE := ite1 (decide (t_F i = nI 69))
          refine V_iload_n nX3_firstFault_26 rfl ?_
          refine V_aload_n nX3_firstFault_27 rfl ?_
          refine V_get3 0 1 (by decide) f_RX3_15 nX3_firstFault_28 rfl rfl ?_
          refine V_icmp_ge_N (tgt := 137) nX3_firstFault_31 rfl (by omega) (by omega) (fun h31 => ?_) (fun h31 => ?_)
          · skip
            refine V_bipush (v := (-9)) nX3_firstFault_137 (by decide) ?_
            exact R_i rfl X hQ nX3_firstFault_139 (by simp only [List.map_append, wT_fst]) (⟨by rw [ffault_t h4 h15, ← hr, ffC_end h31]; rfl, rfl⟩)
          · skip
            refine V_aload_n nX3_firstFault_34 rfl ?_
            refine V_get3 0 0 (by decide) f_RX3_9 nX3_firstFault_35 rfl rfl ?_
            refine V_iload_n nX3_firstFault_38 rfl ?_
            refine V_iald 1 nX3_firstFault_39 rfl (by omega) (by decide) rfl ?_
            refine V_bipush (v := (nI 71)) nX3_firstFault_40 (by decide) ?_
            refine V_joinb (b := decide ((t_F i) = (nI 71))) (pj := 50) (st := []) (fun J1 J2 => ?_) ?_
            · skip
              refine V_icmp_ne (tgt := 49) nX3_firstFault_42 rfl (fun h42 => ?_) (fun h42 => ?_)
              · skip
                refine V_iconst (v := (nI 0)) nX3_firstFault_49 rfl ?_
                exact J2 (by simp [h42])
              · skip
                refine V_iconst (v := (nI 1)) nX3_firstFault_45 rfl ?_
                refine V_goto (tgt := 50) nX3_firstFault_46 rfl ?_
                exact J1 (by simp [h42])
            refine V_istore (lv' := [(0, .ref (t_a 0)), (1, .int (nI a)), (2, .int (nI b)), (3, .int (nI i)), (4, .int (bI (decide ((t_F i) = (nI 71)))))]) nX3_firstFault_50 (by decide) rfl ?_
            refine V_iload_n nX3_firstFault_52 rfl ?_
            refine V_iload nX3_firstFault_53 rfl ?_
            refine V_joinb (b := (decide ((t_F i) = (nI 71)))) (pj := 63) (st := [.int (nI a)]) (fun J1 J2 => ?_) ?_
            · skip
              refine V_if_eq_b (tgt := 62) nX3_firstFault_55 rfl (fun h55 => ?_) (fun h55 => ?_)
              · skip
                refine V_iconst (v := (nI 0)) nX3_firstFault_62 rfl ?_
                exact J2 (by simp [h55])
              · skip
                refine V_iconst (v := (nI 1)) nX3_firstFault_58 rfl ?_
                refine V_goto (tgt := 63) nX3_firstFault_59 rfl ?_
                exact J1 (by simp [h55])
            refine V_iadd (v := nI (a + (if (decide ((t_F i) = (nI 71))) = true then 1 else 0))) nX3_firstFault_63 (nI_addb a (decide ((t_F i) = (nI 71)))) ?_
            refine V_istore_n (lv' := [(0, .ref (t_a 0)), (1, .int (nI (a + (if (decide ((t_F i) = (nI 71))) = true then 1 else 0)))), (2, .int (nI b)), (3, .int (nI i)), (4, .int (bI (decide ((t_F i) = (nI 71)))))]) nX3_firstFault_64 (by decide) rfl ?_
            refine V_iload_n nX3_firstFault_65 rfl ?_
            refine V_aload_n nX3_firstFault_66 rfl ?_
            refine V_get3 0 0 (by decide) f_RX3_9 nX3_firstFault_67 rfl rfl ?_
            refine V_iload_n nX3_firstFault_70 rfl ?_
            refine V_iald 1 nX3_firstFault_71 rfl (by omega) (by decide) rfl ?_
            refine V_bipush (v := (nI 69)) nX3_firstFault_72 (by decide) ?_
            refine V_joinb (b := decide ((t_F i) = (nI 69))) (pj := 82) (st := [.int (nI b)]) (fun J1 J2 => ?_) ?_
            · skip
              refine V_icmp_ne (tgt := 81) nX3_firstFault_74 rfl (fun h74 => ?_) (fun h74 => ?_)
              · skip
                refine V_iconst (v := (nI 0)) nX3_firstFault_81 rfl ?_
                exact J2 (by simp [h74])
              · skip
                refine V_iconst (v := (nI 1)) nX3_firstFault_77 rfl ?_
                refine V_goto (tgt := 82) nX3_firstFault_78 rfl ?_
                exact J1 (by simp [h74])
            refine V_iadd (v := nI (b + (if (decide ((t_F i) = (nI 69))) = true then 1 else 0))) nX3_firstFault_82 (nI_addb b (decide ((t_F i) = (nI 69)))) ?_
            refine V_istore_n (lv' := [(0, .ref (t_a 0)), (1, .int (nI (a + (if (decide ((t_F i) = (nI 71))) = true then 1 else 0)))), (2, .int (nI (b + (if (decide ((t_F i) = (nI 69))) = true then 1 else 0)))), (3, .int (nI i)), (4, .int (bI (decide ((t_F i) = (nI 71)))))]) nX3_firstFault_83 (by decide) rfl ?_
            refine V_iload nX3_firstFault_84 rfl ?_
            refine V_if_ne_b (tgt := 100) nX3_firstFault_86 rfl (fun h86 => ?_) (fun h86 => ?_)
            · skip
              refine V_iload_n nX3_firstFault_100 rfl ?_
              refine V_iconst (v := (nI 4)) nX3_firstFault_101 rfl ?_
              refine V_icmp_gt_N (tgt := 110) nX3_firstFault_102 rfl (by omega) (by omega) (fun h102 => ?_) (fun h102 => ?_)
              · skip
                refine V_iload_n nX3_firstFault_110 rfl ?_
                exact R_i rfl X hQ nX3_firstFault_111 (by simp only [List.map_append, wT_fst]) (⟨by rw [ffault_t h4 h15, ← hr, ffC_bad hk h31 (by intro q; first | (have := q.2; omega) | exact q.1.elim (of_decide_eq_false h86) h97)]; rfl, rfl⟩)
              · skip
                refine V_iload_n nX3_firstFault_105 rfl ?_
                refine V_iconst (v := (nI 5)) nX3_firstFault_106 rfl ?_
                refine V_icmp_le_N (tgt := 112) nX3_firstFault_107 rfl (by omega) (by omega) (fun h107 => ?_) (fun h107 => ?_)
                · skip
                  refine V_aload_n nX3_firstFault_112 rfl ?_
                  refine V_iload_n nX3_firstFault_113 rfl ?_
                  refine V_iload nX3_firstFault_114 rfl ?_
                  refine V_blk (ws' := ((wT g t_a t_n t_F)) ++ ([] : va_W)) [wT g t_a t_n t_F] [0] rfl (by simp only [List.flatten_cons, List.flatten_nil, List.append_nil, List.append_assoc]) (by show List.flatten [wT g t_a t_n t_F] = _; simp only [List.flatten_cons, List.flatten_nil, List.append_nil, List.append_assoc]) ?_
                  refine V_cVi (C := (RX3, TX3, 2)) (ci := 3) (ws' := ((wT g t_a t_n t_F)) ++ ([] : va_W)) (List.range _) 2 X (c_X3_faultOfThing g l t_a t_n t_F  i (decide ((t_F i) = (nI 71))) (by omega) (by omega)) k_RX3_19 hy_X3_faultOfThing (by decide) (range_at _ _) (range_nd _) 0 rfl rfl nX3_firstFault_116 rfl rfl (Nat.le_of_ble_eq_true rfl) (wput_range _ _ _ (by simp only [List.length_append, wT_len])) ?_
                  refine V_blk (ws' := wT g t_a t_n t_F) [wT g t_a t_n t_F] [0] rfl (by simp only [List.flatten_cons, List.flatten_nil, List.append_nil, List.append_assoc]) (by show List.flatten [wT g t_a t_n t_F] = _; simp only [List.flatten_cons, List.flatten_nil, List.append_nil, List.append_assoc]) ?_
                  refine V_istore (lv' := [(0, .ref (t_a 0)), (1, .int (nI (a + (if (decide ((t_F i) = (nI 71))) = true then 1 else 0)))), (2, .int (nI (b + (if (decide ((t_F i) = (nI 69))) = true then 1 else 0)))), (3, .int (nI i)), (4, .int (bI (decide ((t_F i) = (nI 71))))), (5, .int (oI (thF t_F t_n i (decide ((t_F i) = (nI 71))) 3 1)))]) nX3_firstFault_119 (by decide) rfl ?_
                  refine V_iload nX3_firstFault_121 rfl ?_
                  refine V_bipush (v := (-9)) nX3_firstFault_123 (by decide) ?_
                  refine V_icmp_eq (tgt := 131) nX3_firstFault_125 rfl (fun h125 => ?_) (fun h125 => ?_)
                  · skip
                    have ht : thF t_F t_n i (decide (t_F i = nI 71)) 3 1 = none := (oI_none (fun q hq => thF_lt t_F (by omega) hn _ 3 1 q (by omega) hq)).mp h125
                    refine V_iinc (v := nI (i + 4)) (lv' := [(0, .ref (t_a 0)), (1, .int (nI (a + (if (decide ((t_F i) = (nI 71))) = true then 1 else 0)))), (2, .int (nI (b + (if (decide ((t_F i) = (nI 69))) = true then 1 else 0)))), (3, .int (nI (i + 4))), (4, .int (bI (decide ((t_F i) = (nI 71))))), (5, .int (oI (thF t_F t_n i (decide ((t_F i) = (nI 71))) 3 1)))]) nX3_firstFault_131 rfl (nI_add i 4) (by decide) rfl ?_
                    refine V_goto (tgt := 26) nX3_firstFault_134 rfl ?_
                    refine V_pick (lv2 := [(0, .ref (t_a 0)), (1, .int (nI (a + (if (decide ((t_F i) = (nI 71))) = true then 1 else 0)))), (2, .int (nI (b + (if (decide ((t_F i) = (nI 69))) = true then 1 else 0)))), (3, .int (nI (i + 4)))]) [0, 1, 2, 3] rfl ?_
                    exact ih (i + 4) (a + (if decide (t_F i = nI 71) = true then 1 else 0)) (b + (if decide (t_F i = nI 69) = true then 1 else 0)) (k - 1) (by omega) (by omega) (by omega) (by omega) (by omega) (by rw [← hr]; exact (ffC_go hk h31 (by refine ⟨?_, h102, h107⟩; first | exact Or.inr h97 | exact Or.inl (of_decide_eq_true h86)) ht).symm)
                  · skip
                    obtain ⟨q, ht⟩ : ∃ q, thF t_F t_n i (decide (t_F i = nI 71)) 3 1 = some q := by
                      cases hq : thF t_F t_n i (decide (t_F i = nI 71)) 3 1 with
                      | none => rw [hq] at h125; exact absurd rfl h125
                      | some q => exact ⟨q, rfl⟩
                    refine V_iload nX3_firstFault_128 rfl ?_
                    exact R_i rfl X hQ nX3_firstFault_130 (by simp only [List.map_append, wT_fst]) (⟨by rw [ffault_t h4 h15, ← hr, ffC_th hk h31 (by refine ⟨?_, h102, h107⟩; first | exact Or.inr h97 | exact Or.inl (of_decide_eq_true h86)) ht, ht], rfl⟩)
                · skip
                  refine V_iload_n nX3_firstFault_110 rfl ?_
                  exact R_i rfl X hQ nX3_firstFault_111 (by simp only [List.map_append, wT_fst]) (⟨by rw [ffault_t h4 h15, ← hr, ffC_bad hk h31 (by intro q; first | (have := q.2; omega) | exact q.1.elim (of_decide_eq_false h86) h97)]; rfl, rfl⟩)
            · skip
              refine V_aload_n nX3_firstFault_89 rfl ?_
              refine V_get3 0 0 (by decide) f_RX3_9 nX3_firstFault_90 rfl rfl ?_
              refine V_iload_n nX3_firstFault_93 rfl ?_
              refine V_iald 1 nX3_firstFault_94 rfl (by omega) (by decide) rfl ?_
              refine V_bipush (v := (nI 69)) nX3_firstFault_95 (by decide) ?_
              refine V_icmp_ne (tgt := 110) nX3_firstFault_97 rfl (fun h97 => ?_) (fun h97 => ?_)
              · skip
                refine V_iload_n nX3_firstFault_110 rfl ?_
                exact R_i rfl X hQ nX3_firstFault_111 (by simp only [List.map_append, wT_fst]) (⟨by rw [ffault_t h4 h15, ← hr, ffC_bad hk h31 (by intro q; first | (have := q.2; omega) | exact q.1.elim (of_decide_eq_false h86) h97)]; rfl, rfl⟩)
              · skip
                refine V_iload_n nX3_firstFault_100 rfl ?_
                refine V_iconst (v := (nI 4)) nX3_firstFault_101 rfl ?_
                refine V_icmp_gt_N (tgt := 110) nX3_firstFault_102 rfl (by omega) (by omega) (fun h102 => ?_) (fun h102 => ?_)
                · skip
                  refine V_iload_n nX3_firstFault_110 rfl ?_
                  exact R_i rfl X hQ nX3_firstFault_111 (by simp only [List.map_append, wT_fst]) (⟨by rw [ffault_t h4 h15, ← hr, ffC_bad hk h31 (by intro q; first | (have := q.2; omega) | exact q.1.elim (of_decide_eq_false h86) h97)]; rfl, rfl⟩)
                · skip
                  refine V_iload_n nX3_firstFault_105 rfl ?_
                  refine V_iconst (v := (nI 5)) nX3_firstFault_106 rfl ?_
                  refine V_icmp_le_N (tgt := 112) nX3_firstFault_107 rfl (by omega) (by omega) (fun h107 => ?_) (fun h107 => ?_)
                  · skip
                    refine V_aload_n nX3_firstFault_112 rfl ?_
                    refine V_iload_n nX3_firstFault_113 rfl ?_
                    refine V_iload nX3_firstFault_114 rfl ?_
                    refine V_blk (ws' := ((wT g t_a t_n t_F)) ++ ([] : va_W)) [wT g t_a t_n t_F] [0] rfl (by simp only [List.flatten_cons, List.flatten_nil, List.append_nil, List.append_assoc]) (by show List.flatten [wT g t_a t_n t_F] = _; simp only [List.flatten_cons, List.flatten_nil, List.append_nil, List.append_assoc]) ?_
                    refine V_cVi (C := (RX3, TX3, 2)) (ci := 3) (ws' := ((wT g t_a t_n t_F)) ++ ([] : va_W)) (List.range _) 2 X (c_X3_faultOfThing g l t_a t_n t_F  i (decide ((t_F i) = (nI 71))) (by omega) (by omega)) k_RX3_19 hy_X3_faultOfThing (by decide) (range_at _ _) (range_nd _) 0 rfl rfl nX3_firstFault_116 rfl rfl (Nat.le_of_ble_eq_true rfl) (wput_range _ _ _ (by simp only [List.length_append, wT_len])) ?_
                    refine V_blk (ws' := wT g t_a t_n t_F) [wT g t_a t_n t_F] [0] rfl (by simp only [List.flatten_cons, List.flatten_nil, List.append_nil, List.append_assoc]) (by show List.flatten [wT g t_a t_n t_F] = _; simp only [List.flatten_cons, List.flatten_nil, List.append_nil, List.append_assoc]) ?_
                    refine V_istore (lv' := [(0, .ref (t_a 0)), (1, .int (nI (a + (if (decide ((t_F i) = (nI 71))) = true then 1 else 0)))), (2, .int (nI (b + (if (decide ((t_F i) = (nI 69))) = true then 1 else 0)))), (3, .int (nI i)), (4, .int (bI (decide ((t_F i) = (nI 71))))), (5, .int (oI (thF t_F t_n i (decide ((t_F i) = (nI 71))) 3 1)))]) nX3_firstFault_119 (by decide) rfl ?_
                    refine V_iload nX3_firstFault_121 rfl ?_
                    refine V_bipush (v := (-9)) nX3_firstFault_123 (by decide) ?_
                    refine V_icmp_eq (tgt := 131) nX3_firstFault_125 rfl (fun h125 => ?_) (fun h125 => ?_)
                    · skip
                      have ht : thF t_F t_n i (decide (t_F i = nI 71)) 3 1 = none := (oI_none (fun q hq => thF_lt t_F (by omega) hn _ 3 1 q (by omega) hq)).mp h125
                      refine V_iinc (v := nI (i + 4)) (lv' := [(0, .ref (t_a 0)), (1, .int (nI (a + (if (decide ((t_F i) = (nI 71))) = true then 1 else 0)))), (2, .int (nI (b + (if (decide ((t_F i) = (nI 69))) = true then 1 else 0)))), (3, .int (nI (i + 4))), (4, .int (bI (decide ((t_F i) = (nI 71))))), (5, .int (oI (thF t_F t_n i (decide ((t_F i) = (nI 71))) 3 1)))]) nX3_firstFault_131 rfl (nI_add i 4) (by decide) rfl ?_
                      refine V_goto (tgt := 26) nX3_firstFault_134 rfl ?_
                      refine V_pick (lv2 := [(0, .ref (t_a 0)), (1, .int (nI (a + (if (decide ((t_F i) = (nI 71))) = true then 1 else 0)))), (2, .int (nI (b + (if (decide ((t_F i) = (nI 69))) = true then 1 else 0)))), (3, .int (nI (i + 4)))]) [0, 1, 2, 3] rfl ?_
                      exact ih (i + 4) (a + (if decide (t_F i = nI 71) = true then 1 else 0)) (b + (if decide (t_F i = nI 69) = true then 1 else 0)) (k - 1) (by omega) (by omega) (by omega) (by omega) (by omega) (by rw [← hr]; exact (ffC_go hk h31 (by refine ⟨?_, h102, h107⟩; first | exact Or.inr h97 | exact Or.inl (of_decide_eq_true h86)) ht).symm)
                    · skip
                      obtain ⟨q, ht⟩ : ∃ q, thF t_F t_n i (decide (t_F i = nI 71)) 3 1 = some q := by
                        cases hq : thF t_F t_n i (decide (t_F i = nI 71)) 3 1 with
                        | none => rw [hq] at h125; exact absurd rfl h125
                        | some q => exact ⟨q, rfl⟩
                      refine V_iload nX3_firstFault_128 rfl ?_
                      exact R_i rfl X hQ nX3_firstFault_130 (by simp only [List.map_append, wT_fst]) (⟨by rw [ffault_t h4 h15, ← hr, ffC_th hk h31 (by refine ⟨?_, h102, h107⟩; first | exact Or.inr h97 | exact Or.inl (of_decide_eq_true h86)) ht, ht], rfl⟩)
                  · skip
                    refine V_iload_n nX3_firstFault_110 rfl ?_
                    exact R_i rfl X hQ nX3_firstFault_111 (by simp only [List.map_append, wT_fst]) (⟨by rw [ffault_t h4 h15, ← hr, ffC_bad hk h31 (by intro q; first | (have := q.2; omega) | exact q.1.elim (of_decide_eq_false h86) h97)]; rfl, rfl⟩)
      exact L26 _ 1 0 0 12 (Nat.lt_succ_self _) (by omega) (by omega) (by omega) (by omega) (rfl)
    · skip
      refine V_iconst (v := (nI 0)) nX3_firstFault_18 rfl ?_
      exact R_i rfl X hQ nX3_firstFault_19 (by simp only [List.map_append, wT_fst]) (⟨by rw [show faultT t_F t_n = _ from if_neg (by simp_all)]; rfl, rfl⟩)

set_option maxHeartbeats 4000000 in
set_option maxRecDepth 100000 in
theorem c_X2_addField (g : Gx) (l : Launch) (l_a : Nat → Nat) (l_nf : Nat) (l_ne : Nat) (l_pl : Nat → Int32) (l_yl : Nat → Int32) (l_nd : Nat → Int32) (l_hm : Nat → Int32) (l_wk : Nat → Int32) (l_kd : Nat → Int32) (t_a : Nat → Nat) (t_n : Nat) (t_F : Nat → Int32)  (i : Nat) (hnf : l_nf ≤ 4) (hne : l_ne ≤ 5) (hn : t_n ≤ 48) (hi : i ≤ 100) : Cd g l yX2_addField mX2_addField ({ frames := 1, cells := 0, slots := 0, locals := 21 } : Room) [.ref (l_a 0), .ref (t_a 0), .int (nI i)] ((wL g l_a l_nf l_ne l_pl l_yl l_nd l_hm l_wk l_kd) ++ (wT g t_a t_n t_F)) none ((wL g l_a ((addF t_F t_n i (l_nf, l_ne, l_pl, l_yl, l_nd, l_hm, l_wk, l_kd)).1) ((addF t_F t_n i (l_nf, l_ne, l_pl, l_yl, l_nd, l_hm, l_wk, l_kd)).2.1) ((addF t_F t_n i (l_nf, l_ne, l_pl, l_yl, l_nd, l_hm, l_wk, l_kd)).2.2.1) ((addF t_F t_n i (l_nf, l_ne, l_pl, l_yl, l_nd, l_hm, l_wk, l_kd)).2.2.2.1) ((addF t_F t_n i (l_nf, l_ne, l_pl, l_yl, l_nd, l_hm, l_wk, l_kd)).2.2.2.2.1) ((addF t_F t_n i (l_nf, l_ne, l_pl, l_yl, l_nd, l_hm, l_wk, l_kd)).2.2.2.2.2.1) ((addF t_F t_n i (l_nf, l_ne, l_pl, l_yl, l_nd, l_hm, l_wk, l_kd)).2.2.2.2.2.2.1) ((addF t_F t_n i (l_nf, l_ne, l_pl, l_yl, l_nd, l_hm, l_wk, l_kd)).2.2.2.2.2.2.2)) ++ (wT g t_a t_n t_F)) := by
  refine Ct.of (lv := [(0, .ref (l_a 0)), (1, .ref (t_a 0)), (2, .int (nI i))]) ⟨by decide +kernel, rfl, Nat.le_of_ble_eq_true rfl⟩ rfl (fun E A sz Q X hQ => ?_)
  refine V_aload_n nX2_addField_0 rfl ?_
  refine V_get2 0 6 (by decide) f_RX2_30 nX2_addField_1 rfl rfl ?_
  refine V_iconst (v := (nI 4)) nX2_addField_4 rfl ?_
  refine V_icmp_ge_N (tgt := 66) nX2_addField_5 rfl (by omega) (by omega) (fun h5 => ?_) (fun h5 => ?_)
  · skip
    exact R_v rfl X hQ nX2_addField_66 (by simp only [List.map_append, wL_fst, wT_fst]) (⟨rfl, by rw [show addF t_F t_n i (l_nf, l_ne, l_pl, l_yl, l_nd, l_hm, l_wk, l_kd) = _ from if_neg (Nat.not_lt.mpr h5)]⟩)
  · skip
    refine V_aload_n nX2_addField_8 rfl ?_
    refine V_get2 0 0 (by decide) f_RX2_9 nX2_addField_9 rfl rfl ?_
    refine V_aload_n nX2_addField_12 rfl ?_
    refine V_get2 0 6 (by decide) f_RX2_30 nX2_addField_13 rfl rfl ?_
    refine V_aload_n nX2_addField_16 rfl ?_
    refine V_iload_n nX2_addField_17 rfl ?_
    refine V_iconst (v := (nI 1)) nX2_addField_18 rfl ?_
    refine V_iadd (v := nI (i + 1)) nX2_addField_19 (nI_add i 1) ?_
    refine V_blk (ws' := ((wT g t_a t_n t_F)) ++ ((wL g l_a l_nf l_ne l_pl l_yl l_nd l_hm l_wk l_kd))) [wL g l_a l_nf l_ne l_pl l_yl l_nd l_hm l_wk l_kd, wT g t_a t_n t_F] [1, 0] rfl (by simp only [List.flatten_cons, List.flatten_nil, List.append_nil, List.append_assoc]) (by show List.flatten [wT g t_a t_n t_F, wL g l_a l_nf l_ne l_pl l_yl l_nd l_hm l_wk l_kd] = _; simp only [List.flatten_cons, List.flatten_nil, List.append_nil, List.append_assoc]) ?_
    refine V_cVi (C := (RX3, TX3, 2)) (ci := 3) (ws' := ((wT g t_a t_n t_F)) ++ ((wL g l_a l_nf l_ne l_pl l_yl l_nd l_hm l_wk l_kd))) (List.range _) 1 X (c_X3_figure g l t_a t_n t_F  (i + 1) (by omega) (by omega)) k_RX2_52 hy_X3_figure (by decide) (range_at _ _) (range_nd _) 0 rfl rfl nX2_addField_20 rfl rfl (Nat.le_of_ble_eq_true rfl) (wput_range _ _ _ (by simp only [List.length_append, wT_len])) ?_
    refine V_blk (ws' := (wL g l_a l_nf l_ne l_pl l_yl l_nd l_hm l_wk l_kd) ++ (wT g t_a t_n t_F)) [wT g t_a t_n t_F, wL g l_a l_nf l_ne l_pl l_yl l_nd l_hm l_wk l_kd] [1, 0] rfl (by simp only [List.flatten_cons, List.flatten_nil, List.append_nil, List.append_assoc]) (by show List.flatten [wL g l_a l_nf l_ne l_pl l_yl l_nd l_hm l_wk l_kd, wT g t_a t_n t_F] = _; simp only [List.flatten_cons, List.flatten_nil, List.append_nil, List.append_assoc]) ?_
    refine V_iast (ws' := (wL g l_a l_nf l_ne (upd l_pl l_nf (figT t_F t_n (i + 1))) l_yl l_nd l_hm l_wk l_kd) ++ (wT g t_a t_n t_F)) 1 nX2_addField_23 rfl (by omega) (by decide) rfl ?_
    refine V_aload_n nX2_addField_24 rfl ?_
    refine V_get2 0 1 (by decide) f_RX2_15 nX2_addField_25 rfl rfl ?_
    refine V_aload_n nX2_addField_28 rfl ?_
    refine V_get2 0 6 (by decide) f_RX2_30 nX2_addField_29 rfl rfl ?_
    refine V_aload_n nX2_addField_32 rfl ?_
    refine V_iload_n nX2_addField_33 rfl ?_
    refine V_iconst (v := (nI 2)) nX2_addField_34 rfl ?_
    refine V_iadd (v := nI (i + 2)) nX2_addField_35 (nI_add i 2) ?_
    refine V_blk (ws' := ((wT g t_a t_n t_F)) ++ ((wL g l_a l_nf l_ne (upd l_pl l_nf (figT t_F t_n (i + 1))) l_yl l_nd l_hm l_wk l_kd))) [wL g l_a l_nf l_ne (upd l_pl l_nf (figT t_F t_n (i + 1))) l_yl l_nd l_hm l_wk l_kd, wT g t_a t_n t_F] [1, 0] rfl (by simp only [List.flatten_cons, List.flatten_nil, List.append_nil, List.append_assoc]) (by show List.flatten [wT g t_a t_n t_F, wL g l_a l_nf l_ne (upd l_pl l_nf (figT t_F t_n (i + 1))) l_yl l_nd l_hm l_wk l_kd] = _; simp only [List.flatten_cons, List.flatten_nil, List.append_nil, List.append_assoc]) ?_
    refine V_cVi (C := (RX3, TX3, 2)) (ci := 3) (ws' := ((wT g t_a t_n t_F)) ++ ((wL g l_a l_nf l_ne (upd l_pl l_nf (figT t_F t_n (i + 1))) l_yl l_nd l_hm l_wk l_kd))) (List.range _) 1 X (c_X3_figure g l t_a t_n t_F  (i + 2) (by omega) (by omega)) k_RX2_52 hy_X3_figure (by decide) (range_at _ _) (range_nd _) 0 rfl rfl nX2_addField_36 rfl rfl (Nat.le_of_ble_eq_true rfl) (wput_range _ _ _ (by simp only [List.length_append, wT_len])) ?_
    refine V_blk (ws' := (wL g l_a l_nf l_ne (upd l_pl l_nf (figT t_F t_n (i + 1))) l_yl l_nd l_hm l_wk l_kd) ++ (wT g t_a t_n t_F)) [wT g t_a t_n t_F, wL g l_a l_nf l_ne (upd l_pl l_nf (figT t_F t_n (i + 1))) l_yl l_nd l_hm l_wk l_kd] [1, 0] rfl (by simp only [List.flatten_cons, List.flatten_nil, List.append_nil, List.append_assoc]) (by show List.flatten [wL g l_a l_nf l_ne (upd l_pl l_nf (figT t_F t_n (i + 1))) l_yl l_nd l_hm l_wk l_kd, wT g t_a t_n t_F] = _; simp only [List.flatten_cons, List.flatten_nil, List.append_nil, List.append_assoc]) ?_
    refine V_iast (ws' := (wL g l_a l_nf l_ne (upd l_pl l_nf (figT t_F t_n (i + 1))) (upd l_yl l_nf (figT t_F t_n (i + 2))) l_nd l_hm l_wk l_kd) ++ (wT g t_a t_n t_F)) 2 nX2_addField_39 rfl (by omega) (by decide) rfl ?_
    refine V_aload_n nX2_addField_40 rfl ?_
    refine V_get2 0 2 (by decide) f_RX2_18 nX2_addField_41 rfl rfl ?_
    refine V_aload_n nX2_addField_44 rfl ?_
    refine V_get2 0 6 (by decide) f_RX2_30 nX2_addField_45 rfl rfl ?_
    refine V_aload_n nX2_addField_48 rfl ?_
    refine V_iload_n nX2_addField_49 rfl ?_
    refine V_iconst (v := (nI 3)) nX2_addField_50 rfl ?_
    refine V_iadd (v := nI (i + 3)) nX2_addField_51 (nI_add i 3) ?_
    refine V_blk (ws' := ((wT g t_a t_n t_F)) ++ ((wL g l_a l_nf l_ne (upd l_pl l_nf (figT t_F t_n (i + 1))) (upd l_yl l_nf (figT t_F t_n (i + 2))) l_nd l_hm l_wk l_kd))) [wL g l_a l_nf l_ne (upd l_pl l_nf (figT t_F t_n (i + 1))) (upd l_yl l_nf (figT t_F t_n (i + 2))) l_nd l_hm l_wk l_kd, wT g t_a t_n t_F] [1, 0] rfl (by simp only [List.flatten_cons, List.flatten_nil, List.append_nil, List.append_assoc]) (by show List.flatten [wT g t_a t_n t_F, wL g l_a l_nf l_ne (upd l_pl l_nf (figT t_F t_n (i + 1))) (upd l_yl l_nf (figT t_F t_n (i + 2))) l_nd l_hm l_wk l_kd] = _; simp only [List.flatten_cons, List.flatten_nil, List.append_nil, List.append_assoc]) ?_
    refine V_cVi (C := (RX3, TX3, 2)) (ci := 3) (ws' := ((wT g t_a t_n t_F)) ++ ((wL g l_a l_nf l_ne (upd l_pl l_nf (figT t_F t_n (i + 1))) (upd l_yl l_nf (figT t_F t_n (i + 2))) l_nd l_hm l_wk l_kd))) (List.range _) 1 X (c_X3_figure g l t_a t_n t_F  (i + 3) (by omega) (by omega)) k_RX2_52 hy_X3_figure (by decide) (range_at _ _) (range_nd _) 0 rfl rfl nX2_addField_52 rfl rfl (Nat.le_of_ble_eq_true rfl) (wput_range _ _ _ (by simp only [List.length_append, wT_len])) ?_
    refine V_blk (ws' := (wL g l_a l_nf l_ne (upd l_pl l_nf (figT t_F t_n (i + 1))) (upd l_yl l_nf (figT t_F t_n (i + 2))) l_nd l_hm l_wk l_kd) ++ (wT g t_a t_n t_F)) [wT g t_a t_n t_F, wL g l_a l_nf l_ne (upd l_pl l_nf (figT t_F t_n (i + 1))) (upd l_yl l_nf (figT t_F t_n (i + 2))) l_nd l_hm l_wk l_kd] [1, 0] rfl (by simp only [List.flatten_cons, List.flatten_nil, List.append_nil, List.append_assoc]) (by show List.flatten [wL g l_a l_nf l_ne (upd l_pl l_nf (figT t_F t_n (i + 1))) (upd l_yl l_nf (figT t_F t_n (i + 2))) l_nd l_hm l_wk l_kd, wT g t_a t_n t_F] = _; simp only [List.flatten_cons, List.flatten_nil, List.append_nil, List.append_assoc]) ?_
    refine V_iast (ws' := (wL g l_a l_nf l_ne (upd l_pl l_nf (figT t_F t_n (i + 1))) (upd l_yl l_nf (figT t_F t_n (i + 2))) (upd l_nd l_nf (figT t_F t_n (i + 3))) l_hm l_wk l_kd) ++ (wT g t_a t_n t_F)) 3 nX2_addField_55 rfl (by omega) (by decide) rfl ?_
    refine V_aload_n nX2_addField_56 rfl ?_
    refine V_dup nX2_addField_57 rfl ?_
    refine V_get2 0 6 (by decide) f_RX2_30 nX2_addField_58 rfl rfl ?_
    refine V_iconst (v := (nI 1)) nX2_addField_61 rfl ?_
    refine V_iadd (v := nI (l_nf + 1)) nX2_addField_62 (nI_add l_nf 1) ?_
    refine V_put2 (ws' := (wL g l_a (l_nf + 1) l_ne (upd l_pl l_nf (figT t_F t_n (i + 1))) (upd l_yl l_nf (figT t_F t_n (i + 2))) (upd l_nd l_nf (figT t_F t_n (i + 3))) l_hm l_wk l_kd) ++ (wT g t_a t_n t_F)) 0 6 (by decide) f_RX2_30 rfl rfl rfl rfl nX2_addField_63 rfl (Nat.le_of_ble_eq_true rfl) rfl ?_
    exact R_v rfl X hQ nX2_addField_66 (by simp only [List.map_append, wL_fst, wT_fst]) (⟨rfl, by rw [show addF t_F t_n i (l_nf, l_ne, l_pl, l_yl, l_nd, l_hm, l_wk, l_kd) = _ from if_pos h5]⟩)

set_option maxHeartbeats 4000000 in
set_option maxRecDepth 100000 in
theorem c_X2_addEater (g : Gx) (l : Launch) (l_a : Nat → Nat) (l_nf : Nat) (l_ne : Nat) (l_pl : Nat → Int32) (l_yl : Nat → Int32) (l_nd : Nat → Int32) (l_hm : Nat → Int32) (l_wk : Nat → Int32) (l_kd : Nat → Int32) (t_a : Nat → Nat) (t_n : Nat) (t_F : Nat → Int32)  (i : Nat) (hnf : l_nf ≤ 4) (hne : l_ne ≤ 5) (hn : t_n ≤ 48) (hi : i ≤ 100) : Cd g l yX2_addEater mX2_addEater ({ frames := 1, cells := 0, slots := 0, locals := 21 } : Room) [.ref (l_a 0), .ref (t_a 0), .int (nI i)] ((wL g l_a l_nf l_ne l_pl l_yl l_nd l_hm l_wk l_kd) ++ (wT g t_a t_n t_F)) none ((wL g l_a ((addE t_F t_n i (l_nf, l_ne, l_pl, l_yl, l_nd, l_hm, l_wk, l_kd)).1) ((addE t_F t_n i (l_nf, l_ne, l_pl, l_yl, l_nd, l_hm, l_wk, l_kd)).2.1) ((addE t_F t_n i (l_nf, l_ne, l_pl, l_yl, l_nd, l_hm, l_wk, l_kd)).2.2.1) ((addE t_F t_n i (l_nf, l_ne, l_pl, l_yl, l_nd, l_hm, l_wk, l_kd)).2.2.2.1) ((addE t_F t_n i (l_nf, l_ne, l_pl, l_yl, l_nd, l_hm, l_wk, l_kd)).2.2.2.2.1) ((addE t_F t_n i (l_nf, l_ne, l_pl, l_yl, l_nd, l_hm, l_wk, l_kd)).2.2.2.2.2.1) ((addE t_F t_n i (l_nf, l_ne, l_pl, l_yl, l_nd, l_hm, l_wk, l_kd)).2.2.2.2.2.2.1) ((addE t_F t_n i (l_nf, l_ne, l_pl, l_yl, l_nd, l_hm, l_wk, l_kd)).2.2.2.2.2.2.2)) ++ (wT g t_a t_n t_F)) := by
  refine Ct.of (lv := [(0, .ref (l_a 0)), (1, .ref (t_a 0)), (2, .int (nI i))]) ⟨by decide +kernel, rfl, Nat.le_of_ble_eq_true rfl⟩ rfl (fun E A sz Q X hQ => ?_)
  refine V_aload_n nX2_addEater_0 rfl ?_
  refine V_get2 0 7 (by decide) f_RX2_34 nX2_addEater_1 rfl rfl ?_
  refine V_iconst (v := (nI 5)) nX2_addEater_4 rfl ?_
  refine V_icmp_ge_N (tgt := 66) nX2_addEater_5 rfl (by omega) (by omega) (fun h5 => ?_) (fun h5 => ?_)
  · skip
    exact R_v rfl X hQ nX2_addEater_66 (by simp only [List.map_append, wL_fst, wT_fst]) (⟨rfl, by rw [show addE t_F t_n i (l_nf, l_ne, l_pl, l_yl, l_nd, l_hm, l_wk, l_kd) = _ from if_neg (Nat.not_lt.mpr h5)]⟩)
  · skip
    refine V_aload_n nX2_addEater_8 rfl ?_
    refine V_get2 0 3 (by decide) f_RX2_21 nX2_addEater_9 rfl rfl ?_
    refine V_aload_n nX2_addEater_12 rfl ?_
    refine V_get2 0 7 (by decide) f_RX2_34 nX2_addEater_13 rfl rfl ?_
    refine V_aload_n nX2_addEater_16 rfl ?_
    refine V_iload_n nX2_addEater_17 rfl ?_
    refine V_iconst (v := (nI 1)) nX2_addEater_18 rfl ?_
    refine V_iadd (v := nI (i + 1)) nX2_addEater_19 (nI_add i 1) ?_
    refine V_blk (ws' := ((wT g t_a t_n t_F)) ++ ((wL g l_a l_nf l_ne l_pl l_yl l_nd l_hm l_wk l_kd))) [wL g l_a l_nf l_ne l_pl l_yl l_nd l_hm l_wk l_kd, wT g t_a t_n t_F] [1, 0] rfl (by simp only [List.flatten_cons, List.flatten_nil, List.append_nil, List.append_assoc]) (by show List.flatten [wT g t_a t_n t_F, wL g l_a l_nf l_ne l_pl l_yl l_nd l_hm l_wk l_kd] = _; simp only [List.flatten_cons, List.flatten_nil, List.append_nil, List.append_assoc]) ?_
    refine V_cVi (C := (RX3, TX3, 2)) (ci := 3) (ws' := ((wT g t_a t_n t_F)) ++ ((wL g l_a l_nf l_ne l_pl l_yl l_nd l_hm l_wk l_kd))) (List.range _) 1 X (c_X3_figure g l t_a t_n t_F  (i + 1) (by omega) (by omega)) k_RX2_52 hy_X3_figure (by decide) (range_at _ _) (range_nd _) 0 rfl rfl nX2_addEater_20 rfl rfl (Nat.le_of_ble_eq_true rfl) (wput_range _ _ _ (by simp only [List.length_append, wT_len])) ?_
    refine V_blk (ws' := (wL g l_a l_nf l_ne l_pl l_yl l_nd l_hm l_wk l_kd) ++ (wT g t_a t_n t_F)) [wT g t_a t_n t_F, wL g l_a l_nf l_ne l_pl l_yl l_nd l_hm l_wk l_kd] [1, 0] rfl (by simp only [List.flatten_cons, List.flatten_nil, List.append_nil, List.append_assoc]) (by show List.flatten [wL g l_a l_nf l_ne l_pl l_yl l_nd l_hm l_wk l_kd, wT g t_a t_n t_F] = _; simp only [List.flatten_cons, List.flatten_nil, List.append_nil, List.append_assoc]) ?_
    refine V_iast (ws' := (wL g l_a l_nf l_ne l_pl l_yl l_nd (upd l_hm l_ne (figT t_F t_n (i + 1))) l_wk l_kd) ++ (wT g t_a t_n t_F)) 4 nX2_addEater_23 rfl (by omega) (by decide) rfl ?_
    refine V_aload_n nX2_addEater_24 rfl ?_
    refine V_get2 0 4 (by decide) f_RX2_24 nX2_addEater_25 rfl rfl ?_
    refine V_aload_n nX2_addEater_28 rfl ?_
    refine V_get2 0 7 (by decide) f_RX2_34 nX2_addEater_29 rfl rfl ?_
    refine V_aload_n nX2_addEater_32 rfl ?_
    refine V_iload_n nX2_addEater_33 rfl ?_
    refine V_iconst (v := (nI 2)) nX2_addEater_34 rfl ?_
    refine V_iadd (v := nI (i + 2)) nX2_addEater_35 (nI_add i 2) ?_
    refine V_blk (ws' := ((wT g t_a t_n t_F)) ++ ((wL g l_a l_nf l_ne l_pl l_yl l_nd (upd l_hm l_ne (figT t_F t_n (i + 1))) l_wk l_kd))) [wL g l_a l_nf l_ne l_pl l_yl l_nd (upd l_hm l_ne (figT t_F t_n (i + 1))) l_wk l_kd, wT g t_a t_n t_F] [1, 0] rfl (by simp only [List.flatten_cons, List.flatten_nil, List.append_nil, List.append_assoc]) (by show List.flatten [wT g t_a t_n t_F, wL g l_a l_nf l_ne l_pl l_yl l_nd (upd l_hm l_ne (figT t_F t_n (i + 1))) l_wk l_kd] = _; simp only [List.flatten_cons, List.flatten_nil, List.append_nil, List.append_assoc]) ?_
    refine V_cVi (C := (RX3, TX3, 2)) (ci := 3) (ws' := ((wT g t_a t_n t_F)) ++ ((wL g l_a l_nf l_ne l_pl l_yl l_nd (upd l_hm l_ne (figT t_F t_n (i + 1))) l_wk l_kd))) (List.range _) 1 X (c_X3_figure g l t_a t_n t_F  (i + 2) (by omega) (by omega)) k_RX2_52 hy_X3_figure (by decide) (range_at _ _) (range_nd _) 0 rfl rfl nX2_addEater_36 rfl rfl (Nat.le_of_ble_eq_true rfl) (wput_range _ _ _ (by simp only [List.length_append, wT_len])) ?_
    refine V_blk (ws' := (wL g l_a l_nf l_ne l_pl l_yl l_nd (upd l_hm l_ne (figT t_F t_n (i + 1))) l_wk l_kd) ++ (wT g t_a t_n t_F)) [wT g t_a t_n t_F, wL g l_a l_nf l_ne l_pl l_yl l_nd (upd l_hm l_ne (figT t_F t_n (i + 1))) l_wk l_kd] [1, 0] rfl (by simp only [List.flatten_cons, List.flatten_nil, List.append_nil, List.append_assoc]) (by show List.flatten [wL g l_a l_nf l_ne l_pl l_yl l_nd (upd l_hm l_ne (figT t_F t_n (i + 1))) l_wk l_kd, wT g t_a t_n t_F] = _; simp only [List.flatten_cons, List.flatten_nil, List.append_nil, List.append_assoc]) ?_
    refine V_iast (ws' := (wL g l_a l_nf l_ne l_pl l_yl l_nd (upd l_hm l_ne (figT t_F t_n (i + 1))) (upd l_wk l_ne (figT t_F t_n (i + 2))) l_kd) ++ (wT g t_a t_n t_F)) 5 nX2_addEater_39 rfl (by omega) (by decide) rfl ?_
    refine V_aload_n nX2_addEater_40 rfl ?_
    refine V_get2 0 5 (by decide) f_RX2_27 nX2_addEater_41 rfl rfl ?_
    refine V_aload_n nX2_addEater_44 rfl ?_
    refine V_get2 0 7 (by decide) f_RX2_34 nX2_addEater_45 rfl rfl ?_
    refine V_aload_n nX2_addEater_48 rfl ?_
    refine V_iload_n nX2_addEater_49 rfl ?_
    refine V_iconst (v := (nI 3)) nX2_addEater_50 rfl ?_
    refine V_iadd (v := nI (i + 3)) nX2_addEater_51 (nI_add i 3) ?_
    refine V_blk (ws' := ((wT g t_a t_n t_F)) ++ ((wL g l_a l_nf l_ne l_pl l_yl l_nd (upd l_hm l_ne (figT t_F t_n (i + 1))) (upd l_wk l_ne (figT t_F t_n (i + 2))) l_kd))) [wL g l_a l_nf l_ne l_pl l_yl l_nd (upd l_hm l_ne (figT t_F t_n (i + 1))) (upd l_wk l_ne (figT t_F t_n (i + 2))) l_kd, wT g t_a t_n t_F] [1, 0] rfl (by simp only [List.flatten_cons, List.flatten_nil, List.append_nil, List.append_assoc]) (by show List.flatten [wT g t_a t_n t_F, wL g l_a l_nf l_ne l_pl l_yl l_nd (upd l_hm l_ne (figT t_F t_n (i + 1))) (upd l_wk l_ne (figT t_F t_n (i + 2))) l_kd] = _; simp only [List.flatten_cons, List.flatten_nil, List.append_nil, List.append_assoc]) ?_
    refine V_cVi (C := (RX3, TX3, 2)) (ci := 3) (ws' := ((wT g t_a t_n t_F)) ++ ((wL g l_a l_nf l_ne l_pl l_yl l_nd (upd l_hm l_ne (figT t_F t_n (i + 1))) (upd l_wk l_ne (figT t_F t_n (i + 2))) l_kd))) (List.range _) 1 X (c_X3_figure g l t_a t_n t_F  (i + 3) (by omega) (by omega)) k_RX2_52 hy_X3_figure (by decide) (range_at _ _) (range_nd _) 0 rfl rfl nX2_addEater_52 rfl rfl (Nat.le_of_ble_eq_true rfl) (wput_range _ _ _ (by simp only [List.length_append, wT_len])) ?_
    refine V_blk (ws' := (wL g l_a l_nf l_ne l_pl l_yl l_nd (upd l_hm l_ne (figT t_F t_n (i + 1))) (upd l_wk l_ne (figT t_F t_n (i + 2))) l_kd) ++ (wT g t_a t_n t_F)) [wT g t_a t_n t_F, wL g l_a l_nf l_ne l_pl l_yl l_nd (upd l_hm l_ne (figT t_F t_n (i + 1))) (upd l_wk l_ne (figT t_F t_n (i + 2))) l_kd] [1, 0] rfl (by simp only [List.flatten_cons, List.flatten_nil, List.append_nil, List.append_assoc]) (by show List.flatten [wL g l_a l_nf l_ne l_pl l_yl l_nd (upd l_hm l_ne (figT t_F t_n (i + 1))) (upd l_wk l_ne (figT t_F t_n (i + 2))) l_kd, wT g t_a t_n t_F] = _; simp only [List.flatten_cons, List.flatten_nil, List.append_nil, List.append_assoc]) ?_
    refine V_iast (ws' := (wL g l_a l_nf l_ne l_pl l_yl l_nd (upd l_hm l_ne (figT t_F t_n (i + 1))) (upd l_wk l_ne (figT t_F t_n (i + 2))) (upd l_kd l_ne (figT t_F t_n (i + 3)))) ++ (wT g t_a t_n t_F)) 6 nX2_addEater_55 rfl (by omega) (by decide) rfl ?_
    refine V_aload_n nX2_addEater_56 rfl ?_
    refine V_dup nX2_addEater_57 rfl ?_
    refine V_get2 0 7 (by decide) f_RX2_34 nX2_addEater_58 rfl rfl ?_
    refine V_iconst (v := (nI 1)) nX2_addEater_61 rfl ?_
    refine V_iadd (v := nI (l_ne + 1)) nX2_addEater_62 (nI_add l_ne 1) ?_
    refine V_put2 (ws' := (wL g l_a l_nf (l_ne + 1) l_pl l_yl l_nd (upd l_hm l_ne (figT t_F t_n (i + 1))) (upd l_wk l_ne (figT t_F t_n (i + 2))) (upd l_kd l_ne (figT t_F t_n (i + 3)))) ++ (wT g t_a t_n t_F)) 0 7 (by decide) f_RX2_34 rfl rfl rfl rfl nX2_addEater_63 rfl (Nat.le_of_ble_eq_true rfl) rfl ?_
    exact R_v rfl X hQ nX2_addEater_66 (by simp only [List.map_append, wL_fst, wT_fst]) (⟨rfl, by rw [show addE t_F t_n i (l_nf, l_ne, l_pl, l_yl, l_nd, l_hm, l_wk, l_kd) = _ from if_pos h5]⟩)

set_option maxHeartbeats 4000000 in
set_option maxRecDepth 100000 in
theorem c_X2_readFrom (g : Gx) (l : Launch) (l_a : Nat → Nat) (l_nf : Nat) (l_ne : Nat) (l_pl : Nat → Int32) (l_yl : Nat → Int32) (l_nd : Nat → Int32) (l_hm : Nat → Int32) (l_wk : Nat → Int32) (l_kd : Nat → Int32) (t_a : Nat → Nat) (t_n : Nat) (t_F : Nat → Int32)   (hn : t_n ≤ 48) : Cd g l yX2_readFrom mX2_readFrom ({ frames := 2, cells := 0, slots := 0, locals := 43 } : Room) [.ref (l_a 0), .ref (t_a 0)] ((wL g l_a l_nf l_ne l_pl l_yl l_nd l_hm l_wk l_kd) ++ (wT g t_a t_n t_F)) none ((wL g l_a ((rdS t_F t_n 12 1 (0, 0, l_pl, l_yl, l_nd, l_hm, l_wk, l_kd)).1) ((rdS t_F t_n 12 1 (0, 0, l_pl, l_yl, l_nd, l_hm, l_wk, l_kd)).2.1) ((rdS t_F t_n 12 1 (0, 0, l_pl, l_yl, l_nd, l_hm, l_wk, l_kd)).2.2.1) ((rdS t_F t_n 12 1 (0, 0, l_pl, l_yl, l_nd, l_hm, l_wk, l_kd)).2.2.2.1) ((rdS t_F t_n 12 1 (0, 0, l_pl, l_yl, l_nd, l_hm, l_wk, l_kd)).2.2.2.2.1) ((rdS t_F t_n 12 1 (0, 0, l_pl, l_yl, l_nd, l_hm, l_wk, l_kd)).2.2.2.2.2.1) ((rdS t_F t_n 12 1 (0, 0, l_pl, l_yl, l_nd, l_hm, l_wk, l_kd)).2.2.2.2.2.2.1) ((rdS t_F t_n 12 1 (0, 0, l_pl, l_yl, l_nd, l_hm, l_wk, l_kd)).2.2.2.2.2.2.2)) ++ (wT g t_a t_n t_F)) := by
  refine Ct.of (lv := [(0, .ref (l_a 0)), (1, .ref (t_a 0))]) ⟨by decide +kernel, rfl, Nat.le_of_ble_eq_true rfl⟩ rfl (fun E A sz Q X hQ => ?_)
  refine V_aload_n nX2_readFrom_0 rfl ?_
  refine V_iconst (v := (nI 0)) nX2_readFrom_1 rfl ?_
  refine V_put2 (ws' := (wL g l_a 0 l_ne l_pl l_yl l_nd l_hm l_wk l_kd) ++ (wT g t_a t_n t_F)) 0 6 (by decide) f_RX2_30 rfl rfl rfl rfl nX2_readFrom_2 rfl (Nat.le_of_ble_eq_true rfl) rfl ?_
  refine V_aload_n nX2_readFrom_5 rfl ?_
  refine V_iconst (v := (nI 0)) nX2_readFrom_6 rfl ?_
  refine V_put2 (ws' := (wL g l_a 0 0 l_pl l_yl l_nd l_hm l_wk l_kd) ++ (wT g t_a t_n t_F)) 0 7 (by decide) f_RX2_34 rfl rfl rfl rfl nX2_readFrom_7 rfl (Nat.le_of_ble_eq_true rfl) rfl ?_
  refine V_iconst (v := (nI 1)) nX2_readFrom_10 rfl ?_
  refine V_istore_n (lv' := [(0, .ref (l_a 0)), (1, .ref (t_a 0)), (2, .int (nI 1))]) nX2_readFrom_11 (by decide) rfl ?_
  have L12 : ∀ (n : Nat) (i : Nat) (s : L8) (k : Nat), 60 - i < n → i ≤ 60 → s.1 ≤ 4 ∧ s.2.1 ≤ 5 → t_n ≤ i + 4 * k → rdS t_F t_n k i s = rdS t_F t_n 12 1 (0, 0, l_pl, l_yl, l_nd, l_hm, l_wk, l_kd) → V g E mX2_readFrom A Q 0 0 ((wL g l_a s.1 s.2.1 s.2.2.1 s.2.2.2.1 s.2.2.2.2.1 s.2.2.2.2.2.1 s.2.2.2.2.2.2.1 s.2.2.2.2.2.2.2) ++ (wT g t_a t_n t_F)) 12 [(0, .ref (l_a 0)), (1, .ref (t_a 0)), (2, .int (nI i))] [] := by
    intro n
    induction n with
    | zero => intro i s k hm; exact absurd hm (Nat.not_lt_zero _)
    | succ n ih =>
      intro i s k hm hi hle hk hr
      refine V_iload_n nX2_readFrom_12 rfl ?_
      refine V_aload_n nX2_readFrom_13 rfl ?_
      refine V_get3 7 1 (by decide) f_RX2_37 nX2_readFrom_14 rfl rfl ?_
      refine V_icmp_ge_N (tgt := 52) nX2_readFrom_17 rfl (by omega) (by omega) (fun h17 => ?_) (fun h17 => ?_)
      · skip
        exact R_v rfl X hQ nX2_readFrom_52 (by simp only [List.map_append, wL_fst, wT_fst]) (⟨rfl, by rw [← hr, rdS_end h17]⟩)
      · skip
        refine V_aload_n nX2_readFrom_20 rfl ?_
        refine V_get3 7 0 (by decide) f_RX2_42 nX2_readFrom_21 rfl rfl ?_
        refine V_iload_n nX2_readFrom_24 rfl ?_
        refine V_iald 8 nX2_readFrom_25 rfl (by omega) (by decide) rfl ?_
        refine V_bipush (v := (nI 71)) nX2_readFrom_26 (by decide) ?_
        refine V_icmp_ne (tgt := 40) nX2_readFrom_28 rfl (fun h28 => ?_) (fun h28 => ?_)
        · skip
          refine V_aload_n nX2_readFrom_40 rfl ?_
          refine V_aload_n nX2_readFrom_41 rfl ?_
          refine V_iload_n nX2_readFrom_42 rfl ?_
          refine V_blk (ws' := ((wL g l_a s.1 s.2.1 s.2.2.1 s.2.2.2.1 s.2.2.2.2.1 s.2.2.2.2.2.1 s.2.2.2.2.2.2.1 s.2.2.2.2.2.2.2) ++ (wT g t_a t_n t_F)) ++ ([] : va_W)) [wL g l_a s.1 s.2.1 s.2.2.1 s.2.2.2.1 s.2.2.2.2.1 s.2.2.2.2.2.1 s.2.2.2.2.2.2.1 s.2.2.2.2.2.2.2, wT g t_a t_n t_F] [0, 1] rfl (by simp only [List.flatten_cons, List.flatten_nil, List.append_nil, List.append_assoc]) (by show List.flatten [wL g l_a s.1 s.2.1 s.2.2.1 s.2.2.2.1 s.2.2.2.2.1 s.2.2.2.2.2.1 s.2.2.2.2.2.2.1 s.2.2.2.2.2.2.2, wT g t_a t_n t_F] = _; simp only [List.flatten_cons, List.flatten_nil, List.append_nil, List.append_assoc]) ?_
          refine V_cVv (C := (RX2, TX2, 8)) (ci := 2) (ws' := ((wL g l_a ((addE t_F t_n i (s.1, s.2.1, s.2.2.1, s.2.2.2.1, s.2.2.2.2.1, s.2.2.2.2.2.1, s.2.2.2.2.2.2.1, s.2.2.2.2.2.2.2)).1) ((addE t_F t_n i (s.1, s.2.1, s.2.2.1, s.2.2.2.1, s.2.2.2.2.1, s.2.2.2.2.2.1, s.2.2.2.2.2.2.1, s.2.2.2.2.2.2.2)).2.1) ((addE t_F t_n i (s.1, s.2.1, s.2.2.1, s.2.2.2.1, s.2.2.2.2.1, s.2.2.2.2.2.1, s.2.2.2.2.2.2.1, s.2.2.2.2.2.2.2)).2.2.1) ((addE t_F t_n i (s.1, s.2.1, s.2.2.1, s.2.2.2.1, s.2.2.2.2.1, s.2.2.2.2.2.1, s.2.2.2.2.2.2.1, s.2.2.2.2.2.2.2)).2.2.2.1) ((addE t_F t_n i (s.1, s.2.1, s.2.2.1, s.2.2.2.1, s.2.2.2.2.1, s.2.2.2.2.2.1, s.2.2.2.2.2.2.1, s.2.2.2.2.2.2.2)).2.2.2.2.1) ((addE t_F t_n i (s.1, s.2.1, s.2.2.1, s.2.2.2.1, s.2.2.2.2.1, s.2.2.2.2.2.1, s.2.2.2.2.2.2.1, s.2.2.2.2.2.2.2)).2.2.2.2.2.1) ((addE t_F t_n i (s.1, s.2.1, s.2.2.1, s.2.2.2.1, s.2.2.2.2.1, s.2.2.2.2.2.1, s.2.2.2.2.2.2.1, s.2.2.2.2.2.2.2)).2.2.2.2.2.2.1) ((addE t_F t_n i (s.1, s.2.1, s.2.2.1, s.2.2.2.1, s.2.2.2.2.1, s.2.2.2.2.2.1, s.2.2.2.2.2.2.1, s.2.2.2.2.2.2.2)).2.2.2.2.2.2.2)) ++ (wT g t_a t_n t_F)) ++ ([] : va_W)) (List.range _) 2 X (c_X2_addEater g l l_a s.1 s.2.1 s.2.2.1 s.2.2.2.1 s.2.2.2.2.1 s.2.2.2.2.2.1 s.2.2.2.2.2.2.1 s.2.2.2.2.2.2.2 t_a t_n t_F  i (hle.1) (hle.2) (by omega) (by omega)) k_RX2_49 hy_X2_addEater (by decide) (range_at _ _) (range_nd _) 0 rfl rfl nX2_readFrom_43 rfl rfl (Nat.le_of_ble_eq_true rfl) (wput_range _ _ _ (by simp only [List.length_append, wL_len, wT_len])) ?_
          refine V_blk (ws' := (wL g l_a ((addE t_F t_n i (s.1, s.2.1, s.2.2.1, s.2.2.2.1, s.2.2.2.2.1, s.2.2.2.2.2.1, s.2.2.2.2.2.2.1, s.2.2.2.2.2.2.2)).1) ((addE t_F t_n i (s.1, s.2.1, s.2.2.1, s.2.2.2.1, s.2.2.2.2.1, s.2.2.2.2.2.1, s.2.2.2.2.2.2.1, s.2.2.2.2.2.2.2)).2.1) ((addE t_F t_n i (s.1, s.2.1, s.2.2.1, s.2.2.2.1, s.2.2.2.2.1, s.2.2.2.2.2.1, s.2.2.2.2.2.2.1, s.2.2.2.2.2.2.2)).2.2.1) ((addE t_F t_n i (s.1, s.2.1, s.2.2.1, s.2.2.2.1, s.2.2.2.2.1, s.2.2.2.2.2.1, s.2.2.2.2.2.2.1, s.2.2.2.2.2.2.2)).2.2.2.1) ((addE t_F t_n i (s.1, s.2.1, s.2.2.1, s.2.2.2.1, s.2.2.2.2.1, s.2.2.2.2.2.1, s.2.2.2.2.2.2.1, s.2.2.2.2.2.2.2)).2.2.2.2.1) ((addE t_F t_n i (s.1, s.2.1, s.2.2.1, s.2.2.2.1, s.2.2.2.2.1, s.2.2.2.2.2.1, s.2.2.2.2.2.2.1, s.2.2.2.2.2.2.2)).2.2.2.2.2.1) ((addE t_F t_n i (s.1, s.2.1, s.2.2.1, s.2.2.2.1, s.2.2.2.2.1, s.2.2.2.2.2.1, s.2.2.2.2.2.2.1, s.2.2.2.2.2.2.2)).2.2.2.2.2.2.1) ((addE t_F t_n i (s.1, s.2.1, s.2.2.1, s.2.2.2.1, s.2.2.2.2.1, s.2.2.2.2.2.1, s.2.2.2.2.2.2.1, s.2.2.2.2.2.2.2)).2.2.2.2.2.2.2)) ++ (wT g t_a t_n t_F)) [wL g l_a ((addE t_F t_n i (s.1, s.2.1, s.2.2.1, s.2.2.2.1, s.2.2.2.2.1, s.2.2.2.2.2.1, s.2.2.2.2.2.2.1, s.2.2.2.2.2.2.2)).1) ((addE t_F t_n i (s.1, s.2.1, s.2.2.1, s.2.2.2.1, s.2.2.2.2.1, s.2.2.2.2.2.1, s.2.2.2.2.2.2.1, s.2.2.2.2.2.2.2)).2.1) ((addE t_F t_n i (s.1, s.2.1, s.2.2.1, s.2.2.2.1, s.2.2.2.2.1, s.2.2.2.2.2.1, s.2.2.2.2.2.2.1, s.2.2.2.2.2.2.2)).2.2.1) ((addE t_F t_n i (s.1, s.2.1, s.2.2.1, s.2.2.2.1, s.2.2.2.2.1, s.2.2.2.2.2.1, s.2.2.2.2.2.2.1, s.2.2.2.2.2.2.2)).2.2.2.1) ((addE t_F t_n i (s.1, s.2.1, s.2.2.1, s.2.2.2.1, s.2.2.2.2.1, s.2.2.2.2.2.1, s.2.2.2.2.2.2.1, s.2.2.2.2.2.2.2)).2.2.2.2.1) ((addE t_F t_n i (s.1, s.2.1, s.2.2.1, s.2.2.2.1, s.2.2.2.2.1, s.2.2.2.2.2.1, s.2.2.2.2.2.2.1, s.2.2.2.2.2.2.2)).2.2.2.2.2.1) ((addE t_F t_n i (s.1, s.2.1, s.2.2.1, s.2.2.2.1, s.2.2.2.2.1, s.2.2.2.2.2.1, s.2.2.2.2.2.2.1, s.2.2.2.2.2.2.2)).2.2.2.2.2.2.1) ((addE t_F t_n i (s.1, s.2.1, s.2.2.1, s.2.2.2.1, s.2.2.2.2.1, s.2.2.2.2.2.1, s.2.2.2.2.2.2.1, s.2.2.2.2.2.2.2)).2.2.2.2.2.2.2), wT g t_a t_n t_F] [0, 1] rfl (by simp only [List.flatten_cons, List.flatten_nil, List.append_nil, List.append_assoc]) (by show List.flatten [wL g l_a ((addE t_F t_n i (s.1, s.2.1, s.2.2.1, s.2.2.2.1, s.2.2.2.2.1, s.2.2.2.2.2.1, s.2.2.2.2.2.2.1, s.2.2.2.2.2.2.2)).1) ((addE t_F t_n i (s.1, s.2.1, s.2.2.1, s.2.2.2.1, s.2.2.2.2.1, s.2.2.2.2.2.1, s.2.2.2.2.2.2.1, s.2.2.2.2.2.2.2)).2.1) ((addE t_F t_n i (s.1, s.2.1, s.2.2.1, s.2.2.2.1, s.2.2.2.2.1, s.2.2.2.2.2.1, s.2.2.2.2.2.2.1, s.2.2.2.2.2.2.2)).2.2.1) ((addE t_F t_n i (s.1, s.2.1, s.2.2.1, s.2.2.2.1, s.2.2.2.2.1, s.2.2.2.2.2.1, s.2.2.2.2.2.2.1, s.2.2.2.2.2.2.2)).2.2.2.1) ((addE t_F t_n i (s.1, s.2.1, s.2.2.1, s.2.2.2.1, s.2.2.2.2.1, s.2.2.2.2.2.1, s.2.2.2.2.2.2.1, s.2.2.2.2.2.2.2)).2.2.2.2.1) ((addE t_F t_n i (s.1, s.2.1, s.2.2.1, s.2.2.2.1, s.2.2.2.2.1, s.2.2.2.2.2.1, s.2.2.2.2.2.2.1, s.2.2.2.2.2.2.2)).2.2.2.2.2.1) ((addE t_F t_n i (s.1, s.2.1, s.2.2.1, s.2.2.2.1, s.2.2.2.2.1, s.2.2.2.2.2.1, s.2.2.2.2.2.2.1, s.2.2.2.2.2.2.2)).2.2.2.2.2.2.1) ((addE t_F t_n i (s.1, s.2.1, s.2.2.1, s.2.2.2.1, s.2.2.2.2.1, s.2.2.2.2.2.1, s.2.2.2.2.2.2.1, s.2.2.2.2.2.2.2)).2.2.2.2.2.2.2), wT g t_a t_n t_F] = _; simp only [List.flatten_cons, List.flatten_nil, List.append_nil, List.append_assoc]) ?_
          refine V_iinc (v := nI (i + 4)) (lv' := [(0, .ref (l_a 0)), (1, .ref (t_a 0)), (2, .int (nI (i + 4)))]) nX2_readFrom_46 rfl (nI_add i 4) (by decide) rfl ?_
          refine V_goto (tgt := 12) nX2_readFrom_49 rfl ?_
          exact ih (i + 4) (addE t_F t_n i s) (k - 1) (by omega) (by omega) (addE_le hle) (by omega) (by rw [← hr, rdS_go hk h17, show addT t_F t_n i s = _ from if_neg h28])
        · skip
          refine V_aload_n nX2_readFrom_31 rfl ?_
          refine V_aload_n nX2_readFrom_32 rfl ?_
          refine V_iload_n nX2_readFrom_33 rfl ?_
          refine V_blk (ws' := ((wL g l_a s.1 s.2.1 s.2.2.1 s.2.2.2.1 s.2.2.2.2.1 s.2.2.2.2.2.1 s.2.2.2.2.2.2.1 s.2.2.2.2.2.2.2) ++ (wT g t_a t_n t_F)) ++ ([] : va_W)) [wL g l_a s.1 s.2.1 s.2.2.1 s.2.2.2.1 s.2.2.2.2.1 s.2.2.2.2.2.1 s.2.2.2.2.2.2.1 s.2.2.2.2.2.2.2, wT g t_a t_n t_F] [0, 1] rfl (by simp only [List.flatten_cons, List.flatten_nil, List.append_nil, List.append_assoc]) (by show List.flatten [wL g l_a s.1 s.2.1 s.2.2.1 s.2.2.2.1 s.2.2.2.2.1 s.2.2.2.2.2.1 s.2.2.2.2.2.2.1 s.2.2.2.2.2.2.2, wT g t_a t_n t_F] = _; simp only [List.flatten_cons, List.flatten_nil, List.append_nil, List.append_assoc]) ?_
          refine V_cVv (C := (RX2, TX2, 8)) (ci := 2) (ws' := ((wL g l_a ((addF t_F t_n i (s.1, s.2.1, s.2.2.1, s.2.2.2.1, s.2.2.2.2.1, s.2.2.2.2.2.1, s.2.2.2.2.2.2.1, s.2.2.2.2.2.2.2)).1) ((addF t_F t_n i (s.1, s.2.1, s.2.2.1, s.2.2.2.1, s.2.2.2.2.1, s.2.2.2.2.2.1, s.2.2.2.2.2.2.1, s.2.2.2.2.2.2.2)).2.1) ((addF t_F t_n i (s.1, s.2.1, s.2.2.1, s.2.2.2.1, s.2.2.2.2.1, s.2.2.2.2.2.1, s.2.2.2.2.2.2.1, s.2.2.2.2.2.2.2)).2.2.1) ((addF t_F t_n i (s.1, s.2.1, s.2.2.1, s.2.2.2.1, s.2.2.2.2.1, s.2.2.2.2.2.1, s.2.2.2.2.2.2.1, s.2.2.2.2.2.2.2)).2.2.2.1) ((addF t_F t_n i (s.1, s.2.1, s.2.2.1, s.2.2.2.1, s.2.2.2.2.1, s.2.2.2.2.2.1, s.2.2.2.2.2.2.1, s.2.2.2.2.2.2.2)).2.2.2.2.1) ((addF t_F t_n i (s.1, s.2.1, s.2.2.1, s.2.2.2.1, s.2.2.2.2.1, s.2.2.2.2.2.1, s.2.2.2.2.2.2.1, s.2.2.2.2.2.2.2)).2.2.2.2.2.1) ((addF t_F t_n i (s.1, s.2.1, s.2.2.1, s.2.2.2.1, s.2.2.2.2.1, s.2.2.2.2.2.1, s.2.2.2.2.2.2.1, s.2.2.2.2.2.2.2)).2.2.2.2.2.2.1) ((addF t_F t_n i (s.1, s.2.1, s.2.2.1, s.2.2.2.1, s.2.2.2.2.1, s.2.2.2.2.2.1, s.2.2.2.2.2.2.1, s.2.2.2.2.2.2.2)).2.2.2.2.2.2.2)) ++ (wT g t_a t_n t_F)) ++ ([] : va_W)) (List.range _) 2 X (c_X2_addField g l l_a s.1 s.2.1 s.2.2.1 s.2.2.2.1 s.2.2.2.2.1 s.2.2.2.2.2.1 s.2.2.2.2.2.2.1 s.2.2.2.2.2.2.2 t_a t_n t_F  i (hle.1) (hle.2) (by omega) (by omega)) k_RX2_45 hy_X2_addField (by decide) (range_at _ _) (range_nd _) 0 rfl rfl nX2_readFrom_34 rfl rfl (Nat.le_of_ble_eq_true rfl) (wput_range _ _ _ (by simp only [List.length_append, wL_len, wT_len])) ?_
          refine V_blk (ws' := (wL g l_a ((addF t_F t_n i (s.1, s.2.1, s.2.2.1, s.2.2.2.1, s.2.2.2.2.1, s.2.2.2.2.2.1, s.2.2.2.2.2.2.1, s.2.2.2.2.2.2.2)).1) ((addF t_F t_n i (s.1, s.2.1, s.2.2.1, s.2.2.2.1, s.2.2.2.2.1, s.2.2.2.2.2.1, s.2.2.2.2.2.2.1, s.2.2.2.2.2.2.2)).2.1) ((addF t_F t_n i (s.1, s.2.1, s.2.2.1, s.2.2.2.1, s.2.2.2.2.1, s.2.2.2.2.2.1, s.2.2.2.2.2.2.1, s.2.2.2.2.2.2.2)).2.2.1) ((addF t_F t_n i (s.1, s.2.1, s.2.2.1, s.2.2.2.1, s.2.2.2.2.1, s.2.2.2.2.2.1, s.2.2.2.2.2.2.1, s.2.2.2.2.2.2.2)).2.2.2.1) ((addF t_F t_n i (s.1, s.2.1, s.2.2.1, s.2.2.2.1, s.2.2.2.2.1, s.2.2.2.2.2.1, s.2.2.2.2.2.2.1, s.2.2.2.2.2.2.2)).2.2.2.2.1) ((addF t_F t_n i (s.1, s.2.1, s.2.2.1, s.2.2.2.1, s.2.2.2.2.1, s.2.2.2.2.2.1, s.2.2.2.2.2.2.1, s.2.2.2.2.2.2.2)).2.2.2.2.2.1) ((addF t_F t_n i (s.1, s.2.1, s.2.2.1, s.2.2.2.1, s.2.2.2.2.1, s.2.2.2.2.2.1, s.2.2.2.2.2.2.1, s.2.2.2.2.2.2.2)).2.2.2.2.2.2.1) ((addF t_F t_n i (s.1, s.2.1, s.2.2.1, s.2.2.2.1, s.2.2.2.2.1, s.2.2.2.2.2.1, s.2.2.2.2.2.2.1, s.2.2.2.2.2.2.2)).2.2.2.2.2.2.2)) ++ (wT g t_a t_n t_F)) [wL g l_a ((addF t_F t_n i (s.1, s.2.1, s.2.2.1, s.2.2.2.1, s.2.2.2.2.1, s.2.2.2.2.2.1, s.2.2.2.2.2.2.1, s.2.2.2.2.2.2.2)).1) ((addF t_F t_n i (s.1, s.2.1, s.2.2.1, s.2.2.2.1, s.2.2.2.2.1, s.2.2.2.2.2.1, s.2.2.2.2.2.2.1, s.2.2.2.2.2.2.2)).2.1) ((addF t_F t_n i (s.1, s.2.1, s.2.2.1, s.2.2.2.1, s.2.2.2.2.1, s.2.2.2.2.2.1, s.2.2.2.2.2.2.1, s.2.2.2.2.2.2.2)).2.2.1) ((addF t_F t_n i (s.1, s.2.1, s.2.2.1, s.2.2.2.1, s.2.2.2.2.1, s.2.2.2.2.2.1, s.2.2.2.2.2.2.1, s.2.2.2.2.2.2.2)).2.2.2.1) ((addF t_F t_n i (s.1, s.2.1, s.2.2.1, s.2.2.2.1, s.2.2.2.2.1, s.2.2.2.2.2.1, s.2.2.2.2.2.2.1, s.2.2.2.2.2.2.2)).2.2.2.2.1) ((addF t_F t_n i (s.1, s.2.1, s.2.2.1, s.2.2.2.1, s.2.2.2.2.1, s.2.2.2.2.2.1, s.2.2.2.2.2.2.1, s.2.2.2.2.2.2.2)).2.2.2.2.2.1) ((addF t_F t_n i (s.1, s.2.1, s.2.2.1, s.2.2.2.1, s.2.2.2.2.1, s.2.2.2.2.2.1, s.2.2.2.2.2.2.1, s.2.2.2.2.2.2.2)).2.2.2.2.2.2.1) ((addF t_F t_n i (s.1, s.2.1, s.2.2.1, s.2.2.2.1, s.2.2.2.2.1, s.2.2.2.2.2.1, s.2.2.2.2.2.2.1, s.2.2.2.2.2.2.2)).2.2.2.2.2.2.2), wT g t_a t_n t_F] [0, 1] rfl (by simp only [List.flatten_cons, List.flatten_nil, List.append_nil, List.append_assoc]) (by show List.flatten [wL g l_a ((addF t_F t_n i (s.1, s.2.1, s.2.2.1, s.2.2.2.1, s.2.2.2.2.1, s.2.2.2.2.2.1, s.2.2.2.2.2.2.1, s.2.2.2.2.2.2.2)).1) ((addF t_F t_n i (s.1, s.2.1, s.2.2.1, s.2.2.2.1, s.2.2.2.2.1, s.2.2.2.2.2.1, s.2.2.2.2.2.2.1, s.2.2.2.2.2.2.2)).2.1) ((addF t_F t_n i (s.1, s.2.1, s.2.2.1, s.2.2.2.1, s.2.2.2.2.1, s.2.2.2.2.2.1, s.2.2.2.2.2.2.1, s.2.2.2.2.2.2.2)).2.2.1) ((addF t_F t_n i (s.1, s.2.1, s.2.2.1, s.2.2.2.1, s.2.2.2.2.1, s.2.2.2.2.2.1, s.2.2.2.2.2.2.1, s.2.2.2.2.2.2.2)).2.2.2.1) ((addF t_F t_n i (s.1, s.2.1, s.2.2.1, s.2.2.2.1, s.2.2.2.2.1, s.2.2.2.2.2.1, s.2.2.2.2.2.2.1, s.2.2.2.2.2.2.2)).2.2.2.2.1) ((addF t_F t_n i (s.1, s.2.1, s.2.2.1, s.2.2.2.1, s.2.2.2.2.1, s.2.2.2.2.2.1, s.2.2.2.2.2.2.1, s.2.2.2.2.2.2.2)).2.2.2.2.2.1) ((addF t_F t_n i (s.1, s.2.1, s.2.2.1, s.2.2.2.1, s.2.2.2.2.1, s.2.2.2.2.2.1, s.2.2.2.2.2.2.1, s.2.2.2.2.2.2.2)).2.2.2.2.2.2.1) ((addF t_F t_n i (s.1, s.2.1, s.2.2.1, s.2.2.2.1, s.2.2.2.2.1, s.2.2.2.2.2.1, s.2.2.2.2.2.2.1, s.2.2.2.2.2.2.2)).2.2.2.2.2.2.2), wT g t_a t_n t_F] = _; simp only [List.flatten_cons, List.flatten_nil, List.append_nil, List.append_assoc]) ?_
          refine V_goto (tgt := 46) nX2_readFrom_37 rfl ?_
          refine V_iinc (v := nI (i + 4)) (lv' := [(0, .ref (l_a 0)), (1, .ref (t_a 0)), (2, .int (nI (i + 4)))]) nX2_readFrom_46 rfl (nI_add i 4) (by decide) rfl ?_
          refine V_goto (tgt := 12) nX2_readFrom_49 rfl ?_
          exact ih (i + 4) (addF t_F t_n i s) (k - 1) (by omega) (by omega) (addF_le hle) (by omega) (by rw [← hr, rdS_go hk h17, show addT t_F t_n i s = _ from if_pos h28])
  exact L12 _ 1 (0, 0, l_pl, l_yl, l_nd, l_hm, l_wk, l_kd) 12 (Nat.lt_succ_self _) (by omega) (⟨Nat.zero_le _, Nat.zero_le _⟩) (by omega) (rfl)

set_option maxHeartbeats 4000000 in
set_option maxRecDepth 100000 in
theorem c_X4_add (g : Gx) (l : Launch) (d_a : Nat → Nat) (d_cp : Nat → Int32) (d_ci : Nat → Int32) (d_n : Nat)  (q : Int32) (b : Bool) (hn : d_n < 6) : Cd g l yX4_add mX4_add ({ frames := 0, cells := 0, slots := 0, locals := 0 } : Room) [.ref (d_a 0), .int q, .int (bI b)] (wD g d_a d_cp d_ci d_n) none (wD g d_a (upd d_cp d_n q) (upd d_ci d_n (bI b)) (d_n + 1)) := by
  refine Ct.of (lv := [(0, .ref (d_a 0)), (1, .int q), (2, .int (bI b))]) ⟨by decide +kernel, rfl, Nat.le_of_ble_eq_true rfl⟩ rfl (fun E A sz Q X hQ => ?_)
  refine V_aload_n nX4_add_0 rfl ?_
  refine V_get4 0 2 (by decide) f_RX4_19 nX4_add_1 rfl rfl ?_
  refine V_bipush (v := (nI 6)) nX4_add_4 (by decide) ?_
  refine V_icmp_ge_N (tgt := 39) nX4_add_6 rfl (by omega) (by omega) (fun h6 => ?_) (fun h6 => ?_)
  · skip
    exact absurd h6 (by omega)
  · skip
    refine V_aload_n nX4_add_9 rfl ?_
    refine V_get4 0 0 (by decide) f_RX4_9 nX4_add_10 rfl rfl ?_
    refine V_aload_n nX4_add_13 rfl ?_
    refine V_get4 0 2 (by decide) f_RX4_19 nX4_add_14 rfl rfl ?_
    refine V_iload_n nX4_add_17 rfl ?_
    refine V_iast (ws' := wD g d_a (upd d_cp d_n q) d_ci d_n) 1 nX4_add_18 rfl (by omega) (by decide) rfl ?_
    refine V_aload_n nX4_add_19 rfl ?_
    refine V_get4 0 1 (by decide) f_RX4_15 nX4_add_20 rfl rfl ?_
    refine V_aload_n nX4_add_23 rfl ?_
    refine V_get4 0 2 (by decide) f_RX4_19 nX4_add_24 rfl rfl ?_
    refine V_iload_n nX4_add_27 rfl ?_
    refine V_zast (ws' := wD g d_a (upd d_cp d_n q) (upd d_ci d_n (bI b)) d_n) 2 nX4_add_28 rfl (by omega) (by decide) rfl ?_
    refine V_aload_n nX4_add_29 rfl ?_
    refine V_dup nX4_add_30 rfl ?_
    refine V_get4 0 2 (by decide) f_RX4_19 nX4_add_31 rfl rfl ?_
    refine V_iconst (v := (nI 1)) nX4_add_34 rfl ?_
    refine V_iadd (v := nI (d_n + 1)) nX4_add_35 (nI_add d_n 1) ?_
    refine V_put4 (ws' := wD g d_a (upd d_cp d_n q) (upd d_ci d_n (bI b)) (d_n + 1)) 0 2 (by decide) f_RX4_19 rfl rfl rfl rfl nX4_add_36 rfl (Nat.le_of_ble_eq_true rfl) rfl ?_
    exact R_v rfl X hQ nX4_add_39 (by simp only [List.map_append, wD_fst]) (⟨rfl, rfl⟩)

set_option maxHeartbeats 4000000 in
set_option maxRecDepth 100000 in
theorem c_X4_allowFor (g : Gx) (l : Launch) (d_a : Nat → Nat) (d_cp : Nat → Int32) (d_ci : Nat → Int32) (d_n : Nat)  (x : Int32) (y : Int32) (hn : d_n ≤ 6) : Cd g l yX4_allowFor mX4_allowFor ({ frames := 1, cells := 0, slots := 0, locals := 24 } : Room) [.ref (d_a 0), .int x, .int y] (wD g d_a d_cp d_ci d_n) (some (.int (bI (allowS d_cp d_ci x y d_n 0)))) (wD g d_a d_cp d_ci d_n) := by
  refine Ct.of (lv := [(0, .ref (d_a 0)), (1, .int x), (2, .int y)]) ⟨by decide +kernel, rfl, Nat.le_of_ble_eq_true rfl⟩ rfl (fun E A sz Q X hQ => ?_)
  refine V_iconst (v := (nI 0)) nX4_allowFor_0 rfl ?_
  refine V_istore_n (lv' := [(0, .ref (d_a 0)), (1, .int x), (2, .int y), (3, .int (nI 0))]) nX4_allowFor_1 (by decide) rfl ?_
  have L2 : ∀ (n : Nat) (i : Nat), d_n - i < n → i ≤ d_n → allowS d_cp d_ci x y (d_n - i) i = allowS d_cp d_ci x y d_n 0 → V g E mX4_allowFor A Q 0 0 (wD g d_a d_cp d_ci d_n) 2 [(0, .ref (d_a 0)), (1, .int x), (2, .int y), (3, .int (nI i))] [] := by
    intro n
    induction n with
    | zero => intro i hm; exact absurd hm (Nat.not_lt_zero _)
    | succ n ih =>
      intro i hm hi hr
      refine V_iload_n nX4_allowFor_2 rfl ?_
      refine V_aload_n nX4_allowFor_3 rfl ?_
      refine V_get4 0 2 (by decide) f_RX4_19 nX4_allowFor_4 rfl rfl ?_
      refine V_icmp_ge_N (tgt := 51) nX4_allowFor_7 rfl (by omega) (by omega) (fun h7 => ?_) (fun h7 => ?_)
      · skip
        refine V_iconst (v := (nI 1)) nX4_allowFor_51 rfl ?_
        refine V_top (y := bI true) rfl ?_
        exact R_z rfl X hQ nX4_allowFor_52 (by simp only [List.map_append, wD_fst]) (⟨by rw [← hr, show d_n - i = 0 by omega]; rfl, rfl⟩)
      · skip
        refine V_iload_n nX4_allowFor_10 rfl ?_
        refine V_aload_n nX4_allowFor_11 rfl ?_
        refine V_get4 0 0 (by decide) f_RX4_9 nX4_allowFor_12 rfl rfl ?_
        refine V_iload_n nX4_allowFor_15 rfl ?_
        refine V_iald 1 nX4_allowFor_16 rfl (by omega) (by decide) rfl ?_
        refine V_isub (v := x - (d_cp i)) nX4_allowFor_17 rfl ?_
        refine V_mabs (v := absI (x - (d_cp i))) X k_RX4_23 ⟨Nat.le_of_ble_eq_true rfl, Nat.le_of_ble_eq_true rfl, Nat.le_of_ble_eq_true rfl, Nat.le_of_ble_eq_true rfl⟩ nX4_allowFor_18 (rfl) ?_
        refine V_iload_n nX4_allowFor_21 rfl ?_
        refine V_joinb (b := !decide (y < (absI (x - (d_cp i))))) (pj := 30) (st := []) (fun J1 J2 => ?_) ?_
        · skip
          refine V_icmp_gt (tgt := 29) nX4_allowFor_22 rfl (fun h22 => ?_) (fun h22 => ?_)
          · skip
            refine V_iconst (v := (nI 0)) nX4_allowFor_29 rfl ?_
            exact J2 (by simp [h22])
          · skip
            refine V_iconst (v := (nI 1)) nX4_allowFor_25 rfl ?_
            refine V_goto (tgt := 30) nX4_allowFor_26 rfl ?_
            exact J1 (by simp [h22])
        refine V_istore (lv' := [(0, .ref (d_a 0)), (1, .int x), (2, .int y), (3, .int (nI i)), (4, .int (bI (!decide (y < (absI (x - (d_cp i)))))))]) nX4_allowFor_30 (by decide) rfl ?_
        refine V_iload nX4_allowFor_32 rfl ?_
        refine V_aload_n nX4_allowFor_34 rfl ?_
        refine V_get4 0 1 (by decide) f_RX4_15 nX4_allowFor_35 rfl rfl ?_
        refine V_iload_n nX4_allowFor_38 rfl ?_
        refine V_zald 2 nX4_allowFor_39 rfl (by omega) (by decide) rfl ?_
        refine V_icmp_eq (tgt := 45) nX4_allowFor_40 rfl (fun h40 => ?_) (fun h40 => ?_)
        · skip
          refine V_iinc (v := nI (i + 1)) (lv' := [(0, .ref (d_a 0)), (1, .int x), (2, .int y), (3, .int (nI (i + 1))), (4, .int (bI (!decide (y < (absI (x - (d_cp i)))))))]) nX4_allowFor_45 rfl (nI_add i 1) (by decide) rfl ?_
          refine V_goto (tgt := 2) nX4_allowFor_48 rfl ?_
          refine V_pick (lv2 := [(0, .ref (d_a 0)), (1, .int x), (2, .int y), (3, .int (nI (i + 1)))]) [0, 1, 2, 3] rfl ?_
          exact ih (i + 1) (by omega) (by omega) (by rw [← hr]; exact (allowS_go h7 h40).symm)
        · skip
          refine V_iconst (v := (nI 0)) nX4_allowFor_43 rfl ?_
          refine V_top (y := bI false) rfl ?_
          exact R_z rfl X hQ nX4_allowFor_44 (by simp only [List.map_append, wD_fst]) (⟨by rw [← hr, allowS_no h7 h40], rfl⟩)
  exact L2 _ 0 (Nat.lt_succ_self _) (by omega) (rfl)
