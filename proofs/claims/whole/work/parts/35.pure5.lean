/-! the calls that ask and act: reference's answers are the class's -/
theorem sumI_congr {f h : Nat → Int32} : ∀ n, (∀ k, k < n → f k = h k) → sumI f n = sumI h n
  | 0, _ => rfl
  | n + 1, e => by
    unfold sumI
    rw [sumI_congr n (fun k hk => e k (by omega)), e n (by omega)]
theorem ix_lt {n : Nat} (hn : n < 2 ^ 30) {x : Int32} (h : hasN n x = true) : ix x < n ∧ x = nI (ix x) := by
  obtain ⟨f, hf, rfl⟩ := hasN_t h (by omega)
  rw [ix_nI (by omega)]
  exact ⟨hf, rfl⟩
theorem ab_eq {L : L8} {c : Cm} {q : Nat → Int32} (hL : okL L) (hP : okP L c) (hq : pg q c.1 c.2.1 c.2.2.1 c.2.2.2.1) (ac cm ts : Nat) (x : Int32) : abM L.1 L.2.1 ac cm ts L.2.2.1 L.2.2.2.2.1 L.2.2.2.2.2.1 L.2.2.2.2.2.2.1 L.2.2.2.2.2.2.2 q x = abR L c.1 c.2.1 c.2.2.1 c.2.2.2.1 ac cm ts x := by
  have h3 := lv_eq hL hP hq
  have h4 : q 4 + q 5 + q 6 + q 7 = sumI c.2.1 L.1 := by
    rw [← sum_z L.1 4 hL.1 (fun k h1 h2 => (hP.2.2.1 k h1 h2).2), sum4]
    have := hq.2.1
    rw [← this 0 (by omega), ← this 1 (by omega), ← this 2 (by omega), ← this 3 (by omega)]
  have h5 : sumI (oaP q) L.2.1 = sumI (fun e => debtS c.2.2.1 e L.1) L.2.1 := sumI_congr _ (fun k hk => oa_eq hL hP hq (by have := hL.2.1; omega))
  have h6 : swP L.2.2.2.2.1 q L.1 = bitsN (isSw L.2.2.2.2.1 c.2.1) L.1 := sw_eq hL.1 hq
  have h7 := swm_eq hL (b31 L.2.1 hL.2.1) hq
  unfold abM abR
  rw [h3, h4, h5, h6, h7, hq.2.2.2]
  rfl
theorem fi_eq {L : L8} {c : Cm} {q : Nat → Int32} (hL : okL L) (hq : pg q c.1 c.2.1 c.2.2.1 c.2.2.2.1) (x y : Int32) : fiM L.1 L.2.1 L.2.2.1 L.2.2.2.1 L.2.2.2.2.1 q x y = fiR L c.1 c.2.1 c.2.2.1 x y := by
  unfold fiM fiR
  by_cases h : hasN L.1 x = true
  · rw [if_pos h, if_pos h]
    have hx := (ix_lt (by have := hL.1; omega) h).1
    have h4 := hL.1
    rw [hq.1 (ix x) (by omega), hq.2.1 (ix x) (by omega), bitsN_congr (c := fun e => !decide (c.2.2.1 (e * 4 + ix x) ≤ 0)) L.2.1 (fun k hk => by rw [hq.2.2.1 k (ix x) (by have := hL.2.1; omega) (by omega)])]
  · rw [if_neg h, if_neg h]
theorem ea_eq {L : L8} {c : Cm} {q : Nat → Int32} (hL : okL L) (hP : okP L c) (hq : pg q c.1 c.2.1 c.2.2.1 c.2.2.2.1) (x y : Int32) : eaM L.1 L.2.1 L.2.2.1 L.2.2.2.2.2.1 L.2.2.2.2.2.2.1 L.2.2.2.2.2.2.2 q x y = eaR L c.2.1 c.2.2.1 x y := by
  unfold eaM eaR
  by_cases h : hasN L.2.1 x = true
  · rw [if_pos h, if_pos h]
    have hx := (ix_lt (by have := hL.2.1; omega) h).1
    have h5 := hL.2.1
    have hg := gsI_eq (kd := L.2.2.2.2.2.2.2) (y := L.2.2.2.2.2.2.1 (ix x)) hL.1 (show ix x < 5 by omega) (fun f hf => (hL.2.2.1 f hf).1) (hL.2.2.2 _ hx).1 (Or.inl ⟨rfl, (hL.2.2.2 _ hx).2⟩) hq
    have ho := mar_own hL hP hx
    rw [hg.1, hg.2.1, ← ho.1, ← ho.2, oa_eq hL hP hq (show ix x < 5 by omega)]
    have e4 : y = nI 4 ↔ y.toInt = 4 := by rw [← Int32.toInt_inj]; rfl
    have e5 : y = nI 5 ↔ y.toInt = 5 := by rw [← Int32.toInt_inj]; rfl
    simp only [e4, e5]
    by_cases c4 : y.toInt = 4
    · simp [c4]
    · by_cases c5 : y.toInt = 5
      · simp [c5]
      · simp [c4, c5]
  · rw [if_neg h, if_neg h]
theorem ow_eq {L : L8} {c : Cm} {q : Nat → Int32} (hL : okL L) (hq : pg q c.1 c.2.1 c.2.2.1 c.2.2.2.1) (x y : Int32) : owM L.1 L.2.1 q x y = owR L c.2.2.1 x y := by
  unfold owM owR
  by_cases h : hasN L.2.1 x = true
  · rw [if_pos h, if_pos h]
    by_cases h2 : hasN L.1 y = true
    · rw [if_pos h2, if_pos h2]
      have hx := (ix_lt (by have := hL.2.1; omega) h).1
      have hy := (ix_lt (by have := hL.1; omega) h2).1
      exact hq.2.2.1 _ _ (by have := hL.2.1; omega) (by have := hL.1; omega)
    · rw [if_neg h2, if_neg h2]
  · rw [if_neg h, if_neg h]
theorem et_b {L : L8} {c : Cm} {q : Nat → Int32} (hL : okL L) (hP : okP L c) (hq : pg q c.1 c.2.1 c.2.2.1 c.2.2.2.1) (e f : Int32) : etB L.1 L.2.1 L.2.2.2.2.2.2.2 q e f = tkB L c e f := by
  unfold etB tkB
  cases h : hasN L.2.1 e with
  | false => rfl
  | true =>
    cases h2 : hasN L.1 f with
    | false => rfl
    | true =>
      have hx := (ix_lt (by have := hL.2.1; omega) h).1
      have hy := (ix_lt (by have := hL.1; omega) h2).1
      rw [ce_eq hL hP hq (by have := hL.2.1; omega) (by have := hL.1; omega)]
/-- a loaf or two taken, in both -/
theorem et_q {L : L8} {c : Cm} {q : Nat → Int32} (hL : okL L) (hP : okP L c) (hq : pg q c.1 c.2.1 c.2.2.1 c.2.2.2.1) (e f : Int32) : pg (etQ L.1 L.2.1 L.2.2.2.2.2.2.2 q e f) (tkC L c e f).1 (tkC L c e f).2.1 (tkC L c e f).2.2.1 (tkC L c e f).2.2.2.1 ∧ okP L (tkC L c e f) := by
  unfold etQ tkC
  rw [et_b hL hP hq]
  by_cases h : tkB L c e f = true
  · rw [if_pos h, if_pos h]
    unfold tkB at h
    rw [Bool.and_eq_true, Bool.and_eq_true] at h
    have hx := (ix_lt (by have := hL.2.1; omega) h.1).1
    have hy := (ix_lt (by have := hL.1; omega) h.2.1).1
    have h5 := hL.2.1
    have h4 := hL.1
    exact ⟨ge_eq hq (by omega) (by omega), ok_take hL hP (by omega) hy h.2.2⟩
  · rw [if_neg h, if_neg h]
    exact ⟨hq, hP⟩
theorem et_eq {L : L8} {c : Cm} {q : Nat → Int32} (hL : okL L) (hP : okP L c) (hq : pg q c.1 c.2.1 c.2.2.1 c.2.2.2.1) (e f : Int32) : etM L.1 L.2.1 L.2.2.2.2.2.2.2 q e f = etR L c e f := by
  unfold etM etR
  by_cases h : hasN L.2.1 e = true
  · rw [if_pos h, if_pos h]
    by_cases h2 : hasN L.1 f = true
    · rw [if_pos h2, if_pos h2]
      have hx := (ix_lt (by have := hL.2.1; omega) h).1
      have hy := (ix_lt (by have := hL.1; omega) h2).1
      have h5 := hL.2.1
      have h4 := hL.1
      rw [ce_eq hL hP hq (by omega) (by omega), (ge_eq (L := L) hq (show ix e < 5 by omega) (show ix f < 4 by omega)).2.2.1 _ _ (by omega) (by omega)]
    · rw [if_neg h2, if_neg h2]
  · rw [if_neg h, if_neg h]
theorem ok_takeW {L : L8} {c : Cm} (hL : okL L) (hP : okP L c) {e f : Nat} (he : e < 5) (hf : f < L.1) (hc : ¬ c.1 f < nI (porN L.2.2.2.2.2.2.2 e)) : okP L (takeC L e f c) := by
  have h4 := hL.1
  have hp := por_rI L.2.2.2.2.2.2.2 e
  rw [Int32.lt_iff_toInt_lt] at hc
  have hl := (hP.1 f (by omega)).1
  unfold takeC
  refine ⟨fun k hk => ⟨?_, (hP.1 k hk).2⟩, fun e' k he' hk => ?_, fun k h1 h2 => ⟨?_, (hP.2.2.1 k h1 h2).2⟩, fun e' k he' h1 h2 => ?_⟩
  · dsimp only
    by_cases d : k = f
    · subst d
      rw [pk_us]
      unfold rI at hl hp ⊢
      rw [j_sub (by omega) (by omega)]
      omega
    · rw [pk_un d]; exact (hP.1 k hk).1
  · dsimp only
    by_cases d : e' * 4 + k = e * 4 + f
    · rw [d, pk_us]
      exact (cap_rI (hP.2.1 e f he (by omega)) (by unfold rI at hp ⊢; omega)).1
    · rw [pk_un d]; exact hP.2.1 e' k he' hk
  · dsimp only
    rw [pk_un (by omega)]
    exact (hP.2.2.1 k h1 h2).1
  · dsimp only
    rw [pk_un (by omega)]
    exact hP.2.2.2 e' k he' h1 h2
theorem ck_b {L : L8} {c : Cm} {q : Nat → Int32} (hL : okL L) (hP : okP L c) (hq : pg q c.1 c.2.1 c.2.2.1 c.2.2.2.1) (e f h : Int32) : ckMB L.1 L.2.1 L.2.2.2.2.2.2.2 q e f h = ckB L c e f h := by
  unfold ckMB ckB
  cases h1 : hasN L.2.1 e with
  | false => rfl
  | true =>
    cases h2 : hasN L.1 f with
    | false => rfl
    | true =>
      cases h3 : hasN L.1 h with
      | false => rfl
      | true =>
        have hx := (ix_lt (by have := hL.2.1; omega) h1).1
        have hy := (ix_lt (by have := hL.1; omega) h2).1
        have hz := (ix_lt (by have := hL.1; omega) h3).1
        rw [ce_eq hL hP hq (by have := hL.2.1; omega) (by have := hL.1; omega), ce_eq hL hP hq (by have := hL.2.1; omega) (by have := hL.1; omega)]
theorem ck_q {L : L8} {c : Cm} {q : Nat → Int32} (hL : okL L) (hP : okP L c) (hq : pg q c.1 c.2.1 c.2.2.1 c.2.2.2.1) (e f h : Int32) : pg (ckMQ L.1 L.2.1 L.2.2.2.2.2.2.2 q e f h) (ckC L c e f h).1 (ckC L c e f h).2.1 (ckC L c e f h).2.2.1 (ckC L c e f h).2.2.2.1 ∧ okP L (ckC L c e f h) := by
  unfold ckMQ ckC
  rw [ck_b hL hP hq]
  by_cases hb : ckB L c e f h = true
  · rw [if_pos hb, if_pos hb]
    unfold ckB at hb
    rw [Bool.and_eq_true, Bool.and_eq_true, Bool.and_eq_true, Bool.and_eq_true, Bool.and_eq_true] at hb
    obtain ⟨h1, h2, h3, h6, h7, h8⟩ := hb
    have hx := (ix_lt (by have := hL.2.1; omega) h1).1
    have hy := ix_lt (by have := hL.1; omega) h2
    have hz := ix_lt (by have := hL.1; omega) h3
    have h5 := hL.2.1
    have h4 := hL.1
    have hne : ix f ≠ ix h := by
      intro w
      rw [Bool.not_eq_true', decide_eq_false_iff_not] at h6
      apply h6
      rw [hy.2, hz.2, w]
    have hc8 := h8
    unfold canT at hc8
    rw [Bool.and_eq_true, Bool.not_eq_true', decide_eq_false_iff_not] at hc8
    refine ⟨ge_eq (ge_eq hq (by omega) (by omega)) (by omega) (by omega), ok_takeW hL (ok_take hL hP (by omega) hy.1 h7) (by omega) hz.1 ?_⟩
    unfold takeC
    dsimp only
    rw [pk_un (Ne.symm hne)]
    exact hc8.1
  · rw [if_neg hb, if_neg hb]
    exact ⟨hq, hP⟩
theorem ck_eq {L : L8} {c : Cm} {q : Nat → Int32} (hL : okL L) (hP : okP L c) (hq : pg q c.1 c.2.1 c.2.2.1 c.2.2.2.1) (e f h : Int32) : ckMR L.1 L.2.1 L.2.2.2.2.2.2.2 q e f h = ckR L c e f h := by
  by_cases hb : ckB L c e f h = true
  · have k1 := ck_q hL hP hq e f h
    have hm := ck_b hL hP hq e f h
    unfold ckMQ ckC at k1
    rw [hm, if_pos hb, if_pos hb] at k1
    have hb2 := hb
    rw [hb] at hm
    unfold ckMB at hm
    unfold ckB at hb2
    simp only [Bool.and_eq_true, Bool.not_eq_true', decide_eq_false_iff_not] at hm hb2
    have hx := (ix_lt (by have := hL.2.1; omega) hb2.1).1
    unfold ckMR ckR
    rw [if_pos hm.1, if_pos hm.2.1, if_pos hm.2.2.1, if_neg hm.2.2.2.1, if_pos hm.2.2.2.2.1, if_pos hm.2.2.2.2.2, if_pos hm.1, if_pos hm.2.1, if_pos hm.2.2.1, if_neg hm.2.2.2.1, if_pos hb2.2.2.2.2.1, if_pos hb2.2.2.2.2.2]
    exact oa_eq hL k1.2 k1.1 (by have := hL.2.1; omega)
  · unfold ckMR ckR
    by_cases h1 : hasN L.2.1 e = true
    · rw [if_pos h1, if_pos h1]
      by_cases h2 : hasN L.1 f = true
      · rw [if_pos h2, if_pos h2]
        by_cases h3 : hasN L.1 h = true
        · rw [if_pos h3, if_pos h3]
          by_cases h6 : f = h
          · rw [if_pos h6, if_pos h6]
          · rw [if_neg h6, if_neg h6]
            have hx := (ix_lt (by have := hL.2.1; omega) h1).1
            have hy := (ix_lt (by have := hL.1; omega) h2).1
            have hz := (ix_lt (by have := hL.1; omega) h3).1
            rw [ce_eq hL hP hq (by have := hL.2.1; omega) (by have := hL.1; omega), ce_eq hL hP hq (by have := hL.2.1; omega) (by have := hL.1; omega)]
            by_cases h7 : canT L.2.2.2.2.2.2.2 c.1 c.2.2.1 L.1 (ix e) (ix f) = true
            · rw [if_pos h7, if_pos h7]
              by_cases h8 : canT L.2.2.2.2.2.2.2 c.1 c.2.2.1 L.1 (ix e) (ix h) = true
              · exact absurd (by unfold ckB; rw [h1, h2, h3, decide_eq_false h6, h7, h8]; rfl) hb
              · rw [if_neg h8, if_neg h8]
            · rw [if_neg h7, if_neg h7]
        · rw [if_neg h3, if_neg h3]
      · rw [if_neg h2, if_neg h2]
    · rw [if_neg h1, if_neg h1]
theorem ah_q {L : L8} {c : Cm} {q : Nat → Int32} (hL : okL L) (hP : okP L c) (hq : pg q c.1 c.2.1 c.2.2.1 c.2.2.2.1) : ∀ n, pg (ahM L.1 L.2.1 L.2.2.1 L.2.2.2.1 L.2.2.2.2.1 L.2.2.2.2.2.1 L.2.2.2.2.2.2.1 L.2.2.2.2.2.2.2 q n) (ahC L c n).1 (ahC L c n).2.1 (ahC L c n).2.2.1 (ahC L c n).2.2.2.1 ∧ okP L (ahC L c n)
  | 0 => ⟨hq, hP⟩
  | n + 1 => by
    have ih := ah_q hL hP hq n
    exact ⟨hvC_eq hL (mq_all hL ih.1), ok_reap hL (ok_mar hL ih.2 _)⟩
theorem ah_eq {L : L8} {c : Cm} {q : Nat → Int32} (hL : okL L) (hP : okP L c) (hq : pg q c.1 c.2.1 c.2.2.1 c.2.2.2.1) (x y : Int32) : ahMR L.1 L.2.1 L.2.2.1 L.2.2.2.1 L.2.2.2.2.1 L.2.2.2.2.2.1 L.2.2.2.2.2.2.1 L.2.2.2.2.2.2.2 q x y = ahR L c x y := by
  unfold ahMR ahR
  by_cases h : hasN L.1 x = true
  · rw [if_pos h, if_pos h]
    have hx := (ix_lt (by have := hL.1; omega) h).1
    rw [(ah_q hL hP hq (ix y)).1.1 _ (by have := hL.1; omega)]
  · rw [if_neg h, if_neg h]
theorem tk_can {L : L8} {c : Cm} {e f : Nat} (hL : okL L) (he : e < L.2.1) (hf : f < L.1) : tkB L c (nI e) (nI f) = canT L.2.2.2.2.2.2.2 c.1 c.2.2.1 L.1 e f := by
  have h5 := hL.2.1
  have h4 := hL.1
  have h1 : hasN L.2.1 (nI e) = true := (hasN_iff (by omega)).mpr (by rw [nI_toInt (by omega)]; omega)
  have h2 : hasN L.1 (nI f) = true := (hasN_iff (by omega)).mpr (by rw [nI_toInt (by omega)]; omega)
  unfold tkB
  rw [h1, h2, ix_nI (by omega), ix_nI (by omega)]
  rfl
theorem sf_eq {L : L8} {c : Cm} {q : Nat → Int32} (hL : okL L) (hP : okP L c) (hq : pg q c.1 c.2.1 c.2.2.1 c.2.2.2.1) (s : Nat) {f : Nat} (hf : f < L.1) : ∀ n, n ≤ L.2.1 → (sfL L.2.2.2.2.2.2.2 s f q n = none ∧ fedL L s f c n = none) ∨ ∃ r d, sfL L.2.2.2.2.2.2.2 s f q n = some r ∧ fedL L s f c n = some d ∧ pg r d.1 d.2.1 d.2.2.1 d.2.2.2.1 ∧ okP L d
  | 0, _ => Or.inr ⟨q, c, rfl, rfl, hq, hP⟩
  | n + 1, hn => by
    have h5 := hL.2.1
    have h4 := hL.1
    rcases sf_eq hL hP hq s hf n (by omega) with ⟨h1, h2⟩ | ⟨r, d, h1, h2, h3, h6⟩
    · exact Or.inl ⟨sfL_none (Nat.le_succ n) h1, fedL_none (Nat.le_succ n) h2⟩
    · by_cases hb : s / 2 ^ n % 2 = 1
      · have hc : ceP L.2.2.2.2.2.2.2 r n f = tkB L d (nI n) (nI f) := by rw [tk_can hL (by omega) hf]; exact ce_eq hL h6 h3 (by omega) (by omega)
        cases ht : tkB L d (nI n) (nI f) with
        | true =>
          have hct : canT L.2.2.2.2.2.2.2 d.1 d.2.2.1 L.1 n f = true := by rw [← tk_can hL (by omega) hf]; exact ht
          have hk : tkC L d (nI n) (nI f) = takeC L n f d := by
            unfold tkC
            rw [if_pos ht, ix_nI (by omega), ix_nI (by omega)]
          refine Or.inr ⟨_, _, sfL_yes h1 (decide_eq_true hb) (hc.trans ht), fedL_yes h2 hb ht, ?_, ?_⟩
          · rw [hk]; exact ge_eq h3 (by omega) (by omega)
          · rw [hk]; exact ok_take hL h6 (by omega) hf hct
        | false => exact Or.inl ⟨sfL_no h1 (decide_eq_true hb) (hc.trans ht), fedL_no h2 hb ht⟩
      · exact Or.inr ⟨r, d, sfL_skip h1 (decide_eq_false hb), fedL_skip h2 hb, h3, h6⟩
theorem sfB_eq {L : L8} {c : Cm} {q : Nat → Int32} (hL : okL L) (hP : okP L c) (hq : pg q c.1 c.2.1 c.2.2.1 c.2.2.2.1) (s : Nat) {f : Nat} (hf : f < L.1) : sfB L.1 L.2.1 L.2.2.1 L.2.2.2.2.1 L.2.2.2.2.2.1 L.2.2.2.2.2.2.1 L.2.2.2.2.2.2.2 s f q = fedB L s f c := by
  rcases sf_eq hL hP hq s hf L.2.1 (Nat.le_refl _) with ⟨h1, h2⟩ | ⟨r, d, h1, h2, h3, h6⟩
  · unfold sfB fedB
    rw [h1, h2]
  · rw [sfB_yes h1, fedB_yes h2, sw_eq hL.1 (mq_all hL h3), bitsN_at _ hf]
theorem be_eq {L : L8} {c : Cm} {q : Nat → Int32} (hL : okL L) (hP : okP L c) (hq : pg q c.1 c.2.1 c.2.2.1 c.2.2.2.1) {f : Nat} (hf : f < L.1) : ∀ v, beM L.1 L.2.1 L.2.2.1 L.2.2.2.2.1 L.2.2.2.2.2.1 L.2.2.2.2.2.2.1 L.2.2.2.2.2.2.2 f q v = beO L c f v
  | 0 => rfl
  | v + 1 => by
    unfold beM beO
    rw [be_eq hL hP hq hf v, sfB_eq hL hP hq v hf]
theorem wa_eq {L : L8} {c : Cm} {q : Nat → Int32} (hL : okL L) (hP : okP L c) (hq : pg q c.1 c.2.1 c.2.2.1 c.2.2.2.1) (x : Int32) : waM L.1 L.2.1 L.2.2.1 L.2.2.2.2.1 L.2.2.2.2.2.1 L.2.2.2.2.2.2.1 L.2.2.2.2.2.2.2 q x = waR L c x := by
  unfold waM waR
  by_cases h : hasN L.1 x = true
  · rw [if_pos h, if_pos h, be_eq hL hP hq (ix_lt (by have := hL.1; omega) h).1]
  · rw [if_neg h, if_neg h]
theorem ri_eq {L : L8} {c : Cm} {q : Nat → Int32} (hL : okL L) (hq : pg q c.1 c.2.1 c.2.2.1 c.2.2.2.1) (x : Int32) : riM L.1 L.2.1 L.2.2.1 L.2.2.2.2.2.1 L.2.2.2.2.2.2.2 q x = riR L c.2.1 c.2.2.1 x := by
  unfold riM riR
  by_cases h : hasN L.2.1 x = true
  · rw [if_pos h, if_pos h]
    have hx := (ix_lt (by have := hL.2.1; omega) h).1
    rw [(gsI_eq (kd := L.2.2.2.2.2.2.2) (y := nI 1000) (wk := nI 99) hL.1 (show ix x < 5 by have := hL.2.1; omega) (fun f hf => (hL.2.2.1 f hf).1) (hL.2.2.2 _ hx).1 (Or.inr ⟨rfl, rfl⟩) hq).2.1]
  · rw [if_neg h, if_neg h]
