/-! reading: reference's place and arrays are the class's -/
theorem fg_eq {F : Nat → Int32} {n q lo hi : Nat} (hq : q < n) (hF : rI (F q) 255) (hl : lo ≤ 9) (hh : hi ≤ 9) : fgOk F n q lo hi = true ↔ ¬ (F q < nI (48 + lo) ∨ ¬ F q ≤ nI (48 + hi)) := by
  have h1 : (F q - nI 48).toInt = (F q).toInt - 48 := by
    have := hF.1
    have := hF.2
    rw [j_sub (by rw [nI_toInt (by decide)]; omega) (by rw [nI_toInt (by decide)]; omega), nI_toInt (by decide)]
    omega
  unfold fgOk
  rw [decide_eq_false (show ¬ q = n by omega), Bool.not_false, Bool.true_and, inL_iff, Int32.toInt_toInt64, pk_lT (by omega), pk_lT (by omega), h1, Int32.lt_iff_toInt_lt, Int32.le_iff_toInt_le, nI_toInt (by omega), nI_toInt (by omega)]
  omega
theorem fg_n {F : Nat → Int32} {n lo hi : Nat} : fgOk F n n lo hi = false := by
  unfold fgOk
  rw [decide_eq_true rfl]
  rfl
theorem fg_rI {F : Nat → Int32} {n q lo hi : Nat} (hl : lo ≤ 9) (hh : hi ≤ 9) (h : fgOk F n q lo hi = true) : rI (F q - nI 48) 9 := by
  unfold fgOk at h
  rw [Bool.and_eq_true, inL_iff, Int32.toInt_toInt64, pk_lT (by omega), pk_lT (by omega)] at h
  unfold rI
  omega
theorem fg_lt {F : Nat → Int32} {n q lo hi : Nat} (hq : q ≤ n) (h : fgOk F n q lo hi = true) : q < n := by
  by_cases d : q = n
  · subst d; rw [fg_n] at h; cases h
  · omega
/-- one step of a thing's fault -/
theorem th_1 {F : Nat → Int32} {n s i k lo hi : Nat} {b : Bool} (hs : s + i ≤ n) (hF : ∀ j, j < n → rI (F j) 255) (hl : lo ≤ 9) (hh : hi ≤ 9) (e1 : (if (b && decide (1 < i)) = true then 49 else 48) = 48 + lo) (e2 : (if (!b && decide (i = 3)) = true then 51 else 57) = 48 + hi) : thF F n s b (k + 1) i = if fgOk F n (s + i) lo hi = true then thF F n s b k (i + 1) else some (s + i) := by
  conv => lhs; unfold thF
  rw [e1, e2]
  by_cases h : s + i < n
  · rw [if_pos h]
    have hg := fg_eq (lo := lo) (hi := hi) h (hF _ h) hl hh
    by_cases d : fgOk F n (s + i) lo hi = true
    · rw [if_pos d, if_neg (hg.mp d)]
    · rw [if_neg d, if_pos (Decidable.byContradiction (fun w => d (hg.mpr w)))]
  · rw [if_neg h, show s + i = n by omega, fg_n, if_neg (by decide)]
theorem th_eq {F : Nat → Int32} {n s : Nat} (hs : s < n) (hF : ∀ j, j < n → rI (F j) 255) (b : Bool) {l2 h3 : Nat} (e2 : l2 = if b = true then 1 else 0) (e3 : h3 = if b = true then 9 else 3) : thF F n s b 3 1 = if o3B F n (s + 1) l2 h3 = true then none else some (o3Q F n (s + 1) l2 h3) := by
  have hl2 : l2 ≤ 9 := by cases b <;> simp at e2 <;> omega
  have hh3 : h3 ≤ 9 := by cases b <;> simp at e3 <;> omega
  unfold o3B o3Q
  rw [th_1 (lo := 0) (hi := 9) (by omega) hF (by omega) (by omega) (by cases b <;> rfl) (by cases b <;> rfl)]
  by_cases d1 : fgOk F n (s + 1) 0 9 = true
  · have k1 := fg_lt (by omega) d1
    rw [if_pos d1, if_pos d1, d1, Bool.true_and]
    rw [th_1 (lo := l2) (hi := 9) (by omega) hF (by omega) (by omega) (by subst e2; cases b <;> rfl) (by cases b <;> rfl)]
    show (if fgOk F n (s + 1 + 1) l2 9 = true then _ else _) = _
    by_cases d2 : fgOk F n (s + 1 + 1) l2 9 = true
    · have k2 := fg_lt (by omega) d2
      rw [if_pos d2, if_pos d2, d2, Bool.true_and]
      rw [th_1 (lo := l2) (hi := h3) (by omega) hF (by omega) (by omega) (by subst e2; cases b <;> rfl) (by subst e3; cases b <;> rfl)]
      show (if fgOk F n (s + 1 + 2) l2 h3 = true then _ else _) = _
      by_cases d3 : fgOk F n (s + 1 + 2) l2 h3 = true
      · rw [if_pos d3, if_pos d3]; rfl
      · rw [if_neg d3, if_neg d3, if_neg d3]
    · rw [if_neg d2, if_neg d2, Bool.not_eq_true _ |>.mp d2, Bool.false_and, if_neg (by decide)]
  · rw [if_neg d1, if_neg d1, Bool.not_eq_true _ |>.mp d1, Bool.false_and, if_neg (by decide)]
theorem fillI_congr {f f' h : Nat → Int32} : ∀ n, (∀ j, j < n → f j = f' j) → fillI f h n = fillI f' h n
  | 0, _ => rfl
  | n + 1, e => by
    unfold fillI
    rw [fillI_congr n (fun j hj => e j (by omega)), e n (by omega)]
theorem o3A_at {F R : Nat → Int32} {q a : Nat} : o3A F q a R (3 * a) = F q - nI 48 ∧ o3A F q a R (3 * a + 1) = F (q + 1) - nI 48 ∧ o3A F q a R (3 * a + 2) = F (q + 2) - nI 48 := by
  unfold o3A
  refine ⟨?_, ?_, ?_⟩
  · rw [pk_un (by omega), pk_un (by omega), pk_us]
  · rw [pk_un (by omega), pk_us]
  · rw [pk_us]
theorem o3A_lt {F R : Nat → Int32} {q a f d : Nat} (hf : f < a) (hd : d < 3) : o3A F q a R (3 * f + d) = R (3 * f + d) := by
  unfold o3A
  rw [pk_un (by omega), pk_un (by omega), pk_un (by omega)]
theorem fr_step {F R h : Nat → Int32} {q a d : Nat} {v : Int32} (hd : d < 3) (hv : v = o3A F q a R (3 * a + d)) : upd (fillI (fun f => R (3 * f + d)) h a) a v = fillI (fun f => o3A F q a R (3 * f + d)) h (a + 1) := by
  show _ = upd (fillI (fun f => o3A F q a R (3 * f + d)) h a) a (o3A F q a R (3 * a + d))
  rw [hv, fillI_congr (f := fun f => o3A F q a R (3 * f + d)) (f' := fun f => R (3 * f + d)) a (fun j hj => o3A_lt hj hd)]
def rdR (l0 s : L8) (a b : Nat) (RF RE : Nat → Int32) : Prop := s.1 = a ∧ s.2.1 = b ∧ s.2.2.1 = fillI (fun f => RF (3 * f)) l0.2.2.1 a ∧ s.2.2.2.1 = fillI (fun f => RF (3 * f + 1)) l0.2.2.2.1 a ∧ s.2.2.2.2.1 = fillI (fun f => RF (3 * f + 2)) l0.2.2.2.2.1 a ∧ s.2.2.2.2.2.1 = fillI (fun f => RE (3 * f)) l0.2.2.2.2.2.1 b ∧ s.2.2.2.2.2.2.1 = fillI (fun f => RE (3 * f + 1)) l0.2.2.2.2.2.2.1 b ∧ s.2.2.2.2.2.2.2 = fillI (fun f => RE (3 * f + 2)) l0.2.2.2.2.2.2.2 b
theorem fig_at {F : Nat → Int32} {n p : Nat} (h : p < n) : figT F n p = F p - nI 48 := if_pos h
theorem rd_G {F : Nat → Int32} {n i : Nat} {l0 s : L8} {a b : Nat} {RF RE : Nat → Int32} (h : rdR l0 s a b RF RE) (hk : okL s) (hi : i < n) (ha : a < 4) (hB : o3B F n (i + 1) 1 9 = true) : rdR l0 (addF F n i s) (a + 1) b (o3A F (i + 1) a RF) RE ∧ okL (addF F n i s) := by
  obtain ⟨h1, h2, h3, h4, h5, h6⟩ := h
  unfold o3B at hB
  rw [Bool.and_eq_true, Bool.and_eq_true] at hB
  have k1 := fg_lt (by omega) hB.1
  have k2 := fg_lt (by omega) hB.2.1
  have k3 := fg_lt (by omega) hB.2.2
  have ho := o3A_at (F := F) (R := RF) (q := i + 1) (a := a)
  have e1 : figT F n (i + 1) = F (i + 1) - nI 48 := fig_at (by omega)
  have e2 : figT F n (i + 2) = F (i + 1 + 1) - nI 48 := fig_at (by omega)
  have e3 : figT F n (i + 3) = F (i + 1 + 2) - nI 48 := fig_at (by omega)
  unfold addF
  rw [if_pos (by omega)]
  constructor
  · refine ⟨by show s.1 + 1 = _; omega, h2, ?_, ?_, ?_, h6⟩
    · show upd s.2.2.1 s.1 _ = _
      rw [h3, h1, e1]
      exact fr_step (d := 0) (by decide) ho.1.symm
    · show upd s.2.2.2.1 s.1 _ = _
      rw [h4, h1, e2]
      exact fr_step (d := 1) (by decide) ho.2.1.symm
    · show upd s.2.2.2.2.1 s.1 _ = _
      rw [h5, h1, e3]
      exact fr_step (d := 2) (by decide) ho.2.2.symm
  · refine ⟨by show s.1 + 1 ≤ 4; omega, hk.2.1, fun f hf => ?_, hk.2.2.2⟩
    have hf : f < s.1 + 1 := hf
    show rI (upd s.2.2.1 s.1 (figT F n (i + 1)) f) 9 ∧ rI (upd s.2.2.2.1 s.1 (figT F n (i + 2)) f) 9
    by_cases d : f = s.1
    · subst d
      rw [pk_us, pk_us, e1, e2]
      exact ⟨fg_rI (by decide) (by decide) hB.1, fg_rI (by decide) (by decide) hB.2.1⟩
    · rw [pk_un d, pk_un d]
      exact hk.2.2.1 f (by omega)
theorem rd_E {F : Nat → Int32} {n i : Nat} {l0 s : L8} {a b : Nat} {RF RE : Nat → Int32} (h : rdR l0 s a b RF RE) (hk : okL s) (hi : i < n) (hb : b < 5) (hB : o3B F n (i + 1) 0 3 = true) : rdR l0 (addE F n i s) a (b + 1) RF (o3A F (i + 1) b RE) ∧ okL (addE F n i s) := by
  obtain ⟨h1, h2, h3, h4, h5, h6, h7, h8⟩ := h
  unfold o3B at hB
  rw [Bool.and_eq_true, Bool.and_eq_true] at hB
  have k1 := fg_lt (by omega) hB.1
  have k2 := fg_lt (by omega) hB.2.1
  have k3 := fg_lt (by omega) hB.2.2
  have ho := o3A_at (F := F) (R := RE) (q := i + 1) (a := b)
  have e1 : figT F n (i + 1) = F (i + 1) - nI 48 := fig_at (by omega)
  have e2 : figT F n (i + 2) = F (i + 1 + 1) - nI 48 := fig_at (by omega)
  have e3 : figT F n (i + 3) = F (i + 1 + 2) - nI 48 := fig_at (by omega)
  unfold addE
  rw [if_pos (by omega)]
  constructor
  · refine ⟨h1, by show s.2.1 + 1 = _; omega, h3, h4, h5, ?_, ?_, ?_⟩
    · show upd s.2.2.2.2.2.1 s.2.1 _ = _
      rw [h6, h2, e1]
      exact fr_step (d := 0) (by decide) ho.1.symm
    · show upd s.2.2.2.2.2.2.1 s.2.1 _ = _
      rw [h7, h2, e2]
      exact fr_step (d := 1) (by decide) ho.2.1.symm
    · show upd s.2.2.2.2.2.2.2 s.2.1 _ = _
      rw [h8, h2, e3]
      exact fr_step (d := 2) (by decide) ho.2.2.symm
  · refine ⟨hk.1, by show s.2.1 + 1 ≤ 5; omega, hk.2.2.1, fun f hf => ?_⟩
    have hf : f < s.2.1 + 1 := hf
    show rI (upd s.2.2.2.2.2.1 s.2.1 (figT F n (i + 1)) f) 9 ∧ rI (upd s.2.2.2.2.2.2.1 s.2.1 (figT F n (i + 2)) f) 9
    by_cases d : f = s.2.1
    · subst d
      rw [pk_us, pk_us, e1, e2]
      exact ⟨fg_rI (by decide) (by decide) hB.1, fg_rI (by decide) (by decide) hB.2.1⟩
    · rw [pk_un d, pk_un d]
      exact hk.2.2.2 f (by omega)
theorem rc_eq {F : Nat → Int32} {n : Nat} (hF : ∀ j, j < n → rI (F j) 255) (l0 : L8) : ∀ k i (s : L8) (a b : Nat) (RF RE : Nat → Int32), n ≤ i + 4 * k → a ≤ 4 → b ≤ 5 → rdR l0 s a b RF RE → okL s → (ffC F n k i a b = if (rcS F n k (i, a, b, RF, RE)).1 = true then none else some (rcS F n k (i, a, b, RF, RE)).2.1) ∧ ((rcS F n k (i, a, b, RF, RE)).1 = true → rdR l0 (rdS F n k i s) (rcS F n k (i, a, b, RF, RE)).2.2.1 (rcS F n k (i, a, b, RF, RE)).2.2.2.1 (rcS F n k (i, a, b, RF, RE)).2.2.2.2.1 (rcS F n k (i, a, b, RF, RE)).2.2.2.2.2 ∧ okL (rdS F n k i s))
  | 0, i, s, a, b, RF, RE, _, _, _, h, hk => ⟨rfl, fun _ => ⟨h, hk⟩⟩
  | k + 1, i, s, a, b, RF, RE, hn, ha, hb, h, hk => by
    by_cases hi : i < n
    · by_cases cG : F i = nI 71 ∧ a < 4
      · have c9 : ¬ F i = nI 69 := by rw [cG.1]; decide
        have hT := th_eq hi hF true (l2 := 1) (h3 := 9) rfl rfl
        have hf1 : ffC F n (k + 1) i a b = (match thF F n i true 3 1 with | some q => some q | none => ffC F n k (i + 4) (a + 1) b) := by
          conv => lhs; unfold ffC
          rw [if_pos hi, decide_eq_true cG.1, decide_eq_false c9, if_pos ⟨Or.inl cG.1, by rw [if_pos rfl]; omega, by rw [if_neg (by decide)]; omega⟩]
          rfl
        cases hB : o3B F n (i + 1) 1 9 with
        | false =>
          have hr : rcS F n (k + 1) (i, a, b, RF, RE) = (false, o3Q F n (i + 1) 1 9, a, b, RF, RE) := by
            unfold rcS
            rw [if_pos hi]
            unfold rtB rtS
            rw [if_pos cG, if_pos cG, hB]
            rfl
          rw [hr, hf1, hT, hB]
          exact ⟨rfl, fun w => by cases w⟩
        | true =>
          have hQ : o3Q F n (i + 1) 1 9 = i + 4 := by have := o3Q_t hB; omega
          have hr : rcS F n (k + 1) (i, a, b, RF, RE) = rcS F n k (i + 4, a + 1, b, o3A F (i + 1) a RF, RE) := by
            conv => lhs; unfold rcS
            rw [if_pos hi]
            unfold rtB rtS
            rw [if_pos cG, if_pos cG, hB, hQ]
            rfl
          have hd : rdS F n (k + 1) i s = rdS F n k (i + 4) (addF F n i s) := by
            conv => lhs; unfold rdS
            rw [if_pos hi]
            unfold addT
            rw [if_pos cG.1]
          rw [hr, hf1, hT, hB, hd]
          have hg := rd_G h hk hi cG.2 hB
          exact rc_eq hF l0 k (i + 4) _ (a + 1) b _ RE (by omega) (by omega) hb hg.1 hg.2
      · by_cases cE : F i = nI 69 ∧ b < 5
        · have c7 : ¬ F i = nI 71 := by rw [cE.1]; decide
          have hT := th_eq hi hF false (l2 := 0) (h3 := 3) rfl rfl
          have hf1 : ffC F n (k + 1) i a b = (match thF F n i false 3 1 with | some q => some q | none => ffC F n k (i + 4) a (b + 1)) := by
            conv => lhs; unfold ffC
            rw [if_pos hi, decide_eq_true cE.1, decide_eq_false c7, if_pos ⟨Or.inr cE.1, by rw [if_neg (by decide)]; omega, by rw [if_pos rfl]; omega⟩]
            rfl
          cases hB : o3B F n (i + 1) 0 3 with
          | false =>
            have hr : rcS F n (k + 1) (i, a, b, RF, RE) = (false, o3Q F n (i + 1) 0 3, a, b, RF, RE) := by
              unfold rcS
              rw [if_pos hi]
              unfold rtB rtS
              rw [if_neg cG, if_neg cG, if_pos cE, if_pos cE, hB]
              rfl
            rw [hr, hf1, hT, hB]
            exact ⟨rfl, fun w => by cases w⟩
          | true =>
            have hQ : o3Q F n (i + 1) 0 3 = i + 4 := by have := o3Q_t hB; omega
            have hr : rcS F n (k + 1) (i, a, b, RF, RE) = rcS F n k (i + 4, a, b + 1, RF, o3A F (i + 1) b RE) := by
              conv => lhs; unfold rcS
              rw [if_pos hi]
              unfold rtB rtS
              rw [if_neg cG, if_neg cG, if_pos cE, if_pos cE, hB, hQ]
              rfl
            have hd : rdS F n (k + 1) i s = rdS F n k (i + 4) (addE F n i s) := by
              conv => lhs; unfold rdS
              rw [if_pos hi]
              unfold addT
              rw [if_neg c7]
            rw [hr, hf1, hT, hB, hd]
            have hg := rd_E h hk hi cE.2 hB
            exact rc_eq hF l0 k (i + 4) _ a (b + 1) RF _ (by omega) ha (by omega) hg.1 hg.2
        · have hr : rcS F n (k + 1) (i, a, b, RF, RE) = (false, i, a, b, RF, RE) := by
            unfold rcS
            rw [if_pos hi]
            unfold rtB rtS
            rw [if_neg cG, if_neg cG, if_neg cE, if_neg cE]
            rfl
          have hf1 : ffC F n (k + 1) i a b = some i := by
            refine ffC_bad (by omega) hi (fun w => ?_)
            obtain ⟨w1, w2, w3⟩ := w
            rcases w1 with w1 | w1
            · rw [decide_eq_true w1, if_pos rfl] at w2
              exact cG ⟨w1, by omega⟩
            · rw [decide_eq_true w1, if_pos rfl] at w3
              exact cE ⟨w1, by omega⟩
          rw [hr, hf1]
          exact ⟨rfl, fun w => by cases w⟩
    · have hr : rcS F n (k + 1) (i, a, b, RF, RE) = (true, i, a, b, RF, RE) := rcS_end (by show n ≤ i; omega)
      have hd : rdS F n (k + 1) i s = s := rdS_end (by omega)
      rw [hr, hd, ffC_end (by omega)]
      exact ⟨rfl, fun _ => ⟨h, hk⟩⟩
theorem rv_eq {F : Nat → Int32} {n : Nat} (hn : n ≤ 48) (hF : ∀ j, j < n → rI (F j) 255) (l0 : L8) (RF RE : Nat → Int32) : (faultT F n = if (rcV F n RF RE).1 = true then none else some (rcV F n RF RE).2.1) ∧ ((rcV F n RF RE).1 = true → rdR l0 (rdS F n 12 1 (0, 0, l0.2.2)) (rcV F n RF RE).2.2.1 (rcV F n RF RE).2.2.2.1 (rcV F n RF RE).2.2.2.2.1 (rcV F n RF RE).2.2.2.2.2 ∧ okL (rdS F n 12 1 (0, 0, l0.2.2))) := by
  unfold faultT rcV
  by_cases h : ¬ n = 0 ∧ F 0 = nI 70
  · rw [if_pos h, if_pos h]
    exact rc_eq hF l0 12 1 (0, 0, l0.2.2) 0 0 RF RE (by omega) (by omega) (by omega) ⟨rfl, rfl, rfl, rfl, rfl, rfl, rfl, rfl⟩ ⟨by show 0 ≤ 4; omega, by show 0 ≤ 5; omega, fun f hf => absurd hf (Nat.not_lt_zero _), fun f hf => absurd hf (Nat.not_lt_zero _)⟩
  · rw [if_neg h, if_neg h]
    exact ⟨rfl, fun w => by cases w⟩
theorem fa_rc {F : Nat → Int32} {n : Nat} (hn : n ≤ 48) (hF : ∀ j, j < n → rI (F j) 255) (RF RE : Nat → Int32) : rcR (rcV F n RF RE) = oI (faultT F n) := by
  rw [(rv_eq hn hF (0, 0, F, F, F, F, F, F) RF RE).1]
  unfold rcR
  cases (rcV F n RF RE).1 <;> rfl
theorem fa_no {F : Nat → Int32} {n : Nat} (hn : n ≤ 48) (hF : ∀ j, j < n → rI (F j) 255) (RF RE : Nat → Int32) : faultT F n = none ↔ (rcV F n RF RE).1 = true := by
  rw [(rv_eq hn hF (0, 0, F, F, F, F, F, F) RF RE).1]
  cases (rcV F n RF RE).1
  · exact Iff.intro (fun w => by cases w) (fun w => by cases w)
  · exact Iff.intro (fun _ => rfl) (fun _ => rfl)
/-- the commons of a land just read -/
def nwC (L : L8) (vi wy : Nat → Int32) : Cm := (fun j => if decide (j < L.1) = true then L.2.2.2.1 j else nI 0, fun _ => nI 0, fun _ => nI 0, nI 0, vi, wy)
theorem nw_ok {L : L8} (hL : okL L) (vi wy : Nat → Int32) : okP L (nwC L vi wy) := by
  refine ⟨fun f hf => ⟨?_, rI_0 (by decide)⟩, fun e f _ _ => rI_0 (by decide), fun f h1 h2 => ⟨?_, rfl⟩, fun e f _ _ _ => rfl⟩
  · show rI (if decide (f < L.1) = true then _ else _) 99
    by_cases d : f < L.1
    · rw [decide_eq_true d, if_pos rfl]
      have := (hL.2.2.1 f d).2
      exact ⟨this.1, by have := this.2; omega⟩
    · rw [decide_eq_false d, if_neg (by decide)]
      exact rI_0 (by decide)
  · show (if decide (f < L.1) = true then _ else _) = _
    rw [decide_eq_false (by omega), if_neg (by decide)]
theorem nw_pg {L : L8} (hL : okL L) {R h : Nat → Int32} (hy : L.2.2.2.1 = fillI R h L.1) (vi wy : Nat → Int32) : pg (fillI R (fun _ => nI 0) L.1) (nwC L vi wy).1 (nwC L vi wy).2.1 (nwC L vi wy).2.2.1 (nwC L vi wy).2.2.2.1 := by
  have h4 := hL.1
  refine ⟨fun f hf => ?_, fun f hf => ?_, fun e f he hf => ?_, ?_⟩
  · show _ = (if decide (f < L.1) = true then L.2.2.2.1 f else nI 0)
    rw [fillI_eq, hy, fillI_eq]
    by_cases d : f < L.1
    · rw [decide_eq_true d, if_pos d, if_pos rfl, if_pos d]
    · rw [decide_eq_false d, if_neg d, if_neg (by decide)]
  · rw [fillI_eq, if_neg (by omega)]; rfl
  · rw [fillI_eq, if_neg (by omega)]; rfl
  · rw [fillI_eq, if_neg (by omega)]; rfl
