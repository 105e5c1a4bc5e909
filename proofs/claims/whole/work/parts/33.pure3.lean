/-! what holds of the commons goes on holding; who comes more, more is sown -/
theorem cap_t (x : Int32) : ((capI x).toInt = x.toInt ∧ x.toInt < 99) ∨ ((capI x).toInt = 99 ∧ 99 ≤ x.toInt) := by
  unfold capI
  by_cases c : x < nI 99
  · rw [if_pos c]
    rw [Int32.lt_iff_toInt_lt, n99_t] at c
    exact Or.inl ⟨rfl, c⟩
  · rw [if_neg c]
    rw [Int32.lt_iff_toInt_lt, n99_t] at c
    exact Or.inr ⟨n99_t, by omega⟩
theorem cap_rI {x y : Int32} (hx : rI x 99) (hy : rI y 99) : rI (capI (x + y)) 99 ∧ (capI (x + y)).toInt = min (x.toInt + y.toInt) 99 := by
  unfold rI at hx hy ⊢
  have h1 : (x + y).toInt = x.toInt + y.toInt := j_add (by omega) (by omega)
  have := cap_t (x + y)
  omega
theorem por_12 (kd : Nat → Int32) (e : Nat) : porN kd e = 1 ∨ porN kd e = 2 := by
  unfold porN
  split
  · exact Or.inr rfl
  · exact Or.inl rfl
theorem por_rI (kd : Nat → Int32) (e : Nat) : rI (nI (porN kd e)) 2 := by
  unfold rI
  rcases por_12 kd e with h | h <;> rw [h] <;> decide
theorem ok_take {L : L8} {c : Cm} (hL : okL L) (hP : okP L c) {e f : Nat} (he : e < 5) (hf : f < L.1) (hc : canT L.2.2.2.2.2.2.2 c.1 c.2.2.1 L.1 e f = true) : okP L (takeC L e f c) := by
  have h4 := hL.1
  have hp := por_rI L.2.2.2.2.2.2.2 e
  unfold canT at hc
  rw [Bool.and_eq_true, Bool.not_eq_true', decide_eq_false_iff_not, Int32.lt_iff_toInt_lt] at hc
  have hl := (hP.1 f (by omega)).1
  unfold takeC
  refine ⟨fun k hk => ⟨?_, (hP.1 k hk).2⟩, fun e' k he' hk => ?_, fun k h1 h2 => ⟨?_, (hP.2.2.1 k h1 h2).2⟩, fun e' k he' h1 h2 => ?_⟩
  · dsimp only
    by_cases d : k = f
    · subst d
      rw [pk_us]
      unfold rI at hl hp ⊢
      have hc1 := hc.1
      rw [j_sub (by omega) (by omega)]
      omega
    · rw [pk_un d]; exact (hP.1 k hk).1
  · dsimp only
    by_cases d : e' * 4 + k = e * 4 + f
    · rw [d, pk_us]
      exact (cap_rI (hP.2.1 e f he (by omega)) (by unfold rI at hp ⊢; omega)).1
    · rw [pk_un d]; exact hP.2.1 e' k he' hk
  · dsimp only
    rw [pk_un (by omega)]
    exact (hP.2.2.1 k h1 h2).1
  · dsimp only
    rw [pk_un (by omega)]
    exact hP.2.2.2 e' k he' h1 h2
theorem reapS_rI {yl nd lo sk : Nat → Int32} (hl : ∀ f, f < 4 → rI (lo f) 99 ∧ rI (sk f) 99) : ∀ n, n ≤ 4 → (∀ f, f < n → rI (yl f) 9) → ∀ f, f < 4 → rI ((reapS yl nd lo sk n).1 f) 99 ∧ rI ((reapS yl nd lo sk n).2 f) 99
  | 0, _, _, f, hf => hl f hf
  | n + 1, hn, hy, f, hf => by
    have ih := reapS_rI (nd := nd) hl n (by omega) (fun k hk => hy k (by omega))
    unfold reapS
    refine ⟨?_, ?_⟩
    · dsimp only
      split
      · by_cases d : f = n
        · subst d
          rw [pk_us]
          exact (cap_rI (ih f hf).1 (by have := hy f (by omega); unfold rI at this ⊢; omega)).1
        · rw [pk_un d]; exact (ih f hf).1
      · exact (ih f hf).1
    · dsimp only
      by_cases d : f = n
      · subst d
        rw [pk_us]
        exact rI_0 (by omega)
      · rw [pk_un d]; exact (ih f hf).2
theorem ok_reap {L : L8} {c : Cm} (hL : okL L) (hP : okP L c) : okP L (reapC L c) := by
  refine ⟨reapS_rI hP.1 L.1 hL.1 (fun f hf => (hL.2.2.1 f hf).2), hP.2.1, fun k h1 h2 => ?_, hP.2.2.2⟩
  have h := reapS_sk L.2.2.2.1 L.2.2.2.2.1 c.1 c.2.1 L.1 k h1
  show (reapS _ _ _ _ _).1 k = _ ∧ (reapS _ _ _ _ _).2 k = _
  rw [h.1, h.2]
  exact hP.2.2.1 k h1 h2
/-- seed and debts -/
def okS (nf : Nat) (sk db : Nat → Int32) : Prop := (∀ f, f < 4 → rI (sk f) 99) ∧ (∀ e f, e < 5 → f < 4 → rI (db (e * 4 + f)) 99) ∧ (∀ f, nf ≤ f → f < 4 → sk f = nI 0) ∧ (∀ e f, e < 5 → f < 4 → nf ≤ f → db (e * 4 + f) = nI 0)
theorem okS_step {nf e f : Nat} {sk db : Nat → Int32} (h : okS nf sk db) (hnf : nf ≤ 4) (he : e < 5) (hf : f < nf) : okS nf (upd sk f (capI (sk f + db (e * 4 + f)))) (upd db (e * 4 + f) (nI 0)) := by
  refine ⟨fun k hk => ?_, fun e' k he' hk => ?_, fun k h1 h2 => ?_, fun e' k he' h1 h2 => ?_⟩
  · by_cases d : k = f
    · subst d
      rw [pk_us]
      exact (cap_rI (h.1 k hk) (h.2.1 e k he hk)).1
    · rw [pk_un d]; exact h.1 k hk
  · by_cases d : e' * 4 + k = e * 4 + f
    · rw [d, pk_us]; exact rI_0 (by omega)
    · rw [pk_un d]; exact h.2.1 e' k he' hk
  · rw [pk_un (by omega)]; exact h.2.2.1 k h1 h2
  · rw [pk_un (by omega)]; exact h.2.2.2 e' k he' h1 h2
theorem nrO_congr {pl db db' : Nat → Int32} {e : Nat} {a : Int32} : ∀ n, (∀ f, f < n → db (e * 4 + f) = db' (e * 4 + f)) → nrO pl db e a n = nrO pl db' e a n
  | 0, _ => rfl
  | n + 1, h => by
    unfold nrO
    rw [nrO_congr n (fun f hf => h f (by omega)), h n (by omega)]
theorem goS_ok {pl kd : Nat → Int32} {nf e : Nat} {wk : Int32} (hnf : nf ≤ 4) (he : e < 5) : ∀ (k : Nat) (a : Int32) (sk db : Nat → Int32) (c w : Int32), okS nf sk db → okS nf (goS pl kd nf e wk k a (sk, db, c, w)).1 (goS pl kd nf e wk k a (sk, db, c, w)).2.1
  | 0, a, sk, db, c, w, h => h
  | k + 1, a, sk, db, c, w, h => by
    unfold goS
    dsimp only
    cases ho : (nrO pl db e a nf).1 with
    | none => exact h
    | some f =>
      have hf := nrO_lt pl db e a nf f ho
      dsimp only
      split
      · exact h
      · exact goS_ok hnf he k (pl f) _ _ _ _ (okS_step h hnf he hf)
theorem goS_row {pl kd : Nat → Int32} {nf e : Nat} {wk : Int32} (hnf : nf ≤ 4) {e' f' : Nat} (hne : e' ≠ e) (hf' : f' < 4) : ∀ (k : Nat) (a : Int32) (sk db : Nat → Int32) (c w : Int32), (goS pl kd nf e wk k a (sk, db, c, w)).2.1 (e' * 4 + f') = db (e' * 4 + f')
  | 0, a, sk, db, c, w => rfl
  | k + 1, a, sk, db, c, w => by
    unfold goS
    dsimp only
    cases ho : (nrO pl db e a nf).1 with
    | none => rfl
    | some f =>
      have hf := nrO_lt pl db e a nf f ho
      dsimp only
      split
      · rfl
      · unfold stepS
        dsimp only
        rw [goS_row hnf hne hf' k]
        exact pk_un (by omega)
/-- one goes alike over the same debts of one's own; more seed there, more behind -/
theorem go_mono {pl kd : Nat → Int32} {nf e : Nat} {wk : Int32} (hnf : nf ≤ 4) (he : e < 5) : ∀ (k : Nat) (a : Int32) (sk db sk' db' : Nat → Int32) (c w : Int32), okS nf sk db → okS nf sk' db' → (∀ f, f < 4 → db (e * 4 + f) = db' (e * 4 + f)) → (∀ f, f < 4 → (sk f).toInt ≤ (sk' f).toInt) → (goS pl kd nf e wk k a (sk, db, c, w)).2.2 = (goS pl kd nf e wk k a (sk', db', c, w)).2.2 ∧ (∀ f, f < 4 → ((goS pl kd nf e wk k a (sk, db, c, w)).1 f).toInt ≤ ((goS pl kd nf e wk k a (sk', db', c, w)).1 f).toInt)
  | 0, a, sk, db, sk', db', c, w, h, h', hr, hs => ⟨rfl, hs⟩
  | k + 1, a, sk, db, sk', db', c, w, h, h', hr, hs => by
    have hn : nrO pl db e a nf = nrO pl db' e a nf := nrO_congr nf (fun f hf => hr f (by omega))
    unfold goS
    dsimp only
    rw [← hn]
    cases ho : (nrO pl db e a nf).1 with
    | none => exact ⟨rfl, hs⟩
    | some f =>
      have hf := nrO_lt pl db e a nf f ho
      dsimp only
      by_cases c1 : ¬ kd e = nI 1 ∧ ¬ w + absI (pl f - a) ≤ wk
      · rw [if_pos c1, if_pos c1]
        exact ⟨rfl, hs⟩
      · rw [if_neg c1, if_neg c1]
        unfold stepS
        dsimp only
        refine go_mono hnf he k (pl f) _ _ _ _ _ _ (okS_step h hnf he hf) (okS_step h' hnf he hf) (fun j hj => ?_) (fun j hj => ?_)
        · by_cases d : j = f
          · subst d; rw [pk_us, pk_us]
          · rw [pk_un (by omega), pk_un (by omega)]; exact hr j hj
        · by_cases d : j = f
          · subst d
            rw [pk_us, pk_us, (cap_rI (h.1 j hj) (h.2.1 e j he hj)).2, (cap_rI (h'.1 j hj) (h'.2.1 e j he hj)).2, hr j hj]
            have := hs j hj
            omega
          · rw [pk_un d, pk_un d]; exact hs j hj
theorem go_infl {pl kd : Nat → Int32} {nf e : Nat} {wk : Int32} (hnf : nf ≤ 4) (he : e < 5) : ∀ (k : Nat) (a : Int32) (sk db : Nat → Int32) (c w : Int32), okS nf sk db → ∀ f, f < 4 → (sk f).toInt ≤ ((goS pl kd nf e wk k a (sk, db, c, w)).1 f).toInt
  | 0, a, sk, db, c, w, h, j, hj => Int.le_refl _
  | k + 1, a, sk, db, c, w, h, j, hj => by
    unfold goS
    dsimp only
    cases ho : (nrO pl db e a nf).1 with
    | none => exact Int.le_refl _
    | some f =>
      have hf := nrO_lt pl db e a nf f ho
      dsimp only
      split
      · exact Int.le_refl _
      · unfold stepS
        dsimp only
        refine Int.le_trans ?_ (go_infl hnf he k (pl f) _ _ _ _ (okS_step h hnf he hf) j hj)
        by_cases d : j = f
        · subst d
          have h1 := h.1 j hj
          have h2 := h.2.1 e j he hj
          rw [pk_us, (cap_rI h1 h2).2]
          unfold rI at h1 h2
          omega
        · rw [pk_un d]; exact Int.le_refl _
