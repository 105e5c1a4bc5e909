/-! the reference's functions are the class's: nearest fields, one's going -/
def rI (x : Int32) (n : Int) : Prop := 0 ≤ x.toInt ∧ x.toInt ≤ n
theorem rI_0 {n : Int} (h : 0 ≤ n) : rI (nI 0) n := by
  unfold rI
  rw [show (nI 0).toInt = 0 from by decide]
  omega
theorem j_add {x y : Int32} (h1 : -2147483648 ≤ x.toInt + y.toInt) (h2 : x.toInt + y.toInt < 2147483648) : (x + y).toInt = x.toInt + y.toInt := by
  rw [Int32.toInt_add]
  exact Int.bmod_eq_of_le (by omega) (by omega)
theorem j_sub {x y : Int32} (h1 : -2147483648 ≤ x.toInt - y.toInt) (h2 : x.toInt - y.toInt < 2147483648) : (x - y).toInt = x.toInt - y.toInt := by
  rw [Int32.toInt_sub]
  exact Int.bmod_eq_of_le (by omega) (by omega)
theorem z_t : (0 : Int32).toInt = 0 := by decide
theorem n0_t : (nI 0).toInt = 0 := by decide
theorem n1_t : (nI 1).toInt = 1 := by decide
theorem n99_t : (nI 99).toInt = 99 := by decide
theorem ab_t {x y : Int32} (hx : rI x 9) (hy : rI y 9) : ((absI (x - y)).toInt = x.toInt - y.toInt ∧ y.toInt ≤ x.toInt) ∨ ((absI (x - y)).toInt = y.toInt - x.toInt ∧ x.toInt < y.toInt) := by
  unfold rI at hx hy
  have h1 : (x - y).toInt = x.toInt - y.toInt := j_sub (by omega) (by omega)
  unfold absI
  by_cases c : 0 ≤ x - y
  · rw [if_pos c]
    rw [Int32.le_iff_toInt_le, z_t] at c
    omega
  · rw [if_neg c]
    rw [Int32.le_iff_toInt_le, z_t] at c
    have h2 : (0 - (x - y)).toInt = (0 : Int32).toInt - (x - y).toInt := j_sub (by rw [z_t]; omega) (by rw [z_t]; omega)
    rw [z_t] at h2
    omega
theorem ab_rI {x y : Int32} (hx : rI x 9) (hy : rI y 9) : rI (absI (x - y)) 9 := by
  have := ab_t hx hy
  unfold rI at hx hy ⊢
  omega
theorem ap_ab {x y : Int32} (hx : rI x 9) (hy : rI y 9) : apI y x = absI (x - y) := by
  have h := ab_t hx hy
  unfold rI at hx hy
  apply Int32.toInt_inj.mp
  unfold apI
  by_cases c : y < x
  · rw [if_pos c]
    rw [Int32.lt_iff_toInt_lt] at c
    have h1 : (x - y).toInt = x.toInt - y.toInt := j_sub (by omega) (by omega)
    omega
  · rw [if_neg c]
    rw [Int32.lt_iff_toInt_lt] at c
    have h1 : (y - x).toInt = y.toInt - x.toInt := j_sub (by omega) (by omega)
    omega
/-- the first of the nearest between m and n -/
def isN (o : Nat → Prop) (d : Nat → Int) (m n : Nat) (r : Option Nat) : Prop := match r with
  | none => ∀ j, m ≤ j → j < n → ¬ o j
  | some f => (m ≤ f ∧ f < n) ∧ o f ∧ ∀ j, m ≤ j → j < n → o j → d f ≤ d j ∧ (d j = d f → f ≤ j)
theorem isN_uniq {o : Nat → Prop} {d : Nat → Int} {m n : Nat} {r s : Option Nat} (h1 : isN o d m n r) (h2 : isN o d m n s) : r = s := by
  cases r with
  | none =>
    cases s with
    | none => rfl
    | some k => exact absurd h2.2.1 (h1 k h2.1.1 h2.1.2)
  | some f =>
    cases s with
    | none => exact absurd h1.2.1 (h2 f h1.1.1 h1.1.2)
    | some k =>
      have a := h1.2.2 k h2.1.1 h2.1.2 h2.2.1
      have b := h2.2.2 f h1.1.1 h1.1.2 h1.2.1
      have e : d f = d k := by omega
      have := a.2 e.symm
      have := b.2 e
      rw [show f = k by omega]
theorem nrO_is (pl db : Nat → Int32) (e : Nat) (a : Int32) : ∀ n, (∀ f, f < n → rI (absI (pl f - a)) 9) → isN (fun f => ¬ db (e * 4 + f) ≤ 0) (fun f => (absI (pl f - a)).toInt) 0 n (nrO pl db e a n).1 ∧ (match (nrO pl db e a n).1 with | none => (nrO pl db e a n).2.toInt = 10 | some f => (nrO pl db e a n).2 = absI (pl f - a))
  | 0, _ => ⟨fun j _ h => absurd h (Nat.not_lt_zero _), by show (nI 10).toInt = 10; decide⟩
  | n + 1, hd => by
    have ih := nrO_is pl db e a n (fun f hf => hd f (by omega))
    have h9 := hd n (by omega)
    unfold rI at h9
    unfold nrO
    by_cases c : ¬ db (e * 4 + n) ≤ 0 ∧ ¬ (nrO pl db e a n).2 ≤ absI (pl n - a)
    · rw [if_pos c]
      refine ⟨⟨⟨Nat.zero_le _, by omega⟩, c.1, ?_⟩, rfl⟩
      intro j _ hj oj
      have c2 := c.2
      rw [Int32.le_iff_toInt_le] at c2
      by_cases hjn : j = n
      · subst hjn
        exact ⟨Int.le_refl _, fun _ => Nat.le_refl _⟩
      · cases hq : (nrO pl db e a n).1 with
        | none =>
          rw [hq] at ih
          exact absurd oj (ih.1 j (Nat.zero_le _) (by omega))
        | some k =>
          rw [hq] at ih
          have h3 := ih.1.2.2 j (Nat.zero_le _) (by omega) oj
          have h4 : (nrO pl db e a n).2 = absI (pl k - a) := ih.2
          rw [h4] at c2
          dsimp only at h3 ⊢
          omega
    · rw [if_neg c]
      refine ⟨?_, ih.2⟩
      have ih1 := ih.1
      have ih2 := ih.2
      cases hq : (nrO pl db e a n).1 with
      | none =>
        rw [hq] at ih1 ih2
        have ih2 : (nrO pl db e a n).2.toInt = 10 := ih2
        intro j _ hj oj
        by_cases hjn : j = n
        · subst hjn
          refine c ⟨oj, ?_⟩
          rw [Int32.le_iff_toInt_le]
          omega
        · exact ih1 j (Nat.zero_le _) (by omega) oj
      | some k =>
        rw [hq] at ih1 ih2
        have ih2 : (nrO pl db e a n).2 = absI (pl k - a) := ih2
        refine ⟨⟨Nat.zero_le _, by have := ih1.1.2; omega⟩, ih1.2.1, ?_⟩
        intro j _ hj oj
        by_cases hjn : j = n
        · subst hjn
          have : (nrO pl db e a j).2 ≤ absI (pl j - a) := Classical.byContradiction (fun q => c ⟨oj, q⟩)
          rw [ih2, Int32.le_iff_toInt_le] at this
          have := ih1.1.2
          exact ⟨by assumption, fun _ => by omega⟩
        · exact ih1.2.2 j (Nat.zero_le _) (by omega) oj
theorem nmS_is (pl q : Nat → Int32) (e : Nat) (a : Int32) (n : Nat) : ∀ k, k ≤ n → isN (fun f => ¬ q (8 + 4 * e + f) ≤ 0) (fun f => (apI a (pl f)).toInt) (n - k) n (nmS pl q e a n k)
  | 0, _ => fun j h1 h2 => by omega
  | k + 1, hk => by
    have ih := nmS_is pl q e a n k (by omega)
    unfold nmS
    generalize hf : n - 1 - k = f
    by_cases c : ¬ q (8 + 4 * e + f) ≤ 0 ∧ nmC pl a (nmS pl q e a n k) f = true
    · rw [if_pos c]
      refine ⟨⟨by omega, by omega⟩, c.1, ?_⟩
      intro j h1 h2 oj
      by_cases hjf : j = f
      · subst hjf
        exact ⟨Int.le_refl _, fun _ => Nat.le_refl _⟩
      · have c2 := c.2
        cases hq : nmS pl q e a n k with
        | none =>
          rw [hq] at ih
          exact absurd oj (ih j (by omega) h2)
        | some m =>
          rw [hq] at ih c2
          have h3 := ih.2.2 j (by omega) h2 oj
          have c3 : (!decide (apI a (pl m) < apI a (pl f))) = true := c2
          rw [Bool.not_eq_true', decide_eq_false_iff_not, Int32.lt_iff_toInt_lt] at c3
          dsimp only at h3 ⊢
          omega
    · rw [if_neg c]
      cases hq : nmS pl q e a n k with
      | none =>
        rw [hq] at ih
        intro j h1 h2 oj
        by_cases hjf : j = f
        · subst hjf
          exact c ⟨oj, by rw [hq]; rfl⟩
        · exact ih j (by omega) h2 oj
      | some m =>
        rw [hq] at ih
        refine ⟨⟨by have := ih.1.1; omega, ih.1.2⟩, ih.2.1, ?_⟩
        intro j h1 h2 oj
        by_cases hjf : j = f
        · subst hjf
          have c3 : ¬ nmC pl a (some m) j = true := fun w => c ⟨oj, by rw [hq]; exact w⟩
          have c4 : ¬ (!decide (apI a (pl m) < apI a (pl j))) = true := c3
          rw [Bool.not_eq_true', decide_eq_false_iff_not, Classical.not_not, Int32.lt_iff_toInt_lt] at c4
          exact ⟨by dsimp only; omega, fun w => by dsimp only at w; omega⟩
        · exact ih.2.2 j (by omega) h2 oj
theorem isN_congr {o o' : Nat → Prop} {d d' : Nat → Int} {m n : Nat} {r : Option Nat} (ho : ∀ j, j < n → (o j ↔ o' j)) (hd : ∀ j, j < n → d j = d' j) (h : isN o d m n r) : isN o' d' m n r := by
  cases r with
  | none => exact fun j h1 h2 oj => h j h1 h2 ((ho j h2).mpr oj)
  | some f =>
    refine ⟨h.1, (ho f h.1.2).mp h.2.1, fun j h1 h2 oj => ?_⟩
    have := h.2.2 j h1 h2 ((ho j h2).mpr oj)
    rw [hd j h2, hd f h.1.2] at this
    exact this
theorem nm_nr {pl q db : Nat → Int32} {e nf : Nat} {a : Int32} (ha : rI a 9) (hp : ∀ f, f < nf → rI (pl f) 9) (hq : ∀ f, f < nf → q (8 + 4 * e + f) = db (e * 4 + f)) : nmS pl q e a nf nf = (nrO pl db e a nf).1 := by
  have h1 := nmS_is pl q e a nf nf (Nat.le_refl _)
  rw [Nat.sub_self] at h1
  have h2 := (nrO_is pl db e a nf (fun f hf => ab_rI (hp f hf) ha)).1
  refine isN_uniq (isN_congr (fun j hj => ?_) (fun j hj => ?_) h1) h2
  · rw [hq j hj]
  · rw [ap_ab (hp j hj) ha]
/-- a page is the same as loaves, seed, debts, year -/
def pg (q lo sk db : Nat → Int32) (yr : Int32) : Prop := (∀ f, f < 4 → q f = lo f) ∧ (∀ f, f < 4 → q (4 + f) = sk f) ∧ (∀ e f, e < 5 → f < 4 → q (8 + 4 * e + f) = db (e * 4 + f)) ∧ q 28 = yr
theorem st_pg {q lo sk db : Nat → Int32} {yr : Int32} (h : pg q lo sk db yr) {e f : Nat} (he : e < 5) (hf : f < 4) : pg (stP q e f) lo (upd sk f (capI (sk f + db (e * 4 + f)))) (upd db (e * 4 + f) (nI 0)) yr := by
  unfold stP
  refine ⟨fun k hk => ?_, fun k hk => ?_, fun e' k he' hk => ?_, ?_⟩
  · rw [pk_un (by omega), pk_un (by omega)]; exact h.1 k hk
  · rw [pk_un (by omega)]
    by_cases c : k = f
    · subst c
      rw [pk_us, pk_us, h.2.1 k hk, h.2.2.1 e k he hk]
    · rw [pk_un (by omega), pk_un c]; exact h.2.1 k hk
  · by_cases c : 8 + 4 * e' + k = 8 + 4 * e + f
    · rw [c, pk_us, show e' * 4 + k = e * 4 + f by omega, pk_us]
    · rw [pk_un c, pk_un (by omega), pk_un (by omega)]; exact h.2.2.1 e' k he' hk
  · rw [pk_un (by omega), pk_un (by omega)]; exact h.2.2.2
theorem gs_eq {pl kd : Nat → Int32} {nf e : Nat} {wk : Int32} {lo : Nat → Int32} {yr : Int32} {W : Int} (hnf : nf ≤ 4) (he : e < 5) (hp : ∀ f, f < nf → rI (pl f) 9) (hW : (W = wk.toInt ∧ rI wk 9) ∨ (W = 1000 ∧ wk = nI 99)) : ∀ (k : Nat) (a y : Int32) (q sk db : Nat → Int32) (c w : Int32), k ≤ 4 → rI a 9 → pg q lo sk db yr → (0 ≤ w.toInt ∧ w.toInt ≤ 9 * (4 - (k : Int))) → y.toInt = W - w.toInt → (gsP pl kd nf e k a y (q, c, w)).2.1 = (goS pl kd nf e wk k a (sk, db, c, w)).2.2.1 ∧ (gsP pl kd nf e k a y (q, c, w)).2.2 = (goS pl kd nf e wk k a (sk, db, c, w)).2.2.2 ∧ pg (gsP pl kd nf e k a y (q, c, w)).1 lo (goS pl kd nf e wk k a (sk, db, c, w)).1 (goS pl kd nf e wk k a (sk, db, c, w)).2.1 yr
  | 0, a, y, q, sk, db, c, w, hk, ha, hq, hw, hy => ⟨rfl, rfl, hq⟩
  | k + 1, a, y, q, sk, db, c, w, hk, ha, hq, hw, hy => by
    have hn : nmS pl q e a nf nf = (nrO pl db e a nf).1 := nm_nr ha hp (fun f hf => hq.2.2.1 e f he (by omega))
    unfold gsP goS
    dsimp only
    rw [hn]
    cases ho : (nrO pl db e a nf).1 with
    | none => exact ⟨rfl, rfl, hq⟩
    | some f =>
      have hf := nrO_lt pl db e a nf f ho
      dsimp only
      have hab := ap_ab (hp f hf) ha
      have hr := ab_rI (hp f hf) ha
      rw [hab]
      generalize hd : absI (pl f - a) = d at hr ⊢
      unfold rI at hr
      have h1 : (w + d).toInt = w.toInt + d.toInt := j_add (by omega) (by omega)
      have hc : (kd e = nI 1 ∨ d ≤ y) ↔ ¬ (¬ kd e = nI 1 ∧ ¬ w + d ≤ wk) := by
        rw [Int32.le_iff_toInt_le, Int32.le_iff_toInt_le, h1, hy]
        have h5 : d.toInt ≤ W - w.toInt ↔ w.toInt + d.toInt ≤ wk.toInt := by
          rcases hW with ⟨e1, e2⟩ | ⟨e1, e2⟩
          · omega
          · rw [e2, n99_t]
            omega
        rw [h5]
        constructor
        · rintro (h | h) ⟨h2, h3⟩
          · exact h2 h
          · exact h3 h
        · intro h
          by_cases h2 : kd e = nI 1
          · exact Or.inl h2
          · exact Or.inr (Classical.byContradiction fun h3 => h ⟨h2, h3⟩)
      by_cases hs : ¬ kd e = nI 1 ∧ ¬ w + d ≤ wk
      · rw [if_pos hs, if_neg (fun q => hc.mp q hs)]
        exact ⟨rfl, rfl, hq⟩
      · rw [if_neg hs, if_pos (hc.mpr hs)]
        have hy2 : (y - d).toInt = y.toInt - d.toInt := j_sub (by rcases hW with ⟨e1, e2⟩ | ⟨e1, e2⟩ <;> unfold rI at * <;> omega) (by rcases hW with ⟨e1, e2⟩ | ⟨e1, e2⟩ <;> unfold rI at * <;> omega)
        have := gs_eq (kd := kd) hnf he hp hW k (pl f) (y - d) (stP q e f) (upd sk f (capI (sk f + db (e * 4 + f)))) (upd db (e * 4 + f) (nI 0)) (c ||| nI (2 ^ f)) (w + d) (by omega) (hp f hf) (st_pg hq he (by omega)) (by omega) (by omega)
        unfold stepS
        dsimp only
        rw [hd]
        exact this
theorem gsI_eq {pl hm kd : Nat → Int32} {nf e : Nat} {wk y : Int32} {q lo sk db : Nat → Int32} {yr : Int32} (hnf : nf ≤ 4) (he : e < 5) (hp : ∀ f, f < nf → rI (pl f) 9) (hh : rI (hm e) 9) (hW : (y = wk ∧ rI wk 9) ∨ (y = nI 1000 ∧ wk = nI 99)) (hq : pg q lo sk db yr) : (gsI pl hm kd nf e y q).2.1 = (sendS pl hm kd nf e wk sk db).2.2.1 ∧ (gsI pl hm kd nf e y q).2.2 = (sendS pl hm kd nf e wk sk db).2.2.2 ∧ pg (gsI pl hm kd nf e y q).1 lo (sendS pl hm kd nf e wk sk db).1 (sendS pl hm kd nf e wk sk db).2.1 yr := by
  have hy : y.toInt = y.toInt - (nI 0).toInt := by rw [n0_t]; omega
  refine gs_eq (wk := wk) (W := y.toInt) hnf he hp ?_ 4 (hm e) y q sk db (nI 0) (nI 0) (Nat.le_refl _) hh hq (by rw [n0_t]; omega) hy
  rcases hW with ⟨e1, e2⟩ | ⟨e1, e2⟩
  · exact Or.inl ⟨by rw [e1], e2⟩
  · exact Or.inr ⟨by rw [e1]; decide, e2⟩
