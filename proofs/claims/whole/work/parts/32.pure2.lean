/-! marches, seed, harvests, loaves taken -/
theorem bitsN_congr {b c : Nat → Bool} : ∀ n, (∀ k, k < n → b k = c k) → bitsN b n = bitsN c n
  | 0, _ => rfl
  | n + 1, h => by
    unfold bitsN
    rw [bitsN_congr n (fun k hk => h k (by omega)), h n (by omega)]
theorem tb_iff (x k : Nat) : x / 2 ^ k % 2 = 1 ↔ x.testBit k = true := by
  rw [Nat.testBit_eq_decide_div_mod_eq, decide_eq_true_eq]
theorem bitsN_tb (b : Nat → Bool) : ∀ n k, (bitsN b n).testBit k = (decide (k < n) && b k)
  | 0, k => by
    show (0 : Nat).testBit k = _
    simp
  | n + 1, k => by
    unfold bitsN
    rw [Nat.testBit_or, bitsN_tb b n k]
    by_cases hb : b n = true
    · rw [if_pos hb, Nat.testBit_two_pow]
      by_cases c : n = k
      · subst c
        simp [hb]
      · have e : decide (k < n + 1) = decide (k < n) := by rw [decide_eq_decide]; omega
        rw [e, decide_eq_false c, Bool.or_false]
    · rw [if_neg hb, Nat.zero_testBit, Bool.or_false]
      by_cases c : n = k
      · subst c
        rw [Bool.not_eq_true] at hb
        simp [hb]
      · have e : decide (k < n + 1) = decide (k < n) := by rw [decide_eq_decide]; omega
        rw [e]
theorem bitsN_at (b : Nat → Bool) {n k : Nat} (h : k < n) : decide (bitsN b n / 2 ^ k % 2 = 1) = b k := by
  rw [← Nat.testBit_eq_decide_div_mod_eq, bitsN_tb, decide_eq_true h, Bool.true_and]
theorem sw_eq {nd q lo sk db : Nat → Int32} {yr : Int32} {nf : Nat} (hnf : nf ≤ 4) (hq : pg q lo sk db yr) : swP nd q nf = bitsN (isSw nd sk) nf := by
  refine bitsN_congr nf (fun k hk => ?_)
  show (!decide (q (4 + k) < nd k)) = (!decide (sk k < nd k))
  rw [hq.2.1 k (by omega)]
/-- what holds of a country -/
def okL (L : L8) : Prop := L.1 ≤ 4 ∧ L.2.1 ≤ 5 ∧ (∀ f, f < L.1 → rI (L.2.2.1 f) 9 ∧ rI (L.2.2.2.1 f) 9) ∧ (∀ e, e < L.2.1 → rI (L.2.2.2.2.2.1 e) 9 ∧ rI (L.2.2.2.2.2.2.1 e) 9)
theorem mr_eq {pl hm wk kd : Nat → Int32} {nf ne x x' : Nat} {q r lo sk db vi wy : Nat → Int32} {yr w : Int32} (hnf : nf ≤ 4) (hne : ne ≤ 5) (hp : ∀ f, f < nf → rI (pl f) 9) (hh : ∀ e, e < ne → rI (hm e) 9 ∧ rI (wk e) 9) (hx : ∀ e, e < ne → (x / 2 ^ e % 2 = 1 ↔ x' / 2 ^ e % 2 = 1)) (hq : pg q lo sk db yr) : ∀ n, n ≤ ne → pg (mrP pl hm wk kd nf x (q, r, w) n).1 lo (marS pl hm wk kd nf x' (sk, db, vi, wy) n).1 (marS pl hm wk kd nf x' (sk, db, vi, wy) n).2.1 yr ∧ (∀ e, e < n → x / 2 ^ e % 2 = 1 → (mrP pl hm wk kd nf x (q, r, w) n).2.1 e = (marS pl hm wk kd nf x' (sk, db, vi, wy) n).2.2.2 e)
  | 0, _ => ⟨hq, fun e he => absurd he (Nat.not_lt_zero _)⟩
  | n + 1, hn => by
    have ih := mr_eq (kd := kd) (r := r) (w := w) (vi := vi) (wy := wy) hnf hne hp hh hx hq n (by omega)
    have hxn := hx n (by omega)
    have hg := gsI_eq (kd := kd) (y := wk n) hnf (show n < 5 by omega) hp (hh n (by omega)).1 (Or.inl ⟨rfl, (hh n (by omega)).2⟩) ih.1
    unfold mrP marS
    by_cases c : x / 2 ^ n % 2 = 1
    · rw [if_pos c, if_pos (hxn.mp c)]
      unfold putS
      refine ⟨hg.2.2, fun e he hb => ?_⟩
      dsimp only
      by_cases ce : e = n
      · subst ce
        rw [pk_us, pk_us]
        exact hg.2.1
      · rw [pk_un ce, pk_un ce, pk_un ce]
        exact ih.2 e (by omega) hb
    · rw [if_neg c, if_neg (fun h => c (hxn.mpr h))]
      refine ⟨ih.1, fun e he hb => ?_⟩
      dsimp only
      by_cases ce : e = n
      · subst ce
        exact absurd hb c
      · rw [pk_un ce]
        exact ih.2 e (by omega) hb
theorem b31 : ∀ n, n ≤ 5 → ∀ e, e < n → (31 / 2 ^ e % 2 = 1 ↔ (2 ^ n - 1) / 2 ^ e % 2 = 1) := by decide
/-- a march in both -/
theorem mq_eq {L : L8} {c : Cm} {q : Nat → Int32} {x x' : Nat} (hL : okL L) (hx : ∀ e, e < L.2.1 → (x / 2 ^ e % 2 = 1 ↔ x' / 2 ^ e % 2 = 1)) (hq : pg q c.1 c.2.1 c.2.2.1 c.2.2.2.1) : pg (mqP L.2.2.1 L.2.2.2.2.2.1 L.2.2.2.2.2.2.1 L.2.2.2.2.2.2.2 L.1 x q L.2.1) (marC L x' c).1 (marC L x' c).2.1 (marC L x' c).2.2.1 (marC L x' c).2.2.2.1 :=
  (mr_eq (kd := L.2.2.2.2.2.2.2) (r := z0) (w := nI 0) (vi := c.2.2.2.2.1) (wy := c.2.2.2.2.2) hL.1 hL.2.1 (fun f hf => (hL.2.2.1 f hf).1) hL.2.2.2 hx hq L.2.1 (Nat.le_refl _)).1
theorem mq_all {L : L8} {c : Cm} {q : Nat → Int32} (hL : okL L) (hq : pg q c.1 c.2.1 c.2.2.1 c.2.2.2.1) : pg (mqP L.2.2.1 L.2.2.2.2.2.1 L.2.2.2.2.2.2.1 L.2.2.2.2.2.2.2 L.1 31 q L.2.1) (marC L (allN L) c).1 (marC L (allN L) c).2.1 (marC L (allN L) c).2.2.1 (marC L (allN L) c).2.2.2.1 := mq_eq hL (b31 L.2.1 hL.2.1) hq
theorem fa_eqC {L : L8} {c : Cm} {q : Nat → Int32} (hL : okL L) (hq : pg q c.1 c.2.1 c.2.2.1 c.2.2.2.1) {e : Nat} (he : e < L.2.1) : faP L.2.2.1 L.2.2.2.2.2.1 L.2.2.2.2.2.2.1 L.2.2.2.2.2.2.2 L.1 31 q L.2.1 e = (marC L (allN L) c).2.2.2.2.2 e := by
  have h31 : 31 / 2 ^ e % 2 = 1 := (b31 L.2.1 hL.2.1 e he).mpr (allN_bit hL.2.1 he)
  exact (mr_eq (kd := L.2.2.2.2.2.2.2) (r := z0) (w := nI 0) (vi := c.2.2.2.2.1) (wy := c.2.2.2.2.2) hL.1 hL.2.1 (fun f hf => (hL.2.2.1 f hf).1) hL.2.2.2 (b31 L.2.1 hL.2.1) hq L.2.1 (Nat.le_refl _)).2 e he h31
/-- what is sown in both, some having come -/
theorem swm_eq {L : L8} {c : Cm} {q : Nat → Int32} {x x' : Nat} (hL : okL L) (hx : ∀ e, e < L.2.1 → (x / 2 ^ e % 2 = 1 ↔ x' / 2 ^ e % 2 = 1)) (hq : pg q c.1 c.2.1 c.2.2.1 c.2.2.2.1) : swP L.2.2.2.2.1 (mqP L.2.2.1 L.2.2.2.2.2.1 L.2.2.2.2.2.2.1 L.2.2.2.2.2.2.2 L.1 x q L.2.1) L.1 = swN L x' c.2.1 c.2.2.1 := by
  rw [sw_eq hL.1 (mq_eq hL hx hq)]
  exact swN_eq L x' c.1 c.2.1 c.2.2.1 c.2.2.2.1 c.2.2.2.2.1 c.2.2.2.2.2
/-- harvests -/
theorem reapS_sk (yl nd lo sk : Nat → Int32) : ∀ n k, n ≤ k → (reapS yl nd lo sk n).2 k = sk k ∧ (reapS yl nd lo sk n).1 k = lo k
  | 0, k, _ => ⟨rfl, rfl⟩
  | n + 1, k, h => by
    have ih := reapS_sk yl nd lo sk n k (by omega)
    unfold reapS
    refine ⟨?_, ?_⟩
    · dsimp only
      rw [pk_un (by omega)]
      exact ih.1
    · dsimp only
      split
      · rw [pk_un (by omega)]; exact ih.2
      · exact ih.2
theorem hv_eq {yl nd q lo sk db : Nat → Int32} {yr : Int32} {nf : Nat} (hnf : nf ≤ 4) (hq : pg q lo sk db yr) : ∀ n, n ≤ nf → pg (hvP yl q (swP nd q nf) n) (reapS yl nd lo sk n).1 (reapS yl nd lo sk n).2 db yr
  | 0, _ => hq
  | n + 1, hn => by
    have ih := hv_eq (yl := yl) (nd := nd) hnf hq n (by omega)
    have hb : decide (swP nd q nf / 2 ^ n % 2 = 1) = isSw nd (reapS yl nd lo sk n).2 n := by
      rw [sw_eq hnf hq, bitsN_at _ (show n < nf by omega)]
      unfold isSw
      rw [(reapS_sk yl nd lo sk n n (Nat.le_refl _)).1]
    have hlo : (hvP yl q (swP nd q nf) n) n = (reapS yl nd lo sk n).1 n := ih.1 n (by omega)
    unfold reapS
    refine ⟨fun f hf => ?_, fun f hf => ?_, fun e f he hf => ?_, ?_⟩
    · show upd (upd _ n _) (4 + n) _ f = (if isSw nd (reapS yl nd lo sk n).2 n = true then upd (reapS yl nd lo sk n).1 n (capI ((reapS yl nd lo sk n).1 n + yl n)) else (reapS yl nd lo sk n).1) f
      rw [pk_un (by omega)]
      by_cases c : f = n
      · subst c
        rw [pk_us, hlo]
        by_cases s : isSw nd (reapS yl nd lo sk f).2 f = true
        · rw [if_pos s, if_pos (of_decide_eq_true (hb.trans s)), pk_us]
        · rw [if_neg s, if_neg (fun w => s (by rw [← hb]; exact decide_eq_true w))]
      · rw [pk_un c]
        split
        · rw [pk_un c]; exact ih.1 f hf
        · exact ih.1 f hf
    · show upd (upd _ n _) (4 + n) _ (4 + f) = upd _ n _ f
      by_cases c : f = n
      · subst c
        rw [pk_us, pk_us]
      · rw [pk_un (by omega), pk_un (by omega), pk_un c]
        exact ih.2.1 f hf
    · show upd (upd _ n _) (4 + n) _ (8 + 4 * e + f) = _
      rw [pk_un (by omega), pk_un (by omega)]
      exact ih.2.2.1 e f he hf
    · show upd (upd _ n _) (4 + n) _ 28 = _
      rw [pk_un (by omega), pk_un (by omega)]
      exact ih.2.2.2
theorem hvC_eq {L : L8} {c : Cm} {q : Nat → Int32} (hL : okL L) (hq : pg q c.1 c.2.1 c.2.2.1 c.2.2.2.1) : pg (hvQ L.2.2.2.1 L.2.2.2.2.1 q L.1) (reapC L c).1 (reapC L c).2.1 (reapC L c).2.2.1 (reapC L c).2.2.2.1 := by
  have h := hv_eq (yl := L.2.2.2.1) (nd := L.2.2.2.2.1) hL.1 hq L.1 (Nat.le_refl _)
  unfold hvQ reapC
  refine ⟨fun f hf => ?_, fun f hf => ?_, fun e f he hf => ?_, ?_⟩
  · rw [pk_un (by omega)]; exact h.1 f hf
  · rw [pk_un (by omega)]; exact h.2.1 f hf
  · rw [pk_un (by omega)]; exact h.2.2.1 e f he hf
  · rw [pk_us, h.2.2.2]
/-- what holds of loaves, seed and debts -/
def okP (L : L8) (c : Cm) : Prop := (∀ f, f < 4 → rI (c.1 f) 99 ∧ rI (c.2.1 f) 99) ∧ (∀ e f, e < 5 → f < 4 → rI (c.2.2.1 (e * 4 + f)) 99) ∧ (∀ f, L.1 ≤ f → f < 4 → c.1 f = nI 0 ∧ c.2.1 f = nI 0) ∧ (∀ e f, e < 5 → f < 4 → L.1 ≤ f → c.2.2.1 (e * 4 + f) = nI 0)
theorem sum_z {f : Nat → Int32} : ∀ n m, n ≤ m → (∀ k, n ≤ k → k < m → f k = nI 0) → sumI f m = sumI f n
  | n, 0, h, _ => by rw [show n = 0 by omega]
  | n, m + 1, h, hz => by
    by_cases c : n = m + 1
    · rw [c]
    · unfold sumI
      rw [hz m (by omega) (by omega), sum_z n m (by omega) (fun k h1 h2 => hz k h1 (by omega))]
      conv => lhs; rw [show nI 0 = 0 from rfl, Int32.add_zero]
      cases n <;> rfl
theorem sum4 (f : Nat → Int32) : sumI f 4 = f 0 + f 1 + f 2 + f 3 := by
  show nI 0 + f 0 + f 1 + f 2 + f 3 = _
  rw [show nI 0 = 0 from rfl, Int32.zero_add]
theorem oa_eq {L : L8} {c : Cm} {q : Nat → Int32} (hL : okL L) (hP : okP L c) (hq : pg q c.1 c.2.1 c.2.2.1 c.2.2.2.1) {e : Nat} (he : e < 5) : oaP q e = debtS c.2.2.1 e L.1 := by
  unfold oaP debtS
  rw [hq.2.2.1 e 0 he (by omega), hq.2.2.1 e 1 he (by omega), hq.2.2.1 e 2 he (by omega), hq.2.2.1 e 3 he (by omega), ← sum_z L.1 4 hL.1 (fun k h1 h2 => hP.2.2.2 e k he h2 h1)]
  exact (sum4 (fun f => c.2.2.1 (e * 4 + f))).symm
theorem lv_eq {L : L8} {c : Cm} {q : Nat → Int32} (hL : okL L) (hP : okP L c) (hq : pg q c.1 c.2.1 c.2.2.1 c.2.2.2.1) : lvP q = sumI c.1 L.1 := by
  unfold lvP
  rw [hq.1 0 (by omega), hq.1 1 (by omega), hq.1 2 (by omega), hq.1 3 (by omega), ← sum_z L.1 4 hL.1 (fun k h1 h2 => (hP.2.2.1 k h1 h2).1)]
  exact (sum4 c.1).symm
theorem sum_rI {f : Nat → Int32} : ∀ n, n ≤ 5 → (∀ k, k < n → rI (f k) 99) → rI (sumI f n) (99 * n)
  | 0, _, _ => by
    unfold rI sumI
    rw [n0_t]
    omega
  | n + 1, hn, h => by
    have ih := sum_rI n (by omega) (fun k hk => h k (by omega))
    have h1 := h n (by omega)
    unfold rI at ih h1 ⊢
    unfold sumI
    rw [j_add (by omega) (by omega)]
    omega
theorem ce_eq {L : L8} {c : Cm} {q : Nat → Int32} (hL : okL L) (hP : okP L c) (hq : pg q c.1 c.2.1 c.2.2.1 c.2.2.2.1) {e f : Nat} (he : e < 5) (hf : f < 4) : ceP L.2.2.2.2.2.2.2 q e f = canT L.2.2.2.2.2.2.2 c.1 c.2.2.1 L.1 e f := by
  unfold ceP canT
  rw [hq.1 f hf, oa_eq hL hP hq he]
  congr 1
  have h : rI (debtS c.2.2.1 e L.1) (99 * L.1) := sum_rI L.1 (by have := hL.1; omega) (fun k hk => hP.2.1 e k he (by have := hL.1; omega))
  have hz : decide (debtS c.2.2.1 e L.1 = 0) = decide (debtS c.2.2.1 e L.1 ≤ 0) := by
    rw [decide_eq_decide, Int32.le_iff_toInt_le, ← Int32.toInt_inj, z_t]
    unfold rI at h
    omega
  rw [hz]
  cases decide (L.2.2.2.2.2.2.2 e = nI 3) <;> cases decide (debtS c.2.2.1 e L.1 ≤ 0) <;> rfl
theorem ge_eq {L : L8} {c : Cm} {q : Nat → Int32} (hq : pg q c.1 c.2.1 c.2.2.1 c.2.2.2.1) {e f : Nat} (he : e < 5) (hf : f < 4) : pg (geP L.2.2.2.2.2.2.2 q e f) (takeC L e f c).1 (takeC L e f c).2.1 (takeC L e f c).2.2.1 (takeC L e f c).2.2.2.1 := by
  unfold geP takeC
  refine ⟨fun k hk => ?_, fun k hk => ?_, fun e' k he' hk => ?_, ?_⟩
  · dsimp only
    rw [pk_un (by omega)]
    by_cases d : k = f
    · subst d; rw [pk_us, pk_us, hq.1 k hk]
    · rw [pk_un d, pk_un d]; exact hq.1 k hk
  · dsimp only; rw [pk_un (by omega), pk_un (by omega)]; exact hq.2.1 k hk
  · dsimp only
    by_cases d : 8 + 4 * e' + k = 8 + 4 * e + f
    · rw [d, pk_us, show e' * 4 + k = e * 4 + f by omega, pk_us, pk_un (by omega), hq.2.2.1 e f he hf]
    · rw [pk_un d, pk_un (by omega), pk_un (by omega)]; exact hq.2.2.1 e' k he' hk
  · dsimp only; rw [pk_un (by omega), pk_un (by omega)]; exact hq.2.2.2
