/-! told doings, shares, strangers, rests, chances, years: reference's answers are the class's -/
theorem do_b {L : L8} {c : Cm} {q : Nat → Int32} (hL : okL L) (hP : okP L c) (hq : pg q c.1 c.2.1 c.2.2.1 c.2.2.2.1) {t : Nat} (ht : t < 1000) : doB L.1 L.2.1 L.2.2.2.2.1 L.2.2.2.2.2.2.2 q t = soB L c (t / 100) (t / 10 % 10) (t % 10) := by
  have h5 := hL.2.1
  have h4 := hL.1
  unfold doB soB
  by_cases c0 : t = 0
  · rw [if_pos c0, if_neg (show ¬ (t / 100 < 2 ∧ ¬ (t / 10 % 10 = 0 ∧ t % 10 = 0)) by omega), if_pos (show t / 100 = 0 by omega)]
  · rw [if_neg c0]
    by_cases c1 : t = 100
    · rw [if_pos c1, if_neg (show ¬ (t / 100 < 2 ∧ ¬ (t / 10 % 10 = 0 ∧ t % 10 = 0)) by omega), if_neg (show ¬ t / 100 = 0 by omega), if_pos (show t / 100 = 1 by omega)]
    · rw [if_neg c1]
      by_cases k1 : t / 100 < 2
      · have hz : ¬ (t / 10 % 10 = 0 ∧ t % 10 = 0) := by omega
        rw [if_neg (show ¬ t / 100 = 2 by omega), if_neg (show ¬ t / 100 = 3 by omega), if_neg (show ¬ t / 100 = 4 by omega), decide_eq_false (show ¬ t / 100 = 5 by omega), if_pos ⟨k1, hz⟩, Bool.false_and]
      · rw [if_neg (show ¬ (t / 100 < 2 ∧ ¬ (t / 10 % 10 = 0 ∧ t % 10 = 0)) from fun w => k1 w.1), if_neg (show ¬ t / 100 = 0 by omega), if_neg (show ¬ t / 100 = 1 by omega), et_b hL hP hq]
        by_cases k2 : t / 100 = 2
        · rw [if_pos k2, if_pos k2]
        · rw [if_neg k2, if_neg k2]
          by_cases k3 : t / 100 = 3
          · rw [if_pos k3, if_pos k3]
            cases h : hasN L.1 (nI (t % 10)) with
            | false => rw [Bool.false_and, Bool.false_and]
            | true =>
              have := hasN_lt h (by omega) (by omega)
              rw [sw_eq h4 hq, bitsN_at _ this]
          · rw [if_neg k3, if_neg k3]
            by_cases k4 : t / 100 = 4
            · rw [if_pos k4, if_pos k4]
              cases h : hasN L.1 (nI (t / 10 % 10)) with
              | false => rw [Bool.false_and, Bool.false_and]
              | true =>
                have := hasN_lt h (by omega) (by omega)
                rw [hq.1 _ (by omega)]
            · rw [if_neg k4, if_neg k4]
              by_cases k5 : t / 100 = 5
              · rw [if_pos k5, decide_eq_true k5, Bool.true_and]
                cases h : hasN L.2.1 (nI (t / 10 % 10)) with
                | false => rw [Bool.false_and, Bool.false_and]
                | true =>
                  cases h' : hasN L.1 (nI (t % 10)) with
                  | false => rw [Bool.false_and, Bool.false_and]
                  | true =>
                    have e1 := hasN_lt h (by omega) (by omega)
                    have e2 := hasN_lt h' (by omega) (by omega)
                    rw [hq.2.2.1 _ _ (by omega) (by omega)]
              · rw [if_neg k5, decide_eq_false k5, Bool.false_and]
theorem do_q {L : L8} {c : Cm} {q : Nat → Int32} (hL : okL L) (hP : okP L c) (hq : pg q c.1 c.2.1 c.2.2.1 c.2.2.2.1) {t : Nat} (ht : t < 1000) : pg (doQ L.1 L.2.1 L.2.2.1 L.2.2.2.1 L.2.2.2.2.1 L.2.2.2.2.2.1 L.2.2.2.2.2.2.1 L.2.2.2.2.2.2.2 q t) (soC L c (t / 100) (t / 10 % 10) (t % 10)).1 (soC L c (t / 100) (t / 10 % 10) (t % 10)).2.1 (soC L c (t / 100) (t / 10 % 10) (t % 10)).2.2.1 (soC L c (t / 100) (t / 10 % 10) (t % 10)).2.2.2.1 ∧ okP L (soC L c (t / 100) (t / 10 % 10) (t % 10)) := by
  unfold doQ
  by_cases c0 : t = 0
  · subst c0
    exact ⟨mq_all hL hq, ok_mar hL hP _⟩
  · rw [if_neg c0]
    by_cases c1 : t = 100
    · subst c1
      exact ⟨hvC_eq hL hq, ok_reap hL hP⟩
    · rw [if_neg c1]
      unfold soC
      by_cases k1 : t / 100 < 2
      · have hz : ¬ (t / 10 % 10 = 0 ∧ t % 10 = 0) := by omega
        rw [if_neg (show ¬ t / 100 = 2 by omega), if_pos ⟨k1, hz⟩]
        exact ⟨hq, hP⟩
      · rw [if_neg (show ¬ (t / 100 < 2 ∧ ¬ (t / 10 % 10 = 0 ∧ t % 10 = 0)) from fun w => k1 w.1), if_neg (show ¬ t / 100 = 0 by omega), if_neg (show ¬ t / 100 = 1 by omega)]
        by_cases k2 : t / 100 = 2
        · rw [if_pos k2, if_pos k2]
          exact et_q hL hP hq _ _
        · rw [if_neg k2, if_neg k2]
          exact ⟨hq, hP⟩
theorem jd_eq {L : L8} (hL : okL L) (r k : Nat) : ∀ (m i : Nat) (c : Cm) (q : Nat → Int32), okP L c → pg q c.1 c.2.1 c.2.2.1 c.2.2.2.1 → jdM L.1 L.2.1 L.2.2.1 L.2.2.2.1 L.2.2.2.2.1 L.2.2.2.2.2.1 L.2.2.2.2.2.2.1 L.2.2.2.2.2.2.2 r k m i q = jdS L r k m i c
  | 0, i, c, q, hP, hq => rfl
  | m + 1, i, c, q, hP, hq => by
    have hlt : r / 1000 ^ (k - 1 - i) % 1000 < 1000 := Nat.mod_lt _ (by decide)
    have hd := do_q hL hP hq hlt
    unfold jdM jdS
    rw [do_b hL hP hq hlt, jd_eq hL r k m (i + 1) _ _ hd.2 hd.1]
theorem ju_eq {L : L8} {c : Cm} {q : Nat → Int32} (hL : okL L) (hP : okP L c) (hq : pg q c.1 c.2.1 c.2.2.1 c.2.2.2.1) (y : Int32) (row : Int64) : juM L.1 L.2.1 L.2.2.1 L.2.2.2.1 L.2.2.2.2.1 L.2.2.2.2.2.1 L.2.2.2.2.2.2.1 L.2.2.2.2.2.2.2 q y row = juR L c y row := by
  unfold juM juR
  rw [jd_eq hL _ _ _ _ c q hP hq]
theorem va_eq {L : L8} {c : Cm} {q : Nat → Int32} (hL : okL L) (hq : pg q c.1 c.2.1 c.2.2.1 c.2.2.2.1) (v : Nat) : vaM L.1 L.2.1 L.2.2.1 L.2.2.2.2.1 L.2.2.2.2.2.1 L.2.2.2.2.2.2.1 L.2.2.2.2.2.2.2 q v = bcN (swN L v c.2.1 c.2.2.1) := by
  unfold vaM
  rw [swm_eq hL (fun e he => Iff.rfl) hq]
theorem hmo_M {L : L8} {c : Cm} {q : Nat → Int32} (hL : okL L) (hP : okP L c) (hq : pg q c.1 c.2.1 c.2.2.1 c.2.2.2.1) (e v : Nat) : vaM L.1 L.2.1 L.2.2.1 L.2.2.2.2.1 L.2.2.2.2.2.1 L.2.2.2.2.2.2.1 L.2.2.2.2.2.2.2 q v ≤ vaM L.1 L.2.1 L.2.2.1 L.2.2.2.2.1 L.2.2.2.2.2.1 L.2.2.2.2.2.2.1 L.2.2.2.2.2.2.2 q (v ||| 2 ^ e) := by
  rw [va_eq hL hq, va_eq hL hq]
  exact hmo_ok hL hP e v
theorem shA_eq {L : L8} {c : Cm} {q : Nat → Int32} (hL : okL L) (hq : pg q c.1 c.2.1 c.2.2.1 c.2.2.2.1) (e : Nat) : ∀ v, shMA L.1 L.2.1 L.2.2.1 L.2.2.2.2.1 L.2.2.2.2.2.1 L.2.2.2.2.2.2.1 L.2.2.2.2.2.2.2 q e v = shA L c.2.1 c.2.2.1 e v
  | 0 => rfl
  | v + 1 => by
    unfold shMA shA
    rw [shA_eq hL hq e v]
    have hT : shMT L.1 L.2.1 L.2.2.1 L.2.2.2.2.1 L.2.2.2.2.2.1 L.2.2.2.2.2.2.1 L.2.2.2.2.2.2.2 q e v = shT L c.2.1 c.2.2.1 e v := by
      unfold shMT shT
      rw [va_eq hL hq, va_eq hL hq, Nat.mul_comm, Nat.mul_assoc]
    rw [hT]
    rcases Nat.mod_two_eq_zero_or_one (v / 2 ^ e) with h | h
    · rw [if_neg (by omega), if_pos h]
    · rw [if_pos h, if_neg (by omega)]
theorem sh_eq {L : L8} {c : Cm} {q : Nat → Int32} (hL : okL L) (hq : pg q c.1 c.2.1 c.2.2.1 c.2.2.2.1) (x : Int32) (u : Bool) : shMR L.1 L.2.1 L.2.2.1 L.2.2.2.2.1 L.2.2.2.2.2.1 L.2.2.2.2.2.2.1 L.2.2.2.2.2.2.2 q x u = shR L c.2.1 c.2.2.1 x u := by
  unfold shMR shR
  rw [shA_eq hL hq]
/-- tidings: places and whether one came -/
def okD (cp ci : Nat → Int32) (n : Nat) : Prop := n ≤ 6 ∧ ∀ i, i < n → rI (cp i) 9 ∧ (ci i = nI 0 ∨ ci i = nI 1)
theorem ab_sym {x y : Int32} (hx : rI x 9) (hy : rI y 9) : absI (x - y) = absI (y - x) := by
  have h1 := ab_t hx hy
  have h2 := ab_t hy hx
  apply Int32.toInt_inj.mp
  omega
theorem al_eq {cp ci : Nat → Int32} {n k : Nat} (hk : k < 100) (hD : okD cp ci n) : ∀ m, m ≤ n → (alM cp ci k n = (alM cp ci k (n - m) && allowS cp ci (nI (k / 10)) (nI (k % 10)) m (n - m)))
  | 0, _ => by
    show _ = (alM cp ci k (n - 0) && true)
    rw [Bool.and_true, Nat.sub_zero]
  | m + 1, hm => by
    have ih := al_eq hk hD m (by omega)
    rw [ih, show n - m = (n - (m + 1)) + 1 by omega]
    have hi := hD.2 (n - (m + 1)) (by omega)
    have hd : rI (nI (k / 10)) 9 := by
      unfold rI
      rw [nI_toInt (by omega)]
      omega
    show ((alM cp ci k (n - (m + 1)) && decide (_ = _)) && _) = (_ && (if _ then _ else _))
    rw [Bool.and_assoc]
    congr 1
    have e1 : apI (nI (k / 10)) (cp (n - (m + 1))) = absI (nI (k / 10) - cp (n - (m + 1))) := by rw [ap_ab hi.1 hd, ab_sym hi.1 hd]
    have e2 : bI (decide (ci (n - (m + 1)) = nI 1)) = ci (n - (m + 1)) := by
      rcases hi.2 with h | h <;> rw [h] <;> decide
    rw [e1, e2]
    by_cases c : bI (!decide (nI (k % 10) < absI (nI (k / 10) - cp (n - (m + 1))))) = ci (n - (m + 1))
    · rw [if_pos c, decide_eq_true c, Bool.true_and]
    · rw [if_neg c, decide_eq_false c, Bool.false_and]
theorem al_sg {cp ci : Nat → Int32} {n k : Nat} (hk : k < 100) (hD : okD cp ci n) : alM cp ci k n = sgB cp ci n k := by
  have h := al_eq hk hD n (Nat.le_refl _)
  rw [Nat.sub_self] at h
  rw [h]
  show (true && _) = _
  rw [Bool.true_and]
  rfl
/-- how many, in plain numbers, and the first -/
def bcT (b : Nat → Bool) : Nat → Nat
  | 0 => 0
  | k + 1 => bcT b k + (if b k = true then 1 else 0)
theorem ct_eq {b : Nat → Bool} : ∀ k, ctM b k = nI (bcT b k)
  | 0 => rfl
  | k + 1 => by
    unfold ctM bcT
    rw [ct_eq k]
    exact nI_addb _ _
theorem bcT_le (b : Nat → Bool) : ∀ k, bcT b k ≤ k
  | 0 => Nat.le_refl _
  | k + 1 => by
    have := bcT_le b k
    unfold bcT
    split <;> omega
def foT (b : Nat → Bool) (v : Nat → Nat) : Nat → Option Nat
  | 0 => none
  | k + 1 => if b k = true then (match foT b v k with | none => some (v k) | some w => some w) else foT b v k
theorem fo_0 (b : Nat → Bool) (v : Nat → Nat) : ∀ k, foT b v k = none ↔ bcT b k = 0
  | 0 => ⟨fun _ => rfl, fun _ => rfl⟩
  | k + 1 => by
    have ih := fo_0 b v k
    unfold foT bcT
    by_cases h : b k = true
    · rw [if_pos h, if_pos h]
      cases hq : foT b v k with
      | none => exact Iff.intro (fun w => by cases w) (fun w => by omega)
      | some u => exact Iff.intro (fun w => by cases w) (fun w => by omega)
    · rw [if_neg h, if_neg h]
      exact ih
theorem fs_eq {b : Nat → Bool} {v : Nat → Nat} : ∀ k, k < 1000 → fsM b v k = oI (foT b v k)
  | 0, _ => rfl
  | k + 1, hk => by
    have ih := fs_eq (b := b) (v := v) k (by omega)
    have h0 := fo_0 b v k
    have hl := bcT_le b k
    unfold fsM foT
    rw [ct_eq]
    by_cases h : b k = true
    · rw [if_pos h]
      cases hq : foT b v k with
      | none =>
        rw [if_pos ⟨h, by rw [h0.mp hq]; rfl⟩]
        rfl
      | some w =>
        have hne : ¬ bcT b k = 0 := fun e => by rw [h0.mpr e] at hq; cases hq
        rw [if_neg (fun e => nI_ne0 (by omega) (by omega) e.2), ih, hq]
    · rw [if_neg h, if_neg (fun e => h e.1), ih]
theorem bcT_congr {b c : Nat → Bool} : ∀ n, (∀ k, k < n → b k = c k) → bcT b n = bcT c n
  | 0, _ => rfl
  | n + 1, h => by
    unfold bcT
    rw [bcT_congr n (fun k hk => h k (by omega)), h n (by omega)]
theorem foT_congr {b c : Nat → Bool} {v w : Nat → Nat} : ∀ n, (∀ k, k < n → b k = c k ∧ v k = w k) → foT b v n = foT c w n
  | 0, _ => rfl
  | n + 1, h => by
    unfold foT
    rw [foT_congr n (fun k hk => h k (by omega)), (h n (by omega)).1, (h n (by omega)).2]
theorem sgN_T (cp ci : Nat → Int32) (n : Nat) : ∀ v, sgN cp ci n v = bcT (sgB cp ci n) v
  | 0 => rfl
  | v + 1 => by
    unfold sgN bcT
    rw [sgN_T cp ci n v]
    split <;> rfl
theorem sgO_T (cp ci : Nat → Int32) (n : Nat) : ∀ v, sgO cp ci n v = foT (sgB cp ci n) (fun k => k) v
  | 0 => rfl
  | v + 1 => by
    unfold sgO foT
    rw [sgO_T cp ci n v]
    cases foT (sgB cp ci n) (fun k => k) v <;> rfl
theorem st_eq {cp ci : Nat → Int32} {n : Nat} (hD : okD cp ci n) (x : Int32) : stM cp ci n x = stR cp ci n x := by
  unfold stM stR
  rw [ct_eq, fs_eq 100 (by decide), bcT_congr (c := sgB cp ci n) 100 (fun k hk => al_sg hk hD), foT_congr (c := sgB cp ci n) (w := fun k => k) 100 (fun k hk => ⟨al_sg hk hD, rfl⟩), sgN_T, sgO_T]
/-- rests -/
theorem pp_q {L : L8} {c : Cm} {q : Nat → Int32} (hL : okL L) (hP : okP L c) (hq : pg q c.1 c.2.1 c.2.2.1 c.2.2.2.1) {k a b f : Nat} (hk : k < 4) : rqA L.1 L.2.1 L.2.2.2.2.2.2.2 q k a f = ppA L c k a f ∧ rqB L.1 L.2.1 L.2.2.2.2.2.2.2 q k a b f = ppB L c k a b f ∧ pg (rqD L.1 L.2.1 L.2.2.2.2.2.2.2 q k a b f) (ppC2 L c k a b f).1 (ppC2 L c k a b f).2.1 (ppC2 L c k a b f).2.2.1 (ppC2 L c k a b f).2.2.2.1 ∧ okP L (ppC2 L c k a b f) := by
  have e1 : (1 < k) ↔ k / 2 ^ 1 = 1 := by omega
  have h1 : rqA L.1 L.2.1 L.2.2.2.2.2.2.2 q k a f = ppA L c k a f := by
    unfold rqA ppA
    rw [et_b hL hP hq, decide_eq_decide.mpr e1]
  have h2 : pg (rqC L.1 L.2.1 L.2.2.2.2.2.2.2 q k a f) (ppC1 L c k a f).1 (ppC1 L c k a f).2.1 (ppC1 L c k a f).2.2.1 (ppC1 L c k a f).2.2.2.1 ∧ okP L (ppC1 L c k a f) := by
    unfold rqC ppC1
    by_cases h : 1 < k
    · rw [if_pos h, if_pos (e1.mp h)]
      exact et_q hL hP hq _ _
    · rw [if_neg h, if_neg (fun w => h (e1.mpr w))]
      exact ⟨hq, hP⟩
  refine ⟨h1, ?_, ?_⟩
  · unfold rqB ppB
    rw [et_b hL h2.2 h2.1]
  · unfold rqD ppC2
    by_cases h : k % 2 = 1
    · rw [if_pos h, if_pos h]
      exact et_q hL h2.2 h2.1 _ _
    · rw [if_neg h, if_neg h]
      exact h2
theorem rg_eq {L : L8} {c : Cm} {q : Nat → Int32} (hL : okL L) (hP : okP L c) (hq : pg q c.1 c.2.1 c.2.2.1 c.2.2.2.1) {k a b f : Nat} (hk : k < 4) (hf : f < L.1) (ate : Bool) {who : Nat} (hw : who < L.2.1) : rqG L.1 L.2.1 L.2.2.1 L.2.2.2.2.1 L.2.2.2.2.2.1 L.2.2.2.2.2.2.1 L.2.2.2.2.2.2.2 q k a b f ate who = ppG L c k a b f ate who := by
  have h := (pp_q hL hP hq (a := a) (b := b) (f := f) hk).2.2
  have hb : decide (swP L.2.2.2.2.1 (mqP L.2.2.1 L.2.2.2.2.2.1 L.2.2.2.2.2.2.1 L.2.2.2.2.2.2.2 L.1 31 (rqD L.1 L.2.1 L.2.2.2.2.2.2.2 q k a b f) L.2.1) L.1 / 2 ^ f % 2 = 1) = isSw L.2.2.2.2.1 (ppM L c k a b f).2.1 f := by
    rw [sw_eq hL.1 (mq_all hL h.1), bitsN_at _ hf]
    rfl
  unfold rqG ppG
  rw [fa_eqC hL h.1 hw]
  rw [show (marC L (allN L) (ppC2 L c k a b f)) = ppM L c k a b f from rfl]
  rw [← nI_add]
  have e : (if swP L.2.2.2.2.1 (mqP L.2.2.1 L.2.2.2.2.2.1 L.2.2.2.2.2.2.1 L.2.2.2.2.2.2.2 L.1 31 (rqD L.1 L.2.1 L.2.2.2.2.2.2.2 q k a b f) L.2.1) L.1 / 2 ^ f % 2 = 1 then 3 else 0) = (if isSw L.2.2.2.2.1 (ppM L c k a b f).2.1 f = true then 3 else 0) := by
    by_cases d : isSw L.2.2.2.2.1 (ppM L c k a b f).2.1 f = true
    · rw [if_pos d, if_pos (of_decide_eq_true (hb.trans d))]
    · rw [if_neg d, if_neg (fun w => d (by rw [← hb]; exact decide_eq_true w))]
  rw [e]
  rw [Int32.sub_eq_add_neg, Int32.sub_eq_add_neg, Int32.add_assoc, Int32.add_assoc, Int32.add_comm (-_)]
theorem rz_eq {L : L8} {c : Cm} {q z z' : Nat → Int32} (hL : okL L) (hP : okP L c) (hq : pg q c.1 c.2.1 c.2.2.1 c.2.2.2.1) {a b f : Nat} (ha : a < L.2.1) (hb : b < L.2.1) (hf : f < L.1) : ∀ k, k ≤ 4 → ∀ i, i < 2 * k → rqZ L.1 L.2.1 L.2.2.1 L.2.2.2.2.1 L.2.2.2.2.2.1 L.2.2.2.2.2.2.1 L.2.2.2.2.2.2.2 q a b f z k i = gzF L c a b f z' k i
  | 0, _, i, hi => by omega
  | k + 1, hk, i, hi => by
    have ih := rz_eq (z := z) (z' := z') hL hP hq ha hb hf k (by omega)
    have hp := pp_q hL hP hq (a := a) (b := b) (f := f) (show k < 4 by omega)
    unfold rqZ gzF
    rw [rg_eq hL hP hq (show k < 4 by omega) hf _ ha, rg_eq hL hP hq (show k < 4 by omega) hf _ hb, hp.1, hp.2.1]
    by_cases d1 : i = 2 * k + 1
    · subst d1
      rw [pk_us, pk_us]
    · rw [pk_un d1, pk_un d1]
      by_cases d2 : i = 2 * k
      · subst d2
        rw [pk_us, pk_us]
      · rw [pk_un d2, pk_un d2]
        exact ih i (by omega)
theorem xr4 : ∀ k, k < 4 → 2 * k < 8 ∧ 2 * k + 1 < 8 ∧ 2 * (k ^^^ 2) < 8 ∧ 2 * (k ^^^ 1) + 1 < 8 := by decide
theorem rq_ar {z z' : Nat → Int32} (h : ∀ i, i < 8 → z i = z' i) {k : Nat} (hk : k < 4) : rqR z k = arB z' k := by
  have hx := xr4 k hk
  unfold rqR arB
  rw [h _ hx.1, h _ hx.2.1, h _ hx.2.2.1, h _ hx.2.2.2]
theorem rsN_T (z : Nat → Int32) : ∀ v, rsN z v = bcT (arB z) v
  | 0 => rfl
  | v + 1 => by
    unfold rsN bcT
    rw [rsN_T z v]
    split <;> rfl
theorem rsO_T (z : Nat → Int32) : ∀ v, rsO z v = foT (arB z) (fun v => 10 * (v / 2 ^ 1) + v % 2) v
  | 0 => rfl
  | v + 1 => by
    unfold rsO foT
    rw [rsO_T z v]
    cases foT (arB z) (fun v => 10 * (v / 2 ^ 1) + v % 2) v <;> rfl
theorem rs_eq {L : L8} {c : Cm} {q z z' : Nat → Int32} (hL : okL L) (hP : okP L c) (hq : pg q c.1 c.2.1 c.2.2.1 c.2.2.2.1) (x y f w : Int32) : rsM L.1 L.2.1 L.2.2.1 L.2.2.2.2.1 L.2.2.2.2.2.1 L.2.2.2.2.2.2.1 L.2.2.2.2.2.2.2 q z x y f w = rsR L c z' x y f w := by
  unfold rsM rsR
  by_cases h1 : hasN L.2.1 x = true
  · rw [if_pos h1, if_pos h1]
    by_cases h2 : hasN L.2.1 y = true
    · rw [if_pos h2, if_pos h2]
      by_cases h3 : hasN L.1 f = true
      · rw [if_pos h3, if_pos h3]
        have hx := (ix_lt (by have := hL.2.1; omega) h1).1
        have hy := (ix_lt (by have := hL.2.1; omega) h2).1
        have hf := (ix_lt (by have := hL.1; omega) h3).1
        have hz := rz_eq (z := z) (z' := z') hL hP hq hx hy hf 4 (Nat.le_refl _)
        have hr : ∀ k, k < 4 → rqR (rqZ L.1 L.2.1 L.2.2.1 L.2.2.2.2.1 L.2.2.2.2.2.1 L.2.2.2.2.2.2.1 L.2.2.2.2.2.2.2 q (ix x) (ix y) (ix f) z 4) k = arB (gzF L c (ix x) (ix y) (ix f) z' 4) k := fun k hk => rq_ar (fun i hi => hz i hi) hk
        rw [ct_eq, fs_eq 4 (by decide), bcT_congr 4 hr, foT_congr (v := fun k => 10 * (k / 2) + k % 2) (w := fun v => 10 * (v / 2 ^ 1) + v % 2) 4 (fun k hk => ⟨hr k hk, rfl⟩), rsN_T, rsO_T]
      · rw [if_neg h3, if_neg h3]
    · rw [if_neg h2, if_neg h2]
  · rw [if_neg h1, if_neg h1]
/-- chances: the sum from the other end -/
def sumN (f : Nat → Nat) : Nat → Nat
  | 0 => 0
  | n + 1 => sumN f n + f n
theorem sumN_congr {f h : Nat → Nat} : ∀ n, (∀ k, k < n → f k = h k) → sumN f n = sumN h n
  | 0, _ => rfl
  | n + 1, e => by
    unfold sumN
    rw [sumN_congr n (fun k hk => e k (by omega)), e n (by omega)]
theorem sumN_shift (f : Nat → Nat) : ∀ n, sumN f (n + 1) = f 0 + sumN (fun k => f (k + 1)) n
  | 0 => by show 0 + f 0 = f 0 + 0; omega
  | n + 1 => by
    have := sumN_shift f n
    show sumN f (n + 1) + f (n + 1) = f 0 + (sumN (fun k => f (k + 1)) n + f (n + 1))
    omega
theorem sumN_rev (f : Nat → Nat) : ∀ n, sumN (fun k => f (n - 1 - k)) n = sumN f n
  | 0 => rfl
  | n + 1 => by
    rw [sumN_shift]
    have e : sumN (fun k => f (n + 1 - 1 - (k + 1))) n = sumN (fun k => f (n - 1 - k)) n := sumN_congr n (fun k hk => by rw [show n + 1 - 1 - (k + 1) = n - 1 - k by omega])
    rw [e, sumN_rev f n]
    show f (n + 1 - 1 - 0) + sumN f n = sumN f n + f n
    rw [show n + 1 - 1 - 0 = n by omega]
    omega
theorem co_bc : ∀ n, n ≤ 5 → ∀ v, v < 2 ^ n → bcN (2 ^ n - 1 - v) = n - bcN v ∧ bcN v ≤ n ∧ ∀ e, e < n → ((31 - v) / 2 ^ e % 2 = 1 ↔ (2 ^ n - 1 - v) / 2 ^ e % 2 = 1) := by decide +kernel
def hmU (L : L8) (sk db : Nat → Int32) (f x v : Nat) : Nat := if swN L v sk db / 2 ^ f % 2 = 1 then hmT L sk db f x v else 0
theorem hmA_T (L : L8) (sk db : Nat → Int32) (f x : Nat) : ∀ v, hmA L sk db f x v = sumN (hmU L sk db f x) v
  | 0 => rfl
  | v + 1 => by
    unfold hmA sumN hmU
    rw [hmA_T L sk db f x v]
    split <;> rfl
theorem hoA_T (nf ne : Nat) (pl nd hm wk kd q : Nat → Int32) (f x : Nat) : ∀ v, hoA nf ne pl nd hm wk kd q f x v = sumN (hoT nf ne pl nd hm wk kd q f x) v
  | 0 => rfl
  | v + 1 => by
    unfold hoA sumN
    rw [hoA_T nf ne pl nd hm wk kd q f x v]
theorem ho_A {L : L8} {c : Cm} {q : Nat → Int32} (hL : okL L) (hq : pg q c.1 c.2.1 c.2.2.1 c.2.2.2.1) (f x : Nat) : hoA L.1 L.2.1 L.2.2.1 L.2.2.2.2.1 L.2.2.2.2.2.1 L.2.2.2.2.2.2.1 L.2.2.2.2.2.2.2 q f x (2 ^ L.2.1) = hmA L c.2.1 c.2.2.1 f x (2 ^ L.2.1) := by
  rw [hoA_T, hmA_T, ← sumN_rev (hmU L c.2.1 c.2.2.1 f x)]
  refine sumN_congr _ (fun v hv => ?_)
  have hb := co_bc L.2.1 hL.2.1 v hv
  unfold hoT hmU hmT
  rw [swm_eq hL hb.2.2 hq, hb.1]
  by_cases d : swN L (2 ^ L.2.1 - 1 - v) c.2.1 c.2.2.1 / 2 ^ f % 2 = 1
  · rw [if_pos d, if_pos d, Nat.mul_comm, show L.2.1 - (L.2.1 - bcN v) = bcN v by omega]
  · rw [if_neg d, if_neg d]
theorem ho_eq {L : L8} {c : Cm} {q : Nat → Int32} (hL : okL L) (hq : pg q c.1 c.2.1 c.2.2.1 c.2.2.2.1) (x y : Int32) (u : Bool) : hoR L.1 L.2.1 L.2.2.1 L.2.2.2.2.1 L.2.2.2.2.2.1 L.2.2.2.2.2.2.1 L.2.2.2.2.2.2.2 q x y u = hmR L c.2.1 c.2.2.1 x y u := by
  unfold hoR hmR
  rw [ho_A hL hq]
/-- years by lot -/
theorem lot_so (L : L8) (c : Cm) {v : Nat} (hv : v < 28) : soC L c (lotT v / 100) (lotT v / 10 % 10) (lotT v % 10) = lotC L c v := by
  unfold lotC
  by_cases h : v < 20
  · rw [if_pos h]
    have e : lotT v = 200 + 10 * (v / 4) + v % 4 := if_pos h
    rw [e]
    rw [show (200 + 10 * (v / 4) + v % 4) / 100 = 2 by omega, show (200 + 10 * (v / 4) + v % 4) / 10 % 10 = v / 4 by omega, show (200 + 10 * (v / 4) + v % 4) % 10 = v % 4 by omega]
    rfl
  · rw [if_neg h]
    by_cases h2 : v < 25
    · rw [if_pos h2, show lotT v = 0 from (if_neg h).trans (if_pos h2)]
      rfl
    · rw [if_neg h2, show lotT v = 100 from (if_neg h).trans (if_neg h2)]
      rfl
theorem yr_q {L : L8} {c : Cm} {q : Nat → Int32} (hL : okL L) (hP : okP L c) (hq : pg q c.1 c.2.1 c.2.2.1 c.2.2.2.1) (s : Int64) : ∀ t, (yrM L.1 L.2.1 L.2.2.1 L.2.2.2.1 L.2.2.2.2.1 L.2.2.2.2.2.1 L.2.2.2.2.2.2.1 L.2.2.2.2.2.2.2 s q t).1 = (yrS L s c t).1 ∧ (yrM L.1 L.2.1 L.2.2.1 L.2.2.2.1 L.2.2.2.2.1 L.2.2.2.2.2.1 L.2.2.2.2.2.2.1 L.2.2.2.2.2.2.2 s q t).2.2 = (yrS L s c t).2.2 ∧ pg (yrM L.1 L.2.1 L.2.2.1 L.2.2.2.1 L.2.2.2.2.1 L.2.2.2.2.2.1 L.2.2.2.2.2.2.1 L.2.2.2.2.2.2.2 s q t).2.1 (yrS L s c t).2.1.1 (yrS L s c t).2.1.2.1 (yrS L s c t).2.1.2.2.1 (yrS L s c t).2.1.2.2.2.1 ∧ okP L (yrS L s c t).2.1
  | 0 => ⟨rfl, rfl, hq, hP⟩
  | t + 1 => by
    obtain ⟨h1, h2, h3, h4⟩ := yr_q hL hP hq s t
    have hv : lotQ (nxS (yrS L s c t).1) % 28 < 28 := Nat.mod_lt _ (by decide)
    have hd := do_q hL h4 h3 (lotT_lt hv)
    rw [lot_so L _ hv] at hd
    unfold yrM yrS
    rw [h1, h2]
    refine ⟨rfl, ?_, hd.1, hd.2⟩
    dsimp only
    rw [lv_eq hL hd.2 hd.1]
theorem ye_eq {L : L8} {c : Cm} {q : Nat → Int32} (hL : okL L) (hP : okP L c) (hq : pg q c.1 c.2.1 c.2.2.1 c.2.2.2.1) (s : Int64) (y : Int32) : yeM L.1 L.2.1 L.2.2.1 L.2.2.2.1 L.2.2.2.2.1 L.2.2.2.2.2.1 L.2.2.2.2.2.2.1 L.2.2.2.2.2.2.2 s q y = yeR L s c y := by
  unfold yeM yeR
  rw [(yr_q hL hP hq s (ix y)).2.1]
