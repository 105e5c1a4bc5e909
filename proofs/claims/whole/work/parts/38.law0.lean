/-! what the law keeps: the class's state beside the reference's -/
theorem pg_congr {q q' lo sk db : Nat → Int32} {yr : Int32} (h : ∀ i, i < 29 → q' i = q i) (hq : pg q lo sk db yr) : pg q' lo sk db yr :=
  ⟨fun f hf => (h f (by omega)).trans (hq.1 f hf), fun f hf => (h (4 + f) (by omega)).trans (hq.2.1 f hf), fun e f he hf => (h (8 + 4 * e + f) (by omega)).trans (hq.2.2.1 e f he hf), (h 28 (by omega)).trans hq.2.2.2⟩
def pgC (L : L8) (q : Nat → Int32) (c : Cm) : Prop := pg q c.1 c.2.1 c.2.2.1 c.2.2.2.1 ∧ okP L c
theorem pgC_congr {L : L8} {q q' : Nat → Int32} {c : Cm} (h : ∀ i, i < 29 → q' i = q i) (hq : pgC L q c) : pgC L q' c := ⟨pg_congr h hq.1, hq.2⟩
/-- vi and wy are nobody's business -/
theorem pgC_vw {L : L8} {q : Nat → Int32} {c : Cm} (hq : pgC L q c) (vi wy : Nat → Int32) : pgC L q (c.1, c.2.1, c.2.2.1, c.2.2.2.1, vi, wy) := hq
/-- the book beside the ring -/
def bkI (L : L8) (b : Nat → Int32) (pc : Nat → Cm) (fi co : Nat) : Prop := fi < 14 ∧ co ≤ 14 ∧ ∀ k, k < co → pgC L (fun j => b (29 * k + j)) (pc ((fi + k) % 14))
def kpI (L : L8) (b : Nat → Int32) (sc : Nat → Cm) (jf : Nat → Int32) : Prop := ∀ m, m < 2 → ¬ jf m = 0 → pgC L (fun j => b (29 * m + j)) (sc m)
def txI (n : Nat) (F : Nat → Int32) : Prop := n ≤ 48 ∧ ∀ j, j < n → rI (F j) 255
def LI (tn : Nat) (tF : Nat → Int32) (L : L8) (c : Cm) (fi co : Nat) (pc : Nat → Cm) (cp ci : Nat → Int32) (dn : Nat) (jf : Nat → Int32) (sc : Nat → Cm) (pa bo ke : Nat → Int32) : Prop := txI tn tF ∧ okL L ∧ pgC L pa c ∧ bkI L bo pc fi co ∧ okD cp ci dn ∧ kpI L ke sc jf
theorem mod14 {a b : Nat} (ha : a < 14) (hb : b < 14) : (a + b) % 14 = if a + b < 14 then a + b else a + b - 14 := by
  split
  · exact Nat.mod_eq_of_lt (by assumption)
  · rw [Nat.mod_eq_sub_mod (by omega), Nat.mod_eq_of_lt (by omega)]
theorem bk_note {L : L8} {b q : Nat → Int32} {pc : Nat → Cm} {fi co : Nat} {c : Cm} (hb : bkI L b pc fi co) (hq : pgC L q c) : bkI L (ntB q b co) (rmP fi co pc c) (rmF fi co) (rmC co + 1) := by
  obtain ⟨h1, h2, h3⟩ := hb
  have hF : rmF fi co < 14 := by
    unfold rmF
    split
    · exact Nat.mod_lt _ (by decide)
    · exact h1
  have hC : rmC co < 14 := by
    unfold rmC
    split <;> omega
  refine ⟨hF, by omega, fun k hk => ?_⟩
  by_cases d : k = rmC co
  · subst d
    have e : rmP fi co pc c ((rmF fi co + rmC co) % 14) = (c.1, c.2.1, c.2.2.1, c.2.2.2.1, (pc (rmK fi co)).2.2.2.2.1, (pc (rmK fi co)).2.2.2.2.2) := va_up_self _ _ _
    rw [e]
    refine pgC_vw (pgC_congr (fun j hj => ?_) hq) _ _
    show ntB q b co (29 * rmC co + j) = q j
    unfold ntB
    rw [if_pos (by omega), show 29 * rmC co + j - 29 * rmC co = j by omega]
  · have hk : k < rmC co := by omega
    have hne : (rmF fi co + k) % 14 ≠ rmK fi co := by
      unfold rmK
      rw [mod14 hF (by omega), mod14 hF hC]
      split <;> split <;> omega
    have e : rmP fi co pc c ((rmF fi co + k) % 14) = pc ((rmF fi co + k) % 14) := va_up_ne _ _ hne
    rw [e]
    have hn : ∀ j, j < 29 → ntB q b co (29 * k + j) = ntK b co (29 * k + j) := fun j hj => by
      unfold ntB
      rw [if_neg (by omega)]
    by_cases d2 : co = 14
    · have r1 : rmF fi co = (fi + 1) % 14 := if_pos d2
      have r2 : rmC co = 13 := if_pos d2
      have e2 : (rmF fi co + k) % 14 = (fi + (k + 1)) % 14 := by
        rw [r1, mod14 h1 (by omega : 1 < 14), mod14 h1 (by omega : k + 1 < 14)]
        split
        · rw [mod14 (by omega) (by omega)]
          split <;> split <;> omega
        · rw [mod14 (by omega) (by omega)]
          split <;> split <;> omega
      rw [e2]
      refine pgC_congr (fun j hj => ?_) (h3 (k + 1) (by omega))
      rw [hn j hj]
      unfold ntK
      rw [if_pos d2]
      show (if 29 * k + j < 377 then b (29 * k + j + 29) else b (29 * k + j)) = b (29 * (k + 1) + j)
      rw [if_pos (by omega), show 29 * k + j + 29 = 29 * (k + 1) + j by omega]
    · have r1 : rmF fi co = fi := if_neg d2
      have r2 : rmC co = co := if_neg d2
      rw [r1]
      refine pgC_congr (fun j hj => ?_) (h3 k (by omega))
      rw [hn j hj]
      unfold ntK
      rw [if_neg d2]
theorem bk_less {L : L8} {b : Nat → Int32} {pc : Nat → Cm} {fi co co' : Nat} (hb : bkI L b pc fi co) (h : co' ≤ co) : bkI L b pc fi co' := ⟨hb.1, by have := hb.2.1; omega, fun k hk => hb.2.2 k (by omega)⟩
theorem kp_less {L : L8} {b : Nat → Int32} {sc : Nat → Cm} {jf : Nat → Int32} (x : Nat → Cm) : kpI L b sc (fun _ => bI false) := fun m hm h => absurd rfl h
theorem kp_keep {L : L8} {b q : Nat → Int32} {sc : Nat → Cm} {jf : Nat → Int32} {c : Cm} (hk : kpI L b sc jf) (hq : pgC L q c) (m : Nat) : kpI L (kpQ q b m) (va_up sc m (c.1, c.2.1, c.2.2.1, c.2.2.2.1, (sc m).2.2.2.2.1, (sc m).2.2.2.2.2)) (upd jf m (bI true)) := by
  intro i hi h
  by_cases d : i = m
  · subst d
    rw [va_up_self]
    refine pgC_vw (pgC_congr (fun j hj => ?_) hq) _ _
    show kpQ q b i (29 * i + j) = q j
    unfold kpQ
    rw [if_pos (by omega), show 29 * i + j - 29 * i = j by omega]
  · rw [va_up_ne _ _ d]
    rw [pk_un d] at h
    refine pgC_congr (fun j hj => ?_) (hk i hi h)
    show kpQ q b m (29 * i + j) = _
    unfold kpQ
    rw [if_neg (by omega)]
theorem kpB_ix {x : Int32} (h : kpB x = true) : ix x < 2 := by
  unfold kpB at h
  rw [Bool.and_eq_true, Bool.not_eq_true', decide_eq_false_iff_not, decide_eq_true_eq] at h
  obtain ⟨k, hk, rfl⟩ := kpB_t h.1 h.2
  rw [ix_nI (by omega)]
  exact hk
theorem tx_write {n : Nat} {F : Nat → Int32} (h : txI n F) (x : Int32) : txI (wrN n x) (wrF F n x) := by
  unfold wrN wrF
  by_cases c : wrOk x = true
  · rw [if_pos c, if_pos c]
    by_cases d : n < 48
    · rw [if_pos d, if_pos d]
      refine ⟨by omega, fun j hj => ?_⟩
      by_cases e : j = n
      · subst e
        rw [pk_us]
        unfold wrOk at c
        rw [Bool.and_eq_true, Bool.not_eq_true', decide_eq_false_iff_not, decide_eq_true_eq, Int32.lt_iff_toInt_lt, Int32.le_iff_toInt_le, nI_toInt (by decide), show (0 : Int32).toInt = 0 from by decide] at c
        exact ⟨by omega, by omega⟩
      · rw [pk_un e]
        exact h.2 j (by omega)
    · rw [if_neg d, if_neg d]
      exact h
  · rw [if_neg c, if_neg c]
    exact h
theorem cm_1 {c : Int32} (h0 : ¬ c < 0) (h1 : c ≤ nI 1) : c = nI 0 ∨ c = nI 1 := by
  rw [Int32.lt_iff_toInt_lt, show (0 : Int32).toInt = 0 from by decide] at h0
  rw [Int32.le_iff_toInt_le, nI_toInt (by decide)] at h1
  by_cases d : c.toInt = 0
  · exact Or.inl (Int32.toInt_inj.mp (by rw [d]; decide))
  · exact Or.inr (Int32.toInt_inj.mp (by rw [show c.toInt = 1 by omega]; decide))
theorem cm_ji {f : Nat → Int32} {n : Nat} {q c : Int32} : cmJ f n q c = cmI f n q c := by
  unfold cmJ cmI
  by_cases h : cmOk q c = true
  · rw [if_pos h, if_pos h]
    unfold cmOk at h
    rw [Bool.and_eq_true, Bool.and_eq_true, Bool.and_eq_true, Bool.not_eq_true', Bool.not_eq_true', Bool.not_eq_true', decide_eq_false_iff_not, decide_eq_false_iff_not, decide_eq_false_iff_not, decide_eq_true_eq] at h
    have : bI (decide (c = nI 1)) = c := by
      rcases cm_1 h.2.2.1 h.2.2.2 with e | e <;> rw [e] <;> decide
    rw [this]
  · rw [if_neg h, if_neg h]
theorem cm_ok {f i : Nat → Int32} {n : Nat} (h : okD f i n) (q c : Int32) : okD (cmP f n q c) (cmI i n q c) (cmN n q c) := by
  unfold cmP cmI cmN
  by_cases e : cmOk q c = true
  · rw [if_pos e, if_pos e, if_pos e]
    by_cases d : n < 6
    · rw [if_pos d, if_pos d, if_pos d]
      refine ⟨by omega, fun j hj => ?_⟩
      by_cases u : j = n
      · subst u
        rw [pk_us, pk_us]
        unfold cmOk at e
        rw [Bool.and_eq_true, Bool.and_eq_true, Bool.and_eq_true, Bool.not_eq_true', Bool.not_eq_true', Bool.not_eq_true', decide_eq_false_iff_not, decide_eq_false_iff_not, decide_eq_false_iff_not, decide_eq_true_eq, Int32.lt_iff_toInt_lt, Int32.le_iff_toInt_le, nI_toInt (by decide), show (0 : Int32).toInt = 0 from by decide] at e
        refine ⟨⟨by omega, by omega⟩, ?_⟩
        cases decide (c = nI 1)
        · exact Or.inl rfl
        · exact Or.inr rfl
      · rw [pk_un u, pk_un u]
        exact h.2 j (by omega)
    · rw [if_neg d, if_neg d, if_neg d]
      exact h
  · rw [if_neg e, if_neg e, if_neg e]
    exact h
