/-! the reference's methods as plain functions of its rows -/
def inL (v a b : Int64) : Bool := !decide (lg_cmp v a < 0) && !decide (0 < lg_cmp v b)
theorem inL_iff {v a b : Int64} : inL v a b = true ↔ a.toInt ≤ v.toInt ∧ v.toInt ≤ b.toInt := by
  unfold inL
  rw [Bool.and_eq_true, Bool.not_eq_true', Bool.not_eq_true', decide_eq_false_iff_not, decide_eq_false_iff_not, lg_cmp_lt, lg_cmp_gt, Int64.lt_iff_toInt_lt, Int64.lt_iff_toInt_lt]
  omega
theorem inL_b {v a b : Int64} {c : Bool} (h : c = true ↔ a.toInt ≤ v.toInt ∧ v.toInt ≤ b.toInt) : inL v a b = c := by
  cases hc : c with
  | true => exact inL_iff.mpr (h.mp hc)
  | false =>
    cases hi : inL v a b with
    | false => rfl
    | true =>
      have := h.mpr (inL_iff.mp hi)
      rw [hc] at this
      exact absurd this (by decide)
theorem hasN_iff {n : Nat} (hn : n < 2 ^ 30) {x : Int32} : hasN n x = true ↔ 0 ≤ x.toInt ∧ x.toInt < n := by
  unfold hasN
  rw [Bool.and_eq_true, Bool.not_eq_true', Bool.not_eq_true', decide_eq_false_iff_not, decide_eq_false_iff_not, Int32.lt_iff_toInt_lt, Int32.le_iff_toInt_le, nI_toInt (by omega), show (0 : Int32).toInt = 0 from rfl]
  omega
theorem rgB_iff {n : Nat} (hn : n < 2 ^ 30) {x : Int32} : rgB x n = true ↔ 0 ≤ x.toInt ∧ x.toInt ≤ n := by
  unfold rgB
  rw [Bool.and_eq_true, Bool.not_eq_true', decide_eq_false_iff_not, decide_eq_true_eq, Int32.lt_iff_toInt_lt, Int32.le_iff_toInt_le, nI_toInt (by omega), show (0 : Int32).toInt = 0 from rfl]
  omega
theorem inL_has {n : Nat} (hn : n < 2 ^ 30) (x : Int32) : inL x.toInt64 (lN 0) (Int32.toInt64 (nI n - nI 1)) = hasN n x := inL_b (by
  rw [hasN_iff hn, Int32.toInt_toInt64, Int32.toInt_toInt64, pk_lT (by decide), pk_sub_toInt hn (by decide)]
  omega)
theorem inL_rg {n : Nat} (hn : n < 2 ^ 30) (x : Int32) : inL x.toInt64 (lN 0) (lN n) = rgB x n := inL_b (by
  rw [rgB_iff hn, Int32.toInt_toInt64, pk_lT (by decide), pk_lT (by omega)]
  omega)
theorem inL_ye (x : Int32) : inL x.toInt64 (lN 1) (lN 30) = yeOk x := inL_b (by
  unfold yeOk
  rw [Int32.toInt_toInt64, pk_lT (by decide), pk_lT (by decide), Bool.and_eq_true, Bool.not_eq_true', decide_eq_false_iff_not, decide_eq_true_eq, Int32.lt_iff_toInt_lt, Int32.le_iff_toInt_le, nI_toInt (by decide), nI_toInt (by decide)]
  omega)
theorem inL_14 (x : Int32) : inL x.toInt64 (lN 1) (lN 4) = (!decide (x < nI 1) && decide (x ≤ nI 4)) := inL_b (by
  rw [Int32.toInt_toInt64, pk_lT (by decide), pk_lT (by decide), Bool.and_eq_true, Bool.not_eq_true', decide_eq_false_iff_not, decide_eq_true_eq, Int32.lt_iff_toInt_lt, Int32.le_iff_toInt_le, nI_toInt (by decide), nI_toInt (by decide)]
  omega)
theorem wrOk_rg (x : Int32) : wrOk x = rgB x 255 := rfl
def mnN (s : Nat) : Nat → Nat
  | 0 => 0
  | k + 1 => mnN s k + s / 2 ^ k % 2
theorem mnN_bc (s : Nat) : mnN s 5 = bcN s := by
  show 0 + s / 2 ^ 0 % 2 + s / 2 ^ 1 % 2 + s / 2 ^ 2 % 2 + s / 2 ^ 3 % 2 + s / 2 ^ 4 % 2 = _
  unfold bcN
  omega
theorem capI_le {v : Int32} (h : v ≤ nI 99) : capI v = v := by
  unfold capI
  split
  · rfl
  · rename_i q
    rw [Int32.lt_iff_toInt_lt] at q
    rw [Int32.le_iff_toInt_le] at h
    exact Int32.toInt_inj.mp (by omega)
theorem capI_gt {v : Int32} (h : ¬ v ≤ nI 99) : capI v = nI 99 := by
  unfold capI
  rw [if_neg]
  rw [Int32.le_iff_toInt_le] at h
  rw [Int32.lt_iff_toInt_lt]
  omega
def apI (a b : Int32) : Int32 := if a < b then b - a else a - b
theorem apI_ge {a b : Int32} (h : b ≤ a) : apI a b = a - b := by
  unfold apI
  rw [if_neg]
  rw [Int32.le_iff_toInt_le] at h
  rw [Int32.lt_iff_toInt_lt]
  omega
theorem apI_lt {a b : Int32} (h : ¬ b ≤ a) : apI a b = b - a := by
  unfold apI
  rw [if_pos]
  rw [Int32.le_iff_toInt_le] at h
  rw [Int32.lt_iff_toInt_lt]
  omega
/-- a figure at a place -/
def fgOk (F : Nat → Int32) (n q lo hi : Nat) : Bool := !decide (q = n) && inL (Int32.toInt64 (F q - nI 48)) (lN lo) (lN hi)
theorem fg_ne {F : Nat → Int32} {n q lo hi : Nat} (hl : lo < 100) (h : fgOk F n q lo hi = true) : ¬ F q - nI 48 = -9 := by
  unfold fgOk at h
  rw [Bool.and_eq_true, inL_iff, Int32.toInt_toInt64, pk_lT (by omega)] at h
  intro e
  rw [e, show (-9 : Int32).toInt = -9 from by decide] at h
  omega
def o3B (F : Nat → Int32) (n q l2 h3 : Nat) : Bool := fgOk F n q 0 9 && (fgOk F n (q + 1) l2 9 && fgOk F n (q + 2) l2 h3)
def o3Q (F : Nat → Int32) (n q l2 h3 : Nat) : Nat := if fgOk F n q 0 9 = true then (if fgOk F n (q + 1) l2 9 = true then (if fgOk F n (q + 2) l2 h3 = true then q + 3 else q + 2) else q + 1) else q
def o3A (F : Nat → Int32) (q k : Nat) (R : Nat → Int32) : Nat → Int32 := upd (upd (upd R (3 * k) (F q - nI 48)) (3 * k + 1) (F (q + 1) - nI 48)) (3 * k + 2) (F (q + 2) - nI 48)
/-- place, fields, eaters, and what was read of them -/
abbrev S5 : Type := Nat × Nat × Nat × (Nat → Int32) × (Nat → Int32)
def rtB (F : Nat → Int32) (n : Nat) (s : S5) : Bool := if F s.1 = nI 71 ∧ s.2.1 < 4 then o3B F n (s.1 + 1) 1 9 else if F s.1 = nI 69 ∧ s.2.2.1 < 5 then o3B F n (s.1 + 1) 0 3 else false
def rtS (F : Nat → Int32) (n : Nat) (s : S5) : S5 := if F s.1 = nI 71 ∧ s.2.1 < 4 then (o3Q F n (s.1 + 1) 1 9, (if o3B F n (s.1 + 1) 1 9 = true then s.2.1 + 1 else s.2.1), s.2.2.1, (if o3B F n (s.1 + 1) 1 9 = true then o3A F (s.1 + 1) s.2.1 s.2.2.2.1 else s.2.2.2.1), s.2.2.2.2) else if F s.1 = nI 69 ∧ s.2.2.1 < 5 then (o3Q F n (s.1 + 1) 0 3, s.2.1, (if o3B F n (s.1 + 1) 0 3 = true then s.2.2.1 + 1 else s.2.2.1), s.2.2.2.1, (if o3B F n (s.1 + 1) 0 3 = true then o3A F (s.1 + 1) s.2.2.1 s.2.2.2.2 else s.2.2.2.2)) else s
def rcS (F : Nat → Int32) (n : Nat) : Nat → S5 → Bool × S5
  | 0, s => (true, s)
  | k + 1, s => if s.1 < n then (if rtB F n s = true then rcS F n k (rtS F n s) else (false, rtS F n s)) else (true, s)
theorem o3Q_t {F : Nat → Int32} {n q l2 h3 : Nat} (h : o3B F n q l2 h3 = true) : o3Q F n q l2 h3 = q + 3 ∧ q + 2 < n ∨ n < q + 3 ∧ o3Q F n q l2 h3 = q + 3 := by
  unfold o3B at h
  rw [Bool.and_eq_true, Bool.and_eq_true] at h
  have e : o3Q F n q l2 h3 = q + 3 := by
    unfold o3Q
    rw [if_pos h.1, if_pos h.2.1, if_pos h.2.2]
  omega
theorem rt_1 {F : Nat → Int32} {n : Nat} {s : S5} (h : rtB F n s = true) : (rtS F n s).1 = s.1 + 4 := by
  unfold rtB at h
  unfold rtS
  by_cases c1 : F s.1 = nI 71 ∧ s.2.1 < 4
  · rw [if_pos c1] at h
    rw [if_pos c1]
    have := o3Q_t h
    dsimp only
    omega
  · rw [if_neg c1] at h
    rw [if_neg c1]
    by_cases c2 : F s.1 = nI 69 ∧ s.2.2.1 < 5
    · rw [if_pos c2] at h
      rw [if_pos c2]
      have := o3Q_t h
      dsimp only
      omega
    · rw [if_neg c2] at h
      cases h
theorem o3Q_le {F : Nat → Int32} {n q l2 h3 : Nat} (h : q ≤ n) : o3Q F n q l2 h3 ≤ n := by
  have hf : ∀ q lo hi, q ≤ n → fgOk F n q lo hi = true → q + 1 ≤ n := by
    intro q lo hi hq hk
    unfold fgOk at hk
    rw [Bool.and_eq_true, Bool.not_eq_true', decide_eq_false_iff_not] at hk
    omega
  unfold o3Q
  split
  · rename_i h1
    have := hf _ _ _ h h1
    split
    · rename_i h2
      have := hf _ _ _ (by omega) h2
      split
      · rename_i h3
        have := hf _ _ _ (by omega) h3
        omega
      · omega
    · omega
  · exact h
theorem rt_ok {F : Nat → Int32} {n : Nat} {s : S5} (h : s.1 < n) (h4 : s.2.1 ≤ 4) (h5 : s.2.2.1 ≤ 5) : (rtS F n s).1 ≤ n ∧ (rtS F n s).2.1 ≤ 4 ∧ (rtS F n s).2.2.1 ≤ 5 := by
  unfold rtS
  by_cases c1 : F s.1 = nI 71 ∧ s.2.1 < 4
  · rw [if_pos c1]
    refine ⟨o3Q_le (by omega), ?_, h5⟩
    show (if _ then _ else _) ≤ 4
    split
    · exact Nat.succ_le_of_lt c1.2
    · exact h4
  · rw [if_neg c1]
    by_cases c2 : F s.1 = nI 69 ∧ s.2.2.1 < 5
    · rw [if_pos c2]
      refine ⟨o3Q_le (by omega), h4, ?_⟩
      show (if _ then _ else _) ≤ 5
      split
      · exact Nat.succ_le_of_lt c2.2
      · exact h5
    · rw [if_neg c2]
      exact ⟨by omega, h4, h5⟩
theorem rcS_end {F : Nat → Int32} {n k : Nat} {s : S5} (h : n ≤ s.1) : rcS F n k s = (true, s) := by
  cases k with
  | zero => rfl
  | succ k => exact if_neg (by omega)
theorem rcS_no {F : Nat → Int32} {n k : Nat} {s : S5} (hk : n ≤ s.1 + 4 * k) (h : s.1 < n) (hb : rtB F n s = false) : rcS F n k s = (false, rtS F n s) := by
  cases k with
  | zero => omega
  | succ k => unfold rcS; rw [if_pos h, if_neg (by rw [hb]; decide)]
theorem rcS_go {F : Nat → Int32} {n k : Nat} {s : S5} (hk : n ≤ s.1 + 4 * k) (h : s.1 < n) (hb : rtB F n s = true) : rcS F n k s = rcS F n (k - 1) (rtS F n s) := by
  cases k with
  | zero => omega
  | succ k => conv => { lhs; unfold rcS }; rw [if_pos h, if_pos hb]; rfl
def rcV (F : Nat → Int32) (n : Nat) (RF RE : Nat → Int32) : Bool × S5 := if ¬ n = 0 ∧ F 0 = nI 70 then rcS F n 12 (1, 0, 0, RF, RE) else (false, 0, 0, 0, RF, RE)
