/-! the class's own methods as plain functions, going on -/
/-- the eaters below n fed as the bits say, each by one loaf; none: one can't be -/
def fedL (L : L8) (v : Nat) (f : Nat) (c : Cm) : Nat → Option Cm
  | 0 => some c
  | n + 1 => match fedL L v f c n with
    | none => none
    | some d => if v / 2 ^ n % 2 = 1 then (if tkB L d (nI n) (nI f) = true then some (tkC L d (nI n) (nI f)) else none) else some d
theorem fedL_none {L : L8} {v f : Nat} {c : Cm} {n : Nat} : ∀ {m : Nat}, n ≤ m → fedL L v f c n = none → fedL L v f c m = none
  | 0, h, q => by
    rw [show n = 0 by omega] at q
    exact q
  | m + 1, h, q => by
    by_cases e : n = m + 1
    · rw [← e]; exact q
    · unfold fedL
      rw [fedL_none (n := n) (by omega) q]
def fedB (L : L8) (v f : Nat) (c : Cm) : Bool := match fedL L v f c L.2.1 with
  | none => false
  | some d => isSw L.2.2.2.2.1 (marC L (allN L) d).2.1 f
theorem fedL_skip {L : L8} {v f n : Nat} {c d : Cm} (h : fedL L v f c n = some d) (hb : ¬ v / 2 ^ n % 2 = 1) : fedL L v f c (n + 1) = some d := by
  unfold fedL
  rw [h]
  exact if_neg hb
theorem fedL_yes {L : L8} {v f n : Nat} {c d : Cm} (h : fedL L v f c n = some d) (hb : v / 2 ^ n % 2 = 1) (ht : tkB L d (nI n) (nI f) = true) : fedL L v f c (n + 1) = some (tkC L d (nI n) (nI f)) := by
  unfold fedL
  rw [h]
  show (if _ then _ else _) = _
  rw [if_pos hb, if_pos ht]
theorem fedL_no {L : L8} {v f n : Nat} {c d : Cm} (h : fedL L v f c n = some d) (hb : v / 2 ^ n % 2 = 1) (ht : tkB L d (nI n) (nI f) = false) : fedL L v f c (n + 1) = none := by
  unfold fedL
  rw [h]
  show (if _ then _ else _) = _
  rw [if_pos hb, if_neg (by rw [ht]; decide)]
theorem fedB_no {L : L8} {v f n : Nat} {c : Cm} (hn : n + 1 ≤ L.2.1) (h : fedL L v f c (n + 1) = none) : fedB L v f c = false := by
  unfold fedB
  rw [fedL_none hn h]
theorem fedB_yes {L : L8} {v f : Nat} {c d : Cm} (h : fedL L v f c L.2.1 = some d) : fedB L v f c = isSw L.2.2.2.2.1 (marC L (allN L) d).2.1 f := by
  unfold fedB
  rw [h]
/-- told doings -/
def soB (L : L8) (c : Cm) (k a b : Nat) : Bool := if k < 2 ∧ ¬ (a = 0 ∧ b = 0) then false else if k = 0 then true else if k = 1 then true else if k = 2 then tkB L c (nI a) (nI b) else if k = 3 then (decide (a = 0) && (hasN L.1 (nI b) && isSw L.2.2.2.2.1 c.2.1 b)) else if k = 4 then (hasN L.1 (nI a) && !decide (c.1 a < nI b)) else if k = 5 then (hasN L.2.1 (nI a) && (hasN L.1 (nI b) && !decide (c.2.2.1 (a * 4 + b) ≤ 0))) else false
def soC (L : L8) (c : Cm) (k a b : Nat) : Cm := if k < 2 ∧ ¬ (a = 0 ∧ b = 0) then c else if k = 0 then marC L (allN L) c else if k = 1 then reapC L c else if k = 2 then tkC L c (nI a) (nI b) else c
theorem hasN_lt {n k : Nat} (h : hasN n (nI k) = true) (hn : n < 2 ^ 31) (hk : k < 2 ^ 31) : k < n := by
  obtain ⟨f, hf, e⟩ := hasN_t h hn
  rw [nI_eq hk (by omega)] at e
  omega
/-- two who eat or go hungry -/
def ppA (L : L8) (c : Cm) (v a f : Nat) : Bool := decide (v / 2 ^ 1 = 1) && tkB L c (nI a) (nI f)
def ppC1 (L : L8) (c : Cm) (v a f : Nat) : Cm := if v / 2 ^ 1 = 1 then tkC L c (nI a) (nI f) else c
def ppB (L : L8) (c : Cm) (v a b f : Nat) : Bool := decide (v % 2 = 1) && tkB L (ppC1 L c v a f) (nI b) (nI f)
def ppC2 (L : L8) (c : Cm) (v a b f : Nat) : Cm := if v % 2 = 1 then tkC L (ppC1 L c v a f) (nI b) (nI f) else ppC1 L c v a f
def ppM (L : L8) (c : Cm) (v a b f : Nat) : Cm := marC L (allN L) (ppC2 L c v a b f)
def ppG (L : L8) (c : Cm) (v a b f : Nat) (ate : Bool) (who : Nat) : Int32 := nI ((if isSw L.2.2.2.2.1 (ppM L c v a b f).2.1 f = true then 3 else 0) + (if ate = true then 4 else 0)) - (ppM L c v a b f).2.2.2.2.2 who
theorem tkC_rest (L : L8) (lo sk db : Nat → Int32) (yr : Int32) (vi wy : Nat → Int32) (e f : Int32) : ∃ lo' db', ∀ vi' wy', tkC L (lo, sk, db, yr, vi', wy') e f = (lo', sk, db', yr, vi', wy') := by
  by_cases h : tkB L (lo, sk, db, yr, vi, wy) e f = true
  · refine ⟨(takeC L (ix e) (ix f) (lo, sk, db, yr, vi, wy)).1, (takeC L (ix e) (ix f) (lo, sk, db, yr, vi, wy)).2.2.1, fun vi' wy' => ?_⟩
    unfold tkC
    rw [if_pos (show tkB L (lo, sk, db, yr, vi', wy') e f = true from h)]
    rfl
  · refine ⟨lo, db, fun vi' wy' => ?_⟩
    unfold tkC
    rw [if_neg (show ¬ tkB L (lo, sk, db, yr, vi', wy') e f = true from h)]
theorem ppC2_rest (L : L8) (lo sk db : Nat → Int32) (yr : Int32) (v a b f : Nat) : ∃ lo' db', ∀ vi' wy', ppC2 L (lo, sk, db, yr, vi', wy') v a b f = (lo', sk, db', yr, vi', wy') := by
  have h1 : ∃ lo1 db1, ∀ vi' wy', ppC1 L (lo, sk, db, yr, vi', wy') v a f = (lo1, sk, db1, yr, vi', wy') := by
    unfold ppC1
    by_cases h : v / 2 ^ 1 = 1
    · obtain ⟨lo1, db1, e⟩ := tkC_rest L lo sk db yr z0 z0 (nI a) (nI f)
      exact ⟨lo1, db1, fun vi' wy' => by rw [if_pos h]; exact e vi' wy'⟩
    · exact ⟨lo, db, fun vi' wy' => if_neg h⟩
  obtain ⟨lo1, db1, e1⟩ := h1
  unfold ppC2
  by_cases h : v % 2 = 1
  · obtain ⟨lo2, db2, e2⟩ := tkC_rest L lo1 sk db1 yr z0 z0 (nI b) (nI f)
    exact ⟨lo2, db2, fun vi' wy' => by rw [if_pos h, e1 vi' wy']; exact e2 vi' wy'⟩
  · exact ⟨lo1, db1, fun vi' wy' => by rw [if_neg h]; exact e1 vi' wy'⟩
theorem allN_bit {L : L8} (h : L.2.1 ≤ 5) {e : Nat} (he : e < L.2.1) : allN L / 2 ^ e % 2 = 1 := by
  have : ∀ n, n ≤ 5 → ∀ e, e < n → (2 ^ n - 1) / 2 ^ e % 2 = 1 := by decide
  exact this _ h e he
theorem ppG_ind (L : L8) (hne : L.2.1 ≤ 5) (lo sk db : Nat → Int32) (yr : Int32) (vi wy vi' wy' : Nat → Int32) (v a b f : Nat) (o : Bool) {w : Nat} (hw : w < L.2.1) : ppG L (lo, sk, db, yr, vi, wy) v a b f o w = ppG L (lo, sk, db, yr, vi', wy') v a b f o w := by
  obtain ⟨lo2, db2, e⟩ := ppC2_rest L lo sk db yr v a b f
  unfold ppG ppM
  rw [e vi wy, e vi' wy']
  unfold marC
  dsimp only
  rw [(marS_ind L.2.2.1 L.2.2.2.2.2.1 L.2.2.2.2.2.2.1 L.2.2.2.2.2.2.2 L.1 (allN L) sk db2 vi wy vi' wy' L.2.1).1, (marS_own L.2.2.1 L.2.2.2.2.2.1 L.2.2.2.2.2.2.1 L.2.2.2.2.2.2.2 L.1 (allN L) sk db2 vi wy vi' wy' (allN_bit hne hw) L.2.1 hw).2]
theorem tkB_ind (L : L8) (lo sk db : Nat → Int32) (yr : Int32) (vi wy vi' wy' : Nat → Int32) (e f : Int32) : tkB L (lo, sk, db, yr, vi, wy) e f = tkB L (lo, sk, db, yr, vi', wy') e f := rfl
theorem ppA_ind (L : L8) (lo sk db : Nat → Int32) (yr : Int32) (vi wy vi' wy' : Nat → Int32) (v a f : Nat) : ppA L (lo, sk, db, yr, vi, wy) v a f = ppA L (lo, sk, db, yr, vi', wy') v a f := rfl
theorem ppB_ind (L : L8) (lo sk db : Nat → Int32) (yr : Int32) (vi wy vi' wy' : Nat → Int32) (v a b f : Nat) : ppB L (lo, sk, db, yr, vi, wy) v a b f = ppB L (lo, sk, db, yr, vi', wy') v a b f := by
  unfold ppB ppC1
  by_cases h : v / 2 ^ 1 = 1
  · obtain ⟨lo1, db1, e⟩ := tkC_rest L lo sk db yr z0 z0 (nI a) (nI f)
    rw [if_pos h, if_pos h, e vi wy, e vi' wy']
    rfl
  · rw [if_neg h, if_neg h]
    rfl
theorem xr2 : ∀ v, v < 4 → 2 * (v ^^^ 2) < 8 := by decide
theorem xr1 : ∀ v, v < 4 → 2 * (v ^^^ 1) + 1 < 8 := by decide
def arB (z : Nat → Int32) (v : Nat) : Bool := !decide (z (2 * v) < z (2 * (v ^^^ 2))) && !decide (z (2 * v + 1) < z (2 * (v ^^^ 1) + 1))
def lotC (L : L8) (c : Cm) (v : Nat) : Cm := if v < 20 then tkC L c (nI (v / 4)) (nI (v % 4)) else if v < 25 then marC L (allN L) c else reapC L c
