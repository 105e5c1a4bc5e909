/-! the class's own methods as plain functions -/
def ix (x : Int32) : Nat := x.toNatClampNeg
theorem ix_nI {n : Nat} (h : n < 2 ^ 31) : ix (nI n) = n := nI_clamp h
theorem hasN_t {n : Nat} {x : Int32} (h : hasN n x = true) (hn : n < 2 ^ 31) : ∃ f, f < n ∧ x = nI f := by
  unfold hasN at h
  simp only [Bool.and_eq_true, Bool.not_eq_true', decide_eq_false_iff_not] at h
  obtain ⟨j, hj, rfl⟩ := nI_of h.1
  refine ⟨j, ?_, rfl⟩
  rw [nI_leI hn hj] at h
  omega
theorem rng_t {x : Int32} {n : Nat} (h : ¬ x < 0) (h2 : x ≤ nI n) (hn : n < 2 ^ 31) : ∃ f, f ≤ n ∧ x = nI f := by
  obtain ⟨j, hj, rfl⟩ := nI_of h
  exact ⟨j, (nI_leI hj hn).mp h2, rfl⟩
/-- the bits of a number below 32 -/
def bcN (k : Nat) : Nat := k % 2 + k / 2 % 2 + k / 4 % 2 + k / 8 % 2 + k / 16 % 2
def bs1 (x : Int32) : Int32 := x - ((x.toUInt32 >>> ((nI 1).toUInt32 &&& Int32.toUInt32 31)).toInt32 &&& (1431655765 : Int32))
def bs2 (x : Int32) : Int32 := (x &&& (858993459 : Int32)) + ((x.toUInt32 >>> ((nI 2).toUInt32 &&& Int32.toUInt32 31)).toInt32 &&& (858993459 : Int32))
def bs3 (x : Int32) : Int32 := (x + (x.toUInt32 >>> ((nI 4).toUInt32 &&& Int32.toUInt32 31)).toInt32) &&& (252645135 : Int32)
def bs4 (x : Int32) : Int32 := x + (x.toUInt32 >>> ((nI 8).toUInt32 &&& Int32.toUInt32 31)).toInt32
def bs5 (x : Int32) : Int32 := x + (x.toUInt32 >>> ((nI 16).toUInt32 &&& Int32.toUInt32 31)).toInt32
theorem bs_ok : ∀ k, k < 32 → bs5 (bs4 (bs3 (bs2 (bs1 (nI k))))) &&& nI 63 = nI (bcN k) := by decide +kernel
theorem bcN_le (k : Nat) : bcN k ≤ 5 := by unfold bcN; omega
/-- steps of a commons -/
def marC (L : L8) (x : Nat) (c : Cm) : Cm := (c.1, (marS L.2.2.1 L.2.2.2.2.2.1 L.2.2.2.2.2.2.1 L.2.2.2.2.2.2.2 L.1 x (c.2.1, c.2.2.1, c.2.2.2.2.1, c.2.2.2.2.2) L.2.1).1, (marS L.2.2.1 L.2.2.2.2.2.1 L.2.2.2.2.2.2.1 L.2.2.2.2.2.2.2 L.1 x (c.2.1, c.2.2.1, c.2.2.2.2.1, c.2.2.2.2.2) L.2.1).2.1, c.2.2.2.1, (marS L.2.2.1 L.2.2.2.2.2.1 L.2.2.2.2.2.2.1 L.2.2.2.2.2.2.2 L.1 x (c.2.1, c.2.2.1, c.2.2.2.2.1, c.2.2.2.2.2) L.2.1).2.2.1, (marS L.2.2.1 L.2.2.2.2.2.1 L.2.2.2.2.2.2.1 L.2.2.2.2.2.2.2 L.1 x (c.2.1, c.2.2.1, c.2.2.2.2.1, c.2.2.2.2.2) L.2.1).2.2.2)
def reapC (L : L8) (c : Cm) : Cm := ((reapS L.2.2.2.1 L.2.2.2.2.1 c.1 c.2.1 L.1).1, (reapS L.2.2.2.1 L.2.2.2.2.1 c.1 c.2.1 L.1).2, c.2.2.1, c.2.2.2.1 + nI 1, c.2.2.2.2.1, c.2.2.2.2.2)
def takeC (L : L8) (e f : Nat) (c : Cm) : Cm := (upd c.1 f (c.1 f - nI (porN L.2.2.2.2.2.2.2 e)), c.2.1, upd c.2.2.1 (e * 4 + f) (capI (c.2.2.1 (e * 4 + f) + nI (porN L.2.2.2.2.2.2.2 e))), c.2.2.2)
def tkB (L : L8) (c : Cm) (e f : Int32) : Bool := hasN L.2.1 e && (hasN L.1 f && canT L.2.2.2.2.2.2.2 c.1 c.2.2.1 L.1 (ix e) (ix f))
def tkC (L : L8) (c : Cm) (e f : Int32) : Cm := if tkB L c e f = true then takeC L (ix e) (ix f) c else c
def sownC (L : L8) (c : Cm) : Nat := bitsN (isSw L.2.2.2.2.1 c.2.1) L.1
def allN (L : L8) : Nat := 2 ^ L.2.1 - 1
theorem allN_lt {L : L8} (h : L.2.1 ≤ 5) : allN L < 32 := by
  have : ∀ n, n ≤ 5 → 2 ^ n - 1 < 32 := by decide
  exact this _ h
