/-! the class's own methods as plain functions -/
def ix (x : Int32) : Nat := x.toNatClampNeg
theorem ix_nI {n : Nat} (h : n < 2 ^ 31) : ix (nI n) = n := nI_clamp h
theorem hasN_t {n : Nat} {x : Int32} (h : hasN n x = true) (hn : n < 2 ^ 31) : ∃ f, f < n ∧ x = nI f := by
  unfold hasN at h
  simp only [Bool.and_eq_true, Bool.not_eq_true', decide_eq_false_iff_not] at h
  obtain ⟨j, hj, rfl⟩ := nI_of h.1
  refine ⟨j, ?_, rfl⟩
  rw [nI_leI hn hj] at h
  omega
theorem rng_t {x : Int32} {n : Nat} (h : ¬ x < 0) (h2 : x ≤ nI n) (hn : n < 2 ^ 31) : ∃ f, f ≤ n ∧ x = nI f := by
  obtain ⟨j, hj, rfl⟩ := nI_of h
  exact ⟨j, (nI_leI hj hn).mp h2, rfl⟩
/-- the bits of a number below 32 -/
def bcN (k : Nat) : Nat := k % 2 + k / 2 % 2 + k / 4 % 2 + k / 8 % 2 + k / 16 % 2
def bs1 (x : Int32) : Int32 := x - ((x.toUInt32 >>> ((nI 1).toUInt32 &&& Int32.toUInt32 31)).toInt32 &&& (1431655765 : Int32))
def bs2 (x : Int32) : Int32 := (x &&& (858993459 : Int32)) + ((x.toUInt32 >>> ((nI 2).toUInt32 &&& Int32.toUInt32 31)).toInt32 &&& (858993459 : Int32))
def bs3 (x : Int32) : Int32 := (x + (x.toUInt32 >>> ((nI 4).toUInt32 &&& Int32.toUInt32 31)).toInt32) &&& (252645135 : Int32)
def bs4 (x : Int32) : Int32 := x + (x.toUInt32 >>> ((nI 8).toUInt32 &&& Int32.toUInt32 31)).toInt32
def bs5 (x : Int32) : Int32 := x + (x.toUInt32 >>> ((nI 16).toUInt32 &&& Int32.toUInt32 31)).toInt32
theorem bs_ok : ∀ k, k < 32 → bs5 (bs4 (bs3 (bs2 (bs1 (nI k))))) &&& nI 63 = nI (bcN k) := by decide +kernel
theorem bcN_le (k : Nat) : bcN k ≤ 5 := by unfold bcN; omega
/-- steps of a commons -/
def marC (L : L8) (x : Nat) (c : Cm) : Cm := (c.1, (marS L.2.2.1 L.2.2.2.2.2.1 L.2.2.2.2.2.2.1 L.2.2.2.2.2.2.2 L.1 x (c.2.1, c.2.2.1, c.2.2.2.2.1, c.2.2.2.2.2) L.2.1).1, (marS L.2.2.1 L.2.2.2.2.2.1 L.2.2.2.2.2.2.1 L.2.2.2.2.2.2.2 L.1 x (c.2.1, c.2.2.1, c.2.2.2.2.1, c.2.2.2.2.2) L.2.1).2.1, c.2.2.2.1, (marS L.2.2.1 L.2.2.2.2.2.1 L.2.2.2.2.2.2.1 L.2.2.2.2.2.2.2 L.1 x (c.2.1, c.2.2.1, c.2.2.2.2.1, c.2.2.2.2.2) L.2.1).2.2.1, (marS L.2.2.1 L.2.2.2.2.2.1 L.2.2.2.2.2.2.1 L.2.2.2.2.2.2.2 L.1 x (c.2.1, c.2.2.1, c.2.2.2.2.1, c.2.2.2.2.2) L.2.1).2.2.2)
def reapC (L : L8) (c : Cm) : Cm := ((reapS L.2.2.2.1 L.2.2.2.2.1 c.1 c.2.1 L.1).1, (reapS L.2.2.2.1 L.2.2.2.2.1 c.1 c.2.1 L.1).2, c.2.2.1, c.2.2.2.1 + nI 1, c.2.2.2.2.1, c.2.2.2.2.2)
def takeC (L : L8) (e f : Nat) (c : Cm) : Cm := (upd c.1 f (c.1 f - nI (porN L.2.2.2.2.2.2.2 e)), c.2.1, upd c.2.2.1 (e * 4 + f) (capI (c.2.2.1 (e * 4 + f) + nI (porN L.2.2.2.2.2.2.2 e))), c.2.2.2)
def tkB (L : L8) (c : Cm) (e f : Int32) : Bool := hasN L.2.1 e && (hasN L.1 f && canT L.2.2.2.2.2.2.2 c.1 c.2.2.1 L.1 (ix e) (ix f))
def tkC (L : L8) (c : Cm) (e f : Int32) : Cm := if tkB L c e f = true then takeC L (ix e) (ix f) c else c
def z0 : Nat → Int32 := fun _ => nI 0
theorem marS_ind (pl hm wk kd : Nat → Int32) (nf x : Nat) (sk db vi wy vi' wy' : Nat → Int32) : ∀ n, (marS pl hm wk kd nf x (sk, db, vi, wy) n).1 = (marS pl hm wk kd nf x (sk, db, vi', wy') n).1 ∧ (marS pl hm wk kd nf x (sk, db, vi, wy) n).2.1 = (marS pl hm wk kd nf x (sk, db, vi', wy') n).2.1
  | 0 => ⟨rfl, rfl⟩
  | n + 1 => by
    have h := marS_ind pl hm wk kd nf x sk db vi wy vi' wy' n
    unfold marS
    split
    · unfold putS
      rw [h.1, h.2]
      exact ⟨rfl, rfl⟩
    · exact h
/-- one's visits and way behind a march hang on nothing that was there -/
theorem marS_own (pl hm wk kd : Nat → Int32) (nf x : Nat) (sk db vi wy vi' wy' : Nat → Int32) {e : Nat} (hx : x / 2 ^ e % 2 = 1) : ∀ n, e < n → (marS pl hm wk kd nf x (sk, db, vi, wy) n).2.2.1 e = (marS pl hm wk kd nf x (sk, db, vi', wy') n).2.2.1 e ∧ (marS pl hm wk kd nf x (sk, db, vi, wy) n).2.2.2 e = (marS pl hm wk kd nf x (sk, db, vi', wy') n).2.2.2 e
  | 0, h => absurd h (Nat.not_lt_zero _)
  | n + 1, h => by
    have hi := marS_ind pl hm wk kd nf x sk db vi wy vi' wy' n
    by_cases q : e = n
    · subst q
      unfold marS
      rw [if_pos hx, if_pos hx]
      unfold putS
      rw [hi.1, hi.2]
      exact ⟨by dsimp only; rw [pk_us, pk_us], by dsimp only; rw [pk_us, pk_us]⟩
    · have h2 := marS_own pl hm wk kd nf x sk db vi wy vi' wy' hx n (by omega)
      unfold marS
      split
      · unfold putS
        rw [hi.1, hi.2]
        exact ⟨by dsimp only; rw [pk_un q, pk_un q]; exact h2.1, by dsimp only; rw [pk_un q, pk_un q]; exact h2.2⟩
      · exact h2
/-- what is sown, some having come -/
def swN (L : L8) (x : Nat) (sk db : Nat → Int32) : Nat := bitsN (isSw L.2.2.2.2.1 (marS L.2.2.1 L.2.2.2.2.2.1 L.2.2.2.2.2.2.1 L.2.2.2.2.2.2.2 L.1 x (sk, db, z0, z0) L.2.1).1) L.1
theorem swN_eq (L : L8) (x : Nat) (lo sk db : Nat → Int32) (yr : Int32) (vi wy : Nat → Int32) : bitsN (isSw L.2.2.2.2.1 (marC L x (lo, sk, db, yr, vi, wy)).2.1) L.1 = swN L x sk db := by
  unfold swN marC
  rw [(marS_ind L.2.2.1 L.2.2.2.2.2.1 L.2.2.2.2.2.2.1 L.2.2.2.2.2.2.2 L.1 x sk db vi wy z0 z0 L.2.1).1]
theorem swN_lt {L : L8} (h : L.1 ≤ 4) (x : Nat) (sk db : Nat → Int32) : swN L x sk db < 32 := Nat.lt_of_lt_of_le (bitsN_lt _ _) (Nat.le_trans (Nat.pow_le_pow_right (by omega) h) (by decide))
def sownC (L : L8) (c : Cm) : Nat := bitsN (isSw L.2.2.2.2.1 c.2.1) L.1
def wlL (row : Int64) : Nat → Int64
  | 0 => row
  | k + 1 => wlL row k / (1000 : Int64)
def facN : Nat → Nat
  | 0 => 1
  | n + 1 => facN n * (n + 1)
theorem facN_ok {j k : Nat} (h : j ≤ k ∨ j = 1) (h1 : 1 ≤ j) (h2 : k < j + 1) : facN j = facN k := by
  rcases h with h | h
  · rw [show j = k by omega]
  · subst h
    rcases (show k = 0 ∨ k = 1 by omega) with rfl | rfl <;> rfl
theorem lN_ne0 {n : Nat} (h : 0 < n) (h2 : n < 2 ^ 63) : ¬ lN n = 0 := by
  intro q
  have : lN n = lN 0 := q
  rw [pk_lEQ h2 (by decide)] at this
  omega
theorem lgK_eq {a b : Nat} (ha : a < 2 ^ 63) (hb : b < 2 ^ 63) : lg_cmp (lN a) (lN b) = 0 ↔ a = b := by
  rw [lg_cmp_eq, pk_lEQ ha hb]
theorem absL_N {a : Nat} (ha : a < 2 ^ 63) : (if (0 : Int64) < lN a then lN a else -lN a) = lN a := by
  rcases Nat.eq_zero_or_pos a with h | h
  · subst h
    decide
  · exact if_pos ((pk_lLT (by decide) ha).mpr h)
/-- Math.abs of a long that is no less than 0 -/
theorem V_mabsL {g : Gx} {E : MV} {M : MS} {A : Nat → Prop} {Q : State → Prop} {kc ks : Nat} {ws : va_W} {pc pc' : Nat} {lv : List (Nat × Value)} {st : List Value} {index a : Nat} {l : Launch} {R0 : Room} {A1 : Nat → Prop} {w1 : va_W} {sz1 : Nat} (X : Ev E l R0 A1 w1 sz1) (hw : Cond.methodLink M.2.2.1 index Lib.MathLoose.abs_long.x ∈ wds ∧ Cond.static Lib.MathLoose.abs_long.x ∈ wds ∧ Cond.initialized "java/lang/Math" ∈ wds ∧ Cond.code Lib.MathLoose.abs_long.x Lib.MathLoose.abs_long.code 2 (some .long) ∈ wds) (hR : 1 ≤ R0.frames ∧ (st.map fun v => v.category).sum + 13 ≤ R0.locals ∧ kc ≤ R0.cells ∧ ks ≤ R0.slots) (hd : Nx M pc (.invokestatic index) 3 pc') (ha : a < 2 ^ 63) (kk : V g E M A Q kc ks ws pc' lv (.long (lN a) :: st)) : V g E M A Q kc ks ws pc lv (.long (lN a) :: st) := by
  obtain ⟨hd, rfl⟩ := hd
  obtain ⟨hE, hER, -⟩ := X
  subst hE
  subst hER
  intro B ls H locs hl hP hD hS
  refine va_mabs_long B.1 B.2.1 (B.2.2.1.trans hl.1.symm) B.2.2.2.1 (B.2.2.2.2.1 _ hw.1) (B.2.2.2.2.1 _ hw.2.1) (B.2.2.2.2.1 _ hw.2.2.1) (B.2.2.2.2.1 _ hw.2.2.2) hR.1 hR.2.1 hR.2.2.1 hR.2.2.2 hd ?_
  rw [absL_N ha]
  exact kk B ls H locs hl hP hD hS
/-- Euclid's steps: the product halves -/
def euc (t x y : Nat) : Prop := (t = 0 ∧ x < 2 ^ 31 ∧ y < 2 ^ 31) ∨ (1 ≤ t ∧ y ≤ x ∧ x * y * 2 ^ (t - 1) < 2 ^ 62)
theorem euc_0 {x y : Nat} (hx : x < 2 ^ 31) (hy : y < 2 ^ 31) : euc 0 x y := Or.inl ⟨rfl, hx, hy⟩
theorem euc_s {t x y : Nat} (h : euc t x y) (hy : 0 < y) : euc (t + 1) y (x % y) := by
  have hm := Nat.mod_lt x hy
  rcases h with ⟨h0, hx, hy2⟩ | ⟨h1, h2, h3⟩
  · subst h0
    refine Or.inr ⟨by omega, by omega, ?_⟩
    have : y * (x % y) ≤ y * y := Nat.mul_le_mul_left _ (by omega)
    have h4 : y * y < 2 ^ 31 * 2 ^ 31 := Nat.mul_lt_mul'' hy2 hy2
    simp only [Nat.add_sub_cancel_left, Nat.zero_add, Nat.sub_self, Nat.pow_zero, Nat.mul_one]
    omega
  · refine Or.inr ⟨by omega, by omega, ?_⟩
    have h4 : 2 * (x % y) ≤ x := by
      have h5 := Nat.div_add_mod x y
      have h6 : 1 ≤ x / y := (Nat.one_le_div_iff hy).mpr h2
      have h7 : y * 1 ≤ y * (x / y) := Nat.mul_le_mul_left _ h6
      omega
    rw [Nat.add_sub_cancel]
    rw [show t = (t - 1) + 1 by omega, Nat.pow_succ]
    have e : y * (x % y) * (2 ^ (t - 1) * 2) = (y * (2 * (x % y))) * 2 ^ (t - 1) := by
      rw [Nat.mul_comm (2 ^ (t - 1)) 2, ← Nat.mul_assoc, Nat.mul_assoc y, Nat.mul_comm (x % y) 2]
    rw [e]
    refine Nat.lt_of_le_of_lt (Nat.mul_le_mul_right _ (Nat.mul_le_mul_left y h4)) ?_
    rw [Nat.mul_comm y x]
    exact h3
theorem euc_end {t x y : Nat} (ht : 100 ≤ t) (h : euc t x y) : y = 0 := by
  rcases h with ⟨h0, -, -⟩ | ⟨h1, h2, h3⟩
  · omega
  · rcases Nat.eq_zero_or_pos y with q | q
    · exact q
    · exfalso
      have h4 : 1 ≤ x * y := Nat.mul_pos (by omega) q
      have h5 : 2 ^ 62 ≤ 2 ^ (t - 1) := Nat.pow_le_pow_right (by omega) (by omega)
      have h6 : 1 * 2 ^ (t - 1) ≤ x * y * 2 ^ (t - 1) := Nat.mul_le_mul_right _ h4
      omega
theorem gcd_step (x y : Nat) : Nat.gcd y (x % y) = Nat.gcd x y := by
  rw [Nat.gcd_comm x y, Nat.gcd_rec y x, Nat.gcd_comm]
def allN (L : L8) : Nat := 2 ^ L.2.1 - 1
theorem allN_lt {L : L8} (h : L.2.1 ≤ 5) : allN L < 32 := by
  have : ∀ n, n ≤ 5 → 2 ^ n - 1 < 32 := by decide
  exact this _ h
