/-! the class's last public methods as plain functions -/
theorem ffC_lt (F : Nat → Int32) {n : Nat} (hn : n ≤ 48) : ∀ k i a b q, ffC F n k i a b = some q → i ≤ 60 → q < 1000
  | 0, i, a, b, q, h, _ => by cases h
  | k + 1, i, a, b, q, h, hi => by
    unfold ffC at h
    by_cases h1 : i < n
    · rw [if_pos h1] at h
      by_cases h2 : (F i = nI 71 ∨ F i = nI 69) ∧ a + (if decide (F i = nI 71) = true then 1 else 0) ≤ 4 ∧ b + (if decide (F i = nI 69) = true then 1 else 0) ≤ 5
      · rw [if_pos h2] at h
        cases ht : thF F n i (decide (F i = nI 71)) 3 1 with
        | some w =>
          rw [ht] at h
          have := Option.some.inj h
          have h4 := thF_lt F (show i ≤ 100 by omega) hn _ 3 1 w (by omega) ht
          omega
        | none =>
          rw [ht] at h
          exact ffC_lt F hn k (i + 4) _ _ q h (by omega)
      · rw [if_neg h2] at h
        have := Option.some.inj h
        omega
    · rw [if_neg h1] at h
      cases h
theorem faultT_lt {F : Nat → Int32} {n : Nat} (hn : n ≤ 48) (k : Nat) (h : faultT F n = some k) : k < 1000 := by
  unfold faultT at h
  split at h
  · exact ffC_lt F hn 12 1 0 0 k h (by omega)
  · have := Option.some.inj h; omega
theorem addT_le {F : Nat → Int32} {n i : Nat} {s : L8} (h : s.1 ≤ 4 ∧ s.2.1 ≤ 5) : (addT F n i s).1 ≤ 4 ∧ (addT F n i s).2.1 ≤ 5 := by
  unfold addT
  split
  · exact addF_le h
  · exact addE_le h
theorem rdS_le (F : Nat → Int32) (n : Nat) : ∀ k i (s : L8), s.1 ≤ 4 ∧ s.2.1 ≤ 5 → (rdS F n k i s).1 ≤ 4 ∧ (rdS F n k i s).2.1 ≤ 5
  | 0, i, s, h => h
  | k + 1, i, s, h => by
    unfold rdS
    split
    · exact rdS_le F n k (i + 4) _ (addT_le h)
    · exact h
/-- told doings, one behind another -/
def jdS (L : L8) (r k : Nat) : Nat → Nat → Cm → Int32
  | 0, _, _ => -9
  | m + 1, i, c => if soB L c (r / 1000 ^ (k - 1 - i) % 1000 / 100) (r / 1000 ^ (k - 1 - i) % 1000 / 10 % 10) (r / 1000 ^ (k - 1 - i) % 1000 % 10) = true then jdS L r k m (i + 1) (soC L c (r / 1000 ^ (k - 1 - i) % 1000 / 100) (r / 1000 ^ (k - 1 - i) % 1000 / 10 % 10) (r / 1000 ^ (k - 1 - i) % 1000 % 10)) else nI i
theorem jdS_no {L : L8} {r k i : Nat} {c : Cm} (hi : i < k) (h : soB L c (r / 1000 ^ (k - 1 - i) % 1000 / 100) (r / 1000 ^ (k - 1 - i) % 1000 / 10 % 10) (r / 1000 ^ (k - 1 - i) % 1000 % 10) = false) : jdS L r k (k - i) i c = nI i := by
  rw [show k - i = (k - (i + 1)) + 1 by omega]
  unfold jdS
  rw [if_neg (by rw [h]; decide)]
theorem jdS_go {L : L8} {r k i : Nat} {c : Cm} (hi : i < k) (h : soB L c (r / 1000 ^ (k - 1 - i) % 1000 / 100) (r / 1000 ^ (k - 1 - i) % 1000 / 10 % 10) (r / 1000 ^ (k - 1 - i) % 1000 % 10) = true) : jdS L r k (k - i) i c = jdS L r k (k - (i + 1)) (i + 1) (soC L c (r / 1000 ^ (k - 1 - i) % 1000 / 100) (r / 1000 ^ (k - 1 - i) % 1000 / 10 % 10) (r / 1000 ^ (k - 1 - i) % 1000 % 10)) := by
  rw [show k - i = (k - (i + 1)) + 1 by omega]
  conv => lhs; unfold jdS
  rw [if_pos h]
def rN (row : Int64) : Nat := row.toInt.toNat
def juOk (y : Int32) (row : Int64) : Bool := decide (1 ≤ y.toInt ∧ y.toInt ≤ 4 ∧ 0 ≤ row.toInt ∧ rN row < 1000 ^ ix y)
def juR (L : L8) (c : Cm) (y : Int32) (row : Int64) : Int32 := if juOk y row = true then jdS L (rN row) (ix y) (ix y) 0 c else -2
theorem juOk_1 {y : Int32} {row : Int64} (h : y < nI 1) : juOk y row = false := by
  rw [Int32.lt_iff_toInt_lt, nI_toInt (by decide)] at h
  exact decide_eq_false (by omega)
theorem juOk_2 {y : Int32} {row : Int64} (h : nI 4 < y) : juOk y row = false := by
  rw [Int32.lt_iff_toInt_lt, nI_toInt (by decide)] at h
  exact decide_eq_false (by omega)
theorem juOk_3 {y : Int32} {row : Int64} (h : lg_cmp row (lN 0) < 0) : juOk y row = false := by
  rw [lg_cmp_lt, Int64.lt_iff_toInt_lt, pk_lT (by decide)] at h
  exact decide_eq_false (by omega)
theorem rN_l {r : Nat} (h : r < 2 ^ 63) : rN (lN r) = r := by
  unfold rN
  rw [pk_lT h]
  exact Int.toNat_natCast r
theorem juOk_4 {k r : Nat} (hk : k ≤ 4) (hr : r < 2 ^ 63) (h : ¬ lg_cmp (lN (r / 1000 ^ k)) (lN 0) = 0) : juOk (nI k) (lN r) = false := by
  refine decide_eq_false (fun q => h ?_)
  have h1 := q.2.2.2
  rw [rN_l hr, ix_nI (by omega)] at h1
  rw [Nat.div_eq_of_lt h1, lgK_eq (by decide) (by decide)]
theorem juOk_5 {k r : Nat} (hk1 : 1 ≤ k) (hk : k ≤ 4) (hr : r < 2 ^ 63) (h : lg_cmp (lN (r / 1000 ^ k)) (lN 0) = 0) : juOk (nI k) (lN r) = true := by
  rw [lgK_eq (Nat.lt_of_le_of_lt (Nat.div_le_self _ _) hr) (by decide)] at h
  have hp : 0 < 1000 ^ k := Nat.pow_pos (by decide)
  have h1 : r < 1000 ^ k := by
    rcases Nat.lt_or_ge r (1000 ^ k) with q | q
    · exact q
    · have := Nat.div_pos q hp; omega
  refine decide_eq_true ⟨?_, ?_, ?_, ?_⟩
  · rw [nI_toInt (by omega)]; omega
  · rw [nI_toInt (by omega)]; omega
  · rw [pk_lT hr]; omega
  · rw [rN_l hr, ix_nI (by omega)]; exact h1
theorem one4 {y : Int32} (h1 : ¬ y < nI 1) (h2 : ¬ nI 4 < y) : ∃ k, (1 ≤ k ∧ k ≤ 4) ∧ y = nI k := by
  rw [Int32.lt_iff_toInt_lt, nI_toInt (by decide)] at h1 h2
  refine ⟨y.toInt.toNat, by omega, ?_⟩
  apply Int32.toInt_inj.mp
  rw [nI_toInt (by omega)]
  omega
theorem row_t {row : Int64} (h : ¬ lg_cmp row (lN 0) < 0) : ∃ r, r < 2 ^ 63 ∧ row = lN r := by
  rw [lg_cmp_lt] at h
  exact pk_lOf h
theorem wl_eq {r : Nat} (hr : r < 2 ^ 63) : ∀ k, wlL (lN r) k = lN (r / 1000 ^ k)
  | 0 => by rw [Nat.pow_zero, Nat.div_one]; rfl
  | k + 1 => by
    show wlL (lN r) k / (lN 1000) = _
    rw [wl_eq hr k, pk_lDiv (Nat.lt_of_le_of_lt (Nat.div_le_self _ _) hr) (by decide) (by decide), Nat.div_div_eq_div_mul, Nat.pow_succ]
theorem V_topl {g : Gx} {E : MV} {M : MS} {A : Nat → Prop} {Q : State → Prop} {kc ks : Nat} {ws : va_W} {pc : Nat} {lv : List (Nat × Value)} {st : List Value} {x y : Int64} (h : x = y) (k : V g E M A Q kc ks ws pc lv (.long y :: st)) : V g E M A Q kc ks ws pc lv (.long x :: st) := by rw [h]; exact k
/-- shares -/
def shT (L : L8) (sk db : Nat → Int32) (e v : Nat) : Nat := (bcN (swN L (v ||| 2 ^ e) sk db) - bcN (swN L v sk db)) * facN (bcN v) * facN (L.2.1 - 1 - bcN v)
def shA (L : L8) (sk db : Nat → Int32) (e : Nat) : Nat → Nat
  | 0 => 0
  | v + 1 => if v / 2 ^ e % 2 = 0 then shA L sk db e v + shT L sk db e v else shA L sk db e v
theorem facN_le : ∀ n, n ≤ 5 → 1 ≤ facN n ∧ facN n ≤ 120 := by decide
theorem shT_le (L : L8) (hne : L.2.1 ≤ 5) (sk db : Nat → Int32) (e v : Nat) : shT L sk db e v ≤ 72000 := by
  unfold shT
  have h1 := bcN_le (swN L (v ||| 2 ^ e) sk db)
  have h2 := (facN_le (bcN v) (bcN_le v)).2
  have h3 := (facN_le (L.2.1 - 1 - bcN v) (by omega)).2
  calc _ ≤ 5 * 120 * 120 := Nat.mul_le_mul (Nat.mul_le_mul (by omega) h2) h3
    _ = 72000 := by decide
theorem shA_le (L : L8) (hne : L.2.1 ≤ 5) (sk db : Nat → Int32) (e : Nat) : ∀ v, shA L sk db e v ≤ v * 72000
  | 0 => Nat.le_refl _
  | v + 1 => by
    have h1 := shA_le L hne sk db e v
    have h2 := shT_le L hne sk db e v
    unfold shA
    rw [Nat.succ_mul]
    split
    · exact Nat.add_le_add h1 h2
    · exact Nat.le_trans h1 (Nat.le_add_right _ _)
theorem bc_less : ∀ n, n ≤ 5 → ∀ e, e < n → ∀ v, v < 2 ^ n → v / 2 ^ e % 2 = 0 → bcN v ≤ n - 1 := by decide +kernel
theorem bc_le : ∀ n, n ≤ 5 → ∀ v, v < 2 ^ n → bcN v ≤ n := by decide +kernel
theorem or_lt {n e v : Nat} (hn : n ≤ 5) (he : e < n) (hv : v < 2 ^ n) : v ||| 2 ^ e < 32 := by
  have h1 : 2 ^ n ≤ 32 := Nat.le_trans (Nat.pow_le_pow_right (by omega) hn) (by decide)
  have h2 : 2 ^ e < 2 ^ n := Nat.pow_lt_pow_right (by omega) he
  exact Nat.lt_of_lt_of_le (Nat.or_lt_two_pow hv h2) h1
def frR (a b : Nat) (u : Bool) : Int32 := nI ((if u = true then a else b) / Nat.gcd a b)
def shR (L : L8) (sk db : Nat → Int32) (x : Int32) (u : Bool) : Int32 := if hasN L.2.1 x = true then frR (shA L sk db (ix x) (2 ^ L.2.1)) (facN L.2.1) u else -1
/-- chances -/
def hmT (L : L8) (sk db : Nat → Int32) (f x v : Nat) : Nat := (10 - x) ^ bcN v * x ^ (L.2.1 - bcN v)
def hmA (L : L8) (sk db : Nat → Int32) (f x : Nat) : Nat → Nat
  | 0 => 0
  | v + 1 => if swN L v sk db / 2 ^ f % 2 = 1 then hmA L sk db f x v + hmT L sk db f x v else hmA L sk db f x v
theorem hmT_le (L : L8) (hne : L.2.1 ≤ 5) (sk db : Nat → Int32) (f : Nat) {x v : Nat} (hx : x ≤ 10) (hv : v < 2 ^ L.2.1) : hmT L sk db f x v ≤ 100000 := by
  unfold hmT
  have h1 := bc_le L.2.1 hne v hv
  calc (10 - x) ^ bcN v * x ^ (L.2.1 - bcN v) ≤ 10 ^ bcN v * 10 ^ (L.2.1 - bcN v) := Nat.mul_le_mul (Nat.pow_le_pow_left (by omega) _) (Nat.pow_le_pow_left hx _)
    _ = 10 ^ L.2.1 := by rw [← Nat.pow_add]; congr 1; omega
    _ ≤ 10 ^ 5 := Nat.pow_le_pow_right (by omega) hne
    _ = 100000 := by decide
theorem hmA_le (L : L8) (hne : L.2.1 ≤ 5) (sk db : Nat → Int32) (f : Nat) {x : Nat} (hx : x ≤ 10) : ∀ v, v ≤ 2 ^ L.2.1 → hmA L sk db f x v ≤ v * 100000
  | 0, _ => Nat.le_refl _
  | v + 1, hv => by
    have h1 := hmA_le L hne sk db f hx v (by omega)
    have h2 := hmT_le L hne sk db f hx (show v < 2 ^ L.2.1 by omega)
    unfold hmA
    rw [Nat.succ_mul]
    split
    · exact Nat.add_le_add h1 h2
    · exact Nat.le_trans h1 (Nat.le_add_right _ _)
def hmR (L : L8) (sk db : Nat → Int32) (x y : Int32) (u : Bool) : Int32 := if hasN L.1 x = true then (if rgB y 10 = true then frR (hmA L sk db (ix x) (ix y) (2 ^ L.2.1)) (10 ^ L.2.1) u else -2) else -1
/-- rests -/
def gzF (L : L8) (c : Cm) (a b f : Nat) (z : Nat → Int32) : Nat → Nat → Int32
  | 0 => z
  | v + 1 => upd (upd (gzF L c a b f z v) (2 * v) (ppG L c v a b f (ppA L c v a f) a)) (2 * v + 1) (ppG L c v a b f (ppB L c v a b f) b)
def rsN (z : Nat → Int32) : Nat → Nat
  | 0 => 0
  | v + 1 => if arB z v = true then rsN z v + 1 else rsN z v
def rsO (z : Nat → Int32) : Nat → Option Nat
  | 0 => none
  | v + 1 => if arB z v = true then (match rsO z v with | none => some (10 * (v / 2 ^ 1) + v % 2) | some k => some k) else rsO z v
theorem rsO_lt (z : Nat → Int32) : ∀ v k, v ≤ 4 → rsO z v = some k → k < 100
  | 0, k, _, h => by cases h
  | v + 1, k, hv, h => by
    unfold rsO at h
    split at h
    · cases hq : rsO z v with
      | none =>
        rw [hq] at h
        have := Option.some.inj h
        omega
      | some q =>
        rw [hq] at h
        have h1 := Option.some.inj h
        have h2 := rsO_lt z v q (by omega) hq
        omega
    · exact rsO_lt z v k (by omega) h
theorem rsN_le (z : Nat → Int32) : ∀ v, rsN z v ≤ v
  | 0 => Nat.le_refl _
  | v + 1 => by
    have := rsN_le z v
    unfold rsN
    split <;> omega
theorem rsN_t {z : Nat → Int32} {v : Nat} (h : arB z v = true) : rsN z (v + 1) = rsN z v + 1 := if_pos h
theorem rsN_f {z : Nat → Int32} {v : Nat} (h : arB z v = false) : rsN z (v + 1) = rsN z v := if_neg (by rw [h]; decide)
theorem rsO_t {z : Nat → Int32} {v : Nat} (h : arB z v = true) : rsO z (v + 1) = (match rsO z v with | none => some (10 * (v / 2 ^ 1) + v % 2) | some k => some k) := if_pos h
theorem rsO_f {z : Nat → Int32} {v : Nat} (h : arB z v = false) : rsO z (v + 1) = rsO z v := if_neg (by rw [h]; decide)
def rsR (L : L8) (c : Cm) (z : Nat → Int32) (x y f w : Int32) : Int32 := if hasN L.2.1 x = true then (if hasN L.2.1 y = true then (if hasN L.1 f = true then (if x = y then -2 else (if rgB w 1 = true then (if w = 0 then nI (rsN (gzF L c (ix x) (ix y) (ix f) z 4) 4) else oI (rsO (gzF L c (ix x) (ix y) (ix f) z 4) 4)) else -2)) else -1) else -1) else -1
/-- years by a seed -/
def uN (x : Int64) : Nat := x.toUInt64.toNat
theorem uN_inj {x y : Int64} (h : uN x = uN y) : x = y := congrArg UInt64.toInt64 (UInt64.toNat_inj.mp h)
theorem uN_shr (x : Int64) (s : UInt64) : uN (x.toUInt64 >>> s).toInt64 = uN x / 2 ^ (s.toNat % 64) := by
  show (x.toUInt64 >>> s).toNat = _
  rw [UInt64.toNat_shiftRight, Nat.shiftRight_eq_div_pow]
  rfl
def lotQ (x : Int64) : Nat := uN x / 2 ^ 33
theorem lotQ_lt (x : Int64) : lotQ x < 2 ^ 31 := by
  have : uN x < 18446744073709551616 := x.toUInt64.toNat_lt
  unfold lotQ
  omega
theorem lotQ_eq (x : Int64) : (x.toUInt64 >>> ((nI 33).toInt64.toUInt64 &&& Int64.toUInt64 63)).toInt64 = lN (lotQ x) := by
  apply uN_inj
  have h : ((nI 33).toInt64.toUInt64 &&& Int64.toUInt64 63).toNat % 64 = 33 := by decide
  have e : uN (lN (lotQ x)) = lotQ x % 2 ^ 64 := rfl
  rw [uN_shr, h, e, Nat.mod_eq_of_lt (Nat.lt_trans (lotQ_lt x) (by decide))]
  rfl
def nxS (s : Int64) : Int64 := s * (6364136223846793005 : Int64) + (1442695040888963407 : Int64)
def yrS (L : L8) (s : Int64) (c : Cm) : Nat → Int64 × Cm × Int32
  | 0 => (s, c, nI 0)
  | t + 1 => (nxS (yrS L s c t).1, lotC L (yrS L s c t).2.1 (lotQ (nxS (yrS L s c t).1) % 28), (yrS L s c t).2.2 + sumI (lotC L (yrS L s c t).2.1 (lotQ (nxS (yrS L s c t).1) % 28)).1 L.1)
def yeOk (y : Int32) : Bool := !decide (y < nI 1) && decide (y ≤ nI 30)
def yeR (L : L8) (s : Int64) (c : Cm) (y : Int32) : Int32 := if yeOk y = true then (yrS L s c (ix y)).2.2 else -2
theorem ye_t {y : Int32} (h1 : ¬ y < nI 1) (h2 : y ≤ nI 30) : ∃ k, k ≤ 30 ∧ y = nI k := by
  rw [Int32.lt_iff_toInt_lt, nI_toInt (by decide)] at h1
  rw [Int32.le_iff_toInt_le, nI_toInt (by decide)] at h2
  refine ⟨y.toInt.toNat, by omega, ?_⟩
  apply Int32.toInt_inj.mp
  rw [nI_toInt (by omega)]
  omega
