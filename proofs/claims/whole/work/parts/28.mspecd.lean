def doB (nf ne : Nat) (nd kd q : Nat → Int32) (t : Nat) : Bool := if t = 0 then true else if t = 100 then true else if t / 100 = 2 then etB nf ne kd q (nI (t / 10 % 10)) (nI (t % 10)) else if t / 100 = 3 then (decide (t / 10 % 10 = 0) && (hasN nf (nI (t % 10)) && decide (swP nd q nf / 2 ^ (t % 10) % 2 = 1))) else if t / 100 = 4 then (hasN nf (nI (t / 10 % 10)) && !decide (q (t / 10 % 10) < nI (t % 10))) else (decide (t / 100 = 5) && (hasN ne (nI (t / 10 % 10)) && (hasN nf (nI (t % 10)) && !decide (q (8 + 4 * (t / 10 % 10) + t % 10) ≤ 0))))
def doQ (nf ne : Nat) (pl yl nd hm wk kd q : Nat → Int32) (t : Nat) : Nat → Int32 := if t = 0 then mqP pl hm wk kd nf 31 q ne else if t = 100 then hvQ yl nd q nf else if t / 100 = 2 then etQ nf ne kd q (nI (t / 10 % 10)) (nI (t % 10)) else q
def jdM (nf ne : Nat) (pl yl nd hm wk kd : Nat → Int32) (r k : Nat) : Nat → Nat → (Nat → Int32) → Int32
  | 0, _, _ => -9
  | m + 1, i, q => if doB nf ne nd kd q (r / 1000 ^ (k - 1 - i) % 1000) = true then jdM nf ne pl yl nd hm wk kd r k m (i + 1) (doQ nf ne pl yl nd hm wk kd q (r / 1000 ^ (k - 1 - i) % 1000)) else nI i
theorem jdM_no {nf ne : Nat} {pl yl nd hm wk kd : Nat → Int32} {r k i : Nat} {q : Nat → Int32} (hi : i < k) (h : doB nf ne nd kd q (r / 1000 ^ (k - 1 - i) % 1000) = false) : jdM nf ne pl yl nd hm wk kd r k (k - i) i q = nI i := by
  rw [show k - i = (k - (i + 1)) + 1 by omega]
  unfold jdM
  rw [if_neg (by rw [h]; decide)]
theorem jdM_go {nf ne : Nat} {pl yl nd hm wk kd : Nat → Int32} {r k i : Nat} {q : Nat → Int32} (hi : i < k) (h : doB nf ne nd kd q (r / 1000 ^ (k - 1 - i) % 1000) = true) : jdM nf ne pl yl nd hm wk kd r k (k - i) i q = jdM nf ne pl yl nd hm wk kd r k (k - (i + 1)) (i + 1) (doQ nf ne pl yl nd hm wk kd q (r / 1000 ^ (k - 1 - i) % 1000)) := by
  rw [show k - i = (k - (i + 1)) + 1 by omega]
  conv => lhs; unfold jdM
  rw [if_pos h]
def juM (nf ne : Nat) (pl yl nd hm wk kd q : Nat → Int32) (y : Int32) (row : Int64) : Int32 := if juOk y row = true then jdM nf ne pl yl nd hm wk kd (rN row) (ix y) (ix y) 0 q else -2
theorem in14_f {y : Int32} {row : Int64} (h : inL y.toInt64 (lN 1) (lN 4) = false) : juOk y row = false := by
  refine decide_eq_false (fun q => ?_)
  have := (inL_iff (v := y.toInt64) (a := lN 1) (b := lN 4)).mpr (by rw [Int32.toInt_toInt64, pk_lT (by decide), pk_lT (by decide)]; omega)
  rw [this] at h
  cases h
theorem in14_t {y : Int32} (h : inL y.toInt64 (lN 1) (lN 4) = true) : ∃ k, (1 ≤ k ∧ k ≤ 4) ∧ y = nI k := by
  rw [inL_iff, Int32.toInt_toInt64, pk_lT (by decide), pk_lT (by decide)] at h
  refine ⟨y.toInt.toNat, by omega, ?_⟩
  apply Int32.toInt_inj.mp
  rw [nI_toInt (by omega)]
  omega
theorem inL_ju {k : Nat} (hk1 : 1 ≤ k) (hk : k ≤ 4) (row : Int64) : inL row (lN 0) (lN (1000 ^ k) - lN 1) = juOk (nI k) row := inL_b (by
  have hp : 1000 ^ k ≤ 1000 ^ 4 := Nat.pow_le_pow_right (by decide) hk
  have hp1 : 1 ≤ 1000 ^ k := Nat.one_le_pow _ _ (by decide)
  have hp2 : (1000 : Nat) ^ 4 < 2 ^ 63 := by decide
  unfold juOk
  rw [decide_eq_true_eq, nI_toInt (by omega), ix_nI (by omega), lN_sub hp1, pk_lT (by decide), pk_lT (by omega)]
  unfold rN
  omega)
theorem ju_row {k : Nat} {row : Int64} (h : juOk (nI k) row = true) : ∃ r, r < 2 ^ 63 ∧ row = lN r := by
  have h1 := of_decide_eq_true h
  refine ⟨row.toInt.toNat, by have := row.toInt_lt; omega, ?_⟩
  apply Int64.toInt_inj.mp
  rw [pk_lT (by have := row.toInt_lt; omega)]
  omega
/-- shares -/
def vaM (nf ne : Nat) (pl nd hm wk kd q : Nat → Int32) (v : Nat) : Nat := bcN (swP nd (mqP pl hm wk kd nf v q ne) nf)
def shMT (nf ne : Nat) (pl nd hm wk kd q : Nat → Int32) (e v : Nat) : Nat := facN (bcN v) * facN (ne - 1 - bcN v) * (vaM nf ne pl nd hm wk kd q (v ||| 2 ^ e) - vaM nf ne pl nd hm wk kd q v)
def shMA (nf ne : Nat) (pl nd hm wk kd q : Nat → Int32) (e : Nat) : Nat → Nat
  | 0 => 0
  | v + 1 => if v / 2 ^ e % 2 = 1 then shMA nf ne pl nd hm wk kd q e v else shMA nf ne pl nd hm wk kd q e v + shMT nf ne pl nd hm wk kd q e v
theorem shMT_le {nf ne : Nat} (hne : ne ≤ 5) (pl nd hm wk kd q : Nat → Int32) (e v : Nat) : shMT nf ne pl nd hm wk kd q e v ≤ 72000 := by
  unfold shMT
  have h1 := bcN_le (swP nd (mqP pl hm wk kd nf (v ||| 2 ^ e) q ne) nf)
  have h2 := (facN_le (bcN v) (bcN_le v)).2
  have h3 := (facN_le (ne - 1 - bcN v) (by omega)).2
  unfold vaM
  calc _ ≤ 120 * 120 * 5 := Nat.mul_le_mul (Nat.mul_le_mul h2 h3) (by omega)
    _ = 72000 := by decide
theorem shMA_le {nf ne : Nat} (hne : ne ≤ 5) (pl nd hm wk kd q : Nat → Int32) (e : Nat) : ∀ v, shMA nf ne pl nd hm wk kd q e v ≤ v * 72000
  | 0 => Nat.le_refl _
  | v + 1 => by
    have h1 := shMA_le (nf := nf) hne pl nd hm wk kd q e v
    have h2 := shMT_le (nf := nf) hne pl nd hm wk kd q e v
    unfold shMA
    rw [Nat.succ_mul]
    split
    · exact Nat.le_trans h1 (Nat.le_add_right _ _)
    · exact Nat.add_le_add h1 h2
def shMR (nf ne : Nat) (pl nd hm wk kd q : Nat → Int32) (x : Int32) (u : Bool) : Int32 := if hasN ne x = true then frR (shMA nf ne pl nd hm wk kd q (ix x) (2 ^ ne)) (facN ne) u else -1
def cmJ (f : Nat → Int32) (n : Nat) (q c : Int32) : Nat → Int32 := if cmOk q c = true then (if n < 6 then upd f n c else f) else f
theorem cmOk_rg (q c : Int32) : cmOk q c = (rgB q 9 && rgB c 1) := by
  have h : (!decide (nI 10 ≤ q)) = decide (q ≤ nI 9) := by
    rw [Bool.eq_iff_iff, Bool.not_eq_true', decide_eq_false_iff_not, decide_eq_true_eq, Int32.le_iff_toInt_le, Int32.le_iff_toInt_le, nI_toInt (by decide), nI_toInt (by decide)]
    omega
  unfold cmOk rgB
  rw [h, Bool.and_assoc]
/-- strangers -/
def alM (cp ci : Nat → Int32) (k : Nat) : Nat → Bool
  | 0 => true
  | i + 1 => alM cp ci k i && decide (bI (!decide (nI (k % 10) < apI (nI (k / 10)) (cp i))) = bI (decide (ci i = nI 1)))
theorem alM_t {cp ci : Nat → Int32} {k i : Nat} (h : alM cp ci k i = true) : alM cp ci k (i + 1) = decide (bI (!decide (nI (k % 10) < apI (nI (k / 10)) (cp i))) = bI (decide (ci i = nI 1))) := by
  show (alM cp ci k i && _) = _
  rw [h, Bool.true_and]
theorem alM_f {cp ci : Nat → Int32} {k i : Nat} (h : alM cp ci k i = false) : alM cp ci k (i + 1) = false := by
  show (alM cp ci k i && _) = _
  rw [h, Bool.false_and]
/-- how many are, and the first -/
def ctM (b : Nat → Bool) : Nat → Int32
  | 0 => nI 0
  | k + 1 => ctM b k + bI (b k)
def fsM (b : Nat → Bool) (v : Nat → Nat) : Nat → Int32
  | 0 => -9
  | k + 1 => if b k = true ∧ ctM b k = 0 then nI (v k) else fsM b v k
def stM (cp ci : Nat → Int32) (n : Nat) (x : Int32) : Int32 := if rgB x 1 = true then (if x = 0 then ctM (fun k => alM cp ci k n) 100 else fsM (fun k => alM cp ci k n) (fun k => k) 100) else -2
/-- rests -/
def rqA (nf ne : Nat) (kd q : Nat → Int32) (k a f : Nat) : Bool := decide (1 < k) && etB nf ne kd q (nI a) (nI f)
def rqC (nf ne : Nat) (kd q : Nat → Int32) (k a f : Nat) : Nat → Int32 := if 1 < k then etQ nf ne kd q (nI a) (nI f) else q
def rqB (nf ne : Nat) (kd q : Nat → Int32) (k a b f : Nat) : Bool := decide (k % 2 = 1) && etB nf ne kd (rqC nf ne kd q k a f) (nI b) (nI f)
def rqD (nf ne : Nat) (kd q : Nat → Int32) (k a b f : Nat) : Nat → Int32 := if k % 2 = 1 then etQ nf ne kd (rqC nf ne kd q k a f) (nI b) (nI f) else rqC nf ne kd q k a f
def rqG (nf ne : Nat) (pl nd hm wk kd q : Nat → Int32) (k a b f : Nat) (ate : Bool) (who : Nat) : Int32 := nI (if swP nd (mqP pl hm wk kd nf 31 (rqD nf ne kd q k a b f) ne) nf / 2 ^ f % 2 = 1 then 3 else 0) - faP pl hm wk kd nf 31 (rqD nf ne kd q k a b f) ne who + nI (if ate = true then 4 else 0)
def rqZ (nf ne : Nat) (pl nd hm wk kd q : Nat → Int32) (a b f : Nat) (z : Nat → Int32) : Nat → Nat → Int32
  | 0 => z
  | k + 1 => upd (upd (rqZ nf ne pl nd hm wk kd q a b f z k) (2 * k) (rqG nf ne pl nd hm wk kd q k a b f (rqA nf ne kd q k a f) a)) (2 * k + 1) (rqG nf ne pl nd hm wk kd q k a b f (rqB nf ne kd q k a b f) b)
def rqR (z : Nat → Int32) (k : Nat) : Bool := !decide (z (2 * k) < z (2 * (k ^^^ 2))) && !decide (z (2 * k + 1) < z (2 * (k ^^^ 1) + 1))
def rsM (nf ne : Nat) (pl nd hm wk kd q : Nat → Int32) (z : Nat → Int32) (x y f w : Int32) : Int32 := if hasN ne x = true then (if hasN ne y = true then (if hasN nf f = true then (if x = y then -2 else (if rgB w 1 = true then (if w = 0 then ctM (rqR (rqZ nf ne pl nd hm wk kd q (ix x) (ix y) (ix f) z 4)) 4 else fsM (rqR (rqZ nf ne pl nd hm wk kd q (ix x) (ix y) (ix f) z 4)) (fun k => 10 * (k / 2) + k % 2) 4) else -2)) else -1) else -1) else -1
theorem xm2 : ∀ k, k < 4 → 2 * (k ^^^ 2) < 8 := by decide
theorem xm1 : ∀ k, k < 4 → 2 * (k ^^^ 1) + 1 < 8 := by decide
/-- chances -/
theorem co31 : ∀ v, v < 32 → nI 31 &&& (nI v ^^^ -1) = nI (31 - v) := by decide +kernel
def hoT (nf ne : Nat) (pl nd hm wk kd q : Nat → Int32) (f x v : Nat) : Nat := if swP nd (mqP pl hm wk kd nf (31 - v) q ne) nf / 2 ^ f % 2 = 1 then x ^ bcN v * (10 - x) ^ (ne - bcN v) else 0
def hoA (nf ne : Nat) (pl nd hm wk kd q : Nat → Int32) (f x : Nat) : Nat → Nat
  | 0 => 0
  | v + 1 => hoA nf ne pl nd hm wk kd q f x v + hoT nf ne pl nd hm wk kd q f x v
theorem hoT_t {nf ne : Nat} {pl nd hm wk kd q : Nat → Int32} {f x v : Nat} (h : decide (swP nd (mqP pl hm wk kd nf (31 - v) q ne) nf / 2 ^ f % 2 = 1) = true) : hoT nf ne pl nd hm wk kd q f x v = x ^ bcN v * (10 - x) ^ (ne - bcN v) := if_pos (of_decide_eq_true h)
theorem hoT_f {nf ne : Nat} {pl nd hm wk kd q : Nat → Int32} {f x v : Nat} (h : decide (swP nd (mqP pl hm wk kd nf (31 - v) q ne) nf / 2 ^ f % 2 = 1) = false) : hoT nf ne pl nd hm wk kd q f x v = 0 := if_neg (of_decide_eq_false h)
theorem hoT_le {nf ne : Nat} (hne : ne ≤ 5) (pl nd hm wk kd q : Nat → Int32) (f : Nat) {x v : Nat} (hx : x ≤ 10) (hv : v < 2 ^ ne) : hoT nf ne pl nd hm wk kd q f x v ≤ 100000 := by
  unfold hoT
  have h1 := bc_le ne hne v hv
  split
  · calc x ^ bcN v * (10 - x) ^ (ne - bcN v) ≤ 10 ^ bcN v * 10 ^ (ne - bcN v) := Nat.mul_le_mul (Nat.pow_le_pow_left hx _) (Nat.pow_le_pow_left (by omega) _)
      _ = 10 ^ ne := by rw [← Nat.pow_add]; congr 1; omega
      _ ≤ 10 ^ 5 := Nat.pow_le_pow_right (by omega) hne
      _ = 100000 := by decide
  · exact Nat.zero_le _
theorem hoA_le {nf ne : Nat} (hne : ne ≤ 5) (pl nd hm wk kd q : Nat → Int32) (f : Nat) {x : Nat} (hx : x ≤ 10) : ∀ v, v ≤ 2 ^ ne → hoA nf ne pl nd hm wk kd q f x v ≤ v * 100000
  | 0, _ => Nat.le_refl _
  | v + 1, hv => by
    have h1 := hoA_le (nf := nf) hne pl nd hm wk kd q f hx v (by omega)
    have h2 := hoT_le (nf := nf) hne pl nd hm wk kd q f hx (show v < 2 ^ ne by omega)
    unfold hoA
    rw [Nat.succ_mul]
    exact Nat.add_le_add h1 h2
def hoR (nf ne : Nat) (pl nd hm wk kd q : Nat → Int32) (x y : Int32) (u : Bool) : Int32 := if hasN nf x = true then (if rgB y 10 = true then frR (hoA nf ne pl nd hm wk kd q (ix x) (ix y) (2 ^ ne)) (10 ^ ne) u else -2) else -1
/-- years -/
def lotT (x : Nat) : Nat := if x < 20 then 200 + 10 * (x / 4) + x % 4 else if x < 25 then 0 else 100
theorem lotT_lt {x : Nat} (h : x < 28) : lotT x < 1000 := by
  unfold lotT
  split
  · omega
  · split <;> omega
def yrM (nf ne : Nat) (pl yl nd hm wk kd : Nat → Int32) (s : Int64) (q : Nat → Int32) : Nat → Int64 × (Nat → Int32) × Int32
  | 0 => (s, q, nI 0)
  | t + 1 => (nxS (yrM nf ne pl yl nd hm wk kd s q t).1, doQ nf ne pl yl nd hm wk kd (yrM nf ne pl yl nd hm wk kd s q t).2.1 (lotT (lotQ (nxS (yrM nf ne pl yl nd hm wk kd s q t).1) % 28)), (yrM nf ne pl yl nd hm wk kd s q t).2.2 + lvP (doQ nf ne pl yl nd hm wk kd (yrM nf ne pl yl nd hm wk kd s q t).2.1 (lotT (lotQ (nxS (yrM nf ne pl yl nd hm wk kd s q t).1) % 28))))
def yeM (nf ne : Nat) (pl yl nd hm wk kd : Nat → Int32) (s : Int64) (q : Nat → Int32) (y : Int32) : Int32 := if yeOk y = true then (yrM nf ne pl yl nd hm wk kd s q (ix y)).2.2 else -2
theorem ye_n {y : Int32} (h : yeOk y = true) : ∃ k, k ≤ 30 ∧ y = nI k := by
  unfold yeOk at h
  rw [Bool.and_eq_true, Bool.not_eq_true', decide_eq_false_iff_not, decide_eq_true_eq] at h
  exact ye_t h.1 h.2
theorem kpB_rg (x : Int32) : rgB x 1 = kpB x := by
  unfold rgB kpB
  congr 1
  rw [decide_eq_decide, Int32.le_iff_toInt_le, Int32.lt_iff_toInt_lt, nI_toInt (by decide), nI_toInt (by decide)]
  omega
def kpQ (q k : Nat → Int32) (m : Nat) : Nat → Int32 := fun i => if 29 * m ≤ i ∧ i < 29 * m + 29 then q (i - 29 * m) else k i
theorem or_lt2 {n e v : Nat} (he : e < n) (hv : v < 2 ^ n) : v ||| 2 ^ e < 2 ^ n := Nat.or_lt_two_pow hv (Nat.pow_lt_pow_right (by omega) he)
