/-! the class's public methods as plain functions -/
def wrOk (x : Int32) : Bool := !decide (x < 0) && decide (x ≤ nI 255)
def wrR (n : Nat) (x : Int32) : Int32 := if wrOk x = true then (if n < 48 then nI (n + 1) else -4) else -2
def wrN (n : Nat) (x : Int32) : Nat := if wrOk x = true then (if n < 48 then n + 1 else n) else n
def wrF (F : Nat → Int32) (n : Nat) (x : Int32) : Nat → Int32 := if wrOk x = true then (if n < 48 then upd F n x else F) else F
def abR (L : L8) (lo sk db : Nat → Int32) (yr : Int32) (na nc n : Nat) (x : Int32) : Int32 := if x.toInt = 0 then nI L.1 else if x.toInt = 1 then nI L.2.1 else if x.toInt = 2 then yr else if x.toInt = 3 then sumI lo L.1 else if x.toInt = 4 then sumI sk L.1 else if x.toInt = 5 then sumI (fun e => debtS db e L.1) L.2.1 else if x.toInt = 6 then nI (bitsN (isSw L.2.2.2.2.1 sk) L.1) else if x.toInt = 7 then nI (swN L (allN L) sk db) else if x.toInt = 8 then nI na else if x.toInt = 9 then nI nc else if x.toInt = 10 then nI n else -2
def fiR (L : L8) (lo sk db : Nat → Int32) (x y : Int32) : Int32 := if hasN L.1 x = true then (if y.toInt = 0 then L.2.2.1 (ix x) else if y.toInt = 1 then L.2.2.2.1 (ix x) else if y.toInt = 2 then L.2.2.2.2.1 (ix x) else if y.toInt = 3 then lo (ix x) else if y.toInt = 4 then sk (ix x) else if y.toInt = 5 then nI (bitsN (fun e => !decide (db (e * 4 + ix x) ≤ 0)) L.2.1) else -2) else -1
/-- whom one would visit, how far one would walk -/
def viN (L : L8) (e : Nat) (sk db : Nat → Int32) : Int32 := (marS L.2.2.1 L.2.2.2.2.2.1 L.2.2.2.2.2.2.1 L.2.2.2.2.2.2.2 L.1 (allN L) (sk, db, z0, z0) L.2.1).2.2.1 e
def wyN (L : L8) (e : Nat) (sk db : Nat → Int32) : Int32 := (marS L.2.2.1 L.2.2.2.2.2.1 L.2.2.2.2.2.2.1 L.2.2.2.2.2.2.2 L.1 (allN L) (sk, db, z0, z0) L.2.1).2.2.2 e
theorem viN_eq {L : L8} (hne : L.2.1 ≤ 5) {e : Nat} (he : e < L.2.1) (sk db vi wy : Nat → Int32) : (marS L.2.2.1 L.2.2.2.2.2.1 L.2.2.2.2.2.2.1 L.2.2.2.2.2.2.2 L.1 (allN L) (sk, db, vi, wy) L.2.1).2.2.1 e = viN L e sk db := (marS_own L.2.2.1 L.2.2.2.2.2.1 L.2.2.2.2.2.2.1 L.2.2.2.2.2.2.2 L.1 (allN L) sk db vi wy z0 z0 (allN_bit hne he) L.2.1 he).1
theorem wyN_eq {L : L8} (hne : L.2.1 ≤ 5) {e : Nat} (he : e < L.2.1) (sk db vi wy : Nat → Int32) : (marS L.2.2.1 L.2.2.2.2.2.1 L.2.2.2.2.2.2.1 L.2.2.2.2.2.2.2 L.1 (allN L) (sk, db, vi, wy) L.2.1).2.2.2 e = wyN L e sk db := (marS_own L.2.2.1 L.2.2.2.2.2.1 L.2.2.2.2.2.2.1 L.2.2.2.2.2.2.2 L.1 (allN L) sk db vi wy z0 z0 (allN_bit hne he) L.2.1 he).2
def eaR (L : L8) (sk db : Nat → Int32) (x y : Int32) : Int32 := if hasN L.2.1 x = true then (if y.toInt = 0 then L.2.2.2.2.2.1 (ix x) else if y.toInt = 1 then L.2.2.2.2.2.2.1 (ix x) else if y.toInt = 2 then L.2.2.2.2.2.2.2 (ix x) else if y.toInt = 3 then debtS db (ix x) L.1 else if y.toInt = 4 then viN L (ix x) sk db else if y.toInt = 5 then wyN L (ix x) sk db else -2) else -1
def owR (L : L8) (db : Nat → Int32) (x y : Int32) : Int32 := if hasN L.2.1 x = true then (if hasN L.1 y = true then db (ix x * 4 + ix y) else -1) else -1
def etR (L : L8) (c : Cm) (e f : Int32) : Int32 := if hasN L.2.1 e = true then (if hasN L.1 f = true then (if canT L.2.2.2.2.2.2.2 c.1 c.2.2.1 L.1 (ix e) (ix f) = true then (takeC L (ix e) (ix f) c).2.2.1 (ix e * 4 + ix f) else -3) else -1) else -1
def ckB (L : L8) (c : Cm) (e f h : Int32) : Bool := hasN L.2.1 e && (hasN L.1 f && (hasN L.1 h && (!decide (f = h) && (canT L.2.2.2.2.2.2.2 c.1 c.2.2.1 L.1 (ix e) (ix f) && canT L.2.2.2.2.2.2.2 c.1 c.2.2.1 L.1 (ix e) (ix h)))))
def ckC (L : L8) (c : Cm) (e f h : Int32) : Cm := if ckB L c e f h = true then takeC L (ix e) (ix h) (takeC L (ix e) (ix f) c) else c
def ckR (L : L8) (c : Cm) (e f h : Int32) : Int32 := if hasN L.2.1 e = true then (if hasN L.1 f = true then (if hasN L.1 h = true then (if f = h then -2 else (if canT L.2.2.2.2.2.2.2 c.1 c.2.2.1 L.1 (ix e) (ix f) = true then (if canT L.2.2.2.2.2.2.2 c.1 c.2.2.1 L.1 (ix e) (ix h) = true then debtS (takeC L (ix e) (ix h) (takeC L (ix e) (ix f) c)).2.2.1 (ix e) L.1 else -3) else -3)) else -1) else -1) else -1
/-- the ring behind a new act -/
def rmK (fi co : Nat) : Nat := (rmF fi co + rmC co) % 14
def rmP (fi co : Nat) (c : Nat → Cm) (x : Cm) : Nat → Cm := va_up c (rmK fi co) (x.1, x.2.1, x.2.2.1, x.2.2.2.1, (c (rmK fi co)).2.2.2.2.1, (c (rmK fi co)).2.2.2.2.2)
def rgB (x : Int32) (n : Nat) : Bool := !decide (x < 0) && decide (x ≤ nI n)
def ahC (L : L8) (c : Cm) : Nat → Cm
  | 0 => c
  | n + 1 => reapC L (marC L (allN L) (ahC L c n))
def ahR (L : L8) (c : Cm) (x y : Int32) : Int32 := if hasN L.1 x = true then (if rgB y 9 = true then (ahC L c (ix y)).1 (ix x) else -2) else -1
def fewB (b : Option Nat) (v : Nat) : Bool := match b with
  | none => true
  | some k => decide (bcN v < bcN k)
def beO (L : L8) (c : Cm) (f : Nat) : Nat → Option Nat
  | 0 => none
  | v + 1 => if fewB (beO L c f v) v = true ∧ fedB L v f c = true then some v else beO L c f v
def waR (L : L8) (c : Cm) (x : Int32) : Int32 := if hasN L.1 x = true then oI (beO L c (ix x) (2 ^ L.2.1)) else -1
theorem beO_lt (L : L8) (c : Cm) (f : Nat) : ∀ v k, beO L c f v = some k → k < v
  | 0, k, h => by cases h
  | v + 1, k, h => by
    unfold beO at h
    split at h
    · cases h; omega
    · have := beO_lt L c f v k h; omega
theorem tkB_ok (L : L8) (c d : Cm) (h1 : c.1 = d.1) (h2 : c.2.2.1 = d.2.2.1) (e f : Int32) : tkB L c e f = tkB L d e f := by
  unfold tkB; rw [h1, h2]
theorem fedL_ind (L : L8) (v f : Nat) (lo sk db : Nat → Int32) (yr : Int32) (vi wy vi' wy' : Nat → Int32) : ∀ n, (fedL L v f (lo, sk, db, yr, vi, wy) n = none ∧ fedL L v f (lo, sk, db, yr, vi', wy') n = none) ∨ ∃ lo' db', fedL L v f (lo, sk, db, yr, vi, wy) n = some (lo', sk, db', yr, vi, wy) ∧ fedL L v f (lo, sk, db, yr, vi', wy') n = some (lo', sk, db', yr, vi', wy')
  | 0 => Or.inr ⟨lo, db, rfl, rfl⟩
  | n + 1 => by
    rcases fedL_ind L v f lo sk db yr vi wy vi' wy' n with ⟨h1, h2⟩ | ⟨lo', db', h1, h2⟩
    · exact Or.inl ⟨fedL_none (Nat.le_succ n) h1, fedL_none (Nat.le_succ n) h2⟩
    · by_cases hb : v / 2 ^ n % 2 = 1
      · cases ht : tkB L (lo', sk, db', yr, vi, wy) (nI n) (nI f) with
        | true =>
          obtain ⟨lo2, db2, e⟩ := tkC_rest L lo' sk db' yr vi wy (nI n) (nI f)
          exact Or.inr ⟨lo2, db2, by rw [fedL_yes h1 hb ht, e], by rw [fedL_yes h2 hb (by rw [← ht]; rfl), e]⟩
        | false => exact Or.inl ⟨fedL_no h1 hb ht, fedL_no h2 hb (by rw [← ht]; rfl)⟩
      · exact Or.inr ⟨lo', db', fedL_skip h1 hb, fedL_skip h2 hb⟩
theorem fedB_ind (L : L8) (v f : Nat) (lo sk db : Nat → Int32) (yr : Int32) (vi wy vi' wy' : Nat → Int32) : fedB L v f (lo, sk, db, yr, vi, wy) = fedB L v f (lo, sk, db, yr, vi', wy') := by
  rcases fedL_ind L v f lo sk db yr vi wy vi' wy' L.2.1 with ⟨h1, h2⟩ | ⟨lo', db', h1, h2⟩
  · unfold fedB; rw [h1, h2]
  · rw [fedB_yes h1, fedB_yes h2]
    unfold marC
    dsimp only
    rw [(marS_ind L.2.2.1 L.2.2.2.2.2.1 L.2.2.2.2.2.2.1 L.2.2.2.2.2.2.2 L.1 (allN L) sk db' vi wy vi' wy' L.2.1).1]
def riR (L : L8) (sk db : Nat → Int32) (x : Int32) : Int32 := if hasN L.2.1 x = true then (if L.2.2.2.2.2.2.2 (ix x) = nI 1 then 0 else (sendS L.2.2.1 L.2.2.2.2.2.1 L.2.2.2.2.2.2.2 L.1 (ix x) (nI 99) sk db).2.2.2) else -1
def cmOk (q c : Int32) : Bool := !decide (q < 0) && (!decide (nI 10 ≤ q) && (!decide (c < 0) && decide (c ≤ nI 1)))
def cmR (n : Nat) (q c : Int32) : Int32 := if cmOk q c = true then (if n < 6 then nI (n + 1) else -4) else -2
def cmN (n : Nat) (q c : Int32) : Nat := if cmOk q c = true then (if n < 6 then n + 1 else n) else n
def cmP (f : Nat → Int32) (n : Nat) (q c : Int32) : Nat → Int32 := if cmOk q c = true then (if n < 6 then upd f n q else f) else f
def cmI (f : Nat → Int32) (n : Nat) (q c : Int32) : Nat → Int32 := if cmOk q c = true then (if n < 6 then upd f n (bI (decide (c = nI 1))) else f) else f
def sgB (cp ci : Nat → Int32) (n v : Nat) : Bool := allowS cp ci (nI (v / 10)) (nI (v % 10)) n 0
def sgN (cp ci : Nat → Int32) (n : Nat) : Nat → Nat
  | 0 => 0
  | v + 1 => if sgB cp ci n v = true then sgN cp ci n v + 1 else sgN cp ci n v
def sgO (cp ci : Nat → Int32) (n : Nat) : Nat → Option Nat
  | 0 => none
  | v + 1 => if sgB cp ci n v = true then (match sgO cp ci n v with | none => some v | some k => some k) else sgO cp ci n v
theorem sgO_lt (cp ci : Nat → Int32) (n : Nat) : ∀ v k, sgO cp ci n v = some k → k < v
  | 0, k, h => by cases h
  | v + 1, k, h => by
    unfold sgO at h
    split at h
    · cases hq : sgO cp ci n v with
      | none =>
        rw [hq] at h
        have := Option.some.inj h
        omega
      | some q =>
        rw [hq] at h
        have h1 := Option.some.inj h
        have h2 := sgO_lt cp ci n v q hq
        omega
    · have := sgO_lt cp ci n v k h; omega
theorem sgN_le (cp ci : Nat → Int32) (n : Nat) : ∀ v, sgN cp ci n v ≤ v
  | 0 => Nat.le_refl _
  | v + 1 => by
    have := sgN_le cp ci n v
    unfold sgN
    split <;> omega
def stR (cp ci : Nat → Int32) (n : Nat) (x : Int32) : Int32 := if rgB x 1 = true then (if x = 0 then nI (sgN cp ci n 100) else oI (sgO cp ci n 100)) else -2
def kpB (x : Int32) : Bool := !decide (x < 0) && decide (x < nI 2)
theorem kpB_t {x : Int32} (h1 : ¬ x < 0) (h2 : x < nI 2) : ∃ k, k < 2 ∧ x = nI k := by
  obtain ⟨j, hj, rfl⟩ := nI_of h1
  exact ⟨j, (nI_ltI hj (by decide)).mp h2, rfl⟩
theorem beO_t {L : L8} {c : Cm} {f v : Nat} (h1 : fewB (beO L c f v) v = true) (h2 : fedB L v f c = true) : beO L c f (v + 1) = some v := if_pos ⟨h1, h2⟩
theorem beO_f1 {L : L8} {c : Cm} {f v : Nat} (h1 : fewB (beO L c f v) v = false) : beO L c f (v + 1) = beO L c f v := if_neg (fun q => by rw [h1] at q; exact absurd q.1 (by decide))
theorem beO_f2 {L : L8} {c : Cm} {f v : Nat} (h2 : fedB L v f c = false) : beO L c f (v + 1) = beO L c f v := if_neg (fun q => by rw [h2] at q; exact absurd q.2 (by decide))
theorem sgN_t {cp ci : Nat → Int32} {n v : Nat} (h : sgB cp ci n v = true) : sgN cp ci n (v + 1) = sgN cp ci n v + 1 := if_pos h
theorem sgN_f {cp ci : Nat → Int32} {n v : Nat} (h : sgB cp ci n v = false) : sgN cp ci n (v + 1) = sgN cp ci n v := if_neg (by rw [h]; decide)
theorem sgO_t {cp ci : Nat → Int32} {n v : Nat} (h : sgB cp ci n v = true) : sgO cp ci n (v + 1) = (match sgO cp ci n v with | none => some v | some k => some k) := if_pos h
theorem sgO_f {cp ci : Nat → Int32} {n v : Nat} (h : sgB cp ci n v = false) : sgO cp ci n (v + 1) = sgO cp ci n v := if_neg (by rw [h]; decide)
