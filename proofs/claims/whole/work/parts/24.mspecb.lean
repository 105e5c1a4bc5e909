theorem rcV_t {F : Nat → Int32} {n : Nat} {RF RE : Nat → Int32} (h : ¬ n = 0) (h2 : F 0 = nI 70) : rcV F n RF RE = rcS F n 12 (1, 0, 0, RF, RE) := if_pos ⟨h, h2⟩
theorem rcS_le (F : Nat → Int32) (n : Nat) : ∀ k (s : S5), s.2.1 ≤ 4 → s.2.2.1 ≤ 5 → (rcS F n k s).2.2.1 ≤ 4 ∧ (rcS F n k s).2.2.2.1 ≤ 5
  | 0, s, h4, h5 => ⟨h4, h5⟩
  | k + 1, s, h4, h5 => by
    unfold rcS
    by_cases h : s.1 < n
    · rw [if_pos h]
      have hk := rt_ok (F := F) h h4 h5
      split
      · exact rcS_le F n k _ hk.2.1 hk.2.2
      · exact hk.2
    · rw [if_neg h]
      exact ⟨h4, h5⟩
theorem rcV_le (F : Nat → Int32) (n : Nat) (RF RE : Nat → Int32) : (rcV F n RF RE).2.2.1 ≤ 4 ∧ (rcV F n RF RE).2.2.2.1 ≤ 5 := by
  unfold rcV
  split
  · exact rcS_le F n 12 _ (Nat.zero_le _) (Nat.zero_le _)
  · exact ⟨Nat.zero_le _, Nat.zero_le _⟩
theorem rcS_1 (F : Nat → Int32) (n : Nat) (hn : n ≤ 48) : ∀ k (s : S5), s.1 ≤ n → s.2.1 ≤ 4 → s.2.2.1 ≤ 5 → (rcS F n k s).2.1 ≤ n
  | 0, s, h, h4, h5 => h
  | k + 1, s, h, h4, h5 => by
    unfold rcS
    by_cases h : s.1 < n
    · rw [if_pos h]
      have hk := rt_ok (F := F) h h4 h5
      split
      · exact rcS_1 F n hn k _ hk.1 hk.2.1 hk.2.2
      · exact hk.1
    · rw [if_neg h]
      assumption
theorem rcV_1 (F : Nat → Int32) {n : Nat} (hn : n ≤ 48) (RF RE : Nat → Int32) : (rcV F n RF RE).2.1 ≤ 48 := by
  unfold rcV
  split
  · rename_i h
    exact Nat.le_trans (rcS_1 F n hn 12 _ (by show 1 ≤ n; omega) (Nat.zero_le _) (Nat.zero_le _)) hn
  · exact Nat.zero_le _
def rcR (r : Bool × S5) : Int32 := if r.1 = true then -9 else nI r.2.1
theorem rcR_9 {r : Bool × S5} (hr : r.2.1 ≤ 48) : rcR r = -9 ↔ r.1 = true := by
  unfold rcR
  split
  · rename_i h; exact ⟨fun _ => h, fun _ => rfl⟩
  · rename_i h; exact ⟨fun q => absurd q (oI_ne9 (k := r.2.1) (by omega)), fun q => absurd q h⟩
def oaP (q : Nat → Int32) (e : Nat) : Int32 := q (8 + 4 * e + 0) + q (8 + 4 * e + 1) + q (8 + 4 * e + 2) + q (8 + 4 * e + 3)
def lvP (q : Nat → Int32) : Int32 := q 0 + q 1 + q 2 + q 3
/-- the nearest owed field, from the last one down -/
def nmC (pl : Nat → Int32) (a : Int32) (b : Option Nat) (f : Nat) : Bool := match b with
  | none => true
  | some k => !decide (apI a (pl k) < apI a (pl f))
def nmS (pl q : Nat → Int32) (e : Nat) (a : Int32) (n : Nat) : Nat → Option Nat
  | 0 => none
  | k + 1 => if ¬ q (8 + 4 * e + (n - 1 - k)) ≤ 0 ∧ nmC pl a (nmS pl q e a n k) (n - 1 - k) = true then some (n - 1 - k) else nmS pl q e a n k
theorem nmS_lt (pl q : Nat → Int32) (e : Nat) (a : Int32) (n : Nat) : ∀ k f, k ≤ n → nmS pl q e a n k = some f → f < n ∧ ¬ q (8 + 4 * e + f) ≤ 0
  | 0, f, _, h => by cases h
  | k + 1, f, hk, h => by
    unfold nmS at h
    split at h
    · rename_i hc
      have := Option.some.inj h
      subst this
      exact ⟨by omega, hc.1⟩
    · exact nmS_lt pl q e a n k f (by omega) h
theorem nmS_s {pl q : Nat → Int32} {e : Nat} {a : Int32} {n f : Nat} (h : f < n) : nmS pl q e a n (n - f) = if ¬ q (8 + 4 * e + f) ≤ 0 ∧ nmC pl a (nmS pl q e a n (n - (f + 1))) f = true then some f else nmS pl q e a n (n - (f + 1)) := by
  rw [show n - f = (n - (f + 1)) + 1 by omega]
  conv => lhs; unfold nmS
  rw [show n - 1 - (n - (f + 1)) = f by omega]
theorem nmS_1 {pl q : Nat → Int32} {e : Nat} {a : Int32} {n f : Nat} (h : f < n) (h2 : (!decide (q (8 + 4 * e + f) ≤ 0)) = false) : nmS pl q e a n (n - f) = nmS pl q e a n (n - (f + 1)) := by
  rw [nmS_s h, if_neg]
  intro hc
  rw [Bool.not_eq_false', decide_eq_true_eq] at h2
  exact hc.1 h2
theorem nmS_2 {pl q : Nat → Int32} {e : Nat} {a : Int32} {n f : Nat} (h : f < n) (h2 : (!decide (q (8 + 4 * e + f) ≤ 0)) = true) (h3 : nmC pl a (nmS pl q e a n (n - (f + 1))) f = true) : nmS pl q e a n (n - f) = some f := by
  rw [nmS_s h, if_pos]
  rw [Bool.not_eq_true', decide_eq_false_iff_not] at h2
  exact ⟨h2, h3⟩
theorem nmS_3 {pl q : Nat → Int32} {e : Nat} {a : Int32} {n f : Nat} (h : f < n) (h3 : nmC pl a (nmS pl q e a n (n - (f + 1))) f = false) : nmS pl q e a n (n - f) = nmS pl q e a n (n - (f + 1)) := by
  rw [nmS_s h, if_neg]
  intro hc
  rw [h3] at hc
  exact absurd hc.2 (by decide)
theorem nI_pm (n : Nat) : nI (n + 1) - nI 1 = nI n := by rw [pk_sub (by omega), Nat.add_sub_cancel]
theorem nI_d1 (a : Nat) : nI a + Int32.ofInt (-1) = nI a - nI 1 := by
  rw [Int32.sub_eq_add_neg]
  rfl
theorem dc_0 {n : Nat} (h : nI n - nI 1 < 0) (hn : n < 2 ^ 30) : n = 0 := by
  rw [Int32.lt_iff_toInt_lt, pk_sub_toInt hn (by decide), show (0 : Int32).toInt = 0 from rfl] at h
  omega
theorem dc_1 {n : Nat} (h : ¬ nI n - nI 1 < 0) (hn : n < 2 ^ 30) : ∃ m, n = m + 1 := by
  rw [Int32.lt_iff_toInt_lt, pk_sub_toInt hn (by decide), show (0 : Int32).toInt = 0 from rfl] at h
  exact ⟨n - 1, by omega⟩
theorem oI_s (n : Nat) : oI (some n) = nI n := rfl
/-- how many fields one owes -/
def cnP (q : Nat → Int32) (e : Nat) : Nat → Nat
  | 0 => 0
  | n + 1 => cnP q e n + (if q (8 + 4 * e + n) ≤ 0 then 0 else 1)
theorem cnP_le (q : Nat → Int32) (e : Nat) : ∀ n, cnP q e n ≤ n
  | 0 => Nat.le_refl _
  | n + 1 => by
    have := cnP_le q e n
    unfold cnP
    split <;> omega
theorem cnP_same {q r : Nat → Int32} {e : Nat} : ∀ n, (∀ k, k < n → r (8 + 4 * e + k) = q (8 + 4 * e + k)) → cnP r e n = cnP q e n
  | 0, _ => rfl
  | n + 1, h => by
    unfold cnP
    rw [cnP_same n (fun k hk => h k (by omega)), h n (by omega)]
theorem cnP_upd {q r : Nat → Int32} {e f : Nat} (h1 : ∀ k, k ≠ f → r (8 + 4 * e + k) = q (8 + 4 * e + k)) (h2 : r (8 + 4 * e + f) = nI 0) (h3 : ¬ q (8 + 4 * e + f) ≤ 0) : ∀ n, f < n → cnP r e n + 1 = cnP q e n
  | 0, h => absurd h (Nat.not_lt_zero _)
  | n + 1, h => by
    unfold cnP
    by_cases c : f = n
    · subst c
      rw [cnP_same f (fun k hk => h1 k (by omega)), h2, if_neg h3, if_pos (show nI 0 ≤ 0 by decide)]
    · have := cnP_upd h1 h2 h3 n (by omega)
      rw [h1 n (by omega)]
      omega
abbrev P3 : Type := (Nat → Int32) × Int32 × Int32
def stP (q : Nat → Int32) (e f : Nat) : Nat → Int32 := upd (upd q (4 + f) (capI (q (4 + f) + q (8 + 4 * e + f)))) (8 + 4 * e + f) (nI 0)
def gsP (pl kd : Nat → Int32) (nf e : Nat) : Nat → Int32 → Int32 → P3 → P3
  | 0, _, _, s => s
  | k + 1, a, y, s => match nmS pl s.1 e a nf nf with
    | none => s
    | some f => if kd e = nI 1 ∨ apI a (pl f) ≤ y then gsP pl kd nf e k (pl f) (y - apI a (pl f)) (stP s.1 e f, s.2.1 ||| nI (2 ^ f), s.2.2 + apI a (pl f)) else s
theorem gsP_none {pl kd : Nat → Int32} {nf e k : Nat} {a y : Int32} {s : P3} (h : nmS pl s.1 e a nf nf = none) : gsP pl kd nf e k a y s = s := by
  cases k with
  | zero => rfl
  | succ k => unfold gsP; rw [h]
theorem gsP_stop {pl kd : Nat → Int32} {nf e k f : Nat} {a y : Int32} {s : P3} (h : nmS pl s.1 e a nf nf = some f) (h1 : ¬ kd e = nI 1) (h2 : ¬ apI a (pl f) ≤ y) : gsP pl kd nf e k a y s = s := by
  cases k with
  | zero => rfl
  | succ k =>
    unfold gsP
    rw [h]
    exact if_neg (fun q => q.elim h1 h2)
theorem gsP_go {pl kd : Nat → Int32} {nf e k f : Nat} (hk : 1 ≤ k) {a y : Int32} {s : P3} (h : nmS pl s.1 e a nf nf = some f) (h1 : kd e = nI 1 ∨ apI a (pl f) ≤ y) : gsP pl kd nf e k a y s = gsP pl kd nf e (k - 1) (pl f) (y - apI a (pl f)) (stP s.1 e f, s.2.1 ||| nI (2 ^ f), s.2.2 + apI a (pl f)) := by
  cases k with
  | zero => omega
  | succ k =>
    conv => lhs; unfold gsP
    rw [h]
    exact if_pos h1
theorem stP_cn {q : Nat → Int32} {e f n : Nat} (hf : f < n) (hn : n ≤ 4) (h3 : ¬ q (8 + 4 * e + f) ≤ 0) : cnP (stP q e f) e n + 1 = cnP q e n := by
  refine cnP_upd (f := f) (fun k hk => ?_) ?_ h3 n hf
  · unfold stP
    rw [pk_un (by omega), pk_un (by omega)]
  · unfold stP
    rw [pk_us]
def gsI (pl hm kd : Nat → Int32) (nf e : Nat) (y : Int32) (q : Nat → Int32) : P3 := gsP pl kd nf e 4 (hm e) y (q, nI 0, nI 0)
abbrev P2 : Type := (Nat → Int32) × (Nat → Int32) × Int32
def mrP (pl hm wk kd : Nat → Int32) (nf x : Nat) (s : P2) : Nat → P2
  | 0 => s
  | n + 1 => if x / 2 ^ n % 2 = 1 then ((gsI pl hm kd nf n (wk n) (mrP pl hm wk kd nf x s n).1).1, upd (upd (mrP pl hm wk kd nf x s n).2.1 n (nI 0)) n (gsI pl hm kd nf n (wk n) (mrP pl hm wk kd nf x s n).1).2.2, (gsI pl hm kd nf n (wk n) (mrP pl hm wk kd nf x s n).1).2.2) else ((mrP pl hm wk kd nf x s n).1, upd (mrP pl hm wk kd nf x s n).2.1 n (nI 0), (mrP pl hm wk kd nf x s n).2.2)
/-- a march's page, and one's way in it, hang on nothing that lay there -/
def mqP (pl hm wk kd : Nat → Int32) (nf x : Nat) (q : Nat → Int32) (ne : Nat) : Nat → Int32 := (mrP pl hm wk kd nf x (q, z0, nI 0) ne).1
def faP (pl hm wk kd : Nat → Int32) (nf x : Nat) (q : Nat → Int32) (ne e : Nat) : Int32 := (mrP pl hm wk kd nf x (q, z0, nI 0) ne).2.1 e
theorem mrP_1 (pl hm wk kd : Nat → Int32) (nf x : Nat) (q r : Nat → Int32) (w : Int32) : ∀ n, (mrP pl hm wk kd nf x (q, r, w) n).1 = mqP pl hm wk kd nf x q n
  | 0 => rfl
  | n + 1 => by
    have h := mrP_1 pl hm wk kd nf x q r w n
    unfold mqP at h ⊢
    unfold mrP
    split
    · dsimp only; rw [h]
    · exact h
theorem mrP_2 (pl hm wk kd : Nat → Int32) (nf x : Nat) (q r : Nat → Int32) (w : Int32) {e : Nat} : ∀ n, e < n → (mrP pl hm wk kd nf x (q, r, w) n).2.1 e = faP pl hm wk kd nf x q n e
  | 0, h => absurd h (Nat.not_lt_zero _)
  | n + 1, h => by
    have h1 := mrP_1 pl hm wk kd nf x q r w n
    unfold mqP at h1
    unfold faP
    unfold mrP
    by_cases c : e = n
    · subst c
      split
      · dsimp only; rw [h1, pk_us, pk_us]
      · dsimp only; rw [pk_us, pk_us]
    · have h2 := mrP_2 pl hm wk kd nf x q r w (e := e) n (by omega)
      unfold faP at h2
      split
      · dsimp only; rw [pk_un c, pk_un c, pk_un c, pk_un c]; exact h2
      · dsimp only; rw [pk_un c, pk_un c]; exact h2
def swP (nd : Nat → Int32) (q : Nat → Int32) (nf : Nat) : Nat := bitsN (isSw nd (fun f => q (4 + f))) nf
theorem swP_lt {nf : Nat} (h : nf ≤ 4) (nd q : Nat → Int32) : swP nd q nf < 16 := Nat.lt_of_lt_of_le (bitsN_lt _ _) (Nat.pow_le_pow_right (by omega) h)
def hvP (yl q : Nat → Int32) (s : Nat) : Nat → Nat → Int32
  | 0 => q
  | n + 1 => upd (upd (hvP yl q s n) n (if s / 2 ^ n % 2 = 1 then capI (hvP yl q s n n + yl n) else hvP yl q s n n)) (4 + n) (nI 0)
theorem hvP_t {yl q : Nat → Int32} {s n : Nat} (h : decide (s / 2 ^ n % 2 = 1) = true) : hvP yl q s (n + 1) = upd (upd (hvP yl q s n) n (capI (hvP yl q s n n + yl n))) (4 + n) (nI 0) := by
  show upd (upd _ _ (if _ then _ else _)) _ _ = _
  rw [if_pos (of_decide_eq_true h)]
theorem hvP_f {yl q : Nat → Int32} {s n : Nat} (h : decide (s / 2 ^ n % 2 = 1) = false) : hvP yl q s (n + 1) = upd (upd (hvP yl q s n) n (hvP yl q s n n)) (4 + n) (nI 0) := by
  show upd (upd _ _ (if _ then _ else _)) _ _ = _
  rw [if_neg (of_decide_eq_false h)]
def hvQ (yl nd q : Nat → Int32) (nf : Nat) : Nat → Int32 := upd (hvP yl q (swP nd q nf) nf) 28 (hvP yl q (swP nd q nf) nf 28 + nI 1)
