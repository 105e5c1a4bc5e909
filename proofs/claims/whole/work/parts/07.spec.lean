/-! the class's methods as plain functions of numbers -/
section VRet
variable {g : Gx} {E : MV} {M : MS} {A : Nat → Prop} {Q : State → Prop} {ws : va_W} {pc pc' : Nat} {lv : List (Nat × Value)} {w : va_W} {sz : Nat} {Po : Option Value → va_W → Prop} {l : Launch} {rm : Room}
theorem R_i {v : Int32} (hM : M.2.2.2 = some .int) (X : Ev E l rm A w sz) (hQ : Q = Qm g E w sz Po A) (hd : Nx M pc .ireturn 1 pc') (ha : ws.map Prod.fst = w.map Prod.fst) (hp : Po (some (.int v)) ws) : V g E M A Q 0 0 ws pc lv [.int v] := V_iret hM hd hp ha X hQ
theorem R_z {b : Bool} (hM : M.2.2.2 = some .boolean) (X : Ev E l rm A w sz) (hQ : Q = Qm g E w sz Po A) (hd : Nx M pc .ireturn 1 pc') (ha : ws.map Prod.fst = w.map Prod.fst) (hp : Po (some (.int (bI b))) ws) : V g E M A Q 0 0 ws pc lv [.int (bI b)] := V_zret hM hd hp ha X hQ
theorem R_l {v : Int64} (hM : M.2.2.2 = some .long) (X : Ev E l rm A w sz) (hQ : Q = Qm g E w sz Po A) (hd : Nx M pc .lreturn 1 pc') (ha : ws.map Prod.fst = w.map Prod.fst) (hp : Po (some (.long v)) ws) : V g E M A Q 0 0 ws pc lv [.long v] := V_lret hM hd hp ha X hQ
theorem R_v (hM : M.2.2.2 = none) (X : Ev E l rm A w sz) (hQ : Q = Qm g E w sz Po A) (hd : Nx M pc .return_ 1 pc') (ha : ws.map Prod.fst = w.map Prod.fst) (hp : Po none ws) : V g E M A Q 0 0 ws pc lv [] := V_vret hM hd hp ha X hQ
end VRet
theorem V_ldcw {g : Gx} {E : MV} {M : MS} {A : Nat → Prop} {Q : State → Prop} {kc ks : Nat} {ws : va_W} {pc pc' : Nat} {lv : List (Nat × Value)} {st : List Value} {index : Nat} {v : Int32} (hc : Cond.constant M.2.2.1 index v ∈ wds) (hd : Nx M pc (.ldc_w index) 3 pc') (kk : V g E M A Q kc ks ws pc' lv (.int v :: st)) : V g E M A Q kc ks ws pc lv st := by
  obtain ⟨hd, rfl⟩ := hd
  intro B ls H locs hl hP hD hS
  exact lv_ldcw B.1 B.2.1 B.2.2.2.1 (B.2.2.2.2.1 _ hc) hd (kk B ls H locs hl hP hD hS)
theorem nx_and1 (a : Nat) : nI a &&& nI 1 = nI (a % 2) := by rw [nx_and, Nat.and_one_is_mod]
def sumI (f : Nat → Int32) : Nat → Int32
  | 0 => nI 0
  | n + 1 => sumI f n + f n
def bitsN (f : Nat → Bool) : Nat → Nat
  | 0 => 0
  | n + 1 => bitsN f n ||| (if f n = true then 2 ^ n else 0)
theorem bitsN_lt (f : Nat → Bool) : ∀ n, bitsN f n < 2 ^ n
  | 0 => Nat.one_pos
  | n + 1 => by
    have h := bitsN_lt f n
    have h2 : 2 ^ n < 2 ^ (n + 1) := Nat.pow_lt_pow_right (by omega) (by omega)
    refine Nat.or_lt_two_pow (Nat.lt_trans h h2) ?_
    split
    · exact h2
    · exact Nat.pos_of_neZero _
/-- of an array, the first n places written -/
def fillI (f h : Nat → Int32) : Nat → Nat → Int32
  | 0 => h
  | n + 1 => upd (fillI f h n) n (f n)
theorem fillI_lt (f h : Nat → Int32) : ∀ n j, j < n → fillI f h n j = f j
  | n + 1, j, hj => by
    show (if j = n then f n else fillI f h n j) = f j
    by_cases e : j = n
    · rw [if_pos e, e]
    · rw [if_neg e]; exact fillI_lt f h n j (by omega)
theorem fillI_ge (f h : Nat → Int32) : ∀ n j, n ≤ j → fillI f h n j = h j
  | 0, _, _ => rfl
  | n + 1, j, hj => by
    show (if j = n then f n else fillI f h n j) = h j
    rw [if_neg (by omega)]; exact fillI_ge f h n j (by omega)
def hasN (n : Nat) (x : Int32) : Bool := !decide (x < 0) && !decide (nI n ≤ x)
def capI (v : Int32) : Int32 := if v < nI 99 then v else nI 99
def absI (x : Int32) : Int32 := if 0 ≤ x then x else 0 - x
/-- none is -9 -/
def oI : Option Nat → Int32
  | none => -9
  | some n => nI n
/-- an eater's debts together, over the first n fields -/
def debtS (db : Nat → Int32) (e n : Nat) : Int32 := sumI (fun f => db (e * 4 + f)) n
def isSw (nd sk : Nat → Int32) (f : Nat) : Bool := !decide (sk f < nd f)
def porN (kd : Nat → Int32) (e : Nat) : Nat := if decide (kd e = nI 2) = true then 2 else 1
def canT (kd lo db : Nat → Int32) (nf e f : Nat) : Bool := !decide (lo f < nI (porN kd e)) && !(decide (kd e = nI 3) && !decide (debtS db e nf ≤ 0))
/-- the nearest owed field below n, and its way -/
def nrO (pl db : Nat → Int32) (e : Nat) (a : Int32) : Nat → Option Nat × Int32
  | 0 => (none, nI 10)
  | n + 1 => if ¬ db (e * 4 + n) ≤ 0 ∧ ¬ (nrO pl db e a n).2 ≤ absI (pl n - a) then (some n, absI (pl n - a)) else nrO pl db e a n
theorem oI_ne {f n : Nat} (h : f < n) (hn : n ≤ 4) : ¬ oI (some f) = -9 := by
  have h4 : f < 4 := by omega
  have : ∀ f, f < 4 → ¬ nI f = -9 := by decide
  exact this f h4
theorem nrO_lt (pl db : Nat → Int32) (e : Nat) (a : Int32) : ∀ n f, (nrO pl db e a n).1 = some f → f < n
  | 0, f, h => by cases h
  | n + 1, f, h => by
    unfold nrO at h
    split at h
    · cases h; omega
    · have := nrO_lt pl db e a n f h; omega
/-- seed, debts, and one's own visits and way -/
abbrev G4 : Type := (Nat → Int32) × (Nat → Int32) × Int32 × Int32
/-- seed, debts, visits, ways -/
abbrev S4 : Type := (Nat → Int32) × (Nat → Int32) × (Nat → Int32) × (Nat → Int32)
theorem upd_upd (f : Nat → Int32) (k : Nat) (x y : Int32) : upd (upd f k x) k y = upd f k y := by
  funext j
  unfold upd
  split
  · rfl
  · rfl
def stepS (pl : Nat → Int32) (e f : Nat) (a : Int32) (s : G4) : G4 := (upd s.1 f (capI (s.1 f + s.2.1 (e * 4 + f))), upd s.2.1 (e * 4 + f) (nI 0), s.2.2.1 ||| nI (2 ^ f), s.2.2.2 + absI (pl f - a))
def goS (pl kd : Nat → Int32) (nf e : Nat) (wk : Int32) : Nat → Int32 → G4 → G4
  | 0, _, s => s
  | k + 1, a, s => match (nrO pl s.2.1 e a nf).1 with
    | none => s
    | some f => if ¬ kd e = nI 1 ∧ ¬ s.2.2.2 + absI (pl f - a) ≤ wk then s else goS pl kd nf e wk k (pl f) (stepS pl e f a s)
theorem goS_none {pl kd : Nat → Int32} {nf e : Nat} {wk : Int32} {i : Nat} (hi : i < 4) {a : Int32} {s : G4} (h : (nrO pl s.2.1 e a nf).1 = none) : goS pl kd nf e wk (4 - i) a s = s := by
  rw [show 4 - i = (3 - i) + 1 by omega]
  unfold goS
  rw [h]
theorem goS_stop {pl kd : Nat → Int32} {nf e : Nat} {wk : Int32} {i : Nat} (hi : i < 4) {a : Int32} {s : G4} {f : Nat} (h : (nrO pl s.2.1 e a nf).1 = some f) (hc : ¬ kd e = nI 1 ∧ ¬ s.2.2.2 + absI (pl f - a) ≤ wk) : goS pl kd nf e wk (4 - i) a s = s := by
  rw [show 4 - i = (3 - i) + 1 by omega]
  unfold goS
  rw [h]
  exact if_pos hc
theorem goS_go {pl kd : Nat → Int32} {nf e : Nat} {wk : Int32} {i : Nat} (hi : i < 4) {a : Int32} {s : G4} {f : Nat} (h : (nrO pl s.2.1 e a nf).1 = some f) (hc : ¬ (¬ kd e = nI 1 ∧ ¬ s.2.2.2 + absI (pl f - a) ≤ wk)) : goS pl kd nf e wk (4 - i) a s = goS pl kd nf e wk (4 - (i + 1)) (pl f) (stepS pl e f a s) := by
  rw [show 4 - i = (4 - (i + 1)) + 1 by omega]
  conv => lhs; unfold goS
  rw [h]
  exact if_neg hc
def sendS (pl hm kd : Nat → Int32) (nf e : Nat) (wk : Int32) (sk db : Nat → Int32) : G4 := goS pl kd nf e wk 4 (hm e) (sk, db, nI 0, nI 0)
/-- one's going put into the rows -/
def putS (e : Nat) (r : G4) (s : S4) : S4 := (r.1, r.2.1, upd s.2.2.1 e r.2.2.1, upd s.2.2.2 e r.2.2.2)
def marS (pl hm wk kd : Nat → Int32) (nf x : Nat) (s : S4) : Nat → S4
  | 0 => s
  | n + 1 => if x / 2 ^ n % 2 = 1 then putS n (sendS pl hm kd nf n (wk n) (marS pl hm wk kd nf x s n).1 (marS pl hm wk kd nf x s n).2.1) (marS pl hm wk kd nf x s n) else marS pl hm wk kd nf x s n
def reapS (yl nd lo sk : Nat → Int32) : Nat → (Nat → Int32) × (Nat → Int32)
  | 0 => (lo, sk)
  | n + 1 => (if isSw nd (reapS yl nd lo sk n).2 n = true then upd (reapS yl nd lo sk n).1 n (capI ((reapS yl nd lo sk n).1 n + yl n)) else (reapS yl nd lo sk n).1, upd (reapS yl nd lo sk n).2 n (nI 0))
