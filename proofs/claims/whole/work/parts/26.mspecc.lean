theorem nhas {n : Nat} {x : Int32} (h : (!hasN n x) = false) (hn : n < 2 ^ 31) : ∃ f, f < n ∧ x = nI f := hasN_t (by rw [Bool.not_eq_false'] at h; exact h) hn
def abM (nf ne ac cm ts : Nat) (pl nd hm wk kd q : Nat → Int32) (x : Int32) : Int32 := if x.toInt = 0 then nI nf else if x.toInt = 1 then nI ne else if x.toInt = 2 then q 28 else if x.toInt = 3 then lvP q else if x.toInt = 4 then q 4 + q 5 + q 6 + q 7 else if x.toInt = 5 then sumI (oaP q) ne else if x.toInt = 6 then nI (swP nd q nf) else if x.toInt = 7 then nI (swP nd (mqP pl hm wk kd nf 31 q ne) nf) else if x.toInt = 8 then nI ac else if x.toInt = 9 then nI cm else if x.toInt = 10 then nI ts else -2
def fiM (nf ne : Nat) (pl yl nd q : Nat → Int32) (x y : Int32) : Int32 := if hasN nf x = true then (if y.toInt = 0 then pl (ix x) else if y.toInt = 1 then yl (ix x) else if y.toInt = 2 then nd (ix x) else if y.toInt = 3 then q (ix x) else if y.toInt = 4 then q (4 + ix x) else if y.toInt = 5 then nI (bitsN (fun e => !decide (q (8 + 4 * e + ix x) ≤ 0)) ne) else -2) else -1
def eaM (nf ne : Nat) (pl hm wk kd q : Nat → Int32) (x y : Int32) : Int32 := if hasN ne x = true then (if y = nI 4 then (gsI pl hm kd nf (ix x) (wk (ix x)) q).2.1 else if y = nI 5 then (gsI pl hm kd nf (ix x) (wk (ix x)) q).2.2 else if y.toInt = 0 then hm (ix x) else if y.toInt = 1 then wk (ix x) else if y.toInt = 2 then kd (ix x) else if y.toInt = 3 then oaP q (ix x) else -2) else -1
def owM (nf ne : Nat) (q : Nat → Int32) (x y : Int32) : Int32 := if hasN ne x = true then (if hasN nf y = true then q (8 + 4 * ix x + ix y) else -1) else -1
def fillO (f h : Nat → Int32) (o : Nat) : Nat → Nat → Int32
  | 0 => h
  | n + 1 => upd (fillO f h o n) (o + n) (f n)
theorem fillI_eq (f h : Nat → Int32) (n i : Nat) : fillI f h n i = if i < n then f i else h i := by
  split
  · rename_i c; exact fillI_lt f h n i c
  · rename_i c; exact fillI_ge f h n i (by omega)
theorem fillO_eq (f h : Nat → Int32) (o : Nat) : ∀ n i, fillO f h o n i = if o ≤ i ∧ i < o + n then f (i - o) else h i
  | 0, i => by rw [if_neg (by omega)]; rfl
  | n + 1, i => by
    show upd (fillO f h o n) (o + n) (f n) i = _
    by_cases c : i = o + n
    · subst c
      rw [pk_us, if_pos (by omega), Nat.add_sub_cancel_left]
    · rw [pk_un c, fillO_eq f h o n i]
      by_cases d : o ≤ i ∧ i < o + n
      · rw [if_pos d, if_pos (by omega)]
      · rw [if_neg d, if_neg (by omega)]
def ntK (k : Nat → Int32) (ac : Nat) : Nat → Int32 := if ac = 14 then (fun i => if i < 377 then k (i + 29) else k i) else k
def ntB (q k : Nat → Int32) (ac : Nat) : Nat → Int32 := fun i => if 29 * rmC ac ≤ i ∧ i < 29 * rmC ac + 29 then q (i - 29 * rmC ac) else ntK k ac i
def ceP (kd q : Nat → Int32) (e f : Nat) : Bool := !decide (q f < nI (porN kd e)) && (!decide (kd e = nI 3) || decide (oaP q e = 0))
def geP (kd q : Nat → Int32) (e f : Nat) : Nat → Int32 := upd (upd q f (q f - nI (porN kd e))) (8 + 4 * e + f) (capI (upd q f (q f - nI (porN kd e)) (8 + 4 * e + f) + nI (porN kd e)))
/-- whether one eats, and the page behind it -/
def etB (nf ne : Nat) (kd q : Nat → Int32) (e f : Int32) : Bool := hasN ne e && (hasN nf f && ceP kd q (ix e) (ix f))
def etQ (nf ne : Nat) (kd q : Nat → Int32) (e f : Int32) : Nat → Int32 := if etB nf ne kd q e f = true then geP kd q (ix e) (ix f) else q
def etM (nf ne : Nat) (kd q : Nat → Int32) (e f : Int32) : Int32 := if hasN ne e = true then (if hasN nf f = true then (if ceP kd q (ix e) (ix f) = true then geP kd q (ix e) (ix f) (8 + 4 * ix e + ix f) else -3) else -1) else -1
def ckMB (nf ne : Nat) (kd q : Nat → Int32) (e f h : Int32) : Bool := hasN ne e && (hasN nf f && (hasN nf h && (!decide (f = h) && (ceP kd q (ix e) (ix f) && ceP kd q (ix e) (ix h)))))
def ckMQ (nf ne : Nat) (kd q : Nat → Int32) (e f h : Int32) : Nat → Int32 := if ckMB nf ne kd q e f h = true then geP kd (geP kd q (ix e) (ix f)) (ix e) (ix h) else q
def ckMR (nf ne : Nat) (kd q : Nat → Int32) (e f h : Int32) : Int32 := if hasN ne e = true then (if hasN nf f = true then (if hasN nf h = true then (if f = h then -2 else (if ceP kd q (ix e) (ix f) = true then (if ceP kd q (ix e) (ix h) = true then oaP (geP kd (geP kd q (ix e) (ix f)) (ix e) (ix h)) (ix e) else -3) else -3)) else -1) else -1) else -1
abbrev W7 : Type := Nat × Nat × (Nat → Int32) × (Nat → Int32) × (Nat → Int32) × (Nat → Int32) × (Nat → Int32)
def ahM (nf ne : Nat) (pl yl nd hm wk kd q : Nat → Int32) : Nat → Nat → Int32
  | 0 => q
  | n + 1 => hvQ yl nd (mqP pl hm wk kd nf 31 (ahM nf ne pl yl nd hm wk kd q n) ne) nf
def ahMR (nf ne : Nat) (pl yl nd hm wk kd q : Nat → Int32) (x y : Int32) : Int32 := if hasN nf x = true then (if rgB y 9 = true then ahM nf ne pl yl nd hm wk kd q (ix y) (ix x) else -2) else -1
def sfL (kd : Nat → Int32) (s f : Nat) (q : Nat → Int32) : Nat → Option (Nat → Int32)
  | 0 => some q
  | n + 1 => match sfL kd s f q n with
    | none => none
    | some r => if s / 2 ^ n % 2 = 1 then (if ceP kd r n f = true then some (geP kd r n f) else none) else some r
theorem sfL_none {kd : Nat → Int32} {s f : Nat} {q : Nat → Int32} {n : Nat} : ∀ {m : Nat}, n ≤ m → sfL kd s f q n = none → sfL kd s f q m = none
  | 0, h, e => by
    rw [show n = 0 by omega] at e
    exact e
  | m + 1, h, e => by
    by_cases c : n = m + 1
    · rw [← c]; exact e
    · unfold sfL
      rw [sfL_none (n := n) (by omega) e]
theorem sfL_skip {kd : Nat → Int32} {s f n : Nat} {q r : Nat → Int32} (h : sfL kd s f q n = some r) (hb : decide (s / 2 ^ n % 2 = 1) = false) : sfL kd s f q (n + 1) = some r := by
  unfold sfL
  rw [h]
  exact if_neg (of_decide_eq_false hb)
theorem sfL_yes {kd : Nat → Int32} {s f n : Nat} {q r : Nat → Int32} (h : sfL kd s f q n = some r) (hb : decide (s / 2 ^ n % 2 = 1) = true) (ht : ceP kd r n f = true) : sfL kd s f q (n + 1) = some (geP kd r n f) := by
  unfold sfL
  rw [h]
  show (if _ then _ else _) = _
  rw [if_pos (of_decide_eq_true hb), if_pos ht]
theorem sfL_no {kd : Nat → Int32} {s f n : Nat} {q r : Nat → Int32} (h : sfL kd s f q n = some r) (hb : decide (s / 2 ^ n % 2 = 1) = true) (ht : ceP kd r n f = false) : sfL kd s f q (n + 1) = none := by
  unfold sfL
  rw [h]
  show (if _ then _ else _) = _
  rw [if_pos (of_decide_eq_true hb), if_neg (by rw [ht]; decide)]
def sfB (nf ne : Nat) (pl nd hm wk kd : Nat → Int32) (s f : Nat) (q : Nat → Int32) : Bool := match sfL kd s f q ne with
  | none => false
  | some r => decide (swP nd (mqP pl hm wk kd nf 31 r ne) nf / 2 ^ f % 2 = 1)
theorem sfB_no {nf ne : Nat} {pl nd hm wk kd : Nat → Int32} {s f n : Nat} {q : Nat → Int32} (hn : n + 1 ≤ ne) (h : sfL kd s f q (n + 1) = none) : sfB nf ne pl nd hm wk kd s f q = false := by
  unfold sfB
  rw [sfL_none hn h]
theorem sfB_yes {nf ne : Nat} {pl nd hm wk kd : Nat → Int32} {s f : Nat} {q r : Nat → Int32} (h : sfL kd s f q ne = some r) : sfB nf ne pl nd hm wk kd s f q = decide (swP nd (mqP pl hm wk kd nf 31 r ne) nf / 2 ^ f % 2 = 1) := by
  unfold sfB
  rw [h]
def beM (nf ne : Nat) (pl nd hm wk kd : Nat → Int32) (f : Nat) (q : Nat → Int32) : Nat → Option Nat
  | 0 => none
  | v + 1 => if fewB (beM nf ne pl nd hm wk kd f q v) v = true ∧ sfB nf ne pl nd hm wk kd v f q = true then some v else beM nf ne pl nd hm wk kd f q v
theorem beM_lt {nf ne : Nat} {pl nd hm wk kd : Nat → Int32} {f : Nat} {q : Nat → Int32} : ∀ v k, beM nf ne pl nd hm wk kd f q v = some k → k < v
  | 0, k, h => by cases h
  | v + 1, k, h => by
    unfold beM at h
    split at h
    · cases h; omega
    · have := beM_lt v k h; omega
theorem beM_t {nf ne : Nat} {pl nd hm wk kd : Nat → Int32} {f v : Nat} {q : Nat → Int32} (h1 : fewB (beM nf ne pl nd hm wk kd f q v) v = true) (h2 : sfB nf ne pl nd hm wk kd v f q = true) : beM nf ne pl nd hm wk kd f q (v + 1) = some v := if_pos ⟨h1, h2⟩
theorem beM_f1 {nf ne : Nat} {pl nd hm wk kd : Nat → Int32} {f v : Nat} {q : Nat → Int32} (h1 : fewB (beM nf ne pl nd hm wk kd f q v) v = false) : beM nf ne pl nd hm wk kd f q (v + 1) = beM nf ne pl nd hm wk kd f q v := if_neg (fun e => by rw [h1] at e; exact absurd e.1 (by decide))
theorem beM_f2 {nf ne : Nat} {pl nd hm wk kd : Nat → Int32} {f v : Nat} {q : Nat → Int32} (h2 : sfB nf ne pl nd hm wk kd v f q = false) : beM nf ne pl nd hm wk kd f q (v + 1) = beM nf ne pl nd hm wk kd f q v := if_neg (fun e => by rw [h2] at e; exact absurd e.2 (by decide))
def waM (nf ne : Nat) (pl nd hm wk kd q : Nat → Int32) (x : Int32) : Int32 := if hasN nf x = true then oI (beM nf ne pl nd hm wk kd (ix x) q (2 ^ ne)) else -1
def riM (nf ne : Nat) (pl hm kd q : Nat → Int32) (x : Int32) : Int32 := if hasN ne x = true then (if kd (ix x) = nI 1 then 0 else (gsI pl hm kd nf (ix x) (nI 1000) q).2.2) else -1
theorem rg_t {x : Int32} {n : Nat} (h : rgB x n = true) (hn : n < 2 ^ 30) : ∃ k, k ≤ n ∧ x = nI k := by
  rw [rgB_iff hn] at h
  refine ⟨x.toInt.toNat, by omega, ?_⟩
  apply Int32.toInt_inj.mp
  rw [nI_toInt (by omega)]
  omega
