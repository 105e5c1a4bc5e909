/-! the text and the land that it tells -/
section VN2
variable {g : Gx} {E : MV} {M : MS} {A : Nat → Prop} {Q : State → Prop} {kc ks : Nat} {ws ws' : va_W} {pc pc' : Nat} {lv : List (Nat × Value)} {st : List Value}
theorem V_if_le_N {a : Nat} {off : Int} {tgt : Nat} (hd : Nx M pc (.ifCond .le off) 3 pc') (ht : (pc : Int) + off = (tgt : Int)) (ha : a < 2 ^ 31) (kt : a = 0 → V g E M A Q kc ks ws tgt lv st) (kf : 0 < a → V g E M A Q kc ks ws pc' lv st) : V g E M A Q kc ks ws pc lv (.int (nI a) :: st) := by
  refine V_if_le hd ht (fun h => kt ?_) (fun h => kf ?_)
  · rw [← nI_0, nI_leI ha (by decide)] at h; omega
  · rw [← nI_0, nI_leI ha (by decide)] at h; omega
theorem V_if_gt_N {a : Nat} {off : Int} {tgt : Nat} (hd : Nx M pc (.ifCond .gt off) 3 pc') (ht : (pc : Int) + off = (tgt : Int)) (ha : a < 2 ^ 31) (kt : 0 < a → V g E M A Q kc ks ws tgt lv st) (kf : a = 0 → V g E M A Q kc ks ws pc' lv st) : V g E M A Q kc ks ws pc lv (.int (nI a) :: st) := by
  refine V_if_gt hd ht (fun h => kt ?_) (fun h => kf ?_)
  · rw [← nI_0, nI_ltI (by decide) ha] at h; omega
  · rw [← nI_0, nI_ltI (by decide) ha] at h; omega
theorem V_if_lt_N {a : Nat} {off : Int} {tgt : Nat} (hd : Nx M pc (.ifCond .lt off) 3 pc') (ht : (pc : Int) + off = (tgt : Int)) (ha : a < 2 ^ 31) (kt : False → V g E M A Q kc ks ws tgt lv st) (kf : True → V g E M A Q kc ks ws pc' lv st) : V g E M A Q kc ks ws pc lv (.int (nI a) :: st) :=
  V_if_lt hd ht (fun h => kt (nI_pos ha h)) (fun _ => kf trivial)
theorem V_if_ge_N {a : Nat} {off : Int} {tgt : Nat} (hd : Nx M pc (.ifCond .ge off) 3 pc') (ht : (pc : Int) + off = (tgt : Int)) (ha : a < 2 ^ 31) (kt : True → V g E M A Q kc ks ws tgt lv st) (kf : False → V g E M A Q kc ks ws pc' lv st) : V g E M A Q kc ks ws pc lv (.int (nI a) :: st) :=
  V_if_ge hd ht (fun _ => kt trivial) (fun h => kf (h (nI_pos' ha)))
end VN2
theorem V_joinK {g : Gx} {E : MV} {M : MS} {A : Nat → Prop} {Q : State → Prop} {kc ks : Nat} {ws : va_W} {lv : List (Nat × Value)} {st : List Value} {b : Bool} {x y : Nat} {pj : Nat} {f : Nat} {st' : List Value} (k : (b = true → V g E M A Q kc ks ws pj lv (.long (lN x) :: st)) → (b = false → V g E M A Q kc ks ws pj lv (.long (lN y) :: st)) → V g E M A Q kc ks ws f lv st') (hJ : V g E M A Q kc ks ws pj lv (.long (lN (if b = true then x else y)) :: st)) : V g E M A Q kc ks ws f lv st' :=
  k (fun h => by rw [if_pos h] at hJ; exact hJ) (fun h => by rw [if_neg (by rw [h]; decide)] at hJ; exact hJ)
theorem nI_addb (a : Nat) (b : Bool) : nI a + bI b = nI (a + (if b = true then 1 else 0)) := by
  cases b
  · exact nI_add a 0
  · exact nI_add a 1
theorem ite1 (b : Bool) : (if b = true then 1 else 0) ≤ 1 := by cases b <;> decide
def figT (F : Nat → Int32) (n p : Nat) : Int32 := if p < n then F p - nI 48 else nI 0
/-- a thing's fault: from byte i of it on -/
def thF (F : Nat → Int32) (n s : Nat) (b : Bool) : Nat → Nat → Option Nat
  | 0, _ => none
  | k + 1, i => if s + i < n then (if F (s + i) < nI (if (b && decide (1 < i)) = true then 49 else 48) ∨ ¬ F (s + i) ≤ nI (if (!b && decide (i = 3)) = true then 51 else 57) then some (s + i) else thF F n s b k (i + 1)) else some n
def ffC (F : Nat → Int32) (n : Nat) : Nat → Nat → Nat → Nat → Option Nat
  | 0, _, _, _ => none
  | k + 1, i, a, b => if i < n then (if (F i = nI 71 ∨ F i = nI 69) ∧ a + (if decide (F i = nI 71) = true then 1 else 0) ≤ 4 ∧ b + (if decide (F i = nI 69) = true then 1 else 0) ≤ 5 then
      (match thF F n i (decide (F i = nI 71)) 3 1 with
       | some q => some q
       | none => ffC F n k (i + 4) (a + (if decide (F i = nI 71) = true then 1 else 0)) (b + (if decide (F i = nI 69) = true then 1 else 0))) else some i) else none
def faultT (F : Nat → Int32) (n : Nat) : Option Nat := if ¬ n = 0 ∧ F 0 = nI 70 then ffC F n 12 1 0 0 else some 0
theorem oI_ne9 {k : Nat} (h : k < 1000) : ¬ oI (some k) = -9 := by
  have e : (nI k).toInt = k := nI_toInt (by omega)
  intro q
  have q : nI k = -9 := q
  rw [q] at e
  have e2 : ((-9 : Int32)).toInt = -9 := by decide
  omega
theorem oI_none {o : Option Nat} (hb : ∀ k, o = some k → k < 1000) : oI o = -9 ↔ o = none := by
  cases o with
  | none => exact ⟨fun _ => rfl, fun _ => rfl⟩
  | some k => exact ⟨fun h => absurd h (oI_ne9 (hb k rfl)), fun h => by cases h⟩
theorem thF_lt (F : Nat → Int32) {n s : Nat} (hs : s ≤ 100) (hn : n ≤ 48) (b : Bool) : ∀ k i q, k + i ≤ 4 → thF F n s b k i = some q → q < 1000
  | 0, i, q, _, h => by cases h
  | k + 1, i, q, hk, h => by
    unfold thF at h
    by_cases h1 : s + i < n
    · rw [if_pos h1] at h
      by_cases h2 : F (s + i) < nI (if (b && decide (1 < i)) = true then 49 else 48) ∨ ¬ F (s + i) ≤ nI (if (!b && decide (i = 3)) = true then 51 else 57)
      · rw [if_pos h2] at h
        have := Option.some.inj h
        omega
      · rw [if_neg h2] at h
        exact thF_lt F hs hn b k (i + 1) q (by omega) h
    · rw [if_neg h1] at h
      have := Option.some.inj h
      omega
theorem thF_end {F : Nat → Int32} {n s : Nat} {b : Bool} {i : Nat} (hi : i < 4) (h : n ≤ s + i) : thF F n s b (4 - i) i = some n := by
  rw [show 4 - i = (3 - i) + 1 by omega]
  exact if_neg (by omega)
theorem thF_bad {F : Nat → Int32} {n s : Nat} {b : Bool} {i : Nat} (hi : i < 4) (h : s + i < n) (hc : F (s + i) < nI (if (b && decide (1 < i)) = true then 49 else 48) ∨ ¬ F (s + i) ≤ nI (if (!b && decide (i = 3)) = true then 51 else 57)) : thF F n s b (4 - i) i = some (s + i) := by
  rw [show 4 - i = (3 - i) + 1 by omega]
  unfold thF
  rw [if_pos h, if_pos hc]
theorem thF_go {F : Nat → Int32} {n s : Nat} {b : Bool} {i : Nat} (hi : i < 4) (h : s + i < n) (hc : ¬ (F (s + i) < nI (if (b && decide (1 < i)) = true then 49 else 48) ∨ ¬ F (s + i) ≤ nI (if (!b && decide (i = 3)) = true then 51 else 57))) : thF F n s b (4 - i) i = thF F n s b (4 - (i + 1)) (i + 1) := by
  rw [show 4 - i = (4 - (i + 1)) + 1 by omega]
  conv => lhs; unfold thF
  rw [if_pos h, if_neg hc]
theorem ffC_end {F : Nat → Int32} {n k i a b : Nat} (h : n ≤ i) : ffC F n k i a b = none := by
  cases k with
  | zero => rfl
  | succ k => exact if_neg (by omega)
theorem ffC_bad {F : Nat → Int32} {n k i a b : Nat} (hk : n ≤ i + 4 * k) (h : i < n) (hc : ¬ ((F i = nI 71 ∨ F i = nI 69) ∧ a + (if decide (F i = nI 71) = true then 1 else 0) ≤ 4 ∧ b + (if decide (F i = nI 69) = true then 1 else 0) ≤ 5)) : ffC F n k i a b = some i := by
  cases k with
  | zero => omega
  | succ k => unfold ffC; rw [if_pos h, if_neg hc]
theorem ffC_th {F : Nat → Int32} {n k i a b : Nat} (hk : n ≤ i + 4 * k) (h : i < n) (hc : (F i = nI 71 ∨ F i = nI 69) ∧ a + (if decide (F i = nI 71) = true then 1 else 0) ≤ 4 ∧ b + (if decide (F i = nI 69) = true then 1 else 0) ≤ 5) {q : Nat} (ht : thF F n i (decide (F i = nI 71)) 3 1 = some q) : ffC F n k i a b = some q := by
  cases k with
  | zero => omega
  | succ k => unfold ffC; rw [if_pos h, if_pos hc, ht]
theorem ffC_go {F : Nat → Int32} {n k i a b : Nat} (hk : n ≤ i + 4 * k) (h : i < n) (hc : (F i = nI 71 ∨ F i = nI 69) ∧ a + (if decide (F i = nI 71) = true then 1 else 0) ≤ 4 ∧ b + (if decide (F i = nI 69) = true then 1 else 0) ≤ 5) (ht : thF F n i (decide (F i = nI 71)) 3 1 = none) : ffC F n k i a b = ffC F n (k - 1) (i + 4) (a + (if decide (F i = nI 71) = true then 1 else 0)) (b + (if decide (F i = nI 69) = true then 1 else 0)) := by
  cases k with
  | zero => omega
  | succ k => conv => { lhs; unfold ffC }; rw [if_pos h, if_pos hc, ht]; rfl
/-- a land: fields, eaters, places, yields, needs, homes, walks, kinds -/
abbrev L8 : Type := Nat × Nat × (Nat → Int32) × (Nat → Int32) × (Nat → Int32) × (Nat → Int32) × (Nat → Int32) × (Nat → Int32)
def addF (F : Nat → Int32) (n i : Nat) (s : L8) : L8 := if s.1 < 4 then (s.1 + 1, s.2.1, upd s.2.2.1 s.1 (figT F n (i + 1)), upd s.2.2.2.1 s.1 (figT F n (i + 2)), upd s.2.2.2.2.1 s.1 (figT F n (i + 3)), s.2.2.2.2.2) else s
def addE (F : Nat → Int32) (n i : Nat) (s : L8) : L8 := if s.2.1 < 5 then (s.1, s.2.1 + 1, s.2.2.1, s.2.2.2.1, s.2.2.2.2.1, upd s.2.2.2.2.2.1 s.2.1 (figT F n (i + 1)), upd s.2.2.2.2.2.2.1 s.2.1 (figT F n (i + 2)), upd s.2.2.2.2.2.2.2 s.2.1 (figT F n (i + 3))) else s
def addT (F : Nat → Int32) (n i : Nat) (s : L8) : L8 := if F i = nI 71 then addF F n i s else addE F n i s
def rdS (F : Nat → Int32) (n : Nat) : Nat → Nat → L8 → L8
  | 0, _, s => s
  | k + 1, i, s => if i < n then rdS F n k (i + 4) (addT F n i s) else s
theorem rdS_end {F : Nat → Int32} {n k i : Nat} {s : L8} (h : n ≤ i) : rdS F n k i s = s := by
  cases k with
  | zero => rfl
  | succ k => exact if_neg (by omega)
theorem rdS_go {F : Nat → Int32} {n k i : Nat} {s : L8} (hk : n ≤ i + 4 * k) (h : i < n) : rdS F n k i s = rdS F n (k - 1) (i + 4) (addT F n i s) := by
  cases k with
  | zero => omega
  | succ k => exact if_pos h
theorem addF_le {F : Nat → Int32} {n i : Nat} {s : L8} (h : s.1 ≤ 4 ∧ s.2.1 ≤ 5) : (addF F n i s).1 ≤ 4 ∧ (addF F n i s).2.1 ≤ 5 := by
  unfold addF
  split
  · exact ⟨by show s.1 + 1 ≤ 4; omega, h.2⟩
  · exact h
theorem addE_le {F : Nat → Int32} {n i : Nat} {s : L8} (h : s.1 ≤ 4 ∧ s.2.1 ≤ 5) : (addE F n i s).1 ≤ 4 ∧ (addE F n i s).2.1 ≤ 5 := by
  unfold addE
  split
  · exact ⟨h.1, by show s.2.1 + 1 ≤ 5; omega⟩
  · exact h
def allowS (cp ci : Nat → Int32) (d w : Int32) : Nat → Nat → Bool
  | 0, _ => true
  | k + 1, i => if bI (!decide (w < absI (d - cp i))) = ci i then allowS cp ci d w k (i + 1) else false
theorem allowS_no {cp ci : Nat → Int32} {d w : Int32} {n i : Nat} (h : i < n) (hc : ¬ bI (!decide (w < absI (d - cp i))) = ci i) : allowS cp ci d w (n - i) i = false := by
  rw [show n - i = (n - (i + 1)) + 1 by omega]
  exact if_neg hc
theorem allowS_go {cp ci : Nat → Int32} {d w : Int32} {n i : Nat} (h : i < n) (hc : bI (!decide (w < absI (d - cp i))) = ci i) : allowS cp ci d w (n - i) i = allowS cp ci d w (n - (i + 1)) (i + 1) := by
  rw [show n - i = (n - (i + 1)) + 1 by omega]
  exact if_pos hc
theorem ffault_t {F : Nat → Int32} {n : Nat} (h : ¬ n = 0) (h2 : F 0 = nI 70) : faultT F n = ffC F n 12 1 0 0 := if_pos ⟨h, h2⟩
