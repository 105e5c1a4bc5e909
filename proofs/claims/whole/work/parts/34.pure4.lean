theorem marS_ok {pl hm wk kd : Nat → Int32} {nf x : Nat} {sk db vi wy : Nat → Int32} (hnf : nf ≤ 4) (h : okS nf sk db) : ∀ n, n ≤ 5 → okS nf (marS pl hm wk kd nf x (sk, db, vi, wy) n).1 (marS pl hm wk kd nf x (sk, db, vi, wy) n).2.1
  | 0, _ => h
  | n + 1, hn => by
    have ih := marS_ok (pl := pl) (hm := hm) (wk := wk) (kd := kd) (x := x) (vi := vi) (wy := wy) hnf h n (by omega)
    unfold marS
    split
    · exact goS_ok hnf (by omega) 4 _ _ _ _ _ ih
    · exact ih
theorem ok_mar {L : L8} {c : Cm} (hL : okL L) (hP : okP L c) (x : Nat) : okP L (marC L x c) := by
  have h : okS L.1 c.2.1 c.2.2.1 := ⟨fun f hf => (hP.1 f hf).2, hP.2.1, fun f h1 h2 => (hP.2.2.1 f h1 h2).2, hP.2.2.2⟩
  have h2 := marS_ok (pl := L.2.2.1) (hm := L.2.2.2.2.2.1) (wk := L.2.2.2.2.2.2.1) (kd := L.2.2.2.2.2.2.2) (x := x) (vi := c.2.2.2.2.1) (wy := c.2.2.2.2.2) hL.1 h L.2.1 hL.2.1
  exact ⟨fun f hf => ⟨(hP.1 f hf).1, h2.1 f hf⟩, h2.2.1, fun f h3 h4 => ⟨(hP.2.2.1 f h3 h4).1, h2.2.2.1 f h3 h4⟩, h2.2.2.2⟩
theorem marS_row {pl hm wk kd : Nat → Int32} {nf x : Nat} {sk db vi wy : Nat → Int32} (hnf : nf ≤ 4) {e f : Nat} (hf : f < 4) : ∀ n, n ≤ e → (marS pl hm wk kd nf x (sk, db, vi, wy) n).2.1 (e * 4 + f) = db (e * 4 + f)
  | 0, _ => rfl
  | n + 1, hn => by
    have ih := marS_row (pl := pl) (hm := hm) (wk := wk) (kd := kd) (x := x) (sk := sk) (db := db) (vi := vi) (wy := wy) (e := e) (f := f) hnf hf n (by omega)
    unfold marS
    split
    · unfold putS sendS
      dsimp only
      rw [goS_row hnf (by omega) hf]
      exact ih
    · exact ih
theorem mar_mono {pl hm wk kd : Nat → Int32} {nf x x' : Nat} {sk db : Nat → Int32} (hnf : nf ≤ 4) (h : okS nf sk db) (hx : ∀ e, x / 2 ^ e % 2 = 1 → x' / 2 ^ e % 2 = 1) : ∀ n, n ≤ 5 → ∀ f, f < 4 → ((marS pl hm wk kd nf x (sk, db, z0, z0) n).1 f).toInt ≤ ((marS pl hm wk kd nf x' (sk, db, z0, z0) n).1 f).toInt
  | 0, _, f, hf => Int.le_refl _
  | n + 1, hn, f, hf => by
    have ih := mar_mono (pl := pl) (hm := hm) (wk := wk) (kd := kd) hnf h hx n (by omega)
    have o1 := marS_ok (pl := pl) (hm := hm) (wk := wk) (kd := kd) (x := x) (vi := z0) (wy := z0) hnf h n (by omega)
    have o2 := marS_ok (pl := pl) (hm := hm) (wk := wk) (kd := kd) (x := x') (vi := z0) (wy := z0) hnf h n (by omega)
    unfold marS
    by_cases c : x / 2 ^ n % 2 = 1
    · rw [if_pos c, if_pos (hx n c)]
      exact (go_mono hnf (by omega) 4 _ _ _ _ _ _ _ o1 o2 (fun j hj => by rw [marS_row hnf hj n (Nat.le_refl _), marS_row hnf hj n (Nat.le_refl _)]) ih).2 f hf
    · rw [if_neg c]
      by_cases d : x' / 2 ^ n % 2 = 1
      · rw [if_pos d]
        exact Int.le_trans (ih f hf) (go_infl hnf (by omega) 4 _ _ _ _ _ o2 f hf)
      · rw [if_neg d]
        exact ih f hf
theorem bits_mono {b b' : Nat → Bool} (h : ∀ k, b k = true → b' k = true) (n : Nat) : ∀ k, bitsN b n / 2 ^ k % 2 = 1 → bitsN b' n / 2 ^ k % 2 = 1 := by
  intro k hk
  rw [tb_iff, bitsN_tb, Bool.and_eq_true] at hk ⊢
  exact ⟨hk.1, h k hk.2⟩
theorem m2_le {x y : Nat} (h : x % 2 = 1 → y % 2 = 1) : x % 2 ≤ y % 2 := by
  rcases Nat.mod_two_eq_zero_or_one x with q | q
  · rw [q]; exact Nat.zero_le _
  · rw [q, h q]; exact Nat.le_refl _
theorem bc_mono {x y : Nat} (h : ∀ k, x / 2 ^ k % 2 = 1 → y / 2 ^ k % 2 = 1) : bcN x ≤ bcN y := by
  have h0 := m2_le (h 0)
  rw [Nat.pow_zero, Nat.div_one, Nat.div_one] at h0
  exact Nat.add_le_add (Nat.add_le_add (Nat.add_le_add (Nat.add_le_add h0 (m2_le (h 1))) (m2_le (h 2))) (m2_le (h 3))) (m2_le (h 4))
theorem sw_mono {L : L8} {c : Cm} (hL : okL L) (hP : okP L c) {x x' : Nat} (hx : ∀ e, x / 2 ^ e % 2 = 1 → x' / 2 ^ e % 2 = 1) : bcN (swN L x c.2.1 c.2.2.1) ≤ bcN (swN L x' c.2.1 c.2.2.1) := by
  have h : okS L.1 c.2.1 c.2.2.1 := ⟨fun f hf => (hP.1 f hf).2, hP.2.1, fun f h1 h2 => (hP.2.2.1 f h1 h2).2, hP.2.2.2⟩
  have hm := mar_mono (pl := L.2.2.1) (hm := L.2.2.2.2.2.1) (wk := L.2.2.2.2.2.2.1) (kd := L.2.2.2.2.2.2.2) hL.1 h hx L.2.1 hL.2.1
  unfold swN
  apply bc_mono
  intro k hk
  rw [tb_iff, bitsN_tb, Bool.and_eq_true, decide_eq_true_eq] at hk ⊢
  refine ⟨hk.1, ?_⟩
  have h2 := hk.2
  unfold isSw at h2 ⊢
  rw [Bool.not_eq_true', decide_eq_false_iff_not, Int32.lt_iff_toInt_lt] at h2 ⊢
  have := hm k (by have := hL.1; omega)
  omega
theorem or_bit (v e : Nat) : ∀ k, v / 2 ^ k % 2 = 1 → (v ||| 2 ^ e) / 2 ^ k % 2 = 1 := by
  intro k hk
  rw [tb_iff] at hk ⊢
  rw [Nat.testBit_or, hk, Bool.true_or]
theorem hmo_ok {L : L8} {c : Cm} (hL : okL L) (hP : okP L c) (e v : Nat) : bcN (swN L v c.2.1 c.2.2.1) ≤ bcN (swN L (v ||| 2 ^ e) c.2.1 c.2.2.1) := sw_mono hL hP (or_bit v e)
/-- whom one would visit: the debts of one's own alone decide -/
theorem mar_own {L : L8} {c : Cm} (hL : okL L) (hP : okP L c) {e : Nat} (he : e < L.2.1) : viN L e c.2.1 c.2.2.1 = (sendS L.2.2.1 L.2.2.2.2.2.1 L.2.2.2.2.2.2.2 L.1 e (L.2.2.2.2.2.2.1 e) c.2.1 c.2.2.1).2.2.1 ∧ wyN L e c.2.1 c.2.2.1 = (sendS L.2.2.1 L.2.2.2.2.2.1 L.2.2.2.2.2.2.2 L.1 e (L.2.2.2.2.2.2.1 e) c.2.1 c.2.2.1).2.2.2 := by
  have h5 := hL.2.1
  have h : okS L.1 c.2.1 c.2.2.1 := ⟨fun f hf => (hP.1 f hf).2, hP.2.1, fun f h1 h2 => (hP.2.2.1 f h1 h2).2, hP.2.2.2⟩
  have key : ∀ n, e < n → n ≤ L.2.1 → (marS L.2.2.1 L.2.2.2.2.2.1 L.2.2.2.2.2.2.1 L.2.2.2.2.2.2.2 L.1 (allN L) (c.2.1, c.2.2.1, z0, z0) n).2.2.1 e = (sendS L.2.2.1 L.2.2.2.2.2.1 L.2.2.2.2.2.2.2 L.1 e (L.2.2.2.2.2.2.1 e) c.2.1 c.2.2.1).2.2.1 ∧ (marS L.2.2.1 L.2.2.2.2.2.1 L.2.2.2.2.2.2.1 L.2.2.2.2.2.2.2 L.1 (allN L) (c.2.1, c.2.2.1, z0, z0) n).2.2.2 e = (sendS L.2.2.1 L.2.2.2.2.2.1 L.2.2.2.2.2.2.2 L.1 e (L.2.2.2.2.2.2.1 e) c.2.1 c.2.2.1).2.2.2 := by
    intro n
    induction n with
    | zero => intro h1; exact absurd h1 (Nat.not_lt_zero _)
    | succ n ih =>
      intro h1 h2
      unfold marS
      rw [if_pos (allN_bit h5 (show n < L.2.1 by omega))]
      unfold putS
      dsimp only
      by_cases d : e = n
      · subst d
        rw [pk_us, pk_us]
        have o1 := marS_ok (pl := L.2.2.1) (hm := L.2.2.2.2.2.1) (wk := L.2.2.2.2.2.2.1) (kd := L.2.2.2.2.2.2.2) (x := allN L) (vi := z0) (wy := z0) hL.1 h e (by omega)
        have hr : ∀ f, f < 4 → (marS L.2.2.1 L.2.2.2.2.2.1 L.2.2.2.2.2.2.1 L.2.2.2.2.2.2.2 L.1 (allN L) (c.2.1, c.2.2.1, z0, z0) e).2.1 (e * 4 + f) = c.2.2.1 (e * 4 + f) := fun f hf => marS_row hL.1 hf e (Nat.le_refl _)
        have hi : ∀ f, f < 4 → (c.2.1 f).toInt ≤ ((marS L.2.2.1 L.2.2.2.2.2.1 L.2.2.2.2.2.2.1 L.2.2.2.2.2.2.2 L.1 (allN L) (c.2.1, c.2.2.1, z0, z0) e).1 f).toInt := by
          intro f hf
          have m1 := mar_mono (pl := L.2.2.1) (hm := L.2.2.2.2.2.1) (wk := L.2.2.2.2.2.2.1) (kd := L.2.2.2.2.2.2.2) (x := 0) (x' := allN L) hL.1 h (fun k hk => by simp at hk) e (by omega) f hf
          have m0 : ∀ n, (marS L.2.2.1 L.2.2.2.2.2.1 L.2.2.2.2.2.2.1 L.2.2.2.2.2.2.2 L.1 0 (c.2.1, c.2.2.1, z0, z0) n) = (c.2.1, c.2.2.1, z0, z0) := by
            intro n
            induction n with
            | zero => rfl
            | succ n ih2 =>
              unfold marS
              rw [if_neg (by simp), ih2]
          rw [m0] at m1
          exact m1
        have g := (go_mono (pl := L.2.2.1) (kd := L.2.2.2.2.2.2.2) (wk := L.2.2.2.2.2.2.1 e) hL.1 (show e < 5 by omega) 4 (L.2.2.2.2.2.1 e) _ _ _ _ (nI 0) (nI 0) h o1 (fun f hf => (hr f hf).symm) hi).1
        unfold sendS
        rw [g]
        exact ⟨rfl, rfl⟩
      · rw [pk_un d, pk_un d]
        exact ih (by omega) (by omega)
  exact key L.2.1 he (Nat.le_refl _)
