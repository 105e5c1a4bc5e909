/-! Acts: a ring of fourteen commons -/
theorem cell_congrQ (cA : ClassId) (n : Nat) {f f' : Nat → Option Nat} (h : ∀ j, j < n → f j = f' j) : vp_cell cA (n, .inr (.inr (.inr (.inr f)))) = vp_cell cA (n, .inr (.inr (.inr (.inr f')))) := by
  rw [vp_cell_q, vp_cell_q]
  unfold arrV
  congr 1
  congr 1
  funext j
  exact congrArg va_rf (h j.1 j.2)
theorem V_arrq {g : Gx} {E : MV} {M : MS} {A : Nat → Prop} {Q : State → Prop} {kc ks : Nat} {ws ws' : va_W} {pc : Nat} {lv : List (Nat × Value)} {st : List Value} {a n : Nat} {cA : ClassId} {f f' : Nat → Option Nat} (q0 : Nat) (he : ws[q0]? = some (a, .inl (cA, n, .inr (.inr (.inr (.inr f)))))) (h : ∀ j, j < n → f j = f' j) (hw : ws.set q0 (a, .inl (cA, n, .inr (.inr (.inr (.inr f'))))) = ws') (kk : V g E M A Q kc ks ws' pc lv st) : V g E M A Q kc ks ws pc lv st := by
  intro B ls H locs hl hP hD hS
  subst hw
  refine kk B ls H locs hl (fun k q hq => ?_) (hD.set he) hS
  by_cases hk : k = q0
  · subst hk
    rw [List.getElem?_set_self ((List.getElem?_eq_some_iff.mp he).1)] at hq
    cases hq
    have h1 := hP k _ he
    show H[a]? = some (vp_cell cA (n, .inr (.inr (.inr (.inr f')))))
    rw [← cell_congrQ cA n h]
    exact h1
  · rw [List.getElem?_set_ne (Ne.symm hk)] at hq
    exact hP k q hq
theorem wP_rg (g : Gx) (la : Nat → Nat) (c : Nat → Cm) (r : Nat → Nat → Nat) (k : Nat) (a : Nat → Nat) : ∀ n, n ≤ k → wP g (va_up r k a) la c n = wP g r la c n
  | 0, _ => rfl
  | n + 1, h => by
    show wP g (va_up r k a) la c n ++ wCm g (va_up r k a n) la (c n) = wP g r la c n ++ wCm g (r n) la (c n)
    rw [wP_rg g la c r k a n (by omega), va_up_ne _ _ (by omega)]
theorem wP_next (g : Gx) (la : Nat → Nat) (c : Nat → Cm) (r : Nat → Nat → Nat) (k : Nat) (a : Nat → Nat) : wP g (va_up r k a) la c (k + 1) = wP g r la c k ++ wCm g a la (c k) := by
  show wP g (va_up r k a) la c k ++ wCm g (va_up r k a k) la (c k) = _
  rw [wP_rg g la c r k a k (Nat.le_refl _), va_up_self]
/-- a ring filled so far -/
def rgO (r : Nat → Nat → Nat) (i : Nat) : Nat → Option Nat := fun j => if j < i then some (r j 0) else none
theorem rgO_next (r : Nat → Nat → Nat) (i : Nat) (a : Nat → Nat) : va_up (rgO r i) i (some (a 0)) = rgO (va_up r i a) (i + 1) := by
  funext j
  by_cases h : j = i
  · subst h
    rw [va_up_self]
    unfold rgO
    rw [if_pos (by omega), va_up_self]
  · rw [va_up_ne _ _ h]
    unfold rgO
    by_cases d : j < i
    · rw [if_pos d, if_pos (by omega), va_up_ne _ _ h]
    · rw [if_neg d, if_neg (by omega)]
theorem dX1 : ∀ j, j < 7 → defaultValue (tyX1 j) = vp_V [.null, .null, .null, .null, .int 0, .null, .null] j := by
  intro j hj
  rcases (show j = 0 ∨ j = 1 ∨ j = 2 ∨ j = 3 ∨ j = 4 ∨ j = 5 ∨ j = 6 by omega) with rfl | rfl | rfl | rfl | rfl | rfl | rfl <;> rfl
set_option maxHeartbeats 2000000 in
set_option maxRecDepth 100000 in
theorem c_X0_init (g : Gx) (l : Launch) (b : Nat) (la : Nat → Nat) : Cn g l yX0_init mX0_init ({ frames := 2, cells := 85, slots := 644, locals := 33 } : Room) [.ref b, .ref (la 0)] [(b, .inr (0, [.null, .int 0, .int 0]))] 85 644 (fun w' => ∃ (a : Nat → Nat) (r : Nat → Nat → Nat), a 0 = b ∧ w' = wA g a (fun j => some (r j 0)) 0 0 ++ wP g r la (fun _ => zCm) 14) := by
  refine Cn.of (lv := [(0, .ref b), (1, .ref (la 0))]) ⟨by decide +kernel, rfl, Nat.le_of_ble_eq_true rfl⟩ rfl rfl (fun E A sz Q X I hQ => ?_)
  refine V_aload_n nX0_init_0 rfl ?_
  refine V_obj X ml_RX0_3 (by decide) nX0_init_1 ?_
  refine V_aload_n nX0_init_4 rfl ?_
  refine V_bipush (v := nI 14) nX0_init_5 (by decide) ?_
  refine V_newq X I cl_RX0_9 (by decide) (by decide) nX0_init_7 (fun q => ?_)
  refine V_putF (C := RX0) (T := TX0) (N := 3) (ci := 0) (ws' := [(b, .inr (0, [.ref q, .int 0, .int 0]))] ++ wR g q 14 (fun _ => none)) 0 0 I iX0 tyX0 tyX0_ok nmX0 rfl (by decide) f_RX0_11 rfl rfl rfl rfl rfl nX0_init_10 rfl (Nat.le_of_ble_eq_true rfl) rfl ?_
  refine V_iconst (v := nI 0) nX0_init_13 rfl ?_
  refine V_istore_n (lv' := [(0, .ref b), (1, .ref (la 0)), (2, .int (nI 0))]) nX0_init_14 (by decide) rfl ?_
  have L : ∀ (n i : Nat) (r : Nat → Nat → Nat), i + n = 14 → V g E mX0_init A Q (1 + 6 * i) (14 + 45 * i) ([(b, .inr (0, [.ref q, .int 0, .int 0]))] ++ wR g q 14 (rgO r i) ++ wP g r la (fun _ => zCm) i) 15 [(0, .ref b), (1, .ref (la 0)), (2, .int (nI i))] [] := by
    intro n
    induction n with
    | zero =>
      intro i r hi
      have hi : i = 14 := hi
      subst hi
      refine V_iload_n nX0_init_15 rfl ?_
      refine V_bipush (v := nI 14) nX0_init_16 (by decide) ?_
      refine V_icmp_ge_N (tgt := 41) nX0_init_18 rfl (by omega) (by omega) (fun h => ?_) (fun h => absurd h (by omega))
      refine V_aload_n nX0_init_41 rfl ?_
      refine V_iconst (v := nI 0) nX0_init_42 rfl ?_
      refine V_put0 (ws' := [(b, .inr (0, [.ref q, .int (nI 0), .int 0]))] ++ wR g q 14 (rgO r 14) ++ wP g r la (fun _ => zCm) 14) 0 1 (by decide) f_RX0_20 rfl rfl rfl rfl nX0_init_43 rfl (Nat.le_of_ble_eq_true rfl) rfl ?_
      refine V_aload_n nX0_init_46 rfl ?_
      refine V_iconst (v := nI 0) nX0_init_47 rfl ?_
      refine V_put0 (ws' := [(b, .inr (0, [.ref q, .int (nI 0), .int (nI 0)]))] ++ wR g q 14 (rgO r 14) ++ wP g r la (fun _ => zCm) 14) 0 2 (by decide) f_RX0_24 rfl rfl rfl rfl nX0_init_48 rfl (Nat.le_of_ble_eq_true rfl) rfl ?_
      refine V_arrq (ws' := wA g (fun i => [b, q].getD i 0) (fun j => some (r j 0)) 0 0 ++ wP g r la (fun _ => zCm) 14) 1 rfl (f' := fun j => some (r j 0)) (fun j hj => if_pos hj) rfl ?_
      exact V_vretN rfl nX0_init_51 ⟨fun i => [b, q].getD i 0, r, rfl, rfl⟩ X hQ
    | succ n ih =>
      intro i r hi
      refine V_iload_n nX0_init_15 rfl ?_
      refine V_bipush (v := nI 14) nX0_init_16 (by decide) ?_
      refine V_icmp_ge_N (tgt := 41) nX0_init_18 rfl (by omega) (by omega) (fun h => absurd h (by omega)) (fun h => ?_)
      refine V_aload_n nX0_init_21 rfl ?_
      refine V_get0 0 0 (by decide) f_RX0_11 nX0_init_22 rfl rfl ?_
      refine V_iload_n nX0_init_25 rfl ?_
      refine V_new (C := RX1) (T := TX1) (N := 7) (ci := 1) (fs := [.null, .null, .null, .null, .int 0, .null, .null]) X iX1 tyX1 tyX1_ok ⟨cl_RX0_9, ia_RX1, in_RX1⟩ rfl dX1 ⟨by show 1 + 6 * i + 1 ≤ 85; omega, by show 14 + 45 * i + 7 ≤ 644; omega⟩ nX0_init_26 (fun o => ?_)
      refine V_dup nX0_init_29 rfl ?_
      refine V_aload_n nX0_init_30 rfl ?_
      refine V_ctor (As := [.ref (la 0)]) (st := [.ref o, .int (nI i), .ref q]) 1 X I.2 (c_X1_init g l o la) ⟨ml_RX0_17, im_yX1_init, in_RX1, cd_X1_init⟩ rfl ⟨rfl, hy_X1_init.2⟩ ⟨rfl, rfl, by decide, by decide, by show 1 + 6 * i + 1 + 5 ≤ 85; omega, by show 14 + 45 * i + 7 + 38 ≤ 644; omega⟩ nX0_init_31 rfl rfl (Nat.le_of_ble_eq_true rfl) ?_
      rintro _ ⟨a, rfl, rfl⟩
      refine V_blk (ws' := [(b, .inr (0, [.ref q, .int 0, .int 0]))] ++ wR g q 14 (rgO r i) ++ wCm g a la zCm ++ wP g r la (fun _ => zCm) i) [[(b, .inr (0, [.ref q, .int 0, .int 0]))], wR g q 14 (rgO r i), wP g r la (fun _ => zCm) i, wCm g a la zCm] [0, 1, 3, 2] rfl (by simp only [List.flatten_cons, List.flatten_nil, List.append_nil, List.append_assoc]) (by show List.flatten [[(b, .inr (0, [.ref q, .int 0, .int 0]))], wR g q 14 (rgO r i), wCm g a la zCm, wP g r la (fun _ => zCm) i] = _; simp only [List.flatten_cons, List.flatten_nil, List.append_nil, List.append_assoc]) ?_
      refine V_aast (f := rgO r i) (ws' := [(b, .inr (0, [.ref q, .int 0, .int 0]))] ++ wR g q 14 (va_up (rgO r i) i (some (a 0))) ++ wCm g a la zCm ++ wP g r la (fun _ => zCm) i) 1 2 nX0_init_34 rfl rfl (by omega) (by decide) rfl ?_
      refine V_ws (ws' := [(b, .inr (0, [.ref q, .int 0, .int 0]))] ++ wR g q 14 (rgO (va_up r i a) (i + 1)) ++ wCm g a la zCm ++ wP g r la (fun _ => zCm) i) (by rw [rgO_next]) ?_
      refine V_blk (ws' := [(b, .inr (0, [.ref q, .int 0, .int 0]))] ++ wR g q 14 (rgO (va_up r i a) (i + 1)) ++ (wP g r la (fun _ => zCm) i ++ wCm g a la zCm)) [[(b, .inr (0, [.ref q, .int 0, .int 0]))], wR g q 14 (rgO (va_up r i a) (i + 1)), wCm g a la zCm, wP g r la (fun _ => zCm) i] [0, 1, 3, 2] rfl (by simp only [List.flatten_cons, List.flatten_nil, List.append_nil, List.append_assoc]) (by show List.flatten [[(b, .inr (0, [.ref q, .int 0, .int 0]))], wR g q 14 (rgO (va_up r i a) (i + 1)), wP g r la (fun _ => zCm) i, wCm g a la zCm] = _; simp only [List.flatten_cons, List.flatten_nil, List.append_nil, List.append_assoc]) ?_
      refine V_ws (ws' := [(b, .inr (0, [.ref q, .int 0, .int 0]))] ++ wR g q 14 (rgO (va_up r i a) (i + 1)) ++ wP g (va_up r i a) la (fun _ => zCm) (i + 1)) (by rw [wP_next]) ?_
      refine V_iinc (v := nI (i + 1)) (lv' := [(0, .ref b), (1, .ref (la 0)), (2, .int (nI (i + 1)))]) nX0_init_35 rfl (nI_add i 1) (by decide) rfl ?_
      refine V_goto (tgt := 15) nX0_init_38 rfl ?_
      have K := ih (i + 1) (va_up r i a) (by omega)
      rw [show 1 + 6 * (i + 1) = 1 + 6 * i + 1 + 5 by omega, show 14 + 45 * (i + 1) = 14 + 45 * i + 7 + 38 by omega] at K
      exact K
  refine V_arrq (ws' := [(b, .inr (0, [.ref q, .int 0, .int 0]))] ++ wR g q 14 (rgO (fun _ _ => 0) 0) ++ wP g (fun _ _ => 0) la (fun _ => zCm) 0) 1 rfl (f' := rgO (fun _ _ => 0) 0) (fun j hj => rfl) rfl ?_
  exact L 14 0 (fun _ _ => 0) rfl
