/-! THE CLAIM OUT OF ONE WALK OF THE LAW'S BODY. Your part is whole_start (and what it stands on); all else here is the same for every law, but numbers. -/
def R_law : String := "OwedFurrowsLaw"
def lw_P (b : Addr) (xs : List Int32) (args : Array Value) (s : State) : Prop := args = #[.ref b] ∧ s.IntsAt b xs ∧ xs.length ≤ 2560 ∧ (Jvm.Cond.and given_1 narrow_1).before args s = true
def lw_Q (_ : Array Value) (s : State) (o : Outcome) (t : State) : Prop := o = .returned (some (.int 1)) ∧ Framed s o t [] 600000 7302250
def lw_Z (below : List Frame) (a : Array Value) (s : State) : State → Prop := fun t => ∃ o, t.status = .running ∧ Ended t below o ∧ lw_Q a s o t
/-- the law's own end, with 1 on the stack, nothing written that was there before, its room as the claim has it -/
theorem lw_ret {p : Program} {l : Launch} {e : Env} {s : State} {m : MethodId} {below : List Frame} {meth : Method} {c : Code} {b : Nat} (hx : p.tables.exec = Jvm.exec) (hb : c.code = code) (hr : meth.sig.returnType = ret) (hlocks : meth.locks = false) {pc : Nat} {H : Heap} {ls : Array Slot} (hdg : decode code pc = .ok (.ireturn, 1)) : W p l e room_1 s m #[Value.ref b] below meth c H [] 600000 7302250 (lw_Z below #[Value.ref b] s) (F0 m pc ls [.int 1]) := by
  intro T hT X
  obtain ⟨fs, hret, hrun, hended, hW, hframe⟩ := X.leave (v := some (.int 1)) (hlocks := hlocks) (fun h => by rw [hr] at h; cases h)
  have hmeth' : T.vm.method? m = some meth := X.method'
  refine ⟨T.setFrames fs, ?_, .returned (some (.int 1)), hrun, hended, rfl, ⟨_, rfl⟩, hW, hframe⟩
  jvm_step X.here [X.here.top, hx, hb, hdg, hmeth', hr, ret, narrow_b1]
  (try refine ⟨rfl, ?_⟩); (try refine ⟨rfl, ?_⟩)
  first | (intro acts; rw [hret _ acts rfl rfl rfl]) | rw [hret _ _ rfl rfl rfl]
  exact Steps.refl _
/-- what holds at the law's entry: the machine, the code, the tables' words (any of lw_tbl by 'hts w (by decide +kernel)'), the script of L ints xs at the cell b, what the Statement gives of the start (any of its parts by flat_of_before) -/
def lw_At (p : Program) (s : State) (m : MethodId) (meth : Method) (c : Code) (b L : Nat) (xs : Nat → Int32) : Prop :=
  p.tables.exec = Jvm.exec ∧ c.code = code ∧ meth.sig.returnType = ret ∧ c.maxLocals = 4 ∧ s.vm.findClass R_law = some m.cls ∧ (∀ w ∈ lw_tbl, w.before #[Value.ref b] s = true) ∧ va_X b L xs s s.heap ∧ b < s.heap.size ∧ meth.locks = false ∧ (Jvm.Cond.and given_1 narrow_1).before #[Value.ref b] s = true

theorem au_mem : Cond.arrayOver (.object "OwedFurrows$Commons") ∈ lw_tbl := List.mem_append_right _ (List.mem_append_left _ (List.mem_of_getElem? (i := 123) rfl))
/-- the classes' numbers, and those of the rows' classes -/
theorem st_K {s : State} {args : Array Value} (hts : ∀ w ∈ lw_tbl, w.before args s = true) : ∃ g : Gx, va_K g.1 classes (tysG g) s := by
  have hw : ∀ w ∈ wds, w.before args s = true := fun w h => hts w (List.mem_filter.mp h).1
  obtain ⟨c0, s0, k0⟩ := u_known (C := RX0) (T := TX0) (N := 3) hw iX0 (hw _ ia_RX0)
  obtain ⟨c1, s1, k1⟩ := u_known (C := RX1) (T := TX1) (N := 7) hw iX1 (hw _ ia_RX1)
  obtain ⟨c2, s2, k2⟩ := u_known (C := RX2) (T := TX2) (N := 8) hw iX2 (hw _ ia_RX2)
  obtain ⟨c3, s3, k3⟩ := u_known (C := RX3) (T := TX3) (N := 2) hw iX3 (hw _ ia_RX3)
  obtain ⟨c4, s4, k4⟩ := u_known (C := RX4) (T := TX4) (N := 3) hw iX4 (hw _ ia_RX4)
  obtain ⟨c5, s5, k5⟩ := u_known (C := RX5) (T := TX5) (N := 10) hw iX5 (hw _ ia_RX5)
  obtain ⟨c6, s6, k6⟩ := u_known (C := RX6) (T := TX6) (N := 34) hw iX6 (hw _ ia_RX6)
  obtain ⟨cI, kI, compI, i1, i2, i3⟩ := Cond.arrayClass_spec (hw _ ac_I)
  obtain ⟨cZ, kZ, compZ, z1, z2, z3⟩ := Cond.arrayClass_spec (hw _ ac_Z)
  obtain ⟨compQ, cQ, kQ, q1, q2, q3, q4, q5⟩ := Cond.arrayOver_spec (hts _ au_mem)
  refine ⟨((fun k => [c0, c1, c2, c3, c4, c5, c6].getD k c0, fun k => [s0, s1, s2, s3, s4, s5, s6].getD k s0), cI, cZ, cQ), fun k q hq => ?_, fun k q hq => ?_⟩
  · match k, hq with
    | 0, hq => cases hq; exact k0
    | 1, hq => cases hq; exact k1
    | 2, hq => cases hq; exact k2
    | 3, hq => cases hq; exact k3
    | 4, hq => cases hq; exact k4
    | 5, hq => cases hq; exact k5
    | 6, hq => cases hq; exact k6
    | k + 7, hq => simp [classes] at hq
  · match k, hq with
    | 0, hq =>
      cases hq
      exact ⟨fun n z => ⟨fun k h => (by cases h), kI, i2, compI, i3⟩, i1⟩
    | 1, hq =>
      cases hq
      exact ⟨fun n z => ⟨fun k h => (by cases h), kZ, z2, compZ, z3⟩, z1⟩
    | 2, hq =>
      cases hq
      exact ⟨fun n z => ⟨fun k h => (by cases h), kQ, q3, compQ, q4⟩, kQ, compQ, q3, q4, q1, q5⟩
    | k + 3, hq => simp [tysG] at hq
theorem li_0 : LI 0 (fun _ => nI 0) (0, 0, (fun _ => nI 0), (fun _ => nI 0), (fun _ => nI 0), (fun _ => nI 0), (fun _ => nI 0), (fun _ => nI 0)) ((fun _ => nI 0), (fun _ => nI 0), (fun _ => nI 0), nI 0, (fun _ => nI 0), (fun _ => nI 0)) 0 0 (fun _ => zCm) (fun _ => nI 0) (fun _ => nI 0) 0 (fun _ => nI 0) (fun _ => zCm) (fun _ => nI 0) (fun _ => nI 0) (fun _ => nI 0) := by
  have hz : rI (nI 0) 99 := rI_0 (by decide)
  refine ⟨⟨by omega, fun j hj => absurd hj (Nat.not_lt_zero _)⟩, ⟨by show 0 ≤ 4; omega, by show 0 ≤ 5; omega, fun f hf => absurd hf (Nat.not_lt_zero _), fun f hf => absurd hf (Nat.not_lt_zero _)⟩, ⟨⟨fun _ _ => rfl, fun _ _ => rfl, fun _ _ _ _ => rfl, rfl⟩, ⟨fun _ _ => ⟨hz, hz⟩, fun _ _ _ _ => hz, fun _ _ _ => ⟨rfl, rfl⟩, fun _ _ _ _ _ => rfl⟩⟩, ⟨by omega, by omega, fun k hk => absurd hk (Nat.not_lt_zero _)⟩, ⟨by omega, fun j hj => absurd hj (Nat.not_lt_zero _)⟩, fun m _ h => absurd rfl h⟩
set_option maxHeartbeats 4000000 in
set_option maxRecDepth 100000 in
theorem law_start (g : Gx) (l : Launch) (E : MV) (A : Nat → Prop) (sz : Nat) (Q : State → Prop) (b Ln : Nat) (xs : Nat → Int32) (X : Ev E l room_1 A [] sz) (hAO : va_AO RX1 E.2.2.2.2.1) (S : Sc E A b Ln xs) (hEnd : ∀ (ws : va_W) (lv : List (Nat × Value)), V g E mL_law A Q 146 1666 ws 956 lv []) : V g E mL_law A Q 0 0 [] 0 [(0, .ref b)] [] := by
  refine V_new (C := RX5) (T := TX5) (N := 10) (ci := 5) (fs := [.null, .null, .null, .null, .null, .null, .null, .null, .null, .long 0]) X iX5 tyX5 tyX5_ok ⟨cl_RL_7, ia_RX5, in_RX5⟩ rfl dX5 (by decide) nL_law_0 (fun o5 => ?_)
  refine V_dup nL_law_3 rfl ?_
  refine V_ctor (As := []) (st := [.ref o5]) 0 X hAO (c_X5_init g l o5) ⟨ml_RL_9, im_yX5_init, in_RX5, cd_X5_init⟩ rfl ⟨rfl, hy_X5_init.2⟩ (by decide) nL_law_4 rfl rfl (Nat.le_of_ble_eq_true rfl) ?_
  rintro _ ⟨x_a, t_a, l_a, n_a, r_a, q_a, d_a, rg, kg, rfl, rfl⟩
  refine V_astore_n (lv' := [(0, .ref b), (1, .ref (x_a 0))]) nL_law_7 (by decide) rfl ?_
  refine V_new (C := RX6) (T := TX6) (N := 34) (ci := 6) (fs := [.int 0, .null, .int 0, .int 0, .int 0, .null, .null, .null, .int 0, .null, .null, .null, .int 0, .null, .int 0, .null, .null, .null, .null, .int 0, .null, .null, .int 0, .null, .null, .long 0, .int 0, .null, .int 0, .int 0, .int 0, .int 0, .null, .null]) X iX6 tyX6 tyX6_ok ⟨cl_RL_10, ia_RX6, in_RX6⟩ rfl dX6 (by decide) nL_law_8 (fun o6 => ?_)
  refine V_dup nL_law_11 rfl ?_
  refine V_ctor (As := []) (st := [.ref o6]) 0 X hAO (c_X6_init g l o6) ⟨ml_RL_12, im_yX6_init, in_RX6, cd_X6_init⟩ rfl ⟨rfl, hy_X6_init.2⟩ (by decide) nL_law_12 rfl rfl (Nat.le_of_ble_eq_true rfl) ?_
  rintro _ ⟨o_a, rfl, rfl⟩
  refine V_astore_n (lv' := [(0, .ref b), (1, .ref (x_a 0)), (2, .ref (o_a 0))]) nL_law_15 (by decide) rfl ?_
  refine V_iconst (v := nI 0) nL_law_16 rfl ?_
  refine V_istore_n (lv' := [(0, .ref b), (1, .ref (x_a 0)), (2, .ref (o_a 0)), (3, .int (nI 0))]) nL_law_17 (by decide) rfl ?_
  refine V_blk (ws' := (wX g x_a t_a l_a n_a r_a q_a d_a 0) ++ (wT g t_a 0 (fun _ => nI 0)) ++ (wL g l_a 0 0 (fun _ => nI 0) (fun _ => nI 0) (fun _ => nI 0) (fun _ => nI 0) (fun _ => nI 0) (fun _ => nI 0)) ++ (wC g n_a l_a (fun _ => nI 0) (fun _ => nI 0) (fun _ => nI 0) (nI 0) (fun _ => nI 0) (fun _ => nI 0)) ++ (wC g r_a l_a (fun _ => nI 0) (fun _ => nI 0) (fun _ => nI 0) (nI 0) (fun _ => nI 0) (fun _ => nI 0)) ++ (wA g q_a (fun j => some (rg j 0)) 0 0) ++ (wP g rg l_a (fun _ => zCm) 14) ++ (wD g d_a (fun _ => nI 0) (fun _ => nI 0) 0) ++ (wR g (x_a 1) 2 (fun j => some (kg j 0))) ++ (wP g kg l_a (fun _ => zCm) 2) ++ (wZ g (x_a 2) 2 (fun _ => nI 0)) ++ (wI g (x_a 3) 8 (fun _ => nI 0)) ++ (wO g o_a (nI 0) 0 0 0 0 0 0 0 0 0 (nI 0) (nI 0) (nI 0) (nI 0) (nI 0)) ++ (wI g (o_a 1) 48 (fun _ => nI 0)) ++ (wI g (o_a 8) 12 (fun _ => nI 0)) ++ (wI g (o_a 9) 15 (fun _ => nI 0)) ++ (wML g o_a (fun _ => nI 0) (fun _ => nI 0) (fun _ => nI 0) (fun _ => nI 0) (fun _ => nI 0) (fun _ => nI 0)) ++ (wI g (o_a 10) 29 (fun _ => nI 0)) ++ (wI g (o_a 11) 29 (fun _ => nI 0)) ++ (wI g (o_a 12) 406 (fun _ => nI 0)) ++ (wI g (o_a 13) 58 (fun _ => nI 0)) ++ (wZ g (o_a 14) 2 (fun _ => nI 0)) ++ (wI g (o_a 15) 6 (fun _ => nI 0)) ++ (wI g (o_a 16) 6 (fun _ => nI 0)) ++ (wI g (o_a 17) 5 (fun _ => nI 0)) ++ (wI g (o_a 18) 8 (fun _ => nI 0)) ++ (wI g (o_a 19) 32 (fun _ => nI 0))) [wX g x_a t_a l_a n_a r_a q_a d_a 0, wT g t_a 0 (fun _ => nI 0), wL g l_a 0 0 (fun _ => nI 0) (fun _ => nI 0) (fun _ => nI 0) (fun _ => nI 0) (fun _ => nI 0) (fun _ => nI 0), wC g n_a l_a (fun _ => nI 0) (fun _ => nI 0) (fun _ => nI 0) (nI 0) (fun _ => nI 0) (fun _ => nI 0), wC g r_a l_a (fun _ => nI 0) (fun _ => nI 0) (fun _ => nI 0) (nI 0) (fun _ => nI 0) (fun _ => nI 0), wA g q_a (fun j => some (rg j 0)) 0 0, wP g rg l_a (fun _ => zCm) 14, wD g d_a (fun _ => nI 0) (fun _ => nI 0) 0, wR g (x_a 1) 2 (fun j => some (kg j 0)), wP g kg l_a (fun _ => zCm) 2, wZ g (x_a 2) 2 (fun _ => nI 0), wI g (x_a 3) 8 (fun _ => nI 0), wO g o_a (nI 0) 0 0 0 0 0 0 0 0 0 (nI 0) (nI 0) (nI 0) (nI 0) (nI 0), wI g (o_a 1) 48 (fun _ => nI 0), wML g o_a (fun _ => nI 0) (fun _ => nI 0) (fun _ => nI 0) (fun _ => nI 0) (fun _ => nI 0) (fun _ => nI 0), wI g (o_a 8) 12 (fun _ => nI 0), wI g (o_a 9) 15 (fun _ => nI 0), wI g (o_a 10) 29 (fun _ => nI 0), wI g (o_a 11) 29 (fun _ => nI 0), wI g (o_a 12) 406 (fun _ => nI 0), wI g (o_a 13) 58 (fun _ => nI 0), wZ g (o_a 14) 2 (fun _ => nI 0), wI g (o_a 15) 6 (fun _ => nI 0), wI g (o_a 16) 6 (fun _ => nI 0), wI g (o_a 17) 5 (fun _ => nI 0), wI g (o_a 18) 8 (fun _ => nI 0), wI g (o_a 19) 32 (fun _ => nI 0)] [0, 1, 2, 3, 4, 5, 6, 7, 8, 9, 10, 11, 12, 13, 15, 16, 14, 17, 18, 19, 20, 21, 22, 23, 24, 25, 26] (by show (List.range 27).isPerm [0, 1, 2, 3, 4, 5, 6, 7, 8, 9, 10, 11, 12, 13, 15, 16, 14, 17, 18, 19, 20, 21, 22, 23, 24, 25, 26] = true; decide +kernel) (by simp only [List.flatten_cons, List.flatten_nil, List.append_nil, List.append_assoc, List.nil_append]) (by show List.flatten [wX g x_a t_a l_a n_a r_a q_a d_a 0, wT g t_a 0 (fun _ => nI 0), wL g l_a 0 0 (fun _ => nI 0) (fun _ => nI 0) (fun _ => nI 0) (fun _ => nI 0) (fun _ => nI 0) (fun _ => nI 0), wC g n_a l_a (fun _ => nI 0) (fun _ => nI 0) (fun _ => nI 0) (nI 0) (fun _ => nI 0) (fun _ => nI 0), wC g r_a l_a (fun _ => nI 0) (fun _ => nI 0) (fun _ => nI 0) (nI 0) (fun _ => nI 0) (fun _ => nI 0), wA g q_a (fun j => some (rg j 0)) 0 0, wP g rg l_a (fun _ => zCm) 14, wD g d_a (fun _ => nI 0) (fun _ => nI 0) 0, wR g (x_a 1) 2 (fun j => some (kg j 0)), wP g kg l_a (fun _ => zCm) 2, wZ g (x_a 2) 2 (fun _ => nI 0), wI g (x_a 3) 8 (fun _ => nI 0), wO g o_a (nI 0) 0 0 0 0 0 0 0 0 0 (nI 0) (nI 0) (nI 0) (nI 0) (nI 0), wI g (o_a 1) 48 (fun _ => nI 0), wI g (o_a 8) 12 (fun _ => nI 0), wI g (o_a 9) 15 (fun _ => nI 0), wML g o_a (fun _ => nI 0) (fun _ => nI 0) (fun _ => nI 0) (fun _ => nI 0) (fun _ => nI 0) (fun _ => nI 0), wI g (o_a 10) 29 (fun _ => nI 0), wI g (o_a 11) 29 (fun _ => nI 0), wI g (o_a 12) 406 (fun _ => nI 0), wI g (o_a 13) 58 (fun _ => nI 0), wZ g (o_a 14) 2 (fun _ => nI 0), wI g (o_a 15) 6 (fun _ => nI 0), wI g (o_a 16) 6 (fun _ => nI 0), wI g (o_a 17) 5 (fun _ => nI 0), wI g (o_a 18) 8 (fun _ => nI 0), wI g (o_a 19) 32 (fun _ => nI 0)] = _; simp only [List.flatten_cons, List.flatten_nil, List.append_nil, List.append_assoc]) ?_
  exact law_loop g l E A sz Q b Ln xs x_a t_a l_a n_a r_a q_a d_a o_a rg kg X S hEnd (Ln + 1) 0 0 0 (fun _ => nI 0) 0 0 (fun _ => nI 0) (fun _ => nI 0) (fun _ => nI 0) (fun _ => nI 0) (fun _ => nI 0) (fun _ => nI 0) (fun _ => nI 0) (fun _ => nI 0) (fun _ => nI 0) (nI 0) (fun _ => nI 0) (fun _ => nI 0) (fun _ => nI 0) (fun _ => nI 0) (fun _ => nI 0) (nI 0) (fun _ => nI 0) (fun _ => nI 0) 0 0 (fun _ => zCm) (fun _ => nI 0) (fun _ => nI 0) 0 (fun _ => zCm) (fun _ => nI 0) (fun _ => nI 0) (nI 0) 0 0 0 (nI 0) (nI 0) (nI 0) (nI 0) (nI 0) (fun _ => nI 0) (fun _ => nI 0) (fun _ => nI 0) (fun _ => nI 0) (fun _ => nI 0) (fun _ => nI 0) (fun _ => nI 0) (fun _ => nI 0) (fun _ => nI 0) (by omega) (Nat.zero_le _) li_0
theorem whole_start {p : Program} {e : Env} {s : State} {m : MethodId} {below : List Frame} {meth : Method} {c : Code} (l : Launch) (hflags : l.flags = flags0) {b L : Nat} {xs : Nat → Int32} (hL : L ≤ 2560) (C0 : lw_At p s m meth c b L xs) : W p l e room_1 s m #[Value.ref b] below meth c s.heap [] 0 0 (lw_Z below #[Value.ref b] s) (entryFrame m ([Value.ref b] : List Value).toArray 4) := by
  obtain ⟨hx, hb, hr, hml, hown, hts, hX, hbl, hlocks, hgv⟩ := id C0
  obtain ⟨g, hK⟩ := st_K hts
  have hw : ∀ w ∈ wds, w.before #[Value.ref b] s = true := fun w h => hts w (List.mem_filter.mp h).1
  have hAO : va_AO RX1 s := va_AO.of (hts _ au_mem)
  have hbA : ¬ va_A [] s.heap.size b := fun h => by
    rcases h with ⟨k, e, h⟩ | h
    · cases h
    · omega
  have B : Bd g (p, l, e, room_1, s, m, #[Value.ref b], below, meth, c) mL_law (va_A [] s.heap.size) := ⟨hx, hb, hml, hown, hw, hr, hlocks, hK, fun q h => Or.inr h⟩
  have hl := lv_entry ([.ref b]) (n := 4) (Nat.le_of_ble_eq_true rfl)
  rw [lg_entry_eq]
  refine law_start g l (p, l, e, room_1, s, m, #[Value.ref b], below, meth, c) (va_A [] s.heap.size) s.heap.size (lw_Z below #[Value.ref b] s) b L xs ⟨rfl, rfl, rfl⟩ hAO ⟨hX, hbl, hbA, hL⟩ ?_ B _ s.heap [] hl (fun k q h => (by cases h)) ⟨fun i j p q h => (by cases h), fun k q h => (by cases h)⟩ va_S.rf
  intro ws lv
  refine V_iconst (v := 1) nL_law_956 (by decide) ?_
  intro B ls H locs hl hP hD hS
  refine W.widen (k := 600000) (n := 7302250) (Nat.le_of_ble_eq_true rfl) (Nat.le_of_ble_eq_true rfl) ?_
  refine va_forget (fun q hq => ?_) ?_
  · rcases hS.2.2 q hq with ⟨k, e, h⟩ | h
    · cases h
    · exact h
  · exact lw_ret hx hb hr hlocks nL_law_957.1
