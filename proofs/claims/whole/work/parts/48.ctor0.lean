/-! constructors: contracts with new cells -/
/-- what holds of a constructor's start -/
def PreN (g : Gx) (av : List Value) (w : va_W) (sz : Nat) : Array Value → State → Prop := va_Pc av (fun U => U.heap.size = sz ∧ va_P g.1 classes w U.heap ∧ va_K g.1 classes (tysG g) U ∧ va_D (fun _ => True) w ∧ va_AO RX1 U)
def QcN (g : Gx) (w : va_W) (sz : Nat) (Po : va_W → Prop) : Array Value → State → Outcome → State → Prop := fun _ st oc t =>
  (∃ w' : va_W, Po w' ∧ oc = .returned none ∧ va_P g.1 classes w' t.heap ∧ va_D (va_A w sz) w') ∧ va_F (va_A w sz) st t
def Cn (g : Gx) (l : Launch) (y : MethodName) (M : MS) (rm : Room) (av : List Value) (w : va_W) (mc ms : Nat) (Po : va_W → Prop) : Prop :=
  ∀ sz : Nat, Met l y (wsM y M) rm (PreN g av w sz) (QcN g w sz Po) mc ms (va_A w sz)
def Qn (g : Gx) (E : MV) (w : va_W) (sz : Nat) (Po : va_W → Prop) (mc ms : Nat) (A : Nat → Prop) : State → Prop := MQ E.2.2.2.2.2.2.2.1 (QcN g w sz Po) E.2.2.2.2.2.2.1 E.2.2.2.2.1 mc ms A
def In (E : MV) : Prop := E.2.2.2.2.2.2.2.2.1.name = "<init>" ∧ va_AO RX1 E.2.2.2.2.1
theorem PreN_blind {g : Gx} {av : List Value} {w : va_W} {sz : Nat} : FrameBlind (PreN g av w sz) := fun a U f mk q => by
  obtain ⟨q0, q1, q2, q3, q4, q5⟩ := q
  exact ⟨q0, q1, q2, va_K.moved (u := U) (U := U.calling f mk a) (Vm.Alike.refl U.vm) q3, q4, va_AO.moved (u := U) (U := U.calling f mk a) (Vm.Alike.refl U.vm) q5⟩
theorem Cn.of {g : Gx} {l : Launch} {y : MethodName} {M : MS} {rm : Room} {av : List Value} {lv : List (Nat × Value)} {w : va_W} {mc ms : Nat} {Po : va_W → Prop} (hy : plainName y.cls = true ∧ y.cls = M.2.2.1 ∧ (lg_sl av).length ≤ M.2.1) (hyn : y.name = "<init>") (hlv : lv_args 0 av = lv)
    (body : ∀ (E : MV) (A : Nat → Prop) (sz : Nat) (Q : State → Prop), Ev E l rm A w sz → In E → Q = Qn g E w sz Po mc ms A → V g E M A Q 0 0 w 0 lv []) : Cn g l y M rm av w mc ms Po := by
  intro sz
  subst hlv
  obtain ⟨hy, hc, hn⟩ := hy
  refine Met.ofW (cc := M.1) (maxL := M.2.1) (ret := M.2.2.2) hy rfl ?_
  intro p e s m args below meth c s₁ B hml hv
  obtain ⟨rfl, hsz, hP, hK, hD0, hAO⟩ := hv
  have hts := atoms_spec (ws := wsM y M) B.pre
  have hown : s.vm.findClass M.2.2.1 = some m.cls := by rw [← hc]; exact findClass_of_methodNamed B.named
  have hin : meth.name = "<init>" := by rw [← hyn]; exact (name_of_methodNamed B.named B.method).1
  have hD := hD0.self (sz := sz)
  have b := body (p, l, e, rm, s, m, av.toArray, below, meth, c) (va_A w sz) sz _ ⟨rfl, rfl, rfl⟩ ⟨hin, hAO⟩ rfl
  have hl := lv_entry av (n := M.2.1) hn
  rw [lg_entry_eq]
  exact b ⟨B.exec, B.bytes, hml, hown, fun w hw => hts w (List.mem_cons_of_mem _ hw), B.returns, B.notSynchronized, hK, fun q h => Or.inr (by rw [← hsz]; exact h)⟩ _ _ _ hl hP hD va_S.rf
section CN
variable {g : Gx} {E : MV} {M : MS} {A : Nat → Prop} {Q : State → Prop} {kc ks : Nat} {ws ws' : va_W} {pc pc' : Nat} {lv lv' : List (Nat × Value)} {st : List Value} {l : Launch} {R0 : Room} {A1 : Nat → Prop} {w1 : va_W} {sz1 : Nat}
theorem V_vretN {w : va_W} {sz : Nat} {Po : va_W → Prop} {rm : Room} (hM : M.2.2.2 = none) (hd : Nx M pc .return_ 1 pc') (hp : Po ws) (X : Ev E l rm A w sz) (hQ : Q = Qn g E w sz Po kc ks A) : V g E M A Q kc ks ws pc lv [] := by
  subst hQ
  intro B ls H locs hl hP hD hS
  exact W.vret B.1 B.2.1 (B.2.2.2.2.2.1.trans hM) (fun t ht hW => ⟨⟨ws, hp, rfl, by rw [ht]; exact hP, by rw [← X.2.2]; exact hD⟩, by rw [← X.2.2]; exact hS.F ht⟩) hS.2.2 hd.1 B.2.2.2.2.2.2.1
theorem V_obj {index a : Nat} (X : Ev E l R0 A1 w1 sz1) (hml : Cond.methodLink M.2.2.1 index objectInit ∈ wds) (hR : 1 ≤ R0.frames ∧ (st.map fun v => v.category).sum + 12 ≤ R0.locals) (hd : Nx M pc (.invokespecial index) 3 pc') (kk : V g E M A Q kc ks ws pc' lv st) : V g E M A Q kc ks ws pc lv (.ref a :: st) := by
  obtain ⟨hd, rfl⟩ := hd
  obtain ⟨-, hER, -⟩ := X
  subst hER
  intro B ls H locs hl hP hD hS
  refine W.objInit B.1 B.2.1 B.2.2.2.1 (B.2.2.2.2.1 _ hml) (B.2.2.2.2.1 _ im_objectInit) (B.2.2.2.2.1 _ cd_objectInit) rfl (by rw [B.2.2.1]; exact hl.1) rfl hd hR.1 ?_ (kk B ls H locs hl hP hD hS)
  have e : (F0 E.2.2.2.2.2.1 pc ls (Value.ref a :: st)).monitorRoom = 0 := rfl
  rw [e]
  have := hR.2
  omega
theorem V_new {C : String} {T : u_T} {N ci index : Nat} {fs : List Value} (X : Ev E l R0 A1 w1 sz1) (hin : ∀ w ∈ u_ws C T N, w ∈ wds) (ty : Nat → FieldType) (hty : ∀ k, k < N → parseFieldDescriptor (T k).2.2.1 = some (ty k)) (hw : Cond.classLink M.2.2.1 index C ∈ wds ∧ Cond.instantiable C N ∈ wds ∧ Cond.initialized C ∈ wds) (hc : classes[ci]? = some (C, T, N)) (hfs : ∀ j, j < N → defaultValue (ty j) = vp_V fs j) (hR : kc + 1 ≤ R0.cells ∧ ks + N ≤ R0.slots) (hd : Nx M pc (.new index) 3 pc')
    (kk : ∀ q : Nat, V g E M A Q (kc + 1) (ks + N) (ws ++ [(q, .inr (ci, fs))]) pc' lv (.ref q :: st)) : V g E M A Q kc ks ws pc lv st := by
  obtain ⟨hd, rfl⟩ := hd
  obtain ⟨-, hER, -⟩ := X
  subst hER
  intro B ls H locs hl hP hD hS
  exact va_new B.1 B.2.1 B.2.2.2.2.1 hin ty hty B.2.2.2.1 (B.2.2.2.2.1 _ hw.1) (B.2.2.2.2.1 _ hw.2.1) (B.2.2.2.2.1 _ hw.2.2) B.2.2.2.2.2.2.2.1 hP hD hS B.2.2.2.2.2.2.2.2 hc hfs hR.1 hR.2 hd (fun q H1 hP hD hS => kk q B ls H1 locs hl hP hD hS)
theorem V_newi {n : Nat} (X : Ev E l R0 A1 w1 sz1) (hn : n < 1000) (hR : kc + 1 ≤ R0.cells ∧ ks + n ≤ R0.slots) (hd : Nx M pc (.newarray .int) 2 pc')
    (kk : ∀ q : Nat, V g E M A Q (kc + 1) (ks + n) (ws ++ wI g q n (fun _ => nI 0)) pc' lv (.ref q :: st)) : V g E M A Q kc ks ws pc lv (.int (nI n) :: st) := by
  obtain ⟨hd, rfl⟩ := hd
  obtain ⟨-, hER, -⟩ := X
  subst hER
  intro B ls H locs hl hP hD hS
  refine va_newa (atype := .int) (ty := .int) (N' := n) (a0 := (n, .inl (fun _ => nI 0))) B.1 B.2.1 (B.2.2.2.2.1 _ ac_I) rfl B.2.2.2.2.2.2.2.1 hP hD hS B.2.2.2.2.2.2.2.2 (fun cA => rfl) (fun h => nI_pos (by omega) h) (nI_clamp (by omega)) (by show n * 4 ≤ 536870912; omega) hR.1 hR.2 hd (fun q cA H1 hK hP hD hS => ?_)
  have e1 : E.2.2.2.2.1.vm.findClass ("[" ++ FieldType.int.toString) = some cA := (hK.2 3 (cA, .int) rfl).2
  have e2 : E.2.2.2.2.1.vm.findClass ("[" ++ FieldType.int.toString) = some g.2.1 := (B.2.2.2.2.2.2.2.1.2 0 (g.2.1, .int) rfl).2
  have e3 : cA = g.2.1 := Option.some.inj (e1.symm.trans e2)
  subst e3
  exact kk q B ls H1 locs hl hP hD hS
theorem V_newz {n : Nat} (X : Ev E l R0 A1 w1 sz1) (hn : n < 1000) (hR : kc + 1 ≤ R0.cells ∧ ks + n ≤ R0.slots) (hd : Nx M pc (.newarray .boolean) 2 pc')
    (kk : ∀ q : Nat, V g E M A Q (kc + 1) (ks + n) (ws ++ wZ g q n (fun _ => nI 0)) pc' lv (.ref q :: st)) : V g E M A Q kc ks ws pc lv (.int (nI n) :: st) := by
  obtain ⟨hd, rfl⟩ := hd
  obtain ⟨-, hER, -⟩ := X
  subst hER
  intro B ls H locs hl hP hD hS
  refine va_newa (atype := .boolean) (ty := .boolean) (N' := n) (a0 := (n, .inl (fun _ => nI 0))) B.1 B.2.1 (B.2.2.2.2.1 _ ac_Z) rfl B.2.2.2.2.2.2.2.1 hP hD hS B.2.2.2.2.2.2.2.2 (fun cA => rfl) (fun h => nI_pos (by omega) h) (nI_clamp (by omega)) (by show n * 1 ≤ 536870912; omega) hR.1 hR.2 hd (fun q cA H1 hK hP hD hS => ?_)
  have e1 : E.2.2.2.2.1.vm.findClass ("[" ++ FieldType.boolean.toString) = some cA := (hK.2 3 (cA, .boolean) rfl).2
  have e2 : E.2.2.2.2.1.vm.findClass ("[" ++ FieldType.boolean.toString) = some g.2.2.1 := (B.2.2.2.2.2.2.2.1.2 1 (g.2.2.1, .boolean) rfl).2
  have e3 : cA = g.2.2.1 := Option.some.inj (e1.symm.trans e2)
  subst e3
  exact kk q B ls H1 locs hl hP hD hS
theorem V_newq {n index : Nat} (X : Ev E l R0 A1 w1 sz1) (I : In E) (hw : Cond.classLink M.2.2.1 index RX1 ∈ wds) (hn : n < 1000) (hR : kc + 1 ≤ R0.cells ∧ ks + n ≤ R0.slots) (hd : Nx M pc (.anewarray index) 3 pc')
    (kk : ∀ q : Nat, V g E M A Q (kc + 1) (ks + n) (ws ++ wR g q n (fun _ => none)) pc' lv (.ref q :: st)) : V g E M A Q kc ks ws pc lv (.int (nI n) :: st) := by
  obtain ⟨hd, rfl⟩ := hd
  obtain ⟨-, hER, -⟩ := X
  subst hER
  intro B ls H locs hl hP hD hS
  refine va_newq (C := RX1) (N' := n) B.1 B.2.1 B.2.2.2.1 (B.2.2.2.2.1 _ hw) I.2 B.2.2.2.2.2.2.2.1 hP hD hS B.2.2.2.2.2.2.2.2 (fun h => nI_pos (by omega) h) (nI_clamp (by omega)) (by omega) hR.1 hR.2 hd (fun q cA H1 hK hP hD hS => ?_)
  obtain ⟨_, _, _, _, _, e1⟩ := (hK.2 3 (cA, .object RX1) rfl).2
  obtain ⟨_, _, _, _, _, e2⟩ := (B.2.2.2.2.2.2.2.1.2 2 (g.2.2.2, .object RX1) rfl).2
  have e3 : cA = g.2.2.2 := Option.some.inj (e1.symm.trans e2)
  subst e3
  exact kk q B ls H1 locs hl hP hD hS
theorem V_putF {C : String} {T : u_T} {N ci index a : Nat} {fs : List Value} {v : Value} {ty : FieldType} (q0 k : Nat) (I : In E) (hin : ∀ w ∈ u_ws C T N, w ∈ wds) (ty0 : Nat → FieldType) (hty : ∀ k, k < N → parseFieldDescriptor (T k).2.2.1 = some (ty0 k)) (hnm : ∀ a, a < N → ∀ b, b < N → a ≠ b → (T a).2.1 ≠ (T b).2.1) (hc : classes[ci]? = some (C, T, N)) (hk : k < N) (hf : Cond.fieldLink M.2.2.1 index (T k).1 (T k).2.1 (T k).2.2.1 ∈ wds) (hfin : (T k).2.2.2 = true) (hdecl : (T k).1 = M.2.2.1) (hty1 : ty0 k = ty) (hn : narrow ty v = v) (hfit : fits ty v = true) (hd : Nx M pc (.putfield index) 3 pc') (he : ws[q0]? = some (a, .inr (ci, fs))) (hl0 : k < fs.length) (hw : ws.set q0 (a, .inr (ci, fs.set k v)) = ws') (kk : V g E M A Q kc ks ws' pc' lv st) : V g E M A Q kc ks ws pc lv (v :: .ref a :: st) := by
  obtain ⟨hd, rfl⟩ := hd
  intro B ls H locs hl hP hD hS
  subst hw
  subst hty1
  exact va_putF B.1 B.2.1 B.2.2.2.2.1 hin ty0 hty hnm B.2.2.2.1 B.2.2.2.2.2.2.2.1 hP hD hS q0 he hc k hk (B.2.2.2.2.1 _ hf) (fun _ h => h) hfin I.1 hdecl (hty k hk) hn hfit hl0 hd (fun H1 locs1 hP hD hS => kk B ls H1 locs1 hl hP hD hS)
theorem V_aast {a n j v : Nat} {f : Nat → Option Nat} {vs : List Value} (q0 qk : Nat) (hd : Nx M pc .aastore 1 pc') (he : ws[q0]? = some (a, .inl (g.2.2.2, n, .inr (.inr (.inr (.inr f)))))) (hv : ws[qk]? = some (v, .inr (1, vs))) (hj : j < n) (hn : n < 2 ^ 31) (hw : ws.set q0 (a, .inl (g.2.2.2, n, .inr (.inr (.inr (.inr (va_up f j (some v))))))) = ws') (kk : V g E M A Q kc ks ws' pc' lv st) : V g E M A Q kc ks ws pc lv (.ref v :: .int (nI j) :: .ref a :: st) := by
  obtain ⟨hd, rfl⟩ := hd
  subst hw
  intro B ls H locs hl hP hD hS
  have hc : (nI j).toNatClampNeg = j := nI_clamp (by omega)
  refine va_astq (r := (RX1, TX1, 7)) B.1 B.2.1 B.2.2.2.2.2.2.2.1 hP hD hS q0 2 qk 1 he rfl hv rfl (fun q => ?_) hd (fun H1 locs1 hP hD hS => ?_)
  · rcases q with q | q
    · exact nI_pos (by omega) q
    · rw [hc] at q; omega
  · rw [hc] at hP hD
    exact kk B ls H1 locs1 hl hP hD hS
/-- a constructor's call: the new object stands last -/
theorem V_ctor {y : MethodName} {N : MS} {rm : Room} {b ci index mc ms : Nat} {fs As : List Value} {Po : va_W → Prop} {st0 : List Value} (n : Nat) (X : Ev E l R0 A1 w1 sz1) (hAO : va_AO RX1 E.2.2.2.2.1) (hM : Cn g l y N rm (.ref b :: As) [(b, .inr (ci, fs))] mc ms Po)
    (hw : Cond.methodLink M.2.2.1 index y ∈ wds ∧ Cond.instanceMethod y ∈ wds ∧ Cond.initialized y.cls ∈ wds ∧ Cond.code y N.1 N.2.1 none ∈ wds) (hN : N.2.2.2 = none)
    (hy : y.name = "<init>" ∧ y.cls ≠ "java/lang/invoke/MethodHandle" ∧ y.cls ≠ "java/lang/invoke/VarHandle" ∧ (parseMethodDescriptor y.desc).map (fun d => d.parameters.length) = some n) (hR : rm.cells = mc ∧ rm.slots = ms ∧ rm.frames + 1 ≤ R0.frames ∧ 8 + (N.2.1 + 11) + rm.locals ≤ R0.locals ∧ kc + mc ≤ R0.cells ∧ ks + ms ≤ R0.slots)
    (hd : Nx M pc (.invokespecial index) 3 pc') (hAs : As.length = n) (hst : st0 = As.reverse ++ .ref b :: st) (hcat : (st.map fun v => v.category).sum ≤ 8)
    (kk : ∀ w' : va_W, Po w' → V g E M A Q (kc + mc) (ks + ms) (ws ++ w') pc' lv st) : V g E M A Q kc ks (ws ++ [(b, .inr (ci, fs))]) pc lv st0 := by
  obtain ⟨hd, rfl⟩ := hd
  subst hst
  obtain ⟨hE, hER, -⟩ := X
  subst hE
  subst hER
  intro B ls H locs hl hP hD hS
  have hC : [ws.length].map (fun i => (ws ++ [(b, (.inr (ci, fs) : va_E))])[i]?) = [(b, (.inr (ci, fs) : va_E))].map some := by simp
  have hRr := range_at ws [(b, (.inr (ci, fs) : va_E))]
  have hPc : va_P g.1 classes [(b, .inr (ci, fs))] H := P_sub hP _ hC
  have hF := va_free (wc := [(b, .inr (ci, fs))]) hD hS B.2.2.2.2.2.2.2.2 _ hC
  have hDc : va_D (fun _ => True) [(b, (.inr (ci, fs) : va_E))] := D_weak hD _ rfl hC
  have run := va_runI (e := E.2.2.1) (below := E.2.2.2.2.2.2.2.1) (meth := E.2.2.2.2.2.2.2.2.1) (Ts := wds) (own := M.2.2.1) (bytes := N.1) (maxL := N.2.1) (n := n) (rest := st) (As := As) (index := index) (g := F0 E.2.2.2.2.2.1 pc ls (As.reverse ++ .ref b :: st)) (locs := locs) (cells := kc) (slots := ks) (mc := mc) (ms := ms) ⟨B.1, B.2.1, B.2.2.1, B.2.2.2.1, B.2.2.2.2.1⟩ (hM H.size)
    (cwI (ws' := wds) n B.2.2.2.2.1 (fun w hw2 => by
      have good : ∀ z ∈ wds, z ∈ wds ∧ ((z.onTables && z.keeps) = true ∨ ∃ ty, z = .arrayClass ty) := wd_good
      rcases List.mem_cons.mp hw2 with rfl | h
      · rw [hN]; exact good _ hw.2.2.2
      · exact good _ h) (by rw [← hN]) hR.1 hR.2.1 (B.2.2.2.2.1 _ hw.2.2.1) (B.2.2.2.2.1 _ hw.1) (B.2.2.2.2.1 _ hw.2.1) hy.1 hy.2 ⟨hR.2.2.1, hR.2.2.2.1⟩)
    ⟨PreN_blind, fun U hU hW => ⟨rfl, by rw [hU], by rw [hU]; exact hPc, va_K.moved hW.alike B.2.2.2.2.2.2.2.1, hDc, va_AO.moved hW.alike hAO⟩⟩ rfl hAs hl.1 rfl (lv_room hcat) hd ⟨hR.2.2.2.2.1, hR.2.2.2.2.2⟩
  intro T hT XX
  obtain ⟨v, st₀, t, T', L, h0, X', hL, e1, e2, ⟨⟨w', hp, hv, hP1, hD1⟩, hz, hk⟩, stp⟩ := run T hT XX
  cases hv
  rw [h0] at hz hk
  rw [← e1] at hz hk hP1
  obtain ⟨hP2, hD2⟩ := va_join hP hD [ws.length] (List.range ws.length) hC hRr (range_nd _) (fun i hi hj => by
    rw [List.mem_range] at hi
    rw [List.mem_singleton] at hj
    omega) hk hF hP1 hD1
  have hS2 : va_S A E.2.2.2.2.1.heap T'.heap (locs ++ L) := ⟨Nat.le_trans hS.1 hz, fun q h1 h2 => by
      rw [hk q (Nat.lt_of_lt_of_le h1 hS.1) (fun z => h2 (hF q z))]
      exact hS.2.1 q h1 h2, fun q hq => by
      rcases List.mem_append.mp hq with h | h
      · exact hS.2.2 q h
      · exact hF _ (hL q h)⟩
  obtain ⟨t2, a1, b1⟩ := kk w' hp B ls T'.heap (locs ++ L) hl hP2 hD2 hS2 T' rfl X'
  exact ⟨t2, stp t2 a1, b1⟩
end CN
