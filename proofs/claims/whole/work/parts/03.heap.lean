/-! V: fields, arrays, calls, entry, return -/
/-- what holds of a callee's start -/
def PreC (g : Gx) (av : List Value) (w : va_W) (sz : Nat) : Array Value → State → Prop := va_Pc av (fun U => U.heap.size = sz ∧ va_P g.1 classes w U.heap ∧ va_K g.1 classes (tysG g) U ∧ va_D (fun _ => True) w)
/-- .. and of its end: an answer and a world over the same addresses, of which Po holds -/
def QcC (g : Gx) (w : va_W) (sz : Nat) (Po : Option Value → va_W → Prop) : Array Value → State → Outcome → State → Prop := fun _ st oc t =>
  (∃ (r : Option Value) (w' : va_W), Po r w' ∧ oc = .returned r ∧ w'.map Prod.fst = w.map Prod.fst ∧ va_P g.1 classes w' t.heap) ∧ va_F (va_A w sz) st t
abbrev wsM (y : MethodName) (M : MS) : List Cond := .code y M.1 M.2.1 M.2.2.2 :: wds
/-- a method's contract, no cell being made -/
def Ct (g : Gx) (l : Launch) (y : MethodName) (M : MS) (rm : Room) (av : List Value) (w : va_W) (Po : Option Value → va_W → Prop) : Prop :=
  ∀ sz : Nat, Met l y (wsM y M) rm (PreC g av w sz) (QcC g w sz Po) 0 0 (va_A w sz)
/-- .. whose answer and world are known -/
def Cd (g : Gx) (l : Launch) (y : MethodName) (M : MS) (rm : Room) (av : List Value) (w : va_W) (r : Option Value) (w' : va_W) : Prop := Ct g l y M rm av w (fun r' w'' => r' = r ∧ w'' = w')
theorem Ct.mono {g : Gx} {l : Launch} {y : MethodName} {M : MS} {rm : Room} {av : List Value} {w : va_W} {Po Po' : Option Value → va_W → Prop} (h : Ct g l y M rm av w Po) (hi : ∀ r w', Po r w' → Po' r w') : Ct g l y M rm av w Po' := by
  intro sz p e ha hc hk s m args below hf h1 h2 h3
  obtain ⟨t, o, q1, q2, q3, ⟨⟨⟨r, w', a1, a2, a3, a4⟩, a5⟩, a6⟩⟩ := h sz p e ha hc hk s m args below hf h1 h2 h3
  exact ⟨t, o, q1, q2, q3, ⟨⟨⟨r, w', hi r w' a1, a2, a3, a4⟩, a5⟩, a6⟩⟩
theorem va_D_addr {A : Nat → Prop} {w w' : va_W} (h : va_D A w) (e : w'.map Prod.fst = w.map Prod.fst) : va_D A w' := by
  have key : ∀ (k : Nat) (q : Nat × va_E), w'[k]? = some q → ∃ q0, w[k]? = some q0 ∧ q0.1 = q.1 := by
    intro k q hk
    have h1 : (w'.map Prod.fst)[k]? = some q.1 := by rw [List.getElem?_map, hk]; rfl
    rw [e, List.getElem?_map] at h1
    cases hq : w[k]? with
    | none => rw [hq] at h1; cases h1
    | some q0 => rw [hq] at h1; exact ⟨q0, rfl, Option.some.inj h1⟩
  refine ⟨fun i j x y hi hj hxy => ?_, fun k q hk => ?_⟩
  · obtain ⟨x0, h1, h2⟩ := key i x hi
    obtain ⟨y0, h3, h4⟩ := key j y hj
    exact h.1 i j x0 y0 h1 h3 (h2.trans (hxy.trans h4.symm))
  · obtain ⟨q0, h1, h2⟩ := key k q hk
    rw [← h2]
    exact h.2 k q0 h1
theorem PreC_blind {g : Gx} {av : List Value} {w : va_W} {sz : Nat} : FrameBlind (PreC g av w sz) := fun a U f mk q => by
  obtain ⟨q0, q1, q2, q3, q4⟩ := q
  exact ⟨q0, q1, q2, va_K.moved (u := U) (U := U.calling f mk a) (Vm.Alike.refl U.vm) q3, q4⟩
/-- what a walk knows of its own frame -/
def Ev (E : MV) (l : Launch) (rm : Room) (A : Nat → Prop) (w : va_W) (sz : Nat) : Prop := E.2.1 = l ∧ E.2.2.2.1 = rm ∧ A = va_A w sz
/-- what a walk has to come to -/
def Qm (g : Gx) (E : MV) (w : va_W) (sz : Nat) (Po : Option Value → va_W → Prop) (A : Nat → Prop) : State → Prop := MQ E.2.2.2.2.2.2.2.1 (QcC g w sz Po) E.2.2.2.2.2.2.1 E.2.2.2.2.1 0 0 A
/-- THE ENTRY: a contract by a walk -/
theorem Ct.of {g : Gx} {l : Launch} {y : MethodName} {M : MS} {rm : Room} {av : List Value} {lv : List (Nat × Value)} {w : va_W} {Po : Option Value → va_W → Prop} (hy : plainName y.cls = true ∧ y.cls = M.2.2.1 ∧ (lg_sl av).length ≤ M.2.1) (hlv : lv_args 0 av = lv)
    (body : ∀ (E : MV) (A : Nat → Prop) (sz : Nat) (Q : State → Prop), Ev E l rm A w sz → Q = Qm g E w sz Po A → V g E M A Q 0 0 w 0 lv []) : Ct g l y M rm av w Po := by
  intro sz
  subst hlv
  obtain ⟨hy, hc, hn⟩ := hy
  refine Met.ofW (cc := M.1) (maxL := M.2.1) (ret := M.2.2.2) hy rfl ?_
  intro p e s m args below meth c s₁ B hml hv
  obtain ⟨rfl, hsz, hP, hK, hD0⟩ := hv
  have hts := atoms_spec (ws := wsM y M) B.pre
  have hown : s.vm.findClass M.2.2.1 = some m.cls := by rw [← hc]; exact findClass_of_methodNamed B.named
  have hD := hD0.self (sz := sz)
  have b := body (p, l, e, rm, s, m, av.toArray, below, meth, c) (va_A w sz) sz _ ⟨rfl, rfl, rfl⟩ rfl
  have hl := lv_entry av (n := M.2.1) hn
  rw [lg_entry_eq]
  exact b ⟨B.exec, B.bytes, hml, hown, fun w hw => hts w (List.mem_cons_of_mem _ hw), B.returns, B.notSynchronized, hK, fun q h => Or.inr (by rw [← hsz]; exact h)⟩ _ _ _ hl hP hD va_S.rf
section VH
variable {g : Gx} {E : MV} {M : MS} {A : Nat → Prop} {Q : State → Prop} {kc ks : Nat} {ws ws' : va_W} {pc pc' : Nat} {lv lv' : List (Nat × Value)} {st : List Value}
/-- returns -/
theorem V_iret {w : va_W} {sz : Nat} {Po : Option Value → va_W → Prop} {v : Int32} (hM : M.2.2.2 = some .int) (hd : Nx M pc .ireturn 1 pc') (hp : Po (some (.int v)) ws) (ha : ws.map Prod.fst = w.map Prod.fst) {l : Launch} {rm : Room} (X : Ev E l rm A w sz) (hQ : Q = Qm g E w sz Po A) : V g E M A Q 0 0 ws pc lv [.int v] := by
  subst hQ
  intro B ls H locs hl hP hD hS
  exact W.iret B.1 B.2.1 (B.2.2.2.2.2.1.trans hM) (fun t ht hW => ⟨⟨_, ws, hp, rfl, ha, by rw [ht]; exact hP⟩, by rw [← X.2.2]; exact hS.F ht⟩) hS.2.2 hd.1 B.2.2.2.2.2.2.1
theorem V_zret {w : va_W} {sz : Nat} {Po : Option Value → va_W → Prop} {b : Bool} (hM : M.2.2.2 = some .boolean) (hd : Nx M pc .ireturn 1 pc') (hp : Po (some (.int (bI b))) ws) (ha : ws.map Prod.fst = w.map Prod.fst) {l : Launch} {rm : Room} (X : Ev E l rm A w sz) (hQ : Q = Qm g E w sz Po A) : V g E M A Q 0 0 ws pc lv [.int (bI b)] := by
  subst hQ
  intro B ls H locs hl hP hD hS
  exact W.zret B.1 B.2.1 (B.2.2.2.2.2.1.trans hM) (bI_n b) (fun t ht hW => ⟨⟨_, ws, hp, rfl, ha, by rw [ht]; exact hP⟩, by rw [← X.2.2]; exact hS.F ht⟩) hS.2.2 hd.1 B.2.2.2.2.2.2.1
theorem V_lret {w : va_W} {sz : Nat} {Po : Option Value → va_W → Prop} {v : Int64} (hM : M.2.2.2 = some .long) (hd : Nx M pc .lreturn 1 pc') (hp : Po (some (.long v)) ws) (ha : ws.map Prod.fst = w.map Prod.fst) {l : Launch} {rm : Room} (X : Ev E l rm A w sz) (hQ : Q = Qm g E w sz Po A) : V g E M A Q 0 0 ws pc lv [.long v] := by
  subst hQ
  intro B ls H locs hl hP hD hS
  exact W.lret B.1 B.2.1 (B.2.2.2.2.2.1.trans hM) (fun t ht hW => ⟨⟨_, ws, hp, rfl, ha, by rw [ht]; exact hP⟩, by rw [← X.2.2]; exact hS.F ht⟩) hS.2.2 hd.1 B.2.2.2.2.2.2.1
theorem V_vret {w : va_W} {sz : Nat} {Po : Option Value → va_W → Prop} (hM : M.2.2.2 = none) (hd : Nx M pc .return_ 1 pc') (hp : Po none ws) (ha : ws.map Prod.fst = w.map Prod.fst) {l : Launch} {rm : Room} (X : Ev E l rm A w sz) (hQ : Q = Qm g E w sz Po A) : V g E M A Q 0 0 ws pc lv [] := by
  subst hQ
  intro B ls H locs hl hP hD hS
  exact W.vret B.1 B.2.1 (B.2.2.2.2.2.1.trans hM) (fun t ht hW => ⟨⟨_, ws, hp, rfl, ha, by rw [ht]; exact hP⟩, by rw [← X.2.2]; exact hS.F ht⟩) hS.2.2 hd.1 B.2.2.2.2.2.2.1
/-- getfield: the object stands at place q0 of the world, the field at place k of its class's table -/
theorem V_get {C : String} {T : u_T} {N ci index a : Nat} {fs : List Value} {v : Value} (q0 k : Nat) (hin : ∀ w ∈ u_ws C T N, w ∈ wds) (hc : classes[ci]? = some (C, T, N)) (hk : k < N) (hf : Cond.fieldLink M.2.2.1 index (T k).1 (T k).2.1 (T k).2.2.1 ∈ wds) (hd : Nx M pc (.getfield index) 3 pc') (he : ws[q0]? = some (a, .inr (ci, fs))) (hv : fs[k]? = some v) (kk : V g E M A Q kc ks ws pc' lv (v :: st)) : V g E M A Q kc ks ws pc lv (.ref a :: st) := by
  obtain ⟨hd, rfl⟩ := hd
  intro B ls H locs hl hP hD hS
  exact va_get B.1 B.2.1 B.2.2.2.2.1 hin B.2.2.2.1 B.2.2.2.2.2.2.2.1 hP q0 he hc k hk (B.2.2.2.2.1 _ hf) (fun _ h => h) hv hd (kk B ls H locs hl hP hD hS)
theorem V_put {C : String} {T : u_T} {N ci index a : Nat} {fs : List Value} {v : Value} {ty : FieldType} (q0 k : Nat) (hin : ∀ w ∈ u_ws C T N, w ∈ wds) (ty0 : Nat → FieldType) (hty : ∀ k, k < N → parseFieldDescriptor (T k).2.2.1 = some (ty0 k)) (hnm : ∀ a, a < N → ∀ b, b < N → a ≠ b → (T a).2.1 ≠ (T b).2.1) (hc : classes[ci]? = some (C, T, N)) (hk : k < N) (hf : Cond.fieldLink M.2.2.1 index (T k).1 (T k).2.1 (T k).2.2.1 ∈ wds) (hfin : (T k).2.2.2 = false) (hty1 : ty0 k = ty) (hn : narrow ty v = v) (hfit : fits ty v = true) (hd : Nx M pc (.putfield index) 3 pc') (he : ws[q0]? = some (a, .inr (ci, fs))) (hl0 : k < fs.length) (hw : ws.set q0 (a, .inr (ci, fs.set k v)) = ws') (kk : V g E M A Q kc ks ws' pc' lv st) : V g E M A Q kc ks ws pc lv (v :: .ref a :: st) := by
  obtain ⟨hd, rfl⟩ := hd
  intro B ls H locs hl hP hD hS
  subst hw
  subst hty1
  exact va_put B.1 B.2.1 B.2.2.2.2.1 hin ty0 hty hnm B.2.2.2.1 B.2.2.2.2.2.2.2.1 hP hD hS q0 he hc k hk (B.2.2.2.2.1 _ hf) (fun _ h => h) hfin (hty k hk) hn hfit hl0 hd (fun H1 locs1 hP hD hS => kk B ls H1 locs1 hl hP hD hS)
theorem V_iald {a n j : Nat} {f : Nat → Int32} {v : Int32} (q0 : Nat) (hd : Nx M pc .iaload 1 pc') (he : ws[q0]? = some (a, .inl (g.2.1, n, .inl f))) (hj : j < n) (hn : n < 2 ^ 31) (hv : f j = v) (kk : V g E M A Q kc ks ws pc' lv (.int v :: st)) : V g E M A Q kc ks ws pc lv (.int (nI j) :: .ref a :: st) := by
  obtain ⟨hd, rfl⟩ := hd
  intro B ls H locs hl hP hD hS
  subst hv
  refine va_iald B.1 B.2.1 B.2.2.2.2.2.2.2.1 hP q0 0 he rfl (vp_in_nI hj hn) hd ?_
  rw [nI_clamp (Nat.lt_trans hj hn)]
  exact kk B ls H locs hl hP hD hS
theorem V_zald {a n j : Nat} {f : Nat → Int32} {v : Int32} (q0 : Nat) (hd : Nx M pc .baload 1 pc') (he : ws[q0]? = some (a, .inl (g.2.2.1, n, .inl f))) (hj : j < n) (hn : n < 2 ^ 31) (hv : f j = v) (kk : V g E M A Q kc ks ws pc' lv (.int v :: st)) : V g E M A Q kc ks ws pc lv (.int (nI j) :: .ref a :: st) := by
  obtain ⟨hd, rfl⟩ := hd
  intro B ls H locs hl hP hD hS
  subst hv
  refine va_zald B.1 B.2.1 B.2.2.2.2.2.2.2.1 hP q0 1 he rfl (vp_in_nI hj hn) hd ?_
  rw [nI_clamp (Nat.lt_trans hj hn)]
  exact kk B ls H locs hl hP hD hS
theorem V_aald {a n j b : Nat} {f : Nat → Option Nat} (q0 : Nat) (hd : Nx M pc .aaload 1 pc') (he : ws[q0]? = some (a, .inl (g.2.2.2, n, .inr (.inr (.inr (.inr f)))))) (hj : j < n) (hn : n < 2 ^ 31) (hv : f j = some b) (kk : V g E M A Q kc ks ws pc' lv (.ref b :: st)) : V g E M A Q kc ks ws pc lv (.int (nI j) :: .ref a :: st) := by
  obtain ⟨hd, rfl⟩ := hd
  intro B ls H locs hl hP hD hS
  refine va_aldq B.1 B.2.1 B.2.2.2.2.2.2.2.1 hP q0 2 he rfl (vp_in_nI hj hn) hd ?_
  rw [nI_clamp (Nat.lt_trans hj hn), hv]
  exact kk B ls H locs hl hP hD hS
theorem V_iast {a n j : Nat} {f : Nat → Int32} {x : Int32} (q0 : Nat) (hd : Nx M pc .iastore 1 pc') (he : ws[q0]? = some (a, .inl (g.2.1, n, .inl f))) (hj : j < n) (hn : n < 2 ^ 31) (hw : ws.set q0 (a, .inl (g.2.1, n, .inl (upd f j x))) = ws') (kk : V g E M A Q kc ks ws' pc' lv st) : V g E M A Q kc ks ws pc lv (.int x :: .int (nI j) :: .ref a :: st) := by
  obtain ⟨hd, rfl⟩ := hd
  intro B ls H locs hl hP hD hS
  subst hw
  refine va_iast B.1 B.2.1 B.2.2.2.2.2.2.2.1 hP hD hS q0 0 he rfl (vp_in_nI hj hn) hd ?_
  rw [nI_clamp (Nat.lt_trans hj hn)]
  exact fun H1 locs1 hP hD hS => kk B ls H1 locs1 hl hP hD hS
theorem V_zast {a n j : Nat} {f : Nat → Int32} {b : Bool} (q0 : Nat) (hd : Nx M pc .bastore 1 pc') (he : ws[q0]? = some (a, .inl (g.2.2.1, n, .inl f))) (hj : j < n) (hn : n < 2 ^ 31) (hw : ws.set q0 (a, .inl (g.2.2.1, n, .inl (upd f j (bI b)))) = ws') (kk : V g E M A Q kc ks ws' pc' lv st) : V g E M A Q kc ks ws pc lv (.int (bI b) :: .int (nI j) :: .ref a :: st) := by
  obtain ⟨hd, rfl⟩ := hd
  intro B ls H locs hl hP hD hS
  subst hw
  refine va_zast B.1 B.2.1 B.2.2.2.2.2.2.2.1 hP hD hS q0 1 he rfl (vp_in_nI hj hn) hd ?_
  rw [nI_clamp (Nat.lt_trans hj hn), show vp_nar .boolean (bI b) = bI b by cases b <;> decide]
  exact fun H1 locs1 hP hD hS => kk B ls H1 locs1 hl hP hD hS
/-- constants of the pool -/
theorem V_ldc {index : Nat} {v : Int32} (hc : Cond.constant M.2.2.1 index v ∈ wds) (hd : Nx M pc (.ldc index) 2 pc') (kk : V g E M A Q kc ks ws pc' lv (.int v :: st)) : V g E M A Q kc ks ws pc lv st := by
  obtain ⟨hd, rfl⟩ := hd
  intro B ls H locs hl hP hD hS
  exact lv_ldc B.1 B.2.1 B.2.2.2.1 (B.2.2.2.2.1 _ hc) hd (kk B ls H locs hl hP hD hS)
theorem V_ldc2 {index : Nat} {v : Int64} (hc : Cond.constantLong M.2.2.1 index v ∈ wds) (hd : Nx M pc (.ldc2_w index) 3 pc') (kk : V g E M A Q kc ks ws pc' lv (.long v :: st)) : V g E M A Q kc ks ws pc lv st := by
  obtain ⟨hd, rfl⟩ := hd
  intro B ls H locs hl hP hD hS
  exact lv_ldc2 B.1 B.2.1 B.2.2.2.1 (B.2.2.2.2.1 _ hc) hd (kk B ls H locs hl hP hD hS)
/-- switches -/
theorem V_tableOut {dflt lo hi : Int} {offs : Array Int} {len : Nat} {x : Int32} {tgt : Nat} (hd : Nx M pc (.tableswitch dflt lo hi offs) len pc') (h : x.toInt < lo ∨ hi < x.toInt) (ht : (pc : Int) + dflt = (tgt : Int)) (kk : V g E M A Q kc ks ws tgt lv st) : V g E M A Q kc ks ws pc lv (.int x :: st) := by
  intro B ls H locs hl hP hD hS
  exact lv_tableOut B.1 B.2.1 hd.1 h ht (kk B ls H locs hl hP hD hS)
theorem V_tableIn {dflt lo hi : Int} {offs : Array Int} {len : Nat} {x : Int32} {off : Int} {tgt : Nat} (hd : Nx M pc (.tableswitch dflt lo hi offs) len pc') (h1 : ¬ x.toInt < lo) (h2 : ¬ hi < x.toInt) (ho : offs[(x.toInt - lo).toNat]? = some off) (ht : (pc : Int) + off = (tgt : Int)) (kk : V g E M A Q kc ks ws tgt lv st) : V g E M A Q kc ks ws pc lv (.int x :: st) := by
  intro B ls H locs hl hP hD hS
  exact lv_tableIn B.1 B.2.1 hd.1 h1 h2 ho ht (kk B ls H locs hl hP hD hS)
end VH
/-- the cells w put at the places is -/
def wput (ws : va_W) : List Nat → va_W → va_W
  | i :: is, c :: w => wput (ws.set i c) is w
  | _, _ => ws
theorem wput_len : ∀ (is : List Nat) (w ws : va_W), (wput ws is w).length = ws.length
  | [], [], _ => rfl
  | [], _ :: _, _ => rfl
  | _ :: _, [], _ => rfl
  | i :: is, c :: w, ws => by
    show (wput (ws.set i c) is w).length = _
    rw [wput_len is w, List.length_set]
theorem wput_out : ∀ (is : List Nat) (w ws : va_W) (k : Nat), k ∉ is → (wput ws is w)[k]? = ws[k]?
  | [], [], _, _, _ => rfl
  | [], _ :: _, _, _, _ => rfl
  | _ :: _, [], _, _, _ => rfl
  | i :: is, c :: w, ws, k, h => by
    show (wput (ws.set i c) is w)[k]? = _
    rw [wput_out is w _ k (fun q => h (List.mem_cons_of_mem _ q)), List.getElem?_set_ne (fun q => h (by rw [q]; exact List.mem_cons_self))]
theorem wput_in : ∀ (is : List Nat) (w ws : va_W) (k : Nat) (q : Nat × va_E), k ∈ is → is.length = w.length → (wput ws is w)[k]? = some q → q ∈ w ∨ ws[k]? = none
  | [], _, _, _, _, h, _, _ => by cases h
  | _ :: _, [], _, _, _, _, h, _ => by cases h
  | i :: is, c :: w, ws, k, q, h, hl, hq => by
    have hq : (wput (ws.set i c) is w)[k]? = some q := hq
    by_cases hk : k ∈ is
    · rcases wput_in is w _ k q hk (Nat.succ.inj hl) hq with h1 | h1
      · exact Or.inl (List.mem_cons_of_mem _ h1)
      · refine Or.inr ?_
        rw [List.getElem?_eq_none_iff] at h1 ⊢
        rw [List.length_set] at h1
        exact h1
    · have hik : k = i := by
        rcases List.mem_cons.mp h with h | h
        · exact h
        · exact absurd h hk
      subst hik
      rw [wput_out is w _ k hk] at hq
      by_cases hlt : k < ws.length
      · rw [List.getElem?_set_self hlt] at hq
        cases hq
        exact Or.inl List.mem_cons_self
      · exact Or.inr (List.getElem?_eq_none (by omega))
/-- behind a call, in the same order -/
theorem wput_adr : ∀ (is : List Nat) (w wc ws : va_W), is.map (fun j => (ws.map Prod.fst)[j]?) = wc.map (fun q => some q.1) → w.map Prod.fst = wc.map Prod.fst → (wput ws is w).map Prod.fst = ws.map Prod.fst
  | [], [], _, _, _, _ => rfl
  | [], _ :: _, _, _, _, _ => rfl
  | _ :: _, [], _, _, _, _ => rfl
  | i :: is, c :: w, [], _, _, h => by cases h
  | i :: is, c :: w, d :: wc, ws, hs, h => by
    obtain ⟨h1, h2⟩ := List.cons.inj hs
    obtain ⟨h3, h4⟩ := List.cons.inj h
    have h1 : (ws.map Prod.fst)[i]? = some d.1 := h1
    have e : (ws.set i c).map Prod.fst = ws.map Prod.fst := by
      rw [List.map_set]
      apply List.ext_getElem?
      intro k
      by_cases hk : k = i
      · subst hk
        have hlt : k < (ws.map Prod.fst).length := (List.getElem?_eq_some_iff.mp h1).1
        rw [List.getElem?_set_self hlt, h1]
        show some c.1 = some d.1
        rw [show c.1 = d.1 from h3]
      · rw [List.getElem?_set_ne (Ne.symm hk)]
    show (wput (ws.set i c) is w).map Prod.fst = _
    rw [wput_adr is w wc (ws.set i c) (by rw [e]; exact h2) h4, e]
theorem wput_addr (is : List Nat) (w wc ws : va_W) (hs : is.map (fun i => ws[i]?) = wc.map some) (h : w.map Prod.fst = wc.map Prod.fst) : (wput ws is w).map Prod.fst = ws.map Prod.fst := by
  refine wput_adr is w wc ws ?_ h
  have h5 := congrArg (fun l => l.map (Option.map Prod.fst)) hs
  simp only [List.map_map] at h5
  refine Eq.trans ?_ (h5.trans ?_)
  · apply List.map_congr_left
    intro j _
    rw [List.getElem?_map]
    rfl
  · apply List.map_congr_left
    intro j _
    rfl
theorem va_back {A0 : Nat → Prop} {D : va_G} {cl : List vw_C} {ws wc w1 : va_W} {H H1 : Heap} (hP : va_P D cl ws H) (hD : va_D A0 ws) (is : List Nat) (hC : is.map (fun i => ws[i]?) = wc.map some) (ha : w1.map Prod.fst = wc.map Prod.fst)
    (hk : ∀ q : Nat, q < H.size → ¬ va_A wc H.size q → H1[q]? = H[q]?) (hP1 : va_P D cl w1 H1) : va_P D cl (wput ws is w1) H1 ∧ va_D A0 (wput ws is w1) := by
  refine ⟨fun k q hq => ?_, va_D_addr hD (wput_addr is w1 wc ws hC ha)⟩
  by_cases hi : k ∈ is
  · have hlen : is.length = w1.length := by
      have h1 := congrArg List.length hC
      have h2 := congrArg List.length ha
      simp only [List.length_map] at h1 h2
      omega
    rcases wput_in is w1 ws k q hi hlen hq with h | h
    · obtain ⟨i, hi⟩ := List.getElem?_of_mem h
      exact hP1 i q hi
    · rw [List.getElem?_eq_none_iff] at h
      have h3 := (List.getElem?_eq_some_iff.mp hq).1
      rw [wput_len] at h3
      omega
  · rw [wput_out is w1 ws k hi] at hq
    refine (hP k q hq).kept (hk q.1 ((hP k q hq).lt) (fun h => ?_))
    rcases h with ⟨k2, e, h⟩ | h
    · obtain ⟨j, h5, h6⟩ := va_in_of is hC h
      have hij := hD.1 k j q (q.1, e) hq h6 rfl
      subst hij
      exact hi (List.mem_of_getElem? h5)
    · have := (hP k q hq).lt
      omega
section VCall
variable {g : Gx} {E : MV} {M : MS} {A : Nat → Prop} {Q : State → Prop} {kc ks : Nat} {ws ws' : va_W} {pc pc' : Nat} {lv lv' : List (Nat × Value)} {st : List Value}
/-- behind a call whose run is known -/
theorem V_run {w : va_W} {sz : Nat} {Po : Option Value → va_W → Prop} {a : Array Value} {ls : Array Slot} {H : Heap} {locs : List Loc} {st0 : List Value} (is : List Nat) (hC : is.map (fun i => ws[i]?) = w.map some) (B : Bd g E M A) (hl : lv_has ls M.2.1 lv) (hP : va_P g.1 classes ws H) (hD : va_D A ws) (hS : va_S A E.2.2.2.2.1.heap H locs) (hsz : sz = H.size)
    (hr : va_Run E.1 E.2.1 E.2.2.1 E.2.2.2.1 E.2.2.2.2.1 E.2.2.2.2.2.1 E.2.2.2.2.2.2.1 E.2.2.2.2.2.2.2.1 E.2.2.2.2.2.2.2.2.1 E.2.2.2.2.2.2.2.2.2 H locs kc ks 0 0 (F0 E.2.2.2.2.2.1 pc ls st0) st (QcC g w sz Po a) (va_A w sz))
    (kk : ∀ (r : Option Value) (w' : va_W), Po r w' → V g E M A Q kc ks (wput ws is w') (pc + 3) lv (r.toList ++ st)) : Wf E H locs kc ks Q (F0 E.2.2.2.2.2.1 pc ls st0) := by
  subst hsz
  have hF := va_free (wc := w) hD hS B.2.2.2.2.2.2.2.2 is hC
  intro T hT X
  obtain ⟨v, st₀, t, T', L, h0, X', hL, e1, e2, ⟨⟨r, w', hp, hv, hadr, hP1⟩, hz, hk⟩, stp⟩ := hr T hT X
  cases hv
  rw [h0] at hz hk
  rw [← e1] at hz hk hP1
  obtain ⟨hP2, hD2⟩ := va_back hP hD is hC hadr hk hP1
  have hS2 : va_S A E.2.2.2.2.1.heap T'.heap (locs ++ L) := ⟨Nat.le_trans hS.1 hz, fun q h1 h2 => by
      rw [hk q (Nat.lt_of_lt_of_le h1 hS.1) (fun z => h2 (hF q z))]
      exact hS.2.1 q h1 h2, fun q hq => by
      rcases List.mem_append.mp hq with h | h
      · exact hS.2.2 q h
      · exact hF _ (hL q h)⟩
  obtain ⟨t2, a1, b1⟩ := kk v w' hp B ls T'.heap (locs ++ L) hl hP2 hD2 hS2 T' rfl X'
  exact ⟨t2, stp t2 a1, b1⟩
theorem D_weak {A : Nat → Prop} {ws w : va_W} (hD : va_D A ws) (is : List Nat) (hn : va_nd is = true) (hC : is.map (fun i => ws[i]?) = w.map some) : va_D (fun _ => True) w := (hD.sub is hn hC).weaken (fun _ _ _ _ => trivial)
theorem P_sub {D : va_G} {cl : List vw_C} {ws w : va_W} {H : Heap} (hP : va_P D cl ws H) (is : List Nat) (hC : is.map (fun i => ws[i]?) = w.map some) : va_P D cl w H := fun k q hq => by
  obtain ⟨i, -, h2⟩ := va_in_of is hC hq
  exact hP i q h2
/-- a virtual call -/
theorem V_callV {l : Launch} {y : MethodName} {N : MS} {rm : Room} {b : Nat} {As : List Value} {w : va_W} {Po : Option Value → va_W → Prop} {index ci : Nat} {C : vw_C} {st0 : List Value} {R0 : Room} {A1 : Nat → Prop} {w1 : va_W} {sz1 : Nat} (is : List Nat) (n : Nat) (X : Ev E l R0 A1 w1 sz1) (hM : Ct g l y N rm (.ref b :: As) w Po)
    (hw : Cond.methodLink M.2.2.1 index y ∈ wds ∧ Cond.instanceMethod y ∈ wds ∧ Cond.selects C.1 y y ∈ wds ∧ Cond.initialized C.1 ∈ wds ∧ Cond.code y N.1 N.2.1 N.2.2.2 ∈ wds)
    (hy : y.cls = C.1 ∧ y.cls ≠ "java/lang/invoke/MethodHandle" ∧ y.cls ≠ "java/lang/invoke/VarHandle" ∧ (parseMethodDescriptor y.desc).map (fun d => d.parameters.length) = some n) (hR : rm.cells = 0 ∧ rm.slots = 0 ∧ rm.frames + 1 ≤ R0.frames ∧ 8 + (N.2.1 + 11) + rm.locals ≤ R0.locals ∧ kc ≤ R0.cells ∧ ks ≤ R0.slots)
    (hC : is.map (fun i => ws[i]?) = w.map some) (hn : va_nd is = true) (q0 : Nat) {fs : List Value} (hc : classes[ci]? = some C) (hb : w[q0]? = some (b, .inr (ci, fs))) (hd : Nx M pc (.invokevirtual index) 3 pc') (hAs : As.length = n) (hst : st0 = As.reverse ++ .ref b :: st) (hcat : (st.map fun v => v.category).sum ≤ 8)
    (kk : ∀ (r : Option Value) (w' : va_W), Po r w' → V g E M A Q kc ks (wput ws is w') pc' lv (r.toList ++ st)) : V g E M A Q kc ks ws pc lv st0 := by
  obtain ⟨hd, rfl⟩ := hd
  subst hst
  obtain ⟨hE, hER, -⟩ := X
  subst hE
  subst hER
  intro B ls H locs hl hP hD hS
  have hPc := P_sub hP is hC
  refine V_run (w := w) (sz := H.size) (Po := Po) (a := (Value.ref b :: As).toArray) is hC B hl hP hD hS rfl ?_ kk
  exact va_runV (Ts := wds) (own := M.2.2.1) (C := C.1) (bytes := N.1) (maxL := N.2.1) (ret := N.2.2.2) (n := n) ⟨B.1, B.2.1, B.2.2.1, B.2.2.2.1, B.2.2.2.2.1⟩ (hM H.size)
    (cwV (ws' := wds) n B.2.2.2.2.1 (fun w hw2 => by
      have good : ∀ z ∈ wds, z ∈ wds ∧ ((z.onTables && z.keeps) = true ∨ ∃ ty, z = .arrayClass ty) := wd_good
      rcases List.mem_append.mp hw2 with h | h
      · simp only [List.mem_cons, List.not_mem_nil, or_false] at h
        rcases h with rfl | rfl | rfl | rfl
        · exact good _ hw.1
        · exact good _ hw.2.1
        · exact good _ hw.2.2.1
        · exact good _ hw.2.2.2.1
      · rcases List.mem_cons.mp h with rfl | h
        · exact good _ hw.2.2.2.2
        · exact good _ h) rfl hR.1 hR.2.1 hy ⟨hR.2.2.1, hR.2.2.2.1⟩)
    ⟨PreC_blind, va_recv B.2.2.2.2.2.2.2.1 hPc hc hb, fun U hU hW => ⟨rfl, by rw [hU], by rw [hU]; exact hPc, va_K.moved hW.alike B.2.2.2.2.2.2.2.1, D_weak hD is hn hC⟩⟩ rfl hAs hl.1 rfl (lv_room hcat) hd ⟨by simpa using hR.2.2.2.2.1, by simpa using hR.2.2.2.2.2⟩
/-- a static call -/
theorem V_callS {l : Launch} {y : MethodName} {N : MS} {rm : Room} {As : List Value} {w : va_W} {Po : Option Value → va_W → Prop} {index : Nat} {st0 : List Value} {R0 : Room} {A1 : Nat → Prop} {w1 : va_W} {sz1 : Nat} (is : List Nat) (n : Nat) (X : Ev E l R0 A1 w1 sz1) (hM : Ct g l y N rm As w Po)
    (hw : Cond.methodLink M.2.2.1 index y ∈ wds ∧ Cond.static y ∈ wds ∧ Cond.initialized y.cls ∈ wds ∧ Cond.code y N.1 N.2.1 N.2.2.2 ∈ wds)
    (hy : y.cls ≠ "java/lang/invoke/MethodHandle" ∧ y.cls ≠ "java/lang/invoke/VarHandle" ∧ (parseMethodDescriptor y.desc).map (fun d => d.parameters.length) = some n) (hR : rm.cells = 0 ∧ rm.slots = 0 ∧ rm.frames + 1 ≤ R0.frames ∧ 8 + (N.2.1 + 11) + rm.locals ≤ R0.locals ∧ kc ≤ R0.cells ∧ ks ≤ R0.slots)
    (hC : is.map (fun i => ws[i]?) = w.map some) (hn : va_nd is = true) (hd : Nx M pc (.invokestatic index) 3 pc') (hAs : As.length = n) (hst : st0 = As.reverse ++ st) (hcat : (st.map fun v => v.category).sum ≤ 8)
    (kk : ∀ (r : Option Value) (w' : va_W), Po r w' → V g E M A Q kc ks (wput ws is w') pc' lv (r.toList ++ st)) : V g E M A Q kc ks ws pc lv st0 := by
  obtain ⟨hd, rfl⟩ := hd
  subst hst
  obtain ⟨hE, hER, -⟩ := X
  subst hE
  subst hER
  intro B ls H locs hl hP hD hS
  have hPc := P_sub hP is hC
  refine V_run (w := w) (sz := H.size) (Po := Po) (a := As.toArray) is hC B hl hP hD hS rfl ?_ kk
  exact va_runS (Ts := wds) (own := M.2.2.1) (bytes := N.1) (maxL := N.2.1) (ret := N.2.2.2) (n := n) ⟨B.1, B.2.1, B.2.2.1, B.2.2.2.1, B.2.2.2.2.1⟩ (hM H.size)
    (va_cwS (ws' := wds) n B.2.2.2.2.1 (fun w hw2 => by
      have good : ∀ z ∈ wds, z ∈ wds ∧ ((z.onTables && z.keeps) = true ∨ ∃ ty, z = .arrayClass ty) := wd_good
      rcases List.mem_append.mp hw2 with h | h
      · simp only [List.mem_cons, List.not_mem_nil, or_false] at h
        rcases h with rfl | rfl | rfl
        · exact good _ hw.1
        · exact good _ hw.2.1
        · exact good _ hw.2.2.1
      · rcases List.mem_cons.mp h with rfl | h
        · exact good _ hw.2.2.2
        · exact good _ h) rfl hR.1 hR.2.1 hy ⟨hR.2.2.1, hR.2.2.2.1⟩)
    ⟨PreC_blind, fun U hU hW => ⟨rfl, by rw [hU], by rw [hU]; exact hPc, va_K.moved hW.alike B.2.2.2.2.2.2.2.1, D_weak hD is hn hC⟩⟩ rfl hAs hl.1 rfl (lv_room hcat) hd ⟨by simpa using hR.2.2.2.2.1, by simpa using hR.2.2.2.2.2⟩
/-- calls whose answer and world are known -/
theorem V_cVi {l : Launch} {y : MethodName} {N : MS} {rm : Room} {b : Nat} {As : List Value} {w w' : va_W} {r : Int32} {index ci : Nat} {C : vw_C} {st0 : List Value} {R0 : Room} {A1 : Nat → Prop} {w1 : va_W} {sz1 : Nat} (is : List Nat) (n : Nat) (X : Ev E l R0 A1 w1 sz1) (hM : Cd g l y N rm (.ref b :: As) w (some (.int r)) w')
    (hw : Cond.methodLink M.2.2.1 index y ∈ wds ∧ Cond.instanceMethod y ∈ wds ∧ Cond.selects C.1 y y ∈ wds ∧ Cond.initialized C.1 ∈ wds ∧ Cond.code y N.1 N.2.1 N.2.2.2 ∈ wds)
    (hy : y.cls = C.1 ∧ y.cls ≠ "java/lang/invoke/MethodHandle" ∧ y.cls ≠ "java/lang/invoke/VarHandle" ∧ (parseMethodDescriptor y.desc).map (fun d => d.parameters.length) = some n) (hR : rm.cells = 0 ∧ rm.slots = 0 ∧ rm.frames + 1 ≤ R0.frames ∧ 8 + (N.2.1 + 11) + rm.locals ≤ R0.locals ∧ kc ≤ R0.cells ∧ ks ≤ R0.slots)
    (hC : is.map (fun i => ws[i]?) = w.map some) (hn : va_nd is = true) (q0 : Nat) {fs : List Value} (hc : classes[ci]? = some C) (hb : w[q0]? = some (b, .inr (ci, fs))) (hd : Nx M pc (.invokevirtual index) 3 pc') (hAs : As.length = n) (hst : st0 = As.reverse ++ .ref b :: st) (hcat : (st.map fun v => v.category).sum ≤ 8) (hws : wput ws is w' = ws') (kk : V g E M A Q kc ks ws' pc' lv (.int r :: st)) : V g E M A Q kc ks ws pc lv st0 := by
  refine V_callV (C := C) is n X hM hw hy hR hC hn q0 hc hb hd hAs hst hcat ?_
  rintro _ _ ⟨rfl, rfl⟩
  rw [hws]
  exact kk
theorem V_cVl {l : Launch} {y : MethodName} {N : MS} {rm : Room} {b : Nat} {As : List Value} {w w' : va_W} {r : Int64} {index ci : Nat} {C : vw_C} {st0 : List Value} {R0 : Room} {A1 : Nat → Prop} {w1 : va_W} {sz1 : Nat} (is : List Nat) (n : Nat) (X : Ev E l R0 A1 w1 sz1) (hM : Cd g l y N rm (.ref b :: As) w (some (.long r)) w')
    (hw : Cond.methodLink M.2.2.1 index y ∈ wds ∧ Cond.instanceMethod y ∈ wds ∧ Cond.selects C.1 y y ∈ wds ∧ Cond.initialized C.1 ∈ wds ∧ Cond.code y N.1 N.2.1 N.2.2.2 ∈ wds)
    (hy : y.cls = C.1 ∧ y.cls ≠ "java/lang/invoke/MethodHandle" ∧ y.cls ≠ "java/lang/invoke/VarHandle" ∧ (parseMethodDescriptor y.desc).map (fun d => d.parameters.length) = some n) (hR : rm.cells = 0 ∧ rm.slots = 0 ∧ rm.frames + 1 ≤ R0.frames ∧ 8 + (N.2.1 + 11) + rm.locals ≤ R0.locals ∧ kc ≤ R0.cells ∧ ks ≤ R0.slots)
    (hC : is.map (fun i => ws[i]?) = w.map some) (hn : va_nd is = true) (q0 : Nat) {fs : List Value} (hc : classes[ci]? = some C) (hb : w[q0]? = some (b, .inr (ci, fs))) (hd : Nx M pc (.invokevirtual index) 3 pc') (hAs : As.length = n) (hst : st0 = As.reverse ++ .ref b :: st) (hcat : (st.map fun v => v.category).sum ≤ 8) (hws : wput ws is w' = ws') (kk : V g E M A Q kc ks ws' pc' lv (.long r :: st)) : V g E M A Q kc ks ws pc lv st0 := by
  refine V_callV (C := C) is n X hM hw hy hR hC hn q0 hc hb hd hAs hst hcat ?_
  rintro _ _ ⟨rfl, rfl⟩
  rw [hws]
  exact kk
theorem V_cVv {l : Launch} {y : MethodName} {N : MS} {rm : Room} {b : Nat} {As : List Value} {w w' : va_W} {index ci : Nat} {C : vw_C} {st0 : List Value} {R0 : Room} {A1 : Nat → Prop} {w1 : va_W} {sz1 : Nat} (is : List Nat) (n : Nat) (X : Ev E l R0 A1 w1 sz1) (hM : Cd g l y N rm (.ref b :: As) w (none) w')
    (hw : Cond.methodLink M.2.2.1 index y ∈ wds ∧ Cond.instanceMethod y ∈ wds ∧ Cond.selects C.1 y y ∈ wds ∧ Cond.initialized C.1 ∈ wds ∧ Cond.code y N.1 N.2.1 N.2.2.2 ∈ wds)
    (hy : y.cls = C.1 ∧ y.cls ≠ "java/lang/invoke/MethodHandle" ∧ y.cls ≠ "java/lang/invoke/VarHandle" ∧ (parseMethodDescriptor y.desc).map (fun d => d.parameters.length) = some n) (hR : rm.cells = 0 ∧ rm.slots = 0 ∧ rm.frames + 1 ≤ R0.frames ∧ 8 + (N.2.1 + 11) + rm.locals ≤ R0.locals ∧ kc ≤ R0.cells ∧ ks ≤ R0.slots)
    (hC : is.map (fun i => ws[i]?) = w.map some) (hn : va_nd is = true) (q0 : Nat) {fs : List Value} (hc : classes[ci]? = some C) (hb : w[q0]? = some (b, .inr (ci, fs))) (hd : Nx M pc (.invokevirtual index) 3 pc') (hAs : As.length = n) (hst : st0 = As.reverse ++ .ref b :: st) (hcat : (st.map fun v => v.category).sum ≤ 8) (hws : wput ws is w' = ws') (kk : V g E M A Q kc ks ws' pc' lv st) : V g E M A Q kc ks ws pc lv st0 := by
  refine V_callV (C := C) is n X hM hw hy hR hC hn q0 hc hb hd hAs hst hcat ?_
  rintro _ _ ⟨rfl, rfl⟩
  rw [hws]
  exact kk
theorem V_cSi {l : Launch} {y : MethodName} {N : MS} {rm : Room} {As : List Value} {w w' : va_W} {r : Int32} {index : Nat} {st0 : List Value} {R0 : Room} {A1 : Nat → Prop} {w1 : va_W} {sz1 : Nat} (is : List Nat) (n : Nat) (X : Ev E l R0 A1 w1 sz1) (hM : Cd g l y N rm As w (some (.int r)) w')
    (hw : Cond.methodLink M.2.2.1 index y ∈ wds ∧ Cond.static y ∈ wds ∧ Cond.initialized y.cls ∈ wds ∧ Cond.code y N.1 N.2.1 N.2.2.2 ∈ wds)
    (hy : y.cls ≠ "java/lang/invoke/MethodHandle" ∧ y.cls ≠ "java/lang/invoke/VarHandle" ∧ (parseMethodDescriptor y.desc).map (fun d => d.parameters.length) = some n) (hR : rm.cells = 0 ∧ rm.slots = 0 ∧ rm.frames + 1 ≤ R0.frames ∧ 8 + (N.2.1 + 11) + rm.locals ≤ R0.locals ∧ kc ≤ R0.cells ∧ ks ≤ R0.slots)
    (hC : is.map (fun i => ws[i]?) = w.map some) (hn : va_nd is = true) (hd : Nx M pc (.invokestatic index) 3 pc') (hAs : As.length = n) (hst : st0 = As.reverse ++ st) (hcat : (st.map fun v => v.category).sum ≤ 8) (hws : wput ws is w' = ws') (kk : V g E M A Q kc ks ws' pc' lv (.int r :: st)) : V g E M A Q kc ks ws pc lv st0 := by
  refine V_callS is n X hM hw hy hR hC hn hd hAs hst hcat ?_
  rintro _ _ ⟨rfl, rfl⟩
  rw [hws]
  exact kk
theorem V_cSl {l : Launch} {y : MethodName} {N : MS} {rm : Room} {As : List Value} {w w' : va_W} {r : Int64} {index : Nat} {st0 : List Value} {R0 : Room} {A1 : Nat → Prop} {w1 : va_W} {sz1 : Nat} (is : List Nat) (n : Nat) (X : Ev E l R0 A1 w1 sz1) (hM : Cd g l y N rm As w (some (.long r)) w')
    (hw : Cond.methodLink M.2.2.1 index y ∈ wds ∧ Cond.static y ∈ wds ∧ Cond.initialized y.cls ∈ wds ∧ Cond.code y N.1 N.2.1 N.2.2.2 ∈ wds)
    (hy : y.cls ≠ "java/lang/invoke/MethodHandle" ∧ y.cls ≠ "java/lang/invoke/VarHandle" ∧ (parseMethodDescriptor y.desc).map (fun d => d.parameters.length) = some n) (hR : rm.cells = 0 ∧ rm.slots = 0 ∧ rm.frames + 1 ≤ R0.frames ∧ 8 + (N.2.1 + 11) + rm.locals ≤ R0.locals ∧ kc ≤ R0.cells ∧ ks ≤ R0.slots)
    (hC : is.map (fun i => ws[i]?) = w.map some) (hn : va_nd is = true) (hd : Nx M pc (.invokestatic index) 3 pc') (hAs : As.length = n) (hst : st0 = As.reverse ++ st) (hcat : (st.map fun v => v.category).sum ≤ 8) (hws : wput ws is w' = ws') (kk : V g E M A Q kc ks ws' pc' lv (.long r :: st)) : V g E M A Q kc ks ws pc lv st0 := by
  refine V_callS is n X hM hw hy hR hC hn hd hAs hst hcat ?_
  rintro _ _ ⟨rfl, rfl⟩
  rw [hws]
  exact kk
theorem V_cSv {l : Launch} {y : MethodName} {N : MS} {rm : Room} {As : List Value} {w w' : va_W} {index : Nat} {st0 : List Value} {R0 : Room} {A1 : Nat → Prop} {w1 : va_W} {sz1 : Nat} (is : List Nat) (n : Nat) (X : Ev E l R0 A1 w1 sz1) (hM : Cd g l y N rm As w (none) w')
    (hw : Cond.methodLink M.2.2.1 index y ∈ wds ∧ Cond.static y ∈ wds ∧ Cond.initialized y.cls ∈ wds ∧ Cond.code y N.1 N.2.1 N.2.2.2 ∈ wds)
    (hy : y.cls ≠ "java/lang/invoke/MethodHandle" ∧ y.cls ≠ "java/lang/invoke/VarHandle" ∧ (parseMethodDescriptor y.desc).map (fun d => d.parameters.length) = some n) (hR : rm.cells = 0 ∧ rm.slots = 0 ∧ rm.frames + 1 ≤ R0.frames ∧ 8 + (N.2.1 + 11) + rm.locals ≤ R0.locals ∧ kc ≤ R0.cells ∧ ks ≤ R0.slots)
    (hC : is.map (fun i => ws[i]?) = w.map some) (hn : va_nd is = true) (hd : Nx M pc (.invokestatic index) 3 pc') (hAs : As.length = n) (hst : st0 = As.reverse ++ st) (hcat : (st.map fun v => v.category).sum ≤ 8) (hws : wput ws is w' = ws') (kk : V g E M A Q kc ks ws' pc' lv st) : V g E M A Q kc ks ws pc lv st0 := by
  refine V_callS is n X hM hw hy hR hC hn hd hAs hst hcat ?_
  rintro _ _ ⟨rfl, rfl⟩
  rw [hws]
  exact kk
/-- Math.min, Math.abs -/
theorem V_mmin {index : Nat} {x y v : Int32} {l : Launch} {R0 : Room} {A1 : Nat → Prop} {w1 : va_W} {sz1 : Nat} (X : Ev E l R0 A1 w1 sz1) (hw : Cond.methodLink M.2.2.1 index Lib.Math.min.name ∈ wds ∧ Cond.static Lib.Math.min.name ∈ wds ∧ Cond.initialized "java/lang/Math" ∈ wds ∧ Cond.code Lib.Math.min.name Lib.Math.min.code 2 (some .int) ∈ wds) (hR : 1 ≤ R0.frames ∧ (st.map fun v => v.category).sum + 13 ≤ R0.locals ∧ kc ≤ R0.cells ∧ ks ≤ R0.slots) (hd : Nx M pc (.invokestatic index) 3 pc') (hv : (if y < x then y else x) = v) (kk : V g E M A Q kc ks ws pc' lv (.int v :: st)) : V g E M A Q kc ks ws pc lv (.int y :: .int x :: st) := by
  obtain ⟨hd, rfl⟩ := hd
  obtain ⟨hE, hER, -⟩ := X
  subst hE
  subst hER
  subst hv
  intro B ls H locs hl hP hD hS
  exact va_mmin B.1 B.2.1 (B.2.2.1.trans hl.1.symm) B.2.2.2.1 (B.2.2.2.2.1 _ hw.1) (B.2.2.2.2.1 _ hw.2.1) (B.2.2.2.2.1 _ hw.2.2.1) (B.2.2.2.2.1 _ hw.2.2.2) hR.1 hR.2.1 hR.2.2.1 hR.2.2.2 hd (kk B ls H locs hl hP hD hS)
theorem V_mabs {index : Nat} {x v : Int32} {l : Launch} {R0 : Room} {A1 : Nat → Prop} {w1 : va_W} {sz1 : Nat} (X : Ev E l R0 A1 w1 sz1) (hw : Cond.methodLink M.2.2.1 index Lib.Math.abs.name ∈ wds ∧ Cond.static Lib.Math.abs.name ∈ wds ∧ Cond.initialized "java/lang/Math" ∈ wds ∧ Cond.code Lib.Math.abs.name Lib.Math.abs.code 1 (some .int) ∈ wds) (hR : 1 ≤ R0.frames ∧ (st.map fun v => v.category).sum + 13 ≤ R0.locals ∧ kc ≤ R0.cells ∧ ks ≤ R0.slots) (hd : Nx M pc (.invokestatic index) 3 pc') (hv : (if 0 ≤ x then x else 0 - x) = v) (kk : V g E M A Q kc ks ws pc' lv (.int v :: st)) : V g E M A Q kc ks ws pc lv (.int x :: st) := by
  obtain ⟨hd, rfl⟩ := hd
  obtain ⟨hE, hER, -⟩ := X
  subst hE
  subst hER
  subst hv
  intro B ls H locs hl hP hD hS
  exact va_mabs B.1 B.2.1 (B.2.2.1.trans hl.1.symm) B.2.2.2.1 (B.2.2.2.2.1 _ hw.1) (B.2.2.2.2.1 _ hw.2.1) (B.2.2.2.2.1 _ hw.2.2.1) (B.2.2.2.2.1 _ hw.2.2.2) hR.1 hR.2.1 hR.2.2.1 hR.2.2.2 hd (kk B ls H locs hl hP hD hS)
/-- an array's contents count below its length alone -/
theorem cell_congr (cA : ClassId) (n : Nat) {f f' : Nat → Int32} (h : ∀ j, j < n → f j = f' j) : vp_cell cA (n, .inl f) = vp_cell cA (n, .inl f') := by
  rw [vp_cell_i, vp_cell_i]
  unfold arrV
  congr 1
  congr 1
  funext j
  exact congrArg Value.int (h j.1 j.2)
theorem P_arr {D : va_G} {cl : List vw_C} {ws : va_W} {H : Heap} (hP : va_P D cl ws H) {q0 a n : Nat} {cA : ClassId} {f f' : Nat → Int32} (he : ws[q0]? = some (a, .inl (cA, n, .inl f))) (h : ∀ j, j < n → f j = f' j) : va_P D cl (ws.set q0 (a, .inl (cA, n, .inl f'))) H := by
  intro k q hq
  by_cases hk : k = q0
  · subst hk
    rw [List.getElem?_set_self ((List.getElem?_eq_some_iff.mp he).1)] at hq
    cases hq
    have h1 := hP k _ he
    show H[a]? = some (vp_cell cA (n, .inl f'))
    rw [← cell_congr cA n h]
    exact h1
  · rw [List.getElem?_set_ne (Ne.symm hk)] at hq
    exact hP k q hq
theorem V_arr {a n : Nat} {cA : ClassId} {f f' : Nat → Int32} (q0 : Nat) (he : ws[q0]? = some (a, .inl (cA, n, .inl f))) (h : ∀ j, j < n → f j = f' j) (hw : ws.set q0 (a, .inl (cA, n, .inl f')) = ws') (kk : V g E M A Q kc ks ws' pc lv st) : V g E M A Q kc ks ws pc lv st := by
  intro B ls H locs hl hP hD hS
  subst hw
  exact kk B ls H locs hl (P_arr hP he h) (hD.set he) hS
/-- System.arraycopy of a whole array of ints -/
theorem V_copy {index : Nat} {l : Launch} {R0 : Room} {A1 : Nat → Prop} {w1 : va_W} {sz1 : Nat} {a0 a n : Nat} {f h : Nat → Int32} (q0 q1 : Nat) (X : Ev E l R0 A1 w1 sz1) (hw : Cond.methodLink M.2.2.1 index arraycopyName ∈ wds ∧ Cond.native arraycopyName ∈ wds ∧ Cond.static arraycopyName ∈ wds ∧ Cond.initialized "java/lang/System" ∈ wds) (hR : 1 ≤ R0.frames ∧ (st.map fun v => v.category).sum + (nativeFrameWords "java/lang/System" "arraycopy" 5 + 11) ≤ R0.locals) (hd : Nx M pc (.invokestatic index) 3 pc') (he0 : ws[q0]? = some (a0, .inl (g.2.1, n, .inl f))) (he1 : ws[q1]? = some (a, .inl (g.2.1, n, .inl h))) (hn : n < 2 ^ 31) (hws : ws.set q1 (a, .inl (g.2.1, n, .inl f)) = ws') (kk : V g E M A Q kc ks ws' pc' lv st) : V g E M A Q kc ks ws pc lv (.int (nI n) :: .int (nI 0) :: .ref a :: .int (nI 0) :: .ref a0 :: st) := by
  obtain ⟨hd, rfl⟩ := hd
  obtain ⟨hE, hER, -⟩ := X
  subst hE
  subst hER
  subst hws
  intro B ls H locs hl hP hD hS
  have z0 : (nI 0).toNatClampNeg = 0 := nI_clamp (by decide)
  have zn : (nI n).toNatClampNeg = n := nI_clamp hn
  refine va_copyi B.1 B.2.1 (B.2.2.1.trans hl.1.symm) B.2.2.2.1 (B.2.2.2.2.1 _ hw.1) (B.2.2.2.2.1 _ hw.2.1) (B.2.2.2.2.1 _ hw.2.2.1) (B.2.2.2.2.1 _ hw.2.2.2) B.2.2.2.2.2.2.2.1 hP hD hS q0 q1 0 0 he0 he1 rfl rfl rfl (nI_pos (by decide)) (nI_pos (by decide)) (nI_pos hn) (by rw [z0, zn]; omega) (by rw [z0, zn]; omega) (fun _ _ => rfl) hR.1 hR.2 hd (fun H1 locs1 hP hD hS => ?_)
  rw [z0, zn] at hP hD
  have hlt := (List.getElem?_eq_some_iff.mp he1).1
  have hP2 := P_arr (f' := f) hP (List.getElem?_set_self hlt) (fun j hj => by rw [pk_cpy_in (Nat.zero_le _) (by omega)]; congr 1; omega)
  rw [List.set_set] at hP2
  exact kk B ls H1 locs1 hl hP2 (va_D_addr hD (by rw [List.map_set, List.map_set])) hS
end VCall
