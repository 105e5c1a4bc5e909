/-! The judgement V: the kit's W with heap, locals and written places quantified away; a rule an instruction. -/
def wds : List Cond := lw_tbl.filter goodWord
theorem wd {w : Cond} (h : w ∈ lw_tbl) (q : goodWord w = true) : w ∈ wds := List.mem_filter.mpr ⟨h, q⟩
theorem wd_at {w : Cond} (i : Nat) (h : lw_tbl[i]? = some w) (q : goodWord w = true) : w ∈ wds := wd (List.mem_of_getElem? h) q
theorem wd_good : GoodIn wds wds := fun w hw => ⟨hw, good_of_word (List.mem_filter.mp hw).2⟩
abbrev Gx : Type := va_G × ClassId × ClassId × ClassId
abbrev classes : List vw_C := [(RX0, TX0, 3), (RX1, TX1, 7), (RX2, TX2, 8), (RX3, TX3, 2), (RX4, TX4, 3), (RX5, TX5, 10), (RX6, TX6, 34)]
abbrev tysG (g : Gx) : List (ClassId × FieldType) := [(g.2.1, .int), (g.2.2.1, .boolean), (g.2.2.2, .object RX1)]
/-- a method: its bytes, locals, class, answer -/
abbrev MS : Type := ByteArray × Nat × String × Option FieldType
/-- the machine's own things, which a walk never looks at -/
abbrev MV : Type := Program × Launch × Env × Room × State × MethodId × Array Value × List Frame × Method × Code
def Nx (M : MS) (pc : Nat) (i : Instr) (len pc' : Nat) : Prop := decode M.1 pc = .ok (i, len) ∧ pc + len = pc'
def Bd (g : Gx) (E : MV) (M : MS) (A : Nat → Prop) : Prop := E.1.tables.exec = Jvm.exec ∧ E.2.2.2.2.2.2.2.2.2.code = M.1 ∧ E.2.2.2.2.2.2.2.2.2.maxLocals = M.2.1 ∧ E.2.2.2.2.1.vm.findClass M.2.2.1 = some E.2.2.2.2.2.1.cls ∧ (∀ w ∈ wds, w.before E.2.2.2.2.2.2.1 E.2.2.2.2.1 = true) ∧ E.2.2.2.2.2.2.2.2.1.sig.returnType = M.2.2.2 ∧ E.2.2.2.2.2.2.2.2.1.locks = false ∧ va_K g.1 classes (tysG g) E.2.2.2.2.1 ∧ (∀ q : Nat, E.2.2.2.2.1.heap.size ≤ q → A q)
abbrev Wf (E : MV) (H : Heap) (locs : List Loc) (kc ks : Nat) (Q : State → Prop) (f : JFrame) : Prop := W E.1 E.2.1 E.2.2.1 E.2.2.2.1 E.2.2.2.2.1 E.2.2.2.2.2.1 E.2.2.2.2.2.2.1 E.2.2.2.2.2.2.2.1 E.2.2.2.2.2.2.2.2.1 E.2.2.2.2.2.2.2.2.2 H locs kc ks Q f
def V (g : Gx) (E : MV) (M : MS) (A : Nat → Prop) (Q : State → Prop) (kc ks : Nat) (ws : va_W) (pc : Nat) (lv : List (Nat × Value)) (st : List Value) : Prop :=
  Bd g E M A → ∀ (ls : Array Slot) (H : Heap) (locs : List Loc), lv_has ls M.2.1 lv → va_P g.1 classes ws H → va_D A ws → va_S A E.2.2.2.2.1.heap H locs → Wf E H locs kc ks Q (F0 E.2.2.2.2.2.1 pc ls st)
/-- a truth value as an int -/
def bI (b : Bool) : Int32 := if b then 1 else 0
theorem bI_t : bI true = 1 := rfl
theorem bI_f : bI false = 0 := rfl
theorem bI_n (b : Bool) : narrow .boolean (.int (bI b)) = .int (bI b) := by cases b <;> decide
theorem bI_0 {b : Bool} : bI b = 0 ↔ b = false := by cases b <;> decide
theorem bI_1 {b : Bool} : bI b = 1 ↔ b = true := by cases b <;> decide
theorem nI_of_int (n : Nat) : Int32.ofInt (n : Int) = nI n := rfl
/-- locals: a sorted list of places and values -/
def lvGet : List (Nat × Value) → Nat → Option Value
  | [], _ => none
  | q :: r, i => bif Nat.beq q.1 i then some q.2 else lvGet r i
def lvIns : List (Nat × Value) → Nat × Value → List (Nat × Value)
  | [], p => [p]
  | q :: r, p => bif Nat.blt q.1 p.1 then q :: lvIns r p else p :: q :: r
def lvPut (lv : List (Nat × Value)) (i : Nat) (v : Value) : List (Nat × Value) := lvIns (lv.filter (fun q => !(q.1 == i) && !(q.1 + 1 == i && q.2.category == 2))) (i, v)
def lvPut2 (lv : List (Nat × Value)) (i : Nat) (v : Value) : List (Nat × Value) := lvIns (lv.filter (fun q => !(q.1 == i) && (!(q.1 == i + 1) && !(q.1 + 1 == i && q.2.category == 2)))) (i, v)
theorem lvIns_mem {p q : Nat × Value} : ∀ {l : List (Nat × Value)}, q ∈ lvIns l p → q = p ∨ q ∈ l
  | [], h => by
    simp only [lvIns, List.mem_singleton] at h
    exact Or.inl h
  | x :: r, h => by
    unfold lvIns at h
    cases hb : Nat.blt x.1 p.1 with
    | true =>
      rw [hb, cond_true] at h
      rcases List.mem_cons.mp h with h | h
      · exact Or.inr (by rw [h]; exact List.mem_cons_self)
      · rcases lvIns_mem h with h | h
        · exact Or.inl h
        · exact Or.inr (List.mem_cons_of_mem _ h)
    | false =>
      rw [hb, cond_false] at h
      exact List.mem_cons.mp h
theorem lvGet_mem {i : Nat} {v : Value} : ∀ {l : List (Nat × Value)}, lvGet l i = some v → (i, v) ∈ l
  | [], h => by cases h
  | x :: r, h => by
    unfold lvGet at h
    cases hb : Nat.beq x.1 i with
    | true =>
      rw [hb, cond_true] at h
      have e := Nat.eq_of_beq_eq_true hb
      subst e
      cases h
      exact List.mem_cons_self
    | false =>
      rw [hb, cond_false] at h
      exact List.mem_cons_of_mem _ (lvGet_mem h)
theorem lv_gets {ls : Array Slot} {nL i : Nat} {v : Value} {lv : List (Nat × Value)} (h : lv_has ls nL lv) (hg : lvGet lv i = some v) : ls[i]? = some (.val v) := h.2.2 (i, v) (lvGet_mem hg)
theorem lv_less {ls : Array Slot} {nL : Nat} {l l' : List (Nat × Value)} (h : lv_has ls nL l) (hs : ∀ q ∈ l', q ∈ l) : lv_has ls nL l' := ⟨h.1, h.2.1, fun q hq => h.2.2 q (hs q hq)⟩
theorem lv_put {ls : Array Slot} {nL i : Nat} {v : Value} {lv : List (Nat × Value)} (h : lv_has ls nL ((i, v) :: lv.filter (fun q => !(q.1 == i) && !(q.1 + 1 == i && q.2.category == 2)))) : lv_has ls nL (lvPut lv i v) := lv_less h (fun q hq => List.mem_cons.mpr (lvIns_mem hq))
theorem lv_put2 {ls : Array Slot} {nL i : Nat} {v : Value} {lv : List (Nat × Value)} (h : lv_has ls nL ((i, v) :: lv.filter (fun q => !(q.1 == i) && (!(q.1 == i + 1) && !(q.1 + 1 == i && q.2.category == 2))))) : lv_has ls nL (lvPut2 lv i v) := lv_less h (fun q hq => List.mem_cons.mpr (lvIns_mem hq))
section VR
variable {g : Gx} {E : MV} {M : MS} {A : Nat → Prop} {Q : State → Prop} {kc ks : Nat} {ws ws' : va_W} {pc pc' : Nat} {lv lv' : List (Nat × Value)} {st : List Value}
theorem V_iconst {n : Int} {v : Int32} (hd : Nx M pc (.iconst n) 1 pc') (hv : Int32.ofInt n = v) (kk : V g E M A Q kc ks ws pc' lv (.int v :: st)) : V g E M A Q kc ks ws pc lv st := by
  obtain ⟨hd, rfl⟩ := hd
  intro B ls H locs hl hP hD hS
  exact lv_iconst B.1 B.2.1 hd hv (kk B ls H locs hl hP hD hS)
theorem V_bipush {n : Int} {v : Int32} (hd : Nx M pc (.bipush n) 2 pc') (hv : (Int8.ofInt n).toInt32 = v) (kk : V g E M A Q kc ks ws pc' lv (.int v :: st)) : V g E M A Q kc ks ws pc lv st := by
  obtain ⟨hd, rfl⟩ := hd
  intro B ls H locs hl hP hD hS
  exact lv_bipush B.1 B.2.1 hd hv (kk B ls H locs hl hP hD hS)
theorem V_sipush {n : Int} {v : Int32} (hd : Nx M pc (.sipush n) 3 pc') (hv : (Int16.ofInt n).toInt32 = v) (kk : V g E M A Q kc ks ws pc' lv (.int v :: st)) : V g E M A Q kc ks ws pc lv st := by
  obtain ⟨hd, rfl⟩ := hd
  intro B ls H locs hl hP hD hS
  exact lv_sipush B.1 B.2.1 hd hv (kk B ls H locs hl hP hD hS)
theorem V_lconst {n : Fin 2} {v : Int64} (hd : Nx M pc (.lconst n) 1 pc') (hv : Int64.ofNat (n : Nat) = v) (kk : V g E M A Q kc ks ws pc' lv (.long v :: st)) : V g E M A Q kc ks ws pc lv st := by
  obtain ⟨hd, rfl⟩ := hd
  intro B ls H locs hl hP hD hS
  exact lv_lconst B.1 B.2.1 hd hv (kk B ls H locs hl hP hD hS)
theorem V_iload_n {k : Fin 4} {x : Int32} (hd : Nx M pc (.iload_n k) 1 pc') (hg : lvGet lv (k : Nat) = some (.int x)) (kk : V g E M A Q kc ks ws pc' lv (.int x :: st)) : V g E M A Q kc ks ws pc lv st := by
  obtain ⟨hd, rfl⟩ := hd
  intro B ls H locs hl hP hD hS
  exact lv_iload_n B.1 B.2.1 hd rfl (lv_gets hl hg) (kk B ls H locs hl hP hD hS)
theorem V_iload {i : Nat} {x : Int32} (hd : Nx M pc (.iload i) 2 pc') (hg : lvGet lv i = some (.int x)) (kk : V g E M A Q kc ks ws pc' lv (.int x :: st)) : V g E M A Q kc ks ws pc lv st := by
  obtain ⟨hd, rfl⟩ := hd
  intro B ls H locs hl hP hD hS
  exact lv_iload B.1 B.2.1 hd (lv_gets hl hg) (kk B ls H locs hl hP hD hS)
theorem V_lload_n {k : Fin 4} {x : Int64} (hd : Nx M pc (.lload_n k) 1 pc') (hg : lvGet lv (k : Nat) = some (.long x)) (kk : V g E M A Q kc ks ws pc' lv (.long x :: st)) : V g E M A Q kc ks ws pc lv st := by
  obtain ⟨hd, rfl⟩ := hd
  intro B ls H locs hl hP hD hS
  exact lv_lload_n B.1 B.2.1 hd rfl (lv_gets hl hg) (kk B ls H locs hl hP hD hS)
theorem V_lload {i : Nat} {x : Int64} (hd : Nx M pc (.lload i) 2 pc') (hg : lvGet lv i = some (.long x)) (kk : V g E M A Q kc ks ws pc' lv (.long x :: st)) : V g E M A Q kc ks ws pc lv st := by
  obtain ⟨hd, rfl⟩ := hd
  intro B ls H locs hl hP hD hS
  exact lv_lload B.1 B.2.1 hd (lv_gets hl hg) (kk B ls H locs hl hP hD hS)
theorem V_aload_n {k : Fin 4} {x : Nat} (hd : Nx M pc (.aload_n k) 1 pc') (hg : lvGet lv (k : Nat) = some (.ref x)) (kk : V g E M A Q kc ks ws pc' lv (.ref x :: st)) : V g E M A Q kc ks ws pc lv st := by
  obtain ⟨hd, rfl⟩ := hd
  intro B ls H locs hl hP hD hS
  exact lv_aload_n B.1 B.2.1 hd rfl (lv_gets hl hg) (kk B ls H locs hl hP hD hS)
theorem V_aload {i : Nat} {x : Nat} (hd : Nx M pc (.aload i) 2 pc') (hg : lvGet lv i = some (.ref x)) (kk : V g E M A Q kc ks ws pc' lv (.ref x :: st)) : V g E M A Q kc ks ws pc lv st := by
  obtain ⟨hd, rfl⟩ := hd
  intro B ls H locs hl hP hD hS
  exact lv_aload B.1 B.2.1 hd (lv_gets hl hg) (kk B ls H locs hl hP hD hS)
theorem V_istore_n {k : Fin 4} {x : Int32} (hd : Nx M pc (.istore_n k) 1 pc') (hn : (k : Nat) < M.2.1) (hp : lvPut lv (k : Nat) (.int x) = lv') (kk : V g E M A Q kc ks ws pc' lv' st) : V g E M A Q kc ks ws pc lv (.int x :: st) := by
  obtain ⟨hd, rfl⟩ := hd
  intro B ls H locs hl hP hD hS
  exact lv_istore_n B.1 B.2.1 hd rfl hl hn rfl (fun ls' hl' => kk B ls' H locs (by rw [← hp]; exact lv_put hl') hP hD hS)
theorem V_istore {i : Nat} {x : Int32} (hd : Nx M pc (.istore i) 2 pc') (hn : i < M.2.1) (hp : lvPut lv i (.int x) = lv') (kk : V g E M A Q kc ks ws pc' lv' st) : V g E M A Q kc ks ws pc lv (.int x :: st) := by
  obtain ⟨hd, rfl⟩ := hd
  intro B ls H locs hl hP hD hS
  exact lv_istore B.1 B.2.1 hd hl hn rfl (fun ls' hl' => kk B ls' H locs (by rw [← hp]; exact lv_put hl') hP hD hS)
theorem V_lstore_n {k : Fin 4} {x : Int64} (hd : Nx M pc (.lstore_n k) 1 pc') (hn : (k : Nat) + 1 < M.2.1) (hp : lvPut2 lv (k : Nat) (.long x) = lv') (kk : V g E M A Q kc ks ws pc' lv' st) : V g E M A Q kc ks ws pc lv (.long x :: st) := by
  obtain ⟨hd, rfl⟩ := hd
  intro B ls H locs hl hP hD hS
  exact lv_lstore_n B.1 B.2.1 hd rfl hl hn rfl (fun ls' hl' => kk B ls' H locs (by rw [← hp]; exact lv_put2 hl') hP hD hS)
theorem V_lstore {i : Nat} {x : Int64} (hd : Nx M pc (.lstore i) 2 pc') (hn : i + 1 < M.2.1) (hp : lvPut2 lv i (.long x) = lv') (kk : V g E M A Q kc ks ws pc' lv' st) : V g E M A Q kc ks ws pc lv (.long x :: st) := by
  obtain ⟨hd, rfl⟩ := hd
  intro B ls H locs hl hP hD hS
  exact lv_lstore B.1 B.2.1 hd hl hn rfl (fun ls' hl' => kk B ls' H locs (by rw [← hp]; exact lv_put2 hl') hP hD hS)
theorem V_astore_n {k : Fin 4} {x : Nat} (hd : Nx M pc (.astore_n k) 1 pc') (hn : (k : Nat) < M.2.1) (hp : lvPut lv (k : Nat) (.ref x) = lv') (kk : V g E M A Q kc ks ws pc' lv' st) : V g E M A Q kc ks ws pc lv (.ref x :: st) := by
  obtain ⟨hd, rfl⟩ := hd
  intro B ls H locs hl hP hD hS
  exact lv_astore_n B.1 B.2.1 hd rfl hl hn rfl (fun ls' hl' => kk B ls' H locs (by rw [← hp]; exact lv_put hl') hP hD hS)
theorem V_astore {i : Nat} {x : Nat} (hd : Nx M pc (.astore i) 2 pc') (hn : i < M.2.1) (hp : lvPut lv i (.ref x) = lv') (kk : V g E M A Q kc ks ws pc' lv' st) : V g E M A Q kc ks ws pc lv (.ref x :: st) := by
  obtain ⟨hd, rfl⟩ := hd
  intro B ls H locs hl hP hD hS
  exact lv_astore B.1 B.2.1 hd hl hn rfl (fun ls' hl' => kk B ls' H locs (by rw [← hp]; exact lv_put hl') hP hD hS)
theorem lv_get_at : ∀ {l : List (Nat × Value)} {i : Nat} {v : Value}, lvGet l i = some v → ∃ k : Nat, l[k]? = some (i, v) := fun h => List.getElem?_of_mem (lvGet_mem h)
theorem V_iinc {i : Nat} {n : Int} {x v : Int32} (hd : Nx M pc (.iinc i n) 3 pc') (hg : lvGet lv i = some (.int x)) (hv : x + Int32.ofInt n = v) (hn : i < M.2.1) (hp : lvPut lv i (.int v) = lv') (kk : V g E M A Q kc ks ws pc' lv' st) : V g E M A Q kc ks ws pc lv st := by
  obtain ⟨hd, rfl⟩ := hd
  intro B ls H locs hl hP hD hS
  obtain ⟨k, hk⟩ := lv_get_at hg
  exact lv_iinc B.1 B.2.1 hd hl hk hv hn rfl (fun ls' hl' => kk B ls' H locs (by rw [← hp]; exact lv_put hl') hP hD hS)
theorem V_iadd {x y v : Int32} (hd : Nx M pc .iadd 1 pc') (hv : x + y = v) (kk : V g E M A Q kc ks ws pc' lv (.int v :: st)) : V g E M A Q kc ks ws pc lv (.int y :: .int x :: st) := by
  obtain ⟨hd, rfl⟩ := hd
  intro B ls H locs hl hP hD hS
  subst hv
  exact lv_iadd B.1 B.2.1 hd (kk B ls H locs hl hP hD hS)
theorem V_isub {x y v : Int32} (hd : Nx M pc .isub 1 pc') (hv : x - y = v) (kk : V g E M A Q kc ks ws pc' lv (.int v :: st)) : V g E M A Q kc ks ws pc lv (.int y :: .int x :: st) := by
  obtain ⟨hd, rfl⟩ := hd
  intro B ls H locs hl hP hD hS
  subst hv
  exact lv_isub B.1 B.2.1 hd (kk B ls H locs hl hP hD hS)
theorem V_imul {x y v : Int32} (hd : Nx M pc .imul 1 pc') (hv : x * y = v) (kk : V g E M A Q kc ks ws pc' lv (.int v :: st)) : V g E M A Q kc ks ws pc lv (.int y :: .int x :: st) := by
  obtain ⟨hd, rfl⟩ := hd
  intro B ls H locs hl hP hD hS
  subst hv
  exact lv_imul B.1 B.2.1 hd (kk B ls H locs hl hP hD hS)
theorem V_iand {x y v : Int32} (hd : Nx M pc .iand 1 pc') (hv : x &&& y = v) (kk : V g E M A Q kc ks ws pc' lv (.int v :: st)) : V g E M A Q kc ks ws pc lv (.int y :: .int x :: st) := by
  obtain ⟨hd, rfl⟩ := hd
  intro B ls H locs hl hP hD hS
  subst hv
  exact lv_iand B.1 B.2.1 hd (kk B ls H locs hl hP hD hS)
theorem V_ior {x y v : Int32} (hd : Nx M pc .ior 1 pc') (hv : x ||| y = v) (kk : V g E M A Q kc ks ws pc' lv (.int v :: st)) : V g E M A Q kc ks ws pc lv (.int y :: .int x :: st) := by
  obtain ⟨hd, rfl⟩ := hd
  intro B ls H locs hl hP hD hS
  subst hv
  exact lv_ior B.1 B.2.1 hd (kk B ls H locs hl hP hD hS)
theorem V_ixor {x y v : Int32} (hd : Nx M pc .ixor 1 pc') (hv : x ^^^ y = v) (kk : V g E M A Q kc ks ws pc' lv (.int v :: st)) : V g E M A Q kc ks ws pc lv (.int y :: .int x :: st) := by
  obtain ⟨hd, rfl⟩ := hd
  intro B ls H locs hl hP hD hS
  subst hv
  exact lv_ixor B.1 B.2.1 hd (kk B ls H locs hl hP hD hS)
theorem V_ishl {x y v : Int32} (hd : Nx M pc .ishl 1 pc') (hv : x <<< (y &&& 31) = v) (kk : V g E M A Q kc ks ws pc' lv (.int v :: st)) : V g E M A Q kc ks ws pc lv (.int y :: .int x :: st) := by
  obtain ⟨hd, rfl⟩ := hd
  intro B ls H locs hl hP hD hS
  subst hv
  exact lv_ishl B.1 B.2.1 hd (kk B ls H locs hl hP hD hS)
theorem V_ishr {x y v : Int32} (hd : Nx M pc .ishr 1 pc') (hv : x >>> (y &&& 31) = v) (kk : V g E M A Q kc ks ws pc' lv (.int v :: st)) : V g E M A Q kc ks ws pc lv (.int y :: .int x :: st) := by
  obtain ⟨hd, rfl⟩ := hd
  intro B ls H locs hl hP hD hS
  subst hv
  exact lv_ishr B.1 B.2.1 hd (kk B ls H locs hl hP hD hS)
theorem V_ladd {x y v : Int64} (hd : Nx M pc .ladd 1 pc') (hv : x + y = v) (kk : V g E M A Q kc ks ws pc' lv (.long v :: st)) : V g E M A Q kc ks ws pc lv (.long y :: .long x :: st) := by
  obtain ⟨hd, rfl⟩ := hd
  intro B ls H locs hl hP hD hS
  subst hv
  exact lv_ladd B.1 B.2.1 hd (kk B ls H locs hl hP hD hS)
theorem V_lsub {x y v : Int64} (hd : Nx M pc .lsub 1 pc') (hv : x - y = v) (kk : V g E M A Q kc ks ws pc' lv (.long v :: st)) : V g E M A Q kc ks ws pc lv (.long y :: .long x :: st) := by
  obtain ⟨hd, rfl⟩ := hd
  intro B ls H locs hl hP hD hS
  subst hv
  exact lv_lsub B.1 B.2.1 hd (kk B ls H locs hl hP hD hS)
theorem V_lmul {x y v : Int64} (hd : Nx M pc .lmul 1 pc') (hv : x * y = v) (kk : V g E M A Q kc ks ws pc' lv (.long v :: st)) : V g E M A Q kc ks ws pc lv (.long y :: .long x :: st) := by
  obtain ⟨hd, rfl⟩ := hd
  intro B ls H locs hl hP hD hS
  subst hv
  exact lv_lmul B.1 B.2.1 hd (kk B ls H locs hl hP hD hS)
theorem V_land {x y v : Int64} (hd : Nx M pc .land 1 pc') (hv : x &&& y = v) (kk : V g E M A Q kc ks ws pc' lv (.long v :: st)) : V g E M A Q kc ks ws pc lv (.long y :: .long x :: st) := by
  obtain ⟨hd, rfl⟩ := hd
  intro B ls H locs hl hP hD hS
  subst hv
  exact lv_land B.1 B.2.1 hd (kk B ls H locs hl hP hD hS)
theorem V_lor {x y v : Int64} (hd : Nx M pc .lor 1 pc') (hv : x ||| y = v) (kk : V g E M A Q kc ks ws pc' lv (.long v :: st)) : V g E M A Q kc ks ws pc lv (.long y :: .long x :: st) := by
  obtain ⟨hd, rfl⟩ := hd
  intro B ls H locs hl hP hD hS
  subst hv
  exact lv_lor B.1 B.2.1 hd (kk B ls H locs hl hP hD hS)
theorem V_idiv {x y v : Int32} (hd : Nx M pc .idiv 1 pc') (hne : ¬ y = 0) (hv : x / y = v) (kk : V g E M A Q kc ks ws pc' lv (.int v :: st)) : V g E M A Q kc ks ws pc lv (.int y :: .int x :: st) := by
  obtain ⟨hd, rfl⟩ := hd
  intro B ls H locs hl hP hD hS
  subst hv
  exact lv_idiv B.1 B.2.1 hd hne (kk B ls H locs hl hP hD hS)
theorem V_irem {x y v : Int32} (hd : Nx M pc .irem 1 pc') (hne : ¬ y = 0) (hv : x - x / y * y = v) (kk : V g E M A Q kc ks ws pc' lv (.int v :: st)) : V g E M A Q kc ks ws pc lv (.int y :: .int x :: st) := by
  obtain ⟨hd, rfl⟩ := hd
  intro B ls H locs hl hP hD hS
  subst hv
  exact lv_irem B.1 B.2.1 hd hne (kk B ls H locs hl hP hD hS)
theorem V_ldiv {x y v : Int64} (hd : Nx M pc .ldiv 1 pc') (hne : ¬ y = 0) (hv : x / y = v) (kk : V g E M A Q kc ks ws pc' lv (.long v :: st)) : V g E M A Q kc ks ws pc lv (.long y :: .long x :: st) := by
  obtain ⟨hd, rfl⟩ := hd
  intro B ls H locs hl hP hD hS
  subst hv
  exact lv_ldiv B.1 B.2.1 hd hne (kk B ls H locs hl hP hD hS)
theorem V_lrem {x y v : Int64} (hd : Nx M pc .lrem 1 pc') (hne : ¬ y = 0) (hv : x - x / y * y = v) (kk : V g E M A Q kc ks ws pc' lv (.long v :: st)) : V g E M A Q kc ks ws pc lv (.long y :: .long x :: st) := by
  obtain ⟨hd, rfl⟩ := hd
  intro B ls H locs hl hP hD hS
  subst hv
  exact lv_lrem B.1 B.2.1 hd hne (kk B ls H locs hl hP hD hS)
theorem V_ineg {x v : Int32} (hd : Nx M pc .ineg 1 pc') (hv : -x = v) (kk : V g E M A Q kc ks ws pc' lv (.int v :: st)) : V g E M A Q kc ks ws pc lv (.int x :: st) := by
  obtain ⟨hd, rfl⟩ := hd
  intro B ls H locs hl hP hD hS
  subst hv
  exact lv_ineg B.1 B.2.1 hd (kk B ls H locs hl hP hD hS)
theorem V_i2l {x : Int32} {v : Int64} (hd : Nx M pc .i2l 1 pc') (hv : x.toInt64 = v) (kk : V g E M A Q kc ks ws pc' lv (.long v :: st)) : V g E M A Q kc ks ws pc lv (.int x :: st) := by
  obtain ⟨hd, rfl⟩ := hd
  intro B ls H locs hl hP hD hS
  exact lv_i2l B.1 B.2.1 hd hv (kk B ls H locs hl hP hD hS)
theorem V_l2i {x : Int64} {v : Int32} (hd : Nx M pc .l2i 1 pc') (hv : x.toInt32 = v) (kk : V g E M A Q kc ks ws pc' lv (.int v :: st)) : V g E M A Q kc ks ws pc lv (.long x :: st) := by
  obtain ⟨hd, rfl⟩ := hd
  intro B ls H locs hl hP hD hS
  exact lv_l2i B.1 B.2.1 hd hv (kk B ls H locs hl hP hD hS)
theorem V_iushr {x y v : Int32} (hd : Nx M pc .iushr 1 pc') (hv : (x.toUInt32 >>> (y.toUInt32 &&& Int32.toUInt32 31)).toInt32 = v) (kk : V g E M A Q kc ks ws pc' lv (.int v :: st)) : V g E M A Q kc ks ws pc lv (.int y :: .int x :: st) := by
  obtain ⟨hd, rfl⟩ := hd
  intro B ls H locs hl hP hD hS
  exact lv_iushr B.1 B.2.1 hd hv (kk B ls H locs hl hP hD hS)
theorem V_lushr {x v : Int64} {y : Int32} (hd : Nx M pc .lushr 1 pc') (hv : (x.toUInt64 >>> (y.toInt64.toUInt64 &&& Int64.toUInt64 63)).toInt64 = v) (kk : V g E M A Q kc ks ws pc' lv (.long v :: st)) : V g E M A Q kc ks ws pc lv (.int y :: .long x :: st) := by
  obtain ⟨hd, rfl⟩ := hd
  intro B ls H locs hl hP hD hS
  exact lv_lushr B.1 B.2.1 hd hv (kk B ls H locs hl hP hD hS)
theorem V_lshl {x v : Int64} {y : Int32} (hd : Nx M pc .lshl 1 pc') (hv : x <<< (y.toInt64 &&& 63) = v) (kk : V g E M A Q kc ks ws pc' lv (.long v :: st)) : V g E M A Q kc ks ws pc lv (.int y :: .long x :: st) := by
  obtain ⟨hd, rfl⟩ := hd
  intro B ls H locs hl hP hD hS
  exact lv_lshl B.1 B.2.1 hd hv (kk B ls H locs hl hP hD hS)
theorem V_lcmp {x y : Int64} (hd : Nx M pc .lcmp 1 pc') (kk : V g E M A Q kc ks ws pc' lv (.int (lg_cmp x y) :: st)) : V g E M A Q kc ks ws pc lv (.long y :: .long x :: st) := by
  obtain ⟨hd, rfl⟩ := hd
  intro B ls H locs hl hP hD hS
  exact W.lcmp B.1 B.2.1 hd (kk B ls H locs hl hP hD hS)
theorem V_dup {va : Value} (hd : Nx M pc .dup 1 pc') (hva : va.category = 1) (kk : V g E M A Q kc ks ws pc' lv (va :: va :: st)) : V g E M A Q kc ks ws pc lv (va :: st) := by
  obtain ⟨hd, rfl⟩ := hd
  intro B ls H locs hl hP hD hS
  exact lv_dup B.1 B.2.1 hd hva (kk B ls H locs hl hP hD hS)
theorem V_pop {va : Value} (hd : Nx M pc .pop 1 pc') (hva : va.category = 1) (kk : V g E M A Q kc ks ws pc' lv st) : V g E M A Q kc ks ws pc lv (va :: st) := by
  obtain ⟨hd, rfl⟩ := hd
  intro B ls H locs hl hP hD hS
  exact lv_pop B.1 B.2.1 hd hva (kk B ls H locs hl hP hD hS)
theorem V_dup2 {va vb : Value} (hd : Nx M pc .dup2 1 pc') (hva : va.category = 1) (hvb : vb.category = 1) (kk : V g E M A Q kc ks ws pc' lv (va :: vb :: va :: vb :: st)) : V g E M A Q kc ks ws pc lv (va :: vb :: st) := by
  obtain ⟨hd, rfl⟩ := hd
  intro B ls H locs hl hP hD hS
  exact lv_dup2_11 B.1 B.2.1 hd hva hvb (kk B ls H locs hl hP hD hS)
theorem V_goto {off : Int} {tgt : Nat} (hd : Nx M pc (.goto off) 3 pc') (ht : (pc : Int) + off = (tgt : Int)) (kk : V g E M A Q kc ks ws tgt lv st) : V g E M A Q kc ks ws pc lv st := by
  intro B ls H locs hl hP hD hS
  exact lv_goto B.1 B.2.1 hd.1 ht (kk B ls H locs hl hP hD hS)
theorem V_icmp_eq {x y : Int32} {off : Int} {tgt : Nat} (hd : Nx M pc (.if_icmp .eq off) 3 pc') (ht : (pc : Int) + off = (tgt : Int)) (kt : x = y → V g E M A Q kc ks ws tgt lv st) (kf : ¬ x = y → V g E M A Q kc ks ws pc' lv st) : V g E M A Q kc ks ws pc lv (.int y :: .int x :: st) := by
  obtain ⟨hd, rfl⟩ := hd
  intro B ls H locs hl hP hD hS
  exact lv_icmp_eq B.1 B.2.1 hd ht (fun h => kt h B ls H locs hl hP hD hS) (fun h => kf h B ls H locs hl hP hD hS)
theorem V_if_eq {x : Int32} {off : Int} {tgt : Nat} (hd : Nx M pc (.ifCond .eq off) 3 pc') (ht : (pc : Int) + off = (tgt : Int)) (kt : x = 0 → V g E M A Q kc ks ws tgt lv st) (kf : ¬ x = 0 → V g E M A Q kc ks ws pc' lv st) : V g E M A Q kc ks ws pc lv (.int x :: st) := by
  obtain ⟨hd, rfl⟩ := hd
  intro B ls H locs hl hP hD hS
  exact lv_if_eq B.1 B.2.1 hd ht (fun h => kt h B ls H locs hl hP hD hS) (fun h => kf h B ls H locs hl hP hD hS)
theorem V_icmp_ne {x y : Int32} {off : Int} {tgt : Nat} (hd : Nx M pc (.if_icmp .ne off) 3 pc') (ht : (pc : Int) + off = (tgt : Int)) (kt : ¬ x = y → V g E M A Q kc ks ws tgt lv st) (kf : x = y → V g E M A Q kc ks ws pc' lv st) : V g E M A Q kc ks ws pc lv (.int y :: .int x :: st) := by
  obtain ⟨hd, rfl⟩ := hd
  intro B ls H locs hl hP hD hS
  exact lv_icmp_ne B.1 B.2.1 hd ht (fun h => kt h B ls H locs hl hP hD hS) (fun h => kf h B ls H locs hl hP hD hS)
theorem V_if_ne {x : Int32} {off : Int} {tgt : Nat} (hd : Nx M pc (.ifCond .ne off) 3 pc') (ht : (pc : Int) + off = (tgt : Int)) (kt : ¬ x = 0 → V g E M A Q kc ks ws tgt lv st) (kf : x = 0 → V g E M A Q kc ks ws pc' lv st) : V g E M A Q kc ks ws pc lv (.int x :: st) := by
  obtain ⟨hd, rfl⟩ := hd
  intro B ls H locs hl hP hD hS
  exact lv_if_ne B.1 B.2.1 hd ht (fun h => kt h B ls H locs hl hP hD hS) (fun h => kf h B ls H locs hl hP hD hS)
theorem V_icmp_lt {x y : Int32} {off : Int} {tgt : Nat} (hd : Nx M pc (.if_icmp .lt off) 3 pc') (ht : (pc : Int) + off = (tgt : Int)) (kt : x < y → V g E M A Q kc ks ws tgt lv st) (kf : ¬ x < y → V g E M A Q kc ks ws pc' lv st) : V g E M A Q kc ks ws pc lv (.int y :: .int x :: st) := by
  obtain ⟨hd, rfl⟩ := hd
  intro B ls H locs hl hP hD hS
  exact lv_icmp_lt B.1 B.2.1 hd ht (fun h => kt h B ls H locs hl hP hD hS) (fun h => kf h B ls H locs hl hP hD hS)
theorem V_if_lt {x : Int32} {off : Int} {tgt : Nat} (hd : Nx M pc (.ifCond .lt off) 3 pc') (ht : (pc : Int) + off = (tgt : Int)) (kt : x < 0 → V g E M A Q kc ks ws tgt lv st) (kf : ¬ x < 0 → V g E M A Q kc ks ws pc' lv st) : V g E M A Q kc ks ws pc lv (.int x :: st) := by
  obtain ⟨hd, rfl⟩ := hd
  intro B ls H locs hl hP hD hS
  exact lv_if_lt B.1 B.2.1 hd ht (fun h => kt h B ls H locs hl hP hD hS) (fun h => kf h B ls H locs hl hP hD hS)
theorem V_icmp_ge {x y : Int32} {off : Int} {tgt : Nat} (hd : Nx M pc (.if_icmp .ge off) 3 pc') (ht : (pc : Int) + off = (tgt : Int)) (kt : y ≤ x → V g E M A Q kc ks ws tgt lv st) (kf : ¬ y ≤ x → V g E M A Q kc ks ws pc' lv st) : V g E M A Q kc ks ws pc lv (.int y :: .int x :: st) := by
  obtain ⟨hd, rfl⟩ := hd
  intro B ls H locs hl hP hD hS
  exact lv_icmp_ge B.1 B.2.1 hd ht (fun h => kt h B ls H locs hl hP hD hS) (fun h => kf h B ls H locs hl hP hD hS)
theorem V_if_ge {x : Int32} {off : Int} {tgt : Nat} (hd : Nx M pc (.ifCond .ge off) 3 pc') (ht : (pc : Int) + off = (tgt : Int)) (kt : 0 ≤ x → V g E M A Q kc ks ws tgt lv st) (kf : ¬ 0 ≤ x → V g E M A Q kc ks ws pc' lv st) : V g E M A Q kc ks ws pc lv (.int x :: st) := by
  obtain ⟨hd, rfl⟩ := hd
  intro B ls H locs hl hP hD hS
  exact lv_if_ge B.1 B.2.1 hd ht (fun h => kt h B ls H locs hl hP hD hS) (fun h => kf h B ls H locs hl hP hD hS)
theorem V_icmp_gt {x y : Int32} {off : Int} {tgt : Nat} (hd : Nx M pc (.if_icmp .gt off) 3 pc') (ht : (pc : Int) + off = (tgt : Int)) (kt : y < x → V g E M A Q kc ks ws tgt lv st) (kf : ¬ y < x → V g E M A Q kc ks ws pc' lv st) : V g E M A Q kc ks ws pc lv (.int y :: .int x :: st) := by
  obtain ⟨hd, rfl⟩ := hd
  intro B ls H locs hl hP hD hS
  exact lv_icmp_gt B.1 B.2.1 hd ht (fun h => kt h B ls H locs hl hP hD hS) (fun h => kf h B ls H locs hl hP hD hS)
theorem V_if_gt {x : Int32} {off : Int} {tgt : Nat} (hd : Nx M pc (.ifCond .gt off) 3 pc') (ht : (pc : Int) + off = (tgt : Int)) (kt : 0 < x → V g E M A Q kc ks ws tgt lv st) (kf : ¬ 0 < x → V g E M A Q kc ks ws pc' lv st) : V g E M A Q kc ks ws pc lv (.int x :: st) := by
  obtain ⟨hd, rfl⟩ := hd
  intro B ls H locs hl hP hD hS
  exact lv_if_gt B.1 B.2.1 hd ht (fun h => kt h B ls H locs hl hP hD hS) (fun h => kf h B ls H locs hl hP hD hS)
theorem V_icmp_le {x y : Int32} {off : Int} {tgt : Nat} (hd : Nx M pc (.if_icmp .le off) 3 pc') (ht : (pc : Int) + off = (tgt : Int)) (kt : x ≤ y → V g E M A Q kc ks ws tgt lv st) (kf : ¬ x ≤ y → V g E M A Q kc ks ws pc' lv st) : V g E M A Q kc ks ws pc lv (.int y :: .int x :: st) := by
  obtain ⟨hd, rfl⟩ := hd
  intro B ls H locs hl hP hD hS
  exact lv_icmp_le B.1 B.2.1 hd ht (fun h => kt h B ls H locs hl hP hD hS) (fun h => kf h B ls H locs hl hP hD hS)
theorem V_if_le {x : Int32} {off : Int} {tgt : Nat} (hd : Nx M pc (.ifCond .le off) 3 pc') (ht : (pc : Int) + off = (tgt : Int)) (kt : x ≤ 0 → V g E M A Q kc ks ws tgt lv st) (kf : ¬ x ≤ 0 → V g E M A Q kc ks ws pc' lv st) : V g E M A Q kc ks ws pc lv (.int x :: st) := by
  obtain ⟨hd, rfl⟩ := hd
  intro B ls H locs hl hP hD hS
  exact lv_if_le B.1 B.2.1 hd ht (fun h => kt h B ls H locs hl hP hD hS) (fun h => kf h B ls H locs hl hP hD hS)
/-- both known by their numbers -/
theorem V_icmp_eq_N {a b : Nat} {off : Int} {tgt : Nat} (hd : Nx M pc (.if_icmp .eq off) 3 pc') (ht : (pc : Int) + off = (tgt : Int)) (ha : a < 2 ^ 31) (hb : b < 2 ^ 31) (kt : a = b → V g E M A Q kc ks ws tgt lv st) (kf : a ≠ b → V g E M A Q kc ks ws pc' lv st) : V g E M A Q kc ks ws pc lv (.int (nI b) :: .int (nI a) :: st) := by
  refine V_icmp_eq hd ht (fun h => kt ?_) (fun h => kf ?_)
  · exact (nI_eq ha hb).mp h
  · exact fun q => h ((nI_eq ha hb).mpr q)
/-- both known by their numbers -/
theorem V_icmp_ne_N {a b : Nat} {off : Int} {tgt : Nat} (hd : Nx M pc (.if_icmp .ne off) 3 pc') (ht : (pc : Int) + off = (tgt : Int)) (ha : a < 2 ^ 31) (hb : b < 2 ^ 31) (kt : a ≠ b → V g E M A Q kc ks ws tgt lv st) (kf : a = b → V g E M A Q kc ks ws pc' lv st) : V g E M A Q kc ks ws pc lv (.int (nI b) :: .int (nI a) :: st) := by
  refine V_icmp_ne hd ht (fun h => kt ?_) (fun h => kf ?_)
  · exact fun q => h ((nI_eq ha hb).mpr q)
  · exact (nI_eq ha hb).mp h
/-- both known by their numbers -/
theorem V_icmp_lt_N {a b : Nat} {off : Int} {tgt : Nat} (hd : Nx M pc (.if_icmp .lt off) 3 pc') (ht : (pc : Int) + off = (tgt : Int)) (ha : a < 2 ^ 31) (hb : b < 2 ^ 31) (kt : a < b → V g E M A Q kc ks ws tgt lv st) (kf : b ≤ a → V g E M A Q kc ks ws pc' lv st) : V g E M A Q kc ks ws pc lv (.int (nI b) :: .int (nI a) :: st) := by
  refine V_icmp_lt hd ht (fun h => kt ?_) (fun h => kf ?_)
  · exact (nI_ltI ha hb).mp h
  · rw [nI_ltI ha hb] at h; omega
/-- both known by their numbers -/
theorem V_icmp_ge_N {a b : Nat} {off : Int} {tgt : Nat} (hd : Nx M pc (.if_icmp .ge off) 3 pc') (ht : (pc : Int) + off = (tgt : Int)) (ha : a < 2 ^ 31) (hb : b < 2 ^ 31) (kt : b ≤ a → V g E M A Q kc ks ws tgt lv st) (kf : a < b → V g E M A Q kc ks ws pc' lv st) : V g E M A Q kc ks ws pc lv (.int (nI b) :: .int (nI a) :: st) := by
  refine V_icmp_ge hd ht (fun h => kt ?_) (fun h => kf ?_)
  · exact (nI_leI hb ha).mp h
  · rw [nI_leI hb ha] at h; omega
/-- both known by their numbers -/
theorem V_icmp_gt_N {a b : Nat} {off : Int} {tgt : Nat} (hd : Nx M pc (.if_icmp .gt off) 3 pc') (ht : (pc : Int) + off = (tgt : Int)) (ha : a < 2 ^ 31) (hb : b < 2 ^ 31) (kt : b < a → V g E M A Q kc ks ws tgt lv st) (kf : a ≤ b → V g E M A Q kc ks ws pc' lv st) : V g E M A Q kc ks ws pc lv (.int (nI b) :: .int (nI a) :: st) := by
  refine V_icmp_gt hd ht (fun h => kt ?_) (fun h => kf ?_)
  · exact (nI_ltI hb ha).mp h
  · rw [nI_ltI hb ha] at h; omega
/-- both known by their numbers -/
theorem V_icmp_le_N {a b : Nat} {off : Int} {tgt : Nat} (hd : Nx M pc (.if_icmp .le off) 3 pc') (ht : (pc : Int) + off = (tgt : Int)) (ha : a < 2 ^ 31) (hb : b < 2 ^ 31) (kt : a ≤ b → V g E M A Q kc ks ws tgt lv st) (kf : b < a → V g E M A Q kc ks ws pc' lv st) : V g E M A Q kc ks ws pc lv (.int (nI b) :: .int (nI a) :: st) := by
  refine V_icmp_le hd ht (fun h => kt ?_) (fun h => kf ?_)
  · exact (nI_leI ha hb).mp h
  · rw [nI_leI ha hb] at h; omega
theorem V_if_eq_N {a : Nat} {off : Int} {tgt : Nat} (hd : Nx M pc (.ifCond .eq off) 3 pc') (ht : (pc : Int) + off = (tgt : Int)) (ha : a < 2 ^ 31) (kt : a = 0 → V g E M A Q kc ks ws tgt lv st) (kf : a ≠ 0 → V g E M A Q kc ks ws pc' lv st) : V g E M A Q kc ks ws pc lv (.int (nI a) :: st) := by
  have e : nI a = 0 ↔ a = 0 := by rw [← nI_0]; exact nI_eq ha (by decide)
  exact V_if_eq hd ht (fun h => kt (e.mp h)) (fun h => kf (fun q => h (e.mpr q)))
theorem V_if_eq_b {b : Bool} {off : Int} {tgt : Nat} (hd : Nx M pc (.ifCond .eq off) 3 pc') (ht : (pc : Int) + off = (tgt : Int)) (kt : b = false → V g E M A Q kc ks ws tgt lv st) (kf : b = true → V g E M A Q kc ks ws pc' lv st) : V g E M A Q kc ks ws pc lv (.int (bI b) :: st) := by
  refine V_if_eq hd ht (fun h => kt ?_) (fun h => kf ?_)
  · exact bI_0.mp h
  · cases b with | true => rfl | false => exact absurd rfl h
theorem V_if_ne_N {a : Nat} {off : Int} {tgt : Nat} (hd : Nx M pc (.ifCond .ne off) 3 pc') (ht : (pc : Int) + off = (tgt : Int)) (ha : a < 2 ^ 31) (kt : a ≠ 0 → V g E M A Q kc ks ws tgt lv st) (kf : a = 0 → V g E M A Q kc ks ws pc' lv st) : V g E M A Q kc ks ws pc lv (.int (nI a) :: st) := by
  have e : nI a = 0 ↔ a = 0 := by rw [← nI_0]; exact nI_eq ha (by decide)
  exact V_if_ne hd ht (fun h => kt (fun q => h (e.mpr q))) (fun h => kf (e.mp h))
theorem V_if_ne_b {b : Bool} {off : Int} {tgt : Nat} (hd : Nx M pc (.ifCond .ne off) 3 pc') (ht : (pc : Int) + off = (tgt : Int)) (kt : b = true → V g E M A Q kc ks ws tgt lv st) (kf : b = false → V g E M A Q kc ks ws pc' lv st) : V g E M A Q kc ks ws pc lv (.int (bI b) :: st) := by
  refine V_if_ne hd ht (fun h => kt ?_) (fun h => kf ?_)
  · cases b with | true => rfl | false => exact absurd rfl h
  · exact bI_0.mp h
/-- a join: the two ways of a choice meet again, with one int on top -/
theorem V_join {b : Bool} {x y : Int32} {pj : Nat} {f : Nat} {st' : List Value} (k : (b = true → V g E M A Q kc ks ws pj lv (.int x :: st)) → (b = false → V g E M A Q kc ks ws pj lv (.int y :: st)) → V g E M A Q kc ks ws f lv st') (hJ : V g E M A Q kc ks ws pj lv (.int (if b = true then x else y) :: st)) : V g E M A Q kc ks ws f lv st' :=
  k (fun h => by rw [if_pos h] at hJ; exact hJ) (fun h => by rw [if_neg (by rw [h]; decide)] at hJ; exact hJ)
theorem V_joinb {b : Bool} {pj : Nat} {f : Nat} {st' : List Value} (k : (b = true → V g E M A Q kc ks ws pj lv (.int 1 :: st)) → (b = false → V g E M A Q kc ks ws pj lv (.int 0 :: st)) → V g E M A Q kc ks ws f lv st') (hJ : V g E M A Q kc ks ws pj lv (.int (bI b) :: st)) : V g E M A Q kc ks ws f lv st' :=
  k (fun h => by subst h; exact hJ) (fun h => by subst h; exact hJ)
theorem V_st {st2 : List Value} (h : st = st2) (k : V g E M A Q kc ks ws pc lv st2) : V g E M A Q kc ks ws pc lv st := by rw [h]; exact k
theorem V_lv {lv2 : List (Nat × Value)} (h : ∀ q ∈ lv2, q ∈ lv) (k : V g E M A Q kc ks ws pc lv2 st) : V g E M A Q kc ks ws pc lv st := fun B ls H locs hl hP hD hS => k B ls H locs (lv_less hl h) hP hD hS
theorem V_top {x y : Int32} (h : x = y) (k : V g E M A Q kc ks ws pc lv (.int y :: st)) : V g E M A Q kc ks ws pc lv (.int x :: st) := by rw [h]; exact k
theorem V_ws (h : ws = ws') (k : V g E M A Q kc ks ws' pc lv st) : V g E M A Q kc ks ws pc lv st := by rw [h]; exact k
end VR
