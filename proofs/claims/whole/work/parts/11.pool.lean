/-! pools of commons, and worlds in another order -/
abbrev Cm : Type := (Nat → Int32) × (Nat → Int32) × (Nat → Int32) × Int32 × (Nat → Int32) × (Nat → Int32)
def wCm (g : Gx) (a la : Nat → Nat) (c : Cm) : va_W := wC g a la c.1 c.2.1 c.2.2.1 c.2.2.2.1 c.2.2.2.2.1 c.2.2.2.2.2
def wP (g : Gx) (r : Nat → Nat → Nat) (la : Nat → Nat) (c : Nat → Cm) : Nat → va_W
  | 0 => []
  | n + 1 => wP g r la c n ++ wCm g (r n) la (c n)
theorem va_up_id {α : Type} (f : Nat → α) (k : Nat) : va_up f k (f k) = f := by
  funext j
  by_cases h : j = k
  · subst h; exact va_up_self _ _ _
  · exact va_up_ne _ _ h
theorem wP_below (g : Gx) (r : Nat → Nat → Nat) (la : Nat → Nat) (c : Nat → Cm) (k : Nat) (x : Cm) : ∀ n, n ≤ k → wP g r la (va_up c k x) n = wP g r la c n
  | 0, _ => rfl
  | n + 1, h => by
    show wP g r la (va_up c k x) n ++ wCm g (r n) la (va_up c k x n) = wP g r la c n ++ wCm g (r n) la (c n)
    rw [wP_below g r la c k x n (by omega), va_up_ne _ _ (by omega)]
theorem wP_split (g : Gx) (r : Nat → Nat → Nat) (la : Nat → Nat) (c : Nat → Cm) (k : Nat) : ∀ n, k < n → ∃ bk : va_W, ∀ x : Cm, wP g r la (va_up c k x) n = wP g r la c k ++ (wCm g (r k) la x ++ bk)
  | 0, h => absurd h (Nat.not_lt_zero _)
  | n + 1, h => by
    by_cases e : k = n
    · subst e
      refine ⟨[], fun x => ?_⟩
      show wP g r la (va_up c k x) k ++ wCm g (r k) la (va_up c k x k) = _
      rw [wP_below g r la c k x k (Nat.le_refl _), va_up_self, List.append_nil]
    · obtain ⟨bk, hb⟩ := wP_split g r la c k n (by omega)
      refine ⟨bk ++ wCm g (r n) la (c n), fun x => ?_⟩
      show wP g r la (va_up c k x) n ++ wCm g (r n) la (va_up c k x n) = _
      rw [hb x, va_up_ne _ _ (by omega), List.append_assoc, List.append_assoc]
theorem wP_out {g : Gx} {r : Nat → Nat → Nat} {la : Nat → Nat} {c : Nat → Cm} {k n : Nat} {bk : va_W} (h : ∀ x : Cm, wP g r la (va_up c k x) n = wP g r la c k ++ (wCm g (r k) la x ++ bk)) : wP g r la c n = wP g r la c k ++ (wCm g (r k) la (c k) ++ bk) := by
  have := h (c k)
  rw [va_up_id] at this
  exact this
theorem va_D_iff {A : Nat → Prop} {ws : va_W} : va_D A ws ↔ (ws.map Prod.fst).Nodup ∧ ∀ q ∈ ws, A q.1 := by
  constructor
  · intro h
    refine ⟨?_, fun q hq => ?_⟩
    · rw [List.nodup_iff_pairwise_ne, List.pairwise_iff_getElem]
      intro i j hi hj hij e
      rw [List.getElem_map, List.getElem_map] at e
      rw [List.length_map] at hi hj
      have := h.1 i j ws[i] ws[j] (List.getElem?_eq_getElem hi) (List.getElem?_eq_getElem hj) e
      omega
    · obtain ⟨i, hi⟩ := List.getElem?_of_mem hq
      exact h.2 i q hi
  · intro h
    refine ⟨fun i j p q hp hq e => ?_, fun k q hk => h.2 q (List.mem_of_getElem? hk)⟩
    have h1 := h.1
    rw [List.nodup_iff_pairwise_ne, List.pairwise_iff_getElem] at h1
    obtain ⟨hi, ei⟩ := List.getElem?_eq_some_iff.mp hp
    obtain ⟨hj, ej⟩ := List.getElem?_eq_some_iff.mp hq
    by_cases h2 : i < j
    · refine absurd ?_ (h1 i j (by rw [List.length_map]; exact hi) (by rw [List.length_map]; exact hj) h2)
      rw [List.getElem_map, List.getElem_map, ei, ej]
      exact e
    · by_cases h3 : j < i
      · refine absurd ?_ (h1 j i (by rw [List.length_map]; exact hj) (by rw [List.length_map]; exact hi) h3)
        rw [List.getElem_map, List.getElem_map, ei, ej]
        exact e.symm
      · omega
theorem va_P_iff {D : va_G} {cl : List vw_C} {ws : va_W} {H : Heap} : va_P D cl ws H ↔ ∀ q ∈ ws, va_at D cl q H := by
  constructor
  · intro h q hq
    obtain ⟨i, hi⟩ := List.getElem?_of_mem hq
    exact h i q hi
  · intro h k q hk
    exact h q (List.mem_of_getElem? hk)
theorem blk_perm (Ls : List va_W) (ps : List Nat) (hp : (List.range Ls.length).isPerm ps = true) : Ls.flatten.Perm ((ps.map (fun i => Ls.getD i [])).flatten) := by
  have h := (List.isPerm_iff.mp hp).map (fun i => Ls.getD i [])
  have e : (List.range Ls.length).map (fun i => Ls.getD i []) = Ls := by
    apply List.ext_getElem
    · simp
    · intro i h1 h2
      simp [List.getD_eq_getElem?_getD, h2]
  rw [e] at h
  exact h.flatten
section VP
variable {g : Gx} {E : MV} {M : MS} {A : Nat → Prop} {Q : State → Prop} {kc ks : Nat} {ws ws' : va_W} {pc pc' : Nat} {lv : List (Nat × Value)} {st : List Value}
theorem V_perm (h : ws.Perm ws') (k : V g E M A Q kc ks ws' pc lv st) : V g E M A Q kc ks ws pc lv st := by
  intro B ls H locs hl hP hD hS
  refine k B ls H locs hl (va_P_iff.mpr fun q hq => va_P_iff.mp hP q (h.mem_iff.mpr hq)) ?_ hS
  rw [va_D_iff] at hD ⊢
  exact ⟨(h.map Prod.fst).nodup hD.1, fun q hq => hD.2 q (h.mem_iff.mpr hq)⟩
theorem V_blk (Ls : List va_W) (ps : List Nat) (hp : (List.range Ls.length).isPerm ps = true) (h1 : ws = Ls.flatten) (h2 : (ps.map (fun i => Ls.getD i [])).flatten = ws') (k : V g E M A Q kc ks ws' pc lv st) : V g E M A Q kc ks ws pc lv st := by
  subst h1
  subst h2
  exact V_perm (blk_perm Ls ps hp) k
end VP
theorem range_at (w wr : va_W) : (List.range w.length).map (fun i => (w ++ wr)[i]?) = w.map some := by
  apply List.ext_getElem?
  intro k
  by_cases h : k < w.length
  · simp [List.getElem?_range h, List.getElem?_append_left h, h]
  · simp [List.getElem?_eq_none, Nat.not_lt.mp h]
theorem va_nd_iff : ∀ {l : List Nat}, l.Nodup → va_nd l = true
  | [], _ => rfl
  | a :: l, h => by
    rw [List.nodup_cons] at h
    simp only [va_nd, Bool.and_eq_true, decide_eq_true_eq]
    exact ⟨h.1, va_nd_iff h.2⟩
theorem range_nd (n : Nat) : va_nd (List.range n) = true := va_nd_iff List.nodup_range
theorem wput_range' (wr : va_W) : ∀ (w' w pre : va_W), w'.length = w.length → wput (pre ++ (w ++ wr)) (List.range' pre.length w.length) w' = pre ++ (w' ++ wr)
  | [], [], pre, _ => rfl
  | [], _ :: _, _, h => by cases h
  | _ :: _, [], _, h => by cases h
  | c :: w', d :: w, pre, h => by
    show wput ((pre ++ (d :: w ++ wr)).set pre.length c) (List.range' (pre.length + 1) w.length) w' = _
    have e : (pre ++ (d :: w ++ wr)).set pre.length c = (pre ++ [c]) ++ (w ++ wr) := by
      rw [List.set_append_right _ _ (Nat.le_refl _), Nat.sub_self]
      simp
    rw [e]
    have := wput_range' wr w' w (pre ++ [c]) (Nat.succ.inj h)
    rw [List.length_append] at this
    rw [show [c].length = 1 from rfl] at this
    rw [this]
    simp
theorem wput_range (w w' wr : va_W) (h : w'.length = w.length) : wput (w ++ wr) (List.range w.length) w' = w' ++ wr := by
  have := wput_range' wr w' w [] h
  rw [List.range_eq_range']
  exact this
def rmF (fi co : Nat) : Nat := if co = 14 then (fi + 1) % 14 else fi
def rmC (co : Nat) : Nat := if co = 14 then 13 else co
theorem wP_fst (g : Gx) (r : Nat → Nat → Nat) (la : Nat → Nat) (c c' : Nat → Cm) : ∀ n, (wP g r la c n).map Prod.fst = (wP g r la c' n).map Prod.fst
  | 0 => rfl
  | n + 1 => by
    show (wP g r la c n ++ wCm g (r n) la (c n)).map Prod.fst = (wP g r la c' n ++ wCm g (r n) la (c' n)).map Prod.fst
    rw [List.map_append, List.map_append, wP_fst g r la c c' n]
    rfl
theorem wP_len (g : Gx) (r : Nat → Nat → Nat) (la : Nat → Nat) (c : Nat → Cm) : ∀ n, (wP g r la c n).length = 6 * n
  | 0 => rfl
  | n + 1 => by
    show (wP g r la c n ++ wCm g (r n) la (c n)).length = _
    rw [List.length_append, wP_len g r la c n]
    rfl
theorem adr_app {a a' b b' : va_W} (h1 : a.map Prod.fst = a'.map Prod.fst) (h2 : b.map Prod.fst = b'.map Prod.fst) : (a ++ b).map Prod.fst = (a' ++ b').map Prod.fst := by rw [List.map_append, List.map_append, h1, h2]
theorem len_app {a a' b b' : va_W} (h1 : a.length = a'.length) (h2 : b.length = b'.length) : (a ++ b).length = (a' ++ b').length := by rw [List.length_append, List.length_append, h1, h2]
theorem wP_len2 (g : Gx) (r : Nat → Nat → Nat) (la : Nat → Nat) (c c' : Nat → Cm) (n : Nat) : (wP g r la c n).length = (wP g r la c' n).length := by rw [wP_len, wP_len]
