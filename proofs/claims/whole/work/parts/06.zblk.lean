/-! worlds in another order, block by block -/
theorem va_D_iff {A : Nat → Prop} {ws : va_W} : va_D A ws ↔ (ws.map Prod.fst).Nodup ∧ ∀ q ∈ ws, A q.1 := by
  constructor
  · intro h
    refine ⟨?_, fun q hq => ?_⟩
    · rw [List.nodup_iff_pairwise_ne, List.pairwise_iff_getElem]
      intro i j hi hj hij e
      rw [List.getElem_map, List.getElem_map] at e
      rw [List.length_map] at hi hj
      have := h.1 i j ws[i] ws[j] (List.getElem?_eq_getElem hi) (List.getElem?_eq_getElem hj) e
      omega
    · obtain ⟨i, hi⟩ := List.getElem?_of_mem hq
      exact h.2 i q hi
  · intro h
    refine ⟨fun i j p q hp hq e => ?_, fun k q hk => h.2 q (List.mem_of_getElem? hk)⟩
    have h1 := h.1
    rw [List.nodup_iff_pairwise_ne, List.pairwise_iff_getElem] at h1
    obtain ⟨hi, ei⟩ := List.getElem?_eq_some_iff.mp hp
    obtain ⟨hj, ej⟩ := List.getElem?_eq_some_iff.mp hq
    by_cases h2 : i < j
    · refine absurd ?_ (h1 i j (by rw [List.length_map]; exact hi) (by rw [List.length_map]; exact hj) h2)
      rw [List.getElem_map, List.getElem_map, ei, ej]
      exact e
    · by_cases h3 : j < i
      · refine absurd ?_ (h1 j i (by rw [List.length_map]; exact hj) (by rw [List.length_map]; exact hi) h3)
        rw [List.getElem_map, List.getElem_map, ei, ej]
        exact e.symm
      · omega
theorem va_P_iff {D : va_G} {cl : List vw_C} {ws : va_W} {H : Heap} : va_P D cl ws H ↔ ∀ q ∈ ws, va_at D cl q H := by
  constructor
  · intro h q hq
    obtain ⟨i, hi⟩ := List.getElem?_of_mem hq
    exact h i q hi
  · intro h k q hk
    exact h q (List.mem_of_getElem? hk)
theorem blk_perm (Ls : List va_W) (ps : List Nat) (hp : (List.range Ls.length).isPerm ps = true) : Ls.flatten.Perm ((ps.map (fun i => Ls.getD i [])).flatten) := by
  have h := (List.isPerm_iff.mp hp).map (fun i => Ls.getD i [])
  have e : (List.range Ls.length).map (fun i => Ls.getD i []) = Ls := by
    apply List.ext_getElem
    · simp
    · intro i h1 h2
      simp [List.getD_eq_getElem?_getD, h2]
  rw [e] at h
  exact h.flatten
section VP
variable {g : Gx} {E : MV} {M : MS} {A : Nat → Prop} {Q : State → Prop} {kc ks : Nat} {ws ws' : va_W} {pc pc' : Nat} {lv : List (Nat × Value)} {st : List Value}
theorem V_perm (h : ws.Perm ws') (k : V g E M A Q kc ks ws' pc lv st) : V g E M A Q kc ks ws pc lv st := by
  intro B ls H locs hl hP hD hS
  refine k B ls H locs hl (va_P_iff.mpr fun q hq => va_P_iff.mp hP q (h.mem_iff.mpr hq)) ?_ hS
  rw [va_D_iff] at hD ⊢
  exact ⟨(h.map Prod.fst).nodup hD.1, fun q hq => hD.2 q (h.mem_iff.mpr hq)⟩
theorem V_blk (Ls : List va_W) (ps : List Nat) (hp : (List.range Ls.length).isPerm ps = true) (h1 : ws = Ls.flatten) (h2 : (ps.map (fun i => Ls.getD i [])).flatten = ws') (k : V g E M A Q kc ks ws' pc lv st) : V g E M A Q kc ks ws pc lv st := by
  subst h1
  subst h2
  exact V_perm (blk_perm Ls ps hp) k
end VP
theorem range_at (w wr : va_W) : (List.range w.length).map (fun i => (w ++ wr)[i]?) = w.map some := by
  apply List.ext_getElem?
  intro k
  by_cases h : k < w.length
  · simp [List.getElem?_range h, List.getElem?_append_left h, h]
  · simp [List.getElem?_eq_none, Nat.not_lt.mp h]
theorem va_nd_iff : ∀ {l : List Nat}, l.Nodup → va_nd l = true
  | [], _ => rfl
  | a :: l, h => by
    rw [List.nodup_cons] at h
    simp only [va_nd, Bool.and_eq_true, decide_eq_true_eq]
    exact ⟨h.1, va_nd_iff h.2⟩
theorem range_nd (n : Nat) : va_nd (List.range n) = true := va_nd_iff List.nodup_range
theorem wput_range' (wr : va_W) : ∀ (w' w pre : va_W), w'.length = w.length → wput (pre ++ (w ++ wr)) (List.range' pre.length w.length) w' = pre ++ (w' ++ wr)
  | [], [], pre, _ => rfl
  | [], _ :: _, _, h => by cases h
  | _ :: _, [], _, h => by cases h
  | c :: w', d :: w, pre, h => by
    show wput ((pre ++ (d :: w ++ wr)).set pre.length c) (List.range' (pre.length + 1) w.length) w' = _
    have e : (pre ++ (d :: w ++ wr)).set pre.length c = (pre ++ [c]) ++ (w ++ wr) := by
      rw [List.set_append_right _ _ (Nat.le_refl _), Nat.sub_self]
      simp
    rw [e]
    have := wput_range' wr w' w (pre ++ [c]) (Nat.succ.inj h)
    rw [List.length_append] at this
    rw [show [c].length = 1 from rfl] at this
    rw [this]
    simp
theorem wput_range (w w' wr : va_W) (h : w'.length = w.length) : wput (w ++ wr) (List.range w.length) w' = w' ++ wr := by
  have := wput_range' wr w' w [] h
  rw [List.range_eq_range']
  exact this
