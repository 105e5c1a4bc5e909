/-! pools of commons, and worlds in another order -/
abbrev Cm : Type := (Nat → Int32) × (Nat → Int32) × (Nat → Int32) × Int32 × (Nat → Int32) × (Nat → Int32)
def wCm (g : Gx) (a la : Nat → Nat) (c : Cm) : va_W := wC g a la c.1 c.2.1 c.2.2.1 c.2.2.2.1 c.2.2.2.2.1 c.2.2.2.2.2
def wP (g : Gx) (r : Nat → Nat → Nat) (la : Nat → Nat) (c : Nat → Cm) : Nat → va_W
  | 0 => []
  | n + 1 => wP g r la c n ++ wCm g (r n) la (c n)
theorem va_up_id {α : Type} (f : Nat → α) (k : Nat) : va_up f k (f k) = f := by
  funext j
  by_cases h : j = k
  · subst h; exact va_up_self _ _ _
  · exact va_up_ne _ _ h
theorem wP_below (g : Gx) (r : Nat → Nat → Nat) (la : Nat → Nat) (c : Nat → Cm) (k : Nat) (x : Cm) : ∀ n, n ≤ k → wP g r la (va_up c k x) n = wP g r la c n
  | 0, _ => rfl
  | n + 1, h => by
    show wP g r la (va_up c k x) n ++ wCm g (r n) la (va_up c k x n) = wP g r la c n ++ wCm g (r n) la (c n)
    rw [wP_below g r la c k x n (by omega), va_up_ne _ _ (by omega)]
theorem wP_split (g : Gx) (r : Nat → Nat → Nat) (la : Nat → Nat) (c : Nat → Cm) (k : Nat) : ∀ n, k < n → ∃ bk : va_W, ∀ x : Cm, wP g r la (va_up c k x) n = wP g r la c k ++ (wCm g (r k) la x ++ bk)
  | 0, h => absurd h (Nat.not_lt_zero _)
  | n + 1, h => by
    by_cases e : k = n
    · subst e
      refine ⟨[], fun x => ?_⟩
      show wP g r la (va_up c k x) k ++ wCm g (r k) la (va_up c k x k) = _
      rw [wP_below g r la c k x k (Nat.le_refl _), va_up_self, List.append_nil]
    · obtain ⟨bk, hb⟩ := wP_split g r la c k n (by omega)
      refine ⟨bk ++ wCm g (r n) la (c n), fun x => ?_⟩
      show wP g r la (va_up c k x) n ++ wCm g (r n) la (va_up c k x n) = _
      rw [hb x, va_up_ne _ _ (by omega), List.append_assoc, List.append_assoc]
theorem wP_out {g : Gx} {r : Nat → Nat → Nat} {la : Nat → Nat} {c : Nat → Cm} {k n : Nat} {bk : va_W} (h : ∀ x : Cm, wP g r la (va_up c k x) n = wP g r la c k ++ (wCm g (r k) la x ++ bk)) : wP g r la c n = wP g r la c k ++ (wCm g (r k) la (c k) ++ bk) := by
  have := h (c k)
  rw [va_up_id] at this
  exact this
def rmF (fi co : Nat) : Nat := if co = 14 then (fi + 1) % 14 else fi
def rmC (co : Nat) : Nat := if co = 14 then 13 else co
def wPf (r : Nat → Nat → Nat) : Nat → List Nat
  | 0 => []
  | n + 1 => wPf r n ++ [r n 0, r n 1, r n 2, r n 3, r n 4, r n 5]
theorem wP_fst (g : Gx) (r : Nat → Nat → Nat) (la : Nat → Nat) (c : Nat → Cm) : ∀ n, (wP g r la c n).map Prod.fst = wPf r n
  | 0 => rfl
  | n + 1 => by
    show (wP g r la c n ++ wCm g (r n) la (c n)).map Prod.fst = wPf r n ++ _
    rw [List.map_append, wP_fst g r la c n]
    rfl
theorem wP_len (g : Gx) (r : Nat → Nat → Nat) (la : Nat → Nat) (c : Nat → Cm) : ∀ n, (wP g r la c n).length = 6 * n
  | 0 => rfl
  | n + 1 => by
    show (wP g r la c n ++ wCm g (r n) la (c n)).length = _
    rw [List.length_append, wP_len g r la c n]
    rfl
