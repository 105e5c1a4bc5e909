/-! the law: rules for its script, where a round goes on -/
/-- the script, at the cell b, outside what is written -/
def Sc (E : MV) (A : Nat → Prop) (b Ln : Nat) (xs : Nat → Int32) : Prop := va_X b Ln xs E.2.2.2.2.1 E.2.2.2.2.1.heap ∧ b < E.2.2.2.2.1.heap.size ∧ ¬ A b ∧ Ln ≤ 2560
theorem V_sld {g : Gx} {E : MV} {M : MS} {A : Nat → Prop} {Q : State → Prop} {kc ks : Nat} {ws : va_W} {pc pc' : Nat} {lv : List (Nat × Value)} {st : List Value} {b Ln j : Nat} {xs : Nat → Int32} (S : Sc E A b Ln xs) (hd : Nx M pc .iaload 1 pc') (hj : j < Ln) (kk : V g E M A Q kc ks ws pc' lv (.int (xs j) :: st)) : V g E M A Q kc ks ws pc lv (.int (nI j) :: .ref b :: st) := by
  obtain ⟨hd, rfl⟩ := hd
  obtain ⟨h1, h2, h3, h4⟩ := S
  intro B ls H locs hl hP hD hS
  have hc : (nI j).toNatClampNeg = j := nI_clamp (by omega)
  refine va_sld B.1 B.2.1 h1 h2 h3 hS (fun q => ?_) hd ?_
  · rcases q with q | q
    · exact nI_pos (by omega) q
    · rw [hc] at q; omega
  · rw [hc]
    exact kk B ls H locs hl hP hD hS
theorem V_slen {g : Gx} {E : MV} {M : MS} {A : Nat → Prop} {Q : State → Prop} {kc ks : Nat} {ws : va_W} {pc pc' : Nat} {lv : List (Nat × Value)} {st : List Value} {b Ln : Nat} {xs : Nat → Int32} (S : Sc E A b Ln xs) (hd : Nx M pc .arraylength 1 pc') (kk : V g E M A Q kc ks ws pc' lv (.int (nI Ln) :: st)) : V g E M A Q kc ks ws pc lv (.ref b :: st) := by
  obtain ⟨hd, rfl⟩ := hd
  obtain ⟨h1, h2, h3, h4⟩ := S
  intro B ls H locs hl hP hD hS
  exact va_slen B.1 B.2.1 h1 h2 h3 hS hd (kk B ls H locs hl hP hD hS)
theorem lg_self (x : Int64) : lg_cmp x x = 0 := by
  unfold lg_cmp
  simp
theorem tk_pg {L : L8} {q : Nat → Int32} {lo sk db : Nat → Int32} {yr : Int32} {vi wy : Nat → Int32} (hL : okL L) (hC : pgC L q (lo, sk, db, yr, vi, wy)) (e f : Int32) : pgC L (etQ L.1 L.2.1 L.2.2.2.2.2.2.2 q e f) ((tkC L (lo, sk, db, yr, vi, wy) e f).1, sk, (tkC L (lo, sk, db, yr, vi, wy) e f).2.2.1, yr, vi, wy) := by
  have h := et_q (c := (lo, sk, db, yr, vi, wy)) hL hC.2 hC.1 e f
  have e1 : (tkC L (lo, sk, db, yr, vi, wy) e f).2.1 = sk := by unfold tkC; split <;> rfl
  have e2 : (tkC L (lo, sk, db, yr, vi, wy) e f).2.2.2.1 = yr := by unfold tkC; split <;> rfl
  refine ⟨?_, ?_⟩
  · have := h.1
    rw [e1, e2] at this
    exact this
  · have := h.2
    unfold okP at this
    rw [e1] at this
    exact this
theorem ck_pg {L : L8} {q : Nat → Int32} {lo sk db : Nat → Int32} {yr : Int32} {vi wy : Nat → Int32} (hL : okL L) (hC : pgC L q (lo, sk, db, yr, vi, wy)) (e f h : Int32) : pgC L (ckMQ L.1 L.2.1 L.2.2.2.2.2.2.2 q e f h) ((ckC L (lo, sk, db, yr, vi, wy) e f h).1, sk, (ckC L (lo, sk, db, yr, vi, wy) e f h).2.2.1, yr, vi, wy) := by
  have h' := ck_q (c := (lo, sk, db, yr, vi, wy)) hL hC.2 hC.1 e f h
  have e1 : (ckC L (lo, sk, db, yr, vi, wy) e f h).2.1 = sk := by unfold ckC; split <;> rfl
  have e2 : (ckC L (lo, sk, db, yr, vi, wy) e f h).2.2.2.1 = yr := by unfold ckC; split <;> rfl
  refine ⟨?_, ?_⟩
  · have := h'.1
    rw [e1, e2] at this
    exact this
  · have := h'.2
    unfold okP at this
    rw [e1] at this
    exact this
theorem ud_pg {L : L8} {q b : Nat → Int32} {rc : Nat → Cm} {fi co : Nat} {lo sk db : Nat → Int32} {yr : Int32} {vi wy : Nat → Int32} (hC : pgC L q (lo, sk, db, yr, vi, wy)) (hB : bkI L b rc fi co) : pgC L (if co = 0 then q else (fun i => b (29 * (co - 1) + i))) (if co = 0 then lo else (rc ((fi + (co - 1)) % 14)).1, if co = 0 then sk else (rc ((fi + (co - 1)) % 14)).2.1, if co = 0 then db else (rc ((fi + (co - 1)) % 14)).2.2.1, if co = 0 then yr else (rc ((fi + (co - 1)) % 14)).2.2.2.1, vi, wy) := by
  by_cases h : co = 0
  · rw [if_pos h, if_pos h, if_pos h, if_pos h, if_pos h]
    exact hC
  · rw [if_neg h, if_neg h, if_neg h, if_neg h, if_neg h]
    exact hB.2.2 (co - 1) (by omega)
theorem ag_pg {L : L8} {q b : Nat → Int32} {sc : Nat → Cm} {jf : Nat → Int32} {lo sk db : Nat → Int32} {yr : Int32} {vi wy : Nat → Int32} (hC : pgC L q (lo, sk, db, yr, vi, wy)) (hK : kpI L b sc jf) (x : Int32) : pgC L (if kpB x = true ∧ ¬ jf (ix x) = 0 then (fun i => b (29 * ix x + i)) else q) (if kpB x = true ∧ ¬ jf (ix x) = 0 then (sc (ix x)).1 else lo, if kpB x = true ∧ ¬ jf (ix x) = 0 then (sc (ix x)).2.1 else sk, if kpB x = true ∧ ¬ jf (ix x) = 0 then (sc (ix x)).2.2.1 else db, if kpB x = true ∧ ¬ jf (ix x) = 0 then (sc (ix x)).2.2.2.1 else yr, vi, wy) := by
  by_cases h : kpB x = true ∧ ¬ jf (ix x) = 0
  · rw [if_pos h, if_pos h, if_pos h, if_pos h, if_pos h]
    exact hK (ix x) (kpB_ix h.1) h.2
  · rw [if_neg h, if_neg h, if_neg h, if_neg h, if_neg h]
    exact hC
theorem ag_bk {L : L8} {b : Nat → Int32} {rc : Nat → Cm} {fi co : Nat} {jf : Nat → Int32} (hB : bkI L b rc fi co) (x : Int32) : bkI L b rc fi (if kpB x = true ∧ ¬ jf (ix x) = 0 then 0 else co) := by
  by_cases h : kpB x = true ∧ ¬ jf (ix x) = 0
  · rw [if_pos h]
    exact bk_less hB (Nat.zero_le _)
  · rw [if_neg h]
    exact hB
theorem ag_yr {L : L8} {b : Nat → Int32} {sc : Nat → Cm} {jf : Nat → Int32} (hK : kpI L b sc jf) (x : Int32) : (if kpB x = true then (if jf (ix x) = 0 then -3 else (sc (ix x)).2.2.2.1) else -1) = (if kpB x = true then (if jf (ix x) = 0 then -3 else b (29 * ix x + 28)) else -1) := by
  by_cases h : kpB x = true
  · rw [if_pos h, if_pos h]
    by_cases h2 : jf (ix x) = 0
    · rw [if_pos h2, if_pos h2]
    · rw [if_neg h2, if_neg h2]
      exact (hK (ix x) (kpB_ix h) h2).1.2.2.2.symm
  · rw [if_neg h, if_neg h]
theorem kp_yr {pa : Nat → Int32} {yr : Int32} (h : pa 28 = yr) (x : Int32) : (if kpB x = true then yr else -1) = (if kpB x = true then pa 28 else -1) := by rw [h]
theorem kp_step {L : L8} {b q : Nat → Int32} {sc : Nat → Cm} {jf : Nat → Int32} {c : Cm} (hK : kpI L b sc jf) (hC : pgC L q c) (x : Int32) : kpI L (if kpB x = true then kpQ q b (ix x) else b) (if kpB x = true then va_up sc (ix x) (c.1, c.2.1, c.2.2.1, c.2.2.2.1, (sc (ix x)).2.2.2.2.1, (sc (ix x)).2.2.2.2.2) else sc) (if kpB x = true then upd jf (ix x) (bI true) else jf) := by
  by_cases h : kpB x = true
  · rw [if_pos h, if_pos h, if_pos h]
    exact kp_keep hK hC _
  · rw [if_neg h, if_neg h, if_neg h]
    exact hK
/-- behind a case: the world, whatever its numbers, goes on -/
def LK (g : Gx) (E : MV) (A : Nat → Prop) (Q : State → Prop) (b i0 : Nat) (x_a : Nat → Nat) (t_a : Nat → Nat) (l_a : Nat → Nat) (n_a : Nat → Nat) (r_a : Nat → Nat) (q_a : Nat → Nat) (d_a : Nat → Nat) (o_a : Nat → Nat) (rg : Nat → Nat → Nat) (kg : Nat → Nat → Nat) : Prop := ∀ (sd : Int64) (tn : Nat) (tF : Nat → Int32) (nf : Nat) (ne : Nat) (pl : Nat → Int32) (yl : Nat → Int32) (nd : Nat → Int32) (hm : Nat → Int32) (wk : Nat → Int32) (kd : Nat → Int32) (lo : Nat → Int32) (sk : Nat → Int32) (db : Nat → Int32) (yr : Int32) (vi : Nat → Int32) (wy : Nat → Int32) (rlo : Nat → Int32) (rsk : Nat → Int32) (rdb : Nat → Int32) (ryr : Int32) (rvi : Nat → Int32) (rwy : Nat → Int32) (fi : Nat) (co : Nat) (rc : Nat → Cm) (cp : Nat → Int32) (ci : Nat → Int32) (dn : Nat) (sc : Nat → Cm) (jf : Nat → Int32) (gz : Nat → Int32) (oth : Int32) (opl : Nat) (orf : Nat) (ore : Nat) (owf : Int32) (osm : Int32) (osf : Int32) (orm : Int32) (ors : Int32) (uf : Nat → Int32) (vf : Nat → Int32) (pa : Nat → Int32) (tr : Nat → Int32) (bo : Nat → Int32) (ke : Nat → Int32) (fr : Nat → Int32) (gn : Nat → Int32) (va : Nat → Int32), LI tn tF (nf, ne, pl, yl, nd, hm, wk, kd) (lo, sk, db, yr, vi, wy) fi co rc cp ci dn jf sc pa bo ke → V g E mL_law A Q 146 1666 ((wX g x_a t_a l_a n_a r_a q_a d_a sd) ++ (wT g t_a tn tF) ++ (wL g l_a nf ne pl yl nd hm wk kd) ++ (wC g n_a l_a lo sk db yr vi wy) ++ (wC g r_a l_a rlo rsk rdb ryr rvi rwy) ++ (wA g q_a (fun j => some (rg j 0)) fi co) ++ (wP g rg l_a rc 14) ++ (wD g d_a cp ci dn) ++ (wR g (x_a 1) 2 (fun j => some (kg j 0))) ++ (wP g kg l_a sc 2) ++ (wZ g (x_a 2) 2 jf) ++ (wI g (x_a 3) 8 gz) ++ (wO g o_a oth tn opl nf ne orf ore co dn sd owf osm osf orm ors) ++ (wI g (o_a 1) 48 tF) ++ (wI g (o_a 8) 12 uf) ++ (wI g (o_a 9) 15 vf) ++ (wML g o_a pl yl nd hm wk kd) ++ (wI g (o_a 10) 29 pa) ++ (wI g (o_a 11) 29 tr) ++ (wI g (o_a 12) 406 bo) ++ (wI g (o_a 13) 58 ke) ++ (wZ g (o_a 14) 2 jf) ++ (wI g (o_a 15) 6 cp) ++ (wI g (o_a 16) 6 ci) ++ (wI g (o_a 17) 5 fr) ++ (wI g (o_a 18) 8 gn) ++ (wI g (o_a 19) 32 va)) 950 [(0, .ref b), (1, .ref (x_a 0)), (2, .ref (o_a 0)), (3, .int (nI i0))] []
