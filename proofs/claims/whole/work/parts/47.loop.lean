/-! the law's loop -/
theorem and31 (x : Int32) : ∃ k, k < 32 ∧ x &&& nI 31 = nI k := by
  refine ⟨x.toBitVec.toNat % 2 ^ 5, Nat.mod_lt _ (by decide), Int32.toBitVec_inj.mp ?_⟩
  show x.toBitVec &&& BitVec.ofNat 32 31 = BitVec.ofNat 32 (x.toBitVec.toNat % 2 ^ 5)
  apply BitVec.eq_of_toNat_eq
  rw [BitVec.toNat_and, BitVec.toNat_ofNat, BitVec.toNat_ofNat, show 31 % 2 ^ 32 = 2 ^ 5 - 1 from rfl, Nat.and_two_pow_sub_one_eq_mod]
  have h : x.toBitVec.toNat % 2 ^ 5 < 2 ^ 5 := Nat.mod_lt _ (by decide)
  exact (Nat.mod_eq_of_lt (Nat.lt_trans h (by decide))).symm
set_option maxHeartbeats 1000000 in
set_option maxRecDepth 100000 in
theorem law_loop (g : Gx) (l : Launch) (E : MV) (A : Nat → Prop) (sz : Nat) (Q : State → Prop) (b Ln : Nat) (xs : Nat → Int32) (x_a : Nat → Nat) (t_a : Nat → Nat) (l_a : Nat → Nat) (n_a : Nat → Nat) (r_a : Nat → Nat) (q_a : Nat → Nat) (d_a : Nat → Nat) (o_a : Nat → Nat) (rg : Nat → Nat → Nat) (kg : Nat → Nat → Nat) (X : Ev E l room_1 A [] sz) (S : Sc E A b Ln xs) (hEnd : ∀ (ws : va_W) (lv : List (Nat × Value)), V g E mL_law A Q 146 1666 ws 956 lv []) : ∀ (n i0 : Nat) (sd : Int64) (tn : Nat) (tF : Nat → Int32) (nf : Nat) (ne : Nat) (pl : Nat → Int32) (yl : Nat → Int32) (nd : Nat → Int32) (hm : Nat → Int32) (wk : Nat → Int32) (kd : Nat → Int32) (lo : Nat → Int32) (sk : Nat → Int32) (db : Nat → Int32) (yr : Int32) (vi : Nat → Int32) (wy : Nat → Int32) (rlo : Nat → Int32) (rsk : Nat → Int32) (rdb : Nat → Int32) (ryr : Int32) (rvi : Nat → Int32) (rwy : Nat → Int32) (fi : Nat) (co : Nat) (rc : Nat → Cm) (cp : Nat → Int32) (ci : Nat → Int32) (dn : Nat) (sc : Nat → Cm) (jf : Nat → Int32) (gz : Nat → Int32) (oth : Int32) (opl : Nat) (orf : Nat) (ore : Nat) (owf : Int32) (osm : Int32) (osf : Int32) (orm : Int32) (ors : Int32) (uf : Nat → Int32) (vf : Nat → Int32) (pa : Nat → Int32) (tr : Nat → Int32) (bo : Nat → Int32) (ke : Nat → Int32) (fr : Nat → Int32) (gn : Nat → Int32) (va : Nat → Int32), Ln - i0 < n → i0 ≤ Ln → LI tn tF (nf, ne, pl, yl, nd, hm, wk, kd) (lo, sk, db, yr, vi, wy) fi co rc cp ci dn jf sc pa bo ke → V g E mL_law A Q 146 1666 ((wX g x_a t_a l_a n_a r_a q_a d_a sd) ++ (wT g t_a tn tF) ++ (wL g l_a nf ne pl yl nd hm wk kd) ++ (wC g n_a l_a lo sk db yr vi wy) ++ (wC g r_a l_a rlo rsk rdb ryr rvi rwy) ++ (wA g q_a (fun j => some (rg j 0)) fi co) ++ (wP g rg l_a rc 14) ++ (wD g d_a cp ci dn) ++ (wR g (x_a 1) 2 (fun j => some (kg j 0))) ++ (wP g kg l_a sc 2) ++ (wZ g (x_a 2) 2 jf) ++ (wI g (x_a 3) 8 gz) ++ (wO g o_a oth tn opl nf ne orf ore co dn sd owf osm osf orm ors) ++ (wI g (o_a 1) 48 tF) ++ (wI g (o_a 8) 12 uf) ++ (wI g (o_a 9) 15 vf) ++ (wML g o_a pl yl nd hm wk kd) ++ (wI g (o_a 10) 29 pa) ++ (wI g (o_a 11) 29 tr) ++ (wI g (o_a 12) 406 bo) ++ (wI g (o_a 13) 58 ke) ++ (wZ g (o_a 14) 2 jf) ++ (wI g (o_a 15) 6 cp) ++ (wI g (o_a 16) 6 ci) ++ (wI g (o_a 17) 5 fr) ++ (wI g (o_a 18) 8 gn) ++ (wI g (o_a 19) 32 va)) 18 [(0, .ref b), (1, .ref (x_a 0)), (2, .ref (o_a 0)), (3, .int (nI i0))] [] := by
  have hLn : Ln ≤ 2560 := S.2.2.2
  intro n
  induction n with
  | zero => intro i0 sd tn tF nf ne pl yl nd hm wk kd lo sk db yr vi wy rlo rsk rdb ryr rvi rwy fi co rc cp ci dn sc jf gz oth opl orf ore owf osm osf orm ors uf vf pa tr bo ke fr gn va hmz; exact absurd hmz (Nat.not_lt_zero _)
  | succ n ih =>
    intro i0 sd tn tF nf ne pl yl nd hm wk kd lo sk db yr vi wy rlo rsk rdb ryr rvi rwy fi co rc cp ci dn sc jf gz oth opl orf ore owf osm osf orm ors uf vf pa tr bo ke fr gn va hmz hi hI
    refine V_iload_n nL_law_18 rfl ?_
    refine V_aload_n nL_law_19 rfl ?_
    refine V_slen S nL_law_20 ?_
    refine V_iconst (v := nI 5) nL_law_21 rfl ?_
    refine V_isub (v := nI Ln - nI 5) nL_law_22 rfl ?_
    refine V_icmp_gt (tgt := 956) nL_law_23 rfl (fun _ => hEnd _ _) (fun h => ?_)
    have hi5 : i0 + 5 ≤ Ln := by
      have e1 : (nI Ln).toInt = Ln := nI_toInt (by omega)
      have e2 : (nI 5).toInt = 5 := by decide
      have e3 : (nI i0).toInt = i0 := nI_toInt (by omega)
      rw [Int32.lt_iff_toInt_lt, j_sub (by omega) (by omega), e1, e2, e3] at h
      omega
    refine V_aload_n nL_law_26 rfl ?_
    refine V_iload_n nL_law_27 rfl ?_
    refine V_sld S nL_law_28 (by omega) ?_
    refine V_bipush (v := nI 31) nL_law_29 (by decide) ?_
    refine V_iand (v := xs i0 &&& nI 31) nL_law_31 rfl ?_
    obtain ⟨k, hk, he⟩ := and31 (xs i0)
    refine V_top he ?_
    have K : LK g E A Q b i0 x_a t_a l_a n_a r_a q_a d_a o_a rg kg := by
      intro sd tn tF nf ne pl yl nd hm wk kd lo sk db yr vi wy rlo rsk rdb ryr rvi rwy fi co rc cp ci dn sc jf gz oth opl orf ore owf osm osf orm ors uf vf pa tr bo ke fr gn va hI
      refine V_iinc (v := nI (i0 + 5)) (lv' := [(0, .ref b), (1, .ref (x_a 0)), (2, .ref (o_a 0)), (3, .int (nI (i0 + 5)))]) nL_law_950 rfl (nI_add i0 5) (by decide) rfl ?_
      refine V_goto (tgt := 18) nL_law_953 rfl ?_
      exact ih (i0 + 5) sd tn tF nf ne pl yl nd hm wk kd lo sk db yr vi wy rlo rsk rdb ryr rvi rwy fi co rc cp ci dn sc jf gz oth opl orf ore owf osm osf orm ors uf vf pa tr bo ke fr gn va (by omega) (by omega) hI
    clear ih
    rcases (show k = 0 ∨ k = 1 ∨ k = 2 ∨ k = 3 ∨ k = 4 ∨ k = 5 ∨ k = 6 ∨ k = 7 ∨ k = 8 ∨ k = 9 ∨ k = 10 ∨ k = 11 ∨ k = 12 ∨ k = 13 ∨ k = 14 ∨ k = 15 ∨ k = 16 ∨ k = 17 ∨ k = 18 ∨ k = 19 ∨ k = 20 ∨ k = 21 ∨ k = 22 ∨ k = 23 ∨ k = 24 ∨ k = 25 ∨ k = 26 ∨ 26 < k by omega) with h1 | h1 | h1 | h1 | h1 | h1 | h1 | h1 | h1 | h1 | h1 | h1 | h1 | h1 | h1 | h1 | h1 | h1 | h1 | h1 | h1 | h1 | h1 | h1 | h1 | h1 | h1 | h1
    · subst h1
      refine V_tableIn (off := 124) (tgt := 156) nL_law_32 (by decide) (by decide) rfl rfl ?_
      exact law_write g l E A sz Q b Ln i0 xs x_a t_a l_a n_a r_a q_a d_a o_a rg kg sd tn tF nf ne pl yl nd hm wk kd lo sk db yr vi wy rlo rsk rdb ryr rvi rwy fi co rc cp ci dn sc jf gz oth opl orf ore owf osm osf orm ors uf vf pa tr bo ke fr gn va X S hi5 hI K
    · subst h1
      refine V_tableIn (off := 147) (tgt := 179) nL_law_32 (by decide) (by decide) rfl rfl ?_
      exact law_wipe g l E A sz Q b Ln i0 xs x_a t_a l_a n_a r_a q_a d_a o_a rg kg sd tn tF nf ne pl yl nd hm wk kd lo sk db yr vi wy rlo rsk rdb ryr rvi rwy fi co rc cp ci dn sc jf gz oth opl orf ore owf osm osf orm ors uf vf pa tr bo ke fr gn va X S hi5 hI K
    · subst h1
      refine V_tableIn (off := 160) (tgt := 192) nL_law_32 (by decide) (by decide) rfl rfl ?_
      exact law_fault g l E A sz Q b Ln i0 xs x_a t_a l_a n_a r_a q_a d_a o_a rg kg sd tn tF nf ne pl yl nd hm wk kd lo sk db yr vi wy rlo rsk rdb ryr rvi rwy fi co rc cp ci dn sc jf gz oth opl orf ore owf osm osf orm ors uf vf pa tr bo ke fr gn va X S hi5 hI K
    · subst h1
      refine V_tableIn (off := 173) (tgt := 205) nL_law_32 (by decide) (by decide) rfl rfl ?_
      exact law_country g l E A sz Q b Ln i0 xs x_a t_a l_a n_a r_a q_a d_a o_a rg kg sd tn tF nf ne pl yl nd hm wk kd lo sk db yr vi wy rlo rsk rdb ryr rvi rwy fi co rc cp ci dn sc jf gz oth opl orf ore owf osm osf orm ors uf vf pa tr bo ke fr gn va X S hi5 hI K
    · subst h1
      refine V_tableIn (off := 186) (tgt := 218) nL_law_32 (by decide) (by decide) rfl rfl ?_
      exact law_about g l E A sz Q b Ln i0 xs x_a t_a l_a n_a r_a q_a d_a o_a rg kg sd tn tF nf ne pl yl nd hm wk kd lo sk db yr vi wy rlo rsk rdb ryr rvi rwy fi co rc cp ci dn sc jf gz oth opl orf ore owf osm osf orm ors uf vf pa tr bo ke fr gn va X S hi5 hI K
    · subst h1
      refine V_tableIn (off := 209) (tgt := 241) nL_law_32 (by decide) (by decide) rfl rfl ?_
      exact law_field g l E A sz Q b Ln i0 xs x_a t_a l_a n_a r_a q_a d_a o_a rg kg sd tn tF nf ne pl yl nd hm wk kd lo sk db yr vi wy rlo rsk rdb ryr rvi rwy fi co rc cp ci dn sc jf gz oth opl orf ore owf osm osf orm ors uf vf pa tr bo ke fr gn va X S hi5 hI K
    · subst h1
      refine V_tableIn (off := 242) (tgt := 274) nL_law_32 (by decide) (by decide) rfl rfl ?_
      exact law_eater g l E A sz Q b Ln i0 xs x_a t_a l_a n_a r_a q_a d_a o_a rg kg sd tn tF nf ne pl yl nd hm wk kd lo sk db yr vi wy rlo rsk rdb ryr rvi rwy fi co rc cp ci dn sc jf gz oth opl orf ore owf osm osf orm ors uf vf pa tr bo ke fr gn va X S hi5 hI K
    · subst h1
      refine V_tableIn (off := 275) (tgt := 307) nL_law_32 (by decide) (by decide) rfl rfl ?_
      exact law_owes g l E A sz Q b Ln i0 xs x_a t_a l_a n_a r_a q_a d_a o_a rg kg sd tn tF nf ne pl yl nd hm wk kd lo sk db yr vi wy rlo rsk rdb ryr rvi rwy fi co rc cp ci dn sc jf gz oth opl orf ore owf osm osf orm ors uf vf pa tr bo ke fr gn va X S hi5 hI K
    · subst h1
      refine V_tableIn (off := 308) (tgt := 340) nL_law_32 (by decide) (by decide) rfl rfl ?_
      exact law_eat g l E A sz Q b Ln i0 xs x_a t_a l_a n_a r_a q_a d_a o_a rg kg sd tn tF nf ne pl yl nd hm wk kd lo sk db yr vi wy rlo rsk rdb ryr rvi rwy fi co rc cp ci dn sc jf gz oth opl orf ore owf osm osf orm ors uf vf pa tr bo ke fr gn va X S hi5 hI K
    · subst h1
      refine V_tableIn (off := 341) (tgt := 373) nL_law_32 (by decide) (by decide) rfl rfl ?_
      exact law_cake g l E A sz Q b Ln i0 xs x_a t_a l_a n_a r_a q_a d_a o_a rg kg sd tn tF nf ne pl yl nd hm wk kd lo sk db yr vi wy rlo rsk rdb ryr rvi rwy fi co rc cp ci dn sc jf gz oth opl orf ore owf osm osf orm ors uf vf pa tr bo ke fr gn va X S hi5 hI K
    · subst h1
      refine V_tableIn (off := 384) (tgt := 416) nL_law_32 (by decide) (by decide) rfl rfl ?_
      exact law_march g l E A sz Q b Ln i0 xs x_a t_a l_a n_a r_a q_a d_a o_a rg kg sd tn tF nf ne pl yl nd hm wk kd lo sk db yr vi wy rlo rsk rdb ryr rvi rwy fi co rc cp ci dn sc jf gz oth opl orf ore owf osm osf orm ors uf vf pa tr bo ke fr gn va X S hi5 hI K
    · subst h1
      refine V_tableIn (off := 397) (tgt := 429) nL_law_32 (by decide) (by decide) rfl rfl ?_
      exact law_harvest g l E A sz Q b Ln i0 xs x_a t_a l_a n_a r_a q_a d_a o_a rg kg sd tn tF nf ne pl yl nd hm wk kd lo sk db yr vi wy rlo rsk rdb ryr rvi rwy fi co rc cp ci dn sc jf gz oth opl orf ore owf osm osf orm ors uf vf pa tr bo ke fr gn va X S hi5 hI K
    · subst h1
      refine V_tableIn (off := 410) (tgt := 442) nL_law_32 (by decide) (by decide) rfl rfl ?_
      exact law_undo g l E A sz Q b Ln i0 xs x_a t_a l_a n_a r_a q_a d_a o_a rg kg sd tn tF nf ne pl yl nd hm wk kd lo sk db yr vi wy rlo rsk rdb ryr rvi rwy fi co rc cp ci dn sc jf gz oth opl orf ore owf osm osf orm ors uf vf pa tr bo ke fr gn va X S hi5 hI K
    · subst h1
      refine V_tableIn (off := 423) (tgt := 455) nL_law_32 (by decide) (by decide) rfl rfl ?_
      exact law_ahead g l E A sz Q b Ln i0 xs x_a t_a l_a n_a r_a q_a d_a o_a rg kg sd tn tF nf ne pl yl nd hm wk kd lo sk db yr vi wy rlo rsk rdb ryr rvi rwy fi co rc cp ci dn sc jf gz oth opl orf ore owf osm osf orm ors uf vf pa tr bo ke fr gn va X S hi5 hI K
    · subst h1
      refine V_tableIn (off := 456) (tgt := 488) nL_law_32 (by decide) (by decide) rfl rfl ?_
      exact law_wants g l E A sz Q b Ln i0 xs x_a t_a l_a n_a r_a q_a d_a o_a rg kg sd tn tF nf ne pl yl nd hm wk kd lo sk db yr vi wy rlo rsk rdb ryr rvi rwy fi co rc cp ci dn sc jf gz oth opl orf ore owf osm osf orm ors uf vf pa tr bo ke fr gn va X S hi5 hI K
    · subst h1
      refine V_tableIn (off := 479) (tgt := 511) nL_law_32 (by decide) (by decide) rfl rfl ?_
      exact law_rid g l E A sz Q b Ln i0 xs x_a t_a l_a n_a r_a q_a d_a o_a rg kg sd tn tF nf ne pl yl nd hm wk kd lo sk db yr vi wy rlo rsk rdb ryr rvi rwy fi co rc cp ci dn sc jf gz oth opl orf ore owf osm osf orm ors uf vf pa tr bo ke fr gn va X S hi5 hI K
    · subst h1
      refine V_tableIn (off := 502) (tgt := 534) nL_law_32 (by decide) (by decide) rfl rfl ?_
      exact law_judge g l E A sz Q b Ln i0 xs x_a t_a l_a n_a r_a q_a d_a o_a rg kg sd tn tF nf ne pl yl nd hm wk kd lo sk db yr vi wy rlo rsk rdb ryr rvi rwy fi co rc cp ci dn sc jf gz oth opl orf ore owf osm osf orm ors uf vf pa tr bo ke fr gn va X S hi5 hI K
    · subst h1
      refine V_tableIn (off := 565) (tgt := 597) nL_law_32 (by decide) (by decide) rfl rfl ?_
      exact law_share g l E A sz Q b Ln i0 xs x_a t_a l_a n_a r_a q_a d_a o_a rg kg sd tn tF nf ne pl yl nd hm wk kd lo sk db yr vi wy rlo rsk rdb ryr rvi rwy fi co rc cp ci dn sc jf gz oth opl orf ore owf osm osf orm ors uf vf pa tr bo ke fr gn va X S hi5 hI K
    · subst h1
      refine V_tableIn (off := 614) (tgt := 646) nL_law_32 (by decide) (by decide) rfl rfl ?_
      exact law_came g l E A sz Q b Ln i0 xs x_a t_a l_a n_a r_a q_a d_a o_a rg kg sd tn tF nf ne pl yl nd hm wk kd lo sk db yr vi wy rlo rsk rdb ryr rvi rwy fi co rc cp ci dn sc jf gz oth opl orf ore owf osm osf orm ors uf vf pa tr bo ke fr gn va X S hi5 hI K
    · subst h1
      refine V_tableIn (off := 647) (tgt := 679) nL_law_32 (by decide) (by decide) rfl rfl ?_
      exact law_forget g l E A sz Q b Ln i0 xs x_a t_a l_a n_a r_a q_a d_a o_a rg kg sd tn tF nf ne pl yl nd hm wk kd lo sk db yr vi wy rlo rsk rdb ryr rvi rwy fi co rc cp ci dn sc jf gz oth opl orf ore owf osm osf orm ors uf vf pa tr bo ke fr gn va X S hi5 hI K
    · subst h1
      refine V_tableIn (off := 660) (tgt := 692) nL_law_32 (by decide) (by decide) rfl rfl ?_
      exact law_strangers g l E A sz Q b Ln i0 xs x_a t_a l_a n_a r_a q_a d_a o_a rg kg sd tn tF nf ne pl yl nd hm wk kd lo sk db yr vi wy rlo rsk rdb ryr rvi rwy fi co rc cp ci dn sc jf gz oth opl orf ore owf osm osf orm ors uf vf pa tr bo ke fr gn va X S hi5 hI K
    · subst h1
      refine V_tableIn (off := 683) (tgt := 715) nL_law_32 (by decide) (by decide) rfl rfl ?_
      exact law_rests g l E A sz Q b Ln i0 xs x_a t_a l_a n_a r_a q_a d_a o_a rg kg sd tn tF nf ne pl yl nd hm wk kd lo sk db yr vi wy rlo rsk rdb ryr rvi rwy fi co rc cp ci dn sc jf gz oth opl orf ore owf osm osf orm ors uf vf pa tr bo ke fr gn va X S hi5 hI K
    · subst h1
      refine V_tableIn (off := 736) (tgt := 768) nL_law_32 (by decide) (by decide) rfl rfl ?_
      exact law_home g l E A sz Q b Ln i0 xs x_a t_a l_a n_a r_a q_a d_a o_a rg kg sd tn tF nf ne pl yl nd hm wk kd lo sk db yr vi wy rlo rsk rdb ryr rvi rwy fi co rc cp ci dn sc jf gz oth opl orf ore owf osm osf orm ors uf vf pa tr bo ke fr gn va X S hi5 hI K
    · subst h1
      refine V_tableIn (off := 795) (tgt := 827) nL_law_32 (by decide) (by decide) rfl rfl ?_
      exact law_seed g l E A sz Q b Ln i0 xs x_a t_a l_a n_a r_a q_a d_a o_a rg kg sd tn tF nf ne pl yl nd hm wk kd lo sk db yr vi wy rlo rsk rdb ryr rvi rwy fi co rc cp ci dn sc jf gz oth opl orf ore owf osm osf orm ors uf vf pa tr bo ke fr gn va X S hi5 hI K
    · subst h1
      refine V_tableIn (off := 849) (tgt := 881) nL_law_32 (by decide) (by decide) rfl rfl ?_
      exact law_years g l E A sz Q b Ln i0 xs x_a t_a l_a n_a r_a q_a d_a o_a rg kg sd tn tF nf ne pl yl nd hm wk kd lo sk db yr vi wy rlo rsk rdb ryr rvi rwy fi co rc cp ci dn sc jf gz oth opl orf ore owf osm osf orm ors uf vf pa tr bo ke fr gn va X S hi5 hI K
    · subst h1
      refine V_tableIn (off := 872) (tgt := 904) nL_law_32 (by decide) (by decide) rfl rfl ?_
      exact law_keep g l E A sz Q b Ln i0 xs x_a t_a l_a n_a r_a q_a d_a o_a rg kg sd tn tF nf ne pl yl nd hm wk kd lo sk db yr vi wy rlo rsk rdb ryr rvi rwy fi co rc cp ci dn sc jf gz oth opl orf ore owf osm osf orm ors uf vf pa tr bo ke fr gn va X S hi5 hI K
    · subst h1
      refine V_tableIn (off := 895) (tgt := 927) nL_law_32 (by decide) (by decide) rfl rfl ?_
      exact law_again g l E A sz Q b Ln i0 xs x_a t_a l_a n_a r_a q_a d_a o_a rg kg sd tn tF nf ne pl yl nd hm wk kd lo sk db yr vi wy rlo rsk rdb ryr rvi rwy fi co rc cp ci dn sc jf gz oth opl orf ore owf osm osf orm ors uf vf pa tr bo ke fr gn va X S hi5 hI K
    · refine V_tableOut (tgt := 950) nL_law_32 (Or.inr (by rw [nI_toInt (by omega)]; omega)) rfl ?_
      exact K sd tn tF nf ne pl yl nd hm wk kd lo sk db yr vi wy rlo rsk rdb ryr rvi rwy fi co rc cp ci dn sc jf gz oth opl orf ore owf osm osf orm ors uf vf pa tr bo ke fr gn va hI
