/-! ===== THE LAW: its first block, and all of it ===== -/
theorem nk_x0 {g : pm_H} {t n : Nat} : hx (nw g t n) = hx g := rfl
section LS
variable {L : Nat} {xs : Nat → Int32} {Q : pm_Q}
set_option maxHeartbeats 4000000 in
theorem law_new (H : pm_W PP 401 2021 Q 600118 7246959 23 [some (.ref 0), some (.ref 32), some (.ref 114), some (.ref 937), some (.int (nI 0)), none, none, none] [] (kn_all (hz0 L xs))) :
    pm_W PP 401 2021 Q 601024 7293034 0 [some (.ref 0), none, none, none, none, none, none, none] [] (hz0 L xs) := by
  have E0 := ez_z L xs
  have e1 : hx (hz0 L xs) = 0 := rfl
  have n0 : hn (hz0 L xs) = 32 := rfl
  have Ew : eqz L xs (nw (hz0 L xs) 9 15) (nw hc_0 9 15) := ez_w E0
  have nX : hn (kn_x (hz0 L xs)) = 114 := (ez_x E0).2.2.2.1.trans hc_n1
  have nY : hn (kn_y (hz0 L xs)) = 937 := (ez_y E0).2.2.2.1.trans hc_n2
  have xX : hx (kn_x (hz0 L xs)) = 0 := by
    unfold kn_x
    rw [(kq_900 (h := nw (hz0 L xs) 9 15) (o := hn (hz0 L xs))).1, nk_x0, e1]
  have xY : hx (kn_y (hz0 L xs)) = 0 := by
    unfold kn_y
    rw [(kq_1000 (h := nw (kn_x (hz0 L xs)) 10 53) (o := hn (kn_x (hz0 L xs)))).1, nk_x0, xX]
  have p1 : ¬ hR (nw (kn_900_1 (nw (hz0 L xs) 9 15) (hn (hz0 L xs))) 5 4) (hn (hz0 L xs)) 7 = 0 := by
    rw [n0, (ez_w (t := 5) (n := 4) (ez_900_1 (o := 32) (by decide) Ew)).2.1]
    decide +kernel
  have p2 : ¬ hR (nw (kn_900_2 (nw (hz0 L xs) 9 15) (hn (hz0 L xs))) 7 8) (hn (hz0 L xs)) 7 = 0 := by
    rw [n0, (ez_w (t := 7) (n := 8) (ez_900_2 (o := 32) (by decide) Ew)).2.1]
    decide +kernel
  have p3 : ¬ hR (nw (kn_900_3 (nw (hz0 L xs) 9 15) (hn (hz0 L xs))) 6 5) (hn (hz0 L xs)) 7 = 0 := by
    rw [n0, (ez_w (t := 6) (n := 5) (ez_900_3 (o := 32) (by decide) Ew)).2.1]
    decide +kernel
  rw [u_2021_0]
  simp (disch := omega) only [B_2021_0, nI1T, Nat.left_eq_add, Nat.add_eq_left, Nat.add_eq_zero_iff, and_false, false_and, if_false, if_true, opsN, opsC, pm_1, lg, ls1, ls2, lq, List.length_cons, List.length_nil, cN, cL, callE, retV, retN, pm_pop, pm_cat, List.map_cons, List.map_nil, List.sum_cons, List.sum_nil, Value.category, Option.toList, List.cons_append, List.nil_append, ↓reduceIte, reduceCtorEq, Nat.reduceAdd, Nat.reduceLT, Nat.reduceLeDiff, Nat.reduceSub, Nat.reduceEqDiff, Nat.zero_le, Nat.sub_zero, Nat.le_refl, true_and, and_true, not_true_eq_false, not_false_eq_true, true_or, or_true, lc_eq, lc_ne, lc_lt, lc_ge, lc_gt, lc_le, nI_add, lN_add, nI_leI, nI_ltI, nI_eq, nI_clamp, pk_lLT, pk_lLE, pk_lEQ, pk_sub, vp_inT, nz_eq, nz_lt, nz_ge, nz_gt, nz_le, lz_eq, lz_lt, lz_ge, hP1, hP2, hP3, hP4, hP5, hP6, hP7, hP8, hP9, hP10, hP11, hP12, hP13, hP14, hP15, hP16, hP17, hP18, hP19, hP20, e1]
  refine c900_n _ p1 p2 p3 (nk_Sn e1) ?_
  show pm_ret _ _ _ _ _ _ _ _ (.inl none) (kn_x (hz0 L xs))
  simp (disch := omega) only [nI1T, Nat.left_eq_add, Nat.add_eq_left, Nat.add_eq_zero_iff, and_false, false_and, if_false, if_true, opsN, opsC, pm_1, lg, ls1, ls2, lq, List.length_cons, List.length_nil, cN, cL, callE, retV, retN, pm_pop, pm_cat, List.map_cons, List.map_nil, List.sum_cons, List.sum_nil, Value.category, Option.toList, List.cons_append, List.nil_append, ↓reduceIte, reduceCtorEq, Nat.reduceAdd, Nat.reduceLT, Nat.reduceLeDiff, Nat.reduceSub, Nat.reduceEqDiff, Nat.zero_le, Nat.sub_zero, Nat.le_refl, true_and, and_true, not_true_eq_false, not_false_eq_true, true_or, or_true, lc_eq, lc_ne, lc_lt, lc_ge, lc_gt, lc_le, nI_add, lN_add, nI_leI, nI_ltI, nI_eq, nI_clamp, pk_lLT, pk_lLE, pk_lEQ, pk_sub, vp_inT, nz_eq, nz_lt, nz_ge, nz_gt, nz_le, lz_eq, lz_lt, lz_ge, hP1, hP2, hP3, hP4, hP5, hP6, hP7, hP8, hP9, hP10, hP11, hP12, hP13, hP14, hP15, hP16, hP17, hP18, hP19, hP20, xX]
  refine c1000_n _ (nk_Sn xX) ?_
  show pm_ret _ _ _ _ _ _ _ _ (.inl none) (kn_y (hz0 L xs))
  simp (disch := omega) only [nI1T, Nat.left_eq_add, Nat.add_eq_left, Nat.add_eq_zero_iff, and_false, false_and, if_false, if_true, opsN, opsC, pm_1, lg, ls1, ls2, lq, List.length_cons, List.length_nil, cN, cL, callE, retV, retN, pm_pop, pm_cat, List.map_cons, List.map_nil, List.sum_cons, List.sum_nil, Value.category, Option.toList, List.cons_append, List.nil_append, ↓reduceIte, reduceCtorEq, Nat.reduceAdd, Nat.reduceLT, Nat.reduceLeDiff, Nat.reduceSub, Nat.reduceEqDiff, Nat.zero_le, Nat.sub_zero, Nat.le_refl, true_and, and_true, not_true_eq_false, not_false_eq_true, true_or, or_true, lc_eq, lc_ne, lc_lt, lc_ge, lc_gt, lc_le, nI_add, lN_add, nI_leI, nI_ltI, nI_eq, nI_clamp, pk_lLT, pk_lLE, pk_lEQ, pk_sub, vp_inT, nz_eq, nz_lt, nz_ge, nz_gt, nz_le, lz_eq, lz_lt, lz_ge, hP1, hP2, hP3, hP4, hP5, hP6, hP7, hP8, hP9, hP10, hP11, hP12, hP13, hP14, hP15, hP16, hP17, hP18, hP19, hP20, xY, n0, nX, nY, nI_clamp]
  exact H
theorem law_run (hL3 : L ≤ 3072) : pm_W PP 401 2021 (fun r _ => r = .inl (some (.int 1))) 601024 7293034 0 [some (.ref 0), none, none, none, none, none, none, none] [] (hz0 L xs) := by
  refine law_new ?_
  exact l2021 (x := 32) (by decide) (by omega) (fun _ => by show (Sum.inl (some (Value.int (nI 1))) : pm_R) = .inl (some (.int 1)); rw [zz_1]) 512 0 600118 7246959 _ gs_0 none none none (by omega) (by omega) (LI_0 L xs) (by show 0 + 300 * 512 < 2 ^ 29; decide) (by decide) (by decide)
end LS
