/-! the turns that go through a wrapper; written by turns.py -/
section LT2
variable {h : pm_H} {x L i bc bs : Nat} {xs : Nat → Int32} {G : Gs} {Q : pm_Q}
theorem tn_293 {l5 l6 l7 : Option Value} (hx0 : 0 < x) (hL0 : LI h x L xs G) (hBB : G.2.2.1 < 2 ^ 29) (hi : i + 6 ≤ L) (hL31 : L < 2 ^ 30) (hbc : 4 ≤ bc) (hbs : 24 ≤ bs)
    (K : ∀ h' G' l5 l6 l7 bc' bs', LI h' x L xs G' → G'.2.2.1 ≤ G.2.2.1 + 300 → bc ≤ bc' + 4 → bs ≤ bs' + 24 → pm_W PP 401 2021 Q bc' bs' 1899 [some (.ref 0), some (.ref x), some (.ref (x + 82)), some (.ref (x + 905)), some (.int (nI i)), l5, l6, l7] [] h') :
    pm_W PP 401 2021 Q bc bs 293 [some (.ref 0), some (.ref x), some (.ref (x + 82)), some (.ref (x + 905)), some (.int (nI i)), l5, l6, l7] [] h := by
  obtain ⟨a1, a2, a3, a4, a5, a6, a7⟩ := id hL0
  have hx := a1.1.1.1
  have r1 : i + 1 < L := by omega
  simp (disch := omega) only [u_2021_293, B_2021_293, nI1T, Nat.left_eq_add, Nat.add_eq_left, Nat.add_eq_zero_iff, and_false, false_and, if_false, if_true, opsN, opsC, pm_1, lg, ls1, ls2, lq, List.length_cons, List.length_nil, cN, cL, callE, retV, retN, pm_pop, pm_cat, List.map_cons, List.map_nil, List.sum_cons, List.sum_nil, Value.category, Option.toList, List.cons_append, List.nil_append, ↓reduceIte, reduceCtorEq, Nat.reduceAdd, Nat.reduceLT, Nat.reduceLeDiff, Nat.reduceSub, Nat.reduceEqDiff, Nat.zero_le, Nat.sub_zero, Nat.le_refl, true_and, and_true, not_true_eq_false, not_false_eq_true, true_or, or_true, lc_eq, lc_ne, lc_lt, lc_ge, lc_gt, lc_le, nI_add, lN_add, nI_leI, nI_ltI, nI_eq, nI_clamp, pk_lLT, pk_lLE, pk_lEQ, pk_sub, vp_inT, nz_eq, nz_lt, nz_ge, nz_gt, nz_le, lz_eq, lz_lt, lz_ge, hP1, hP2, hP3, hP4, hP5, hP6, hP7, hP8, hP9, hP10, hP11, hP12, hP13, hP14, hP15, hP16, hP17, hP18, hP19, hP20, a5, a6, a7, r1]
  rcases P903 a1 a2 (xs (i + 1)) with ⟨r, hr, hw, hc, hm⟩ | ⟨v, G', hB, hc, hm⟩
  · refine ⟨by omega, by omega, wr_2001 _ hx hr hw hc ?_⟩
    intro h1 c f
    have b5 : hT h1 0 = 110 := by rw [f.1]; exact a5
    have b6 : hN h1 0 = L := by rw [f.2.1]; exact a6
    have b7 : hI h1 0 = xs := by rw [(f.2.2.2 0 (by omega)).1]; exact a7
    have mm := MI_X f (.inr (Nat.le_refl _)) a2
    have m10 := mm.1.1.1
    simp (disch := omega) only [nI1T, Nat.left_eq_add, Nat.add_eq_left, Nat.add_eq_zero_iff, and_false, false_and, if_false, if_true, opsN, opsC, pm_1, lg, ls1, ls2, lq, List.length_cons, List.length_nil, cN, cL, callE, retV, retN, pm_pop, pm_cat, List.map_cons, List.map_nil, List.sum_cons, List.sum_nil, Value.category, Option.toList, List.cons_append, List.nil_append, ↓reduceIte, reduceCtorEq, Nat.reduceAdd, Nat.reduceLT, Nat.reduceLeDiff, Nat.reduceSub, Nat.reduceEqDiff, Nat.zero_le, Nat.sub_zero, Nat.le_refl, true_and, and_true, not_true_eq_false, not_false_eq_true, true_or, or_true, lc_eq, lc_ne, lc_lt, lc_ge, lc_gt, lc_le, nI_add, lN_add, nI_leI, nI_ltI, nI_eq, nI_clamp, pk_lLT, pk_lLE, pk_lEQ, pk_sub, vp_inT, nz_eq, nz_lt, nz_ge, nz_gt, nz_le, lz_eq, lz_lt, lz_ge, hP1, hP2, hP3, hP4, hP5, hP6, hP7, hP8, hP9, hP10, hP11, hP12, hP13, hP14, hP15, hP16, hP17, hP18, hP19, hP20, b5, b6, b7, r1, m10]
    refine pm_M_succ _ _ _ _ _ _ (hm h1 _ mm ?_)
    intro h2 mm2 g t0
    have m10 := mm2.1.1.1
    have LI2 := LI_2 hx0 hL0 c f mm2 g
    simp (disch := omega) only [nI1T, Nat.left_eq_add, Nat.add_eq_left, Nat.add_eq_zero_iff, and_false, false_and, if_false, if_true, opsN, opsC, pm_1, lg, ls1, ls2, lq, List.length_cons, List.length_nil, cN, cL, callE, retV, retN, pm_pop, pm_cat, List.map_cons, List.map_nil, List.sum_cons, List.sum_nil, Value.category, Option.toList, List.cons_append, List.nil_append, ↓reduceIte, reduceCtorEq, Nat.reduceAdd, Nat.reduceLT, Nat.reduceLeDiff, Nat.reduceSub, Nat.reduceEqDiff, Nat.zero_le, Nat.sub_zero, Nat.le_refl, true_and, and_true, not_true_eq_false, not_false_eq_true, true_or, or_true, lc_eq, lc_ne, lc_lt, lc_ge, lc_gt, lc_le, nI_add, lN_add, nI_leI, nI_ltI, nI_eq, nI_clamp, pk_lLT, pk_lLE, pk_lEQ, pk_sub, vp_inT, nz_eq, nz_lt, nz_ge, nz_gt, nz_le, lz_eq, lz_lt, lz_ge, hP1, hP2, hP3, hP4, hP5, hP6, hP7, hP8, hP9, hP10, hP11, hP12, hP13, hP14, hP15, hP16, hP17, hP18, hP19, hP20, m10]
    rw [q1001 _ m10, t0]
    have wz : ¬ [0, 1, 0, 0].getD r 0 = 0 := by omega
    have wl4 : [0, 1, 0, 0].getD r 0 < 2 ^ 31 := by rcases (show r = 0 ∨ r = 1 ∨ r = 2 ∨ r = 3 by omega) with e | e | e | e <;> subst e <;> decide
    generalize [0, 1, 0, 0].getD r 0 = wn at *
    simp (disch := omega) only [u_2021_329, B_2021_329, u_2021_346, B_2021_346, nI1T, Nat.left_eq_add, Nat.add_eq_left, Nat.add_eq_zero_iff, and_false, false_and, if_false, if_true, opsN, opsC, pm_1, lg, ls1, ls2, lq, List.length_cons, List.length_nil, cN, cL, callE, retV, retN, pm_pop, pm_cat, List.map_cons, List.map_nil, List.sum_cons, List.sum_nil, Value.category, Option.toList, List.cons_append, List.nil_append, ↓reduceIte, reduceCtorEq, Nat.reduceAdd, Nat.reduceLT, Nat.reduceLeDiff, Nat.reduceSub, Nat.reduceEqDiff, Nat.zero_le, Nat.sub_zero, Nat.le_refl, true_and, and_true, not_true_eq_false, not_false_eq_true, true_or, or_true, lc_eq, lc_ne, lc_lt, lc_ge, lc_gt, lc_le, nI_add, lN_add, nI_leI, nI_ltI, nI_eq, nI_clamp, pk_lLT, pk_lLE, pk_lEQ, pk_sub, vp_inT, nz_eq, nz_lt, nz_ge, nz_gt, nz_le, lz_eq, lz_lt, lz_ge, hP1, hP2, hP3, hP4, hP5, hP6, hP7, hP8, hP9, hP10, hP11, hP12, hP13, hP14, hP15, hP16, hP17, hP18, hP19, hP20, wz]
    exact K h2 _ _ _ _ _ _ LI2 (Nat.le_add_right _ _) (by omega) (by omega)
  · refine ⟨by omega, by omega, wd_2001 _ hx a3 a4 hc ?_⟩
    intro h1 c f
    have fo : frX (x + 905) (x + 906) h1 (sL h1 (x + 905) (va_up (hL h1 (x + 905)) 0 v.toInt64)) := frX_o (by omega) (by omega)
    have b5 : hT h1 0 = 110 := by rw [f.1]; exact a5
    have b6 : hN h1 0 = L := by rw [f.2.1]; exact a6
    have b7 : hI h1 0 = xs := by rw [(f.2.2.2 0 (by omega)).1]; exact a7
    have mm := MI_X fo (by omega) (MI_X f (.inr (Nat.le_refl _)) a2)
    have c' := CI_X fo (by omega) c
    have m10 : hT h1 (x + 82) = 10 := mm.1.1.1
    have ov : hL (sL h1 (x + 905) (va_up (hL h1 (x + 905)) 0 v.toInt64)) (x + 905) 0 = v.toInt64 := by rw [hP7, va_up_self, va_up_self]
    simp (disch := omega) only [nI1T, Nat.left_eq_add, Nat.add_eq_left, Nat.add_eq_zero_iff, and_false, false_and, if_false, if_true, opsN, opsC, pm_1, lg, ls1, ls2, lq, List.length_cons, List.length_nil, cN, cL, callE, retV, retN, pm_pop, pm_cat, List.map_cons, List.map_nil, List.sum_cons, List.sum_nil, Value.category, Option.toList, List.cons_append, List.nil_append, ↓reduceIte, reduceCtorEq, Nat.reduceAdd, Nat.reduceLT, Nat.reduceLeDiff, Nat.reduceSub, Nat.reduceEqDiff, Nat.zero_le, Nat.sub_zero, Nat.le_refl, true_and, and_true, not_true_eq_false, not_false_eq_true, true_or, or_true, lc_eq, lc_ne, lc_lt, lc_ge, lc_gt, lc_le, nI_add, lN_add, nI_leI, nI_ltI, nI_eq, nI_clamp, pk_lLT, pk_lLE, pk_lEQ, pk_sub, vp_inT, nz_eq, nz_lt, nz_ge, nz_gt, nz_le, lz_eq, lz_lt, lz_ge, hP1, hP2, hP3, hP4, hP5, hP6, hP7, hP8, hP9, hP10, hP11, hP12, hP13, hP14, hP15, hP16, hP17, hP18, hP19, hP20, b5, b6, b7, r1, m10]
    refine pm_M_succ _ _ _ _ _ _ (hm _ _ mm ?_)
    intro h2 mm2 g t0
    have m10 := mm2.1.1.1
    have ov2 : hL h2 (x + 905) 0 = v.toInt64 := by rw [(g.2.2.2 (x + 905) (by omega)).2.1]; exact ov
    have o1 : hT h2 (x + 905) = 101 := by rw [g.1, fo.1, f.1]; exact a3
    have o2 : hN h2 (x + 905) = 1 := by rw [g.2.1, fo.2.1, f.2.1]; exact a4
    have LI2 : LI h2 x L xs G' := by
      refine ⟨CI_X g (by omega) c', mm2, o1, o2, ?_, ?_, ?_⟩
      · rw [g.1, fo.1, f.1]; exact a5
      · rw [g.2.1, fo.2.1, f.2.1]; exact a6
      · rw [(g.2.2.2 0 (by omega)).1, (fo.2.2.2 0 (by omega)).1, (f.2.2.2 0 (by omega)).1]; exact a7
    simp (disch := omega) only [nI1T, Nat.left_eq_add, Nat.add_eq_left, Nat.add_eq_zero_iff, and_false, false_and, if_false, if_true, opsN, opsC, pm_1, lg, ls1, ls2, lq, List.length_cons, List.length_nil, cN, cL, callE, retV, retN, pm_pop, pm_cat, List.map_cons, List.map_nil, List.sum_cons, List.sum_nil, Value.category, Option.toList, List.cons_append, List.nil_append, ↓reduceIte, reduceCtorEq, Nat.reduceAdd, Nat.reduceLT, Nat.reduceLeDiff, Nat.reduceSub, Nat.reduceEqDiff, Nat.zero_le, Nat.sub_zero, Nat.le_refl, true_and, and_true, not_true_eq_false, not_false_eq_true, true_or, or_true, lc_eq, lc_ne, lc_lt, lc_ge, lc_gt, lc_le, nI_add, lN_add, nI_leI, nI_ltI, nI_eq, nI_clamp, pk_lLT, pk_lLE, pk_lEQ, pk_sub, vp_inT, nz_eq, nz_lt, nz_ge, nz_gt, nz_le, lz_eq, lz_lt, lz_ge, hP1, hP2, hP3, hP4, hP5, hP6, hP7, hP8, hP9, hP10, hP11, hP12, hP13, hP14, hP15, hP16, hP17, hP18, hP19, hP20, m10]
    rw [q1001 _ m10, t0]
    simp (disch := omega) only [u_2021_329, B_2021_329, u_2021_346, B_2021_346, nI1T, Nat.left_eq_add, Nat.add_eq_left, Nat.add_eq_zero_iff, and_false, false_and, if_false, if_true, opsN, opsC, pm_1, lg, ls1, ls2, lq, List.length_cons, List.length_nil, cN, cL, callE, retV, retN, pm_pop, pm_cat, List.map_cons, List.map_nil, List.sum_cons, List.sum_nil, Value.category, Option.toList, List.cons_append, List.nil_append, ↓reduceIte, reduceCtorEq, Nat.reduceAdd, Nat.reduceLT, Nat.reduceLeDiff, Nat.reduceSub, Nat.reduceEqDiff, Nat.zero_le, Nat.sub_zero, Nat.le_refl, true_and, and_true, not_true_eq_false, not_false_eq_true, true_or, or_true, lc_eq, lc_ne, lc_lt, lc_ge, lc_gt, lc_le, nI_add, lN_add, nI_leI, nI_ltI, nI_eq, nI_clamp, pk_lLT, pk_lLE, pk_lEQ, pk_sub, vp_inT, nz_eq, nz_lt, nz_ge, nz_gt, nz_le, lz_eq, lz_lt, lz_ge, hP1, hP2, hP3, hP4, hP5, hP6, hP7, hP8, hP9, hP10, hP11, hP12, hP13, hP14, hP15, hP16, hP17, hP18, hP19, hP20, o1, o2, ov2]
    exact K h2 _ _ _ _ _ _ LI2 hB (by omega) (by omega)
theorem tn_362 {l5 l6 l7 : Option Value} (hx0 : 0 < x) (hL0 : LI h x L xs G) (hBB : G.2.2.1 < 2 ^ 29) (hi : i + 6 ≤ L) (hL31 : L < 2 ^ 30) (hbc : 4 ≤ bc) (hbs : 24 ≤ bs)
    (K : ∀ h' G' l5 l6 l7 bc' bs', LI h' x L xs G' → G'.2.2.1 ≤ G.2.2.1 + 300 → bc ≤ bc' + 4 → bs ≤ bs' + 24 → pm_W PP 401 2021 Q bc' bs' 1899 [some (.ref 0), some (.ref x), some (.ref (x + 82)), some (.ref (x + 905)), some (.int (nI i)), l5, l6, l7] [] h') :
    pm_W PP 401 2021 Q bc bs 362 [some (.ref 0), some (.ref x), some (.ref (x + 82)), some (.ref (x + 905)), some (.int (nI i)), l5, l6, l7] [] h := by
  obtain ⟨a1, a2, a3, a4, a5, a6, a7⟩ := id hL0
  have hx := a1.1.1.1
  have r1 : i + 1 < L := by omega
  have r2 : i + 2 < L := by omega
  have r3 : i + 3 < L := by omega
  simp (disch := omega) only [u_2021_362, B_2021_362, nI1T, Nat.left_eq_add, Nat.add_eq_left, Nat.add_eq_zero_iff, and_false, false_and, if_false, if_true, opsN, opsC, pm_1, lg, ls1, ls2, lq, List.length_cons, List.length_nil, cN, cL, callE, retV, retN, pm_pop, pm_cat, List.map_cons, List.map_nil, List.sum_cons, List.sum_nil, Value.category, Option.toList, List.cons_append, List.nil_append, ↓reduceIte, reduceCtorEq, Nat.reduceAdd, Nat.reduceLT, Nat.reduceLeDiff, Nat.reduceSub, Nat.reduceEqDiff, Nat.zero_le, Nat.sub_zero, Nat.le_refl, true_and, and_true, not_true_eq_false, not_false_eq_true, true_or, or_true, lc_eq, lc_ne, lc_lt, lc_ge, lc_gt, lc_le, nI_add, lN_add, nI_leI, nI_ltI, nI_eq, nI_clamp, pk_lLT, pk_lLE, pk_lEQ, pk_sub, vp_inT, nz_eq, nz_lt, nz_ge, nz_gt, nz_le, lz_eq, lz_lt, lz_ge, hP1, hP2, hP3, hP4, hP5, hP6, hP7, hP8, hP9, hP10, hP11, hP12, hP13, hP14, hP15, hP16, hP17, hP18, hP19, hP20, a5, a6, a7, r1, r2, r3]
  rcases P905 a1 a2 (by omega) (xs (i + 1)) ((xs (i + 2)).toInt64 <<< ((nI 32).toInt64 &&& 63) ||| (xs (i + 3)).toInt64 &&& lN 4294967295) with ⟨r, hr, hw, hc, hm⟩ | ⟨v, G', hB, hc, hm⟩
  · refine ⟨by omega, by omega, wr_2002 _ _ hx hr hw hc ?_⟩
    intro h1 c f
    have b5 : hT h1 0 = 110 := by rw [f.1]; exact a5
    have b6 : hN h1 0 = L := by rw [f.2.1]; exact a6
    have b7 : hI h1 0 = xs := by rw [(f.2.2.2 0 (by omega)).1]; exact a7
    have mm := MI_X f (.inr (Nat.le_refl _)) a2
    have m10 := mm.1.1.1
    simp (disch := omega) only [nI1T, Nat.left_eq_add, Nat.add_eq_left, Nat.add_eq_zero_iff, and_false, false_and, if_false, if_true, opsN, opsC, pm_1, lg, ls1, ls2, lq, List.length_cons, List.length_nil, cN, cL, callE, retV, retN, pm_pop, pm_cat, List.map_cons, List.map_nil, List.sum_cons, List.sum_nil, Value.category, Option.toList, List.cons_append, List.nil_append, ↓reduceIte, reduceCtorEq, Nat.reduceAdd, Nat.reduceLT, Nat.reduceLeDiff, Nat.reduceSub, Nat.reduceEqDiff, Nat.zero_le, Nat.sub_zero, Nat.le_refl, true_and, and_true, not_true_eq_false, not_false_eq_true, true_or, or_true, lc_eq, lc_ne, lc_lt, lc_ge, lc_gt, lc_le, nI_add, lN_add, nI_leI, nI_ltI, nI_eq, nI_clamp, pk_lLT, pk_lLE, pk_lEQ, pk_sub, vp_inT, nz_eq, nz_lt, nz_ge, nz_gt, nz_le, lz_eq, lz_lt, lz_ge, hP1, hP2, hP3, hP4, hP5, hP6, hP7, hP8, hP9, hP10, hP11, hP12, hP13, hP14, hP15, hP16, hP17, hP18, hP19, hP20, b5, b6, b7, r1, r2, r3, m10]
    refine pm_M_succ _ _ _ _ _ _ (hm h1 _ mm ?_)
    intro h2 mm2 g t0
    have m10 := mm2.1.1.1
    have LI2 := LI_2 hx0 hL0 c f mm2 g
    simp (disch := omega) only [nI1T, Nat.left_eq_add, Nat.add_eq_left, Nat.add_eq_zero_iff, and_false, false_and, if_false, if_true, opsN, opsC, pm_1, lg, ls1, ls2, lq, List.length_cons, List.length_nil, cN, cL, callE, retV, retN, pm_pop, pm_cat, List.map_cons, List.map_nil, List.sum_cons, List.sum_nil, Value.category, Option.toList, List.cons_append, List.nil_append, ↓reduceIte, reduceCtorEq, Nat.reduceAdd, Nat.reduceLT, Nat.reduceLeDiff, Nat.reduceSub, Nat.reduceEqDiff, Nat.zero_le, Nat.sub_zero, Nat.le_refl, true_and, and_true, not_true_eq_false, not_false_eq_true, true_or, or_true, lc_eq, lc_ne, lc_lt, lc_ge, lc_gt, lc_le, nI_add, lN_add, nI_leI, nI_ltI, nI_eq, nI_clamp, pk_lLT, pk_lLE, pk_lEQ, pk_sub, vp_inT, nz_eq, nz_lt, nz_ge, nz_gt, nz_le, lz_eq, lz_lt, lz_ge, hP1, hP2, hP3, hP4, hP5, hP6, hP7, hP8, hP9, hP10, hP11, hP12, hP13, hP14, hP15, hP16, hP17, hP18, hP19, hP20, m10]
    rw [q1001 _ m10, t0]
    have wz : ¬ [1, 2, 3, 0].getD r 0 = 0 := by omega
    have wl4 : [1, 2, 3, 0].getD r 0 < 2 ^ 31 := by rcases (show r = 0 ∨ r = 1 ∨ r = 2 ∨ r = 3 by omega) with e | e | e | e <;> subst e <;> decide
    generalize [1, 2, 3, 0].getD r 0 = wn at *
    simp (disch := omega) only [u_2021_442, B_2021_442, u_2021_459, B_2021_459, nI1T, Nat.left_eq_add, Nat.add_eq_left, Nat.add_eq_zero_iff, and_false, false_and, if_false, if_true, opsN, opsC, pm_1, lg, ls1, ls2, lq, List.length_cons, List.length_nil, cN, cL, callE, retV, retN, pm_pop, pm_cat, List.map_cons, List.map_nil, List.sum_cons, List.sum_nil, Value.category, Option.toList, List.cons_append, List.nil_append, ↓reduceIte, reduceCtorEq, Nat.reduceAdd, Nat.reduceLT, Nat.reduceLeDiff, Nat.reduceSub, Nat.reduceEqDiff, Nat.zero_le, Nat.sub_zero, Nat.le_refl, true_and, and_true, not_true_eq_false, not_false_eq_true, true_or, or_true, lc_eq, lc_ne, lc_lt, lc_ge, lc_gt, lc_le, nI_add, lN_add, nI_leI, nI_ltI, nI_eq, nI_clamp, pk_lLT, pk_lLE, pk_lEQ, pk_sub, vp_inT, nz_eq, nz_lt, nz_ge, nz_gt, nz_le, lz_eq, lz_lt, lz_ge, hP1, hP2, hP3, hP4, hP5, hP6, hP7, hP8, hP9, hP10, hP11, hP12, hP13, hP14, hP15, hP16, hP17, hP18, hP19, hP20, wz]
    exact K h2 _ _ _ _ _ _ LI2 (Nat.le_add_right _ _) (by omega) (by omega)
  · refine ⟨by omega, by omega, wd_2002 _ _ hx a3 a4 hc ?_⟩
    intro h1 c f
    have fo : frX (x + 905) (x + 906) h1 (sL h1 (x + 905) (va_up (hL h1 (x + 905)) 0 v.toInt64)) := frX_o (by omega) (by omega)
    have b5 : hT h1 0 = 110 := by rw [f.1]; exact a5
    have b6 : hN h1 0 = L := by rw [f.2.1]; exact a6
    have b7 : hI h1 0 = xs := by rw [(f.2.2.2 0 (by omega)).1]; exact a7
    have mm := MI_X fo (by omega) (MI_X f (.inr (Nat.le_refl _)) a2)
    have c' := CI_X fo (by omega) c
    have m10 : hT h1 (x + 82) = 10 := mm.1.1.1
    have ov : hL (sL h1 (x + 905) (va_up (hL h1 (x + 905)) 0 v.toInt64)) (x + 905) 0 = v.toInt64 := by rw [hP7, va_up_self, va_up_self]
    simp (disch := omega) only [nI1T, Nat.left_eq_add, Nat.add_eq_left, Nat.add_eq_zero_iff, and_false, false_and, if_false, if_true, opsN, opsC, pm_1, lg, ls1, ls2, lq, List.length_cons, List.length_nil, cN, cL, callE, retV, retN, pm_pop, pm_cat, List.map_cons, List.map_nil, List.sum_cons, List.sum_nil, Value.category, Option.toList, List.cons_append, List.nil_append, ↓reduceIte, reduceCtorEq, Nat.reduceAdd, Nat.reduceLT, Nat.reduceLeDiff, Nat.reduceSub, Nat.reduceEqDiff, Nat.zero_le, Nat.sub_zero, Nat.le_refl, true_and, and_true, not_true_eq_false, not_false_eq_true, true_or, or_true, lc_eq, lc_ne, lc_lt, lc_ge, lc_gt, lc_le, nI_add, lN_add, nI_leI, nI_ltI, nI_eq, nI_clamp, pk_lLT, pk_lLE, pk_lEQ, pk_sub, vp_inT, nz_eq, nz_lt, nz_ge, nz_gt, nz_le, lz_eq, lz_lt, lz_ge, hP1, hP2, hP3, hP4, hP5, hP6, hP7, hP8, hP9, hP10, hP11, hP12, hP13, hP14, hP15, hP16, hP17, hP18, hP19, hP20, b5, b6, b7, r1, r2, r3, m10]
    refine pm_M_succ _ _ _ _ _ _ (hm _ _ mm ?_)
    intro h2 mm2 g t0
    have m10 := mm2.1.1.1
    have ov2 : hL h2 (x + 905) 0 = v.toInt64 := by rw [(g.2.2.2 (x + 905) (by omega)).2.1]; exact ov
    have o1 : hT h2 (x + 905) = 101 := by rw [g.1, fo.1, f.1]; exact a3
    have o2 : hN h2 (x + 905) = 1 := by rw [g.2.1, fo.2.1, f.2.1]; exact a4
    have LI2 : LI h2 x L xs G' := by
      refine ⟨CI_X g (by omega) c', mm2, o1, o2, ?_, ?_, ?_⟩
      · rw [g.1, fo.1, f.1]; exact a5
      · rw [g.2.1, fo.2.1, f.2.1]; exact a6
      · rw [(g.2.2.2 0 (by omega)).1, (fo.2.2.2 0 (by omega)).1, (f.2.2.2 0 (by omega)).1]; exact a7
    simp (disch := omega) only [nI1T, Nat.left_eq_add, Nat.add_eq_left, Nat.add_eq_zero_iff, and_false, false_and, if_false, if_true, opsN, opsC, pm_1, lg, ls1, ls2, lq, List.length_cons, List.length_nil, cN, cL, callE, retV, retN, pm_pop, pm_cat, List.map_cons, List.map_nil, List.sum_cons, List.sum_nil, Value.category, Option.toList, List.cons_append, List.nil_append, ↓reduceIte, reduceCtorEq, Nat.reduceAdd, Nat.reduceLT, Nat.reduceLeDiff, Nat.reduceSub, Nat.reduceEqDiff, Nat.zero_le, Nat.sub_zero, Nat.le_refl, true_and, and_true, not_true_eq_false, not_false_eq_true, true_or, or_true, lc_eq, lc_ne, lc_lt, lc_ge, lc_gt, lc_le, nI_add, lN_add, nI_leI, nI_ltI, nI_eq, nI_clamp, pk_lLT, pk_lLE, pk_lEQ, pk_sub, vp_inT, nz_eq, nz_lt, nz_ge, nz_gt, nz_le, lz_eq, lz_lt, lz_ge, hP1, hP2, hP3, hP4, hP5, hP6, hP7, hP8, hP9, hP10, hP11, hP12, hP13, hP14, hP15, hP16, hP17, hP18, hP19, hP20, m10]
    rw [q1001 _ m10, t0]
    simp (disch := omega) only [u_2021_442, B_2021_442, u_2021_459, B_2021_459, nI1T, Nat.left_eq_add, Nat.add_eq_left, Nat.add_eq_zero_iff, and_false, false_and, if_false, if_true, opsN, opsC, pm_1, lg, ls1, ls2, lq, List.length_cons, List.length_nil, cN, cL, callE, retV, retN, pm_pop, pm_cat, List.map_cons, List.map_nil, List.sum_cons, List.sum_nil, Value.category, Option.toList, List.cons_append, List.nil_append, ↓reduceIte, reduceCtorEq, Nat.reduceAdd, Nat.reduceLT, Nat.reduceLeDiff, Nat.reduceSub, Nat.reduceEqDiff, Nat.zero_le, Nat.sub_zero, Nat.le_refl, true_and, and_true, not_true_eq_false, not_false_eq_true, true_or, or_true, lc_eq, lc_ne, lc_lt, lc_ge, lc_gt, lc_le, nI_add, lN_add, nI_leI, nI_ltI, nI_eq, nI_clamp, pk_lLT, pk_lLE, pk_lEQ, pk_sub, vp_inT, nz_eq, nz_lt, nz_ge, nz_gt, nz_le, lz_eq, lz_lt, lz_ge, hP1, hP2, hP3, hP4, hP5, hP6, hP7, hP8, hP9, hP10, hP11, hP12, hP13, hP14, hP15, hP16, hP17, hP18, hP19, hP20, o1, o2, ov2]
    exact K h2 _ _ _ _ _ _ LI2 hB (by omega) (by omega)
theorem tn_462 {l5 l6 l7 : Option Value} (hx0 : 0 < x) (hL0 : LI h x L xs G) (hBB : G.2.2.1 < 2 ^ 29) (hi : i + 6 ≤ L) (hL31 : L < 2 ^ 30) (hbc : 4 ≤ bc) (hbs : 24 ≤ bs)
    (K : ∀ h' G' l5 l6 l7 bc' bs', LI h' x L xs G' → G'.2.2.1 ≤ G.2.2.1 + 300 → bc ≤ bc' + 4 → bs ≤ bs' + 24 → pm_W PP 401 2021 Q bc' bs' 1899 [some (.ref 0), some (.ref x), some (.ref (x + 82)), some (.ref (x + 905)), some (.int (nI i)), l5, l6, l7] [] h') :
    pm_W PP 401 2021 Q bc bs 462 [some (.ref 0), some (.ref x), some (.ref (x + 82)), some (.ref (x + 905)), some (.int (nI i)), l5, l6, l7] [] h := by
  obtain ⟨a1, a2, a3, a4, a5, a6, a7⟩ := id hL0
  have hx := a1.1.1.1
  have r1 : i + 1 < L := by omega
  simp (disch := omega) only [u_2021_462, B_2021_462, nI1T, Nat.left_eq_add, Nat.add_eq_left, Nat.add_eq_zero_iff, and_false, false_and, if_false, if_true, opsN, opsC, pm_1, lg, ls1, ls2, lq, List.length_cons, List.length_nil, cN, cL, callE, retV, retN, pm_pop, pm_cat, List.map_cons, List.map_nil, List.sum_cons, List.sum_nil, Value.category, Option.toList, List.cons_append, List.nil_append, ↓reduceIte, reduceCtorEq, Nat.reduceAdd, Nat.reduceLT, Nat.reduceLeDiff, Nat.reduceSub, Nat.reduceEqDiff, Nat.zero_le, Nat.sub_zero, Nat.le_refl, true_and, and_true, not_true_eq_false, not_false_eq_true, true_or, or_true, lc_eq, lc_ne, lc_lt, lc_ge, lc_gt, lc_le, nI_add, lN_add, nI_leI, nI_ltI, nI_eq, nI_clamp, pk_lLT, pk_lLE, pk_lEQ, pk_sub, vp_inT, nz_eq, nz_lt, nz_ge, nz_gt, nz_le, lz_eq, lz_lt, lz_ge, hP1, hP2, hP3, hP4, hP5, hP6, hP7, hP8, hP9, hP10, hP11, hP12, hP13, hP14, hP15, hP16, hP17, hP18, hP19, hP20, a5, a6, a7, r1]
  rcases P906 a1 a2 (by omega) (xs (i + 1)) with ⟨r, hr, hw, hc, hm⟩ | ⟨v, G', hB, hc, hm⟩
  · refine ⟨by omega, by omega, wr_2003 _ hx hr hw hc ?_⟩
    intro h1 c f
    have b5 : hT h1 0 = 110 := by rw [f.1]; exact a5
    have b6 : hN h1 0 = L := by rw [f.2.1]; exact a6
    have b7 : hI h1 0 = xs := by rw [(f.2.2.2 0 (by omega)).1]; exact a7
    have mm := MI_X f (.inr (Nat.le_refl _)) a2
    have m10 := mm.1.1.1
    simp (disch := omega) only [nI1T, Nat.left_eq_add, Nat.add_eq_left, Nat.add_eq_zero_iff, and_false, false_and, if_false, if_true, opsN, opsC, pm_1, lg, ls1, ls2, lq, List.length_cons, List.length_nil, cN, cL, callE, retV, retN, pm_pop, pm_cat, List.map_cons, List.map_nil, List.sum_cons, List.sum_nil, Value.category, Option.toList, List.cons_append, List.nil_append, ↓reduceIte, reduceCtorEq, Nat.reduceAdd, Nat.reduceLT, Nat.reduceLeDiff, Nat.reduceSub, Nat.reduceEqDiff, Nat.zero_le, Nat.sub_zero, Nat.le_refl, true_and, and_true, not_true_eq_false, not_false_eq_true, true_or, or_true, lc_eq, lc_ne, lc_lt, lc_ge, lc_gt, lc_le, nI_add, lN_add, nI_leI, nI_ltI, nI_eq, nI_clamp, pk_lLT, pk_lLE, pk_lEQ, pk_sub, vp_inT, nz_eq, nz_lt, nz_ge, nz_gt, nz_le, lz_eq, lz_lt, lz_ge, hP1, hP2, hP3, hP4, hP5, hP6, hP7, hP8, hP9, hP10, hP11, hP12, hP13, hP14, hP15, hP16, hP17, hP18, hP19, hP20, b5, b6, b7, r1, m10]
    refine pm_M_succ _ _ _ _ _ _ (hm h1 _ mm ?_)
    intro h2 mm2 g t0
    have m10 := mm2.1.1.1
    have LI2 := LI_2 hx0 hL0 c f mm2 g
    simp (disch := omega) only [nI1T, Nat.left_eq_add, Nat.add_eq_left, Nat.add_eq_zero_iff, and_false, false_and, if_false, if_true, opsN, opsC, pm_1, lg, ls1, ls2, lq, List.length_cons, List.length_nil, cN, cL, callE, retV, retN, pm_pop, pm_cat, List.map_cons, List.map_nil, List.sum_cons, List.sum_nil, Value.category, Option.toList, List.cons_append, List.nil_append, ↓reduceIte, reduceCtorEq, Nat.reduceAdd, Nat.reduceLT, Nat.reduceLeDiff, Nat.reduceSub, Nat.reduceEqDiff, Nat.zero_le, Nat.sub_zero, Nat.le_refl, true_and, and_true, not_true_eq_false, not_false_eq_true, true_or, or_true, lc_eq, lc_ne, lc_lt, lc_ge, lc_gt, lc_le, nI_add, lN_add, nI_leI, nI_ltI, nI_eq, nI_clamp, pk_lLT, pk_lLE, pk_lEQ, pk_sub, vp_inT, nz_eq, nz_lt, nz_ge, nz_gt, nz_le, lz_eq, lz_lt, lz_ge, hP1, hP2, hP3, hP4, hP5, hP6, hP7, hP8, hP9, hP10, hP11, hP12, hP13, hP14, hP15, hP16, hP17, hP18, hP19, hP20, m10]
    rw [q1001 _ m10, t0]
    have wz : ¬ [1, 0, 2, 0].getD r 0 = 0 := by omega
    have wl4 : [1, 0, 2, 0].getD r 0 < 2 ^ 31 := by rcases (show r = 0 ∨ r = 1 ∨ r = 2 ∨ r = 3 by omega) with e | e | e | e <;> subst e <;> decide
    generalize [1, 0, 2, 0].getD r 0 = wn at *
    simp (disch := omega) only [u_2021_498, B_2021_498, u_2021_515, B_2021_515, nI1T, Nat.left_eq_add, Nat.add_eq_left, Nat.add_eq_zero_iff, and_false, false_and, if_false, if_true, opsN, opsC, pm_1, lg, ls1, ls2, lq, List.length_cons, List.length_nil, cN, cL, callE, retV, retN, pm_pop, pm_cat, List.map_cons, List.map_nil, List.sum_cons, List.sum_nil, Value.category, Option.toList, List.cons_append, List.nil_append, ↓reduceIte, reduceCtorEq, Nat.reduceAdd, Nat.reduceLT, Nat.reduceLeDiff, Nat.reduceSub, Nat.reduceEqDiff, Nat.zero_le, Nat.sub_zero, Nat.le_refl, true_and, and_true, not_true_eq_false, not_false_eq_true, true_or, or_true, lc_eq, lc_ne, lc_lt, lc_ge, lc_gt, lc_le, nI_add, lN_add, nI_leI, nI_ltI, nI_eq, nI_clamp, pk_lLT, pk_lLE, pk_lEQ, pk_sub, vp_inT, nz_eq, nz_lt, nz_ge, nz_gt, nz_le, lz_eq, lz_lt, lz_ge, hP1, hP2, hP3, hP4, hP5, hP6, hP7, hP8, hP9, hP10, hP11, hP12, hP13, hP14, hP15, hP16, hP17, hP18, hP19, hP20, wz]
    exact K h2 _ _ _ _ _ _ LI2 (Nat.le_add_right _ _) (by omega) (by omega)
  · refine ⟨by omega, by omega, wd_2003 _ hx a3 a4 hc ?_⟩
    intro h1 c f
    have fo : frX (x + 905) (x + 906) h1 (sL h1 (x + 905) (va_up (hL h1 (x + 905)) 0 v.toInt64)) := frX_o (by omega) (by omega)
    have b5 : hT h1 0 = 110 := by rw [f.1]; exact a5
    have b6 : hN h1 0 = L := by rw [f.2.1]; exact a6
    have b7 : hI h1 0 = xs := by rw [(f.2.2.2 0 (by omega)).1]; exact a7
    have mm := MI_X fo (by omega) (MI_X f (.inr (Nat.le_refl _)) a2)
    have c' := CI_X fo (by omega) c
    have m10 : hT h1 (x + 82) = 10 := mm.1.1.1
    have ov : hL (sL h1 (x + 905) (va_up (hL h1 (x + 905)) 0 v.toInt64)) (x + 905) 0 = v.toInt64 := by rw [hP7, va_up_self, va_up_self]
    simp (disch := omega) only [nI1T, Nat.left_eq_add, Nat.add_eq_left, Nat.add_eq_zero_iff, and_false, false_and, if_false, if_true, opsN, opsC, pm_1, lg, ls1, ls2, lq, List.length_cons, List.length_nil, cN, cL, callE, retV, retN, pm_pop, pm_cat, List.map_cons, List.map_nil, List.sum_cons, List.sum_nil, Value.category, Option.toList, List.cons_append, List.nil_append, ↓reduceIte, reduceCtorEq, Nat.reduceAdd, Nat.reduceLT, Nat.reduceLeDiff, Nat.reduceSub, Nat.reduceEqDiff, Nat.zero_le, Nat.sub_zero, Nat.le_refl, true_and, and_true, not_true_eq_false, not_false_eq_true, true_or, or_true, lc_eq, lc_ne, lc_lt, lc_ge, lc_gt, lc_le, nI_add, lN_add, nI_leI, nI_ltI, nI_eq, nI_clamp, pk_lLT, pk_lLE, pk_lEQ, pk_sub, vp_inT, nz_eq, nz_lt, nz_ge, nz_gt, nz_le, lz_eq, lz_lt, lz_ge, hP1, hP2, hP3, hP4, hP5, hP6, hP7, hP8, hP9, hP10, hP11, hP12, hP13, hP14, hP15, hP16, hP17, hP18, hP19, hP20, b5, b6, b7, r1, m10]
    refine pm_M_succ _ _ _ _ _ _ (hm _ _ mm ?_)
    intro h2 mm2 g t0
    have m10 := mm2.1.1.1
    have ov2 : hL h2 (x + 905) 0 = v.toInt64 := by rw [(g.2.2.2 (x + 905) (by omega)).2.1]; exact ov
    have o1 : hT h2 (x + 905) = 101 := by rw [g.1, fo.1, f.1]; exact a3
    have o2 : hN h2 (x + 905) = 1 := by rw [g.2.1, fo.2.1, f.2.1]; exact a4
    have LI2 : LI h2 x L xs G' := by
      refine ⟨CI_X g (by omega) c', mm2, o1, o2, ?_, ?_, ?_⟩
      · rw [g.1, fo.1, f.1]; exact a5
      · rw [g.2.1, fo.2.1, f.2.1]; exact a6
      · rw [(g.2.2.2 0 (by omega)).1, (fo.2.2.2 0 (by omega)).1, (f.2.2.2 0 (by omega)).1]; exact a7
    simp (disch := omega) only [nI1T, Nat.left_eq_add, Nat.add_eq_left, Nat.add_eq_zero_iff, and_false, false_and, if_false, if_true, opsN, opsC, pm_1, lg, ls1, ls2, lq, List.length_cons, List.length_nil, cN, cL, callE, retV, retN, pm_pop, pm_cat, List.map_cons, List.map_nil, List.sum_cons, List.sum_nil, Value.category, Option.toList, List.cons_append, List.nil_append, ↓reduceIte, reduceCtorEq, Nat.reduceAdd, Nat.reduceLT, Nat.reduceLeDiff, Nat.reduceSub, Nat.reduceEqDiff, Nat.zero_le, Nat.sub_zero, Nat.le_refl, true_and, and_true, not_true_eq_false, not_false_eq_true, true_or, or_true, lc_eq, lc_ne, lc_lt, lc_ge, lc_gt, lc_le, nI_add, lN_add, nI_leI, nI_ltI, nI_eq, nI_clamp, pk_lLT, pk_lLE, pk_lEQ, pk_sub, vp_inT, nz_eq, nz_lt, nz_ge, nz_gt, nz_le, lz_eq, lz_lt, lz_ge, hP1, hP2, hP3, hP4, hP5, hP6, hP7, hP8, hP9, hP10, hP11, hP12, hP13, hP14, hP15, hP16, hP17, hP18, hP19, hP20, m10]
    rw [q1001 _ m10, t0]
    simp (disch := omega) only [u_2021_498, B_2021_498, u_2021_515, B_2021_515, nI1T, Nat.left_eq_add, Nat.add_eq_left, Nat.add_eq_zero_iff, and_false, false_and, if_false, if_true, opsN, opsC, pm_1, lg, ls1, ls2, lq, List.length_cons, List.length_nil, cN, cL, callE, retV, retN, pm_pop, pm_cat, List.map_cons, List.map_nil, List.sum_cons, List.sum_nil, Value.category, Option.toList, List.cons_append, List.nil_append, ↓reduceIte, reduceCtorEq, Nat.reduceAdd, Nat.reduceLT, Nat.reduceLeDiff, Nat.reduceSub, Nat.reduceEqDiff, Nat.zero_le, Nat.sub_zero, Nat.le_refl, true_and, and_true, not_true_eq_false, not_false_eq_true, true_or, or_true, lc_eq, lc_ne, lc_lt, lc_ge, lc_gt, lc_le, nI_add, lN_add, nI_leI, nI_ltI, nI_eq, nI_clamp, pk_lLT, pk_lLE, pk_lEQ, pk_sub, vp_inT, nz_eq, nz_lt, nz_ge, nz_gt, nz_le, lz_eq, lz_lt, lz_ge, hP1, hP2, hP3, hP4, hP5, hP6, hP7, hP8, hP9, hP10, hP11, hP12, hP13, hP14, hP15, hP16, hP17, hP18, hP19, hP20, o1, o2, ov2]
    exact K h2 _ _ _ _ _ _ LI2 hB (by omega) (by omega)
theorem tn_518 {l5 l6 l7 : Option Value} (hx0 : 0 < x) (hL0 : LI h x L xs G) (hBB : G.2.2.1 < 2 ^ 29) (hi : i + 6 ≤ L) (hL31 : L < 2 ^ 30) (hbc : 4 ≤ bc) (hbs : 24 ≤ bs)
    (K : ∀ h' G' l5 l6 l7 bc' bs', LI h' x L xs G' → G'.2.2.1 ≤ G.2.2.1 + 300 → bc ≤ bc' + 4 → bs ≤ bs' + 24 → pm_W PP 401 2021 Q bc' bs' 1899 [some (.ref 0), some (.ref x), some (.ref (x + 82)), some (.ref (x + 905)), some (.int (nI i)), l5, l6, l7] [] h') :
    pm_W PP 401 2021 Q bc bs 518 [some (.ref 0), some (.ref x), some (.ref (x + 82)), some (.ref (x + 905)), some (.int (nI i)), l5, l6, l7] [] h := by
  obtain ⟨a1, a2, a3, a4, a5, a6, a7⟩ := id hL0
  have hx := a1.1.1.1
  have r1 : i + 1 < L := by omega
  have r2 : i + 2 < L := by omega
  have r3 : i + 3 < L := by omega
  have r4 : i + 4 < L := by omega
  simp (disch := omega) only [u_2021_518, B_2021_518, nI1T, Nat.left_eq_add, Nat.add_eq_left, Nat.add_eq_zero_iff, and_false, false_and, if_false, if_true, opsN, opsC, pm_1, lg, ls1, ls2, lq, List.length_cons, List.length_nil, cN, cL, callE, retV, retN, pm_pop, pm_cat, List.map_cons, List.map_nil, List.sum_cons, List.sum_nil, Value.category, Option.toList, List.cons_append, List.nil_append, ↓reduceIte, reduceCtorEq, Nat.reduceAdd, Nat.reduceLT, Nat.reduceLeDiff, Nat.reduceSub, Nat.reduceEqDiff, Nat.zero_le, Nat.sub_zero, Nat.le_refl, true_and, and_true, not_true_eq_false, not_false_eq_true, true_or, or_true, lc_eq, lc_ne, lc_lt, lc_ge, lc_gt, lc_le, nI_add, lN_add, nI_leI, nI_ltI, nI_eq, nI_clamp, pk_lLT, pk_lLE, pk_lEQ, pk_sub, vp_inT, nz_eq, nz_lt, nz_ge, nz_gt, nz_le, lz_eq, lz_lt, lz_ge, hP1, hP2, hP3, hP4, hP5, hP6, hP7, hP8, hP9, hP10, hP11, hP12, hP13, hP14, hP15, hP16, hP17, hP18, hP19, hP20, a5, a6, a7, r1, r2, r3, r4]
  rcases P907 a1 a2 (by omega) (xs (i + 1)) (xs (i + 2)) ((xs (i + 3)).toInt64 <<< ((nI 32).toInt64 &&& 63) ||| (xs (i + 4)).toInt64 &&& lN 4294967295) with ⟨r, hr, hw, hc, hm⟩ | ⟨v, G', hB, hc, hm⟩
  · refine ⟨by omega, by omega, wr_2004 _ _ _ hx hr hw hc ?_⟩
    intro h1 c f
    have b5 : hT h1 0 = 110 := by rw [f.1]; exact a5
    have b6 : hN h1 0 = L := by rw [f.2.1]; exact a6
    have b7 : hI h1 0 = xs := by rw [(f.2.2.2 0 (by omega)).1]; exact a7
    have mm := MI_X f (.inr (Nat.le_refl _)) a2
    have m10 := mm.1.1.1
    simp (disch := omega) only [nI1T, Nat.left_eq_add, Nat.add_eq_left, Nat.add_eq_zero_iff, and_false, false_and, if_false, if_true, opsN, opsC, pm_1, lg, ls1, ls2, lq, List.length_cons, List.length_nil, cN, cL, callE, retV, retN, pm_pop, pm_cat, List.map_cons, List.map_nil, List.sum_cons, List.sum_nil, Value.category, Option.toList, List.cons_append, List.nil_append, ↓reduceIte, reduceCtorEq, Nat.reduceAdd, Nat.reduceLT, Nat.reduceLeDiff, Nat.reduceSub, Nat.reduceEqDiff, Nat.zero_le, Nat.sub_zero, Nat.le_refl, true_and, and_true, not_true_eq_false, not_false_eq_true, true_or, or_true, lc_eq, lc_ne, lc_lt, lc_ge, lc_gt, lc_le, nI_add, lN_add, nI_leI, nI_ltI, nI_eq, nI_clamp, pk_lLT, pk_lLE, pk_lEQ, pk_sub, vp_inT, nz_eq, nz_lt, nz_ge, nz_gt, nz_le, lz_eq, lz_lt, lz_ge, hP1, hP2, hP3, hP4, hP5, hP6, hP7, hP8, hP9, hP10, hP11, hP12, hP13, hP14, hP15, hP16, hP17, hP18, hP19, hP20, b5, b6, b7, r1, r2, r3, r4, m10]
    refine pm_M_succ _ _ _ _ _ _ (hm h1 _ mm ?_)
    intro h2 mm2 g t0
    have m10 := mm2.1.1.1
    have LI2 := LI_2 hx0 hL0 c f mm2 g
    simp (disch := omega) only [nI1T, Nat.left_eq_add, Nat.add_eq_left, Nat.add_eq_zero_iff, and_false, false_and, if_false, if_true, opsN, opsC, pm_1, lg, ls1, ls2, lq, List.length_cons, List.length_nil, cN, cL, callE, retV, retN, pm_pop, pm_cat, List.map_cons, List.map_nil, List.sum_cons, List.sum_nil, Value.category, Option.toList, List.cons_append, List.nil_append, ↓reduceIte, reduceCtorEq, Nat.reduceAdd, Nat.reduceLT, Nat.reduceLeDiff, Nat.reduceSub, Nat.reduceEqDiff, Nat.zero_le, Nat.sub_zero, Nat.le_refl, true_and, and_true, not_true_eq_false, not_false_eq_true, true_or, or_true, lc_eq, lc_ne, lc_lt, lc_ge, lc_gt, lc_le, nI_add, lN_add, nI_leI, nI_ltI, nI_eq, nI_clamp, pk_lLT, pk_lLE, pk_lEQ, pk_sub, vp_inT, nz_eq, nz_lt, nz_ge, nz_gt, nz_le, lz_eq, lz_lt, lz_ge, hP1, hP2, hP3, hP4, hP5, hP6, hP7, hP8, hP9, hP10, hP11, hP12, hP13, hP14, hP15, hP16, hP17, hP18, hP19, hP20, m10]
    rw [q1001 _ m10, t0]
    have wz : ¬ [1, 3, 4, 2].getD r 0 = 0 := by omega
    have wl4 : [1, 3, 4, 2].getD r 0 < 2 ^ 31 := by rcases (show r = 0 ∨ r = 1 ∨ r = 2 ∨ r = 3 by omega) with e | e | e | e <;> subst e <;> decide
    generalize [1, 3, 4, 2].getD r 0 = wn at *
    simp (disch := omega) only [u_2021_610, B_2021_610, u_2021_627, B_2021_627, nI1T, Nat.left_eq_add, Nat.add_eq_left, Nat.add_eq_zero_iff, and_false, false_and, if_false, if_true, opsN, opsC, pm_1, lg, ls1, ls2, lq, List.length_cons, List.length_nil, cN, cL, callE, retV, retN, pm_pop, pm_cat, List.map_cons, List.map_nil, List.sum_cons, List.sum_nil, Value.category, Option.toList, List.cons_append, List.nil_append, ↓reduceIte, reduceCtorEq, Nat.reduceAdd, Nat.reduceLT, Nat.reduceLeDiff, Nat.reduceSub, Nat.reduceEqDiff, Nat.zero_le, Nat.sub_zero, Nat.le_refl, true_and, and_true, not_true_eq_false, not_false_eq_true, true_or, or_true, lc_eq, lc_ne, lc_lt, lc_ge, lc_gt, lc_le, nI_add, lN_add, nI_leI, nI_ltI, nI_eq, nI_clamp, pk_lLT, pk_lLE, pk_lEQ, pk_sub, vp_inT, nz_eq, nz_lt, nz_ge, nz_gt, nz_le, lz_eq, lz_lt, lz_ge, hP1, hP2, hP3, hP4, hP5, hP6, hP7, hP8, hP9, hP10, hP11, hP12, hP13, hP14, hP15, hP16, hP17, hP18, hP19, hP20, wz]
    exact K h2 _ _ _ _ _ _ LI2 (Nat.le_add_right _ _) (by omega) (by omega)
  · refine ⟨by omega, by omega, wd_2004 _ _ _ hx a3 a4 hc ?_⟩
    intro h1 c f
    have fo : frX (x + 905) (x + 906) h1 (sL h1 (x + 905) (va_up (hL h1 (x + 905)) 0 v.toInt64)) := frX_o (by omega) (by omega)
    have b5 : hT h1 0 = 110 := by rw [f.1]; exact a5
    have b6 : hN h1 0 = L := by rw [f.2.1]; exact a6
    have b7 : hI h1 0 = xs := by rw [(f.2.2.2 0 (by omega)).1]; exact a7
    have mm := MI_X fo (by omega) (MI_X f (.inr (Nat.le_refl _)) a2)
    have c' := CI_X fo (by omega) c
    have m10 : hT h1 (x + 82) = 10 := mm.1.1.1
    have ov : hL (sL h1 (x + 905) (va_up (hL h1 (x + 905)) 0 v.toInt64)) (x + 905) 0 = v.toInt64 := by rw [hP7, va_up_self, va_up_self]
    simp (disch := omega) only [nI1T, Nat.left_eq_add, Nat.add_eq_left, Nat.add_eq_zero_iff, and_false, false_and, if_false, if_true, opsN, opsC, pm_1, lg, ls1, ls2, lq, List.length_cons, List.length_nil, cN, cL, callE, retV, retN, pm_pop, pm_cat, List.map_cons, List.map_nil, List.sum_cons, List.sum_nil, Value.category, Option.toList, List.cons_append, List.nil_append, ↓reduceIte, reduceCtorEq, Nat.reduceAdd, Nat.reduceLT, Nat.reduceLeDiff, Nat.reduceSub, Nat.reduceEqDiff, Nat.zero_le, Nat.sub_zero, Nat.le_refl, true_and, and_true, not_true_eq_false, not_false_eq_true, true_or, or_true, lc_eq, lc_ne, lc_lt, lc_ge, lc_gt, lc_le, nI_add, lN_add, nI_leI, nI_ltI, nI_eq, nI_clamp, pk_lLT, pk_lLE, pk_lEQ, pk_sub, vp_inT, nz_eq, nz_lt, nz_ge, nz_gt, nz_le, lz_eq, lz_lt, lz_ge, hP1, hP2, hP3, hP4, hP5, hP6, hP7, hP8, hP9, hP10, hP11, hP12, hP13, hP14, hP15, hP16, hP17, hP18, hP19, hP20, b5, b6, b7, r1, r2, r3, r4, m10]
    refine pm_M_succ _ _ _ _ _ _ (hm _ _ mm ?_)
    intro h2 mm2 g t0
    have m10 := mm2.1.1.1
    have ov2 : hL h2 (x + 905) 0 = v.toInt64 := by rw [(g.2.2.2 (x + 905) (by omega)).2.1]; exact ov
    have o1 : hT h2 (x + 905) = 101 := by rw [g.1, fo.1, f.1]; exact a3
    have o2 : hN h2 (x + 905) = 1 := by rw [g.2.1, fo.2.1, f.2.1]; exact a4
    have LI2 : LI h2 x L xs G' := by
      refine ⟨CI_X g (by omega) c', mm2, o1, o2, ?_, ?_, ?_⟩
      · rw [g.1, fo.1, f.1]; exact a5
      · rw [g.2.1, fo.2.1, f.2.1]; exact a6
      · rw [(g.2.2.2 0 (by omega)).1, (fo.2.2.2 0 (by omega)).1, (f.2.2.2 0 (by omega)).1]; exact a7
    simp (disch := omega) only [nI1T, Nat.left_eq_add, Nat.add_eq_left, Nat.add_eq_zero_iff, and_false, false_and, if_false, if_true, opsN, opsC, pm_1, lg, ls1, ls2, lq, List.length_cons, List.length_nil, cN, cL, callE, retV, retN, pm_pop, pm_cat, List.map_cons, List.map_nil, List.sum_cons, List.sum_nil, Value.category, Option.toList, List.cons_append, List.nil_append, ↓reduceIte, reduceCtorEq, Nat.reduceAdd, Nat.reduceLT, Nat.reduceLeDiff, Nat.reduceSub, Nat.reduceEqDiff, Nat.zero_le, Nat.sub_zero, Nat.le_refl, true_and, and_true, not_true_eq_false, not_false_eq_true, true_or, or_true, lc_eq, lc_ne, lc_lt, lc_ge, lc_gt, lc_le, nI_add, lN_add, nI_leI, nI_ltI, nI_eq, nI_clamp, pk_lLT, pk_lLE, pk_lEQ, pk_sub, vp_inT, nz_eq, nz_lt, nz_ge, nz_gt, nz_le, lz_eq, lz_lt, lz_ge, hP1, hP2, hP3, hP4, hP5, hP6, hP7, hP8, hP9, hP10, hP11, hP12, hP13, hP14, hP15, hP16, hP17, hP18, hP19, hP20, m10]
    rw [q1001 _ m10, t0]
    simp (disch := omega) only [u_2021_610, B_2021_610, u_2021_627, B_2021_627, nI1T, Nat.left_eq_add, Nat.add_eq_left, Nat.add_eq_zero_iff, and_false, false_and, if_false, if_true, opsN, opsC, pm_1, lg, ls1, ls2, lq, List.length_cons, List.length_nil, cN, cL, callE, retV, retN, pm_pop, pm_cat, List.map_cons, List.map_nil, List.sum_cons, List.sum_nil, Value.category, Option.toList, List.cons_append, List.nil_append, ↓reduceIte, reduceCtorEq, Nat.reduceAdd, Nat.reduceLT, Nat.reduceLeDiff, Nat.reduceSub, Nat.reduceEqDiff, Nat.zero_le, Nat.sub_zero, Nat.le_refl, true_and, and_true, not_true_eq_false, not_false_eq_true, true_or, or_true, lc_eq, lc_ne, lc_lt, lc_ge, lc_gt, lc_le, nI_add, lN_add, nI_leI, nI_ltI, nI_eq, nI_clamp, pk_lLT, pk_lLE, pk_lEQ, pk_sub, vp_inT, nz_eq, nz_lt, nz_ge, nz_gt, nz_le, lz_eq, lz_lt, lz_ge, hP1, hP2, hP3, hP4, hP5, hP6, hP7, hP8, hP9, hP10, hP11, hP12, hP13, hP14, hP15, hP16, hP17, hP18, hP19, hP20, o1, o2, ov2]
    exact K h2 _ _ _ _ _ _ LI2 hB (by omega) (by omega)
theorem tn_630 {l5 l6 l7 : Option Value} (hx0 : 0 < x) (hL0 : LI h x L xs G) (hBB : G.2.2.1 < 2 ^ 29) (hi : i + 6 ≤ L) (hL31 : L < 2 ^ 30) (hbc : 4 ≤ bc) (hbs : 24 ≤ bs)
    (K : ∀ h' G' l5 l6 l7 bc' bs', LI h' x L xs G' → G'.2.2.1 ≤ G.2.2.1 + 300 → bc ≤ bc' + 4 → bs ≤ bs' + 24 → pm_W PP 401 2021 Q bc' bs' 1899 [some (.ref 0), some (.ref x), some (.ref (x + 82)), some (.ref (x + 905)), some (.int (nI i)), l5, l6, l7] [] h') :
    pm_W PP 401 2021 Q bc bs 630 [some (.ref 0), some (.ref x), some (.ref (x + 82)), some (.ref (x + 905)), some (.int (nI i)), l5, l6, l7] [] h := by
  obtain ⟨a1, a2, a3, a4, a5, a6, a7⟩ := id hL0
  have hx := a1.1.1.1
  have r1 : i + 1 < L := by omega
  have r2 : i + 2 < L := by omega
  simp (disch := omega) only [u_2021_630, B_2021_630, nI1T, Nat.left_eq_add, Nat.add_eq_left, Nat.add_eq_zero_iff, and_false, false_and, if_false, if_true, opsN, opsC, pm_1, lg, ls1, ls2, lq, List.length_cons, List.length_nil, cN, cL, callE, retV, retN, pm_pop, pm_cat, List.map_cons, List.map_nil, List.sum_cons, List.sum_nil, Value.category, Option.toList, List.cons_append, List.nil_append, ↓reduceIte, reduceCtorEq, Nat.reduceAdd, Nat.reduceLT, Nat.reduceLeDiff, Nat.reduceSub, Nat.reduceEqDiff, Nat.zero_le, Nat.sub_zero, Nat.le_refl, true_and, and_true, not_true_eq_false, not_false_eq_true, true_or, or_true, lc_eq, lc_ne, lc_lt, lc_ge, lc_gt, lc_le, nI_add, lN_add, nI_leI, nI_ltI, nI_eq, nI_clamp, pk_lLT, pk_lLE, pk_lEQ, pk_sub, vp_inT, nz_eq, nz_lt, nz_ge, nz_gt, nz_le, lz_eq, lz_lt, lz_ge, hP1, hP2, hP3, hP4, hP5, hP6, hP7, hP8, hP9, hP10, hP11, hP12, hP13, hP14, hP15, hP16, hP17, hP18, hP19, hP20, a5, a6, a7, r1, r2]
  rcases P908 a1 a2 (xs (i + 1)) (xs (i + 2)) with ⟨r, hr, hw, hc, hm⟩ | ⟨v, G', hB, hc, hm⟩
  · refine ⟨by omega, by omega, wr_2005 _ _ hx hr hw hc ?_⟩
    intro h1 c f
    have b5 : hT h1 0 = 110 := by rw [f.1]; exact a5
    have b6 : hN h1 0 = L := by rw [f.2.1]; exact a6
    have b7 : hI h1 0 = xs := by rw [(f.2.2.2 0 (by omega)).1]; exact a7
    have mm := MI_X f (.inr (Nat.le_refl _)) a2
    have m10 := mm.1.1.1
    simp (disch := omega) only [nI1T, Nat.left_eq_add, Nat.add_eq_left, Nat.add_eq_zero_iff, and_false, false_and, if_false, if_true, opsN, opsC, pm_1, lg, ls1, ls2, lq, List.length_cons, List.length_nil, cN, cL, callE, retV, retN, pm_pop, pm_cat, List.map_cons, List.map_nil, List.sum_cons, List.sum_nil, Value.category, Option.toList, List.cons_append, List.nil_append, ↓reduceIte, reduceCtorEq, Nat.reduceAdd, Nat.reduceLT, Nat.reduceLeDiff, Nat.reduceSub, Nat.reduceEqDiff, Nat.zero_le, Nat.sub_zero, Nat.le_refl, true_and, and_true, not_true_eq_false, not_false_eq_true, true_or, or_true, lc_eq, lc_ne, lc_lt, lc_ge, lc_gt, lc_le, nI_add, lN_add, nI_leI, nI_ltI, nI_eq, nI_clamp, pk_lLT, pk_lLE, pk_lEQ, pk_sub, vp_inT, nz_eq, nz_lt, nz_ge, nz_gt, nz_le, lz_eq, lz_lt, lz_ge, hP1, hP2, hP3, hP4, hP5, hP6, hP7, hP8, hP9, hP10, hP11, hP12, hP13, hP14, hP15, hP16, hP17, hP18, hP19, hP20, b5, b6, b7, r1, r2, m10]
    refine pm_M_succ _ _ _ _ _ _ (hm h1 _ mm ?_)
    intro h2 mm2 g t0
    have m10 := mm2.1.1.1
    have LI2 := LI_2 hx0 hL0 c f mm2 g
    simp (disch := omega) only [nI1T, Nat.left_eq_add, Nat.add_eq_left, Nat.add_eq_zero_iff, and_false, false_and, if_false, if_true, opsN, opsC, pm_1, lg, ls1, ls2, lq, List.length_cons, List.length_nil, cN, cL, callE, retV, retN, pm_pop, pm_cat, List.map_cons, List.map_nil, List.sum_cons, List.sum_nil, Value.category, Option.toList, List.cons_append, List.nil_append, ↓reduceIte, reduceCtorEq, Nat.reduceAdd, Nat.reduceLT, Nat.reduceLeDiff, Nat.reduceSub, Nat.reduceEqDiff, Nat.zero_le, Nat.sub_zero, Nat.le_refl, true_and, and_true, not_true_eq_false, not_false_eq_true, true_or, or_true, lc_eq, lc_ne, lc_lt, lc_ge, lc_gt, lc_le, nI_add, lN_add, nI_leI, nI_ltI, nI_eq, nI_clamp, pk_lLT, pk_lLE, pk_lEQ, pk_sub, vp_inT, nz_eq, nz_lt, nz_ge, nz_gt, nz_le, lz_eq, lz_lt, lz_ge, hP1, hP2, hP3, hP4, hP5, hP6, hP7, hP8, hP9, hP10, hP11, hP12, hP13, hP14, hP15, hP16, hP17, hP18, hP19, hP20, m10]
    rw [q1001 _ m10, t0]
    have wz : ¬ [1, 0, 3, 2].getD r 0 = 0 := by omega
    have wl4 : [1, 0, 3, 2].getD r 0 < 2 ^ 31 := by rcases (show r = 0 ∨ r = 1 ∨ r = 2 ∨ r = 3 by omega) with e | e | e | e <;> subst e <;> decide
    generalize [1, 0, 3, 2].getD r 0 = wn at *
    simp (disch := omega) only [u_2021_678, B_2021_678, u_2021_695, B_2021_695, nI1T, Nat.left_eq_add, Nat.add_eq_left, Nat.add_eq_zero_iff, and_false, false_and, if_false, if_true, opsN, opsC, pm_1, lg, ls1, ls2, lq, List.length_cons, List.length_nil, cN, cL, callE, retV, retN, pm_pop, pm_cat, List.map_cons, List.map_nil, List.sum_cons, List.sum_nil, Value.category, Option.toList, List.cons_append, List.nil_append, ↓reduceIte, reduceCtorEq, Nat.reduceAdd, Nat.reduceLT, Nat.reduceLeDiff, Nat.reduceSub, Nat.reduceEqDiff, Nat.zero_le, Nat.sub_zero, Nat.le_refl, true_and, and_true, not_true_eq_false, not_false_eq_true, true_or, or_true, lc_eq, lc_ne, lc_lt, lc_ge, lc_gt, lc_le, nI_add, lN_add, nI_leI, nI_ltI, nI_eq, nI_clamp, pk_lLT, pk_lLE, pk_lEQ, pk_sub, vp_inT, nz_eq, nz_lt, nz_ge, nz_gt, nz_le, lz_eq, lz_lt, lz_ge, hP1, hP2, hP3, hP4, hP5, hP6, hP7, hP8, hP9, hP10, hP11, hP12, hP13, hP14, hP15, hP16, hP17, hP18, hP19, hP20, wz]
    exact K h2 _ _ _ _ _ _ LI2 (Nat.le_add_right _ _) (by omega) (by omega)
  · refine ⟨by omega, by omega, wd_2005 _ _ hx a3 a4 hc ?_⟩
    intro h1 c f
    have fo : frX (x + 905) (x + 906) h1 (sL h1 (x + 905) (va_up (hL h1 (x + 905)) 0 v.toInt64)) := frX_o (by omega) (by omega)
    have b5 : hT h1 0 = 110 := by rw [f.1]; exact a5
    have b6 : hN h1 0 = L := by rw [f.2.1]; exact a6
    have b7 : hI h1 0 = xs := by rw [(f.2.2.2 0 (by omega)).1]; exact a7
    have mm := MI_X fo (by omega) (MI_X f (.inr (Nat.le_refl _)) a2)
    have c' := CI_X fo (by omega) c
    have m10 : hT h1 (x + 82) = 10 := mm.1.1.1
    have ov : hL (sL h1 (x + 905) (va_up (hL h1 (x + 905)) 0 v.toInt64)) (x + 905) 0 = v.toInt64 := by rw [hP7, va_up_self, va_up_self]
    simp (disch := omega) only [nI1T, Nat.left_eq_add, Nat.add_eq_left, Nat.add_eq_zero_iff, and_false, false_and, if_false, if_true, opsN, opsC, pm_1, lg, ls1, ls2, lq, List.length_cons, List.length_nil, cN, cL, callE, retV, retN, pm_pop, pm_cat, List.map_cons, List.map_nil, List.sum_cons, List.sum_nil, Value.category, Option.toList, List.cons_append, List.nil_append, ↓reduceIte, reduceCtorEq, Nat.reduceAdd, Nat.reduceLT, Nat.reduceLeDiff, Nat.reduceSub, Nat.reduceEqDiff, Nat.zero_le, Nat.sub_zero, Nat.le_refl, true_and, and_true, not_true_eq_false, not_false_eq_true, true_or, or_true, lc_eq, lc_ne, lc_lt, lc_ge, lc_gt, lc_le, nI_add, lN_add, nI_leI, nI_ltI, nI_eq, nI_clamp, pk_lLT, pk_lLE, pk_lEQ, pk_sub, vp_inT, nz_eq, nz_lt, nz_ge, nz_gt, nz_le, lz_eq, lz_lt, lz_ge, hP1, hP2, hP3, hP4, hP5, hP6, hP7, hP8, hP9, hP10, hP11, hP12, hP13, hP14, hP15, hP16, hP17, hP18, hP19, hP20, b5, b6, b7, r1, r2, m10]
    refine pm_M_succ _ _ _ _ _ _ (hm _ _ mm ?_)
    intro h2 mm2 g t0
    have m10 := mm2.1.1.1
    have ov2 : hL h2 (x + 905) 0 = v.toInt64 := by rw [(g.2.2.2 (x + 905) (by omega)).2.1]; exact ov
    have o1 : hT h2 (x + 905) = 101 := by rw [g.1, fo.1, f.1]; exact a3
    have o2 : hN h2 (x + 905) = 1 := by rw [g.2.1, fo.2.1, f.2.1]; exact a4
    have LI2 : LI h2 x L xs G' := by
      refine ⟨CI_X g (by omega) c', mm2, o1, o2, ?_, ?_, ?_⟩
      · rw [g.1, fo.1, f.1]; exact a5
      · rw [g.2.1, fo.2.1, f.2.1]; exact a6
      · rw [(g.2.2.2 0 (by omega)).1, (fo.2.2.2 0 (by omega)).1, (f.2.2.2 0 (by omega)).1]; exact a7
    simp (disch := omega) only [nI1T, Nat.left_eq_add, Nat.add_eq_left, Nat.add_eq_zero_iff, and_false, false_and, if_false, if_true, opsN, opsC, pm_1, lg, ls1, ls2, lq, List.length_cons, List.length_nil, cN, cL, callE, retV, retN, pm_pop, pm_cat, List.map_cons, List.map_nil, List.sum_cons, List.sum_nil, Value.category, Option.toList, List.cons_append, List.nil_append, ↓reduceIte, reduceCtorEq, Nat.reduceAdd, Nat.reduceLT, Nat.reduceLeDiff, Nat.reduceSub, Nat.reduceEqDiff, Nat.zero_le, Nat.sub_zero, Nat.le_refl, true_and, and_true, not_true_eq_false, not_false_eq_true, true_or, or_true, lc_eq, lc_ne, lc_lt, lc_ge, lc_gt, lc_le, nI_add, lN_add, nI_leI, nI_ltI, nI_eq, nI_clamp, pk_lLT, pk_lLE, pk_lEQ, pk_sub, vp_inT, nz_eq, nz_lt, nz_ge, nz_gt, nz_le, lz_eq, lz_lt, lz_ge, hP1, hP2, hP3, hP4, hP5, hP6, hP7, hP8, hP9, hP10, hP11, hP12, hP13, hP14, hP15, hP16, hP17, hP18, hP19, hP20, m10]
    rw [q1001 _ m10, t0]
    simp (disch := omega) only [u_2021_678, B_2021_678, u_2021_695, B_2021_695, nI1T, Nat.left_eq_add, Nat.add_eq_left, Nat.add_eq_zero_iff, and_false, false_and, if_false, if_true, opsN, opsC, pm_1, lg, ls1, ls2, lq, List.length_cons, List.length_nil, cN, cL, callE, retV, retN, pm_pop, pm_cat, List.map_cons, List.map_nil, List.sum_cons, List.sum_nil, Value.category, Option.toList, List.cons_append, List.nil_append, ↓reduceIte, reduceCtorEq, Nat.reduceAdd, Nat.reduceLT, Nat.reduceLeDiff, Nat.reduceSub, Nat.reduceEqDiff, Nat.zero_le, Nat.sub_zero, Nat.le_refl, true_and, and_true, not_true_eq_false, not_false_eq_true, true_or, or_true, lc_eq, lc_ne, lc_lt, lc_ge, lc_gt, lc_le, nI_add, lN_add, nI_leI, nI_ltI, nI_eq, nI_clamp, pk_lLT, pk_lLE, pk_lEQ, pk_sub, vp_inT, nz_eq, nz_lt, nz_ge, nz_gt, nz_le, lz_eq, lz_lt, lz_ge, hP1, hP2, hP3, hP4, hP5, hP6, hP7, hP8, hP9, hP10, hP11, hP12, hP13, hP14, hP15, hP16, hP17, hP18, hP19, hP20, o1, o2, ov2]
    exact K h2 _ _ _ _ _ _ LI2 hB (by omega) (by omega)
theorem tn_698 {l5 l6 l7 : Option Value} (hx0 : 0 < x) (hL0 : LI h x L xs G) (hBB : G.2.2.1 < 2 ^ 29) (hi : i + 6 ≤ L) (hL31 : L < 2 ^ 30) (hbc : 4 ≤ bc) (hbs : 24 ≤ bs)
    (K : ∀ h' G' l5 l6 l7 bc' bs', LI h' x L xs G' → G'.2.2.1 ≤ G.2.2.1 + 300 → bc ≤ bc' + 4 → bs ≤ bs' + 24 → pm_W PP 401 2021 Q bc' bs' 1899 [some (.ref 0), some (.ref x), some (.ref (x + 82)), some (.ref (x + 905)), some (.int (nI i)), l5, l6, l7] [] h') :
    pm_W PP 401 2021 Q bc bs 698 [some (.ref 0), some (.ref x), some (.ref (x + 82)), some (.ref (x + 905)), some (.int (nI i)), l5, l6, l7] [] h := by
  obtain ⟨a1, a2, a3, a4, a5, a6, a7⟩ := id hL0
  have hx := a1.1.1.1
  have r1 : i + 1 < L := by omega
  simp (disch := omega) only [u_2021_698, B_2021_698, nI1T, Nat.left_eq_add, Nat.add_eq_left, Nat.add_eq_zero_iff, and_false, false_and, if_false, if_true, opsN, opsC, pm_1, lg, ls1, ls2, lq, List.length_cons, List.length_nil, cN, cL, callE, retV, retN, pm_pop, pm_cat, List.map_cons, List.map_nil, List.sum_cons, List.sum_nil, Value.category, Option.toList, List.cons_append, List.nil_append, ↓reduceIte, reduceCtorEq, Nat.reduceAdd, Nat.reduceLT, Nat.reduceLeDiff, Nat.reduceSub, Nat.reduceEqDiff, Nat.zero_le, Nat.sub_zero, Nat.le_refl, true_and, and_true, not_true_eq_false, not_false_eq_true, true_or, or_true, lc_eq, lc_ne, lc_lt, lc_ge, lc_gt, lc_le, nI_add, lN_add, nI_leI, nI_ltI, nI_eq, nI_clamp, pk_lLT, pk_lLE, pk_lEQ, pk_sub, vp_inT, nz_eq, nz_lt, nz_ge, nz_gt, nz_le, lz_eq, lz_lt, lz_ge, hP1, hP2, hP3, hP4, hP5, hP6, hP7, hP8, hP9, hP10, hP11, hP12, hP13, hP14, hP15, hP16, hP17, hP18, hP19, hP20, a5, a6, a7, r1]
  rcases P909 a1 a2 (by omega) (xs (i + 1)) with ⟨r, hr, hw, hc, hm⟩ | ⟨v, G', hB, hc, hm⟩
  · refine ⟨by omega, by omega, wr_2006 _ hx hr hw hc ?_⟩
    intro h1 c f
    have b5 : hT h1 0 = 110 := by rw [f.1]; exact a5
    have b6 : hN h1 0 = L := by rw [f.2.1]; exact a6
    have b7 : hI h1 0 = xs := by rw [(f.2.2.2 0 (by omega)).1]; exact a7
    have mm := MI_X f (.inr (Nat.le_refl _)) a2
    have m10 := mm.1.1.1
    simp (disch := omega) only [nI1T, Nat.left_eq_add, Nat.add_eq_left, Nat.add_eq_zero_iff, and_false, false_and, if_false, if_true, opsN, opsC, pm_1, lg, ls1, ls2, lq, List.length_cons, List.length_nil, cN, cL, callE, retV, retN, pm_pop, pm_cat, List.map_cons, List.map_nil, List.sum_cons, List.sum_nil, Value.category, Option.toList, List.cons_append, List.nil_append, ↓reduceIte, reduceCtorEq, Nat.reduceAdd, Nat.reduceLT, Nat.reduceLeDiff, Nat.reduceSub, Nat.reduceEqDiff, Nat.zero_le, Nat.sub_zero, Nat.le_refl, true_and, and_true, not_true_eq_false, not_false_eq_true, true_or, or_true, lc_eq, lc_ne, lc_lt, lc_ge, lc_gt, lc_le, nI_add, lN_add, nI_leI, nI_ltI, nI_eq, nI_clamp, pk_lLT, pk_lLE, pk_lEQ, pk_sub, vp_inT, nz_eq, nz_lt, nz_ge, nz_gt, nz_le, lz_eq, lz_lt, lz_ge, hP1, hP2, hP3, hP4, hP5, hP6, hP7, hP8, hP9, hP10, hP11, hP12, hP13, hP14, hP15, hP16, hP17, hP18, hP19, hP20, b5, b6, b7, r1, m10]
    refine pm_M_succ _ _ _ _ _ _ (hm h1 _ mm ?_)
    intro h2 mm2 g t0
    have m10 := mm2.1.1.1
    have LI2 := LI_2 hx0 hL0 c f mm2 g
    simp (disch := omega) only [nI1T, Nat.left_eq_add, Nat.add_eq_left, Nat.add_eq_zero_iff, and_false, false_and, if_false, if_true, opsN, opsC, pm_1, lg, ls1, ls2, lq, List.length_cons, List.length_nil, cN, cL, callE, retV, retN, pm_pop, pm_cat, List.map_cons, List.map_nil, List.sum_cons, List.sum_nil, Value.category, Option.toList, List.cons_append, List.nil_append, ↓reduceIte, reduceCtorEq, Nat.reduceAdd, Nat.reduceLT, Nat.reduceLeDiff, Nat.reduceSub, Nat.reduceEqDiff, Nat.zero_le, Nat.sub_zero, Nat.le_refl, true_and, and_true, not_true_eq_false, not_false_eq_true, true_or, or_true, lc_eq, lc_ne, lc_lt, lc_ge, lc_gt, lc_le, nI_add, lN_add, nI_leI, nI_ltI, nI_eq, nI_clamp, pk_lLT, pk_lLE, pk_lEQ, pk_sub, vp_inT, nz_eq, nz_lt, nz_ge, nz_gt, nz_le, lz_eq, lz_lt, lz_ge, hP1, hP2, hP3, hP4, hP5, hP6, hP7, hP8, hP9, hP10, hP11, hP12, hP13, hP14, hP15, hP16, hP17, hP18, hP19, hP20, m10]
    rw [q1001 _ m10, t0]
    have wz : ¬ [1, 0, 2, 0].getD r 0 = 0 := by omega
    have wl4 : [1, 0, 2, 0].getD r 0 < 2 ^ 31 := by rcases (show r = 0 ∨ r = 1 ∨ r = 2 ∨ r = 3 by omega) with e | e | e | e <;> subst e <;> decide
    generalize [1, 0, 2, 0].getD r 0 = wn at *
    simp (disch := omega) only [u_2021_734, B_2021_734, u_2021_751, B_2021_751, nI1T, Nat.left_eq_add, Nat.add_eq_left, Nat.add_eq_zero_iff, and_false, false_and, if_false, if_true, opsN, opsC, pm_1, lg, ls1, ls2, lq, List.length_cons, List.length_nil, cN, cL, callE, retV, retN, pm_pop, pm_cat, List.map_cons, List.map_nil, List.sum_cons, List.sum_nil, Value.category, Option.toList, List.cons_append, List.nil_append, ↓reduceIte, reduceCtorEq, Nat.reduceAdd, Nat.reduceLT, Nat.reduceLeDiff, Nat.reduceSub, Nat.reduceEqDiff, Nat.zero_le, Nat.sub_zero, Nat.le_refl, true_and, and_true, not_true_eq_false, not_false_eq_true, true_or, or_true, lc_eq, lc_ne, lc_lt, lc_ge, lc_gt, lc_le, nI_add, lN_add, nI_leI, nI_ltI, nI_eq, nI_clamp, pk_lLT, pk_lLE, pk_lEQ, pk_sub, vp_inT, nz_eq, nz_lt, nz_ge, nz_gt, nz_le, lz_eq, lz_lt, lz_ge, hP1, hP2, hP3, hP4, hP5, hP6, hP7, hP8, hP9, hP10, hP11, hP12, hP13, hP14, hP15, hP16, hP17, hP18, hP19, hP20, wz]
    exact K h2 _ _ _ _ _ _ LI2 (Nat.le_add_right _ _) (by omega) (by omega)
  · refine ⟨by omega, by omega, wd_2006 _ hx a3 a4 hc ?_⟩
    intro h1 c f
    have fo : frX (x + 905) (x + 906) h1 (sL h1 (x + 905) (va_up (hL h1 (x + 905)) 0 v.toInt64)) := frX_o (by omega) (by omega)
    have b5 : hT h1 0 = 110 := by rw [f.1]; exact a5
    have b6 : hN h1 0 = L := by rw [f.2.1]; exact a6
    have b7 : hI h1 0 = xs := by rw [(f.2.2.2 0 (by omega)).1]; exact a7
    have mm := MI_X fo (by omega) (MI_X f (.inr (Nat.le_refl _)) a2)
    have c' := CI_X fo (by omega) c
    have m10 : hT h1 (x + 82) = 10 := mm.1.1.1
    have ov : hL (sL h1 (x + 905) (va_up (hL h1 (x + 905)) 0 v.toInt64)) (x + 905) 0 = v.toInt64 := by rw [hP7, va_up_self, va_up_self]
    simp (disch := omega) only [nI1T, Nat.left_eq_add, Nat.add_eq_left, Nat.add_eq_zero_iff, and_false, false_and, if_false, if_true, opsN, opsC, pm_1, lg, ls1, ls2, lq, List.length_cons, List.length_nil, cN, cL, callE, retV, retN, pm_pop, pm_cat, List.map_cons, List.map_nil, List.sum_cons, List.sum_nil, Value.category, Option.toList, List.cons_append, List.nil_append, ↓reduceIte, reduceCtorEq, Nat.reduceAdd, Nat.reduceLT, Nat.reduceLeDiff, Nat.reduceSub, Nat.reduceEqDiff, Nat.zero_le, Nat.sub_zero, Nat.le_refl, true_and, and_true, not_true_eq_false, not_false_eq_true, true_or, or_true, lc_eq, lc_ne, lc_lt, lc_ge, lc_gt, lc_le, nI_add, lN_add, nI_leI, nI_ltI, nI_eq, nI_clamp, pk_lLT, pk_lLE, pk_lEQ, pk_sub, vp_inT, nz_eq, nz_lt, nz_ge, nz_gt, nz_le, lz_eq, lz_lt, lz_ge, hP1, hP2, hP3, hP4, hP5, hP6, hP7, hP8, hP9, hP10, hP11, hP12, hP13, hP14, hP15, hP16, hP17, hP18, hP19, hP20, b5, b6, b7, r1, m10]
    refine pm_M_succ _ _ _ _ _ _ (hm _ _ mm ?_)
    intro h2 mm2 g t0
    have m10 := mm2.1.1.1
    have ov2 : hL h2 (x + 905) 0 = v.toInt64 := by rw [(g.2.2.2 (x + 905) (by omega)).2.1]; exact ov
    have o1 : hT h2 (x + 905) = 101 := by rw [g.1, fo.1, f.1]; exact a3
    have o2 : hN h2 (x + 905) = 1 := by rw [g.2.1, fo.2.1, f.2.1]; exact a4
    have LI2 : LI h2 x L xs G' := by
      refine ⟨CI_X g (by omega) c', mm2, o1, o2, ?_, ?_, ?_⟩
      · rw [g.1, fo.1, f.1]; exact a5
      · rw [g.2.1, fo.2.1, f.2.1]; exact a6
      · rw [(g.2.2.2 0 (by omega)).1, (fo.2.2.2 0 (by omega)).1, (f.2.2.2 0 (by omega)).1]; exact a7
    simp (disch := omega) only [nI1T, Nat.left_eq_add, Nat.add_eq_left, Nat.add_eq_zero_iff, and_false, false_and, if_false, if_true, opsN, opsC, pm_1, lg, ls1, ls2, lq, List.length_cons, List.length_nil, cN, cL, callE, retV, retN, pm_pop, pm_cat, List.map_cons, List.map_nil, List.sum_cons, List.sum_nil, Value.category, Option.toList, List.cons_append, List.nil_append, ↓reduceIte, reduceCtorEq, Nat.reduceAdd, Nat.reduceLT, Nat.reduceLeDiff, Nat.reduceSub, Nat.reduceEqDiff, Nat.zero_le, Nat.sub_zero, Nat.le_refl, true_and, and_true, not_true_eq_false, not_false_eq_true, true_or, or_true, lc_eq, lc_ne, lc_lt, lc_ge, lc_gt, lc_le, nI_add, lN_add, nI_leI, nI_ltI, nI_eq, nI_clamp, pk_lLT, pk_lLE, pk_lEQ, pk_sub, vp_inT, nz_eq, nz_lt, nz_ge, nz_gt, nz_le, lz_eq, lz_lt, lz_ge, hP1, hP2, hP3, hP4, hP5, hP6, hP7, hP8, hP9, hP10, hP11, hP12, hP13, hP14, hP15, hP16, hP17, hP18, hP19, hP20, m10]
    rw [q1001 _ m10, t0]
    simp (disch := omega) only [u_2021_734, B_2021_734, u_2021_751, B_2021_751, nI1T, Nat.left_eq_add, Nat.add_eq_left, Nat.add_eq_zero_iff, and_false, false_and, if_false, if_true, opsN, opsC, pm_1, lg, ls1, ls2, lq, List.length_cons, List.length_nil, cN, cL, callE, retV, retN, pm_pop, pm_cat, List.map_cons, List.map_nil, List.sum_cons, List.sum_nil, Value.category, Option.toList, List.cons_append, List.nil_append, ↓reduceIte, reduceCtorEq, Nat.reduceAdd, Nat.reduceLT, Nat.reduceLeDiff, Nat.reduceSub, Nat.reduceEqDiff, Nat.zero_le, Nat.sub_zero, Nat.le_refl, true_and, and_true, not_true_eq_false, not_false_eq_true, true_or, or_true, lc_eq, lc_ne, lc_lt, lc_ge, lc_gt, lc_le, nI_add, lN_add, nI_leI, nI_ltI, nI_eq, nI_clamp, pk_lLT, pk_lLE, pk_lEQ, pk_sub, vp_inT, nz_eq, nz_lt, nz_ge, nz_gt, nz_le, lz_eq, lz_lt, lz_ge, hP1, hP2, hP3, hP4, hP5, hP6, hP7, hP8, hP9, hP10, hP11, hP12, hP13, hP14, hP15, hP16, hP17, hP18, hP19, hP20, o1, o2, ov2]
    exact K h2 _ _ _ _ _ _ LI2 hB (by omega) (by omega)
theorem tn_754 {l5 l6 l7 : Option Value} (hx0 : 0 < x) (hL0 : LI h x L xs G) (hBB : G.2.2.1 < 2 ^ 29) (hi : i + 6 ≤ L) (hL31 : L < 2 ^ 30) (hbc : 4 ≤ bc) (hbs : 24 ≤ bs)
    (K : ∀ h' G' l5 l6 l7 bc' bs', LI h' x L xs G' → G'.2.2.1 ≤ G.2.2.1 + 300 → bc ≤ bc' + 4 → bs ≤ bs' + 24 → pm_W PP 401 2021 Q bc' bs' 1899 [some (.ref 0), some (.ref x), some (.ref (x + 82)), some (.ref (x + 905)), some (.int (nI i)), l5, l6, l7] [] h') :
    pm_W PP 401 2021 Q bc bs 754 [some (.ref 0), some (.ref x), some (.ref (x + 82)), some (.ref (x + 905)), some (.int (nI i)), l5, l6, l7] [] h := by
  obtain ⟨a1, a2, a3, a4, a5, a6, a7⟩ := id hL0
  have hx := a1.1.1.1
  have r1 : i + 1 < L := by omega
  simp (disch := omega) only [u_2021_754, B_2021_754, nI1T, Nat.left_eq_add, Nat.add_eq_left, Nat.add_eq_zero_iff, and_false, false_and, if_false, if_true, opsN, opsC, pm_1, lg, ls1, ls2, lq, List.length_cons, List.length_nil, cN, cL, callE, retV, retN, pm_pop, pm_cat, List.map_cons, List.map_nil, List.sum_cons, List.sum_nil, Value.category, Option.toList, List.cons_append, List.nil_append, ↓reduceIte, reduceCtorEq, Nat.reduceAdd, Nat.reduceLT, Nat.reduceLeDiff, Nat.reduceSub, Nat.reduceEqDiff, Nat.zero_le, Nat.sub_zero, Nat.le_refl, true_and, and_true, not_true_eq_false, not_false_eq_true, true_or, or_true, lc_eq, lc_ne, lc_lt, lc_ge, lc_gt, lc_le, nI_add, lN_add, nI_leI, nI_ltI, nI_eq, nI_clamp, pk_lLT, pk_lLE, pk_lEQ, pk_sub, vp_inT, nz_eq, nz_lt, nz_ge, nz_gt, nz_le, lz_eq, lz_lt, lz_ge, hP1, hP2, hP3, hP4, hP5, hP6, hP7, hP8, hP9, hP10, hP11, hP12, hP13, hP14, hP15, hP16, hP17, hP18, hP19, hP20, a5, a6, a7, r1]
  rcases P910 a1 a2 (xs (i + 1)) with ⟨r, hr, hw, hc, hm⟩ | ⟨v, G', hB, hc, hm⟩
  · refine ⟨by omega, by omega, wr_2007 _ hx hr hw hc ?_⟩
    intro h1 c f
    have b5 : hT h1 0 = 110 := by rw [f.1]; exact a5
    have b6 : hN h1 0 = L := by rw [f.2.1]; exact a6
    have b7 : hI h1 0 = xs := by rw [(f.2.2.2 0 (by omega)).1]; exact a7
    have mm := MI_X f (.inr (Nat.le_refl _)) a2
    have m10 := mm.1.1.1
    simp (disch := omega) only [nI1T, Nat.left_eq_add, Nat.add_eq_left, Nat.add_eq_zero_iff, and_false, false_and, if_false, if_true, opsN, opsC, pm_1, lg, ls1, ls2, lq, List.length_cons, List.length_nil, cN, cL, callE, retV, retN, pm_pop, pm_cat, List.map_cons, List.map_nil, List.sum_cons, List.sum_nil, Value.category, Option.toList, List.cons_append, List.nil_append, ↓reduceIte, reduceCtorEq, Nat.reduceAdd, Nat.reduceLT, Nat.reduceLeDiff, Nat.reduceSub, Nat.reduceEqDiff, Nat.zero_le, Nat.sub_zero, Nat.le_refl, true_and, and_true, not_true_eq_false, not_false_eq_true, true_or, or_true, lc_eq, lc_ne, lc_lt, lc_ge, lc_gt, lc_le, nI_add, lN_add, nI_leI, nI_ltI, nI_eq, nI_clamp, pk_lLT, pk_lLE, pk_lEQ, pk_sub, vp_inT, nz_eq, nz_lt, nz_ge, nz_gt, nz_le, lz_eq, lz_lt, lz_ge, hP1, hP2, hP3, hP4, hP5, hP6, hP7, hP8, hP9, hP10, hP11, hP12, hP13, hP14, hP15, hP16, hP17, hP18, hP19, hP20, b5, b6, b7, r1, m10]
    refine pm_M_succ _ _ _ _ _ _ (hm h1 _ mm ?_)
    intro h2 mm2 g t0
    have m10 := mm2.1.1.1
    have LI2 := LI_2 hx0 hL0 c f mm2 g
    simp (disch := omega) only [nI1T, Nat.left_eq_add, Nat.add_eq_left, Nat.add_eq_zero_iff, and_false, false_and, if_false, if_true, opsN, opsC, pm_1, lg, ls1, ls2, lq, List.length_cons, List.length_nil, cN, cL, callE, retV, retN, pm_pop, pm_cat, List.map_cons, List.map_nil, List.sum_cons, List.sum_nil, Value.category, Option.toList, List.cons_append, List.nil_append, ↓reduceIte, reduceCtorEq, Nat.reduceAdd, Nat.reduceLT, Nat.reduceLeDiff, Nat.reduceSub, Nat.reduceEqDiff, Nat.zero_le, Nat.sub_zero, Nat.le_refl, true_and, and_true, not_true_eq_false, not_false_eq_true, true_or, or_true, lc_eq, lc_ne, lc_lt, lc_ge, lc_gt, lc_le, nI_add, lN_add, nI_leI, nI_ltI, nI_eq, nI_clamp, pk_lLT, pk_lLE, pk_lEQ, pk_sub, vp_inT, nz_eq, nz_lt, nz_ge, nz_gt, nz_le, lz_eq, lz_lt, lz_ge, hP1, hP2, hP3, hP4, hP5, hP6, hP7, hP8, hP9, hP10, hP11, hP12, hP13, hP14, hP15, hP16, hP17, hP18, hP19, hP20, m10]
    rw [q1001 _ m10, t0]
    have wz : ¬ [0, 1, 2, 0].getD r 0 = 0 := by omega
    have wl4 : [0, 1, 2, 0].getD r 0 < 2 ^ 31 := by rcases (show r = 0 ∨ r = 1 ∨ r = 2 ∨ r = 3 by omega) with e | e | e | e <;> subst e <;> decide
    generalize [0, 1, 2, 0].getD r 0 = wn at *
    simp (disch := omega) only [u_2021_790, B_2021_790, u_2021_807, B_2021_807, nI1T, Nat.left_eq_add, Nat.add_eq_left, Nat.add_eq_zero_iff, and_false, false_and, if_false, if_true, opsN, opsC, pm_1, lg, ls1, ls2, lq, List.length_cons, List.length_nil, cN, cL, callE, retV, retN, pm_pop, pm_cat, List.map_cons, List.map_nil, List.sum_cons, List.sum_nil, Value.category, Option.toList, List.cons_append, List.nil_append, ↓reduceIte, reduceCtorEq, Nat.reduceAdd, Nat.reduceLT, Nat.reduceLeDiff, Nat.reduceSub, Nat.reduceEqDiff, Nat.zero_le, Nat.sub_zero, Nat.le_refl, true_and, and_true, not_true_eq_false, not_false_eq_true, true_or, or_true, lc_eq, lc_ne, lc_lt, lc_ge, lc_gt, lc_le, nI_add, lN_add, nI_leI, nI_ltI, nI_eq, nI_clamp, pk_lLT, pk_lLE, pk_lEQ, pk_sub, vp_inT, nz_eq, nz_lt, nz_ge, nz_gt, nz_le, lz_eq, lz_lt, lz_ge, hP1, hP2, hP3, hP4, hP5, hP6, hP7, hP8, hP9, hP10, hP11, hP12, hP13, hP14, hP15, hP16, hP17, hP18, hP19, hP20, wz]
    exact K h2 _ _ _ _ _ _ LI2 (Nat.le_add_right _ _) (by omega) (by omega)
  · refine ⟨by omega, by omega, wd_2007 _ hx a3 a4 hc ?_⟩
    intro h1 c f
    have fo : frX (x + 905) (x + 906) h1 (sL h1 (x + 905) (va_up (hL h1 (x + 905)) 0 v.toInt64)) := frX_o (by omega) (by omega)
    have b5 : hT h1 0 = 110 := by rw [f.1]; exact a5
    have b6 : hN h1 0 = L := by rw [f.2.1]; exact a6
    have b7 : hI h1 0 = xs := by rw [(f.2.2.2 0 (by omega)).1]; exact a7
    have mm := MI_X fo (by omega) (MI_X f (.inr (Nat.le_refl _)) a2)
    have c' := CI_X fo (by omega) c
    have m10 : hT h1 (x + 82) = 10 := mm.1.1.1
    have ov : hL (sL h1 (x + 905) (va_up (hL h1 (x + 905)) 0 v.toInt64)) (x + 905) 0 = v.toInt64 := by rw [hP7, va_up_self, va_up_self]
    simp (disch := omega) only [nI1T, Nat.left_eq_add, Nat.add_eq_left, Nat.add_eq_zero_iff, and_false, false_and, if_false, if_true, opsN, opsC, pm_1, lg, ls1, ls2, lq, List.length_cons, List.length_nil, cN, cL, callE, retV, retN, pm_pop, pm_cat, List.map_cons, List.map_nil, List.sum_cons, List.sum_nil, Value.category, Option.toList, List.cons_append, List.nil_append, ↓reduceIte, reduceCtorEq, Nat.reduceAdd, Nat.reduceLT, Nat.reduceLeDiff, Nat.reduceSub, Nat.reduceEqDiff, Nat.zero_le, Nat.sub_zero, Nat.le_refl, true_and, and_true, not_true_eq_false, not_false_eq_true, true_or, or_true, lc_eq, lc_ne, lc_lt, lc_ge, lc_gt, lc_le, nI_add, lN_add, nI_leI, nI_ltI, nI_eq, nI_clamp, pk_lLT, pk_lLE, pk_lEQ, pk_sub, vp_inT, nz_eq, nz_lt, nz_ge, nz_gt, nz_le, lz_eq, lz_lt, lz_ge, hP1, hP2, hP3, hP4, hP5, hP6, hP7, hP8, hP9, hP10, hP11, hP12, hP13, hP14, hP15, hP16, hP17, hP18, hP19, hP20, b5, b6, b7, r1, m10]
    refine pm_M_succ _ _ _ _ _ _ (hm _ _ mm ?_)
    intro h2 mm2 g t0
    have m10 := mm2.1.1.1
    have ov2 : hL h2 (x + 905) 0 = v.toInt64 := by rw [(g.2.2.2 (x + 905) (by omega)).2.1]; exact ov
    have o1 : hT h2 (x + 905) = 101 := by rw [g.1, fo.1, f.1]; exact a3
    have o2 : hN h2 (x + 905) = 1 := by rw [g.2.1, fo.2.1, f.2.1]; exact a4
    have LI2 : LI h2 x L xs G' := by
      refine ⟨CI_X g (by omega) c', mm2, o1, o2, ?_, ?_, ?_⟩
      · rw [g.1, fo.1, f.1]; exact a5
      · rw [g.2.1, fo.2.1, f.2.1]; exact a6
      · rw [(g.2.2.2 0 (by omega)).1, (fo.2.2.2 0 (by omega)).1, (f.2.2.2 0 (by omega)).1]; exact a7
    simp (disch := omega) only [nI1T, Nat.left_eq_add, Nat.add_eq_left, Nat.add_eq_zero_iff, and_false, false_and, if_false, if_true, opsN, opsC, pm_1, lg, ls1, ls2, lq, List.length_cons, List.length_nil, cN, cL, callE, retV, retN, pm_pop, pm_cat, List.map_cons, List.map_nil, List.sum_cons, List.sum_nil, Value.category, Option.toList, List.cons_append, List.nil_append, ↓reduceIte, reduceCtorEq, Nat.reduceAdd, Nat.reduceLT, Nat.reduceLeDiff, Nat.reduceSub, Nat.reduceEqDiff, Nat.zero_le, Nat.sub_zero, Nat.le_refl, true_and, and_true, not_true_eq_false, not_false_eq_true, true_or, or_true, lc_eq, lc_ne, lc_lt, lc_ge, lc_gt, lc_le, nI_add, lN_add, nI_leI, nI_ltI, nI_eq, nI_clamp, pk_lLT, pk_lLE, pk_lEQ, pk_sub, vp_inT, nz_eq, nz_lt, nz_ge, nz_gt, nz_le, lz_eq, lz_lt, lz_ge, hP1, hP2, hP3, hP4, hP5, hP6, hP7, hP8, hP9, hP10, hP11, hP12, hP13, hP14, hP15, hP16, hP17, hP18, hP19, hP20, m10]
    rw [q1001 _ m10, t0]
    simp (disch := omega) only [u_2021_790, B_2021_790, u_2021_807, B_2021_807, nI1T, Nat.left_eq_add, Nat.add_eq_left, Nat.add_eq_zero_iff, and_false, false_and, if_false, if_true, opsN, opsC, pm_1, lg, ls1, ls2, lq, List.length_cons, List.length_nil, cN, cL, callE, retV, retN, pm_pop, pm_cat, List.map_cons, List.map_nil, List.sum_cons, List.sum_nil, Value.category, Option.toList, List.cons_append, List.nil_append, ↓reduceIte, reduceCtorEq, Nat.reduceAdd, Nat.reduceLT, Nat.reduceLeDiff, Nat.reduceSub, Nat.reduceEqDiff, Nat.zero_le, Nat.sub_zero, Nat.le_refl, true_and, and_true, not_true_eq_false, not_false_eq_true, true_or, or_true, lc_eq, lc_ne, lc_lt, lc_ge, lc_gt, lc_le, nI_add, lN_add, nI_leI, nI_ltI, nI_eq, nI_clamp, pk_lLT, pk_lLE, pk_lEQ, pk_sub, vp_inT, nz_eq, nz_lt, nz_ge, nz_gt, nz_le, lz_eq, lz_lt, lz_ge, hP1, hP2, hP3, hP4, hP5, hP6, hP7, hP8, hP9, hP10, hP11, hP12, hP13, hP14, hP15, hP16, hP17, hP18, hP19, hP20, o1, o2, ov2]
    exact K h2 _ _ _ _ _ _ LI2 hB (by omega) (by omega)
theorem tn_810 {l5 l6 l7 : Option Value} (hx0 : 0 < x) (hL0 : LI h x L xs G) (hBB : G.2.2.1 < 2 ^ 29) (hi : i + 6 ≤ L) (hL31 : L < 2 ^ 30) (hbc : 4 ≤ bc) (hbs : 24 ≤ bs)
    (K : ∀ h' G' l5 l6 l7 bc' bs', LI h' x L xs G' → G'.2.2.1 ≤ G.2.2.1 + 300 → bc ≤ bc' + 4 → bs ≤ bs' + 24 → pm_W PP 401 2021 Q bc' bs' 1899 [some (.ref 0), some (.ref x), some (.ref (x + 82)), some (.ref (x + 905)), some (.int (nI i)), l5, l6, l7] [] h') :
    pm_W PP 401 2021 Q bc bs 810 [some (.ref 0), some (.ref x), some (.ref (x + 82)), some (.ref (x + 905)), some (.int (nI i)), l5, l6, l7] [] h := by
  obtain ⟨a1, a2, a3, a4, a5, a6, a7⟩ := id hL0
  have hx := a1.1.1.1
  have r1 : i + 1 < L := by omega
  simp (disch := omega) only [u_2021_810, B_2021_810, nI1T, Nat.left_eq_add, Nat.add_eq_left, Nat.add_eq_zero_iff, and_false, false_and, if_false, if_true, opsN, opsC, pm_1, lg, ls1, ls2, lq, List.length_cons, List.length_nil, cN, cL, callE, retV, retN, pm_pop, pm_cat, List.map_cons, List.map_nil, List.sum_cons, List.sum_nil, Value.category, Option.toList, List.cons_append, List.nil_append, ↓reduceIte, reduceCtorEq, Nat.reduceAdd, Nat.reduceLT, Nat.reduceLeDiff, Nat.reduceSub, Nat.reduceEqDiff, Nat.zero_le, Nat.sub_zero, Nat.le_refl, true_and, and_true, not_true_eq_false, not_false_eq_true, true_or, or_true, lc_eq, lc_ne, lc_lt, lc_ge, lc_gt, lc_le, nI_add, lN_add, nI_leI, nI_ltI, nI_eq, nI_clamp, pk_lLT, pk_lLE, pk_lEQ, pk_sub, vp_inT, nz_eq, nz_lt, nz_ge, nz_gt, nz_le, lz_eq, lz_lt, lz_ge, hP1, hP2, hP3, hP4, hP5, hP6, hP7, hP8, hP9, hP10, hP11, hP12, hP13, hP14, hP15, hP16, hP17, hP18, hP19, hP20, a5, a6, a7, r1]
  rcases P911 a1 a2 (xs (i + 1)) with ⟨r, hr, hw, hc, hm⟩ | ⟨v, G', hB, hc, hm⟩
  · refine ⟨by omega, by omega, wr_2008 _ hx hr hw hc ?_⟩
    intro h1 c f
    have b5 : hT h1 0 = 110 := by rw [f.1]; exact a5
    have b6 : hN h1 0 = L := by rw [f.2.1]; exact a6
    have b7 : hI h1 0 = xs := by rw [(f.2.2.2 0 (by omega)).1]; exact a7
    have mm := MI_X f (.inr (Nat.le_refl _)) a2
    have m10 := mm.1.1.1
    simp (disch := omega) only [nI1T, Nat.left_eq_add, Nat.add_eq_left, Nat.add_eq_zero_iff, and_false, false_and, if_false, if_true, opsN, opsC, pm_1, lg, ls1, ls2, lq, List.length_cons, List.length_nil, cN, cL, callE, retV, retN, pm_pop, pm_cat, List.map_cons, List.map_nil, List.sum_cons, List.sum_nil, Value.category, Option.toList, List.cons_append, List.nil_append, ↓reduceIte, reduceCtorEq, Nat.reduceAdd, Nat.reduceLT, Nat.reduceLeDiff, Nat.reduceSub, Nat.reduceEqDiff, Nat.zero_le, Nat.sub_zero, Nat.le_refl, true_and, and_true, not_true_eq_false, not_false_eq_true, true_or, or_true, lc_eq, lc_ne, lc_lt, lc_ge, lc_gt, lc_le, nI_add, lN_add, nI_leI, nI_ltI, nI_eq, nI_clamp, pk_lLT, pk_lLE, pk_lEQ, pk_sub, vp_inT, nz_eq, nz_lt, nz_ge, nz_gt, nz_le, lz_eq, lz_lt, lz_ge, hP1, hP2, hP3, hP4, hP5, hP6, hP7, hP8, hP9, hP10, hP11, hP12, hP13, hP14, hP15, hP16, hP17, hP18, hP19, hP20, b5, b6, b7, r1, m10]
    refine pm_M_succ _ _ _ _ _ _ (hm h1 _ mm ?_)
    intro h2 mm2 g t0
    have m10 := mm2.1.1.1
    have LI2 := LI_2 hx0 hL0 c f mm2 g
    simp (disch := omega) only [nI1T, Nat.left_eq_add, Nat.add_eq_left, Nat.add_eq_zero_iff, and_false, false_and, if_false, if_true, opsN, opsC, pm_1, lg, ls1, ls2, lq, List.length_cons, List.length_nil, cN, cL, callE, retV, retN, pm_pop, pm_cat, List.map_cons, List.map_nil, List.sum_cons, List.sum_nil, Value.category, Option.toList, List.cons_append, List.nil_append, ↓reduceIte, reduceCtorEq, Nat.reduceAdd, Nat.reduceLT, Nat.reduceLeDiff, Nat.reduceSub, Nat.reduceEqDiff, Nat.zero_le, Nat.sub_zero, Nat.le_refl, true_and, and_true, not_true_eq_false, not_false_eq_true, true_or, or_true, lc_eq, lc_ne, lc_lt, lc_ge, lc_gt, lc_le, nI_add, lN_add, nI_leI, nI_ltI, nI_eq, nI_clamp, pk_lLT, pk_lLE, pk_lEQ, pk_sub, vp_inT, nz_eq, nz_lt, nz_ge, nz_gt, nz_le, lz_eq, lz_lt, lz_ge, hP1, hP2, hP3, hP4, hP5, hP6, hP7, hP8, hP9, hP10, hP11, hP12, hP13, hP14, hP15, hP16, hP17, hP18, hP19, hP20, m10]
    rw [q1001 _ m10, t0]
    have wz : ¬ [1, 0, 0, 0].getD r 0 = 0 := by omega
    have wl4 : [1, 0, 0, 0].getD r 0 < 2 ^ 31 := by rcases (show r = 0 ∨ r = 1 ∨ r = 2 ∨ r = 3 by omega) with e | e | e | e <;> subst e <;> decide
    generalize [1, 0, 0, 0].getD r 0 = wn at *
    simp (disch := omega) only [u_2021_846, B_2021_846, u_2021_863, B_2021_863, nI1T, Nat.left_eq_add, Nat.add_eq_left, Nat.add_eq_zero_iff, and_false, false_and, if_false, if_true, opsN, opsC, pm_1, lg, ls1, ls2, lq, List.length_cons, List.length_nil, cN, cL, callE, retV, retN, pm_pop, pm_cat, List.map_cons, List.map_nil, List.sum_cons, List.sum_nil, Value.category, Option.toList, List.cons_append, List.nil_append, ↓reduceIte, reduceCtorEq, Nat.reduceAdd, Nat.reduceLT, Nat.reduceLeDiff, Nat.reduceSub, Nat.reduceEqDiff, Nat.zero_le, Nat.sub_zero, Nat.le_refl, true_and, and_true, not_true_eq_false, not_false_eq_true, true_or, or_true, lc_eq, lc_ne, lc_lt, lc_ge, lc_gt, lc_le, nI_add, lN_add, nI_leI, nI_ltI, nI_eq, nI_clamp, pk_lLT, pk_lLE, pk_lEQ, pk_sub, vp_inT, nz_eq, nz_lt, nz_ge, nz_gt, nz_le, lz_eq, lz_lt, lz_ge, hP1, hP2, hP3, hP4, hP5, hP6, hP7, hP8, hP9, hP10, hP11, hP12, hP13, hP14, hP15, hP16, hP17, hP18, hP19, hP20, wz]
    exact K h2 _ _ _ _ _ _ LI2 (Nat.le_add_right _ _) (by omega) (by omega)
  · refine ⟨by omega, by omega, wd_2008 _ hx a3 a4 hc ?_⟩
    intro h1 c f
    have fo : frX (x + 905) (x + 906) h1 (sL h1 (x + 905) (va_up (hL h1 (x + 905)) 0 v.toInt64)) := frX_o (by omega) (by omega)
    have b5 : hT h1 0 = 110 := by rw [f.1]; exact a5
    have b6 : hN h1 0 = L := by rw [f.2.1]; exact a6
    have b7 : hI h1 0 = xs := by rw [(f.2.2.2 0 (by omega)).1]; exact a7
    have mm := MI_X fo (by omega) (MI_X f (.inr (Nat.le_refl _)) a2)
    have c' := CI_X fo (by omega) c
    have m10 : hT h1 (x + 82) = 10 := mm.1.1.1
    have ov : hL (sL h1 (x + 905) (va_up (hL h1 (x + 905)) 0 v.toInt64)) (x + 905) 0 = v.toInt64 := by rw [hP7, va_up_self, va_up_self]
    simp (disch := omega) only [nI1T, Nat.left_eq_add, Nat.add_eq_left, Nat.add_eq_zero_iff, and_false, false_and, if_false, if_true, opsN, opsC, pm_1, lg, ls1, ls2, lq, List.length_cons, List.length_nil, cN, cL, callE, retV, retN, pm_pop, pm_cat, List.map_cons, List.map_nil, List.sum_cons, List.sum_nil, Value.category, Option.toList, List.cons_append, List.nil_append, ↓reduceIte, reduceCtorEq, Nat.reduceAdd, Nat.reduceLT, Nat.reduceLeDiff, Nat.reduceSub, Nat.reduceEqDiff, Nat.zero_le, Nat.sub_zero, Nat.le_refl, true_and, and_true, not_true_eq_false, not_false_eq_true, true_or, or_true, lc_eq, lc_ne, lc_lt, lc_ge, lc_gt, lc_le, nI_add, lN_add, nI_leI, nI_ltI, nI_eq, nI_clamp, pk_lLT, pk_lLE, pk_lEQ, pk_sub, vp_inT, nz_eq, nz_lt, nz_ge, nz_gt, nz_le, lz_eq, lz_lt, lz_ge, hP1, hP2, hP3, hP4, hP5, hP6, hP7, hP8, hP9, hP10, hP11, hP12, hP13, hP14, hP15, hP16, hP17, hP18, hP19, hP20, b5, b6, b7, r1, m10]
    refine pm_M_succ _ _ _ _ _ _ (hm _ _ mm ?_)
    intro h2 mm2 g t0
    have m10 := mm2.1.1.1
    have ov2 : hL h2 (x + 905) 0 = v.toInt64 := by rw [(g.2.2.2 (x + 905) (by omega)).2.1]; exact ov
    have o1 : hT h2 (x + 905) = 101 := by rw [g.1, fo.1, f.1]; exact a3
    have o2 : hN h2 (x + 905) = 1 := by rw [g.2.1, fo.2.1, f.2.1]; exact a4
    have LI2 : LI h2 x L xs G' := by
      refine ⟨CI_X g (by omega) c', mm2, o1, o2, ?_, ?_, ?_⟩
      · rw [g.1, fo.1, f.1]; exact a5
      · rw [g.2.1, fo.2.1, f.2.1]; exact a6
      · rw [(g.2.2.2 0 (by omega)).1, (fo.2.2.2 0 (by omega)).1, (f.2.2.2 0 (by omega)).1]; exact a7
    simp (disch := omega) only [nI1T, Nat.left_eq_add, Nat.add_eq_left, Nat.add_eq_zero_iff, and_false, false_and, if_false, if_true, opsN, opsC, pm_1, lg, ls1, ls2, lq, List.length_cons, List.length_nil, cN, cL, callE, retV, retN, pm_pop, pm_cat, List.map_cons, List.map_nil, List.sum_cons, List.sum_nil, Value.category, Option.toList, List.cons_append, List.nil_append, ↓reduceIte, reduceCtorEq, Nat.reduceAdd, Nat.reduceLT, Nat.reduceLeDiff, Nat.reduceSub, Nat.reduceEqDiff, Nat.zero_le, Nat.sub_zero, Nat.le_refl, true_and, and_true, not_true_eq_false, not_false_eq_true, true_or, or_true, lc_eq, lc_ne, lc_lt, lc_ge, lc_gt, lc_le, nI_add, lN_add, nI_leI, nI_ltI, nI_eq, nI_clamp, pk_lLT, pk_lLE, pk_lEQ, pk_sub, vp_inT, nz_eq, nz_lt, nz_ge, nz_gt, nz_le, lz_eq, lz_lt, lz_ge, hP1, hP2, hP3, hP4, hP5, hP6, hP7, hP8, hP9, hP10, hP11, hP12, hP13, hP14, hP15, hP16, hP17, hP18, hP19, hP20, m10]
    rw [q1001 _ m10, t0]
    simp (disch := omega) only [u_2021_846, B_2021_846, u_2021_863, B_2021_863, nI1T, Nat.left_eq_add, Nat.add_eq_left, Nat.add_eq_zero_iff, and_false, false_and, if_false, if_true, opsN, opsC, pm_1, lg, ls1, ls2, lq, List.length_cons, List.length_nil, cN, cL, callE, retV, retN, pm_pop, pm_cat, List.map_cons, List.map_nil, List.sum_cons, List.sum_nil, Value.category, Option.toList, List.cons_append, List.nil_append, ↓reduceIte, reduceCtorEq, Nat.reduceAdd, Nat.reduceLT, Nat.reduceLeDiff, Nat.reduceSub, Nat.reduceEqDiff, Nat.zero_le, Nat.sub_zero, Nat.le_refl, true_and, and_true, not_true_eq_false, not_false_eq_true, true_or, or_true, lc_eq, lc_ne, lc_lt, lc_ge, lc_gt, lc_le, nI_add, lN_add, nI_leI, nI_ltI, nI_eq, nI_clamp, pk_lLT, pk_lLE, pk_lEQ, pk_sub, vp_inT, nz_eq, nz_lt, nz_ge, nz_gt, nz_le, lz_eq, lz_lt, lz_ge, hP1, hP2, hP3, hP4, hP5, hP6, hP7, hP8, hP9, hP10, hP11, hP12, hP13, hP14, hP15, hP16, hP17, hP18, hP19, hP20, o1, o2, ov2]
    exact K h2 _ _ _ _ _ _ LI2 hB (by omega) (by omega)
theorem tn_879 {l5 l6 l7 : Option Value} (hx0 : 0 < x) (hL0 : LI h x L xs G) (hBB : G.2.2.1 < 2 ^ 29) (hi : i + 6 ≤ L) (hL31 : L < 2 ^ 30) (hbc : 4 ≤ bc) (hbs : 24 ≤ bs)
    (K : ∀ h' G' l5 l6 l7 bc' bs', LI h' x L xs G' → G'.2.2.1 ≤ G.2.2.1 + 300 → bc ≤ bc' + 4 → bs ≤ bs' + 24 → pm_W PP 401 2021 Q bc' bs' 1899 [some (.ref 0), some (.ref x), some (.ref (x + 82)), some (.ref (x + 905)), some (.int (nI i)), l5, l6, l7] [] h') :
    pm_W PP 401 2021 Q bc bs 879 [some (.ref 0), some (.ref x), some (.ref (x + 82)), some (.ref (x + 905)), some (.int (nI i)), l5, l6, l7] [] h := by
  obtain ⟨a1, a2, a3, a4, a5, a6, a7⟩ := id hL0
  have hx := a1.1.1.1
  have r1 : i + 1 < L := by omega
  simp (disch := omega) only [u_2021_879, B_2021_879, nI1T, Nat.left_eq_add, Nat.add_eq_left, Nat.add_eq_zero_iff, and_false, false_and, if_false, if_true, opsN, opsC, pm_1, lg, ls1, ls2, lq, List.length_cons, List.length_nil, cN, cL, callE, retV, retN, pm_pop, pm_cat, List.map_cons, List.map_nil, List.sum_cons, List.sum_nil, Value.category, Option.toList, List.cons_append, List.nil_append, ↓reduceIte, reduceCtorEq, Nat.reduceAdd, Nat.reduceLT, Nat.reduceLeDiff, Nat.reduceSub, Nat.reduceEqDiff, Nat.zero_le, Nat.sub_zero, Nat.le_refl, true_and, and_true, not_true_eq_false, not_false_eq_true, true_or, or_true, lc_eq, lc_ne, lc_lt, lc_ge, lc_gt, lc_le, nI_add, lN_add, nI_leI, nI_ltI, nI_eq, nI_clamp, pk_lLT, pk_lLE, pk_lEQ, pk_sub, vp_inT, nz_eq, nz_lt, nz_ge, nz_gt, nz_le, lz_eq, lz_lt, lz_ge, hP1, hP2, hP3, hP4, hP5, hP6, hP7, hP8, hP9, hP10, hP11, hP12, hP13, hP14, hP15, hP16, hP17, hP18, hP19, hP20, a5, a6, a7, r1]
  rcases P913 a1 a2 (xs (i + 1)) with ⟨r, hr, hw, hc, hm⟩ | ⟨v, G', hB, hc, hm⟩
  · refine ⟨by omega, by omega, wr_2009 _ hx hr hw hc ?_⟩
    intro h1 c f
    have b5 : hT h1 0 = 110 := by rw [f.1]; exact a5
    have b6 : hN h1 0 = L := by rw [f.2.1]; exact a6
    have b7 : hI h1 0 = xs := by rw [(f.2.2.2 0 (by omega)).1]; exact a7
    have mm := MI_X f (.inr (Nat.le_refl _)) a2
    have m10 := mm.1.1.1
    simp (disch := omega) only [nI1T, Nat.left_eq_add, Nat.add_eq_left, Nat.add_eq_zero_iff, and_false, false_and, if_false, if_true, opsN, opsC, pm_1, lg, ls1, ls2, lq, List.length_cons, List.length_nil, cN, cL, callE, retV, retN, pm_pop, pm_cat, List.map_cons, List.map_nil, List.sum_cons, List.sum_nil, Value.category, Option.toList, List.cons_append, List.nil_append, ↓reduceIte, reduceCtorEq, Nat.reduceAdd, Nat.reduceLT, Nat.reduceLeDiff, Nat.reduceSub, Nat.reduceEqDiff, Nat.zero_le, Nat.sub_zero, Nat.le_refl, true_and, and_true, not_true_eq_false, not_false_eq_true, true_or, or_true, lc_eq, lc_ne, lc_lt, lc_ge, lc_gt, lc_le, nI_add, lN_add, nI_leI, nI_ltI, nI_eq, nI_clamp, pk_lLT, pk_lLE, pk_lEQ, pk_sub, vp_inT, nz_eq, nz_lt, nz_ge, nz_gt, nz_le, lz_eq, lz_lt, lz_ge, hP1, hP2, hP3, hP4, hP5, hP6, hP7, hP8, hP9, hP10, hP11, hP12, hP13, hP14, hP15, hP16, hP17, hP18, hP19, hP20, b5, b6, b7, r1, m10]
    refine pm_M_succ _ _ _ _ _ _ (hm h1 _ mm ?_)
    intro h2 mm2 g t0
    have m10 := mm2.1.1.1
    have LI2 := LI_2 hx0 hL0 c f mm2 g
    simp (disch := omega) only [nI1T, Nat.left_eq_add, Nat.add_eq_left, Nat.add_eq_zero_iff, and_false, false_and, if_false, if_true, opsN, opsC, pm_1, lg, ls1, ls2, lq, List.length_cons, List.length_nil, cN, cL, callE, retV, retN, pm_pop, pm_cat, List.map_cons, List.map_nil, List.sum_cons, List.sum_nil, Value.category, Option.toList, List.cons_append, List.nil_append, ↓reduceIte, reduceCtorEq, Nat.reduceAdd, Nat.reduceLT, Nat.reduceLeDiff, Nat.reduceSub, Nat.reduceEqDiff, Nat.zero_le, Nat.sub_zero, Nat.le_refl, true_and, and_true, not_true_eq_false, not_false_eq_true, true_or, or_true, lc_eq, lc_ne, lc_lt, lc_ge, lc_gt, lc_le, nI_add, lN_add, nI_leI, nI_ltI, nI_eq, nI_clamp, pk_lLT, pk_lLE, pk_lEQ, pk_sub, vp_inT, nz_eq, nz_lt, nz_ge, nz_gt, nz_le, lz_eq, lz_lt, lz_ge, hP1, hP2, hP3, hP4, hP5, hP6, hP7, hP8, hP9, hP10, hP11, hP12, hP13, hP14, hP15, hP16, hP17, hP18, hP19, hP20, m10]
    rw [q1001 _ m10, t0]
    have wz : ¬ [0, 1, 0, 0].getD r 0 = 0 := by omega
    have wl4 : [0, 1, 0, 0].getD r 0 < 2 ^ 31 := by rcases (show r = 0 ∨ r = 1 ∨ r = 2 ∨ r = 3 by omega) with e | e | e | e <;> subst e <;> decide
    generalize [0, 1, 0, 0].getD r 0 = wn at *
    simp (disch := omega) only [u_2021_915, B_2021_915, u_2021_932, B_2021_932, nI1T, Nat.left_eq_add, Nat.add_eq_left, Nat.add_eq_zero_iff, and_false, false_and, if_false, if_true, opsN, opsC, pm_1, lg, ls1, ls2, lq, List.length_cons, List.length_nil, cN, cL, callE, retV, retN, pm_pop, pm_cat, List.map_cons, List.map_nil, List.sum_cons, List.sum_nil, Value.category, Option.toList, List.cons_append, List.nil_append, ↓reduceIte, reduceCtorEq, Nat.reduceAdd, Nat.reduceLT, Nat.reduceLeDiff, Nat.reduceSub, Nat.reduceEqDiff, Nat.zero_le, Nat.sub_zero, Nat.le_refl, true_and, and_true, not_true_eq_false, not_false_eq_true, true_or, or_true, lc_eq, lc_ne, lc_lt, lc_ge, lc_gt, lc_le, nI_add, lN_add, nI_leI, nI_ltI, nI_eq, nI_clamp, pk_lLT, pk_lLE, pk_lEQ, pk_sub, vp_inT, nz_eq, nz_lt, nz_ge, nz_gt, nz_le, lz_eq, lz_lt, lz_ge, hP1, hP2, hP3, hP4, hP5, hP6, hP7, hP8, hP9, hP10, hP11, hP12, hP13, hP14, hP15, hP16, hP17, hP18, hP19, hP20, wz]
    exact K h2 _ _ _ _ _ _ LI2 (Nat.le_add_right _ _) (by omega) (by omega)
  · refine ⟨by omega, by omega, wd_2009 _ hx a3 a4 hc ?_⟩
    intro h1 c f
    have fo : frX (x + 905) (x + 906) h1 (sL h1 (x + 905) (va_up (hL h1 (x + 905)) 0 v.toInt64)) := frX_o (by omega) (by omega)
    have b5 : hT h1 0 = 110 := by rw [f.1]; exact a5
    have b6 : hN h1 0 = L := by rw [f.2.1]; exact a6
    have b7 : hI h1 0 = xs := by rw [(f.2.2.2 0 (by omega)).1]; exact a7
    have mm := MI_X fo (by omega) (MI_X f (.inr (Nat.le_refl _)) a2)
    have c' := CI_X fo (by omega) c
    have m10 : hT h1 (x + 82) = 10 := mm.1.1.1
    have ov : hL (sL h1 (x + 905) (va_up (hL h1 (x + 905)) 0 v.toInt64)) (x + 905) 0 = v.toInt64 := by rw [hP7, va_up_self, va_up_self]
    simp (disch := omega) only [nI1T, Nat.left_eq_add, Nat.add_eq_left, Nat.add_eq_zero_iff, and_false, false_and, if_false, if_true, opsN, opsC, pm_1, lg, ls1, ls2, lq, List.length_cons, List.length_nil, cN, cL, callE, retV, retN, pm_pop, pm_cat, List.map_cons, List.map_nil, List.sum_cons, List.sum_nil, Value.category, Option.toList, List.cons_append, List.nil_append, ↓reduceIte, reduceCtorEq, Nat.reduceAdd, Nat.reduceLT, Nat.reduceLeDiff, Nat.reduceSub, Nat.reduceEqDiff, Nat.zero_le, Nat.sub_zero, Nat.le_refl, true_and, and_true, not_true_eq_false, not_false_eq_true, true_or, or_true, lc_eq, lc_ne, lc_lt, lc_ge, lc_gt, lc_le, nI_add, lN_add, nI_leI, nI_ltI, nI_eq, nI_clamp, pk_lLT, pk_lLE, pk_lEQ, pk_sub, vp_inT, nz_eq, nz_lt, nz_ge, nz_gt, nz_le, lz_eq, lz_lt, lz_ge, hP1, hP2, hP3, hP4, hP5, hP6, hP7, hP8, hP9, hP10, hP11, hP12, hP13, hP14, hP15, hP16, hP17, hP18, hP19, hP20, b5, b6, b7, r1, m10]
    refine pm_M_succ _ _ _ _ _ _ (hm _ _ mm ?_)
    intro h2 mm2 g t0
    have m10 := mm2.1.1.1
    have ov2 : hL h2 (x + 905) 0 = v.toInt64 := by rw [(g.2.2.2 (x + 905) (by omega)).2.1]; exact ov
    have o1 : hT h2 (x + 905) = 101 := by rw [g.1, fo.1, f.1]; exact a3
    have o2 : hN h2 (x + 905) = 1 := by rw [g.2.1, fo.2.1, f.2.1]; exact a4
    have LI2 : LI h2 x L xs G' := by
      refine ⟨CI_X g (by omega) c', mm2, o1, o2, ?_, ?_, ?_⟩
      · rw [g.1, fo.1, f.1]; exact a5
      · rw [g.2.1, fo.2.1, f.2.1]; exact a6
      · rw [(g.2.2.2 0 (by omega)).1, (fo.2.2.2 0 (by omega)).1, (f.2.2.2 0 (by omega)).1]; exact a7
    simp (disch := omega) only [nI1T, Nat.left_eq_add, Nat.add_eq_left, Nat.add_eq_zero_iff, and_false, false_and, if_false, if_true, opsN, opsC, pm_1, lg, ls1, ls2, lq, List.length_cons, List.length_nil, cN, cL, callE, retV, retN, pm_pop, pm_cat, List.map_cons, List.map_nil, List.sum_cons, List.sum_nil, Value.category, Option.toList, List.cons_append, List.nil_append, ↓reduceIte, reduceCtorEq, Nat.reduceAdd, Nat.reduceLT, Nat.reduceLeDiff, Nat.reduceSub, Nat.reduceEqDiff, Nat.zero_le, Nat.sub_zero, Nat.le_refl, true_and, and_true, not_true_eq_false, not_false_eq_true, true_or, or_true, lc_eq, lc_ne, lc_lt, lc_ge, lc_gt, lc_le, nI_add, lN_add, nI_leI, nI_ltI, nI_eq, nI_clamp, pk_lLT, pk_lLE, pk_lEQ, pk_sub, vp_inT, nz_eq, nz_lt, nz_ge, nz_gt, nz_le, lz_eq, lz_lt, lz_ge, hP1, hP2, hP3, hP4, hP5, hP6, hP7, hP8, hP9, hP10, hP11, hP12, hP13, hP14, hP15, hP16, hP17, hP18, hP19, hP20, m10]
    rw [q1001 _ m10, t0]
    simp (disch := omega) only [u_2021_915, B_2021_915, u_2021_932, B_2021_932, nI1T, Nat.left_eq_add, Nat.add_eq_left, Nat.add_eq_zero_iff, and_false, false_and, if_false, if_true, opsN, opsC, pm_1, lg, ls1, ls2, lq, List.length_cons, List.length_nil, cN, cL, callE, retV, retN, pm_pop, pm_cat, List.map_cons, List.map_nil, List.sum_cons, List.sum_nil, Value.category, Option.toList, List.cons_append, List.nil_append, ↓reduceIte, reduceCtorEq, Nat.reduceAdd, Nat.reduceLT, Nat.reduceLeDiff, Nat.reduceSub, Nat.reduceEqDiff, Nat.zero_le, Nat.sub_zero, Nat.le_refl, true_and, and_true, not_true_eq_false, not_false_eq_true, true_or, or_true, lc_eq, lc_ne, lc_lt, lc_ge, lc_gt, lc_le, nI_add, lN_add, nI_leI, nI_ltI, nI_eq, nI_clamp, pk_lLT, pk_lLE, pk_lEQ, pk_sub, vp_inT, nz_eq, nz_lt, nz_ge, nz_gt, nz_le, lz_eq, lz_lt, lz_ge, hP1, hP2, hP3, hP4, hP5, hP6, hP7, hP8, hP9, hP10, hP11, hP12, hP13, hP14, hP15, hP16, hP17, hP18, hP19, hP20, o1, o2, ov2]
    exact K h2 _ _ _ _ _ _ LI2 hB (by omega) (by omega)
theorem tn_935 {l5 l6 l7 : Option Value} (hx0 : 0 < x) (hL0 : LI h x L xs G) (hBB : G.2.2.1 < 2 ^ 29) (hi : i + 6 ≤ L) (hL31 : L < 2 ^ 30) (hbc : 4 ≤ bc) (hbs : 24 ≤ bs)
    (K : ∀ h' G' l5 l6 l7 bc' bs', LI h' x L xs G' → G'.2.2.1 ≤ G.2.2.1 + 300 → bc ≤ bc' + 4 → bs ≤ bs' + 24 → pm_W PP 401 2021 Q bc' bs' 1899 [some (.ref 0), some (.ref x), some (.ref (x + 82)), some (.ref (x + 905)), some (.int (nI i)), l5, l6, l7] [] h') :
    pm_W PP 401 2021 Q bc bs 935 [some (.ref 0), some (.ref x), some (.ref (x + 82)), some (.ref (x + 905)), some (.int (nI i)), l5, l6, l7] [] h := by
  obtain ⟨a1, a2, a3, a4, a5, a6, a7⟩ := id hL0
  have hx := a1.1.1.1
  have r1 : i + 1 < L := by omega
  have r2 : i + 2 < L := by omega
  simp (disch := omega) only [u_2021_935, B_2021_935, nI1T, Nat.left_eq_add, Nat.add_eq_left, Nat.add_eq_zero_iff, and_false, false_and, if_false, if_true, opsN, opsC, pm_1, lg, ls1, ls2, lq, List.length_cons, List.length_nil, cN, cL, callE, retV, retN, pm_pop, pm_cat, List.map_cons, List.map_nil, List.sum_cons, List.sum_nil, Value.category, Option.toList, List.cons_append, List.nil_append, ↓reduceIte, reduceCtorEq, Nat.reduceAdd, Nat.reduceLT, Nat.reduceLeDiff, Nat.reduceSub, Nat.reduceEqDiff, Nat.zero_le, Nat.sub_zero, Nat.le_refl, true_and, and_true, not_true_eq_false, not_false_eq_true, true_or, or_true, lc_eq, lc_ne, lc_lt, lc_ge, lc_gt, lc_le, nI_add, lN_add, nI_leI, nI_ltI, nI_eq, nI_clamp, pk_lLT, pk_lLE, pk_lEQ, pk_sub, vp_inT, nz_eq, nz_lt, nz_ge, nz_gt, nz_le, lz_eq, lz_lt, lz_ge, hP1, hP2, hP3, hP4, hP5, hP6, hP7, hP8, hP9, hP10, hP11, hP12, hP13, hP14, hP15, hP16, hP17, hP18, hP19, hP20, a5, a6, a7, r1, r2]
  rcases P914 a1 a2 (by omega) (xs (i + 1)) (xs (i + 2)) with ⟨r, hr, hw, hc, hm⟩ | ⟨v, G', hB, hc, hm⟩
  · refine ⟨by omega, by omega, wr_2010 _ _ hx hr hw hc ?_⟩
    intro h1 c f
    have b5 : hT h1 0 = 110 := by rw [f.1]; exact a5
    have b6 : hN h1 0 = L := by rw [f.2.1]; exact a6
    have b7 : hI h1 0 = xs := by rw [(f.2.2.2 0 (by omega)).1]; exact a7
    have mm := MI_X f (.inr (Nat.le_refl _)) a2
    have m10 := mm.1.1.1
    simp (disch := omega) only [nI1T, Nat.left_eq_add, Nat.add_eq_left, Nat.add_eq_zero_iff, and_false, false_and, if_false, if_true, opsN, opsC, pm_1, lg, ls1, ls2, lq, List.length_cons, List.length_nil, cN, cL, callE, retV, retN, pm_pop, pm_cat, List.map_cons, List.map_nil, List.sum_cons, List.sum_nil, Value.category, Option.toList, List.cons_append, List.nil_append, ↓reduceIte, reduceCtorEq, Nat.reduceAdd, Nat.reduceLT, Nat.reduceLeDiff, Nat.reduceSub, Nat.reduceEqDiff, Nat.zero_le, Nat.sub_zero, Nat.le_refl, true_and, and_true, not_true_eq_false, not_false_eq_true, true_or, or_true, lc_eq, lc_ne, lc_lt, lc_ge, lc_gt, lc_le, nI_add, lN_add, nI_leI, nI_ltI, nI_eq, nI_clamp, pk_lLT, pk_lLE, pk_lEQ, pk_sub, vp_inT, nz_eq, nz_lt, nz_ge, nz_gt, nz_le, lz_eq, lz_lt, lz_ge, hP1, hP2, hP3, hP4, hP5, hP6, hP7, hP8, hP9, hP10, hP11, hP12, hP13, hP14, hP15, hP16, hP17, hP18, hP19, hP20, b5, b6, b7, r1, r2, m10]
    refine pm_M_succ _ _ _ _ _ _ (hm h1 _ mm ?_)
    intro h2 mm2 g t0
    have m10 := mm2.1.1.1
    have LI2 := LI_2 hx0 hL0 c f mm2 g
    simp (disch := omega) only [nI1T, Nat.left_eq_add, Nat.add_eq_left, Nat.add_eq_zero_iff, and_false, false_and, if_false, if_true, opsN, opsC, pm_1, lg, ls1, ls2, lq, List.length_cons, List.length_nil, cN, cL, callE, retV, retN, pm_pop, pm_cat, List.map_cons, List.map_nil, List.sum_cons, List.sum_nil, Value.category, Option.toList, List.cons_append, List.nil_append, ↓reduceIte, reduceCtorEq, Nat.reduceAdd, Nat.reduceLT, Nat.reduceLeDiff, Nat.reduceSub, Nat.reduceEqDiff, Nat.zero_le, Nat.sub_zero, Nat.le_refl, true_and, and_true, not_true_eq_false, not_false_eq_true, true_or, or_true, lc_eq, lc_ne, lc_lt, lc_ge, lc_gt, lc_le, nI_add, lN_add, nI_leI, nI_ltI, nI_eq, nI_clamp, pk_lLT, pk_lLE, pk_lEQ, pk_sub, vp_inT, nz_eq, nz_lt, nz_ge, nz_gt, nz_le, lz_eq, lz_lt, lz_ge, hP1, hP2, hP3, hP4, hP5, hP6, hP7, hP8, hP9, hP10, hP11, hP12, hP13, hP14, hP15, hP16, hP17, hP18, hP19, hP20, m10]
    rw [q1001 _ m10, t0]
    have wz : ¬ [1, 2, 0, 0].getD r 0 = 0 := by omega
    have wl4 : [1, 2, 0, 0].getD r 0 < 2 ^ 31 := by rcases (show r = 0 ∨ r = 1 ∨ r = 2 ∨ r = 3 by omega) with e | e | e | e <;> subst e <;> decide
    generalize [1, 2, 0, 0].getD r 0 = wn at *
    simp (disch := omega) only [u_2021_983, B_2021_983, u_2021_999, B_2021_999, nI1T, Nat.left_eq_add, Nat.add_eq_left, Nat.add_eq_zero_iff, and_false, false_and, if_false, if_true, opsN, opsC, pm_1, lg, ls1, ls2, lq, List.length_cons, List.length_nil, cN, cL, callE, retV, retN, pm_pop, pm_cat, List.map_cons, List.map_nil, List.sum_cons, List.sum_nil, Value.category, Option.toList, List.cons_append, List.nil_append, ↓reduceIte, reduceCtorEq, Nat.reduceAdd, Nat.reduceLT, Nat.reduceLeDiff, Nat.reduceSub, Nat.reduceEqDiff, Nat.zero_le, Nat.sub_zero, Nat.le_refl, true_and, and_true, not_true_eq_false, not_false_eq_true, true_or, or_true, lc_eq, lc_ne, lc_lt, lc_ge, lc_gt, lc_le, nI_add, lN_add, nI_leI, nI_ltI, nI_eq, nI_clamp, pk_lLT, pk_lLE, pk_lEQ, pk_sub, vp_inT, nz_eq, nz_lt, nz_ge, nz_gt, nz_le, lz_eq, lz_lt, lz_ge, hP1, hP2, hP3, hP4, hP5, hP6, hP7, hP8, hP9, hP10, hP11, hP12, hP13, hP14, hP15, hP16, hP17, hP18, hP19, hP20, wz]
    exact K h2 _ _ _ _ _ _ LI2 (Nat.le_add_right _ _) (by omega) (by omega)
  · refine ⟨by omega, by omega, wd_2010 _ _ hx a3 a4 hc ?_⟩
    intro h1 c f
    have fo : frX (x + 905) (x + 906) h1 (sL h1 (x + 905) (va_up (hL h1 (x + 905)) 0 v)) := frX_o (by omega) (by omega)
    have b5 : hT h1 0 = 110 := by rw [f.1]; exact a5
    have b6 : hN h1 0 = L := by rw [f.2.1]; exact a6
    have b7 : hI h1 0 = xs := by rw [(f.2.2.2 0 (by omega)).1]; exact a7
    have mm := MI_X fo (by omega) (MI_X f (.inr (Nat.le_refl _)) a2)
    have c' := CI_X fo (by omega) c
    have m10 : hT h1 (x + 82) = 10 := mm.1.1.1
    have ov : hL (sL h1 (x + 905) (va_up (hL h1 (x + 905)) 0 v)) (x + 905) 0 = v := by rw [hP7, va_up_self, va_up_self]
    simp (disch := omega) only [nI1T, Nat.left_eq_add, Nat.add_eq_left, Nat.add_eq_zero_iff, and_false, false_and, if_false, if_true, opsN, opsC, pm_1, lg, ls1, ls2, lq, List.length_cons, List.length_nil, cN, cL, callE, retV, retN, pm_pop, pm_cat, List.map_cons, List.map_nil, List.sum_cons, List.sum_nil, Value.category, Option.toList, List.cons_append, List.nil_append, ↓reduceIte, reduceCtorEq, Nat.reduceAdd, Nat.reduceLT, Nat.reduceLeDiff, Nat.reduceSub, Nat.reduceEqDiff, Nat.zero_le, Nat.sub_zero, Nat.le_refl, true_and, and_true, not_true_eq_false, not_false_eq_true, true_or, or_true, lc_eq, lc_ne, lc_lt, lc_ge, lc_gt, lc_le, nI_add, lN_add, nI_leI, nI_ltI, nI_eq, nI_clamp, pk_lLT, pk_lLE, pk_lEQ, pk_sub, vp_inT, nz_eq, nz_lt, nz_ge, nz_gt, nz_le, lz_eq, lz_lt, lz_ge, hP1, hP2, hP3, hP4, hP5, hP6, hP7, hP8, hP9, hP10, hP11, hP12, hP13, hP14, hP15, hP16, hP17, hP18, hP19, hP20, b5, b6, b7, r1, r2, m10]
    refine pm_M_succ _ _ _ _ _ _ (hm _ _ mm ?_)
    intro h2 mm2 g t0
    have m10 := mm2.1.1.1
    have ov2 : hL h2 (x + 905) 0 = v := by rw [(g.2.2.2 (x + 905) (by omega)).2.1]; exact ov
    have o1 : hT h2 (x + 905) = 101 := by rw [g.1, fo.1, f.1]; exact a3
    have o2 : hN h2 (x + 905) = 1 := by rw [g.2.1, fo.2.1, f.2.1]; exact a4
    have LI2 : LI h2 x L xs G' := by
      refine ⟨CI_X g (by omega) c', mm2, o1, o2, ?_, ?_, ?_⟩
      · rw [g.1, fo.1, f.1]; exact a5
      · rw [g.2.1, fo.2.1, f.2.1]; exact a6
      · rw [(g.2.2.2 0 (by omega)).1, (fo.2.2.2 0 (by omega)).1, (f.2.2.2 0 (by omega)).1]; exact a7
    simp (disch := omega) only [nI1T, Nat.left_eq_add, Nat.add_eq_left, Nat.add_eq_zero_iff, and_false, false_and, if_false, if_true, opsN, opsC, pm_1, lg, ls1, ls2, lq, List.length_cons, List.length_nil, cN, cL, callE, retV, retN, pm_pop, pm_cat, List.map_cons, List.map_nil, List.sum_cons, List.sum_nil, Value.category, Option.toList, List.cons_append, List.nil_append, ↓reduceIte, reduceCtorEq, Nat.reduceAdd, Nat.reduceLT, Nat.reduceLeDiff, Nat.reduceSub, Nat.reduceEqDiff, Nat.zero_le, Nat.sub_zero, Nat.le_refl, true_and, and_true, not_true_eq_false, not_false_eq_true, true_or, or_true, lc_eq, lc_ne, lc_lt, lc_ge, lc_gt, lc_le, nI_add, lN_add, nI_leI, nI_ltI, nI_eq, nI_clamp, pk_lLT, pk_lLE, pk_lEQ, pk_sub, vp_inT, nz_eq, nz_lt, nz_ge, nz_gt, nz_le, lz_eq, lz_lt, lz_ge, hP1, hP2, hP3, hP4, hP5, hP6, hP7, hP8, hP9, hP10, hP11, hP12, hP13, hP14, hP15, hP16, hP17, hP18, hP19, hP20, m10]
    rw [q1001 _ m10, t0]
    simp (disch := omega) only [u_2021_983, B_2021_983, u_2021_999, B_2021_999, nI1T, Nat.left_eq_add, Nat.add_eq_left, Nat.add_eq_zero_iff, and_false, false_and, if_false, if_true, opsN, opsC, pm_1, lg, ls1, ls2, lq, List.length_cons, List.length_nil, cN, cL, callE, retV, retN, pm_pop, pm_cat, List.map_cons, List.map_nil, List.sum_cons, List.sum_nil, Value.category, Option.toList, List.cons_append, List.nil_append, ↓reduceIte, reduceCtorEq, Nat.reduceAdd, Nat.reduceLT, Nat.reduceLeDiff, Nat.reduceSub, Nat.reduceEqDiff, Nat.zero_le, Nat.sub_zero, Nat.le_refl, true_and, and_true, not_true_eq_false, not_false_eq_true, true_or, or_true, lc_eq, lc_ne, lc_lt, lc_ge, lc_gt, lc_le, nI_add, lN_add, nI_leI, nI_ltI, nI_eq, nI_clamp, pk_lLT, pk_lLE, pk_lEQ, pk_sub, vp_inT, nz_eq, nz_lt, nz_ge, nz_gt, nz_le, lz_eq, lz_lt, lz_ge, hP1, hP2, hP3, hP4, hP5, hP6, hP7, hP8, hP9, hP10, hP11, hP12, hP13, hP14, hP15, hP16, hP17, hP18, hP19, hP20, o1, o2, ov2]
    exact K h2 _ _ _ _ _ _ LI2 hB (by omega) (by omega)
theorem tn_1002 {l5 l6 l7 : Option Value} (hx0 : 0 < x) (hL0 : LI h x L xs G) (hBB : G.2.2.1 < 2 ^ 29) (hi : i + 6 ≤ L) (hL31 : L < 2 ^ 30) (hbc : 4 ≤ bc) (hbs : 24 ≤ bs)
    (K : ∀ h' G' l5 l6 l7 bc' bs', LI h' x L xs G' → G'.2.2.1 ≤ G.2.2.1 + 300 → bc ≤ bc' + 4 → bs ≤ bs' + 24 → pm_W PP 401 2021 Q bc' bs' 1899 [some (.ref 0), some (.ref x), some (.ref (x + 82)), some (.ref (x + 905)), some (.int (nI i)), l5, l6, l7] [] h') :
    pm_W PP 401 2021 Q bc bs 1002 [some (.ref 0), some (.ref x), some (.ref (x + 82)), some (.ref (x + 905)), some (.int (nI i)), l5, l6, l7] [] h := by
  obtain ⟨a1, a2, a3, a4, a5, a6, a7⟩ := id hL0
  have hx := a1.1.1.1
  have r1 : i + 1 < L := by omega
  have r2 : i + 2 < L := by omega
  have r3 : i + 3 < L := by omega
  simp (disch := omega) only [u_2021_1002, B_2021_1002, nI1T, Nat.left_eq_add, Nat.add_eq_left, Nat.add_eq_zero_iff, and_false, false_and, if_false, if_true, opsN, opsC, pm_1, lg, ls1, ls2, lq, List.length_cons, List.length_nil, cN, cL, callE, retV, retN, pm_pop, pm_cat, List.map_cons, List.map_nil, List.sum_cons, List.sum_nil, Value.category, Option.toList, List.cons_append, List.nil_append, ↓reduceIte, reduceCtorEq, Nat.reduceAdd, Nat.reduceLT, Nat.reduceLeDiff, Nat.reduceSub, Nat.reduceEqDiff, Nat.zero_le, Nat.sub_zero, Nat.le_refl, true_and, and_true, not_true_eq_false, not_false_eq_true, true_or, or_true, lc_eq, lc_ne, lc_lt, lc_ge, lc_gt, lc_le, nI_add, lN_add, nI_leI, nI_ltI, nI_eq, nI_clamp, pk_lLT, pk_lLE, pk_lEQ, pk_sub, vp_inT, nz_eq, nz_lt, nz_ge, nz_gt, nz_le, lz_eq, lz_lt, lz_ge, hP1, hP2, hP3, hP4, hP5, hP6, hP7, hP8, hP9, hP10, hP11, hP12, hP13, hP14, hP15, hP16, hP17, hP18, hP19, hP20, a5, a6, a7, r1, r2, r3]
  rcases P915 a1 a2 (by omega) (xs (i + 1)) (xs (i + 2)) (xs (i + 3)) with ⟨r, hr, hw, hc, hm⟩ | ⟨v, G', hB, hc, hm⟩
  · refine ⟨by omega, by omega, wr_2011 _ _ _ hx hr hw hc ?_⟩
    intro h1 c f
    have b5 : hT h1 0 = 110 := by rw [f.1]; exact a5
    have b6 : hN h1 0 = L := by rw [f.2.1]; exact a6
    have b7 : hI h1 0 = xs := by rw [(f.2.2.2 0 (by omega)).1]; exact a7
    have mm := MI_X f (.inr (Nat.le_refl _)) a2
    have m10 := mm.1.1.1
    simp (disch := omega) only [nI1T, Nat.left_eq_add, Nat.add_eq_left, Nat.add_eq_zero_iff, and_false, false_and, if_false, if_true, opsN, opsC, pm_1, lg, ls1, ls2, lq, List.length_cons, List.length_nil, cN, cL, callE, retV, retN, pm_pop, pm_cat, List.map_cons, List.map_nil, List.sum_cons, List.sum_nil, Value.category, Option.toList, List.cons_append, List.nil_append, ↓reduceIte, reduceCtorEq, Nat.reduceAdd, Nat.reduceLT, Nat.reduceLeDiff, Nat.reduceSub, Nat.reduceEqDiff, Nat.zero_le, Nat.sub_zero, Nat.le_refl, true_and, and_true, not_true_eq_false, not_false_eq_true, true_or, or_true, lc_eq, lc_ne, lc_lt, lc_ge, lc_gt, lc_le, nI_add, lN_add, nI_leI, nI_ltI, nI_eq, nI_clamp, pk_lLT, pk_lLE, pk_lEQ, pk_sub, vp_inT, nz_eq, nz_lt, nz_ge, nz_gt, nz_le, lz_eq, lz_lt, lz_ge, hP1, hP2, hP3, hP4, hP5, hP6, hP7, hP8, hP9, hP10, hP11, hP12, hP13, hP14, hP15, hP16, hP17, hP18, hP19, hP20, b5, b6, b7, r1, r2, r3, m10]
    refine pm_M_succ _ _ _ _ _ _ (hm h1 _ mm ?_)
    intro h2 mm2 g t0
    have m10 := mm2.1.1.1
    have LI2 := LI_2 hx0 hL0 c f mm2 g
    simp (disch := omega) only [nI1T, Nat.left_eq_add, Nat.add_eq_left, Nat.add_eq_zero_iff, and_false, false_and, if_false, if_true, opsN, opsC, pm_1, lg, ls1, ls2, lq, List.length_cons, List.length_nil, cN, cL, callE, retV, retN, pm_pop, pm_cat, List.map_cons, List.map_nil, List.sum_cons, List.sum_nil, Value.category, Option.toList, List.cons_append, List.nil_append, ↓reduceIte, reduceCtorEq, Nat.reduceAdd, Nat.reduceLT, Nat.reduceLeDiff, Nat.reduceSub, Nat.reduceEqDiff, Nat.zero_le, Nat.sub_zero, Nat.le_refl, true_and, and_true, not_true_eq_false, not_false_eq_true, true_or, or_true, lc_eq, lc_ne, lc_lt, lc_ge, lc_gt, lc_le, nI_add, lN_add, nI_leI, nI_ltI, nI_eq, nI_clamp, pk_lLT, pk_lLE, pk_lEQ, pk_sub, vp_inT, nz_eq, nz_lt, nz_ge, nz_gt, nz_le, lz_eq, lz_lt, lz_ge, hP1, hP2, hP3, hP4, hP5, hP6, hP7, hP8, hP9, hP10, hP11, hP12, hP13, hP14, hP15, hP16, hP17, hP18, hP19, hP20, m10]
    rw [q1001 _ m10, t0]
    have wz : ¬ [1, 3, 0, 2].getD r 0 = 0 := by omega
    have wl4 : [1, 3, 0, 2].getD r 0 < 2 ^ 31 := by rcases (show r = 0 ∨ r = 1 ∨ r = 2 ∨ r = 3 by omega) with e | e | e | e <;> subst e <;> decide
    generalize [1, 3, 0, 2].getD r 0 = wn at *
    simp (disch := omega) only [u_2021_1062, B_2021_1062, u_2021_1078, B_2021_1078, nI1T, Nat.left_eq_add, Nat.add_eq_left, Nat.add_eq_zero_iff, and_false, false_and, if_false, if_true, opsN, opsC, pm_1, lg, ls1, ls2, lq, List.length_cons, List.length_nil, cN, cL, callE, retV, retN, pm_pop, pm_cat, List.map_cons, List.map_nil, List.sum_cons, List.sum_nil, Value.category, Option.toList, List.cons_append, List.nil_append, ↓reduceIte, reduceCtorEq, Nat.reduceAdd, Nat.reduceLT, Nat.reduceLeDiff, Nat.reduceSub, Nat.reduceEqDiff, Nat.zero_le, Nat.sub_zero, Nat.le_refl, true_and, and_true, not_true_eq_false, not_false_eq_true, true_or, or_true, lc_eq, lc_ne, lc_lt, lc_ge, lc_gt, lc_le, nI_add, lN_add, nI_leI, nI_ltI, nI_eq, nI_clamp, pk_lLT, pk_lLE, pk_lEQ, pk_sub, vp_inT, nz_eq, nz_lt, nz_ge, nz_gt, nz_le, lz_eq, lz_lt, lz_ge, hP1, hP2, hP3, hP4, hP5, hP6, hP7, hP8, hP9, hP10, hP11, hP12, hP13, hP14, hP15, hP16, hP17, hP18, hP19, hP20, wz]
    exact K h2 _ _ _ _ _ _ LI2 (Nat.le_add_right _ _) (by omega) (by omega)
  · refine ⟨by omega, by omega, wd_2011 _ _ _ hx a3 a4 hc ?_⟩
    intro h1 c f
    have fo : frX (x + 905) (x + 906) h1 (sL h1 (x + 905) (va_up (hL h1 (x + 905)) 0 v)) := frX_o (by omega) (by omega)
    have b5 : hT h1 0 = 110 := by rw [f.1]; exact a5
    have b6 : hN h1 0 = L := by rw [f.2.1]; exact a6
    have b7 : hI h1 0 = xs := by rw [(f.2.2.2 0 (by omega)).1]; exact a7
    have mm := MI_X fo (by omega) (MI_X f (.inr (Nat.le_refl _)) a2)
    have c' := CI_X fo (by omega) c
    have m10 : hT h1 (x + 82) = 10 := mm.1.1.1
    have ov : hL (sL h1 (x + 905) (va_up (hL h1 (x + 905)) 0 v)) (x + 905) 0 = v := by rw [hP7, va_up_self, va_up_self]
    simp (disch := omega) only [nI1T, Nat.left_eq_add, Nat.add_eq_left, Nat.add_eq_zero_iff, and_false, false_and, if_false, if_true, opsN, opsC, pm_1, lg, ls1, ls2, lq, List.length_cons, List.length_nil, cN, cL, callE, retV, retN, pm_pop, pm_cat, List.map_cons, List.map_nil, List.sum_cons, List.sum_nil, Value.category, Option.toList, List.cons_append, List.nil_append, ↓reduceIte, reduceCtorEq, Nat.reduceAdd, Nat.reduceLT, Nat.reduceLeDiff, Nat.reduceSub, Nat.reduceEqDiff, Nat.zero_le, Nat.sub_zero, Nat.le_refl, true_and, and_true, not_true_eq_false, not_false_eq_true, true_or, or_true, lc_eq, lc_ne, lc_lt, lc_ge, lc_gt, lc_le, nI_add, lN_add, nI_leI, nI_ltI, nI_eq, nI_clamp, pk_lLT, pk_lLE, pk_lEQ, pk_sub, vp_inT, nz_eq, nz_lt, nz_ge, nz_gt, nz_le, lz_eq, lz_lt, lz_ge, hP1, hP2, hP3, hP4, hP5, hP6, hP7, hP8, hP9, hP10, hP11, hP12, hP13, hP14, hP15, hP16, hP17, hP18, hP19, hP20, b5, b6, b7, r1, r2, r3, m10]
    refine pm_M_succ _ _ _ _ _ _ (hm _ _ mm ?_)
    intro h2 mm2 g t0
    have m10 := mm2.1.1.1
    have ov2 : hL h2 (x + 905) 0 = v := by rw [(g.2.2.2 (x + 905) (by omega)).2.1]; exact ov
    have o1 : hT h2 (x + 905) = 101 := by rw [g.1, fo.1, f.1]; exact a3
    have o2 : hN h2 (x + 905) = 1 := by rw [g.2.1, fo.2.1, f.2.1]; exact a4
    have LI2 : LI h2 x L xs G' := by
      refine ⟨CI_X g (by omega) c', mm2, o1, o2, ?_, ?_, ?_⟩
      · rw [g.1, fo.1, f.1]; exact a5
      · rw [g.2.1, fo.2.1, f.2.1]; exact a6
      · rw [(g.2.2.2 0 (by omega)).1, (fo.2.2.2 0 (by omega)).1, (f.2.2.2 0 (by omega)).1]; exact a7
    simp (disch := omega) only [nI1T, Nat.left_eq_add, Nat.add_eq_left, Nat.add_eq_zero_iff, and_false, false_and, if_false, if_true, opsN, opsC, pm_1, lg, ls1, ls2, lq, List.length_cons, List.length_nil, cN, cL, callE, retV, retN, pm_pop, pm_cat, List.map_cons, List.map_nil, List.sum_cons, List.sum_nil, Value.category, Option.toList, List.cons_append, List.nil_append, ↓reduceIte, reduceCtorEq, Nat.reduceAdd, Nat.reduceLT, Nat.reduceLeDiff, Nat.reduceSub, Nat.reduceEqDiff, Nat.zero_le, Nat.sub_zero, Nat.le_refl, true_and, and_true, not_true_eq_false, not_false_eq_true, true_or, or_true, lc_eq, lc_ne, lc_lt, lc_ge, lc_gt, lc_le, nI_add, lN_add, nI_leI, nI_ltI, nI_eq, nI_clamp, pk_lLT, pk_lLE, pk_lEQ, pk_sub, vp_inT, nz_eq, nz_lt, nz_ge, nz_gt, nz_le, lz_eq, lz_lt, lz_ge, hP1, hP2, hP3, hP4, hP5, hP6, hP7, hP8, hP9, hP10, hP11, hP12, hP13, hP14, hP15, hP16, hP17, hP18, hP19, hP20, m10]
    rw [q1001 _ m10, t0]
    simp (disch := omega) only [u_2021_1062, B_2021_1062, u_2021_1078, B_2021_1078, nI1T, Nat.left_eq_add, Nat.add_eq_left, Nat.add_eq_zero_iff, and_false, false_and, if_false, if_true, opsN, opsC, pm_1, lg, ls1, ls2, lq, List.length_cons, List.length_nil, cN, cL, callE, retV, retN, pm_pop, pm_cat, List.map_cons, List.map_nil, List.sum_cons, List.sum_nil, Value.category, Option.toList, List.cons_append, List.nil_append, ↓reduceIte, reduceCtorEq, Nat.reduceAdd, Nat.reduceLT, Nat.reduceLeDiff, Nat.reduceSub, Nat.reduceEqDiff, Nat.zero_le, Nat.sub_zero, Nat.le_refl, true_and, and_true, not_true_eq_false, not_false_eq_true, true_or, or_true, lc_eq, lc_ne, lc_lt, lc_ge, lc_gt, lc_le, nI_add, lN_add, nI_leI, nI_ltI, nI_eq, nI_clamp, pk_lLT, pk_lLE, pk_lEQ, pk_sub, vp_inT, nz_eq, nz_lt, nz_ge, nz_gt, nz_le, lz_eq, lz_lt, lz_ge, hP1, hP2, hP3, hP4, hP5, hP6, hP7, hP8, hP9, hP10, hP11, hP12, hP13, hP14, hP15, hP16, hP17, hP18, hP19, hP20, o1, o2, ov2]
    exact K h2 _ _ _ _ _ _ LI2 hB (by omega) (by omega)
theorem tn_1081 {l5 l6 l7 : Option Value} (hx0 : 0 < x) (hL0 : LI h x L xs G) (hBB : G.2.2.1 < 2 ^ 29) (hi : i + 6 ≤ L) (hL31 : L < 2 ^ 30) (hbc : 4 ≤ bc) (hbs : 24 ≤ bs)
    (K : ∀ h' G' l5 l6 l7 bc' bs', LI h' x L xs G' → G'.2.2.1 ≤ G.2.2.1 + 300 → bc ≤ bc' + 4 → bs ≤ bs' + 24 → pm_W PP 401 2021 Q bc' bs' 1899 [some (.ref 0), some (.ref x), some (.ref (x + 82)), some (.ref (x + 905)), some (.int (nI i)), l5, l6, l7] [] h') :
    pm_W PP 401 2021 Q bc bs 1081 [some (.ref 0), some (.ref x), some (.ref (x + 82)), some (.ref (x + 905)), some (.int (nI i)), l5, l6, l7] [] h := by
  obtain ⟨a1, a2, a3, a4, a5, a6, a7⟩ := id hL0
  have hx := a1.1.1.1
  have r1 : i + 1 < L := by omega
  have r2 : i + 2 < L := by omega
  simp (disch := omega) only [u_2021_1081, B_2021_1081, nI1T, Nat.left_eq_add, Nat.add_eq_left, Nat.add_eq_zero_iff, and_false, false_and, if_false, if_true, opsN, opsC, pm_1, lg, ls1, ls2, lq, List.length_cons, List.length_nil, cN, cL, callE, retV, retN, pm_pop, pm_cat, List.map_cons, List.map_nil, List.sum_cons, List.sum_nil, Value.category, Option.toList, List.cons_append, List.nil_append, ↓reduceIte, reduceCtorEq, Nat.reduceAdd, Nat.reduceLT, Nat.reduceLeDiff, Nat.reduceSub, Nat.reduceEqDiff, Nat.zero_le, Nat.sub_zero, Nat.le_refl, true_and, and_true, not_true_eq_false, not_false_eq_true, true_or, or_true, lc_eq, lc_ne, lc_lt, lc_ge, lc_gt, lc_le, nI_add, lN_add, nI_leI, nI_ltI, nI_eq, nI_clamp, pk_lLT, pk_lLE, pk_lEQ, pk_sub, vp_inT, nz_eq, nz_lt, nz_ge, nz_gt, nz_le, lz_eq, lz_lt, lz_ge, hP1, hP2, hP3, hP4, hP5, hP6, hP7, hP8, hP9, hP10, hP11, hP12, hP13, hP14, hP15, hP16, hP17, hP18, hP19, hP20, a5, a6, a7, r1, r2]
  rcases P916 a1 a2 (xs (i + 1)) (xs (i + 2)) with ⟨r, hr, hw, hc, hm⟩ | ⟨v, G', hB, hc, hm⟩
  · refine ⟨by omega, by omega, wr_2012 _ _ hx hr hw hc ?_⟩
    intro h1 c f
    have b5 : hT h1 0 = 110 := by rw [f.1]; exact a5
    have b6 : hN h1 0 = L := by rw [f.2.1]; exact a6
    have b7 : hI h1 0 = xs := by rw [(f.2.2.2 0 (by omega)).1]; exact a7
    have mm := MI_X f (.inr (Nat.le_refl _)) a2
    have m10 := mm.1.1.1
    simp (disch := omega) only [nI1T, Nat.left_eq_add, Nat.add_eq_left, Nat.add_eq_zero_iff, and_false, false_and, if_false, if_true, opsN, opsC, pm_1, lg, ls1, ls2, lq, List.length_cons, List.length_nil, cN, cL, callE, retV, retN, pm_pop, pm_cat, List.map_cons, List.map_nil, List.sum_cons, List.sum_nil, Value.category, Option.toList, List.cons_append, List.nil_append, ↓reduceIte, reduceCtorEq, Nat.reduceAdd, Nat.reduceLT, Nat.reduceLeDiff, Nat.reduceSub, Nat.reduceEqDiff, Nat.zero_le, Nat.sub_zero, Nat.le_refl, true_and, and_true, not_true_eq_false, not_false_eq_true, true_or, or_true, lc_eq, lc_ne, lc_lt, lc_ge, lc_gt, lc_le, nI_add, lN_add, nI_leI, nI_ltI, nI_eq, nI_clamp, pk_lLT, pk_lLE, pk_lEQ, pk_sub, vp_inT, nz_eq, nz_lt, nz_ge, nz_gt, nz_le, lz_eq, lz_lt, lz_ge, hP1, hP2, hP3, hP4, hP5, hP6, hP7, hP8, hP9, hP10, hP11, hP12, hP13, hP14, hP15, hP16, hP17, hP18, hP19, hP20, b5, b6, b7, r1, r2, m10]
    refine pm_M_succ _ _ _ _ _ _ (hm h1 _ mm ?_)
    intro h2 mm2 g t0
    have m10 := mm2.1.1.1
    have LI2 := LI_2 hx0 hL0 c f mm2 g
    simp (disch := omega) only [nI1T, Nat.left_eq_add, Nat.add_eq_left, Nat.add_eq_zero_iff, and_false, false_and, if_false, if_true, opsN, opsC, pm_1, lg, ls1, ls2, lq, List.length_cons, List.length_nil, cN, cL, callE, retV, retN, pm_pop, pm_cat, List.map_cons, List.map_nil, List.sum_cons, List.sum_nil, Value.category, Option.toList, List.cons_append, List.nil_append, ↓reduceIte, reduceCtorEq, Nat.reduceAdd, Nat.reduceLT, Nat.reduceLeDiff, Nat.reduceSub, Nat.reduceEqDiff, Nat.zero_le, Nat.sub_zero, Nat.le_refl, true_and, and_true, not_true_eq_false, not_false_eq_true, true_or, or_true, lc_eq, lc_ne, lc_lt, lc_ge, lc_gt, lc_le, nI_add, lN_add, nI_leI, nI_ltI, nI_eq, nI_clamp, pk_lLT, pk_lLE, pk_lEQ, pk_sub, vp_inT, nz_eq, nz_lt, nz_ge, nz_gt, nz_le, lz_eq, lz_lt, lz_ge, hP1, hP2, hP3, hP4, hP5, hP6, hP7, hP8, hP9, hP10, hP11, hP12, hP13, hP14, hP15, hP16, hP17, hP18, hP19, hP20, m10]
    rw [q1001 _ m10, t0]
    have wz : ¬ [1, 0, 0, 0].getD r 0 = 0 := by omega
    have wl4 : [1, 0, 0, 0].getD r 0 < 2 ^ 31 := by rcases (show r = 0 ∨ r = 1 ∨ r = 2 ∨ r = 3 by omega) with e | e | e | e <;> subst e <;> decide
    generalize [1, 0, 0, 0].getD r 0 = wn at *
    simp (disch := omega) only [u_2021_1129, B_2021_1129, u_2021_1146, B_2021_1146, nI1T, Nat.left_eq_add, Nat.add_eq_left, Nat.add_eq_zero_iff, and_false, false_and, if_false, if_true, opsN, opsC, pm_1, lg, ls1, ls2, lq, List.length_cons, List.length_nil, cN, cL, callE, retV, retN, pm_pop, pm_cat, List.map_cons, List.map_nil, List.sum_cons, List.sum_nil, Value.category, Option.toList, List.cons_append, List.nil_append, ↓reduceIte, reduceCtorEq, Nat.reduceAdd, Nat.reduceLT, Nat.reduceLeDiff, Nat.reduceSub, Nat.reduceEqDiff, Nat.zero_le, Nat.sub_zero, Nat.le_refl, true_and, and_true, not_true_eq_false, not_false_eq_true, true_or, or_true, lc_eq, lc_ne, lc_lt, lc_ge, lc_gt, lc_le, nI_add, lN_add, nI_leI, nI_ltI, nI_eq, nI_clamp, pk_lLT, pk_lLE, pk_lEQ, pk_sub, vp_inT, nz_eq, nz_lt, nz_ge, nz_gt, nz_le, lz_eq, lz_lt, lz_ge, hP1, hP2, hP3, hP4, hP5, hP6, hP7, hP8, hP9, hP10, hP11, hP12, hP13, hP14, hP15, hP16, hP17, hP18, hP19, hP20, wz]
    exact K h2 _ _ _ _ _ _ LI2 (Nat.le_add_right _ _) (by omega) (by omega)
  · refine ⟨by omega, by omega, wd_2012 _ _ hx a3 a4 hc ?_⟩
    intro h1 c f
    have fo : frX (x + 905) (x + 906) h1 (sL h1 (x + 905) (va_up (hL h1 (x + 905)) 0 v.toInt64)) := frX_o (by omega) (by omega)
    have b5 : hT h1 0 = 110 := by rw [f.1]; exact a5
    have b6 : hN h1 0 = L := by rw [f.2.1]; exact a6
    have b7 : hI h1 0 = xs := by rw [(f.2.2.2 0 (by omega)).1]; exact a7
    have mm := MI_X fo (by omega) (MI_X f (.inr (Nat.le_refl _)) a2)
    have c' := CI_X fo (by omega) c
    have m10 : hT h1 (x + 82) = 10 := mm.1.1.1
    have ov : hL (sL h1 (x + 905) (va_up (hL h1 (x + 905)) 0 v.toInt64)) (x + 905) 0 = v.toInt64 := by rw [hP7, va_up_self, va_up_self]
    simp (disch := omega) only [nI1T, Nat.left_eq_add, Nat.add_eq_left, Nat.add_eq_zero_iff, and_false, false_and, if_false, if_true, opsN, opsC, pm_1, lg, ls1, ls2, lq, List.length_cons, List.length_nil, cN, cL, callE, retV, retN, pm_pop, pm_cat, List.map_cons, List.map_nil, List.sum_cons, List.sum_nil, Value.category, Option.toList, List.cons_append, List.nil_append, ↓reduceIte, reduceCtorEq, Nat.reduceAdd, Nat.reduceLT, Nat.reduceLeDiff, Nat.reduceSub, Nat.reduceEqDiff, Nat.zero_le, Nat.sub_zero, Nat.le_refl, true_and, and_true, not_true_eq_false, not_false_eq_true, true_or, or_true, lc_eq, lc_ne, lc_lt, lc_ge, lc_gt, lc_le, nI_add, lN_add, nI_leI, nI_ltI, nI_eq, nI_clamp, pk_lLT, pk_lLE, pk_lEQ, pk_sub, vp_inT, nz_eq, nz_lt, nz_ge, nz_gt, nz_le, lz_eq, lz_lt, lz_ge, hP1, hP2, hP3, hP4, hP5, hP6, hP7, hP8, hP9, hP10, hP11, hP12, hP13, hP14, hP15, hP16, hP17, hP18, hP19, hP20, b5, b6, b7, r1, r2, m10]
    refine pm_M_succ _ _ _ _ _ _ (hm _ _ mm ?_)
    intro h2 mm2 g t0
    have m10 := mm2.1.1.1
    have ov2 : hL h2 (x + 905) 0 = v.toInt64 := by rw [(g.2.2.2 (x + 905) (by omega)).2.1]; exact ov
    have o1 : hT h2 (x + 905) = 101 := by rw [g.1, fo.1, f.1]; exact a3
    have o2 : hN h2 (x + 905) = 1 := by rw [g.2.1, fo.2.1, f.2.1]; exact a4
    have LI2 : LI h2 x L xs G' := by
      refine ⟨CI_X g (by omega) c', mm2, o1, o2, ?_, ?_, ?_⟩
      · rw [g.1, fo.1, f.1]; exact a5
      · rw [g.2.1, fo.2.1, f.2.1]; exact a6
      · rw [(g.2.2.2 0 (by omega)).1, (fo.2.2.2 0 (by omega)).1, (f.2.2.2 0 (by omega)).1]; exact a7
    simp (disch := omega) only [nI1T, Nat.left_eq_add, Nat.add_eq_left, Nat.add_eq_zero_iff, and_false, false_and, if_false, if_true, opsN, opsC, pm_1, lg, ls1, ls2, lq, List.length_cons, List.length_nil, cN, cL, callE, retV, retN, pm_pop, pm_cat, List.map_cons, List.map_nil, List.sum_cons, List.sum_nil, Value.category, Option.toList, List.cons_append, List.nil_append, ↓reduceIte, reduceCtorEq, Nat.reduceAdd, Nat.reduceLT, Nat.reduceLeDiff, Nat.reduceSub, Nat.reduceEqDiff, Nat.zero_le, Nat.sub_zero, Nat.le_refl, true_and, and_true, not_true_eq_false, not_false_eq_true, true_or, or_true, lc_eq, lc_ne, lc_lt, lc_ge, lc_gt, lc_le, nI_add, lN_add, nI_leI, nI_ltI, nI_eq, nI_clamp, pk_lLT, pk_lLE, pk_lEQ, pk_sub, vp_inT, nz_eq, nz_lt, nz_ge, nz_gt, nz_le, lz_eq, lz_lt, lz_ge, hP1, hP2, hP3, hP4, hP5, hP6, hP7, hP8, hP9, hP10, hP11, hP12, hP13, hP14, hP15, hP16, hP17, hP18, hP19, hP20, m10]
    rw [q1001 _ m10, t0]
    simp (disch := omega) only [u_2021_1129, B_2021_1129, u_2021_1146, B_2021_1146, nI1T, Nat.left_eq_add, Nat.add_eq_left, Nat.add_eq_zero_iff, and_false, false_and, if_false, if_true, opsN, opsC, pm_1, lg, ls1, ls2, lq, List.length_cons, List.length_nil, cN, cL, callE, retV, retN, pm_pop, pm_cat, List.map_cons, List.map_nil, List.sum_cons, List.sum_nil, Value.category, Option.toList, List.cons_append, List.nil_append, ↓reduceIte, reduceCtorEq, Nat.reduceAdd, Nat.reduceLT, Nat.reduceLeDiff, Nat.reduceSub, Nat.reduceEqDiff, Nat.zero_le, Nat.sub_zero, Nat.le_refl, true_and, and_true, not_true_eq_false, not_false_eq_true, true_or, or_true, lc_eq, lc_ne, lc_lt, lc_ge, lc_gt, lc_le, nI_add, lN_add, nI_leI, nI_ltI, nI_eq, nI_clamp, pk_lLT, pk_lLE, pk_lEQ, pk_sub, vp_inT, nz_eq, nz_lt, nz_ge, nz_gt, nz_le, lz_eq, lz_lt, lz_ge, hP1, hP2, hP3, hP4, hP5, hP6, hP7, hP8, hP9, hP10, hP11, hP12, hP13, hP14, hP15, hP16, hP17, hP18, hP19, hP20, o1, o2, ov2]
    exact K h2 _ _ _ _ _ _ LI2 hB (by omega) (by omega)
theorem tn_1149 {l5 l6 l7 : Option Value} (hx0 : 0 < x) (hL0 : LI h x L xs G) (hBB : G.2.2.1 < 2 ^ 29) (hi : i + 6 ≤ L) (hL31 : L < 2 ^ 30) (hbc : 4 ≤ bc) (hbs : 24 ≤ bs)
    (K : ∀ h' G' l5 l6 l7 bc' bs', LI h' x L xs G' → G'.2.2.1 ≤ G.2.2.1 + 300 → bc ≤ bc' + 4 → bs ≤ bs' + 24 → pm_W PP 401 2021 Q bc' bs' 1899 [some (.ref 0), some (.ref x), some (.ref (x + 82)), some (.ref (x + 905)), some (.int (nI i)), l5, l6, l7] [] h') :
    pm_W PP 401 2021 Q bc bs 1149 [some (.ref 0), some (.ref x), some (.ref (x + 82)), some (.ref (x + 905)), some (.int (nI i)), l5, l6, l7] [] h := by
  obtain ⟨a1, a2, a3, a4, a5, a6, a7⟩ := id hL0
  have hx := a1.1.1.1
  have r1 : i + 1 < L := by omega
  have r2 : i + 2 < L := by omega
  simp (disch := omega) only [u_2021_1149, B_2021_1149, nI1T, Nat.left_eq_add, Nat.add_eq_left, Nat.add_eq_zero_iff, and_false, false_and, if_false, if_true, opsN, opsC, pm_1, lg, ls1, ls2, lq, List.length_cons, List.length_nil, cN, cL, callE, retV, retN, pm_pop, pm_cat, List.map_cons, List.map_nil, List.sum_cons, List.sum_nil, Value.category, Option.toList, List.cons_append, List.nil_append, ↓reduceIte, reduceCtorEq, Nat.reduceAdd, Nat.reduceLT, Nat.reduceLeDiff, Nat.reduceSub, Nat.reduceEqDiff, Nat.zero_le, Nat.sub_zero, Nat.le_refl, true_and, and_true, not_true_eq_false, not_false_eq_true, true_or, or_true, lc_eq, lc_ne, lc_lt, lc_ge, lc_gt, lc_le, nI_add, lN_add, nI_leI, nI_ltI, nI_eq, nI_clamp, pk_lLT, pk_lLE, pk_lEQ, pk_sub, vp_inT, nz_eq, nz_lt, nz_ge, nz_gt, nz_le, lz_eq, lz_lt, lz_ge, hP1, hP2, hP3, hP4, hP5, hP6, hP7, hP8, hP9, hP10, hP11, hP12, hP13, hP14, hP15, hP16, hP17, hP18, hP19, hP20, a5, a6, a7, r1, r2]
  rcases P917 a1 a2 (by omega) (xs (i + 1)) (xs (i + 2)) with ⟨r, hr, hw, hc, hm⟩ | ⟨v, G', hB, hc, hm⟩
  · refine ⟨by omega, by omega, wr_2013 _ _ hx hr hw hc ?_⟩
    intro h1 c f
    have b5 : hT h1 0 = 110 := by rw [f.1]; exact a5
    have b6 : hN h1 0 = L := by rw [f.2.1]; exact a6
    have b7 : hI h1 0 = xs := by rw [(f.2.2.2 0 (by omega)).1]; exact a7
    have mm := MI_X f (.inr (Nat.le_refl _)) a2
    have m10 := mm.1.1.1
    simp (disch := omega) only [nI1T, Nat.left_eq_add, Nat.add_eq_left, Nat.add_eq_zero_iff, and_false, false_and, if_false, if_true, opsN, opsC, pm_1, lg, ls1, ls2, lq, List.length_cons, List.length_nil, cN, cL, callE, retV, retN, pm_pop, pm_cat, List.map_cons, List.map_nil, List.sum_cons, List.sum_nil, Value.category, Option.toList, List.cons_append, List.nil_append, ↓reduceIte, reduceCtorEq, Nat.reduceAdd, Nat.reduceLT, Nat.reduceLeDiff, Nat.reduceSub, Nat.reduceEqDiff, Nat.zero_le, Nat.sub_zero, Nat.le_refl, true_and, and_true, not_true_eq_false, not_false_eq_true, true_or, or_true, lc_eq, lc_ne, lc_lt, lc_ge, lc_gt, lc_le, nI_add, lN_add, nI_leI, nI_ltI, nI_eq, nI_clamp, pk_lLT, pk_lLE, pk_lEQ, pk_sub, vp_inT, nz_eq, nz_lt, nz_ge, nz_gt, nz_le, lz_eq, lz_lt, lz_ge, hP1, hP2, hP3, hP4, hP5, hP6, hP7, hP8, hP9, hP10, hP11, hP12, hP13, hP14, hP15, hP16, hP17, hP18, hP19, hP20, b5, b6, b7, r1, r2, m10]
    refine pm_M_succ _ _ _ _ _ _ (hm h1 _ mm ?_)
    intro h2 mm2 g t0
    have m10 := mm2.1.1.1
    have LI2 := LI_2 hx0 hL0 c f mm2 g
    simp (disch := omega) only [nI1T, Nat.left_eq_add, Nat.add_eq_left, Nat.add_eq_zero_iff, and_false, false_and, if_false, if_true, opsN, opsC, pm_1, lg, ls1, ls2, lq, List.length_cons, List.length_nil, cN, cL, callE, retV, retN, pm_pop, pm_cat, List.map_cons, List.map_nil, List.sum_cons, List.sum_nil, Value.category, Option.toList, List.cons_append, List.nil_append, ↓reduceIte, reduceCtorEq, Nat.reduceAdd, Nat.reduceLT, Nat.reduceLeDiff, Nat.reduceSub, Nat.reduceEqDiff, Nat.zero_le, Nat.sub_zero, Nat.le_refl, true_and, and_true, not_true_eq_false, not_false_eq_true, true_or, or_true, lc_eq, lc_ne, lc_lt, lc_ge, lc_gt, lc_le, nI_add, lN_add, nI_leI, nI_ltI, nI_eq, nI_clamp, pk_lLT, pk_lLE, pk_lEQ, pk_sub, vp_inT, nz_eq, nz_lt, nz_ge, nz_gt, nz_le, lz_eq, lz_lt, lz_ge, hP1, hP2, hP3, hP4, hP5, hP6, hP7, hP8, hP9, hP10, hP11, hP12, hP13, hP14, hP15, hP16, hP17, hP18, hP19, hP20, m10]
    rw [q1001 _ m10, t0]
    have wz : ¬ [1, 0, 0, 2].getD r 0 = 0 := by omega
    have wl4 : [1, 0, 0, 2].getD r 0 < 2 ^ 31 := by rcases (show r = 0 ∨ r = 1 ∨ r = 2 ∨ r = 3 by omega) with e | e | e | e <;> subst e <;> decide
    generalize [1, 0, 0, 2].getD r 0 = wn at *
    simp (disch := omega) only [u_2021_1197, B_2021_1197, u_2021_1214, B_2021_1214, nI1T, Nat.left_eq_add, Nat.add_eq_left, Nat.add_eq_zero_iff, and_false, false_and, if_false, if_true, opsN, opsC, pm_1, lg, ls1, ls2, lq, List.length_cons, List.length_nil, cN, cL, callE, retV, retN, pm_pop, pm_cat, List.map_cons, List.map_nil, List.sum_cons, List.sum_nil, Value.category, Option.toList, List.cons_append, List.nil_append, ↓reduceIte, reduceCtorEq, Nat.reduceAdd, Nat.reduceLT, Nat.reduceLeDiff, Nat.reduceSub, Nat.reduceEqDiff, Nat.zero_le, Nat.sub_zero, Nat.le_refl, true_and, and_true, not_true_eq_false, not_false_eq_true, true_or, or_true, lc_eq, lc_ne, lc_lt, lc_ge, lc_gt, lc_le, nI_add, lN_add, nI_leI, nI_ltI, nI_eq, nI_clamp, pk_lLT, pk_lLE, pk_lEQ, pk_sub, vp_inT, nz_eq, nz_lt, nz_ge, nz_gt, nz_le, lz_eq, lz_lt, lz_ge, hP1, hP2, hP3, hP4, hP5, hP6, hP7, hP8, hP9, hP10, hP11, hP12, hP13, hP14, hP15, hP16, hP17, hP18, hP19, hP20, wz]
    exact K h2 _ _ _ _ _ _ LI2 (Nat.le_add_right _ _) (by omega) (by omega)
  · refine ⟨by omega, by omega, wd_2013 _ _ hx a3 a4 hc ?_⟩
    intro h1 c f
    have fo : frX (x + 905) (x + 906) h1 (sL h1 (x + 905) (va_up (hL h1 (x + 905)) 0 v.toInt64)) := frX_o (by omega) (by omega)
    have b5 : hT h1 0 = 110 := by rw [f.1]; exact a5
    have b6 : hN h1 0 = L := by rw [f.2.1]; exact a6
    have b7 : hI h1 0 = xs := by rw [(f.2.2.2 0 (by omega)).1]; exact a7
    have mm := MI_X fo (by omega) (MI_X f (.inr (Nat.le_refl _)) a2)
    have c' := CI_X fo (by omega) c
    have m10 : hT h1 (x + 82) = 10 := mm.1.1.1
    have ov : hL (sL h1 (x + 905) (va_up (hL h1 (x + 905)) 0 v.toInt64)) (x + 905) 0 = v.toInt64 := by rw [hP7, va_up_self, va_up_self]
    simp (disch := omega) only [nI1T, Nat.left_eq_add, Nat.add_eq_left, Nat.add_eq_zero_iff, and_false, false_and, if_false, if_true, opsN, opsC, pm_1, lg, ls1, ls2, lq, List.length_cons, List.length_nil, cN, cL, callE, retV, retN, pm_pop, pm_cat, List.map_cons, List.map_nil, List.sum_cons, List.sum_nil, Value.category, Option.toList, List.cons_append, List.nil_append, ↓reduceIte, reduceCtorEq, Nat.reduceAdd, Nat.reduceLT, Nat.reduceLeDiff, Nat.reduceSub, Nat.reduceEqDiff, Nat.zero_le, Nat.sub_zero, Nat.le_refl, true_and, and_true, not_true_eq_false, not_false_eq_true, true_or, or_true, lc_eq, lc_ne, lc_lt, lc_ge, lc_gt, lc_le, nI_add, lN_add, nI_leI, nI_ltI, nI_eq, nI_clamp, pk_lLT, pk_lLE, pk_lEQ, pk_sub, vp_inT, nz_eq, nz_lt, nz_ge, nz_gt, nz_le, lz_eq, lz_lt, lz_ge, hP1, hP2, hP3, hP4, hP5, hP6, hP7, hP8, hP9, hP10, hP11, hP12, hP13, hP14, hP15, hP16, hP17, hP18, hP19, hP20, b5, b6, b7, r1, r2, m10]
    refine pm_M_succ _ _ _ _ _ _ (hm _ _ mm ?_)
    intro h2 mm2 g t0
    have m10 := mm2.1.1.1
    have ov2 : hL h2 (x + 905) 0 = v.toInt64 := by rw [(g.2.2.2 (x + 905) (by omega)).2.1]; exact ov
    have o1 : hT h2 (x + 905) = 101 := by rw [g.1, fo.1, f.1]; exact a3
    have o2 : hN h2 (x + 905) = 1 := by rw [g.2.1, fo.2.1, f.2.1]; exact a4
    have LI2 : LI h2 x L xs G' := by
      refine ⟨CI_X g (by omega) c', mm2, o1, o2, ?_, ?_, ?_⟩
      · rw [g.1, fo.1, f.1]; exact a5
      · rw [g.2.1, fo.2.1, f.2.1]; exact a6
      · rw [(g.2.2.2 0 (by omega)).1, (fo.2.2.2 0 (by omega)).1, (f.2.2.2 0 (by omega)).1]; exact a7
    simp (disch := omega) only [nI1T, Nat.left_eq_add, Nat.add_eq_left, Nat.add_eq_zero_iff, and_false, false_and, if_false, if_true, opsN, opsC, pm_1, lg, ls1, ls2, lq, List.length_cons, List.length_nil, cN, cL, callE, retV, retN, pm_pop, pm_cat, List.map_cons, List.map_nil, List.sum_cons, List.sum_nil, Value.category, Option.toList, List.cons_append, List.nil_append, ↓reduceIte, reduceCtorEq, Nat.reduceAdd, Nat.reduceLT, Nat.reduceLeDiff, Nat.reduceSub, Nat.reduceEqDiff, Nat.zero_le, Nat.sub_zero, Nat.le_refl, true_and, and_true, not_true_eq_false, not_false_eq_true, true_or, or_true, lc_eq, lc_ne, lc_lt, lc_ge, lc_gt, lc_le, nI_add, lN_add, nI_leI, nI_ltI, nI_eq, nI_clamp, pk_lLT, pk_lLE, pk_lEQ, pk_sub, vp_inT, nz_eq, nz_lt, nz_ge, nz_gt, nz_le, lz_eq, lz_lt, lz_ge, hP1, hP2, hP3, hP4, hP5, hP6, hP7, hP8, hP9, hP10, hP11, hP12, hP13, hP14, hP15, hP16, hP17, hP18, hP19, hP20, m10]
    rw [q1001 _ m10, t0]
    simp (disch := omega) only [u_2021_1197, B_2021_1197, u_2021_1214, B_2021_1214, nI1T, Nat.left_eq_add, Nat.add_eq_left, Nat.add_eq_zero_iff, and_false, false_and, if_false, if_true, opsN, opsC, pm_1, lg, ls1, ls2, lq, List.length_cons, List.length_nil, cN, cL, callE, retV, retN, pm_pop, pm_cat, List.map_cons, List.map_nil, List.sum_cons, List.sum_nil, Value.category, Option.toList, List.cons_append, List.nil_append, ↓reduceIte, reduceCtorEq, Nat.reduceAdd, Nat.reduceLT, Nat.reduceLeDiff, Nat.reduceSub, Nat.reduceEqDiff, Nat.zero_le, Nat.sub_zero, Nat.le_refl, true_and, and_true, not_true_eq_false, not_false_eq_true, true_or, or_true, lc_eq, lc_ne, lc_lt, lc_ge, lc_gt, lc_le, nI_add, lN_add, nI_leI, nI_ltI, nI_eq, nI_clamp, pk_lLT, pk_lLE, pk_lEQ, pk_sub, vp_inT, nz_eq, nz_lt, nz_ge, nz_gt, nz_le, lz_eq, lz_lt, lz_ge, hP1, hP2, hP3, hP4, hP5, hP6, hP7, hP8, hP9, hP10, hP11, hP12, hP13, hP14, hP15, hP16, hP17, hP18, hP19, hP20, o1, o2, ov2]
    exact K h2 _ _ _ _ _ _ LI2 hB (by omega) (by omega)
theorem tn_1217 {l5 l6 l7 : Option Value} (hx0 : 0 < x) (hL0 : LI h x L xs G) (hBB : G.2.2.1 < 2 ^ 29) (hi : i + 6 ≤ L) (hL31 : L < 2 ^ 30) (hbc : 4 ≤ bc) (hbs : 24 ≤ bs)
    (K : ∀ h' G' l5 l6 l7 bc' bs', LI h' x L xs G' → G'.2.2.1 ≤ G.2.2.1 + 300 → bc ≤ bc' + 4 → bs ≤ bs' + 24 → pm_W PP 401 2021 Q bc' bs' 1899 [some (.ref 0), some (.ref x), some (.ref (x + 82)), some (.ref (x + 905)), some (.int (nI i)), l5, l6, l7] [] h') :
    pm_W PP 401 2021 Q bc bs 1217 [some (.ref 0), some (.ref x), some (.ref (x + 82)), some (.ref (x + 905)), some (.int (nI i)), l5, l6, l7] [] h := by
  obtain ⟨a1, a2, a3, a4, a5, a6, a7⟩ := id hL0
  have hx := a1.1.1.1
  have r1 : i + 1 < L := by omega
  have r2 : i + 2 < L := by omega
  simp (disch := omega) only [u_2021_1217, B_2021_1217, nI1T, Nat.left_eq_add, Nat.add_eq_left, Nat.add_eq_zero_iff, and_false, false_and, if_false, if_true, opsN, opsC, pm_1, lg, ls1, ls2, lq, List.length_cons, List.length_nil, cN, cL, callE, retV, retN, pm_pop, pm_cat, List.map_cons, List.map_nil, List.sum_cons, List.sum_nil, Value.category, Option.toList, List.cons_append, List.nil_append, ↓reduceIte, reduceCtorEq, Nat.reduceAdd, Nat.reduceLT, Nat.reduceLeDiff, Nat.reduceSub, Nat.reduceEqDiff, Nat.zero_le, Nat.sub_zero, Nat.le_refl, true_and, and_true, not_true_eq_false, not_false_eq_true, true_or, or_true, lc_eq, lc_ne, lc_lt, lc_ge, lc_gt, lc_le, nI_add, lN_add, nI_leI, nI_ltI, nI_eq, nI_clamp, pk_lLT, pk_lLE, pk_lEQ, pk_sub, vp_inT, nz_eq, nz_lt, nz_ge, nz_gt, nz_le, lz_eq, lz_lt, lz_ge, hP1, hP2, hP3, hP4, hP5, hP6, hP7, hP8, hP9, hP10, hP11, hP12, hP13, hP14, hP15, hP16, hP17, hP18, hP19, hP20, a5, a6, a7, r1, r2]
  rcases P918 a1 a2 (xs (i + 1)) (xs (i + 2)) with ⟨r, hr, hw, hc, hm⟩ | ⟨v, G', hB, hc, hm⟩
  · refine ⟨by omega, by omega, wr_2014 _ _ hx hr hw hc ?_⟩
    intro h1 c f
    have b5 : hT h1 0 = 110 := by rw [f.1]; exact a5
    have b6 : hN h1 0 = L := by rw [f.2.1]; exact a6
    have b7 : hI h1 0 = xs := by rw [(f.2.2.2 0 (by omega)).1]; exact a7
    have mm := MI_X f (.inr (Nat.le_refl _)) a2
    have m10 := mm.1.1.1
    simp (disch := omega) only [nI1T, Nat.left_eq_add, Nat.add_eq_left, Nat.add_eq_zero_iff, and_false, false_and, if_false, if_true, opsN, opsC, pm_1, lg, ls1, ls2, lq, List.length_cons, List.length_nil, cN, cL, callE, retV, retN, pm_pop, pm_cat, List.map_cons, List.map_nil, List.sum_cons, List.sum_nil, Value.category, Option.toList, List.cons_append, List.nil_append, ↓reduceIte, reduceCtorEq, Nat.reduceAdd, Nat.reduceLT, Nat.reduceLeDiff, Nat.reduceSub, Nat.reduceEqDiff, Nat.zero_le, Nat.sub_zero, Nat.le_refl, true_and, and_true, not_true_eq_false, not_false_eq_true, true_or, or_true, lc_eq, lc_ne, lc_lt, lc_ge, lc_gt, lc_le, nI_add, lN_add, nI_leI, nI_ltI, nI_eq, nI_clamp, pk_lLT, pk_lLE, pk_lEQ, pk_sub, vp_inT, nz_eq, nz_lt, nz_ge, nz_gt, nz_le, lz_eq, lz_lt, lz_ge, hP1, hP2, hP3, hP4, hP5, hP6, hP7, hP8, hP9, hP10, hP11, hP12, hP13, hP14, hP15, hP16, hP17, hP18, hP19, hP20, b5, b6, b7, r1, r2, m10]
    refine pm_M_succ _ _ _ _ _ _ (hm h1 _ mm ?_)
    intro h2 mm2 g t0
    have m10 := mm2.1.1.1
    have LI2 := LI_2 hx0 hL0 c f mm2 g
    simp (disch := omega) only [nI1T, Nat.left_eq_add, Nat.add_eq_left, Nat.add_eq_zero_iff, and_false, false_and, if_false, if_true, opsN, opsC, pm_1, lg, ls1, ls2, lq, List.length_cons, List.length_nil, cN, cL, callE, retV, retN, pm_pop, pm_cat, List.map_cons, List.map_nil, List.sum_cons, List.sum_nil, Value.category, Option.toList, List.cons_append, List.nil_append, ↓reduceIte, reduceCtorEq, Nat.reduceAdd, Nat.reduceLT, Nat.reduceLeDiff, Nat.reduceSub, Nat.reduceEqDiff, Nat.zero_le, Nat.sub_zero, Nat.le_refl, true_and, and_true, not_true_eq_false, not_false_eq_true, true_or, or_true, lc_eq, lc_ne, lc_lt, lc_ge, lc_gt, lc_le, nI_add, lN_add, nI_leI, nI_ltI, nI_eq, nI_clamp, pk_lLT, pk_lLE, pk_lEQ, pk_sub, vp_inT, nz_eq, nz_lt, nz_ge, nz_gt, nz_le, lz_eq, lz_lt, lz_ge, hP1, hP2, hP3, hP4, hP5, hP6, hP7, hP8, hP9, hP10, hP11, hP12, hP13, hP14, hP15, hP16, hP17, hP18, hP19, hP20, m10]
    rw [q1001 _ m10, t0]
    have wz : ¬ [0, 1, 0, 0].getD r 0 = 0 := by omega
    have wl4 : [0, 1, 0, 0].getD r 0 < 2 ^ 31 := by rcases (show r = 0 ∨ r = 1 ∨ r = 2 ∨ r = 3 by omega) with e | e | e | e <;> subst e <;> decide
    generalize [0, 1, 0, 0].getD r 0 = wn at *
    simp (disch := omega) only [u_2021_1265, B_2021_1265, u_2021_1281, B_2021_1281, nI1T, Nat.left_eq_add, Nat.add_eq_left, Nat.add_eq_zero_iff, and_false, false_and, if_false, if_true, opsN, opsC, pm_1, lg, ls1, ls2, lq, List.length_cons, List.length_nil, cN, cL, callE, retV, retN, pm_pop, pm_cat, List.map_cons, List.map_nil, List.sum_cons, List.sum_nil, Value.category, Option.toList, List.cons_append, List.nil_append, ↓reduceIte, reduceCtorEq, Nat.reduceAdd, Nat.reduceLT, Nat.reduceLeDiff, Nat.reduceSub, Nat.reduceEqDiff, Nat.zero_le, Nat.sub_zero, Nat.le_refl, true_and, and_true, not_true_eq_false, not_false_eq_true, true_or, or_true, lc_eq, lc_ne, lc_lt, lc_ge, lc_gt, lc_le, nI_add, lN_add, nI_leI, nI_ltI, nI_eq, nI_clamp, pk_lLT, pk_lLE, pk_lEQ, pk_sub, vp_inT, nz_eq, nz_lt, nz_ge, nz_gt, nz_le, lz_eq, lz_lt, lz_ge, hP1, hP2, hP3, hP4, hP5, hP6, hP7, hP8, hP9, hP10, hP11, hP12, hP13, hP14, hP15, hP16, hP17, hP18, hP19, hP20, wz]
    exact K h2 _ _ _ _ _ _ LI2 (Nat.le_add_right _ _) (by omega) (by omega)
  · refine ⟨by omega, by omega, wd_2014 _ _ hx a3 a4 hc ?_⟩
    intro h1 c f
    have fo : frX (x + 905) (x + 906) h1 (sL h1 (x + 905) (va_up (hL h1 (x + 905)) 0 v)) := frX_o (by omega) (by omega)
    have b5 : hT h1 0 = 110 := by rw [f.1]; exact a5
    have b6 : hN h1 0 = L := by rw [f.2.1]; exact a6
    have b7 : hI h1 0 = xs := by rw [(f.2.2.2 0 (by omega)).1]; exact a7
    have mm := MI_X fo (by omega) (MI_X f (.inr (Nat.le_refl _)) a2)
    have c' := CI_X fo (by omega) c
    have m10 : hT h1 (x + 82) = 10 := mm.1.1.1
    have ov : hL (sL h1 (x + 905) (va_up (hL h1 (x + 905)) 0 v)) (x + 905) 0 = v := by rw [hP7, va_up_self, va_up_self]
    simp (disch := omega) only [nI1T, Nat.left_eq_add, Nat.add_eq_left, Nat.add_eq_zero_iff, and_false, false_and, if_false, if_true, opsN, opsC, pm_1, lg, ls1, ls2, lq, List.length_cons, List.length_nil, cN, cL, callE, retV, retN, pm_pop, pm_cat, List.map_cons, List.map_nil, List.sum_cons, List.sum_nil, Value.category, Option.toList, List.cons_append, List.nil_append, ↓reduceIte, reduceCtorEq, Nat.reduceAdd, Nat.reduceLT, Nat.reduceLeDiff, Nat.reduceSub, Nat.reduceEqDiff, Nat.zero_le, Nat.sub_zero, Nat.le_refl, true_and, and_true, not_true_eq_false, not_false_eq_true, true_or, or_true, lc_eq, lc_ne, lc_lt, lc_ge, lc_gt, lc_le, nI_add, lN_add, nI_leI, nI_ltI, nI_eq, nI_clamp, pk_lLT, pk_lLE, pk_lEQ, pk_sub, vp_inT, nz_eq, nz_lt, nz_ge, nz_gt, nz_le, lz_eq, lz_lt, lz_ge, hP1, hP2, hP3, hP4, hP5, hP6, hP7, hP8, hP9, hP10, hP11, hP12, hP13, hP14, hP15, hP16, hP17, hP18, hP19, hP20, b5, b6, b7, r1, r2, m10]
    refine pm_M_succ _ _ _ _ _ _ (hm _ _ mm ?_)
    intro h2 mm2 g t0
    have m10 := mm2.1.1.1
    have ov2 : hL h2 (x + 905) 0 = v := by rw [(g.2.2.2 (x + 905) (by omega)).2.1]; exact ov
    have o1 : hT h2 (x + 905) = 101 := by rw [g.1, fo.1, f.1]; exact a3
    have o2 : hN h2 (x + 905) = 1 := by rw [g.2.1, fo.2.1, f.2.1]; exact a4
    have LI2 : LI h2 x L xs G' := by
      refine ⟨CI_X g (by omega) c', mm2, o1, o2, ?_, ?_, ?_⟩
      · rw [g.1, fo.1, f.1]; exact a5
      · rw [g.2.1, fo.2.1, f.2.1]; exact a6
      · rw [(g.2.2.2 0 (by omega)).1, (fo.2.2.2 0 (by omega)).1, (f.2.2.2 0 (by omega)).1]; exact a7
    simp (disch := omega) only [nI1T, Nat.left_eq_add, Nat.add_eq_left, Nat.add_eq_zero_iff, and_false, false_and, if_false, if_true, opsN, opsC, pm_1, lg, ls1, ls2, lq, List.length_cons, List.length_nil, cN, cL, callE, retV, retN, pm_pop, pm_cat, List.map_cons, List.map_nil, List.sum_cons, List.sum_nil, Value.category, Option.toList, List.cons_append, List.nil_append, ↓reduceIte, reduceCtorEq, Nat.reduceAdd, Nat.reduceLT, Nat.reduceLeDiff, Nat.reduceSub, Nat.reduceEqDiff, Nat.zero_le, Nat.sub_zero, Nat.le_refl, true_and, and_true, not_true_eq_false, not_false_eq_true, true_or, or_true, lc_eq, lc_ne, lc_lt, lc_ge, lc_gt, lc_le, nI_add, lN_add, nI_leI, nI_ltI, nI_eq, nI_clamp, pk_lLT, pk_lLE, pk_lEQ, pk_sub, vp_inT, nz_eq, nz_lt, nz_ge, nz_gt, nz_le, lz_eq, lz_lt, lz_ge, hP1, hP2, hP3, hP4, hP5, hP6, hP7, hP8, hP9, hP10, hP11, hP12, hP13, hP14, hP15, hP16, hP17, hP18, hP19, hP20, m10]
    rw [q1001 _ m10, t0]
    simp (disch := omega) only [u_2021_1265, B_2021_1265, u_2021_1281, B_2021_1281, nI1T, Nat.left_eq_add, Nat.add_eq_left, Nat.add_eq_zero_iff, and_false, false_and, if_false, if_true, opsN, opsC, pm_1, lg, ls1, ls2, lq, List.length_cons, List.length_nil, cN, cL, callE, retV, retN, pm_pop, pm_cat, List.map_cons, List.map_nil, List.sum_cons, List.sum_nil, Value.category, Option.toList, List.cons_append, List.nil_append, ↓reduceIte, reduceCtorEq, Nat.reduceAdd, Nat.reduceLT, Nat.reduceLeDiff, Nat.reduceSub, Nat.reduceEqDiff, Nat.zero_le, Nat.sub_zero, Nat.le_refl, true_and, and_true, not_true_eq_false, not_false_eq_true, true_or, or_true, lc_eq, lc_ne, lc_lt, lc_ge, lc_gt, lc_le, nI_add, lN_add, nI_leI, nI_ltI, nI_eq, nI_clamp, pk_lLT, pk_lLE, pk_lEQ, pk_sub, vp_inT, nz_eq, nz_lt, nz_ge, nz_gt, nz_le, lz_eq, lz_lt, lz_ge, hP1, hP2, hP3, hP4, hP5, hP6, hP7, hP8, hP9, hP10, hP11, hP12, hP13, hP14, hP15, hP16, hP17, hP18, hP19, hP20, o1, o2, ov2]
    exact K h2 _ _ _ _ _ _ LI2 hB (by omega) (by omega)
theorem tn_1284 {l5 l6 l7 : Option Value} (hx0 : 0 < x) (hL0 : LI h x L xs G) (hBB : G.2.2.1 < 2 ^ 29) (hi : i + 6 ≤ L) (hL31 : L < 2 ^ 30) (hbc : 4 ≤ bc) (hbs : 24 ≤ bs)
    (K : ∀ h' G' l5 l6 l7 bc' bs', LI h' x L xs G' → G'.2.2.1 ≤ G.2.2.1 + 300 → bc ≤ bc' + 4 → bs ≤ bs' + 24 → pm_W PP 401 2021 Q bc' bs' 1899 [some (.ref 0), some (.ref x), some (.ref (x + 82)), some (.ref (x + 905)), some (.int (nI i)), l5, l6, l7] [] h') :
    pm_W PP 401 2021 Q bc bs 1284 [some (.ref 0), some (.ref x), some (.ref (x + 82)), some (.ref (x + 905)), some (.int (nI i)), l5, l6, l7] [] h := by
  obtain ⟨a1, a2, a3, a4, a5, a6, a7⟩ := id hL0
  have hx := a1.1.1.1
  have r1 : i + 1 < L := by omega
  have r2 : i + 2 < L := by omega
  have r3 : i + 3 < L := by omega
  simp (disch := omega) only [u_2021_1284, B_2021_1284, nI1T, Nat.left_eq_add, Nat.add_eq_left, Nat.add_eq_zero_iff, and_false, false_and, if_false, if_true, opsN, opsC, pm_1, lg, ls1, ls2, lq, List.length_cons, List.length_nil, cN, cL, callE, retV, retN, pm_pop, pm_cat, List.map_cons, List.map_nil, List.sum_cons, List.sum_nil, Value.category, Option.toList, List.cons_append, List.nil_append, ↓reduceIte, reduceCtorEq, Nat.reduceAdd, Nat.reduceLT, Nat.reduceLeDiff, Nat.reduceSub, Nat.reduceEqDiff, Nat.zero_le, Nat.sub_zero, Nat.le_refl, true_and, and_true, not_true_eq_false, not_false_eq_true, true_or, or_true, lc_eq, lc_ne, lc_lt, lc_ge, lc_gt, lc_le, nI_add, lN_add, nI_leI, nI_ltI, nI_eq, nI_clamp, pk_lLT, pk_lLE, pk_lEQ, pk_sub, vp_inT, nz_eq, nz_lt, nz_ge, nz_gt, nz_le, lz_eq, lz_lt, lz_ge, hP1, hP2, hP3, hP4, hP5, hP6, hP7, hP8, hP9, hP10, hP11, hP12, hP13, hP14, hP15, hP16, hP17, hP18, hP19, hP20, a5, a6, a7, r1, r2, r3]
  rcases P919 a1 a2 (xs (i + 1)) (xs (i + 2)) (xs (i + 3)) with ⟨r, hr, hw, hc, hm⟩ | ⟨v, G', hB, hc, hm⟩
  · refine ⟨by omega, by omega, wr_2015 _ _ _ hx hr hw hc ?_⟩
    intro h1 c f
    have b5 : hT h1 0 = 110 := by rw [f.1]; exact a5
    have b6 : hN h1 0 = L := by rw [f.2.1]; exact a6
    have b7 : hI h1 0 = xs := by rw [(f.2.2.2 0 (by omega)).1]; exact a7
    have mm := MI_X f (.inr (Nat.le_refl _)) a2
    have m10 := mm.1.1.1
    simp (disch := omega) only [nI1T, Nat.left_eq_add, Nat.add_eq_left, Nat.add_eq_zero_iff, and_false, false_and, if_false, if_true, opsN, opsC, pm_1, lg, ls1, ls2, lq, List.length_cons, List.length_nil, cN, cL, callE, retV, retN, pm_pop, pm_cat, List.map_cons, List.map_nil, List.sum_cons, List.sum_nil, Value.category, Option.toList, List.cons_append, List.nil_append, ↓reduceIte, reduceCtorEq, Nat.reduceAdd, Nat.reduceLT, Nat.reduceLeDiff, Nat.reduceSub, Nat.reduceEqDiff, Nat.zero_le, Nat.sub_zero, Nat.le_refl, true_and, and_true, not_true_eq_false, not_false_eq_true, true_or, or_true, lc_eq, lc_ne, lc_lt, lc_ge, lc_gt, lc_le, nI_add, lN_add, nI_leI, nI_ltI, nI_eq, nI_clamp, pk_lLT, pk_lLE, pk_lEQ, pk_sub, vp_inT, nz_eq, nz_lt, nz_ge, nz_gt, nz_le, lz_eq, lz_lt, lz_ge, hP1, hP2, hP3, hP4, hP5, hP6, hP7, hP8, hP9, hP10, hP11, hP12, hP13, hP14, hP15, hP16, hP17, hP18, hP19, hP20, b5, b6, b7, r1, r2, r3, m10]
    refine pm_M_succ _ _ _ _ _ _ (hm h1 _ mm ?_)
    intro h2 mm2 g t0
    have m10 := mm2.1.1.1
    have LI2 := LI_2 hx0 hL0 c f mm2 g
    simp (disch := omega) only [nI1T, Nat.left_eq_add, Nat.add_eq_left, Nat.add_eq_zero_iff, and_false, false_and, if_false, if_true, opsN, opsC, pm_1, lg, ls1, ls2, lq, List.length_cons, List.length_nil, cN, cL, callE, retV, retN, pm_pop, pm_cat, List.map_cons, List.map_nil, List.sum_cons, List.sum_nil, Value.category, Option.toList, List.cons_append, List.nil_append, ↓reduceIte, reduceCtorEq, Nat.reduceAdd, Nat.reduceLT, Nat.reduceLeDiff, Nat.reduceSub, Nat.reduceEqDiff, Nat.zero_le, Nat.sub_zero, Nat.le_refl, true_and, and_true, not_true_eq_false, not_false_eq_true, true_or, or_true, lc_eq, lc_ne, lc_lt, lc_ge, lc_gt, lc_le, nI_add, lN_add, nI_leI, nI_ltI, nI_eq, nI_clamp, pk_lLT, pk_lLE, pk_lEQ, pk_sub, vp_inT, nz_eq, nz_lt, nz_ge, nz_gt, nz_le, lz_eq, lz_lt, lz_ge, hP1, hP2, hP3, hP4, hP5, hP6, hP7, hP8, hP9, hP10, hP11, hP12, hP13, hP14, hP15, hP16, hP17, hP18, hP19, hP20, m10]
    rw [q1001 _ m10, t0]
    have wz : ¬ [0, 1, 0, 2].getD r 0 = 0 := by omega
    have wl4 : [0, 1, 0, 2].getD r 0 < 2 ^ 31 := by rcases (show r = 0 ∨ r = 1 ∨ r = 2 ∨ r = 3 by omega) with e | e | e | e <;> subst e <;> decide
    generalize [0, 1, 0, 2].getD r 0 = wn at *
    simp (disch := omega) only [u_2021_1344, B_2021_1344, u_2021_1360, B_2021_1360, nI1T, Nat.left_eq_add, Nat.add_eq_left, Nat.add_eq_zero_iff, and_false, false_and, if_false, if_true, opsN, opsC, pm_1, lg, ls1, ls2, lq, List.length_cons, List.length_nil, cN, cL, callE, retV, retN, pm_pop, pm_cat, List.map_cons, List.map_nil, List.sum_cons, List.sum_nil, Value.category, Option.toList, List.cons_append, List.nil_append, ↓reduceIte, reduceCtorEq, Nat.reduceAdd, Nat.reduceLT, Nat.reduceLeDiff, Nat.reduceSub, Nat.reduceEqDiff, Nat.zero_le, Nat.sub_zero, Nat.le_refl, true_and, and_true, not_true_eq_false, not_false_eq_true, true_or, or_true, lc_eq, lc_ne, lc_lt, lc_ge, lc_gt, lc_le, nI_add, lN_add, nI_leI, nI_ltI, nI_eq, nI_clamp, pk_lLT, pk_lLE, pk_lEQ, pk_sub, vp_inT, nz_eq, nz_lt, nz_ge, nz_gt, nz_le, lz_eq, lz_lt, lz_ge, hP1, hP2, hP3, hP4, hP5, hP6, hP7, hP8, hP9, hP10, hP11, hP12, hP13, hP14, hP15, hP16, hP17, hP18, hP19, hP20, wz]
    exact K h2 _ _ _ _ _ _ LI2 (Nat.le_add_right _ _) (by omega) (by omega)
  · refine ⟨by omega, by omega, wd_2015 _ _ _ hx a3 a4 hc ?_⟩
    intro h1 c f
    have fo : frX (x + 905) (x + 906) h1 (sL h1 (x + 905) (va_up (hL h1 (x + 905)) 0 v)) := frX_o (by omega) (by omega)
    have b5 : hT h1 0 = 110 := by rw [f.1]; exact a5
    have b6 : hN h1 0 = L := by rw [f.2.1]; exact a6
    have b7 : hI h1 0 = xs := by rw [(f.2.2.2 0 (by omega)).1]; exact a7
    have mm := MI_X fo (by omega) (MI_X f (.inr (Nat.le_refl _)) a2)
    have c' := CI_X fo (by omega) c
    have m10 : hT h1 (x + 82) = 10 := mm.1.1.1
    have ov : hL (sL h1 (x + 905) (va_up (hL h1 (x + 905)) 0 v)) (x + 905) 0 = v := by rw [hP7, va_up_self, va_up_self]
    simp (disch := omega) only [nI1T, Nat.left_eq_add, Nat.add_eq_left, Nat.add_eq_zero_iff, and_false, false_and, if_false, if_true, opsN, opsC, pm_1, lg, ls1, ls2, lq, List.length_cons, List.length_nil, cN, cL, callE, retV, retN, pm_pop, pm_cat, List.map_cons, List.map_nil, List.sum_cons, List.sum_nil, Value.category, Option.toList, List.cons_append, List.nil_append, ↓reduceIte, reduceCtorEq, Nat.reduceAdd, Nat.reduceLT, Nat.reduceLeDiff, Nat.reduceSub, Nat.reduceEqDiff, Nat.zero_le, Nat.sub_zero, Nat.le_refl, true_and, and_true, not_true_eq_false, not_false_eq_true, true_or, or_true, lc_eq, lc_ne, lc_lt, lc_ge, lc_gt, lc_le, nI_add, lN_add, nI_leI, nI_ltI, nI_eq, nI_clamp, pk_lLT, pk_lLE, pk_lEQ, pk_sub, vp_inT, nz_eq, nz_lt, nz_ge, nz_gt, nz_le, lz_eq, lz_lt, lz_ge, hP1, hP2, hP3, hP4, hP5, hP6, hP7, hP8, hP9, hP10, hP11, hP12, hP13, hP14, hP15, hP16, hP17, hP18, hP19, hP20, b5, b6, b7, r1, r2, r3, m10]
    refine pm_M_succ _ _ _ _ _ _ (hm _ _ mm ?_)
    intro h2 mm2 g t0
    have m10 := mm2.1.1.1
    have ov2 : hL h2 (x + 905) 0 = v := by rw [(g.2.2.2 (x + 905) (by omega)).2.1]; exact ov
    have o1 : hT h2 (x + 905) = 101 := by rw [g.1, fo.1, f.1]; exact a3
    have o2 : hN h2 (x + 905) = 1 := by rw [g.2.1, fo.2.1, f.2.1]; exact a4
    have LI2 : LI h2 x L xs G' := by
      refine ⟨CI_X g (by omega) c', mm2, o1, o2, ?_, ?_, ?_⟩
      · rw [g.1, fo.1, f.1]; exact a5
      · rw [g.2.1, fo.2.1, f.2.1]; exact a6
      · rw [(g.2.2.2 0 (by omega)).1, (fo.2.2.2 0 (by omega)).1, (f.2.2.2 0 (by omega)).1]; exact a7
    simp (disch := omega) only [nI1T, Nat.left_eq_add, Nat.add_eq_left, Nat.add_eq_zero_iff, and_false, false_and, if_false, if_true, opsN, opsC, pm_1, lg, ls1, ls2, lq, List.length_cons, List.length_nil, cN, cL, callE, retV, retN, pm_pop, pm_cat, List.map_cons, List.map_nil, List.sum_cons, List.sum_nil, Value.category, Option.toList, List.cons_append, List.nil_append, ↓reduceIte, reduceCtorEq, Nat.reduceAdd, Nat.reduceLT, Nat.reduceLeDiff, Nat.reduceSub, Nat.reduceEqDiff, Nat.zero_le, Nat.sub_zero, Nat.le_refl, true_and, and_true, not_true_eq_false, not_false_eq_true, true_or, or_true, lc_eq, lc_ne, lc_lt, lc_ge, lc_gt, lc_le, nI_add, lN_add, nI_leI, nI_ltI, nI_eq, nI_clamp, pk_lLT, pk_lLE, pk_lEQ, pk_sub, vp_inT, nz_eq, nz_lt, nz_ge, nz_gt, nz_le, lz_eq, lz_lt, lz_ge, hP1, hP2, hP3, hP4, hP5, hP6, hP7, hP8, hP9, hP10, hP11, hP12, hP13, hP14, hP15, hP16, hP17, hP18, hP19, hP20, m10]
    rw [q1001 _ m10, t0]
    simp (disch := omega) only [u_2021_1344, B_2021_1344, u_2021_1360, B_2021_1360, nI1T, Nat.left_eq_add, Nat.add_eq_left, Nat.add_eq_zero_iff, and_false, false_and, if_false, if_true, opsN, opsC, pm_1, lg, ls1, ls2, lq, List.length_cons, List.length_nil, cN, cL, callE, retV, retN, pm_pop, pm_cat, List.map_cons, List.map_nil, List.sum_cons, List.sum_nil, Value.category, Option.toList, List.cons_append, List.nil_append, ↓reduceIte, reduceCtorEq, Nat.reduceAdd, Nat.reduceLT, Nat.reduceLeDiff, Nat.reduceSub, Nat.reduceEqDiff, Nat.zero_le, Nat.sub_zero, Nat.le_refl, true_and, and_true, not_true_eq_false, not_false_eq_true, true_or, or_true, lc_eq, lc_ne, lc_lt, lc_ge, lc_gt, lc_le, nI_add, lN_add, nI_leI, nI_ltI, nI_eq, nI_clamp, pk_lLT, pk_lLE, pk_lEQ, pk_sub, vp_inT, nz_eq, nz_lt, nz_ge, nz_gt, nz_le, lz_eq, lz_lt, lz_ge, hP1, hP2, hP3, hP4, hP5, hP6, hP7, hP8, hP9, hP10, hP11, hP12, hP13, hP14, hP15, hP16, hP17, hP18, hP19, hP20, o1, o2, ov2]
    exact K h2 _ _ _ _ _ _ LI2 hB (by omega) (by omega)
theorem tn_1376 {l5 l6 l7 : Option Value} (hx0 : 0 < x) (hL0 : LI h x L xs G) (hBB : G.2.2.1 < 2 ^ 29) (hi : i + 6 ≤ L) (hL31 : L < 2 ^ 30) (hbc : 4 ≤ bc) (hbs : 24 ≤ bs)
    (K : ∀ h' G' l5 l6 l7 bc' bs', LI h' x L xs G' → G'.2.2.1 ≤ G.2.2.1 + 300 → bc ≤ bc' + 4 → bs ≤ bs' + 24 → pm_W PP 401 2021 Q bc' bs' 1899 [some (.ref 0), some (.ref x), some (.ref (x + 82)), some (.ref (x + 905)), some (.int (nI i)), l5, l6, l7] [] h') :
    pm_W PP 401 2021 Q bc bs 1376 [some (.ref 0), some (.ref x), some (.ref (x + 82)), some (.ref (x + 905)), some (.int (nI i)), l5, l6, l7] [] h := by
  obtain ⟨a1, a2, a3, a4, a5, a6, a7⟩ := id hL0
  have hx := a1.1.1.1
  have r1 : i + 1 < L := by omega
  have r2 : i + 2 < L := by omega
  have r3 : i + 3 < L := by omega
  have r4 : i + 4 < L := by omega
  simp (disch := omega) only [u_2021_1376, B_2021_1376, nI1T, Nat.left_eq_add, Nat.add_eq_left, Nat.add_eq_zero_iff, and_false, false_and, if_false, if_true, opsN, opsC, pm_1, lg, ls1, ls2, lq, List.length_cons, List.length_nil, cN, cL, callE, retV, retN, pm_pop, pm_cat, List.map_cons, List.map_nil, List.sum_cons, List.sum_nil, Value.category, Option.toList, List.cons_append, List.nil_append, ↓reduceIte, reduceCtorEq, Nat.reduceAdd, Nat.reduceLT, Nat.reduceLeDiff, Nat.reduceSub, Nat.reduceEqDiff, Nat.zero_le, Nat.sub_zero, Nat.le_refl, true_and, and_true, not_true_eq_false, not_false_eq_true, true_or, or_true, lc_eq, lc_ne, lc_lt, lc_ge, lc_gt, lc_le, nI_add, lN_add, nI_leI, nI_ltI, nI_eq, nI_clamp, pk_lLT, pk_lLE, pk_lEQ, pk_sub, vp_inT, nz_eq, nz_lt, nz_ge, nz_gt, nz_le, lz_eq, lz_lt, lz_ge, hP1, hP2, hP3, hP4, hP5, hP6, hP7, hP8, hP9, hP10, hP11, hP12, hP13, hP14, hP15, hP16, hP17, hP18, hP19, hP20, a5, a6, a7, r1, r2, r3, r4]
  rcases P921 a1 a2 (xs (i + 1)) (xs (i + 2)) (xs (i + 3)) (xs (i + 4)) with ⟨r, hr, hw, hc, hm⟩ | ⟨v, G', hB, hc, hm⟩
  · refine ⟨by omega, by omega, wr_2016 _ _ _ _ hx hr hw hc ?_⟩
    intro h1 c f
    have b5 : hT h1 0 = 110 := by rw [f.1]; exact a5
    have b6 : hN h1 0 = L := by rw [f.2.1]; exact a6
    have b7 : hI h1 0 = xs := by rw [(f.2.2.2 0 (by omega)).1]; exact a7
    have mm := MI_X f (.inr (Nat.le_refl _)) a2
    have m10 := mm.1.1.1
    simp (disch := omega) only [nI1T, Nat.left_eq_add, Nat.add_eq_left, Nat.add_eq_zero_iff, and_false, false_and, if_false, if_true, opsN, opsC, pm_1, lg, ls1, ls2, lq, List.length_cons, List.length_nil, cN, cL, callE, retV, retN, pm_pop, pm_cat, List.map_cons, List.map_nil, List.sum_cons, List.sum_nil, Value.category, Option.toList, List.cons_append, List.nil_append, ↓reduceIte, reduceCtorEq, Nat.reduceAdd, Nat.reduceLT, Nat.reduceLeDiff, Nat.reduceSub, Nat.reduceEqDiff, Nat.zero_le, Nat.sub_zero, Nat.le_refl, true_and, and_true, not_true_eq_false, not_false_eq_true, true_or, or_true, lc_eq, lc_ne, lc_lt, lc_ge, lc_gt, lc_le, nI_add, lN_add, nI_leI, nI_ltI, nI_eq, nI_clamp, pk_lLT, pk_lLE, pk_lEQ, pk_sub, vp_inT, nz_eq, nz_lt, nz_ge, nz_gt, nz_le, lz_eq, lz_lt, lz_ge, hP1, hP2, hP3, hP4, hP5, hP6, hP7, hP8, hP9, hP10, hP11, hP12, hP13, hP14, hP15, hP16, hP17, hP18, hP19, hP20, b5, b6, b7, r1, r2, r3, r4, m10]
    refine pm_M_succ _ _ _ _ _ _ (hm h1 _ mm ?_)
    intro h2 mm2 g t0
    have m10 := mm2.1.1.1
    have LI2 := LI_2 hx0 hL0 c f mm2 g
    simp (disch := omega) only [nI1T, Nat.left_eq_add, Nat.add_eq_left, Nat.add_eq_zero_iff, and_false, false_and, if_false, if_true, opsN, opsC, pm_1, lg, ls1, ls2, lq, List.length_cons, List.length_nil, cN, cL, callE, retV, retN, pm_pop, pm_cat, List.map_cons, List.map_nil, List.sum_cons, List.sum_nil, Value.category, Option.toList, List.cons_append, List.nil_append, ↓reduceIte, reduceCtorEq, Nat.reduceAdd, Nat.reduceLT, Nat.reduceLeDiff, Nat.reduceSub, Nat.reduceEqDiff, Nat.zero_le, Nat.sub_zero, Nat.le_refl, true_and, and_true, not_true_eq_false, not_false_eq_true, true_or, or_true, lc_eq, lc_ne, lc_lt, lc_ge, lc_gt, lc_le, nI_add, lN_add, nI_leI, nI_ltI, nI_eq, nI_clamp, pk_lLT, pk_lLE, pk_lEQ, pk_sub, vp_inT, nz_eq, nz_lt, nz_ge, nz_gt, nz_le, lz_eq, lz_lt, lz_ge, hP1, hP2, hP3, hP4, hP5, hP6, hP7, hP8, hP9, hP10, hP11, hP12, hP13, hP14, hP15, hP16, hP17, hP18, hP19, hP20, m10]
    rw [q1001 _ m10, t0]
    have wz : ¬ [0, 1, 0, 2].getD r 0 = 0 := by omega
    have wl4 : [0, 1, 0, 2].getD r 0 < 2 ^ 31 := by rcases (show r = 0 ∨ r = 1 ∨ r = 2 ∨ r = 3 by omega) with e | e | e | e <;> subst e <;> decide
    generalize [0, 1, 0, 2].getD r 0 = wn at *
    simp (disch := omega) only [u_2021_1448, B_2021_1448, u_2021_1464, B_2021_1464, nI1T, Nat.left_eq_add, Nat.add_eq_left, Nat.add_eq_zero_iff, and_false, false_and, if_false, if_true, opsN, opsC, pm_1, lg, ls1, ls2, lq, List.length_cons, List.length_nil, cN, cL, callE, retV, retN, pm_pop, pm_cat, List.map_cons, List.map_nil, List.sum_cons, List.sum_nil, Value.category, Option.toList, List.cons_append, List.nil_append, ↓reduceIte, reduceCtorEq, Nat.reduceAdd, Nat.reduceLT, Nat.reduceLeDiff, Nat.reduceSub, Nat.reduceEqDiff, Nat.zero_le, Nat.sub_zero, Nat.le_refl, true_and, and_true, not_true_eq_false, not_false_eq_true, true_or, or_true, lc_eq, lc_ne, lc_lt, lc_ge, lc_gt, lc_le, nI_add, lN_add, nI_leI, nI_ltI, nI_eq, nI_clamp, pk_lLT, pk_lLE, pk_lEQ, pk_sub, vp_inT, nz_eq, nz_lt, nz_ge, nz_gt, nz_le, lz_eq, lz_lt, lz_ge, hP1, hP2, hP3, hP4, hP5, hP6, hP7, hP8, hP9, hP10, hP11, hP12, hP13, hP14, hP15, hP16, hP17, hP18, hP19, hP20, wz]
    exact K h2 _ _ _ _ _ _ LI2 (Nat.le_add_right _ _) (by omega) (by omega)
  · refine ⟨by omega, by omega, wd_2016 _ _ _ _ hx a3 a4 hc ?_⟩
    intro h1 c f
    have fo : frX (x + 905) (x + 906) h1 (sL h1 (x + 905) (va_up (hL h1 (x + 905)) 0 v)) := frX_o (by omega) (by omega)
    have b5 : hT h1 0 = 110 := by rw [f.1]; exact a5
    have b6 : hN h1 0 = L := by rw [f.2.1]; exact a6
    have b7 : hI h1 0 = xs := by rw [(f.2.2.2 0 (by omega)).1]; exact a7
    have mm := MI_X fo (by omega) (MI_X f (.inr (Nat.le_refl _)) a2)
    have c' := CI_X fo (by omega) c
    have m10 : hT h1 (x + 82) = 10 := mm.1.1.1
    have ov : hL (sL h1 (x + 905) (va_up (hL h1 (x + 905)) 0 v)) (x + 905) 0 = v := by rw [hP7, va_up_self, va_up_self]
    simp (disch := omega) only [nI1T, Nat.left_eq_add, Nat.add_eq_left, Nat.add_eq_zero_iff, and_false, false_and, if_false, if_true, opsN, opsC, pm_1, lg, ls1, ls2, lq, List.length_cons, List.length_nil, cN, cL, callE, retV, retN, pm_pop, pm_cat, List.map_cons, List.map_nil, List.sum_cons, List.sum_nil, Value.category, Option.toList, List.cons_append, List.nil_append, ↓reduceIte, reduceCtorEq, Nat.reduceAdd, Nat.reduceLT, Nat.reduceLeDiff, Nat.reduceSub, Nat.reduceEqDiff, Nat.zero_le, Nat.sub_zero, Nat.le_refl, true_and, and_true, not_true_eq_false, not_false_eq_true, true_or, or_true, lc_eq, lc_ne, lc_lt, lc_ge, lc_gt, lc_le, nI_add, lN_add, nI_leI, nI_ltI, nI_eq, nI_clamp, pk_lLT, pk_lLE, pk_lEQ, pk_sub, vp_inT, nz_eq, nz_lt, nz_ge, nz_gt, nz_le, lz_eq, lz_lt, lz_ge, hP1, hP2, hP3, hP4, hP5, hP6, hP7, hP8, hP9, hP10, hP11, hP12, hP13, hP14, hP15, hP16, hP17, hP18, hP19, hP20, b5, b6, b7, r1, r2, r3, r4, m10]
    refine pm_M_succ _ _ _ _ _ _ (hm _ _ mm ?_)
    intro h2 mm2 g t0
    have m10 := mm2.1.1.1
    have ov2 : hL h2 (x + 905) 0 = v := by rw [(g.2.2.2 (x + 905) (by omega)).2.1]; exact ov
    have o1 : hT h2 (x + 905) = 101 := by rw [g.1, fo.1, f.1]; exact a3
    have o2 : hN h2 (x + 905) = 1 := by rw [g.2.1, fo.2.1, f.2.1]; exact a4
    have LI2 : LI h2 x L xs G' := by
      refine ⟨CI_X g (by omega) c', mm2, o1, o2, ?_, ?_, ?_⟩
      · rw [g.1, fo.1, f.1]; exact a5
      · rw [g.2.1, fo.2.1, f.2.1]; exact a6
      · rw [(g.2.2.2 0 (by omega)).1, (fo.2.2.2 0 (by omega)).1, (f.2.2.2 0 (by omega)).1]; exact a7
    simp (disch := omega) only [nI1T, Nat.left_eq_add, Nat.add_eq_left, Nat.add_eq_zero_iff, and_false, false_and, if_false, if_true, opsN, opsC, pm_1, lg, ls1, ls2, lq, List.length_cons, List.length_nil, cN, cL, callE, retV, retN, pm_pop, pm_cat, List.map_cons, List.map_nil, List.sum_cons, List.sum_nil, Value.category, Option.toList, List.cons_append, List.nil_append, ↓reduceIte, reduceCtorEq, Nat.reduceAdd, Nat.reduceLT, Nat.reduceLeDiff, Nat.reduceSub, Nat.reduceEqDiff, Nat.zero_le, Nat.sub_zero, Nat.le_refl, true_and, and_true, not_true_eq_false, not_false_eq_true, true_or, or_true, lc_eq, lc_ne, lc_lt, lc_ge, lc_gt, lc_le, nI_add, lN_add, nI_leI, nI_ltI, nI_eq, nI_clamp, pk_lLT, pk_lLE, pk_lEQ, pk_sub, vp_inT, nz_eq, nz_lt, nz_ge, nz_gt, nz_le, lz_eq, lz_lt, lz_ge, hP1, hP2, hP3, hP4, hP5, hP6, hP7, hP8, hP9, hP10, hP11, hP12, hP13, hP14, hP15, hP16, hP17, hP18, hP19, hP20, m10]
    rw [q1001 _ m10, t0]
    simp (disch := omega) only [u_2021_1448, B_2021_1448, u_2021_1464, B_2021_1464, nI1T, Nat.left_eq_add, Nat.add_eq_left, Nat.add_eq_zero_iff, and_false, false_and, if_false, if_true, opsN, opsC, pm_1, lg, ls1, ls2, lq, List.length_cons, List.length_nil, cN, cL, callE, retV, retN, pm_pop, pm_cat, List.map_cons, List.map_nil, List.sum_cons, List.sum_nil, Value.category, Option.toList, List.cons_append, List.nil_append, ↓reduceIte, reduceCtorEq, Nat.reduceAdd, Nat.reduceLT, Nat.reduceLeDiff, Nat.reduceSub, Nat.reduceEqDiff, Nat.zero_le, Nat.sub_zero, Nat.le_refl, true_and, and_true, not_true_eq_false, not_false_eq_true, true_or, or_true, lc_eq, lc_ne, lc_lt, lc_ge, lc_gt, lc_le, nI_add, lN_add, nI_leI, nI_ltI, nI_eq, nI_clamp, pk_lLT, pk_lLE, pk_lEQ, pk_sub, vp_inT, nz_eq, nz_lt, nz_ge, nz_gt, nz_le, lz_eq, lz_lt, lz_ge, hP1, hP2, hP3, hP4, hP5, hP6, hP7, hP8, hP9, hP10, hP11, hP12, hP13, hP14, hP15, hP16, hP17, hP18, hP19, hP20, o1, o2, ov2]
    exact K h2 _ _ _ _ _ _ LI2 hB (by omega) (by omega)
theorem tn_1467 {l5 l6 l7 : Option Value} (hx0 : 0 < x) (hL0 : LI h x L xs G) (hBB : G.2.2.1 < 2 ^ 29) (hi : i + 6 ≤ L) (hL31 : L < 2 ^ 30) (hbc : 4 ≤ bc) (hbs : 24 ≤ bs)
    (K : ∀ h' G' l5 l6 l7 bc' bs', LI h' x L xs G' → G'.2.2.1 ≤ G.2.2.1 + 300 → bc ≤ bc' + 4 → bs ≤ bs' + 24 → pm_W PP 401 2021 Q bc' bs' 1899 [some (.ref 0), some (.ref x), some (.ref (x + 82)), some (.ref (x + 905)), some (.int (nI i)), l5, l6, l7] [] h') :
    pm_W PP 401 2021 Q bc bs 1467 [some (.ref 0), some (.ref x), some (.ref (x + 82)), some (.ref (x + 905)), some (.int (nI i)), l5, l6, l7] [] h := by
  obtain ⟨a1, a2, a3, a4, a5, a6, a7⟩ := id hL0
  have hx := a1.1.1.1
  have r1 : i + 1 < L := by omega
  have r2 : i + 2 < L := by omega
  have r3 : i + 3 < L := by omega
  simp (disch := omega) only [u_2021_1467, B_2021_1467, nI1T, Nat.left_eq_add, Nat.add_eq_left, Nat.add_eq_zero_iff, and_false, false_and, if_false, if_true, opsN, opsC, pm_1, lg, ls1, ls2, lq, List.length_cons, List.length_nil, cN, cL, callE, retV, retN, pm_pop, pm_cat, List.map_cons, List.map_nil, List.sum_cons, List.sum_nil, Value.category, Option.toList, List.cons_append, List.nil_append, ↓reduceIte, reduceCtorEq, Nat.reduceAdd, Nat.reduceLT, Nat.reduceLeDiff, Nat.reduceSub, Nat.reduceEqDiff, Nat.zero_le, Nat.sub_zero, Nat.le_refl, true_and, and_true, not_true_eq_false, not_false_eq_true, true_or, or_true, lc_eq, lc_ne, lc_lt, lc_ge, lc_gt, lc_le, nI_add, lN_add, nI_leI, nI_ltI, nI_eq, nI_clamp, pk_lLT, pk_lLE, pk_lEQ, pk_sub, vp_inT, nz_eq, nz_lt, nz_ge, nz_gt, nz_le, lz_eq, lz_lt, lz_ge, hP1, hP2, hP3, hP4, hP5, hP6, hP7, hP8, hP9, hP10, hP11, hP12, hP13, hP14, hP15, hP16, hP17, hP18, hP19, hP20, a5, a6, a7, r1, r2, r3]
  rcases P922 a1 a2 (xs (i + 1)) (xs (i + 2)) (xs (i + 3)) with ⟨r, hr, hw, hc, hm⟩ | ⟨v, G', hB, hc, hm⟩
  · refine ⟨by omega, by omega, wr_2017 _ _ _ hx hr hw hc ?_⟩
    intro h1 c f
    have b5 : hT h1 0 = 110 := by rw [f.1]; exact a5
    have b6 : hN h1 0 = L := by rw [f.2.1]; exact a6
    have b7 : hI h1 0 = xs := by rw [(f.2.2.2 0 (by omega)).1]; exact a7
    have mm := MI_X f (.inr (Nat.le_refl _)) a2
    have m10 := mm.1.1.1
    simp (disch := omega) only [nI1T, Nat.left_eq_add, Nat.add_eq_left, Nat.add_eq_zero_iff, and_false, false_and, if_false, if_true, opsN, opsC, pm_1, lg, ls1, ls2, lq, List.length_cons, List.length_nil, cN, cL, callE, retV, retN, pm_pop, pm_cat, List.map_cons, List.map_nil, List.sum_cons, List.sum_nil, Value.category, Option.toList, List.cons_append, List.nil_append, ↓reduceIte, reduceCtorEq, Nat.reduceAdd, Nat.reduceLT, Nat.reduceLeDiff, Nat.reduceSub, Nat.reduceEqDiff, Nat.zero_le, Nat.sub_zero, Nat.le_refl, true_and, and_true, not_true_eq_false, not_false_eq_true, true_or, or_true, lc_eq, lc_ne, lc_lt, lc_ge, lc_gt, lc_le, nI_add, lN_add, nI_leI, nI_ltI, nI_eq, nI_clamp, pk_lLT, pk_lLE, pk_lEQ, pk_sub, vp_inT, nz_eq, nz_lt, nz_ge, nz_gt, nz_le, lz_eq, lz_lt, lz_ge, hP1, hP2, hP3, hP4, hP5, hP6, hP7, hP8, hP9, hP10, hP11, hP12, hP13, hP14, hP15, hP16, hP17, hP18, hP19, hP20, b5, b6, b7, r1, r2, r3, m10]
    refine pm_M_succ _ _ _ _ _ _ (hm h1 _ mm ?_)
    intro h2 mm2 g t0
    have m10 := mm2.1.1.1
    have LI2 := LI_2 hx0 hL0 c f mm2 g
    simp (disch := omega) only [nI1T, Nat.left_eq_add, Nat.add_eq_left, Nat.add_eq_zero_iff, and_false, false_and, if_false, if_true, opsN, opsC, pm_1, lg, ls1, ls2, lq, List.length_cons, List.length_nil, cN, cL, callE, retV, retN, pm_pop, pm_cat, List.map_cons, List.map_nil, List.sum_cons, List.sum_nil, Value.category, Option.toList, List.cons_append, List.nil_append, ↓reduceIte, reduceCtorEq, Nat.reduceAdd, Nat.reduceLT, Nat.reduceLeDiff, Nat.reduceSub, Nat.reduceEqDiff, Nat.zero_le, Nat.sub_zero, Nat.le_refl, true_and, and_true, not_true_eq_false, not_false_eq_true, true_or, or_true, lc_eq, lc_ne, lc_lt, lc_ge, lc_gt, lc_le, nI_add, lN_add, nI_leI, nI_ltI, nI_eq, nI_clamp, pk_lLT, pk_lLE, pk_lEQ, pk_sub, vp_inT, nz_eq, nz_lt, nz_ge, nz_gt, nz_le, lz_eq, lz_lt, lz_ge, hP1, hP2, hP3, hP4, hP5, hP6, hP7, hP8, hP9, hP10, hP11, hP12, hP13, hP14, hP15, hP16, hP17, hP18, hP19, hP20, m10]
    rw [q1001 _ m10, t0]
    have wz : ¬ [0, 1, 0, 2].getD r 0 = 0 := by omega
    have wl4 : [0, 1, 0, 2].getD r 0 < 2 ^ 31 := by rcases (show r = 0 ∨ r = 1 ∨ r = 2 ∨ r = 3 by omega) with e | e | e | e <;> subst e <;> decide
    generalize [0, 1, 0, 2].getD r 0 = wn at *
    simp (disch := omega) only [u_2021_1527, B_2021_1527, u_2021_1543, B_2021_1543, nI1T, Nat.left_eq_add, Nat.add_eq_left, Nat.add_eq_zero_iff, and_false, false_and, if_false, if_true, opsN, opsC, pm_1, lg, ls1, ls2, lq, List.length_cons, List.length_nil, cN, cL, callE, retV, retN, pm_pop, pm_cat, List.map_cons, List.map_nil, List.sum_cons, List.sum_nil, Value.category, Option.toList, List.cons_append, List.nil_append, ↓reduceIte, reduceCtorEq, Nat.reduceAdd, Nat.reduceLT, Nat.reduceLeDiff, Nat.reduceSub, Nat.reduceEqDiff, Nat.zero_le, Nat.sub_zero, Nat.le_refl, true_and, and_true, not_true_eq_false, not_false_eq_true, true_or, or_true, lc_eq, lc_ne, lc_lt, lc_ge, lc_gt, lc_le, nI_add, lN_add, nI_leI, nI_ltI, nI_eq, nI_clamp, pk_lLT, pk_lLE, pk_lEQ, pk_sub, vp_inT, nz_eq, nz_lt, nz_ge, nz_gt, nz_le, lz_eq, lz_lt, lz_ge, hP1, hP2, hP3, hP4, hP5, hP6, hP7, hP8, hP9, hP10, hP11, hP12, hP13, hP14, hP15, hP16, hP17, hP18, hP19, hP20, wz]
    exact K h2 _ _ _ _ _ _ LI2 (Nat.le_add_right _ _) (by omega) (by omega)
  · refine ⟨by omega, by omega, wd_2017 _ _ _ hx a3 a4 hc ?_⟩
    intro h1 c f
    have fo : frX (x + 905) (x + 906) h1 (sL h1 (x + 905) (va_up (hL h1 (x + 905)) 0 v)) := frX_o (by omega) (by omega)
    have b5 : hT h1 0 = 110 := by rw [f.1]; exact a5
    have b6 : hN h1 0 = L := by rw [f.2.1]; exact a6
    have b7 : hI h1 0 = xs := by rw [(f.2.2.2 0 (by omega)).1]; exact a7
    have mm := MI_X fo (by omega) (MI_X f (.inr (Nat.le_refl _)) a2)
    have c' := CI_X fo (by omega) c
    have m10 : hT h1 (x + 82) = 10 := mm.1.1.1
    have ov : hL (sL h1 (x + 905) (va_up (hL h1 (x + 905)) 0 v)) (x + 905) 0 = v := by rw [hP7, va_up_self, va_up_self]
    simp (disch := omega) only [nI1T, Nat.left_eq_add, Nat.add_eq_left, Nat.add_eq_zero_iff, and_false, false_and, if_false, if_true, opsN, opsC, pm_1, lg, ls1, ls2, lq, List.length_cons, List.length_nil, cN, cL, callE, retV, retN, pm_pop, pm_cat, List.map_cons, List.map_nil, List.sum_cons, List.sum_nil, Value.category, Option.toList, List.cons_append, List.nil_append, ↓reduceIte, reduceCtorEq, Nat.reduceAdd, Nat.reduceLT, Nat.reduceLeDiff, Nat.reduceSub, Nat.reduceEqDiff, Nat.zero_le, Nat.sub_zero, Nat.le_refl, true_and, and_true, not_true_eq_false, not_false_eq_true, true_or, or_true, lc_eq, lc_ne, lc_lt, lc_ge, lc_gt, lc_le, nI_add, lN_add, nI_leI, nI_ltI, nI_eq, nI_clamp, pk_lLT, pk_lLE, pk_lEQ, pk_sub, vp_inT, nz_eq, nz_lt, nz_ge, nz_gt, nz_le, lz_eq, lz_lt, lz_ge, hP1, hP2, hP3, hP4, hP5, hP6, hP7, hP8, hP9, hP10, hP11, hP12, hP13, hP14, hP15, hP16, hP17, hP18, hP19, hP20, b5, b6, b7, r1, r2, r3, m10]
    refine pm_M_succ _ _ _ _ _ _ (hm _ _ mm ?_)
    intro h2 mm2 g t0
    have m10 := mm2.1.1.1
    have ov2 : hL h2 (x + 905) 0 = v := by rw [(g.2.2.2 (x + 905) (by omega)).2.1]; exact ov
    have o1 : hT h2 (x + 905) = 101 := by rw [g.1, fo.1, f.1]; exact a3
    have o2 : hN h2 (x + 905) = 1 := by rw [g.2.1, fo.2.1, f.2.1]; exact a4
    have LI2 : LI h2 x L xs G' := by
      refine ⟨CI_X g (by omega) c', mm2, o1, o2, ?_, ?_, ?_⟩
      · rw [g.1, fo.1, f.1]; exact a5
      · rw [g.2.1, fo.2.1, f.2.1]; exact a6
      · rw [(g.2.2.2 0 (by omega)).1, (fo.2.2.2 0 (by omega)).1, (f.2.2.2 0 (by omega)).1]; exact a7
    simp (disch := omega) only [nI1T, Nat.left_eq_add, Nat.add_eq_left, Nat.add_eq_zero_iff, and_false, false_and, if_false, if_true, opsN, opsC, pm_1, lg, ls1, ls2, lq, List.length_cons, List.length_nil, cN, cL, callE, retV, retN, pm_pop, pm_cat, List.map_cons, List.map_nil, List.sum_cons, List.sum_nil, Value.category, Option.toList, List.cons_append, List.nil_append, ↓reduceIte, reduceCtorEq, Nat.reduceAdd, Nat.reduceLT, Nat.reduceLeDiff, Nat.reduceSub, Nat.reduceEqDiff, Nat.zero_le, Nat.sub_zero, Nat.le_refl, true_and, and_true, not_true_eq_false, not_false_eq_true, true_or, or_true, lc_eq, lc_ne, lc_lt, lc_ge, lc_gt, lc_le, nI_add, lN_add, nI_leI, nI_ltI, nI_eq, nI_clamp, pk_lLT, pk_lLE, pk_lEQ, pk_sub, vp_inT, nz_eq, nz_lt, nz_ge, nz_gt, nz_le, lz_eq, lz_lt, lz_ge, hP1, hP2, hP3, hP4, hP5, hP6, hP7, hP8, hP9, hP10, hP11, hP12, hP13, hP14, hP15, hP16, hP17, hP18, hP19, hP20, m10]
    rw [q1001 _ m10, t0]
    simp (disch := omega) only [u_2021_1527, B_2021_1527, u_2021_1543, B_2021_1543, nI1T, Nat.left_eq_add, Nat.add_eq_left, Nat.add_eq_zero_iff, and_false, false_and, if_false, if_true, opsN, opsC, pm_1, lg, ls1, ls2, lq, List.length_cons, List.length_nil, cN, cL, callE, retV, retN, pm_pop, pm_cat, List.map_cons, List.map_nil, List.sum_cons, List.sum_nil, Value.category, Option.toList, List.cons_append, List.nil_append, ↓reduceIte, reduceCtorEq, Nat.reduceAdd, Nat.reduceLT, Nat.reduceLeDiff, Nat.reduceSub, Nat.reduceEqDiff, Nat.zero_le, Nat.sub_zero, Nat.le_refl, true_and, and_true, not_true_eq_false, not_false_eq_true, true_or, or_true, lc_eq, lc_ne, lc_lt, lc_ge, lc_gt, lc_le, nI_add, lN_add, nI_leI, nI_ltI, nI_eq, nI_clamp, pk_lLT, pk_lLE, pk_lEQ, pk_sub, vp_inT, nz_eq, nz_lt, nz_ge, nz_gt, nz_le, lz_eq, lz_lt, lz_ge, hP1, hP2, hP3, hP4, hP5, hP6, hP7, hP8, hP9, hP10, hP11, hP12, hP13, hP14, hP15, hP16, hP17, hP18, hP19, hP20, o1, o2, ov2]
    exact K h2 _ _ _ _ _ _ LI2 hB (by omega) (by omega)
theorem tn_1546 {l5 l6 l7 : Option Value} (hx0 : 0 < x) (hL0 : LI h x L xs G) (hBB : G.2.2.1 < 2 ^ 29) (hi : i + 6 ≤ L) (hL31 : L < 2 ^ 30) (hbc : 4 ≤ bc) (hbs : 24 ≤ bs)
    (K : ∀ h' G' l5 l6 l7 bc' bs', LI h' x L xs G' → G'.2.2.1 ≤ G.2.2.1 + 300 → bc ≤ bc' + 4 → bs ≤ bs' + 24 → pm_W PP 401 2021 Q bc' bs' 1899 [some (.ref 0), some (.ref x), some (.ref (x + 82)), some (.ref (x + 905)), some (.int (nI i)), l5, l6, l7] [] h') :
    pm_W PP 401 2021 Q bc bs 1546 [some (.ref 0), some (.ref x), some (.ref (x + 82)), some (.ref (x + 905)), some (.int (nI i)), l5, l6, l7] [] h := by
  obtain ⟨a1, a2, a3, a4, a5, a6, a7⟩ := id hL0
  have hx := a1.1.1.1
  have r1 : i + 1 < L := by omega
  have r2 : i + 2 < L := by omega
  have r3 : i + 3 < L := by omega
  simp (disch := omega) only [u_2021_1546, B_2021_1546, nI1T, Nat.left_eq_add, Nat.add_eq_left, Nat.add_eq_zero_iff, and_false, false_and, if_false, if_true, opsN, opsC, pm_1, lg, ls1, ls2, lq, List.length_cons, List.length_nil, cN, cL, callE, retV, retN, pm_pop, pm_cat, List.map_cons, List.map_nil, List.sum_cons, List.sum_nil, Value.category, Option.toList, List.cons_append, List.nil_append, ↓reduceIte, reduceCtorEq, Nat.reduceAdd, Nat.reduceLT, Nat.reduceLeDiff, Nat.reduceSub, Nat.reduceEqDiff, Nat.zero_le, Nat.sub_zero, Nat.le_refl, true_and, and_true, not_true_eq_false, not_false_eq_true, true_or, or_true, lc_eq, lc_ne, lc_lt, lc_ge, lc_gt, lc_le, nI_add, lN_add, nI_leI, nI_ltI, nI_eq, nI_clamp, pk_lLT, pk_lLE, pk_lEQ, pk_sub, vp_inT, nz_eq, nz_lt, nz_ge, nz_gt, nz_le, lz_eq, lz_lt, lz_ge, hP1, hP2, hP3, hP4, hP5, hP6, hP7, hP8, hP9, hP10, hP11, hP12, hP13, hP14, hP15, hP16, hP17, hP18, hP19, hP20, a5, a6, a7, r1, r2, r3]
  rcases P923 a1 a2 (xs (i + 1)) (xs (i + 2)) (xs (i + 3)) with ⟨r, hr, hw, hc, hm⟩ | ⟨v, G', hB, hc, hm⟩
  · refine ⟨by omega, by omega, wr_2018 _ _ _ hx hr hw hc ?_⟩
    intro h1 c f
    have b5 : hT h1 0 = 110 := by rw [f.1]; exact a5
    have b6 : hN h1 0 = L := by rw [f.2.1]; exact a6
    have b7 : hI h1 0 = xs := by rw [(f.2.2.2 0 (by omega)).1]; exact a7
    have mm := MI_X f (.inr (Nat.le_refl _)) a2
    have m10 := mm.1.1.1
    simp (disch := omega) only [nI1T, Nat.left_eq_add, Nat.add_eq_left, Nat.add_eq_zero_iff, and_false, false_and, if_false, if_true, opsN, opsC, pm_1, lg, ls1, ls2, lq, List.length_cons, List.length_nil, cN, cL, callE, retV, retN, pm_pop, pm_cat, List.map_cons, List.map_nil, List.sum_cons, List.sum_nil, Value.category, Option.toList, List.cons_append, List.nil_append, ↓reduceIte, reduceCtorEq, Nat.reduceAdd, Nat.reduceLT, Nat.reduceLeDiff, Nat.reduceSub, Nat.reduceEqDiff, Nat.zero_le, Nat.sub_zero, Nat.le_refl, true_and, and_true, not_true_eq_false, not_false_eq_true, true_or, or_true, lc_eq, lc_ne, lc_lt, lc_ge, lc_gt, lc_le, nI_add, lN_add, nI_leI, nI_ltI, nI_eq, nI_clamp, pk_lLT, pk_lLE, pk_lEQ, pk_sub, vp_inT, nz_eq, nz_lt, nz_ge, nz_gt, nz_le, lz_eq, lz_lt, lz_ge, hP1, hP2, hP3, hP4, hP5, hP6, hP7, hP8, hP9, hP10, hP11, hP12, hP13, hP14, hP15, hP16, hP17, hP18, hP19, hP20, b5, b6, b7, r1, r2, r3, m10]
    refine pm_M_succ _ _ _ _ _ _ (hm h1 _ mm ?_)
    intro h2 mm2 g t0
    have m10 := mm2.1.1.1
    have LI2 := LI_2 hx0 hL0 c f mm2 g
    simp (disch := omega) only [nI1T, Nat.left_eq_add, Nat.add_eq_left, Nat.add_eq_zero_iff, and_false, false_and, if_false, if_true, opsN, opsC, pm_1, lg, ls1, ls2, lq, List.length_cons, List.length_nil, cN, cL, callE, retV, retN, pm_pop, pm_cat, List.map_cons, List.map_nil, List.sum_cons, List.sum_nil, Value.category, Option.toList, List.cons_append, List.nil_append, ↓reduceIte, reduceCtorEq, Nat.reduceAdd, Nat.reduceLT, Nat.reduceLeDiff, Nat.reduceSub, Nat.reduceEqDiff, Nat.zero_le, Nat.sub_zero, Nat.le_refl, true_and, and_true, not_true_eq_false, not_false_eq_true, true_or, or_true, lc_eq, lc_ne, lc_lt, lc_ge, lc_gt, lc_le, nI_add, lN_add, nI_leI, nI_ltI, nI_eq, nI_clamp, pk_lLT, pk_lLE, pk_lEQ, pk_sub, vp_inT, nz_eq, nz_lt, nz_ge, nz_gt, nz_le, lz_eq, lz_lt, lz_ge, hP1, hP2, hP3, hP4, hP5, hP6, hP7, hP8, hP9, hP10, hP11, hP12, hP13, hP14, hP15, hP16, hP17, hP18, hP19, hP20, m10]
    rw [q1001 _ m10, t0]
    have wz : ¬ [0, 1, 0, 2].getD r 0 = 0 := by omega
    have wl4 : [0, 1, 0, 2].getD r 0 < 2 ^ 31 := by rcases (show r = 0 ∨ r = 1 ∨ r = 2 ∨ r = 3 by omega) with e | e | e | e <;> subst e <;> decide
    generalize [0, 1, 0, 2].getD r 0 = wn at *
    simp (disch := omega) only [u_2021_1606, B_2021_1606, u_2021_1623, B_2021_1623, nI1T, Nat.left_eq_add, Nat.add_eq_left, Nat.add_eq_zero_iff, and_false, false_and, if_false, if_true, opsN, opsC, pm_1, lg, ls1, ls2, lq, List.length_cons, List.length_nil, cN, cL, callE, retV, retN, pm_pop, pm_cat, List.map_cons, List.map_nil, List.sum_cons, List.sum_nil, Value.category, Option.toList, List.cons_append, List.nil_append, ↓reduceIte, reduceCtorEq, Nat.reduceAdd, Nat.reduceLT, Nat.reduceLeDiff, Nat.reduceSub, Nat.reduceEqDiff, Nat.zero_le, Nat.sub_zero, Nat.le_refl, true_and, and_true, not_true_eq_false, not_false_eq_true, true_or, or_true, lc_eq, lc_ne, lc_lt, lc_ge, lc_gt, lc_le, nI_add, lN_add, nI_leI, nI_ltI, nI_eq, nI_clamp, pk_lLT, pk_lLE, pk_lEQ, pk_sub, vp_inT, nz_eq, nz_lt, nz_ge, nz_gt, nz_le, lz_eq, lz_lt, lz_ge, hP1, hP2, hP3, hP4, hP5, hP6, hP7, hP8, hP9, hP10, hP11, hP12, hP13, hP14, hP15, hP16, hP17, hP18, hP19, hP20, wz]
    exact K h2 _ _ _ _ _ _ LI2 (Nat.le_add_right _ _) (by omega) (by omega)
  · refine ⟨by omega, by omega, wd_2018 _ _ _ hx a3 a4 hc ?_⟩
    intro h1 c f
    have fo : frX (x + 905) (x + 906) h1 (sL h1 (x + 905) (va_up (hL h1 (x + 905)) 0 v.toInt64)) := frX_o (by omega) (by omega)
    have b5 : hT h1 0 = 110 := by rw [f.1]; exact a5
    have b6 : hN h1 0 = L := by rw [f.2.1]; exact a6
    have b7 : hI h1 0 = xs := by rw [(f.2.2.2 0 (by omega)).1]; exact a7
    have mm := MI_X fo (by omega) (MI_X f (.inr (Nat.le_refl _)) a2)
    have c' := CI_X fo (by omega) c
    have m10 : hT h1 (x + 82) = 10 := mm.1.1.1
    have ov : hL (sL h1 (x + 905) (va_up (hL h1 (x + 905)) 0 v.toInt64)) (x + 905) 0 = v.toInt64 := by rw [hP7, va_up_self, va_up_self]
    simp (disch := omega) only [nI1T, Nat.left_eq_add, Nat.add_eq_left, Nat.add_eq_zero_iff, and_false, false_and, if_false, if_true, opsN, opsC, pm_1, lg, ls1, ls2, lq, List.length_cons, List.length_nil, cN, cL, callE, retV, retN, pm_pop, pm_cat, List.map_cons, List.map_nil, List.sum_cons, List.sum_nil, Value.category, Option.toList, List.cons_append, List.nil_append, ↓reduceIte, reduceCtorEq, Nat.reduceAdd, Nat.reduceLT, Nat.reduceLeDiff, Nat.reduceSub, Nat.reduceEqDiff, Nat.zero_le, Nat.sub_zero, Nat.le_refl, true_and, and_true, not_true_eq_false, not_false_eq_true, true_or, or_true, lc_eq, lc_ne, lc_lt, lc_ge, lc_gt, lc_le, nI_add, lN_add, nI_leI, nI_ltI, nI_eq, nI_clamp, pk_lLT, pk_lLE, pk_lEQ, pk_sub, vp_inT, nz_eq, nz_lt, nz_ge, nz_gt, nz_le, lz_eq, lz_lt, lz_ge, hP1, hP2, hP3, hP4, hP5, hP6, hP7, hP8, hP9, hP10, hP11, hP12, hP13, hP14, hP15, hP16, hP17, hP18, hP19, hP20, b5, b6, b7, r1, r2, r3, m10]
    refine pm_M_succ _ _ _ _ _ _ (hm _ _ mm ?_)
    intro h2 mm2 g t0
    have m10 := mm2.1.1.1
    have ov2 : hL h2 (x + 905) 0 = v.toInt64 := by rw [(g.2.2.2 (x + 905) (by omega)).2.1]; exact ov
    have o1 : hT h2 (x + 905) = 101 := by rw [g.1, fo.1, f.1]; exact a3
    have o2 : hN h2 (x + 905) = 1 := by rw [g.2.1, fo.2.1, f.2.1]; exact a4
    have LI2 : LI h2 x L xs G' := by
      refine ⟨CI_X g (by omega) c', mm2, o1, o2, ?_, ?_, ?_⟩
      · rw [g.1, fo.1, f.1]; exact a5
      · rw [g.2.1, fo.2.1, f.2.1]; exact a6
      · rw [(g.2.2.2 0 (by omega)).1, (fo.2.2.2 0 (by omega)).1, (f.2.2.2 0 (by omega)).1]; exact a7
    simp (disch := omega) only [nI1T, Nat.left_eq_add, Nat.add_eq_left, Nat.add_eq_zero_iff, and_false, false_and, if_false, if_true, opsN, opsC, pm_1, lg, ls1, ls2, lq, List.length_cons, List.length_nil, cN, cL, callE, retV, retN, pm_pop, pm_cat, List.map_cons, List.map_nil, List.sum_cons, List.sum_nil, Value.category, Option.toList, List.cons_append, List.nil_append, ↓reduceIte, reduceCtorEq, Nat.reduceAdd, Nat.reduceLT, Nat.reduceLeDiff, Nat.reduceSub, Nat.reduceEqDiff, Nat.zero_le, Nat.sub_zero, Nat.le_refl, true_and, and_true, not_true_eq_false, not_false_eq_true, true_or, or_true, lc_eq, lc_ne, lc_lt, lc_ge, lc_gt, lc_le, nI_add, lN_add, nI_leI, nI_ltI, nI_eq, nI_clamp, pk_lLT, pk_lLE, pk_lEQ, pk_sub, vp_inT, nz_eq, nz_lt, nz_ge, nz_gt, nz_le, lz_eq, lz_lt, lz_ge, hP1, hP2, hP3, hP4, hP5, hP6, hP7, hP8, hP9, hP10, hP11, hP12, hP13, hP14, hP15, hP16, hP17, hP18, hP19, hP20, m10]
    rw [q1001 _ m10, t0]
    simp (disch := omega) only [u_2021_1606, B_2021_1606, u_2021_1623, B_2021_1623, nI1T, Nat.left_eq_add, Nat.add_eq_left, Nat.add_eq_zero_iff, and_false, false_and, if_false, if_true, opsN, opsC, pm_1, lg, ls1, ls2, lq, List.length_cons, List.length_nil, cN, cL, callE, retV, retN, pm_pop, pm_cat, List.map_cons, List.map_nil, List.sum_cons, List.sum_nil, Value.category, Option.toList, List.cons_append, List.nil_append, ↓reduceIte, reduceCtorEq, Nat.reduceAdd, Nat.reduceLT, Nat.reduceLeDiff, Nat.reduceSub, Nat.reduceEqDiff, Nat.zero_le, Nat.sub_zero, Nat.le_refl, true_and, and_true, not_true_eq_false, not_false_eq_true, true_or, or_true, lc_eq, lc_ne, lc_lt, lc_ge, lc_gt, lc_le, nI_add, lN_add, nI_leI, nI_ltI, nI_eq, nI_clamp, pk_lLT, pk_lLE, pk_lEQ, pk_sub, vp_inT, nz_eq, nz_lt, nz_ge, nz_gt, nz_le, lz_eq, lz_lt, lz_ge, hP1, hP2, hP3, hP4, hP5, hP6, hP7, hP8, hP9, hP10, hP11, hP12, hP13, hP14, hP15, hP16, hP17, hP18, hP19, hP20, o1, o2, ov2]
    exact K h2 _ _ _ _ _ _ LI2 hB (by omega) (by omega)
theorem tn_1626 {l5 l6 l7 : Option Value} (hx0 : 0 < x) (hL0 : LI h x L xs G) (hBB : G.2.2.1 < 2 ^ 29) (hi : i + 6 ≤ L) (hL31 : L < 2 ^ 30) (hbc : 4 ≤ bc) (hbs : 24 ≤ bs)
    (K : ∀ h' G' l5 l6 l7 bc' bs', LI h' x L xs G' → G'.2.2.1 ≤ G.2.2.1 + 300 → bc ≤ bc' + 4 → bs ≤ bs' + 24 → pm_W PP 401 2021 Q bc' bs' 1899 [some (.ref 0), some (.ref x), some (.ref (x + 82)), some (.ref (x + 905)), some (.int (nI i)), l5, l6, l7] [] h') :
    pm_W PP 401 2021 Q bc bs 1626 [some (.ref 0), some (.ref x), some (.ref (x + 82)), some (.ref (x + 905)), some (.int (nI i)), l5, l6, l7] [] h := by
  obtain ⟨a1, a2, a3, a4, a5, a6, a7⟩ := id hL0
  have hx := a1.1.1.1
  have r1 : i + 1 < L := by omega
  have r2 : i + 2 < L := by omega
  have r3 : i + 3 < L := by omega
  have r4 : i + 4 < L := by omega
  simp (disch := omega) only [u_2021_1626, B_2021_1626, nI1T, Nat.left_eq_add, Nat.add_eq_left, Nat.add_eq_zero_iff, and_false, false_and, if_false, if_true, opsN, opsC, pm_1, lg, ls1, ls2, lq, List.length_cons, List.length_nil, cN, cL, callE, retV, retN, pm_pop, pm_cat, List.map_cons, List.map_nil, List.sum_cons, List.sum_nil, Value.category, Option.toList, List.cons_append, List.nil_append, ↓reduceIte, reduceCtorEq, Nat.reduceAdd, Nat.reduceLT, Nat.reduceLeDiff, Nat.reduceSub, Nat.reduceEqDiff, Nat.zero_le, Nat.sub_zero, Nat.le_refl, true_and, and_true, not_true_eq_false, not_false_eq_true, true_or, or_true, lc_eq, lc_ne, lc_lt, lc_ge, lc_gt, lc_le, nI_add, lN_add, nI_leI, nI_ltI, nI_eq, nI_clamp, pk_lLT, pk_lLE, pk_lEQ, pk_sub, vp_inT, nz_eq, nz_lt, nz_ge, nz_gt, nz_le, lz_eq, lz_lt, lz_ge, hP1, hP2, hP3, hP4, hP5, hP6, hP7, hP8, hP9, hP10, hP11, hP12, hP13, hP14, hP15, hP16, hP17, hP18, hP19, hP20, a5, a6, a7, r1, r2, r3, r4]
  rcases P924 a1 a2 (xs (i + 1)) ((xs (i + 2)).toInt64 <<< ((nI 32).toInt64 &&& 63) ||| (xs (i + 3)).toInt64 &&& lN 4294967295) (xs (i + 4)) with ⟨r, hr, hw, hc, hm⟩ | ⟨v, G', hB, hc, hm⟩
  · refine ⟨by omega, by omega, wr_2019 _ _ _ hx hr hw hc ?_⟩
    intro h1 c f
    have b5 : hT h1 0 = 110 := by rw [f.1]; exact a5
    have b6 : hN h1 0 = L := by rw [f.2.1]; exact a6
    have b7 : hI h1 0 = xs := by rw [(f.2.2.2 0 (by omega)).1]; exact a7
    have mm := MI_X f (.inr (Nat.le_refl _)) a2
    have m10 := mm.1.1.1
    simp (disch := omega) only [nI1T, Nat.left_eq_add, Nat.add_eq_left, Nat.add_eq_zero_iff, and_false, false_and, if_false, if_true, opsN, opsC, pm_1, lg, ls1, ls2, lq, List.length_cons, List.length_nil, cN, cL, callE, retV, retN, pm_pop, pm_cat, List.map_cons, List.map_nil, List.sum_cons, List.sum_nil, Value.category, Option.toList, List.cons_append, List.nil_append, ↓reduceIte, reduceCtorEq, Nat.reduceAdd, Nat.reduceLT, Nat.reduceLeDiff, Nat.reduceSub, Nat.reduceEqDiff, Nat.zero_le, Nat.sub_zero, Nat.le_refl, true_and, and_true, not_true_eq_false, not_false_eq_true, true_or, or_true, lc_eq, lc_ne, lc_lt, lc_ge, lc_gt, lc_le, nI_add, lN_add, nI_leI, nI_ltI, nI_eq, nI_clamp, pk_lLT, pk_lLE, pk_lEQ, pk_sub, vp_inT, nz_eq, nz_lt, nz_ge, nz_gt, nz_le, lz_eq, lz_lt, lz_ge, hP1, hP2, hP3, hP4, hP5, hP6, hP7, hP8, hP9, hP10, hP11, hP12, hP13, hP14, hP15, hP16, hP17, hP18, hP19, hP20, b5, b6, b7, r1, r2, r3, r4, m10]
    refine pm_M_succ _ _ _ _ _ _ (hm h1 _ mm ?_)
    intro h2 mm2 g t0
    have m10 := mm2.1.1.1
    have LI2 := LI_2 hx0 hL0 c f mm2 g
    simp (disch := omega) only [nI1T, Nat.left_eq_add, Nat.add_eq_left, Nat.add_eq_zero_iff, and_false, false_and, if_false, if_true, opsN, opsC, pm_1, lg, ls1, ls2, lq, List.length_cons, List.length_nil, cN, cL, callE, retV, retN, pm_pop, pm_cat, List.map_cons, List.map_nil, List.sum_cons, List.sum_nil, Value.category, Option.toList, List.cons_append, List.nil_append, ↓reduceIte, reduceCtorEq, Nat.reduceAdd, Nat.reduceLT, Nat.reduceLeDiff, Nat.reduceSub, Nat.reduceEqDiff, Nat.zero_le, Nat.sub_zero, Nat.le_refl, true_and, and_true, not_true_eq_false, not_false_eq_true, true_or, or_true, lc_eq, lc_ne, lc_lt, lc_ge, lc_gt, lc_le, nI_add, lN_add, nI_leI, nI_ltI, nI_eq, nI_clamp, pk_lLT, pk_lLE, pk_lEQ, pk_sub, vp_inT, nz_eq, nz_lt, nz_ge, nz_gt, nz_le, lz_eq, lz_lt, lz_ge, hP1, hP2, hP3, hP4, hP5, hP6, hP7, hP8, hP9, hP10, hP11, hP12, hP13, hP14, hP15, hP16, hP17, hP18, hP19, hP20, m10]
    rw [q1001 _ m10, t0]
    have wz : ¬ [0, 1, 0, 0].getD r 0 = 0 := by omega
    have wl4 : [0, 1, 0, 0].getD r 0 < 2 ^ 31 := by rcases (show r = 0 ∨ r = 1 ∨ r = 2 ∨ r = 3 by omega) with e | e | e | e <;> subst e <;> decide
    generalize [0, 1, 0, 0].getD r 0 = wn at *
    simp (disch := omega) only [u_2021_1718, B_2021_1718, u_2021_1734, B_2021_1734, nI1T, Nat.left_eq_add, Nat.add_eq_left, Nat.add_eq_zero_iff, and_false, false_and, if_false, if_true, opsN, opsC, pm_1, lg, ls1, ls2, lq, List.length_cons, List.length_nil, cN, cL, callE, retV, retN, pm_pop, pm_cat, List.map_cons, List.map_nil, List.sum_cons, List.sum_nil, Value.category, Option.toList, List.cons_append, List.nil_append, ↓reduceIte, reduceCtorEq, Nat.reduceAdd, Nat.reduceLT, Nat.reduceLeDiff, Nat.reduceSub, Nat.reduceEqDiff, Nat.zero_le, Nat.sub_zero, Nat.le_refl, true_and, and_true, not_true_eq_false, not_false_eq_true, true_or, or_true, lc_eq, lc_ne, lc_lt, lc_ge, lc_gt, lc_le, nI_add, lN_add, nI_leI, nI_ltI, nI_eq, nI_clamp, pk_lLT, pk_lLE, pk_lEQ, pk_sub, vp_inT, nz_eq, nz_lt, nz_ge, nz_gt, nz_le, lz_eq, lz_lt, lz_ge, hP1, hP2, hP3, hP4, hP5, hP6, hP7, hP8, hP9, hP10, hP11, hP12, hP13, hP14, hP15, hP16, hP17, hP18, hP19, hP20, wz]
    exact K h2 _ _ _ _ _ _ LI2 (Nat.le_add_right _ _) (by omega) (by omega)
  · refine ⟨by omega, by omega, wd_2019 _ _ _ hx a3 a4 hc ?_⟩
    intro h1 c f
    have fo : frX (x + 905) (x + 906) h1 (sL h1 (x + 905) (va_up (hL h1 (x + 905)) 0 v)) := frX_o (by omega) (by omega)
    have b5 : hT h1 0 = 110 := by rw [f.1]; exact a5
    have b6 : hN h1 0 = L := by rw [f.2.1]; exact a6
    have b7 : hI h1 0 = xs := by rw [(f.2.2.2 0 (by omega)).1]; exact a7
    have mm := MI_X fo (by omega) (MI_X f (.inr (Nat.le_refl _)) a2)
    have c' := CI_X fo (by omega) c
    have m10 : hT h1 (x + 82) = 10 := mm.1.1.1
    have ov : hL (sL h1 (x + 905) (va_up (hL h1 (x + 905)) 0 v)) (x + 905) 0 = v := by rw [hP7, va_up_self, va_up_self]
    simp (disch := omega) only [nI1T, Nat.left_eq_add, Nat.add_eq_left, Nat.add_eq_zero_iff, and_false, false_and, if_false, if_true, opsN, opsC, pm_1, lg, ls1, ls2, lq, List.length_cons, List.length_nil, cN, cL, callE, retV, retN, pm_pop, pm_cat, List.map_cons, List.map_nil, List.sum_cons, List.sum_nil, Value.category, Option.toList, List.cons_append, List.nil_append, ↓reduceIte, reduceCtorEq, Nat.reduceAdd, Nat.reduceLT, Nat.reduceLeDiff, Nat.reduceSub, Nat.reduceEqDiff, Nat.zero_le, Nat.sub_zero, Nat.le_refl, true_and, and_true, not_true_eq_false, not_false_eq_true, true_or, or_true, lc_eq, lc_ne, lc_lt, lc_ge, lc_gt, lc_le, nI_add, lN_add, nI_leI, nI_ltI, nI_eq, nI_clamp, pk_lLT, pk_lLE, pk_lEQ, pk_sub, vp_inT, nz_eq, nz_lt, nz_ge, nz_gt, nz_le, lz_eq, lz_lt, lz_ge, hP1, hP2, hP3, hP4, hP5, hP6, hP7, hP8, hP9, hP10, hP11, hP12, hP13, hP14, hP15, hP16, hP17, hP18, hP19, hP20, b5, b6, b7, r1, r2, r3, r4, m10]
    refine pm_M_succ _ _ _ _ _ _ (hm _ _ mm ?_)
    intro h2 mm2 g t0
    have m10 := mm2.1.1.1
    have ov2 : hL h2 (x + 905) 0 = v := by rw [(g.2.2.2 (x + 905) (by omega)).2.1]; exact ov
    have o1 : hT h2 (x + 905) = 101 := by rw [g.1, fo.1, f.1]; exact a3
    have o2 : hN h2 (x + 905) = 1 := by rw [g.2.1, fo.2.1, f.2.1]; exact a4
    have LI2 : LI h2 x L xs G' := by
      refine ⟨CI_X g (by omega) c', mm2, o1, o2, ?_, ?_, ?_⟩
      · rw [g.1, fo.1, f.1]; exact a5
      · rw [g.2.1, fo.2.1, f.2.1]; exact a6
      · rw [(g.2.2.2 0 (by omega)).1, (fo.2.2.2 0 (by omega)).1, (f.2.2.2 0 (by omega)).1]; exact a7
    simp (disch := omega) only [nI1T, Nat.left_eq_add, Nat.add_eq_left, Nat.add_eq_zero_iff, and_false, false_and, if_false, if_true, opsN, opsC, pm_1, lg, ls1, ls2, lq, List.length_cons, List.length_nil, cN, cL, callE, retV, retN, pm_pop, pm_cat, List.map_cons, List.map_nil, List.sum_cons, List.sum_nil, Value.category, Option.toList, List.cons_append, List.nil_append, ↓reduceIte, reduceCtorEq, Nat.reduceAdd, Nat.reduceLT, Nat.reduceLeDiff, Nat.reduceSub, Nat.reduceEqDiff, Nat.zero_le, Nat.sub_zero, Nat.le_refl, true_and, and_true, not_true_eq_false, not_false_eq_true, true_or, or_true, lc_eq, lc_ne, lc_lt, lc_ge, lc_gt, lc_le, nI_add, lN_add, nI_leI, nI_ltI, nI_eq, nI_clamp, pk_lLT, pk_lLE, pk_lEQ, pk_sub, vp_inT, nz_eq, nz_lt, nz_ge, nz_gt, nz_le, lz_eq, lz_lt, lz_ge, hP1, hP2, hP3, hP4, hP5, hP6, hP7, hP8, hP9, hP10, hP11, hP12, hP13, hP14, hP15, hP16, hP17, hP18, hP19, hP20, m10]
    rw [q1001 _ m10, t0]
    simp (disch := omega) only [u_2021_1718, B_2021_1718, u_2021_1734, B_2021_1734, nI1T, Nat.left_eq_add, Nat.add_eq_left, Nat.add_eq_zero_iff, and_false, false_and, if_false, if_true, opsN, opsC, pm_1, lg, ls1, ls2, lq, List.length_cons, List.length_nil, cN, cL, callE, retV, retN, pm_pop, pm_cat, List.map_cons, List.map_nil, List.sum_cons, List.sum_nil, Value.category, Option.toList, List.cons_append, List.nil_append, ↓reduceIte, reduceCtorEq, Nat.reduceAdd, Nat.reduceLT, Nat.reduceLeDiff, Nat.reduceSub, Nat.reduceEqDiff, Nat.zero_le, Nat.sub_zero, Nat.le_refl, true_and, and_true, not_true_eq_false, not_false_eq_true, true_or, or_true, lc_eq, lc_ne, lc_lt, lc_ge, lc_gt, lc_le, nI_add, lN_add, nI_leI, nI_ltI, nI_eq, nI_clamp, pk_lLT, pk_lLE, pk_lEQ, pk_sub, vp_inT, nz_eq, nz_lt, nz_ge, nz_gt, nz_le, lz_eq, lz_lt, lz_ge, hP1, hP2, hP3, hP4, hP5, hP6, hP7, hP8, hP9, hP10, hP11, hP12, hP13, hP14, hP15, hP16, hP17, hP18, hP19, hP20, o1, o2, ov2]
    exact K h2 _ _ _ _ _ _ LI2 hB (by omega) (by omega)
theorem tn_1737 {l5 l6 l7 : Option Value} (hx0 : 0 < x) (hL0 : LI h x L xs G) (hBB : G.2.2.1 < 2 ^ 29) (hi : i + 6 ≤ L) (hL31 : L < 2 ^ 30) (hbc : 4 ≤ bc) (hbs : 24 ≤ bs)
    (K : ∀ h' G' l5 l6 l7 bc' bs', LI h' x L xs G' → G'.2.2.1 ≤ G.2.2.1 + 300 → bc ≤ bc' + 4 → bs ≤ bs' + 24 → pm_W PP 401 2021 Q bc' bs' 1899 [some (.ref 0), some (.ref x), some (.ref (x + 82)), some (.ref (x + 905)), some (.int (nI i)), l5, l6, l7] [] h') :
    pm_W PP 401 2021 Q bc bs 1737 [some (.ref 0), some (.ref x), some (.ref (x + 82)), some (.ref (x + 905)), some (.int (nI i)), l5, l6, l7] [] h := by
  obtain ⟨a1, a2, a3, a4, a5, a6, a7⟩ := id hL0
  have hx := a1.1.1.1
  have r1 : i + 1 < L := by omega
  have r2 : i + 2 < L := by omega
  have r3 : i + 3 < L := by omega
  have r4 : i + 4 < L := by omega
  have r5 : i + 5 < L := by omega
  simp (disch := omega) only [u_2021_1737, B_2021_1737, nI1T, Nat.left_eq_add, Nat.add_eq_left, Nat.add_eq_zero_iff, and_false, false_and, if_false, if_true, opsN, opsC, pm_1, lg, ls1, ls2, lq, List.length_cons, List.length_nil, cN, cL, callE, retV, retN, pm_pop, pm_cat, List.map_cons, List.map_nil, List.sum_cons, List.sum_nil, Value.category, Option.toList, List.cons_append, List.nil_append, ↓reduceIte, reduceCtorEq, Nat.reduceAdd, Nat.reduceLT, Nat.reduceLeDiff, Nat.reduceSub, Nat.reduceEqDiff, Nat.zero_le, Nat.sub_zero, Nat.le_refl, true_and, and_true, not_true_eq_false, not_false_eq_true, true_or, or_true, lc_eq, lc_ne, lc_lt, lc_ge, lc_gt, lc_le, nI_add, lN_add, nI_leI, nI_ltI, nI_eq, nI_clamp, pk_lLT, pk_lLE, pk_lEQ, pk_sub, vp_inT, nz_eq, nz_lt, nz_ge, nz_gt, nz_le, lz_eq, lz_lt, lz_ge, hP1, hP2, hP3, hP4, hP5, hP6, hP7, hP8, hP9, hP10, hP11, hP12, hP13, hP14, hP15, hP16, hP17, hP18, hP19, hP20, a5, a6, a7, r1, r2, r3, r4, r5]
  rcases P925 a1 a2 (xs (i + 1)) ((xs (i + 2)).toInt64 <<< ((nI 32).toInt64 &&& 63) ||| (xs (i + 3)).toInt64 &&& lN 4294967295) (xs (i + 4)) (xs (i + 5)) with ⟨r, hr, hw, hc, hm⟩ | ⟨v, G', hB, hc, hm⟩
  · refine ⟨by omega, by omega, wr_2020 _ _ _ _ hx hr hw hc ?_⟩
    intro h1 c f
    have b5 : hT h1 0 = 110 := by rw [f.1]; exact a5
    have b6 : hN h1 0 = L := by rw [f.2.1]; exact a6
    have b7 : hI h1 0 = xs := by rw [(f.2.2.2 0 (by omega)).1]; exact a7
    have mm := MI_X f (.inr (Nat.le_refl _)) a2
    have m10 := mm.1.1.1
    simp (disch := omega) only [nI1T, Nat.left_eq_add, Nat.add_eq_left, Nat.add_eq_zero_iff, and_false, false_and, if_false, if_true, opsN, opsC, pm_1, lg, ls1, ls2, lq, List.length_cons, List.length_nil, cN, cL, callE, retV, retN, pm_pop, pm_cat, List.map_cons, List.map_nil, List.sum_cons, List.sum_nil, Value.category, Option.toList, List.cons_append, List.nil_append, ↓reduceIte, reduceCtorEq, Nat.reduceAdd, Nat.reduceLT, Nat.reduceLeDiff, Nat.reduceSub, Nat.reduceEqDiff, Nat.zero_le, Nat.sub_zero, Nat.le_refl, true_and, and_true, not_true_eq_false, not_false_eq_true, true_or, or_true, lc_eq, lc_ne, lc_lt, lc_ge, lc_gt, lc_le, nI_add, lN_add, nI_leI, nI_ltI, nI_eq, nI_clamp, pk_lLT, pk_lLE, pk_lEQ, pk_sub, vp_inT, nz_eq, nz_lt, nz_ge, nz_gt, nz_le, lz_eq, lz_lt, lz_ge, hP1, hP2, hP3, hP4, hP5, hP6, hP7, hP8, hP9, hP10, hP11, hP12, hP13, hP14, hP15, hP16, hP17, hP18, hP19, hP20, b5, b6, b7, r1, r2, r3, r4, r5, m10]
    refine pm_M_succ _ _ _ _ _ _ (hm h1 _ mm ?_)
    intro h2 mm2 g t0
    have m10 := mm2.1.1.1
    have LI2 := LI_2 hx0 hL0 c f mm2 g
    simp (disch := omega) only [nI1T, Nat.left_eq_add, Nat.add_eq_left, Nat.add_eq_zero_iff, and_false, false_and, if_false, if_true, opsN, opsC, pm_1, lg, ls1, ls2, lq, List.length_cons, List.length_nil, cN, cL, callE, retV, retN, pm_pop, pm_cat, List.map_cons, List.map_nil, List.sum_cons, List.sum_nil, Value.category, Option.toList, List.cons_append, List.nil_append, ↓reduceIte, reduceCtorEq, Nat.reduceAdd, Nat.reduceLT, Nat.reduceLeDiff, Nat.reduceSub, Nat.reduceEqDiff, Nat.zero_le, Nat.sub_zero, Nat.le_refl, true_and, and_true, not_true_eq_false, not_false_eq_true, true_or, or_true, lc_eq, lc_ne, lc_lt, lc_ge, lc_gt, lc_le, nI_add, lN_add, nI_leI, nI_ltI, nI_eq, nI_clamp, pk_lLT, pk_lLE, pk_lEQ, pk_sub, vp_inT, nz_eq, nz_lt, nz_ge, nz_gt, nz_le, lz_eq, lz_lt, lz_ge, hP1, hP2, hP3, hP4, hP5, hP6, hP7, hP8, hP9, hP10, hP11, hP12, hP13, hP14, hP15, hP16, hP17, hP18, hP19, hP20, m10]
    rw [q1001 _ m10, t0]
    have wz : ¬ [0, 1, 0, 2].getD r 0 = 0 := by omega
    have wl4 : [0, 1, 0, 2].getD r 0 < 2 ^ 31 := by rcases (show r = 0 ∨ r = 1 ∨ r = 2 ∨ r = 3 by omega) with e | e | e | e <;> subst e <;> decide
    generalize [0, 1, 0, 2].getD r 0 = wn at *
    simp (disch := omega) only [u_2021_1841, B_2021_1841, u_2021_1857, B_2021_1857, nI1T, Nat.left_eq_add, Nat.add_eq_left, Nat.add_eq_zero_iff, and_false, false_and, if_false, if_true, opsN, opsC, pm_1, lg, ls1, ls2, lq, List.length_cons, List.length_nil, cN, cL, callE, retV, retN, pm_pop, pm_cat, List.map_cons, List.map_nil, List.sum_cons, List.sum_nil, Value.category, Option.toList, List.cons_append, List.nil_append, ↓reduceIte, reduceCtorEq, Nat.reduceAdd, Nat.reduceLT, Nat.reduceLeDiff, Nat.reduceSub, Nat.reduceEqDiff, Nat.zero_le, Nat.sub_zero, Nat.le_refl, true_and, and_true, not_true_eq_false, not_false_eq_true, true_or, or_true, lc_eq, lc_ne, lc_lt, lc_ge, lc_gt, lc_le, nI_add, lN_add, nI_leI, nI_ltI, nI_eq, nI_clamp, pk_lLT, pk_lLE, pk_lEQ, pk_sub, vp_inT, nz_eq, nz_lt, nz_ge, nz_gt, nz_le, lz_eq, lz_lt, lz_ge, hP1, hP2, hP3, hP4, hP5, hP6, hP7, hP8, hP9, hP10, hP11, hP12, hP13, hP14, hP15, hP16, hP17, hP18, hP19, hP20, wz]
    exact K h2 _ _ _ _ _ _ LI2 (Nat.le_add_right _ _) (by omega) (by omega)
  · refine ⟨by omega, by omega, wd_2020 _ _ _ _ hx a3 a4 hc ?_⟩
    intro h1 c f
    have fo : frX (x + 905) (x + 906) h1 (sL h1 (x + 905) (va_up (hL h1 (x + 905)) 0 v)) := frX_o (by omega) (by omega)
    have b5 : hT h1 0 = 110 := by rw [f.1]; exact a5
    have b6 : hN h1 0 = L := by rw [f.2.1]; exact a6
    have b7 : hI h1 0 = xs := by rw [(f.2.2.2 0 (by omega)).1]; exact a7
    have mm := MI_X fo (by omega) (MI_X f (.inr (Nat.le_refl _)) a2)
    have c' := CI_X fo (by omega) c
    have m10 : hT h1 (x + 82) = 10 := mm.1.1.1
    have ov : hL (sL h1 (x + 905) (va_up (hL h1 (x + 905)) 0 v)) (x + 905) 0 = v := by rw [hP7, va_up_self, va_up_self]
    simp (disch := omega) only [nI1T, Nat.left_eq_add, Nat.add_eq_left, Nat.add_eq_zero_iff, and_false, false_and, if_false, if_true, opsN, opsC, pm_1, lg, ls1, ls2, lq, List.length_cons, List.length_nil, cN, cL, callE, retV, retN, pm_pop, pm_cat, List.map_cons, List.map_nil, List.sum_cons, List.sum_nil, Value.category, Option.toList, List.cons_append, List.nil_append, ↓reduceIte, reduceCtorEq, Nat.reduceAdd, Nat.reduceLT, Nat.reduceLeDiff, Nat.reduceSub, Nat.reduceEqDiff, Nat.zero_le, Nat.sub_zero, Nat.le_refl, true_and, and_true, not_true_eq_false, not_false_eq_true, true_or, or_true, lc_eq, lc_ne, lc_lt, lc_ge, lc_gt, lc_le, nI_add, lN_add, nI_leI, nI_ltI, nI_eq, nI_clamp, pk_lLT, pk_lLE, pk_lEQ, pk_sub, vp_inT, nz_eq, nz_lt, nz_ge, nz_gt, nz_le, lz_eq, lz_lt, lz_ge, hP1, hP2, hP3, hP4, hP5, hP6, hP7, hP8, hP9, hP10, hP11, hP12, hP13, hP14, hP15, hP16, hP17, hP18, hP19, hP20, b5, b6, b7, r1, r2, r3, r4, r5, m10]
    refine pm_M_succ _ _ _ _ _ _ (hm _ _ mm ?_)
    intro h2 mm2 g t0
    have m10 := mm2.1.1.1
    have ov2 : hL h2 (x + 905) 0 = v := by rw [(g.2.2.2 (x + 905) (by omega)).2.1]; exact ov
    have o1 : hT h2 (x + 905) = 101 := by rw [g.1, fo.1, f.1]; exact a3
    have o2 : hN h2 (x + 905) = 1 := by rw [g.2.1, fo.2.1, f.2.1]; exact a4
    have LI2 : LI h2 x L xs G' := by
      refine ⟨CI_X g (by omega) c', mm2, o1, o2, ?_, ?_, ?_⟩
      · rw [g.1, fo.1, f.1]; exact a5
      · rw [g.2.1, fo.2.1, f.2.1]; exact a6
      · rw [(g.2.2.2 0 (by omega)).1, (fo.2.2.2 0 (by omega)).1, (f.2.2.2 0 (by omega)).1]; exact a7
    simp (disch := omega) only [nI1T, Nat.left_eq_add, Nat.add_eq_left, Nat.add_eq_zero_iff, and_false, false_and, if_false, if_true, opsN, opsC, pm_1, lg, ls1, ls2, lq, List.length_cons, List.length_nil, cN, cL, callE, retV, retN, pm_pop, pm_cat, List.map_cons, List.map_nil, List.sum_cons, List.sum_nil, Value.category, Option.toList, List.cons_append, List.nil_append, ↓reduceIte, reduceCtorEq, Nat.reduceAdd, Nat.reduceLT, Nat.reduceLeDiff, Nat.reduceSub, Nat.reduceEqDiff, Nat.zero_le, Nat.sub_zero, Nat.le_refl, true_and, and_true, not_true_eq_false, not_false_eq_true, true_or, or_true, lc_eq, lc_ne, lc_lt, lc_ge, lc_gt, lc_le, nI_add, lN_add, nI_leI, nI_ltI, nI_eq, nI_clamp, pk_lLT, pk_lLE, pk_lEQ, pk_sub, vp_inT, nz_eq, nz_lt, nz_ge, nz_gt, nz_le, lz_eq, lz_lt, lz_ge, hP1, hP2, hP3, hP4, hP5, hP6, hP7, hP8, hP9, hP10, hP11, hP12, hP13, hP14, hP15, hP16, hP17, hP18, hP19, hP20, m10]
    rw [q1001 _ m10, t0]
    simp (disch := omega) only [u_2021_1841, B_2021_1841, u_2021_1857, B_2021_1857, nI1T, Nat.left_eq_add, Nat.add_eq_left, Nat.add_eq_zero_iff, and_false, false_and, if_false, if_true, opsN, opsC, pm_1, lg, ls1, ls2, lq, List.length_cons, List.length_nil, cN, cL, callE, retV, retN, pm_pop, pm_cat, List.map_cons, List.map_nil, List.sum_cons, List.sum_nil, Value.category, Option.toList, List.cons_append, List.nil_append, ↓reduceIte, reduceCtorEq, Nat.reduceAdd, Nat.reduceLT, Nat.reduceLeDiff, Nat.reduceSub, Nat.reduceEqDiff, Nat.zero_le, Nat.sub_zero, Nat.le_refl, true_and, and_true, not_true_eq_false, not_false_eq_true, true_or, or_true, lc_eq, lc_ne, lc_lt, lc_ge, lc_gt, lc_le, nI_add, lN_add, nI_leI, nI_ltI, nI_eq, nI_clamp, pk_lLT, pk_lLE, pk_lEQ, pk_sub, vp_inT, nz_eq, nz_lt, nz_ge, nz_gt, nz_le, lz_eq, lz_lt, lz_ge, hP1, hP2, hP3, hP4, hP5, hP6, hP7, hP8, hP9, hP10, hP11, hP12, hP13, hP14, hP15, hP16, hP17, hP18, hP19, hP20, o1, o2, ov2]
    exact K h2 _ _ _ _ _ _ LI2 hB (by omega) (by omega)
end LT2
