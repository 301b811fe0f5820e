/-! the turns without a wrapper; written by turns3.py -/
section LT3
variable {h : pm_H} {x L i bc bs : Nat} {xs : Nat → Int32} {G : Gs} {Q : pm_Q}
theorem tn_164 {l5 l6 l7 : Option Value} (hx0 : 0 < x) (hL0 : LI h x L xs G) (hBB : G.2.2.1 < 2 ^ 29) (hi : i + 6 ≤ L) (hL31 : L < 2 ^ 30) (hbc : 4 ≤ bc) (hbs : 24 ≤ bs)
    (K : ∀ h' G' l5 l6 l7 bc' bs', LI h' x L xs G' → G'.2.2.1 ≤ G.2.2.1 + 300 → bc ≤ bc' + 4 → bs ≤ bs' + 24 → pm_W PP 401 2021 Q bc' bs' 1899 [some (.ref 0), some (.ref x), some (.ref (x + 82)), some (.ref (x + 905)), some (.int (nI i)), l5, l6, l7] [] h') :
    pm_W PP 401 2021 Q bc bs 164 [some (.ref 0), some (.ref x), some (.ref (x + 82)), some (.ref (x + 905)), some (.int (nI i)), l5, l6, l7] [] h := by
  obtain ⟨a1, a2, a3, a4, a5, a6, a7⟩ := id hL0
  have hx := a1.1.1.1
  have r1 : i + 1 < L := by omega
  have r2 : i + 2 < L := by omega
  have r3 : i + 3 < L := by omega
  have r4 : i + 4 < L := by omega
  have r5 : i + 5 < L := by omega
  obtain ⟨v, G', hB, hc, hm⟩ := P901 a1 a2 (xs (i + 1)) (xs (i + 2)) (xs (i + 3)) (xs (i + 4)) (xs (i + 5))
  simp (disch := omega) only [u_2021_164, B_2021_164, nI1T, Nat.left_eq_add, Nat.add_eq_left, Nat.add_eq_zero_iff, and_false, false_and, if_false, if_true, opsN, opsC, pm_1, lg, ls1, ls2, lq, List.length_cons, List.length_nil, cN, cL, callE, retV, retN, pm_pop, pm_cat, List.map_cons, List.map_nil, List.sum_cons, List.sum_nil, Value.category, Option.toList, List.cons_append, List.nil_append, ↓reduceIte, reduceCtorEq, Nat.reduceAdd, Nat.reduceLT, Nat.reduceLeDiff, Nat.reduceSub, Nat.reduceEqDiff, Nat.zero_le, Nat.sub_zero, Nat.le_refl, true_and, and_true, not_true_eq_false, not_false_eq_true, true_or, or_true, lc_eq, lc_ne, lc_lt, lc_ge, lc_gt, lc_le, nI_add, lN_add, nI_leI, nI_ltI, nI_eq, nI_clamp, pk_lLT, pk_lLE, pk_lEQ, pk_sub, vp_inT, nz_eq, nz_lt, nz_ge, nz_gt, nz_le, lz_eq, lz_lt, lz_ge, hP1, hP2, hP3, hP4, hP5, hP6, hP7, hP8, hP9, hP10, hP11, hP12, hP13, hP14, hP15, hP16, hP17, hP18, hP19, hP20, a5, a6, a7, hx, r1, r2, r3, r4, r5]
  refine pm_M_succ _ _ _ _ _ _ (hc _ ?_)
  intro h1 c f
  have b5 : hT h1 0 = 110 := by rw [f.1]; exact a5
  have b6 : hN h1 0 = L := by rw [f.2.1]; exact a6
  have b7 : hI h1 0 = xs := by rw [(f.2.2.2 0 (by omega)).1]; exact a7
  have mm := MI_X f (.inr (Nat.le_refl _)) a2
  have m10 := mm.1.1.1
  simp (disch := omega) only [nI1T, Nat.left_eq_add, Nat.add_eq_left, Nat.add_eq_zero_iff, and_false, false_and, if_false, if_true, opsN, opsC, pm_1, lg, ls1, ls2, lq, List.length_cons, List.length_nil, cN, cL, callE, retV, retN, pm_pop, pm_cat, List.map_cons, List.map_nil, List.sum_cons, List.sum_nil, Value.category, Option.toList, List.cons_append, List.nil_append, ↓reduceIte, reduceCtorEq, Nat.reduceAdd, Nat.reduceLT, Nat.reduceLeDiff, Nat.reduceSub, Nat.reduceEqDiff, Nat.zero_le, Nat.sub_zero, Nat.le_refl, true_and, and_true, not_true_eq_false, not_false_eq_true, true_or, or_true, lc_eq, lc_ne, lc_lt, lc_ge, lc_gt, lc_le, nI_add, lN_add, nI_leI, nI_ltI, nI_eq, nI_clamp, pk_lLT, pk_lLE, pk_lEQ, pk_sub, vp_inT, nz_eq, nz_lt, nz_ge, nz_gt, nz_le, lz_eq, lz_lt, lz_ge, hP1, hP2, hP3, hP4, hP5, hP6, hP7, hP8, hP9, hP10, hP11, hP12, hP13, hP14, hP15, hP16, hP17, hP18, hP19, hP20, b5, b6, b7, m10, r1, r2, r3, r4, r5]
  refine pm_M_succ _ _ _ _ _ _ (hm h1 _ mm ?_)
  intro h2 mm2 g t0
  have LI2 := LI_2 hx0 hL0 c f mm2 g
  simp (disch := omega) only [nI1T, Nat.left_eq_add, Nat.add_eq_left, Nat.add_eq_zero_iff, and_false, false_and, if_false, if_true, opsN, opsC, pm_1, lg, ls1, ls2, lq, List.length_cons, List.length_nil, cN, cL, callE, retV, retN, pm_pop, pm_cat, List.map_cons, List.map_nil, List.sum_cons, List.sum_nil, Value.category, Option.toList, List.cons_append, List.nil_append, ↓reduceIte, reduceCtorEq, Nat.reduceAdd, Nat.reduceLT, Nat.reduceLeDiff, Nat.reduceSub, Nat.reduceEqDiff, Nat.zero_le, Nat.sub_zero, Nat.le_refl, true_and, and_true, not_true_eq_false, not_false_eq_true, true_or, or_true, lc_eq, lc_ne, lc_lt, lc_ge, lc_gt, lc_le, nI_add, lN_add, nI_leI, nI_ltI, nI_eq, nI_clamp, pk_lLT, pk_lLE, pk_lEQ, pk_sub, vp_inT, nz_eq, nz_lt, nz_ge, nz_gt, nz_le, lz_eq, lz_lt, lz_ge, hP1, hP2, hP3, hP4, hP5, hP6, hP7, hP8, hP9, hP10, hP11, hP12, hP13, hP14, hP15, hP16, hP17, hP18, hP19, hP20]
  exact K h2 _ _ _ _ _ _ LI2 hB (by omega) (by omega)
theorem tn_349 {l5 l6 l7 : Option Value} (hx0 : 0 < x) (hL0 : LI h x L xs G) (hBB : G.2.2.1 < 2 ^ 29) (hi : i + 6 ≤ L) (hL31 : L < 2 ^ 30) (hbc : 4 ≤ bc) (hbs : 24 ≤ bs)
    (K : ∀ h' G' l5 l6 l7 bc' bs', LI h' x L xs G' → G'.2.2.1 ≤ G.2.2.1 + 300 → bc ≤ bc' + 4 → bs ≤ bs' + 24 → pm_W PP 401 2021 Q bc' bs' 1899 [some (.ref 0), some (.ref x), some (.ref (x + 82)), some (.ref (x + 905)), some (.int (nI i)), l5, l6, l7] [] h') :
    pm_W PP 401 2021 Q bc bs 349 [some (.ref 0), some (.ref x), some (.ref (x + 82)), some (.ref (x + 905)), some (.int (nI i)), l5, l6, l7] [] h := by
  obtain ⟨a1, a2, a3, a4, a5, a6, a7⟩ := id hL0
  have hx := a1.1.1.1
  obtain ⟨v, G', hB, hc, hm⟩ := P904 a1 a2 
  simp (disch := omega) only [u_2021_349, B_2021_349, nI1T, Nat.left_eq_add, Nat.add_eq_left, Nat.add_eq_zero_iff, and_false, false_and, if_false, if_true, opsN, opsC, pm_1, lg, ls1, ls2, lq, List.length_cons, List.length_nil, cN, cL, callE, retV, retN, pm_pop, pm_cat, List.map_cons, List.map_nil, List.sum_cons, List.sum_nil, Value.category, Option.toList, List.cons_append, List.nil_append, ↓reduceIte, reduceCtorEq, Nat.reduceAdd, Nat.reduceLT, Nat.reduceLeDiff, Nat.reduceSub, Nat.reduceEqDiff, Nat.zero_le, Nat.sub_zero, Nat.le_refl, true_and, and_true, not_true_eq_false, not_false_eq_true, true_or, or_true, lc_eq, lc_ne, lc_lt, lc_ge, lc_gt, lc_le, nI_add, lN_add, nI_leI, nI_ltI, nI_eq, nI_clamp, pk_lLT, pk_lLE, pk_lEQ, pk_sub, vp_inT, nz_eq, nz_lt, nz_ge, nz_gt, nz_le, lz_eq, lz_lt, lz_ge, hP1, hP2, hP3, hP4, hP5, hP6, hP7, hP8, hP9, hP10, hP11, hP12, hP13, hP14, hP15, hP16, hP17, hP18, hP19, hP20, a5, a6, a7, hx]
  refine pm_M_succ _ _ _ _ _ _ (hc _ ?_)
  intro h1 c f
  have b5 : hT h1 0 = 110 := by rw [f.1]; exact a5
  have b6 : hN h1 0 = L := by rw [f.2.1]; exact a6
  have b7 : hI h1 0 = xs := by rw [(f.2.2.2 0 (by omega)).1]; exact a7
  have mm := MI_X f (.inr (Nat.le_refl _)) a2
  have m10 := mm.1.1.1
  simp (disch := omega) only [nI1T, Nat.left_eq_add, Nat.add_eq_left, Nat.add_eq_zero_iff, and_false, false_and, if_false, if_true, opsN, opsC, pm_1, lg, ls1, ls2, lq, List.length_cons, List.length_nil, cN, cL, callE, retV, retN, pm_pop, pm_cat, List.map_cons, List.map_nil, List.sum_cons, List.sum_nil, Value.category, Option.toList, List.cons_append, List.nil_append, ↓reduceIte, reduceCtorEq, Nat.reduceAdd, Nat.reduceLT, Nat.reduceLeDiff, Nat.reduceSub, Nat.reduceEqDiff, Nat.zero_le, Nat.sub_zero, Nat.le_refl, true_and, and_true, not_true_eq_false, not_false_eq_true, true_or, or_true, lc_eq, lc_ne, lc_lt, lc_ge, lc_gt, lc_le, nI_add, lN_add, nI_leI, nI_ltI, nI_eq, nI_clamp, pk_lLT, pk_lLE, pk_lEQ, pk_sub, vp_inT, nz_eq, nz_lt, nz_ge, nz_gt, nz_le, lz_eq, lz_lt, lz_ge, hP1, hP2, hP3, hP4, hP5, hP6, hP7, hP8, hP9, hP10, hP11, hP12, hP13, hP14, hP15, hP16, hP17, hP18, hP19, hP20, b5, b6, b7, m10]
  refine pm_M_succ _ _ _ _ _ _ (hm h1 _ mm ?_)
  intro h2 mm2 g t0
  have LI2 := LI_2 hx0 hL0 c f mm2 g
  simp (disch := omega) only [nI1T, Nat.left_eq_add, Nat.add_eq_left, Nat.add_eq_zero_iff, and_false, false_and, if_false, if_true, opsN, opsC, pm_1, lg, ls1, ls2, lq, List.length_cons, List.length_nil, cN, cL, callE, retV, retN, pm_pop, pm_cat, List.map_cons, List.map_nil, List.sum_cons, List.sum_nil, Value.category, Option.toList, List.cons_append, List.nil_append, ↓reduceIte, reduceCtorEq, Nat.reduceAdd, Nat.reduceLT, Nat.reduceLeDiff, Nat.reduceSub, Nat.reduceEqDiff, Nat.zero_le, Nat.sub_zero, Nat.le_refl, true_and, and_true, not_true_eq_false, not_false_eq_true, true_or, or_true, lc_eq, lc_ne, lc_lt, lc_ge, lc_gt, lc_le, nI_add, lN_add, nI_leI, nI_ltI, nI_eq, nI_clamp, pk_lLT, pk_lLE, pk_lEQ, pk_sub, vp_inT, nz_eq, nz_lt, nz_ge, nz_gt, nz_le, lz_eq, lz_lt, lz_ge, hP1, hP2, hP3, hP4, hP5, hP6, hP7, hP8, hP9, hP10, hP11, hP12, hP13, hP14, hP15, hP16, hP17, hP18, hP19, hP20]
  exact K h2 _ _ _ _ _ _ LI2 hB (by omega) (by omega)
theorem tn_866 {l5 l6 l7 : Option Value} (hx0 : 0 < x) (hL0 : LI h x L xs G) (hBB : G.2.2.1 < 2 ^ 29) (hi : i + 6 ≤ L) (hL31 : L < 2 ^ 30) (hbc : 4 ≤ bc) (hbs : 24 ≤ bs)
    (K : ∀ h' G' l5 l6 l7 bc' bs', LI h' x L xs G' → G'.2.2.1 ≤ G.2.2.1 + 300 → bc ≤ bc' + 4 → bs ≤ bs' + 24 → pm_W PP 401 2021 Q bc' bs' 1899 [some (.ref 0), some (.ref x), some (.ref (x + 82)), some (.ref (x + 905)), some (.int (nI i)), l5, l6, l7] [] h') :
    pm_W PP 401 2021 Q bc bs 866 [some (.ref 0), some (.ref x), some (.ref (x + 82)), some (.ref (x + 905)), some (.int (nI i)), l5, l6, l7] [] h := by
  obtain ⟨a1, a2, a3, a4, a5, a6, a7⟩ := id hL0
  have hx := a1.1.1.1
  obtain ⟨v, G', hB, hc, hm⟩ := P912 a1 a2 
  simp (disch := omega) only [u_2021_866, B_2021_866, nI1T, Nat.left_eq_add, Nat.add_eq_left, Nat.add_eq_zero_iff, and_false, false_and, if_false, if_true, opsN, opsC, pm_1, lg, ls1, ls2, lq, List.length_cons, List.length_nil, cN, cL, callE, retV, retN, pm_pop, pm_cat, List.map_cons, List.map_nil, List.sum_cons, List.sum_nil, Value.category, Option.toList, List.cons_append, List.nil_append, ↓reduceIte, reduceCtorEq, Nat.reduceAdd, Nat.reduceLT, Nat.reduceLeDiff, Nat.reduceSub, Nat.reduceEqDiff, Nat.zero_le, Nat.sub_zero, Nat.le_refl, true_and, and_true, not_true_eq_false, not_false_eq_true, true_or, or_true, lc_eq, lc_ne, lc_lt, lc_ge, lc_gt, lc_le, nI_add, lN_add, nI_leI, nI_ltI, nI_eq, nI_clamp, pk_lLT, pk_lLE, pk_lEQ, pk_sub, vp_inT, nz_eq, nz_lt, nz_ge, nz_gt, nz_le, lz_eq, lz_lt, lz_ge, hP1, hP2, hP3, hP4, hP5, hP6, hP7, hP8, hP9, hP10, hP11, hP12, hP13, hP14, hP15, hP16, hP17, hP18, hP19, hP20, a5, a6, a7, hx]
  refine pm_M_succ _ _ _ _ _ _ (hc _ ?_)
  intro h1 c f
  have b5 : hT h1 0 = 110 := by rw [f.1]; exact a5
  have b6 : hN h1 0 = L := by rw [f.2.1]; exact a6
  have b7 : hI h1 0 = xs := by rw [(f.2.2.2 0 (by omega)).1]; exact a7
  have mm := MI_X f (.inr (Nat.le_refl _)) a2
  have m10 := mm.1.1.1
  simp (disch := omega) only [nI1T, Nat.left_eq_add, Nat.add_eq_left, Nat.add_eq_zero_iff, and_false, false_and, if_false, if_true, opsN, opsC, pm_1, lg, ls1, ls2, lq, List.length_cons, List.length_nil, cN, cL, callE, retV, retN, pm_pop, pm_cat, List.map_cons, List.map_nil, List.sum_cons, List.sum_nil, Value.category, Option.toList, List.cons_append, List.nil_append, ↓reduceIte, reduceCtorEq, Nat.reduceAdd, Nat.reduceLT, Nat.reduceLeDiff, Nat.reduceSub, Nat.reduceEqDiff, Nat.zero_le, Nat.sub_zero, Nat.le_refl, true_and, and_true, not_true_eq_false, not_false_eq_true, true_or, or_true, lc_eq, lc_ne, lc_lt, lc_ge, lc_gt, lc_le, nI_add, lN_add, nI_leI, nI_ltI, nI_eq, nI_clamp, pk_lLT, pk_lLE, pk_lEQ, pk_sub, vp_inT, nz_eq, nz_lt, nz_ge, nz_gt, nz_le, lz_eq, lz_lt, lz_ge, hP1, hP2, hP3, hP4, hP5, hP6, hP7, hP8, hP9, hP10, hP11, hP12, hP13, hP14, hP15, hP16, hP17, hP18, hP19, hP20, b5, b6, b7, m10]
  refine pm_M_succ _ _ _ _ _ _ (hm h1 _ mm ?_)
  intro h2 mm2 g t0
  have LI2 := LI_2 hx0 hL0 c f mm2 g
  simp (disch := omega) only [nI1T, Nat.left_eq_add, Nat.add_eq_left, Nat.add_eq_zero_iff, and_false, false_and, if_false, if_true, opsN, opsC, pm_1, lg, ls1, ls2, lq, List.length_cons, List.length_nil, cN, cL, callE, retV, retN, pm_pop, pm_cat, List.map_cons, List.map_nil, List.sum_cons, List.sum_nil, Value.category, Option.toList, List.cons_append, List.nil_append, ↓reduceIte, reduceCtorEq, Nat.reduceAdd, Nat.reduceLT, Nat.reduceLeDiff, Nat.reduceSub, Nat.reduceEqDiff, Nat.zero_le, Nat.sub_zero, Nat.le_refl, true_and, and_true, not_true_eq_false, not_false_eq_true, true_or, or_true, lc_eq, lc_ne, lc_lt, lc_ge, lc_gt, lc_le, nI_add, lN_add, nI_leI, nI_ltI, nI_eq, nI_clamp, pk_lLT, pk_lLE, pk_lEQ, pk_sub, vp_inT, nz_eq, nz_lt, nz_ge, nz_gt, nz_le, lz_eq, lz_lt, lz_ge, hP1, hP2, hP3, hP4, hP5, hP6, hP7, hP8, hP9, hP10, hP11, hP12, hP13, hP14, hP15, hP16, hP17, hP18, hP19, hP20]
  exact K h2 _ _ _ _ _ _ LI2 hB (by omega) (by omega)
theorem tn_1363 {l5 l6 l7 : Option Value} (hx0 : 0 < x) (hL0 : LI h x L xs G) (hBB : G.2.2.1 < 2 ^ 29) (hi : i + 6 ≤ L) (hL31 : L < 2 ^ 30) (hbc : 4 ≤ bc) (hbs : 24 ≤ bs)
    (K : ∀ h' G' l5 l6 l7 bc' bs', LI h' x L xs G' → G'.2.2.1 ≤ G.2.2.1 + 300 → bc ≤ bc' + 4 → bs ≤ bs' + 24 → pm_W PP 401 2021 Q bc' bs' 1899 [some (.ref 0), some (.ref x), some (.ref (x + 82)), some (.ref (x + 905)), some (.int (nI i)), l5, l6, l7] [] h') :
    pm_W PP 401 2021 Q bc bs 1363 [some (.ref 0), some (.ref x), some (.ref (x + 82)), some (.ref (x + 905)), some (.int (nI i)), l5, l6, l7] [] h := by
  obtain ⟨a1, a2, a3, a4, a5, a6, a7⟩ := id hL0
  have hx := a1.1.1.1
  obtain ⟨v, G', hB, hc, hm⟩ : ∃ v G', done x (x + 82) 920 1069 [] (.int v) G G' h := by
    rcases P920 a1 a2 with ⟨r, hr, hw, _⟩ | q
    · exact absurd hw (by rcases (show r = 0 ∨ r = 1 ∨ r = 2 ∨ r = 3 by omega) with e | e | e | e <;> subst e <;> decide)
    · exact q
  simp (disch := omega) only [u_2021_1363, B_2021_1363, nI1T, Nat.left_eq_add, Nat.add_eq_left, Nat.add_eq_zero_iff, and_false, false_and, if_false, if_true, opsN, opsC, pm_1, lg, ls1, ls2, lq, List.length_cons, List.length_nil, cN, cL, callE, retV, retN, pm_pop, pm_cat, List.map_cons, List.map_nil, List.sum_cons, List.sum_nil, Value.category, Option.toList, List.cons_append, List.nil_append, ↓reduceIte, reduceCtorEq, Nat.reduceAdd, Nat.reduceLT, Nat.reduceLeDiff, Nat.reduceSub, Nat.reduceEqDiff, Nat.zero_le, Nat.sub_zero, Nat.le_refl, true_and, and_true, not_true_eq_false, not_false_eq_true, true_or, or_true, lc_eq, lc_ne, lc_lt, lc_ge, lc_gt, lc_le, nI_add, lN_add, nI_leI, nI_ltI, nI_eq, nI_clamp, pk_lLT, pk_lLE, pk_lEQ, pk_sub, vp_inT, nz_eq, nz_lt, nz_ge, nz_gt, nz_le, lz_eq, lz_lt, lz_ge, hP1, hP2, hP3, hP4, hP5, hP6, hP7, hP8, hP9, hP10, hP11, hP12, hP13, hP14, hP15, hP16, hP17, hP18, hP19, hP20, a5, a6, a7, hx]
  refine pm_M_succ _ _ _ _ _ _ (hc _ ?_)
  intro h1 c f
  have b5 : hT h1 0 = 110 := by rw [f.1]; exact a5
  have b6 : hN h1 0 = L := by rw [f.2.1]; exact a6
  have b7 : hI h1 0 = xs := by rw [(f.2.2.2 0 (by omega)).1]; exact a7
  have mm := MI_X f (.inr (Nat.le_refl _)) a2
  have m10 := mm.1.1.1
  simp (disch := omega) only [nI1T, Nat.left_eq_add, Nat.add_eq_left, Nat.add_eq_zero_iff, and_false, false_and, if_false, if_true, opsN, opsC, pm_1, lg, ls1, ls2, lq, List.length_cons, List.length_nil, cN, cL, callE, retV, retN, pm_pop, pm_cat, List.map_cons, List.map_nil, List.sum_cons, List.sum_nil, Value.category, Option.toList, List.cons_append, List.nil_append, ↓reduceIte, reduceCtorEq, Nat.reduceAdd, Nat.reduceLT, Nat.reduceLeDiff, Nat.reduceSub, Nat.reduceEqDiff, Nat.zero_le, Nat.sub_zero, Nat.le_refl, true_and, and_true, not_true_eq_false, not_false_eq_true, true_or, or_true, lc_eq, lc_ne, lc_lt, lc_ge, lc_gt, lc_le, nI_add, lN_add, nI_leI, nI_ltI, nI_eq, nI_clamp, pk_lLT, pk_lLE, pk_lEQ, pk_sub, vp_inT, nz_eq, nz_lt, nz_ge, nz_gt, nz_le, lz_eq, lz_lt, lz_ge, hP1, hP2, hP3, hP4, hP5, hP6, hP7, hP8, hP9, hP10, hP11, hP12, hP13, hP14, hP15, hP16, hP17, hP18, hP19, hP20, b5, b6, b7, m10]
  refine pm_M_succ _ _ _ _ _ _ (hm h1 _ mm ?_)
  intro h2 mm2 g t0
  have LI2 := LI_2 hx0 hL0 c f mm2 g
  simp (disch := omega) only [nI1T, Nat.left_eq_add, Nat.add_eq_left, Nat.add_eq_zero_iff, and_false, false_and, if_false, if_true, opsN, opsC, pm_1, lg, ls1, ls2, lq, List.length_cons, List.length_nil, cN, cL, callE, retV, retN, pm_pop, pm_cat, List.map_cons, List.map_nil, List.sum_cons, List.sum_nil, Value.category, Option.toList, List.cons_append, List.nil_append, ↓reduceIte, reduceCtorEq, Nat.reduceAdd, Nat.reduceLT, Nat.reduceLeDiff, Nat.reduceSub, Nat.reduceEqDiff, Nat.zero_le, Nat.sub_zero, Nat.le_refl, true_and, and_true, not_true_eq_false, not_false_eq_true, true_or, or_true, lc_eq, lc_ne, lc_lt, lc_ge, lc_gt, lc_le, nI_add, lN_add, nI_leI, nI_ltI, nI_eq, nI_clamp, pk_lLT, pk_lLE, pk_lEQ, pk_sub, vp_inT, nz_eq, nz_lt, nz_ge, nz_gt, nz_le, lz_eq, lz_lt, lz_ge, hP1, hP2, hP3, hP4, hP5, hP6, hP7, hP8, hP9, hP10, hP11, hP12, hP13, hP14, hP15, hP16, hP17, hP18, hP19, hP20]
  exact K h2 _ _ _ _ _ _ LI2 hB (by omega) (by omega)
theorem tn_1860 {l5 l6 l7 : Option Value} (hx0 : 0 < x) (hL0 : LI h x L xs G) (hBB : G.2.2.1 < 2 ^ 29) (hi : i + 6 ≤ L) (hL31 : L < 2 ^ 30) (hbc : 4 ≤ bc) (hbs : 24 ≤ bs)
    (K : ∀ h' G' l5 l6 l7 bc' bs', LI h' x L xs G' → G'.2.2.1 ≤ G.2.2.1 + 300 → bc ≤ bc' + 4 → bs ≤ bs' + 24 → pm_W PP 401 2021 Q bc' bs' 1899 [some (.ref 0), some (.ref x), some (.ref (x + 82)), some (.ref (x + 905)), some (.int (nI i)), l5, l6, l7] [] h') :
    pm_W PP 401 2021 Q bc bs 1860 [some (.ref 0), some (.ref x), some (.ref (x + 82)), some (.ref (x + 905)), some (.int (nI i)), l5, l6, l7] [] h := by
  obtain ⟨a1, a2, a3, a4, a5, a6, a7⟩ := id hL0
  have hx := a1.1.1.1
  obtain ⟨v, G', hB, hc, hm⟩ := P926 a1 a2 (by omega) 
  simp (disch := omega) only [u_2021_1860, B_2021_1860, nI1T, Nat.left_eq_add, Nat.add_eq_left, Nat.add_eq_zero_iff, and_false, false_and, if_false, if_true, opsN, opsC, pm_1, lg, ls1, ls2, lq, List.length_cons, List.length_nil, cN, cL, callE, retV, retN, pm_pop, pm_cat, List.map_cons, List.map_nil, List.sum_cons, List.sum_nil, Value.category, Option.toList, List.cons_append, List.nil_append, ↓reduceIte, reduceCtorEq, Nat.reduceAdd, Nat.reduceLT, Nat.reduceLeDiff, Nat.reduceSub, Nat.reduceEqDiff, Nat.zero_le, Nat.sub_zero, Nat.le_refl, true_and, and_true, not_true_eq_false, not_false_eq_true, true_or, or_true, lc_eq, lc_ne, lc_lt, lc_ge, lc_gt, lc_le, nI_add, lN_add, nI_leI, nI_ltI, nI_eq, nI_clamp, pk_lLT, pk_lLE, pk_lEQ, pk_sub, vp_inT, nz_eq, nz_lt, nz_ge, nz_gt, nz_le, lz_eq, lz_lt, lz_ge, hP1, hP2, hP3, hP4, hP5, hP6, hP7, hP8, hP9, hP10, hP11, hP12, hP13, hP14, hP15, hP16, hP17, hP18, hP19, hP20, a5, a6, a7, hx]
  refine pm_M_succ _ _ _ _ _ _ (hc _ ?_)
  intro h1 c f
  have b5 : hT h1 0 = 110 := by rw [f.1]; exact a5
  have b6 : hN h1 0 = L := by rw [f.2.1]; exact a6
  have b7 : hI h1 0 = xs := by rw [(f.2.2.2 0 (by omega)).1]; exact a7
  have mm := MI_X f (.inr (Nat.le_refl _)) a2
  have m10 := mm.1.1.1
  simp (disch := omega) only [nI1T, Nat.left_eq_add, Nat.add_eq_left, Nat.add_eq_zero_iff, and_false, false_and, if_false, if_true, opsN, opsC, pm_1, lg, ls1, ls2, lq, List.length_cons, List.length_nil, cN, cL, callE, retV, retN, pm_pop, pm_cat, List.map_cons, List.map_nil, List.sum_cons, List.sum_nil, Value.category, Option.toList, List.cons_append, List.nil_append, ↓reduceIte, reduceCtorEq, Nat.reduceAdd, Nat.reduceLT, Nat.reduceLeDiff, Nat.reduceSub, Nat.reduceEqDiff, Nat.zero_le, Nat.sub_zero, Nat.le_refl, true_and, and_true, not_true_eq_false, not_false_eq_true, true_or, or_true, lc_eq, lc_ne, lc_lt, lc_ge, lc_gt, lc_le, nI_add, lN_add, nI_leI, nI_ltI, nI_eq, nI_clamp, pk_lLT, pk_lLE, pk_lEQ, pk_sub, vp_inT, nz_eq, nz_lt, nz_ge, nz_gt, nz_le, lz_eq, lz_lt, lz_ge, hP1, hP2, hP3, hP4, hP5, hP6, hP7, hP8, hP9, hP10, hP11, hP12, hP13, hP14, hP15, hP16, hP17, hP18, hP19, hP20, b5, b6, b7, m10]
  refine pm_M_succ _ _ _ _ _ _ (hm h1 _ mm ?_)
  intro h2 mm2 g t0
  have LI2 := LI_2 hx0 hL0 c f mm2 g
  simp (disch := omega) only [nI1T, Nat.left_eq_add, Nat.add_eq_left, Nat.add_eq_zero_iff, and_false, false_and, if_false, if_true, opsN, opsC, pm_1, lg, ls1, ls2, lq, List.length_cons, List.length_nil, cN, cL, callE, retV, retN, pm_pop, pm_cat, List.map_cons, List.map_nil, List.sum_cons, List.sum_nil, Value.category, Option.toList, List.cons_append, List.nil_append, ↓reduceIte, reduceCtorEq, Nat.reduceAdd, Nat.reduceLT, Nat.reduceLeDiff, Nat.reduceSub, Nat.reduceEqDiff, Nat.zero_le, Nat.sub_zero, Nat.le_refl, true_and, and_true, not_true_eq_false, not_false_eq_true, true_or, or_true, lc_eq, lc_ne, lc_lt, lc_ge, lc_gt, lc_le, nI_add, lN_add, nI_leI, nI_ltI, nI_eq, nI_clamp, pk_lLT, pk_lLE, pk_lEQ, pk_sub, vp_inT, nz_eq, nz_lt, nz_ge, nz_gt, nz_le, lz_eq, lz_lt, lz_ge, hP1, hP2, hP3, hP4, hP5, hP6, hP7, hP8, hP9, hP10, hP11, hP12, hP13, hP14, hP15, hP16, hP17, hP18, hP19, hP20]
  exact K h2 _ _ _ _ _ _ LI2 hB (by omega) (by omega)
theorem tn_1874 {l5 l6 l7 : Option Value} (hx0 : 0 < x) (hL0 : LI h x L xs G) (hBB : G.2.2.1 < 2 ^ 29) (hi : i + 6 ≤ L) (hL31 : L < 2 ^ 30) (hbc : 4 ≤ bc) (hbs : 24 ≤ bs)
    (K : ∀ h' G' l5 l6 l7 bc' bs', LI h' x L xs G' → G'.2.2.1 ≤ G.2.2.1 + 300 → bc ≤ bc' + 4 → bs ≤ bs' + 24 → pm_W PP 401 2021 Q bc' bs' 1899 [some (.ref 0), some (.ref x), some (.ref (x + 82)), some (.ref (x + 905)), some (.int (nI i)), l5, l6, l7] [] h') :
    pm_W PP 401 2021 Q bc bs 1874 [some (.ref 0), some (.ref x), some (.ref (x + 82)), some (.ref (x + 905)), some (.int (nI i)), l5, l6, l7] [] h := by
  obtain ⟨a1, a2, a3, a4, a5, a6, a7⟩ := id hL0
  have hx := a1.1.1.1
  have r1 : i + 1 < L := by omega
  obtain ⟨v, G', hB, hc, hm⟩ := P927 a1 a2 (xs (i + 1))
  simp (disch := omega) only [u_2021_1874, B_2021_1874, nI1T, Nat.left_eq_add, Nat.add_eq_left, Nat.add_eq_zero_iff, and_false, false_and, if_false, if_true, opsN, opsC, pm_1, lg, ls1, ls2, lq, List.length_cons, List.length_nil, cN, cL, callE, retV, retN, pm_pop, pm_cat, List.map_cons, List.map_nil, List.sum_cons, List.sum_nil, Value.category, Option.toList, List.cons_append, List.nil_append, ↓reduceIte, reduceCtorEq, Nat.reduceAdd, Nat.reduceLT, Nat.reduceLeDiff, Nat.reduceSub, Nat.reduceEqDiff, Nat.zero_le, Nat.sub_zero, Nat.le_refl, true_and, and_true, not_true_eq_false, not_false_eq_true, true_or, or_true, lc_eq, lc_ne, lc_lt, lc_ge, lc_gt, lc_le, nI_add, lN_add, nI_leI, nI_ltI, nI_eq, nI_clamp, pk_lLT, pk_lLE, pk_lEQ, pk_sub, vp_inT, nz_eq, nz_lt, nz_ge, nz_gt, nz_le, lz_eq, lz_lt, lz_ge, hP1, hP2, hP3, hP4, hP5, hP6, hP7, hP8, hP9, hP10, hP11, hP12, hP13, hP14, hP15, hP16, hP17, hP18, hP19, hP20, a5, a6, a7, hx, r1]
  refine pm_M_succ _ _ _ _ _ _ (hc _ ?_)
  intro h1 c f
  have b5 : hT h1 0 = 110 := by rw [f.1]; exact a5
  have b6 : hN h1 0 = L := by rw [f.2.1]; exact a6
  have b7 : hI h1 0 = xs := by rw [(f.2.2.2 0 (by omega)).1]; exact a7
  have mm := MI_X f (.inr (Nat.le_refl _)) a2
  have m10 := mm.1.1.1
  simp (disch := omega) only [nI1T, Nat.left_eq_add, Nat.add_eq_left, Nat.add_eq_zero_iff, and_false, false_and, if_false, if_true, opsN, opsC, pm_1, lg, ls1, ls2, lq, List.length_cons, List.length_nil, cN, cL, callE, retV, retN, pm_pop, pm_cat, List.map_cons, List.map_nil, List.sum_cons, List.sum_nil, Value.category, Option.toList, List.cons_append, List.nil_append, ↓reduceIte, reduceCtorEq, Nat.reduceAdd, Nat.reduceLT, Nat.reduceLeDiff, Nat.reduceSub, Nat.reduceEqDiff, Nat.zero_le, Nat.sub_zero, Nat.le_refl, true_and, and_true, not_true_eq_false, not_false_eq_true, true_or, or_true, lc_eq, lc_ne, lc_lt, lc_ge, lc_gt, lc_le, nI_add, lN_add, nI_leI, nI_ltI, nI_eq, nI_clamp, pk_lLT, pk_lLE, pk_lEQ, pk_sub, vp_inT, nz_eq, nz_lt, nz_ge, nz_gt, nz_le, lz_eq, lz_lt, lz_ge, hP1, hP2, hP3, hP4, hP5, hP6, hP7, hP8, hP9, hP10, hP11, hP12, hP13, hP14, hP15, hP16, hP17, hP18, hP19, hP20, b5, b6, b7, m10, r1]
  refine pm_M_succ _ _ _ _ _ _ (hm h1 _ mm ?_)
  intro h2 mm2 g t0
  have LI2 := LI_2 hx0 hL0 c f mm2 g
  simp (disch := omega) only [nI1T, Nat.left_eq_add, Nat.add_eq_left, Nat.add_eq_zero_iff, and_false, false_and, if_false, if_true, opsN, opsC, pm_1, lg, ls1, ls2, lq, List.length_cons, List.length_nil, cN, cL, callE, retV, retN, pm_pop, pm_cat, List.map_cons, List.map_nil, List.sum_cons, List.sum_nil, Value.category, Option.toList, List.cons_append, List.nil_append, ↓reduceIte, reduceCtorEq, Nat.reduceAdd, Nat.reduceLT, Nat.reduceLeDiff, Nat.reduceSub, Nat.reduceEqDiff, Nat.zero_le, Nat.sub_zero, Nat.le_refl, true_and, and_true, not_true_eq_false, not_false_eq_true, true_or, or_true, lc_eq, lc_ne, lc_lt, lc_ge, lc_gt, lc_le, nI_add, lN_add, nI_leI, nI_ltI, nI_eq, nI_clamp, pk_lLT, pk_lLE, pk_lEQ, pk_sub, vp_inT, nz_eq, nz_lt, nz_ge, nz_gt, nz_le, lz_eq, lz_lt, lz_ge, hP1, hP2, hP3, hP4, hP5, hP6, hP7, hP8, hP9, hP10, hP11, hP12, hP13, hP14, hP15, hP16, hP17, hP18, hP19, hP20]
  exact K h2 _ _ _ _ _ _ LI2 hB (by omega) (by omega)
end LT3
