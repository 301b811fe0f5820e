/-! ===== act: done, and kept ===== -/
def isX (h : pm_H) (x a p : Nat) : Prop := hT h x = 9 ∧ hR h x 0 = a ∧ hR h x 1 = p ∧ ¬ a = 0 ∧ ¬ p = 0
theorem c928a (d : Nat) {h : pm_H} {x a p : Nat} {L : List At} {y : At} {B : Hs} {Q : pm_Q} (hx : isX h x a p) (hd : a + 13 ≤ p ∨ p + 18 ≤ a) (hH : isH h a (runA B L)) (hj : hJ B) (hoL : okA B L) (hs : aS h p) (hr : aR h p L) (hB : isH h (p + 1) B) (hl : L.length < 8) (ho : hOk y (runA B L))
    (hQ : ∀ h', isH h' a (runA B (L ++ [y])) → aS h' p → aR h' p (L ++ [y]) → isH h' (p + 1) B → okA B (L ++ [y]) → hT h' = hT h → hN h' = hN h → hR h' = hR h → hn h' = hn h → (∀ k, (k < a ∨ a + 13 ≤ k) → (k < p ∨ p + 18 ≤ k) → hI h' k = hI h k ∧ hL h' k = hL h k) → Q (.inl (some (.int (nI (hAns y (runA B L)))))) h') :
    pm_M PP (d + 5) 928 [.ref x, .int (nI y.1), .int (nI y.2.1), .int (nI y.2.2.1), .long (lN y.2.2.2)] h Q := by
  obtain ⟨x0, x1', x2, x3, x4⟩ := hx
  have hT3 := hH.1.1
  have s0 := hs.1
  rw [e_928]
  simp (disch := omega) only [u_928_0, B_928_0, nI1T, Nat.left_eq_add, Nat.add_eq_left, Nat.add_eq_zero_iff, and_false, false_and, if_false, if_true, opsN, opsC, pm_1, lg, ls1, ls2, lq, List.length_cons, List.length_nil, cN, cL, callE, retV, retN, pm_pop, pm_cat, List.map_cons, List.map_nil, List.sum_cons, List.sum_nil, Value.category, Option.toList, List.cons_append, List.nil_append, ↓reduceIte, reduceCtorEq, Nat.reduceAdd, Nat.reduceLT, Nat.reduceLeDiff, Nat.reduceSub, Nat.reduceEqDiff, Nat.zero_le, Nat.sub_zero, Nat.le_refl, true_and, and_true, not_true_eq_false, not_false_eq_true, true_or, or_true, lc_eq, lc_ne, lc_lt, lc_ge, lc_gt, lc_le, nI_add, lN_add, nI_leI, nI_ltI, nI_eq, nI_clamp, pk_lLT, pk_lLE, pk_lEQ, pk_sub, vp_inT, nz_eq, nz_lt, nz_ge, nz_gt, nz_le, lz_eq, lz_lt, lz_ge, hP1, hP2, hP3, hP4, hP5, hP6, hP7, hP8, hP9, hP10, hP11, hP12, hP13, hP14, hP15, hP16, hP17, hP18, hP19, hP20, x0, x1', x3, hT3]
  refine c303 d hH (runA_J L hj hoL) ho ?_
  intro h1 hH1 hf1
  have y0 : hT h1 x = 9 := by rw [hf1.1]; exact x0
  have y2 : hR h1 x 1 = p := by rw [hf1.2.2.1]; exact x2
  have hs1 := aS_fr hf1 hs
  have t0 := hs1.1
  simp (disch := omega) only [nI1T, Nat.left_eq_add, Nat.add_eq_left, Nat.add_eq_zero_iff, and_false, false_and, if_false, if_true, opsN, opsC, pm_1, lg, ls1, ls2, lq, List.length_cons, List.length_nil, cN, cL, callE, retV, retN, pm_pop, pm_cat, List.map_cons, List.map_nil, List.sum_cons, List.sum_nil, Value.category, Option.toList, List.cons_append, List.nil_append, ↓reduceIte, reduceCtorEq, Nat.reduceAdd, Nat.reduceLT, Nat.reduceLeDiff, Nat.reduceSub, Nat.reduceEqDiff, Nat.zero_le, Nat.sub_zero, Nat.le_refl, true_and, and_true, not_true_eq_false, not_false_eq_true, true_or, or_true, lc_eq, lc_ne, lc_lt, lc_ge, lc_gt, lc_le, nI_add, lN_add, nI_leI, nI_ltI, nI_eq, nI_clamp, pk_lLT, pk_lLE, pk_lEQ, pk_sub, vp_inT, nz_eq, nz_lt, nz_ge, nz_gt, nz_le, lz_eq, lz_lt, lz_ge, hP1, hP2, hP3, hP4, hP5, hP6, hP7, hP8, hP9, hP10, hP11, hP12, hP13, hP14, hP15, hP16, hP17, hP18, hP19, hP20, y0, y2, x4, t0]
  refine c1a (d + 3) hs1 (aR_fr hf1 (by omega) hr) hl ?_
  intro h2 hs2 hr2 hf2
  simp (disch := omega) only [nI1T, Nat.left_eq_add, Nat.add_eq_left, Nat.add_eq_zero_iff, and_false, false_and, if_false, if_true, opsN, opsC, pm_1, lg, ls1, ls2, lq, List.length_cons, List.length_nil, cN, cL, callE, retV, retN, pm_pop, pm_cat, List.map_cons, List.map_nil, List.sum_cons, List.sum_nil, Value.category, Option.toList, List.cons_append, List.nil_append, ↓reduceIte, reduceCtorEq, Nat.reduceAdd, Nat.reduceLT, Nat.reduceLeDiff, Nat.reduceSub, Nat.reduceEqDiff, Nat.zero_le, Nat.sub_zero, Nat.le_refl, true_and, and_true, not_true_eq_false, not_false_eq_true, true_or, or_true, lc_eq, lc_ne, lc_lt, lc_ge, lc_gt, lc_le, nI_add, lN_add, nI_leI, nI_ltI, nI_eq, nI_clamp, pk_lLT, pk_lLE, pk_lEQ, pk_sub, vp_inT, nz_eq, nz_lt, nz_ge, nz_gt, nz_le, lz_eq, lz_lt, lz_ge, hP1, hP2, hP3, hP4, hP5, hP6, hP7, hP8, hP9, hP10, hP11, hP12, hP13, hP14, hP15, hP16, hP17, hP18, hP19, hP20]
  have hfp : fr p (p + 18) h1 h2 := ⟨hf2.1, hf2.2.1, hf2.2.2.1, hf2.2.2.2.1, fun k hk => hf2.2.2.2.2 k (by omega) (by omega)⟩
  refine hQ h2 ?_ hs2 hr2 (isH_frA hf2 (isH_fr hf1 (by omega) hB)) ((okA_app B L [y]).mpr ⟨hoL, ho, trivial⟩) (hf2.1.trans hf1.1) (hf2.2.1.trans hf1.2.1) (hf2.2.2.1.trans hf1.2.2.1) (hf2.2.2.2.1.trans hf1.2.2.2.1) (fun k h1 h2 => ?_)
  · rw [runA_app]
    exact isH_fr hfp (by omega) hH1
  · have z1 := hfp.2.2.2.2 k h2
    have z2 := hf1.2.2.2.2 k h1
    exact ⟨z1.1.trans z2.1, z1.2.trans z2.2⟩
theorem c928b (d : Nat) {h : pm_H} {x a p : Nat} {L : List At} {z y : At} {B : Hs} {Q : pm_Q} (hx : isX h x a p) (hd : a + 13 ≤ p ∨ p + 18 ≤ a) (hH : isH h a (runA B (z :: L))) (hj : hJ B) (hoL : okA B (z :: L)) (hs : aS h p) (hr : aR h p (z :: L)) (hB : isH h (p + 1) B) (hl : L.length = 7) (ho : hOk y (runA B (z :: L)))
    (hQ : ∀ h', isH h' a (runA (hAct z B) (L ++ [y])) → aS h' p → aR h' p (L ++ [y]) → isH h' (p + 1) (hAct z B) → okA (hAct z B) (L ++ [y]) → hT h' = hT h → hN h' = hN h → hR h' = hR h → hn h' = hn h → (∀ k, (k < a ∨ a + 13 ≤ k) → (k < p ∨ p + 18 ≤ k) → hI h' k = hI h k ∧ hL h' k = hL h k) → Q (.inl (some (.int (nI (hAns y (runA B (z :: L))))))) h') :
    pm_M PP (d + 6) 928 [.ref x, .int (nI y.1), .int (nI y.2.1), .int (nI y.2.2.1), .long (lN y.2.2.2)] h Q := by
  obtain ⟨x0, x1', x2, x3, x4⟩ := hx
  have hT3 := hH.1.1
  have s0 := hs.1
  rw [e_928]
  simp (disch := omega) only [u_928_0, B_928_0, nI1T, Nat.left_eq_add, Nat.add_eq_left, Nat.add_eq_zero_iff, and_false, false_and, if_false, if_true, opsN, opsC, pm_1, lg, ls1, ls2, lq, List.length_cons, List.length_nil, cN, cL, callE, retV, retN, pm_pop, pm_cat, List.map_cons, List.map_nil, List.sum_cons, List.sum_nil, Value.category, Option.toList, List.cons_append, List.nil_append, ↓reduceIte, reduceCtorEq, Nat.reduceAdd, Nat.reduceLT, Nat.reduceLeDiff, Nat.reduceSub, Nat.reduceEqDiff, Nat.zero_le, Nat.sub_zero, Nat.le_refl, true_and, and_true, not_true_eq_false, not_false_eq_true, true_or, or_true, lc_eq, lc_ne, lc_lt, lc_ge, lc_gt, lc_le, nI_add, lN_add, nI_leI, nI_ltI, nI_eq, nI_clamp, pk_lLT, pk_lLE, pk_lEQ, pk_sub, vp_inT, nz_eq, nz_lt, nz_ge, nz_gt, nz_le, lz_eq, lz_lt, lz_ge, hP1, hP2, hP3, hP4, hP5, hP6, hP7, hP8, hP9, hP10, hP11, hP12, hP13, hP14, hP15, hP16, hP17, hP18, hP19, hP20, x0, x1', x3, hT3]
  refine c303 (d + 1) hH (runA_J (z :: L) hj hoL) ho ?_
  intro h1 hH1 hf1
  have y0 : hT h1 x = 9 := by rw [hf1.1]; exact x0
  have y2 : hR h1 x 1 = p := by rw [hf1.2.2.1]; exact x2
  have hs1 := aS_fr hf1 hs
  have t0 := hs1.1
  simp (disch := omega) only [nI1T, Nat.left_eq_add, Nat.add_eq_left, Nat.add_eq_zero_iff, and_false, false_and, if_false, if_true, opsN, opsC, pm_1, lg, ls1, ls2, lq, List.length_cons, List.length_nil, cN, cL, callE, retV, retN, pm_pop, pm_cat, List.map_cons, List.map_nil, List.sum_cons, List.sum_nil, Value.category, Option.toList, List.cons_append, List.nil_append, ↓reduceIte, reduceCtorEq, Nat.reduceAdd, Nat.reduceLT, Nat.reduceLeDiff, Nat.reduceSub, Nat.reduceEqDiff, Nat.zero_le, Nat.sub_zero, Nat.le_refl, true_and, and_true, not_true_eq_false, not_false_eq_true, true_or, or_true, lc_eq, lc_ne, lc_lt, lc_ge, lc_gt, lc_le, nI_add, lN_add, nI_leI, nI_ltI, nI_eq, nI_clamp, pk_lLT, pk_lLE, pk_lEQ, pk_sub, vp_inT, nz_eq, nz_lt, nz_ge, nz_gt, nz_le, lz_eq, lz_lt, lz_ge, hP1, hP2, hP3, hP4, hP5, hP6, hP7, hP8, hP9, hP10, hP11, hP12, hP13, hP14, hP15, hP16, hP17, hP18, hP19, hP20, y0, y2, x4, t0]
  refine c1b d hs1 (aR_fr hf1 (by omega) hr) hl (isH_fr hf1 (by omega) hB) hj hoL.1 ?_
  intro h2 hs2 hr2 hB2 hfp
  simp (disch := omega) only [nI1T, Nat.left_eq_add, Nat.add_eq_left, Nat.add_eq_zero_iff, and_false, false_and, if_false, if_true, opsN, opsC, pm_1, lg, ls1, ls2, lq, List.length_cons, List.length_nil, cN, cL, callE, retV, retN, pm_pop, pm_cat, List.map_cons, List.map_nil, List.sum_cons, List.sum_nil, Value.category, Option.toList, List.cons_append, List.nil_append, ↓reduceIte, reduceCtorEq, Nat.reduceAdd, Nat.reduceLT, Nat.reduceLeDiff, Nat.reduceSub, Nat.reduceEqDiff, Nat.zero_le, Nat.sub_zero, Nat.le_refl, true_and, and_true, not_true_eq_false, not_false_eq_true, true_or, or_true, lc_eq, lc_ne, lc_lt, lc_ge, lc_gt, lc_le, nI_add, lN_add, nI_leI, nI_ltI, nI_eq, nI_clamp, pk_lLT, pk_lLE, pk_lEQ, pk_sub, vp_inT, nz_eq, nz_lt, nz_ge, nz_gt, nz_le, lz_eq, lz_lt, lz_ge, hP1, hP2, hP3, hP4, hP5, hP6, hP7, hP8, hP9, hP10, hP11, hP12, hP13, hP14, hP15, hP16, hP17, hP18, hP19, hP20]
  refine hQ h2 ?_ hs2 hr2 hB2 ((okA_app (hAct z B) L [y]).mpr ⟨hoL.2, ho, trivial⟩) (hfp.1.trans hf1.1) (hfp.2.1.trans hf1.2.1) (hfp.2.2.1.trans hf1.2.2.1) (hfp.2.2.2.1.trans hf1.2.2.2.1) (fun k h1 h2 => ?_)
  · rw [runA_app]
    exact isH_fr hfp (by omega) hH1
  · have z1 := hfp.2.2.2.2 k h2
    have z2 := hf1.2.2.2.2 k h1
    exact ⟨z1.1.trans z2.1, z1.2.trans z2.2⟩
