/-! ===== keep ===== -/
theorem getD_appA {L : List At} {y : At} {j : Nat} (hj : j < L.length) : (L ++ [y]).getD j a0 = L.getD j a0 := by
  rw [List.getD_eq_getElem?_getD, List.getElem?_append_left hj, ← List.getD_eq_getElem?_getD]
theorem getD_lastA {L : List At} {y : At} : (L ++ [y]).getD L.length a0 = y := getD_midA L y []
def frA (p : Nat) (h h' : pm_H) : Prop := hT h' = hT h ∧ hN h' = hN h ∧ hR h' = hR h ∧ hn h' = hn h ∧ ∀ k, k ≠ p → (k < p + 14 ∨ p + 18 ≤ k) → hI h' k = hI h k ∧ hL h' k = hL h k
theorem x1 (d : Nat) {h : pm_H} {p : Nat} {L : List At} {y : At} {Q : pm_Q} (hs : aS h p) (hr : aR h p L) (hl : L.length < 8)
    (hQ : ∀ h', aS h' p → aR h' p (L ++ [y]) → frA p h h' → Q (.inl none) h') :
    pm_W PP d 1 Q 0 0 45 [some (.ref p), some (.int (nI y.1)), some (.int (nI y.2.1)), some (.int (nI y.2.2.1)), some (.long (lN y.2.2.2)), none] [] h := by
  have hs0 := hs
  obtain ⟨s0, s1, s2, s3, s4, s5, s6, s7, s8, s9, s10, s11, s12, s13⟩ := hs
  obtain ⟨q0, q1, q2, q3, q4, q5⟩ := hr
  have hl2 : (L ++ [y]).length = L.length + 1 := by rw [List.length_append]; rfl
  simp (disch := omega) only [u_1_45, B_1_45, nI1T, Nat.left_eq_add, Nat.add_eq_left, Nat.add_eq_zero_iff, and_false, false_and, if_false, if_true, opsN, opsC, pm_1, lg, ls1, ls2, lq, List.length_cons, List.length_nil, cN, cL, callE, retV, retN, pm_pop, pm_cat, List.map_cons, List.map_nil, List.sum_cons, List.sum_nil, Value.category, Option.toList, List.cons_append, List.nil_append, reduceIte, reduceCtorEq, Nat.reduceAdd, Nat.reduceLT, Nat.reduceLeDiff, Nat.reduceSub, Nat.reduceEqDiff, Nat.zero_le, Nat.sub_zero, Nat.le_refl, true_and, and_true, not_true_eq_false, not_false_eq_true, true_or, or_true, lc_eq, lc_ne, lc_lt, lc_ge, lc_gt, lc_le, nI_add, lN_add, nI_leI, nI_ltI, nI_eq, nI_clamp, pk_lLT, pk_lLE, pk_lEQ, pk_sub, vp_inT, nz_eq, nz_lt, nz_ge, nz_gt, nz_le, lz_eq, lz_lt, lz_ge, hP1, hP2, hP3, hP4, hP5, hP6, hP7, hP8, hP9, hP10, hP11, hP12, hP13, hP14, hP15, hP16, hP17, hP18, hP19, hP20, s0, s1, s2, s3, s4, s5, s6, s7, s8, s9, s10, s11, s12, s13, q1, va_upE]
  refine hQ _ hs0 ?_ ?_
  · refine ⟨by omega, ?_, ?_, ?_, ?_, ?_⟩
    · simp only [hP1, hP2, hP3, hP4, hP5, hP6, hP7, hP8, hP9, hP10, hP11, hP12, hP13, hP14, hP15, hP16, hP17, hP18, hP19, hP20, va_upE, Nat.left_eq_add, Nat.add_eq_left, Nat.add_eq_zero_iff, Nat.reduceEqDiff, Nat.reduceAdd, reduceIte, and_false, false_and, if_false, if_true, reduceCtorEq, hl2]
    · intro j hj
      rw [hl2] at hj
      simp only [hP1, hP2, hP3, hP4, hP5, hP6, hP7, hP8, hP9, hP10, hP11, hP12, hP13, hP14, hP15, hP16, hP17, hP18, hP19, hP20, va_upE, Nat.left_eq_add, Nat.add_eq_left, Nat.add_eq_zero_iff, Nat.reduceEqDiff, Nat.reduceAdd, reduceIte, and_false, false_and, if_false, if_true, reduceCtorEq]
      by_cases e : j = L.length
      · rw [if_pos e, e, getD_lastA]
      · rw [if_neg e, getD_appA (by omega)]; exact q2 j (by omega)
    · intro j hj
      rw [hl2] at hj
      simp only [hP1, hP2, hP3, hP4, hP5, hP6, hP7, hP8, hP9, hP10, hP11, hP12, hP13, hP14, hP15, hP16, hP17, hP18, hP19, hP20, va_upE, Nat.left_eq_add, Nat.add_eq_left, Nat.add_eq_zero_iff, Nat.reduceEqDiff, Nat.reduceAdd, reduceIte, and_false, false_and, if_false, if_true, reduceCtorEq]
      by_cases e : j = L.length
      · rw [if_pos e, e, getD_lastA]
      · rw [if_neg e, getD_appA (by omega)]; exact q3 j (by omega)
    · intro j hj
      rw [hl2] at hj
      simp only [hP1, hP2, hP3, hP4, hP5, hP6, hP7, hP8, hP9, hP10, hP11, hP12, hP13, hP14, hP15, hP16, hP17, hP18, hP19, hP20, va_upE, Nat.left_eq_add, Nat.add_eq_left, Nat.add_eq_zero_iff, Nat.reduceEqDiff, Nat.reduceAdd, reduceIte, and_false, false_and, if_false, if_true, reduceCtorEq]
      by_cases e : j = L.length
      · rw [if_pos e, e, getD_lastA]
      · rw [if_neg e, getD_appA (by omega)]; exact q4 j (by omega)
    · intro j hj
      rw [hl2] at hj
      simp only [hP1, hP2, hP3, hP4, hP5, hP6, hP7, hP8, hP9, hP10, hP11, hP12, hP13, hP14, hP15, hP16, hP17, hP18, hP19, hP20, va_upE, Nat.left_eq_add, Nat.add_eq_left, Nat.add_eq_zero_iff, Nat.reduceEqDiff, Nat.reduceAdd, reduceIte, and_false, false_and, if_false, if_true, reduceCtorEq]
      by_cases e : j = L.length
      · rw [if_pos e, e, getD_lastA]
      · rw [if_neg e, getD_appA (by omega)]; exact q5 j (by omega)
  · refine ⟨rfl, rfl, rfl, rfl, fun k hk hk2 => ?_⟩
    have w0 : ¬ k = p + 14 := by omega
    have w1 : ¬ k = p + 15 := by omega
    have w2 : ¬ k = p + 16 := by omega
    have w3 : ¬ k = p + 17 := by omega
    simp only [hP1, hP2, hP3, hP4, hP5, hP6, hP7, hP8, hP9, hP10, hP11, hP12, hP13, hP14, hP15, hP16, hP17, hP18, hP19, hP20, va_upE, Nat.left_eq_add, Nat.add_eq_left, Nat.add_eq_zero_iff, Nat.reduceEqDiff, Nat.reduceAdd, reduceIte, and_false, false_and, if_false, if_true, reduceCtorEq, hk, w0, w1, w2, w3, and_self]
theorem c2 (d : Nat) {h : pm_H} {p : Nat} {L : List At} {x : At} {Q : pm_Q} (hs : aS h p) (hr : aR h p (x :: L)) (hl : L.length = 7)
    (hQ : ∀ h', aS h' p → aR h' p L → frA p h h' → Q (.inl none) h') : pm_M PP (d + 1) 2 [.ref p] h Q := by
  have hs0 := hs
  obtain ⟨s0, s1, s2, s3, s4, s5, s6, s7, s8, s9, s10, s11, s12, s13⟩ := hs
  obtain ⟨q0, q1, q2, q3, q4, q5⟩ := hr
  have hl2 : (x :: L).length = 8 := by rw [List.length_cons, hl]
  have gd : ∀ j, (x :: L).getD (1 + (j - 0)) a0 = L.getD j a0 := fun j => by
    rw [show 1 + (j - 0) = j + 1 by omega]; rfl
  rw [hl2] at q1
  rw [e_2, u_2_0, ops_cut _ _ _ _ _ _ 15]
  simp (disch := omega) only [B_2_0, nI1T, Nat.left_eq_add, Nat.add_eq_left, Nat.add_eq_zero_iff, and_false, false_and, if_false, if_true, opsN, opsC, pm_1, lg, ls1, ls2, lq, List.length_cons, List.length_nil, cN, cL, callE, retV, retN, pm_pop, pm_cat, List.map_cons, List.map_nil, List.sum_cons, List.sum_nil, Value.category, Option.toList, List.cons_append, List.nil_append, reduceIte, reduceCtorEq, Nat.reduceAdd, Nat.reduceLT, Nat.reduceLeDiff, Nat.reduceSub, Nat.reduceEqDiff, Nat.zero_le, Nat.sub_zero, Nat.le_refl, true_and, and_true, not_true_eq_false, not_false_eq_true, true_or, or_true, lc_eq, lc_ne, lc_lt, lc_ge, lc_gt, lc_le, nI_add, lN_add, nI_leI, nI_ltI, nI_eq, nI_clamp, pk_lLT, pk_lLE, pk_lEQ, pk_sub, vp_inT, nz_eq, nz_lt, nz_ge, nz_gt, nz_le, lz_eq, lz_lt, lz_ge, hP1, hP2, hP3, hP4, hP5, hP6, hP7, hP8, hP9, hP10, hP11, hP12, hP13, hP14, hP15, hP16, hP17, hP18, hP19, hP20, sqN, sqC, List.take_succ_cons, List.take_zero, List.drop_succ_cons, List.drop_zero, s0, s1, s2, s3, s4, s5, s6, s7, s8, s9, s10, s11, s12, s13, q1, va_upE]
  suffices hh1 : ∀ H1 : pm_H, hT H1 = hT h → hN H1 = hN h → hR H1 = hR h → hn H1 = hn h → hI H1 = va_up (va_up (hI h) p (va_up (hI h p) 5 (nI 7))) (p + 14) (va_cpy (hI h (p + 14)) (hI h (p + 14)) 1 0 7) → hL H1 = hL h → pm_cut pm_js hh_0 (pm_W PP d 2 Q) (pm_M PP d) Q 0 (B_2_0.drop 15) 0 0 [some (.ref p)] [] H1 from hh1 _ rfl rfl rfl rfl (by simp only [hP1, hP2, hP3, hP4, hP5, hP6, hP7, hP8, hP9, hP10, hP11, hP12, hP13, hP14, hP15, hP16, hP17, hP18, hP19, hP20, va_upE, Nat.left_eq_add, Nat.add_eq_left, Nat.add_eq_zero_iff, Nat.reduceEqDiff, Nat.reduceAdd, reduceIte, and_false, false_and, if_false, if_true, reduceCtorEq]) rfl
  intro H1 p01 p02 p03 p04 p05 p06
  rw [cut_ops, ops_cut _ _ _ _ _ _ 9]
  simp (disch := omega) only [B_2_0, nI1T, Nat.left_eq_add, Nat.add_eq_left, Nat.add_eq_zero_iff, and_false, false_and, if_false, if_true, opsN, opsC, pm_1, lg, ls1, ls2, lq, List.length_cons, List.length_nil, cN, cL, callE, retV, retN, pm_pop, pm_cat, List.map_cons, List.map_nil, List.sum_cons, List.sum_nil, Value.category, Option.toList, List.cons_append, List.nil_append, reduceIte, reduceCtorEq, Nat.reduceAdd, Nat.reduceLT, Nat.reduceLeDiff, Nat.reduceSub, Nat.reduceEqDiff, Nat.zero_le, Nat.sub_zero, Nat.le_refl, true_and, and_true, not_true_eq_false, not_false_eq_true, true_or, or_true, lc_eq, lc_ne, lc_lt, lc_ge, lc_gt, lc_le, nI_add, lN_add, nI_leI, nI_ltI, nI_eq, nI_clamp, pk_lLT, pk_lLE, pk_lEQ, pk_sub, vp_inT, nz_eq, nz_lt, nz_ge, nz_gt, nz_le, lz_eq, lz_lt, lz_ge, hP1, hP2, hP3, hP4, hP5, hP6, hP7, hP8, hP9, hP10, hP11, hP12, hP13, hP14, hP15, hP16, hP17, hP18, hP19, hP20, sqN, sqC, List.take_succ_cons, List.take_zero, List.drop_succ_cons, List.drop_zero, s0, s1, s2, s3, s4, s5, s6, s7, s8, s9, s10, s11, s12, s13, q1, p01, p02, p03, p05, p06, va_upE]
  suffices hh2 : ∀ H2 : pm_H, hT H2 = hT h → hN H2 = hN h → hR H2 = hR h → hn H2 = hn h → hI H2 = va_up (va_up (va_up (hI h) p (va_up (hI h p) 5 (nI 7))) (p + 14) (va_cpy (hI h (p + 14)) (hI h (p + 14)) 1 0 7)) (p + 15) (va_cpy (hI h (p + 15)) (hI h (p + 15)) 1 0 7) → hL H2 = hL h → pm_cut pm_js hh_0 (pm_W PP d 2 Q) (pm_M PP d) Q 0 (B_2_0.drop 24) 0 0 [some (.ref p)] [] H2 from hh2 _ p01 p02 p03 p04 (by simp only [hP1, hP11, p05]) p06
  intro H2 p11 p12 p13 p14 p15 p16
  rw [cut_ops, ops_cut _ _ _ _ _ _ 9]
  simp (disch := omega) only [B_2_0, nI1T, Nat.left_eq_add, Nat.add_eq_left, Nat.add_eq_zero_iff, and_false, false_and, if_false, if_true, opsN, opsC, pm_1, lg, ls1, ls2, lq, List.length_cons, List.length_nil, cN, cL, callE, retV, retN, pm_pop, pm_cat, List.map_cons, List.map_nil, List.sum_cons, List.sum_nil, Value.category, Option.toList, List.cons_append, List.nil_append, reduceIte, reduceCtorEq, Nat.reduceAdd, Nat.reduceLT, Nat.reduceLeDiff, Nat.reduceSub, Nat.reduceEqDiff, Nat.zero_le, Nat.sub_zero, Nat.le_refl, true_and, and_true, not_true_eq_false, not_false_eq_true, true_or, or_true, lc_eq, lc_ne, lc_lt, lc_ge, lc_gt, lc_le, nI_add, lN_add, nI_leI, nI_ltI, nI_eq, nI_clamp, pk_lLT, pk_lLE, pk_lEQ, pk_sub, vp_inT, nz_eq, nz_lt, nz_ge, nz_gt, nz_le, lz_eq, lz_lt, lz_ge, hP1, hP2, hP3, hP4, hP5, hP6, hP7, hP8, hP9, hP10, hP11, hP12, hP13, hP14, hP15, hP16, hP17, hP18, hP19, hP20, sqN, sqC, List.take_succ_cons, List.take_zero, List.drop_succ_cons, List.drop_zero, s0, s1, s2, s3, s4, s5, s6, s7, s8, s9, s10, s11, s12, s13, q1, p11, p12, p13, p15, p16, va_upE]
  suffices hh3 : ∀ H3 : pm_H, hT H3 = hT h → hN H3 = hN h → hR H3 = hR h → hn H3 = hn h → hI H3 = va_up (va_up (va_up (va_up (hI h) p (va_up (hI h p) 5 (nI 7))) (p + 14) (va_cpy (hI h (p + 14)) (hI h (p + 14)) 1 0 7)) (p + 15) (va_cpy (hI h (p + 15)) (hI h (p + 15)) 1 0 7)) (p + 16) (va_cpy (hI h (p + 16)) (hI h (p + 16)) 1 0 7) → hL H3 = hL h → pm_cut pm_js hh_0 (pm_W PP d 2 Q) (pm_M PP d) Q 0 (B_2_0.drop 33) 0 0 [some (.ref p)] [] H3 from hh3 _ p11 p12 p13 p14 (by simp only [hP1, hP11, p15]) p16
  intro H3 p21 p22 p23 p24 p25 p26
  rw [cut_ops]
  simp (disch := omega) only [B_2_0, nI1T, Nat.left_eq_add, Nat.add_eq_left, Nat.add_eq_zero_iff, and_false, false_and, if_false, if_true, opsN, opsC, pm_1, lg, ls1, ls2, lq, List.length_cons, List.length_nil, cN, cL, callE, retV, retN, pm_pop, pm_cat, List.map_cons, List.map_nil, List.sum_cons, List.sum_nil, Value.category, Option.toList, List.cons_append, List.nil_append, reduceIte, reduceCtorEq, Nat.reduceAdd, Nat.reduceLT, Nat.reduceLeDiff, Nat.reduceSub, Nat.reduceEqDiff, Nat.zero_le, Nat.sub_zero, Nat.le_refl, true_and, and_true, not_true_eq_false, not_false_eq_true, true_or, or_true, lc_eq, lc_ne, lc_lt, lc_ge, lc_gt, lc_le, nI_add, lN_add, nI_leI, nI_ltI, nI_eq, nI_clamp, pk_lLT, pk_lLE, pk_lEQ, pk_sub, vp_inT, nz_eq, nz_lt, nz_ge, nz_gt, nz_le, lz_eq, lz_lt, lz_ge, hP1, hP2, hP3, hP4, hP5, hP6, hP7, hP8, hP9, hP10, hP11, hP12, hP13, hP14, hP15, hP16, hP17, hP18, hP19, hP20, sqN, sqC, List.take_succ_cons, List.take_zero, List.drop_succ_cons, List.drop_zero, s0, s1, s2, s3, s4, s5, s6, s7, s8, s9, s10, s11, s12, s13, q1, p21, p22, p23, p25, p26, va_upE]
  refine hQ _ ?_ ?_ ?_
  · unfold aS at *
    simp only [hP1, hP2, hP3, hP4, hP5, hP6, hP7, hP8, hP9, hP10, hP11, hP12, hP13, hP14, hP15, hP16, hP17, hP18, hP19, hP20, va_upE, Nat.left_eq_add, Nat.add_eq_left, Nat.add_eq_zero_iff, Nat.reduceEqDiff, Nat.reduceAdd, reduceIte, and_false, false_and, if_false, if_true, reduceCtorEq, p21, p22, p23]
    exact hs0
  · refine ⟨by omega, ?_, ?_, ?_, ?_, ?_⟩
    · simp only [hP1, hP2, hP3, hP4, hP5, hP6, hP7, hP8, hP9, hP10, hP11, hP12, hP13, hP14, hP15, hP16, hP17, hP18, hP19, hP20, va_upE, Nat.left_eq_add, Nat.add_eq_left, Nat.add_eq_zero_iff, Nat.reduceEqDiff, Nat.reduceAdd, reduceIte, and_false, false_and, if_false, if_true, reduceCtorEq, p25, hl]
    · intro j hj
      simp only [hP1, hP2, hP3, hP4, hP5, hP6, hP7, hP8, hP9, hP10, hP11, hP12, hP13, hP14, hP15, hP16, hP17, hP18, hP19, hP20, va_upE, Nat.left_eq_add, Nat.add_eq_left, Nat.add_eq_zero_iff, Nat.reduceEqDiff, Nat.reduceAdd, reduceIte, and_false, false_and, if_false, if_true, reduceCtorEq, p25]
      rw [pk_cpy_in (by omega) (by omega), q2 _ (by rw [hl2]; omega), gd]
    · intro j hj
      simp only [hP1, hP2, hP3, hP4, hP5, hP6, hP7, hP8, hP9, hP10, hP11, hP12, hP13, hP14, hP15, hP16, hP17, hP18, hP19, hP20, va_upE, Nat.left_eq_add, Nat.add_eq_left, Nat.add_eq_zero_iff, Nat.reduceEqDiff, Nat.reduceAdd, reduceIte, and_false, false_and, if_false, if_true, reduceCtorEq, p25]
      rw [pk_cpy_in (by omega) (by omega), q3 _ (by rw [hl2]; omega), gd]
    · intro j hj
      simp only [hP1, hP2, hP3, hP4, hP5, hP6, hP7, hP8, hP9, hP10, hP11, hP12, hP13, hP14, hP15, hP16, hP17, hP18, hP19, hP20, va_upE, Nat.left_eq_add, Nat.add_eq_left, Nat.add_eq_zero_iff, Nat.reduceEqDiff, Nat.reduceAdd, reduceIte, and_false, false_and, if_false, if_true, reduceCtorEq, p25]
      rw [pk_cpy_in (by omega) (by omega), q4 _ (by rw [hl2]; omega), gd]
    · intro j hj
      simp only [hP1, hP2, hP3, hP4, hP5, hP6, hP7, hP8, hP9, hP10, hP11, hP12, hP13, hP14, hP15, hP16, hP17, hP18, hP19, hP20, va_upE, Nat.left_eq_add, Nat.add_eq_left, Nat.add_eq_zero_iff, Nat.reduceEqDiff, Nat.reduceAdd, reduceIte, and_false, false_and, if_false, if_true, reduceCtorEq, p26]
      rw [pk_cpy_in (by omega) (by omega), q5 _ (by rw [hl2]; omega), gd]
  · refine ⟨p21, p22, p23, p24, fun k hk hk2 => ?_⟩
    have w0 : ¬ k = p + 14 := by omega
    have w1 : ¬ k = p + 15 := by omega
    have w2 : ¬ k = p + 16 := by omega
    have w3 : ¬ k = p + 17 := by omega
    simp only [hP1, hP2, hP3, hP4, hP5, hP6, hP7, hP8, hP9, hP10, hP11, hP12, hP13, hP14, hP15, hP16, hP17, hP18, hP19, hP20, va_upE, Nat.left_eq_add, Nat.add_eq_left, Nat.add_eq_zero_iff, Nat.reduceEqDiff, Nat.reduceAdd, reduceIte, and_false, false_and, if_false, if_true, reduceCtorEq, p25, p26, hk, w0, w1, w2, w3, and_self]
theorem isH_frA {h h' : pm_H} {p : Nat} {B : Hs} (f : frA p h h') (hB : isH h (p + 1) B) : isH h' (p + 1) B := by
  have e : ∀ k, p + 1 ≤ k → k < p + 14 → hI h' k = hI h k ∧ hL h' k = hL h k := fun k h1 h2 => f.2.2.2.2 k (by omega) (by omega)
  have key : ∀ (b : Nat) (A : Qs), p + 1 ≤ b → b + 6 ≤ p + 14 → isB h b 200 B.1 200 A → isB h' b 200 B.1 200 A := by
    intro b A h1 h2 hs
    unfold isB at *
    refine ⟨?_, hs.2.1, ?_⟩
    · have := hs.1
      unfold bS at *
      rw [f.1, f.2.1, f.2.2.1]
      exact this
    · rw [(e b (by omega) (by omega)).1, (e b (by omega) (by omega)).2, (e (b + 2) (by omega) (by omega)).2, (e (b + 3) (by omega) (by omega)).1, (e (b + 4) (by omega) (by omega)).1, (e (b + 5) (by omega) (by omega)).1]
      exact hs.2.2
  refine ⟨?_, key _ _ (by omega) (by omega) hB.2.1, key _ _ (by omega) (by omega) hB.2.2⟩
  have := hB.1
  unfold hS at *
  rw [f.1, f.2.2.1]
  exact this
/-- keep with room -/
theorem c1a (d : Nat) {h : pm_H} {p : Nat} {L : List At} {y : At} {Q : pm_Q} (hs : aS h p) (hr : aR h p L) (hl : L.length < 8)
    (hQ : ∀ h', aS h' p → aR h' p (L ++ [y]) → frA p h h' → Q (.inl none) h') :
    pm_M PP (d + 1) 1 [.ref p, .int (nI y.1), .int (nI y.2.1), .int (nI y.2.2.1), .long (lN y.2.2.2)] h Q := by
  have s0 := hs.1
  have q1 := hr.2.1
  have c : ¬ L.length = 8 := by omega
  rw [e_1]
  simp (disch := omega) only [u_1_0, B_1_0, nI1T, Nat.left_eq_add, Nat.add_eq_left, Nat.add_eq_zero_iff, and_false, false_and, if_false, if_true, opsN, opsC, pm_1, lg, ls1, ls2, lq, List.length_cons, List.length_nil, cN, cL, callE, retV, retN, pm_pop, pm_cat, List.map_cons, List.map_nil, List.sum_cons, List.sum_nil, Value.category, Option.toList, List.cons_append, List.nil_append, reduceIte, reduceCtorEq, Nat.reduceAdd, Nat.reduceLT, Nat.reduceLeDiff, Nat.reduceSub, Nat.reduceEqDiff, Nat.zero_le, Nat.sub_zero, Nat.le_refl, true_and, and_true, not_true_eq_false, not_false_eq_true, true_or, or_true, lc_eq, lc_ne, lc_lt, lc_ge, lc_gt, lc_le, nI_add, lN_add, nI_leI, nI_ltI, nI_eq, nI_clamp, pk_lLT, pk_lLE, pk_lEQ, pk_sub, vp_inT, nz_eq, nz_lt, nz_ge, nz_gt, nz_le, lz_eq, lz_lt, lz_ge, hP1, hP2, hP3, hP4, hP5, hP6, hP7, hP8, hP9, hP10, hP11, hP12, hP13, hP14, hP15, hP16, hP17, hP18, hP19, hP20, s0, q1, c]
  exact x1 d hs hr hl hQ
/-- keep with none: the oldest is done for good -/
theorem c1b (d : Nat) {h : pm_H} {p : Nat} {L : List At} {x y : At} {B : Hs} {Q : pm_Q} (hs : aS h p) (hr : aR h p (x :: L)) (hl : L.length = 7) (hB : isH h (p + 1) B) (hj : hJ B) (ho : hOk x B)
    (hQ : ∀ h', aS h' p → aR h' p (L ++ [y]) → isH h' (p + 1) (hAct x B) → fr p (p + 18) h h' → Q (.inl none) h') :
    pm_M PP (d + 5) 1 [.ref p, .int (nI y.1), .int (nI y.2.1), .int (nI y.2.2.1), .long (lN y.2.2.2)] h Q := by
  have hs0 := hs
  have hr0 := hr
  obtain ⟨s0, s1, s2, s3, s4, s5, s6, s7, s8, s9, s10, s11, s12, s13⟩ := hs
  obtain ⟨q0, q1, q2, q3, q4, q5⟩ := hr
  have hl2 : (x :: L).length = 8 := by rw [List.length_cons, hl]
  rw [hl2] at q1
  have k2 := q2 0 (by rw [hl2]; decide)
  have k3 := q3 0 (by rw [hl2]; decide)
  have k4 := q4 0 (by rw [hl2]; decide)
  have k5 := q5 0 (by rw [hl2]; decide)
  have ex : (x :: L).getD 0 a0 = x := rfl
  rw [ex] at k2 k3 k4 k5
  have hT3 := hB.1.1
  rw [e_1]
  simp (disch := omega) only [u_1_0, B_1_0, nI1T, Nat.left_eq_add, Nat.add_eq_left, Nat.add_eq_zero_iff, and_false, false_and, if_false, if_true, opsN, opsC, pm_1, lg, ls1, ls2, lq, List.length_cons, List.length_nil, cN, cL, callE, retV, retN, pm_pop, pm_cat, List.map_cons, List.map_nil, List.sum_cons, List.sum_nil, Value.category, Option.toList, List.cons_append, List.nil_append, reduceIte, reduceCtorEq, Nat.reduceAdd, Nat.reduceLT, Nat.reduceLeDiff, Nat.reduceSub, Nat.reduceEqDiff, Nat.zero_le, Nat.sub_zero, Nat.le_refl, true_and, and_true, not_true_eq_false, not_false_eq_true, true_or, or_true, lc_eq, lc_ne, lc_lt, lc_ge, lc_gt, lc_le, nI_add, lN_add, nI_leI, nI_ltI, nI_eq, nI_clamp, pk_lLT, pk_lLE, pk_lEQ, pk_sub, vp_inT, nz_eq, nz_lt, nz_ge, nz_gt, nz_le, lz_eq, lz_lt, lz_ge, hP1, hP2, hP3, hP4, hP5, hP6, hP7, hP8, hP9, hP10, hP11, hP12, hP13, hP14, hP15, hP16, hP17, hP18, hP19, hP20, s0, s1, s2, s3, s4, s5, s6, s7, s8, s9, s10, s11, s12, s13, q1, k2, k3, k4, k5, hT3]
  refine c303 d hB hj ho ?_
  intro h1 hB1 hf1
  have hs1 := aS_fr hf1 hs0
  have t0 := hs1.1
  simp (disch := omega) only [nI1T, Nat.left_eq_add, Nat.add_eq_left, Nat.add_eq_zero_iff, and_false, false_and, if_false, if_true, opsN, opsC, pm_1, lg, ls1, ls2, lq, List.length_cons, List.length_nil, cN, cL, callE, retV, retN, pm_pop, pm_cat, List.map_cons, List.map_nil, List.sum_cons, List.sum_nil, Value.category, Option.toList, List.cons_append, List.nil_append, reduceIte, reduceCtorEq, Nat.reduceAdd, Nat.reduceLT, Nat.reduceLeDiff, Nat.reduceSub, Nat.reduceEqDiff, Nat.zero_le, Nat.sub_zero, Nat.le_refl, true_and, and_true, not_true_eq_false, not_false_eq_true, true_or, or_true, lc_eq, lc_ne, lc_lt, lc_ge, lc_gt, lc_le, nI_add, lN_add, nI_leI, nI_ltI, nI_eq, nI_clamp, pk_lLT, pk_lLE, pk_lEQ, pk_sub, vp_inT, nz_eq, nz_lt, nz_ge, nz_gt, nz_le, lz_eq, lz_lt, lz_ge, hP1, hP2, hP3, hP4, hP5, hP6, hP7, hP8, hP9, hP10, hP11, hP12, hP13, hP14, hP15, hP16, hP17, hP18, hP19, hP20, t0]
  refine c2 (d + 3) hs1 (aR_fr hf1 (by omega) hr0) hl ?_
  intro h2 hs2 hr2 hf2
  simp (disch := omega) only [nI1T, Nat.left_eq_add, Nat.add_eq_left, Nat.add_eq_zero_iff, and_false, false_and, if_false, if_true, opsN, opsC, pm_1, lg, ls1, ls2, lq, List.length_cons, List.length_nil, cN, cL, callE, retV, retN, pm_pop, pm_cat, List.map_cons, List.map_nil, List.sum_cons, List.sum_nil, Value.category, Option.toList, List.cons_append, List.nil_append, reduceIte, reduceCtorEq, Nat.reduceAdd, Nat.reduceLT, Nat.reduceLeDiff, Nat.reduceSub, Nat.reduceEqDiff, Nat.zero_le, Nat.sub_zero, Nat.le_refl, true_and, and_true, not_true_eq_false, not_false_eq_true, true_or, or_true, lc_eq, lc_ne, lc_lt, lc_ge, lc_gt, lc_le, nI_add, lN_add, nI_leI, nI_ltI, nI_eq, nI_clamp, pk_lLT, pk_lLE, pk_lEQ, pk_sub, vp_inT, nz_eq, nz_lt, nz_ge, nz_gt, nz_le, lz_eq, lz_lt, lz_ge, hP1, hP2, hP3, hP4, hP5, hP6, hP7, hP8, hP9, hP10, hP11, hP12, hP13, hP14, hP15, hP16, hP17, hP18, hP19, hP20]
  refine x1 (d + 4) hs2 hr2 (by omega) ?_
  intro h3 hs3 hr3 hf3
  refine hQ h3 hs3 hr3 (isH_frA hf3 (isH_frA hf2 hB1)) ⟨hf3.1.trans (hf2.1.trans hf1.1), hf3.2.1.trans (hf2.2.1.trans hf1.2.1), hf3.2.2.1.trans (hf2.2.2.1.trans hf1.2.2.1), hf3.2.2.2.1.trans (hf2.2.2.2.1.trans hf1.2.2.2.1), fun k hk => ?_⟩
  have z1 := hf3.2.2.2.2 k (by omega) (by omega)
  have z2 := hf2.2.2.2.2 k (by omega) (by omega)
  have z3 := hf1.2.2.2.2 k (by omega)
  exact ⟨z1.1.trans (z2.1.trans z3.1), z1.2.trans (z2.2.trans z3.2)⟩
