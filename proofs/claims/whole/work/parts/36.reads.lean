/-! ===== what a queue is asked ===== -/
section RD
variable {h : pm_H} {b cap bits limit : Nat} {A : Qs} {Q : pm_Q}
theorem c108t (d : Nat) {i key : Nat} (hB : isB h b cap bits limit A) (hI : qI bits limit A) (hk : key < 2 ^ 40) (hi : i < qC A) (hw : qS A i = 0) (h1 : qL A ≤ key) (h2 : key ≤ qK A i) (hQ : Q (.inl (some (.int (nI 1)))) h) : pm_M PP (d + 2) 108 [.ref b, .int (nI i), .long (lN key)] h Q := by
  have hB0 := hB
  have hI0 := hI
  obtain ⟨⟨s0, s1, s2, s3, s4, s5, s6, s7, s8, s9, s10, s11, s12, s13, s14, s15, s16⟩, f4, f5, f6, f7, f8, f9, rK, rW, rM, rN⟩ := hB
  obtain ⟨i1, i2, i3, i4, i5, i6, i7, i8, i9, i10, i11, i12⟩ := hI
  have := i6 i hi
  have a1 : ¬ key < qL A := by omega
  have a2 : ¬ qK A i < key := by omega
  rw [e_108]
  simp (disch := omega) only [u_108_0, B_108_0, nI1T, Nat.left_eq_add, Nat.add_eq_left, Nat.add_eq_zero_iff, and_false, false_and, if_false, if_true, opsN, opsC, pm_1, lg, ls1, ls2, lq, List.length_cons, List.length_nil, cN, cL, callE, retV, retN, pm_pop, pm_cat, List.map_cons, List.map_nil, List.sum_cons, List.sum_nil, Value.category, Option.toList, List.cons_append, List.nil_append, reduceIte, reduceCtorEq, Nat.reduceAdd, Nat.reduceLT, Nat.reduceLeDiff, Nat.reduceSub, Nat.reduceEqDiff, Nat.zero_le, Nat.sub_zero, Nat.le_refl, true_and, and_true, not_true_eq_false, not_false_eq_true, true_or, or_true, lc_eq, lc_ne, lc_lt, lc_ge, lc_gt, lc_le, nI_add, lN_add, nI_leI, nI_ltI, nI_eq, nI_clamp, pk_lLT, pk_lLE, pk_lEQ, pk_sub, vp_inT, nz_eq, nz_lt, nz_ge, nz_gt, nz_le, lz_eq, lz_lt, lz_ge, hP1, hP2, hP3, hP4, hP5, hP6, hP7, hP8, hP9, hP10, hP11, hP12, hP13, hP14, hP15, hP16, hP17, hP18, hP19, hP20, s0]
  refine c105t d hB0 hI0 hi hw ?_
  simp (disch := omega) only [u_108_0, B_108_0, u_108_32, B_108_32, u_108_33, B_108_33, nI1T, Nat.left_eq_add, Nat.add_eq_left, Nat.add_eq_zero_iff, and_false, false_and, if_false, if_true, opsN, opsC, pm_1, lg, ls1, ls2, lq, List.length_cons, List.length_nil, cN, cL, callE, retV, retN, pm_pop, pm_cat, List.map_cons, List.map_nil, List.sum_cons, List.sum_nil, Value.category, Option.toList, List.cons_append, List.nil_append, reduceIte, reduceCtorEq, Nat.reduceAdd, Nat.reduceLT, Nat.reduceLeDiff, Nat.reduceSub, Nat.reduceEqDiff, Nat.zero_le, Nat.sub_zero, Nat.le_refl, true_and, and_true, not_true_eq_false, not_false_eq_true, true_or, or_true, lc_eq, lc_ne, lc_lt, lc_ge, lc_gt, lc_le, nI_add, lN_add, nI_leI, nI_ltI, nI_eq, nI_clamp, pk_lLT, pk_lLE, pk_lEQ, pk_sub, vp_inT, nz_eq, nz_lt, nz_ge, nz_gt, nz_le, lz_eq, lz_lt, lz_ge, hP1, hP2, hP3, hP4, hP5, hP6, hP7, hP8, hP9, hP10, hP11, hP12, hP13, hP14, hP15, hP16, hP17, hP18, hP19, hP20, s0, s1, s2, s3, s4, s5, s6, s7, s8, s9, s10, s11, s12, s13, s14, s15, f5, f6, f7, f8, f9, rK, a1, a2, hQ]
theorem c108f (d : Nat) {i key : Nat} (hB : isB h b cap bits limit A) (hI : qI bits limit A) (hk : key < 2 ^ 40) (hi : i < qC A) (h1 : ¬ (qS A i = 0 ∧ qL A ≤ key ∧ key ≤ qK A i)) (hQ : Q (.inl (some (.int (nI 0)))) h) : pm_M PP (d + 2) 108 [.ref b, .int (nI i), .long (lN key)] h Q := by
  have hB0 := hB
  have hI0 := hI
  obtain ⟨⟨s0, s1, s2, s3, s4, s5, s6, s7, s8, s9, s10, s11, s12, s13, s14, s15, s16⟩, f4, f5, f6, f7, f8, f9, rK, rW, rM, rN⟩ := hB
  obtain ⟨i1, i2, i3, i4, i5, i6, i7, i8, i9, i10, i11, i12⟩ := hI
  have := i6 i hi
  rw [e_108]
  simp (disch := omega) only [u_108_0, B_108_0, nI1T, Nat.left_eq_add, Nat.add_eq_left, Nat.add_eq_zero_iff, and_false, false_and, if_false, if_true, opsN, opsC, pm_1, lg, ls1, ls2, lq, List.length_cons, List.length_nil, cN, cL, callE, retV, retN, pm_pop, pm_cat, List.map_cons, List.map_nil, List.sum_cons, List.sum_nil, Value.category, Option.toList, List.cons_append, List.nil_append, reduceIte, reduceCtorEq, Nat.reduceAdd, Nat.reduceLT, Nat.reduceLeDiff, Nat.reduceSub, Nat.reduceEqDiff, Nat.zero_le, Nat.sub_zero, Nat.le_refl, true_and, and_true, not_true_eq_false, not_false_eq_true, true_or, or_true, lc_eq, lc_ne, lc_lt, lc_ge, lc_gt, lc_le, nI_add, lN_add, nI_leI, nI_ltI, nI_eq, nI_clamp, pk_lLT, pk_lLE, pk_lEQ, pk_sub, vp_inT, nz_eq, nz_lt, nz_ge, nz_gt, nz_le, lz_eq, lz_lt, lz_ge, hP1, hP2, hP3, hP4, hP5, hP6, hP7, hP8, hP9, hP10, hP11, hP12, hP13, hP14, hP15, hP16, hP17, hP18, hP19, hP20, s0]
  by_cases hw : qS A i = 0
  · refine c105t d hB0 hI0 hi hw ?_
    by_cases a1 : key < qL A
    · simp (disch := omega) only [u_108_0, B_108_0, u_108_32, B_108_32, u_108_33, B_108_33, nI1T, Nat.left_eq_add, Nat.add_eq_left, Nat.add_eq_zero_iff, and_false, false_and, if_false, if_true, opsN, opsC, pm_1, lg, ls1, ls2, lq, List.length_cons, List.length_nil, cN, cL, callE, retV, retN, pm_pop, pm_cat, List.map_cons, List.map_nil, List.sum_cons, List.sum_nil, Value.category, Option.toList, List.cons_append, List.nil_append, reduceIte, reduceCtorEq, Nat.reduceAdd, Nat.reduceLT, Nat.reduceLeDiff, Nat.reduceSub, Nat.reduceEqDiff, Nat.zero_le, Nat.sub_zero, Nat.le_refl, true_and, and_true, not_true_eq_false, not_false_eq_true, true_or, or_true, lc_eq, lc_ne, lc_lt, lc_ge, lc_gt, lc_le, nI_add, lN_add, nI_leI, nI_ltI, nI_eq, nI_clamp, pk_lLT, pk_lLE, pk_lEQ, pk_sub, vp_inT, nz_eq, nz_lt, nz_ge, nz_gt, nz_le, lz_eq, lz_lt, lz_ge, hP1, hP2, hP3, hP4, hP5, hP6, hP7, hP8, hP9, hP10, hP11, hP12, hP13, hP14, hP15, hP16, hP17, hP18, hP19, hP20, s0, s1, s2, s3, s4, s5, s6, s7, s8, s9, s10, s11, s12, s13, s14, s15, f5, f6, f7, f8, f9, rK, a1, hQ]
    · have a2 : qK A i < key := by omega
      simp (disch := omega) only [u_108_0, B_108_0, u_108_32, B_108_32, u_108_33, B_108_33, nI1T, Nat.left_eq_add, Nat.add_eq_left, Nat.add_eq_zero_iff, and_false, false_and, if_false, if_true, opsN, opsC, pm_1, lg, ls1, ls2, lq, List.length_cons, List.length_nil, cN, cL, callE, retV, retN, pm_pop, pm_cat, List.map_cons, List.map_nil, List.sum_cons, List.sum_nil, Value.category, Option.toList, List.cons_append, List.nil_append, reduceIte, reduceCtorEq, Nat.reduceAdd, Nat.reduceLT, Nat.reduceLeDiff, Nat.reduceSub, Nat.reduceEqDiff, Nat.zero_le, Nat.sub_zero, Nat.le_refl, true_and, and_true, not_true_eq_false, not_false_eq_true, true_or, or_true, lc_eq, lc_ne, lc_lt, lc_ge, lc_gt, lc_le, nI_add, lN_add, nI_leI, nI_ltI, nI_eq, nI_clamp, pk_lLT, pk_lLE, pk_lEQ, pk_sub, vp_inT, nz_eq, nz_lt, nz_ge, nz_gt, nz_le, lz_eq, lz_lt, lz_ge, hP1, hP2, hP3, hP4, hP5, hP6, hP7, hP8, hP9, hP10, hP11, hP12, hP13, hP14, hP15, hP16, hP17, hP18, hP19, hP20, s0, s1, s2, s3, s4, s5, s6, s7, s8, s9, s10, s11, s12, s13, s14, s15, f5, f6, f7, f8, f9, rK, a1, a2, hQ]
  · refine c105f d hB0 hI0 hi hw ?_
    simp (disch := omega) only [u_108_0, B_108_0, u_108_32, B_108_32, u_108_33, B_108_33, nI1T, Nat.left_eq_add, Nat.add_eq_left, Nat.add_eq_zero_iff, and_false, false_and, if_false, if_true, opsN, opsC, pm_1, lg, ls1, ls2, lq, List.length_cons, List.length_nil, cN, cL, callE, retV, retN, pm_pop, pm_cat, List.map_cons, List.map_nil, List.sum_cons, List.sum_nil, Value.category, Option.toList, List.cons_append, List.nil_append, reduceIte, reduceCtorEq, Nat.reduceAdd, Nat.reduceLT, Nat.reduceLeDiff, Nat.reduceSub, Nat.reduceEqDiff, Nat.zero_le, Nat.sub_zero, Nat.le_refl, true_and, and_true, not_true_eq_false, not_false_eq_true, true_or, or_true, lc_eq, lc_ne, lc_lt, lc_ge, lc_gt, lc_le, nI_add, lN_add, nI_leI, nI_ltI, nI_eq, nI_clamp, pk_lLT, pk_lLE, pk_lEQ, pk_sub, vp_inT, nz_eq, nz_lt, nz_ge, nz_gt, nz_le, lz_eq, lz_lt, lz_ge, hP1, hP2, hP3, hP4, hP5, hP6, hP7, hP8, hP9, hP10, hP11, hP12, hP13, hP14, hP15, hP16, hP17, hP18, hP19, hP20, s0, s1, s2, s3, s4, s5, s6, s7, s8, s9, s10, s11, s12, s13, s14, s15, f5, f6, f7, f8, f9, hQ]
theorem c108n (d : Nat) {x : Int32} {key : Int64} (hB : isB h b cap bits limit A) (hi : x < 0 ∨ nI (qC A) ≤ x) (hQ : Q (.inl (some (.int (nI 0)))) h) : pm_M PP (d + 2) 108 [.ref b, .int x, .long key] h Q := by
  have hB0 := hB
  obtain ⟨⟨s0, s1, s2, s3, s4, s5, s6, s7, s8, s9, s10, s11, s12, s13, s14, s15, s16⟩, f4, f5, f6, f7, f8, f9, rK, rW, rM, rN⟩ := hB
  rw [e_108]
  simp (disch := omega) only [u_108_0, B_108_0, nI1T, Nat.left_eq_add, Nat.add_eq_left, Nat.add_eq_zero_iff, and_false, false_and, if_false, if_true, opsN, opsC, pm_1, lg, ls1, ls2, lq, List.length_cons, List.length_nil, cN, cL, callE, retV, retN, pm_pop, pm_cat, List.map_cons, List.map_nil, List.sum_cons, List.sum_nil, Value.category, Option.toList, List.cons_append, List.nil_append, reduceIte, reduceCtorEq, Nat.reduceAdd, Nat.reduceLT, Nat.reduceLeDiff, Nat.reduceSub, Nat.reduceEqDiff, Nat.zero_le, Nat.sub_zero, Nat.le_refl, true_and, and_true, not_true_eq_false, not_false_eq_true, true_or, or_true, lc_eq, lc_ne, lc_lt, lc_ge, lc_gt, lc_le, nI_add, lN_add, nI_leI, nI_ltI, nI_eq, nI_clamp, pk_lLT, pk_lLE, pk_lEQ, pk_sub, vp_inT, nz_eq, nz_lt, nz_ge, nz_gt, nz_le, lz_eq, lz_lt, lz_ge, hP1, hP2, hP3, hP4, hP5, hP6, hP7, hP8, hP9, hP10, hP11, hP12, hP13, hP14, hP15, hP16, hP17, hP18, hP19, hP20, s0]
  refine c105n d hB0 hi ?_
  simp (disch := omega) only [u_108_0, B_108_0, u_108_32, B_108_32, u_108_33, B_108_33, nI1T, Nat.left_eq_add, Nat.add_eq_left, Nat.add_eq_zero_iff, and_false, false_and, if_false, if_true, opsN, opsC, pm_1, lg, ls1, ls2, lq, List.length_cons, List.length_nil, cN, cL, callE, retV, retN, pm_pop, pm_cat, List.map_cons, List.map_nil, List.sum_cons, List.sum_nil, Value.category, Option.toList, List.cons_append, List.nil_append, reduceIte, reduceCtorEq, Nat.reduceAdd, Nat.reduceLT, Nat.reduceLeDiff, Nat.reduceSub, Nat.reduceEqDiff, Nat.zero_le, Nat.sub_zero, Nat.le_refl, true_and, and_true, not_true_eq_false, not_false_eq_true, true_or, or_true, lc_eq, lc_ne, lc_lt, lc_ge, lc_gt, lc_le, nI_add, lN_add, nI_leI, nI_ltI, nI_eq, nI_clamp, pk_lLT, pk_lLE, pk_lEQ, pk_sub, vp_inT, nz_eq, nz_lt, nz_ge, nz_gt, nz_le, lz_eq, lz_lt, lz_ge, hP1, hP2, hP3, hP4, hP5, hP6, hP7, hP8, hP9, hP10, hP11, hP12, hP13, hP14, hP15, hP16, hP17, hP18, hP19, hP20, s0, s1, s2, s3, s4, s5, s6, s7, s8, s9, s10, s11, s12, s13, s14, s15, f5, f6, f7, f8, f9, hQ]
theorem c120 (d : Nat) {i : Nat} (hB : isB h b cap bits limit A) (hI : qI bits limit A) (hi : i < qC A) (hQ : Q (.inl (some (.int (nI (qS A i))))) h) : pm_M PP (d + 2) 120 [.ref b, .int (nI i)] h Q := by
  have hB0 := hB
  have hq := qI_line hI
  obtain ⟨⟨s0, s1, s2, s3, s4, s5, s6, s7, s8, s9, s10, s11, s12, s13, s14, s15, s16⟩, f4, f5, f6, f7, f8, f9, rK, rW, rM, rN⟩ := hB
  obtain ⟨i1, i2, i3, i4, i5, i6, i7, i8, i9, i10, i11, i12⟩ := hI
  have hs2 := i12 i hi
  rw [e_120]
  simp (disch := omega) only [u_120_0, B_120_0, nI1T, Nat.left_eq_add, Nat.add_eq_left, Nat.add_eq_zero_iff, and_false, false_and, if_false, if_true, opsN, opsC, pm_1, lg, ls1, ls2, lq, List.length_cons, List.length_nil, cN, cL, callE, retV, retN, pm_pop, pm_cat, List.map_cons, List.map_nil, List.sum_cons, List.sum_nil, Value.category, Option.toList, List.cons_append, List.nil_append, reduceIte, reduceCtorEq, Nat.reduceAdd, Nat.reduceLT, Nat.reduceLeDiff, Nat.reduceSub, Nat.reduceEqDiff, Nat.zero_le, Nat.sub_zero, Nat.le_refl, true_and, and_true, not_true_eq_false, not_false_eq_true, true_or, or_true, lc_eq, lc_ne, lc_lt, lc_ge, lc_gt, lc_le, nI_add, lN_add, nI_leI, nI_ltI, nI_eq, nI_clamp, pk_lLT, pk_lLE, pk_lEQ, pk_sub, vp_inT, nz_eq, nz_lt, nz_ge, nz_gt, nz_le, lz_eq, lz_lt, lz_ge, hP1, hP2, hP3, hP4, hP5, hP6, hP7, hP8, hP9, hP10, hP11, hP12, hP13, hP14, hP15, hP16, hP17, hP18, hP19, hP20, s0]
  refine c104t d hB0 (by omega) hi ?_
  by_cases hw : qS A i = 0
  · have := (hq i ((i8 i).mpr ⟨hi, hw⟩)).2.2
    rw [hw] at hQ
    simp (disch := omega) only [u_120_0, B_120_0, u_120_10, B_120_10, u_120_21, B_120_21, u_120_35, B_120_35, u_120_36, B_120_36, nI1T, Nat.left_eq_add, Nat.add_eq_left, Nat.add_eq_zero_iff, and_false, false_and, if_false, if_true, opsN, opsC, pm_1, lg, ls1, ls2, lq, List.length_cons, List.length_nil, cN, cL, callE, retV, retN, pm_pop, pm_cat, List.map_cons, List.map_nil, List.sum_cons, List.sum_nil, Value.category, Option.toList, List.cons_append, List.nil_append, reduceIte, reduceCtorEq, Nat.reduceAdd, Nat.reduceLT, Nat.reduceLeDiff, Nat.reduceSub, Nat.reduceEqDiff, Nat.zero_le, Nat.sub_zero, Nat.le_refl, true_and, and_true, not_true_eq_false, not_false_eq_true, true_or, or_true, lc_eq, lc_ne, lc_lt, lc_ge, lc_gt, lc_le, nI_add, lN_add, nI_leI, nI_ltI, nI_eq, nI_clamp, pk_lLT, pk_lLE, pk_lEQ, pk_sub, vp_inT, nz_eq, nz_lt, nz_ge, nz_gt, nz_le, lz_eq, lz_lt, lz_ge, hP1, hP2, hP3, hP4, hP5, hP6, hP7, hP8, hP9, hP10, hP11, hP12, hP13, hP14, hP15, hP16, hP17, hP18, hP19, hP20, s0, s1, s2, s3, s4, s5, s6, s7, s8, s9, s10, s11, s12, s13, s14, s15, f5, f6, f7, f8, f9, rW, wv_0 hw, hQ]
  · by_cases h1 : qS A i = 1
    · rw [h1] at hQ
      have e : wv (qS A i) (qW A i) = -nI 1 := by unfold wv; rw [if_neg hw, if_pos h1]
      have z : (-nI 1 < 0) = True := eq_true (by decide)
      simp (disch := omega) only [u_120_0, B_120_0, u_120_10, B_120_10, u_120_21, B_120_21, u_120_35, B_120_35, u_120_36, B_120_36, nI1T, Nat.left_eq_add, Nat.add_eq_left, Nat.add_eq_zero_iff, and_false, false_and, if_false, if_true, opsN, opsC, pm_1, lg, ls1, ls2, lq, List.length_cons, List.length_nil, cN, cL, callE, retV, retN, pm_pop, pm_cat, List.map_cons, List.map_nil, List.sum_cons, List.sum_nil, Value.category, Option.toList, List.cons_append, List.nil_append, reduceIte, reduceCtorEq, Nat.reduceAdd, Nat.reduceLT, Nat.reduceLeDiff, Nat.reduceSub, Nat.reduceEqDiff, Nat.zero_le, Nat.sub_zero, Nat.le_refl, true_and, and_true, not_true_eq_false, not_false_eq_true, true_or, or_true, lc_eq, lc_ne, lc_lt, lc_ge, lc_gt, lc_le, nI_add, lN_add, nI_leI, nI_ltI, nI_eq, nI_clamp, pk_lLT, pk_lLE, pk_lEQ, pk_sub, vp_inT, nz_eq, nz_lt, nz_ge, nz_gt, nz_le, lz_eq, lz_lt, lz_ge, hP1, hP2, hP3, hP4, hP5, hP6, hP7, hP8, hP9, hP10, hP11, hP12, hP13, hP14, hP15, hP16, hP17, hP18, hP19, hP20, s0, s1, s2, s3, s4, s5, s6, s7, s8, s9, s10, s11, s12, s13, s14, s15, f5, f6, f7, f8, f9, rW, e, z, hQ]
    · have h2 : qS A i = 2 := by omega
      rw [h2] at hQ
      have e : wv (qS A i) (qW A i) = -nI 2 := by unfold wv; rw [if_neg hw, if_neg h1]
      have z : (-nI 2 < 0) = True := eq_true (by decide)
      have z2 : (-nI 2 = -nI 1) = False := eq_false (by decide)
      simp (disch := omega) only [u_120_0, B_120_0, u_120_10, B_120_10, u_120_21, B_120_21, u_120_35, B_120_35, u_120_36, B_120_36, nI1T, Nat.left_eq_add, Nat.add_eq_left, Nat.add_eq_zero_iff, and_false, false_and, if_false, if_true, opsN, opsC, pm_1, lg, ls1, ls2, lq, List.length_cons, List.length_nil, cN, cL, callE, retV, retN, pm_pop, pm_cat, List.map_cons, List.map_nil, List.sum_cons, List.sum_nil, Value.category, Option.toList, List.cons_append, List.nil_append, reduceIte, reduceCtorEq, Nat.reduceAdd, Nat.reduceLT, Nat.reduceLeDiff, Nat.reduceSub, Nat.reduceEqDiff, Nat.zero_le, Nat.sub_zero, Nat.le_refl, true_and, and_true, not_true_eq_false, not_false_eq_true, true_or, or_true, lc_eq, lc_ne, lc_lt, lc_ge, lc_gt, lc_le, nI_add, lN_add, nI_leI, nI_ltI, nI_eq, nI_clamp, pk_lLT, pk_lLE, pk_lEQ, pk_sub, vp_inT, nz_eq, nz_lt, nz_ge, nz_gt, nz_le, lz_eq, lz_lt, lz_ge, hP1, hP2, hP3, hP4, hP5, hP6, hP7, hP8, hP9, hP10, hP11, hP12, hP13, hP14, hP15, hP16, hP17, hP18, hP19, hP20, s0, s1, s2, s3, s4, s5, s6, s7, s8, s9, s10, s11, s12, s13, s14, s15, f5, f6, f7, f8, f9, rW, e, z, z2, hQ]
/-! loops over the line -/
theorem l118 (d : Nat) {i : Nat} (hB : isB h b cap bits limit A) (hq : ∀ x, x ∈ qN A → x < 300) (hln : (qN A).length ≤ cap) (hi : i < 300) (hQ : ∀ pre r, qN A = pre ++ i :: r → (∀ x, x ∈ pre → x ≠ i) → Q (.inl (some (.int (nI pre.length)))) h) :
    ∀ (suf pre : List Nat), qN A = pre ++ suf → i ∈ suf → (∀ x, x ∈ pre → x ≠ i) → pm_W PP d 118 Q 0 0 2 [some (.ref b), some (.int (nI i)), some (.int (nI pre.length))] [] h := by
  obtain ⟨⟨s0, s1, s2, s3, s4, s5, s6, s7, s8, s9, s10, s11, s12, s13, s14, s15, s16⟩, f4, f5, f6, f7, f8, f9, rK, rW, rM, rN⟩ := hB
  intro suf
  induction suf with
  | nil => intro pre _ hm; exact absurd hm (List.not_mem_nil)
  | cons y r ih =>
    intro pre he hm hn
    have hlen : (qN A).length = pre.length + (r.length + 1) := by rw [he, List.length_append, List.length_cons]
    have hy := rN pre.length (by omega)
    rw [he, getD_mid] at hy
    have hyl := hq y (by rw [he]; exact List.mem_append_right _ (List.mem_cons_self ..))
    have c1 : ¬ (qN A).length ≤ pre.length := by omega
    rw [u_118_2]
    by_cases e : y = i
    · have := hQ pre r (by rw [← e]; exact he) hn
      simp (disch := omega) only [B_118_2, nI1T, Nat.left_eq_add, Nat.add_eq_left, Nat.add_eq_zero_iff, and_false, false_and, if_false, if_true, opsN, opsC, pm_1, lg, ls1, ls2, lq, List.length_cons, List.length_nil, cN, cL, callE, retV, retN, pm_pop, pm_cat, List.map_cons, List.map_nil, List.sum_cons, List.sum_nil, Value.category, Option.toList, List.cons_append, List.nil_append, reduceIte, reduceCtorEq, Nat.reduceAdd, Nat.reduceLT, Nat.reduceLeDiff, Nat.reduceSub, Nat.reduceEqDiff, Nat.zero_le, Nat.sub_zero, Nat.le_refl, true_and, and_true, not_true_eq_false, not_false_eq_true, true_or, or_true, lc_eq, lc_ne, lc_lt, lc_ge, lc_gt, lc_le, nI_add, lN_add, nI_leI, nI_ltI, nI_eq, nI_clamp, pk_lLT, pk_lLE, pk_lEQ, pk_sub, vp_inT, nz_eq, nz_lt, nz_ge, nz_gt, nz_le, lz_eq, lz_lt, lz_ge, hP1, hP2, hP3, hP4, hP5, hP6, hP7, hP8, hP9, hP10, hP11, hP12, hP13, hP14, hP15, hP16, hP17, hP18, hP19, hP20, s0, s1, s2, s3, s4, s5, s6, s7, s8, s9, s10, s11, s12, s13, s14, s15, f5, f6, f7, f8, f9, c1, hy, e, this]
    · simp (disch := omega) only [B_118_2, u_118_22, B_118_22, nI1T, Nat.left_eq_add, Nat.add_eq_left, Nat.add_eq_zero_iff, and_false, false_and, if_false, if_true, opsN, opsC, pm_1, lg, ls1, ls2, lq, List.length_cons, List.length_nil, cN, cL, callE, retV, retN, pm_pop, pm_cat, List.map_cons, List.map_nil, List.sum_cons, List.sum_nil, Value.category, Option.toList, List.cons_append, List.nil_append, reduceIte, reduceCtorEq, Nat.reduceAdd, Nat.reduceLT, Nat.reduceLeDiff, Nat.reduceSub, Nat.reduceEqDiff, Nat.zero_le, Nat.sub_zero, Nat.le_refl, true_and, and_true, not_true_eq_false, not_false_eq_true, true_or, or_true, lc_eq, lc_ne, lc_lt, lc_ge, lc_gt, lc_le, nI_add, lN_add, nI_leI, nI_ltI, nI_eq, nI_clamp, pk_lLT, pk_lLE, pk_lEQ, pk_sub, vp_inT, nz_eq, nz_lt, nz_ge, nz_gt, nz_le, lz_eq, lz_lt, lz_ge, hP1, hP2, hP3, hP4, hP5, hP6, hP7, hP8, hP9, hP10, hP11, hP12, hP13, hP14, hP15, hP16, hP17, hP18, hP19, hP20, s0, s1, s2, s3, s4, s5, s6, s7, s8, s9, s10, s11, s12, s13, s14, s15, f5, f6, f7, f8, f9, c1, hy, e]
      have := ih (pre ++ [y]) (by rw [List.append_assoc]; exact he) ((List.mem_cons.mp hm).resolve_left (Ne.symm e)) (fun x hx => by
        rcases List.mem_append.mp hx with z | z
        · exact hn x z
        · rw [List.mem_singleton.mp z]; exact e)
      rw [List.length_append] at this
      exact this
theorem c118 (d : Nat) {i : Nat} (hB : isB h b cap bits limit A) (hq : ∀ x, x ∈ qN A → x < 300) (hln : (qN A).length ≤ cap) (hi : i ∈ qN A) (hQ : ∀ pre r, qN A = pre ++ i :: r → (∀ x, x ∈ pre → x ≠ i) → Q (.inl (some (.int (nI pre.length)))) h) : pm_M PP (d + 1) 118 [.ref b, .int (nI i)] h Q := by
  rw [e_118]
  simp (disch := omega) only [u_118_0, B_118_0, nI1T, Nat.left_eq_add, Nat.add_eq_left, Nat.add_eq_zero_iff, and_false, false_and, if_false, if_true, opsN, opsC, pm_1, lg, ls1, ls2, lq, List.length_cons, List.length_nil, cN, cL, callE, retV, retN, pm_pop, pm_cat, List.map_cons, List.map_nil, List.sum_cons, List.sum_nil, Value.category, Option.toList, List.cons_append, List.nil_append, reduceIte, reduceCtorEq, Nat.reduceAdd, Nat.reduceLT, Nat.reduceLeDiff, Nat.reduceSub, Nat.reduceEqDiff, Nat.zero_le, Nat.sub_zero, Nat.le_refl, true_and, and_true, not_true_eq_false, not_false_eq_true, true_or, or_true, lc_eq, lc_ne, lc_lt, lc_ge, lc_gt, lc_le, nI_add, lN_add, nI_leI, nI_ltI, nI_eq, nI_clamp, pk_lLT, pk_lLE, pk_lEQ, pk_sub, vp_inT, nz_eq, nz_lt, nz_ge, nz_gt, nz_le, lz_eq, lz_lt, lz_ge, hP1, hP2, hP3, hP4, hP5, hP6, hP7, hP8, hP9, hP10, hP11, hP12, hP13, hP14, hP15, hP16, hP17, hP18, hP19, hP20]
  exact l118 d hB hq hln (hq i hi) hQ (qN A) [] rfl hi (fun x hx => absurd hx List.not_mem_nil)
/-- how many of a bucket -/
def cntB (W : Nat → Nat) (x : Int32) : List Nat → Nat
  | [] => 0
  | y :: r => (if nI (W y) = x then 1 else 0) + cntB W x r
theorem cntB_0 {W : Nat → Nat} {x : Int32} : ∀ {r : List Nat}, (∀ z, z ∈ r → W z < 160 ∧ x < nI (W z)) → cntB W x r = 0
  | [], _ => rfl
  | y :: r, hr => by
    have h1 := (hr y (List.mem_cons_self ..)).2
    show (if nI (W y) = x then 1 else 0) + cntB W x r = 0
    rw [if_neg (fun q => by rw [q] at h1; exact absurd h1 (Int32.lt_irrefl)), cntB_0 (fun z hz => hr z (List.mem_cons_of_mem _ hz))]
theorem l121 (d : Nat) {x : Int32} (hB : isB h b cap bits limit A) (hI : qI bits limit A) :
    ∀ (suf pre : List Nat) (c : Nat), qN A = pre ++ suf → Q (.inl (some (.int (nI (c + cntB (qW A) x suf))))) h → pm_W PP d 121 Q 0 0 4 [some (.ref b), some (.int x), some (.int (nI c)), some (.int (nI pre.length))] [] h := by
  have hq := qI_line hI
  obtain ⟨⟨s0, s1, s2, s3, s4, s5, s6, s7, s8, s9, s10, s11, s12, s13, s14, s15, s16⟩, f4, f5, f6, f7, f8, f9, rK, rW, rM, rN⟩ := hB
  obtain ⟨i1, i2, i3, i4, i5, i6, i7, i8, i9, i10, i11, i12⟩ := hI
  intro suf
  induction suf with
  | nil =>
    intro pre c he hQ
    rw [List.append_nil] at he
    have c1 : (qN A).length ≤ pre.length := by rw [he]; exact Nat.le_refl _
    have c2 : pre.length = (qN A).length := by rw [he]
    rw [u_121_4]
    simp (disch := omega) only [B_121_4, u_121_51, B_121_51, nI1T, Nat.left_eq_add, Nat.add_eq_left, Nat.add_eq_zero_iff, and_false, false_and, if_false, if_true, opsN, opsC, pm_1, lg, ls1, ls2, lq, List.length_cons, List.length_nil, cN, cL, callE, retV, retN, pm_pop, pm_cat, List.map_cons, List.map_nil, List.sum_cons, List.sum_nil, Value.category, Option.toList, List.cons_append, List.nil_append, reduceIte, reduceCtorEq, Nat.reduceAdd, Nat.reduceLT, Nat.reduceLeDiff, Nat.reduceSub, Nat.reduceEqDiff, Nat.zero_le, Nat.sub_zero, Nat.le_refl, true_and, and_true, not_true_eq_false, not_false_eq_true, true_or, or_true, lc_eq, lc_ne, lc_lt, lc_ge, lc_gt, lc_le, nI_add, lN_add, nI_leI, nI_ltI, nI_eq, nI_clamp, pk_lLT, pk_lLE, pk_lEQ, pk_sub, vp_inT, nz_eq, nz_lt, nz_ge, nz_gt, nz_le, lz_eq, lz_lt, lz_ge, hP1, hP2, hP3, hP4, hP5, hP6, hP7, hP8, hP9, hP10, hP11, hP12, hP13, hP14, hP15, hP16, hP17, hP18, hP19, hP20, s0, s1, s2, s3, s4, s5, s6, s7, s8, s9, s10, s11, s12, s13, s14, s15, f5, f6, f7, f8, f9, c1]
    exact hQ
  | cons y r ih =>
    intro pre c he hQ
    have hlen : (qN A).length = pre.length + (r.length + 1) := by rw [he, List.length_append, List.length_cons]
    have hy := rN pre.length (by omega)
    rw [he, getD_mid] at hy
    obtain ⟨y1, y2, y3⟩ := hq y (by rw [he]; exact List.mem_append_right _ (List.mem_cons_self ..))
    have c1 : ¬ (qN A).length ≤ pre.length := by omega
    have hw := rW y y1
    rw [wv_0 y2] at hw
    have step := ih (pre ++ [y])
    rw [List.length_append, List.append_assoc] at step
    rw [u_121_4]
    by_cases a : x < nI (qW A y)
    · have z : cntB (qW A) x (y :: r) = 0 := cntB_0 (fun u hu => by
        have hu2 := hq u (by rw [he]; exact List.mem_append_right _ hu)
        refine ⟨hu2.2.2, ?_⟩
        rcases List.mem_cons.mp hu with e | e
        · rw [e]; exact a
        · have := i9
          rw [he] at this
          have := (List.pairwise_cons.mp (List.pairwise_append.mp this).2.1).1 u e
          exact Int32.lt_of_lt_of_le a (nI_le this (by omega)))
      rw [z, Nat.add_zero] at hQ
      simp (disch := omega) only [B_121_4, u_121_51, B_121_51, nI1T, Nat.left_eq_add, Nat.add_eq_left, Nat.add_eq_zero_iff, and_false, false_and, if_false, if_true, opsN, opsC, pm_1, lg, ls1, ls2, lq, List.length_cons, List.length_nil, cN, cL, callE, retV, retN, pm_pop, pm_cat, List.map_cons, List.map_nil, List.sum_cons, List.sum_nil, Value.category, Option.toList, List.cons_append, List.nil_append, reduceIte, reduceCtorEq, Nat.reduceAdd, Nat.reduceLT, Nat.reduceLeDiff, Nat.reduceSub, Nat.reduceEqDiff, Nat.zero_le, Nat.sub_zero, Nat.le_refl, true_and, and_true, not_true_eq_false, not_false_eq_true, true_or, or_true, lc_eq, lc_ne, lc_lt, lc_ge, lc_gt, lc_le, nI_add, lN_add, nI_leI, nI_ltI, nI_eq, nI_clamp, pk_lLT, pk_lLE, pk_lEQ, pk_sub, vp_inT, nz_eq, nz_lt, nz_ge, nz_gt, nz_le, lz_eq, lz_lt, lz_ge, hP1, hP2, hP3, hP4, hP5, hP6, hP7, hP8, hP9, hP10, hP11, hP12, hP13, hP14, hP15, hP16, hP17, hP18, hP19, hP20, s0, s1, s2, s3, s4, s5, s6, s7, s8, s9, s10, s11, s12, s13, s14, s15, f5, f6, f7, f8, f9, c1, hy, hw, a]
      exact hQ
    · by_cases e : nI (qW A y) = x
      · have a' : ¬ x < x := Int32.lt_irrefl
        simp (disch := omega) only [B_121_4, u_121_45, B_121_45, nI1T, Nat.left_eq_add, Nat.add_eq_left, Nat.add_eq_zero_iff, and_false, false_and, if_false, if_true, opsN, opsC, pm_1, lg, ls1, ls2, lq, List.length_cons, List.length_nil, cN, cL, callE, retV, retN, pm_pop, pm_cat, List.map_cons, List.map_nil, List.sum_cons, List.sum_nil, Value.category, Option.toList, List.cons_append, List.nil_append, reduceIte, reduceCtorEq, Nat.reduceAdd, Nat.reduceLT, Nat.reduceLeDiff, Nat.reduceSub, Nat.reduceEqDiff, Nat.zero_le, Nat.sub_zero, Nat.le_refl, true_and, and_true, not_true_eq_false, not_false_eq_true, true_or, or_true, lc_eq, lc_ne, lc_lt, lc_ge, lc_gt, lc_le, nI_add, lN_add, nI_leI, nI_ltI, nI_eq, nI_clamp, pk_lLT, pk_lLE, pk_lEQ, pk_sub, vp_inT, nz_eq, nz_lt, nz_ge, nz_gt, nz_le, lz_eq, lz_lt, lz_ge, hP1, hP2, hP3, hP4, hP5, hP6, hP7, hP8, hP9, hP10, hP11, hP12, hP13, hP14, hP15, hP16, hP17, hP18, hP19, hP20, s0, s1, s2, s3, s4, s5, s6, s7, s8, s9, s10, s11, s12, s13, s14, s15, f5, f6, f7, f8, f9, c1, hy, hw, a, e, a']
        refine step (c + 1) he ?_
        have z : cntB (qW A) x (y :: r) = 1 + cntB (qW A) x r := by
          show (if nI (qW A y) = x then 1 else 0) + cntB (qW A) x r = _
          rw [if_pos e]
        rw [z] at hQ
        rw [Nat.add_assoc]; exact hQ
      · simp (disch := omega) only [B_121_4, u_121_45, B_121_45, nI1T, Nat.left_eq_add, Nat.add_eq_left, Nat.add_eq_zero_iff, and_false, false_and, if_false, if_true, opsN, opsC, pm_1, lg, ls1, ls2, lq, List.length_cons, List.length_nil, cN, cL, callE, retV, retN, pm_pop, pm_cat, List.map_cons, List.map_nil, List.sum_cons, List.sum_nil, Value.category, Option.toList, List.cons_append, List.nil_append, reduceIte, reduceCtorEq, Nat.reduceAdd, Nat.reduceLT, Nat.reduceLeDiff, Nat.reduceSub, Nat.reduceEqDiff, Nat.zero_le, Nat.sub_zero, Nat.le_refl, true_and, and_true, not_true_eq_false, not_false_eq_true, true_or, or_true, lc_eq, lc_ne, lc_lt, lc_ge, lc_gt, lc_le, nI_add, lN_add, nI_leI, nI_ltI, nI_eq, nI_clamp, pk_lLT, pk_lLE, pk_lEQ, pk_sub, vp_inT, nz_eq, nz_lt, nz_ge, nz_gt, nz_le, lz_eq, lz_lt, lz_ge, hP1, hP2, hP3, hP4, hP5, hP6, hP7, hP8, hP9, hP10, hP11, hP12, hP13, hP14, hP15, hP16, hP17, hP18, hP19, hP20, s0, s1, s2, s3, s4, s5, s6, s7, s8, s9, s10, s11, s12, s13, s14, s15, f5, f6, f7, f8, f9, c1, hy, hw, a, e]
        refine step c he ?_
        have z : cntB (qW A) x (y :: r) = cntB (qW A) x r := by
          show (if nI (qW A y) = x then 1 else 0) + cntB (qW A) x r = _
          rw [if_neg e, Nat.zero_add]
        rw [z] at hQ
        exact hQ
theorem c121 (d : Nat) {x : Int32} (hB : isB h b cap bits limit A) (hI : qI bits limit A) (hQ : Q (.inl (some (.int (nI (cntB (qW A) x (qN A)))))) h) : pm_M PP (d + 1) 121 [.ref b, .int x] h Q := by
  rw [e_121]
  simp (disch := omega) only [u_121_0, B_121_0, nI1T, Nat.left_eq_add, Nat.add_eq_left, Nat.add_eq_zero_iff, and_false, false_and, if_false, if_true, opsN, opsC, pm_1, lg, ls1, ls2, lq, List.length_cons, List.length_nil, cN, cL, callE, retV, retN, pm_pop, pm_cat, List.map_cons, List.map_nil, List.sum_cons, List.sum_nil, Value.category, Option.toList, List.cons_append, List.nil_append, reduceIte, reduceCtorEq, Nat.reduceAdd, Nat.reduceLT, Nat.reduceLeDiff, Nat.reduceSub, Nat.reduceEqDiff, Nat.zero_le, Nat.sub_zero, Nat.le_refl, true_and, and_true, not_true_eq_false, not_false_eq_true, true_or, or_true, lc_eq, lc_ne, lc_lt, lc_ge, lc_gt, lc_le, nI_add, lN_add, nI_leI, nI_ltI, nI_eq, nI_clamp, pk_lLT, pk_lLE, pk_lEQ, pk_sub, vp_inT, nz_eq, nz_lt, nz_ge, nz_gt, nz_le, lz_eq, lz_lt, lz_ge, hP1, hP2, hP3, hP4, hP5, hP6, hP7, hP8, hP9, hP10, hP11, hP12, hP13, hP14, hP15, hP16, hP17, hP18, hP19, hP20]
  exact l121 d hB hI (qN A) [] 0 rfl (by rw [Nat.zero_add]; exact hQ)
/-- the least key of the head's bucket -/
theorem l122 (d : Nat) {w : Nat} (hB : isB h b cap bits limit A) (hI : qI bits limit A) (hw0 : w < 160) :
    ∀ (suf pre : List Nat) (m : Nat), qN A = pre ++ suf → m < 2 ^ 40 → Q (.inl (some (.long (lN (minA (qK A) m (suf.takeWhile fun x => qW A x == w)))))) h →
      pm_W PP d 122 Q 0 0 38 [some (.ref b), some (.int (nI w)), some (.long (lN m)), none, some (.int (nI pre.length))] [] h := by
  have hq := qI_line hI
  obtain ⟨⟨s0, s1, s2, s3, s4, s5, s6, s7, s8, s9, s10, s11, s12, s13, s14, s15, s16⟩, f4, f5, f6, f7, f8, f9, rK, rW, rM, rN⟩ := hB
  obtain ⟨i1, i2, i3, i4, i5, i6, i7, i8, i9, i10, i11, i12⟩ := hI
  intro suf
  induction suf with
  | nil =>
    intro pre m he hm hQ
    rw [List.append_nil] at he
    have c1 : (qN A).length ≤ pre.length := by rw [he]; exact Nat.le_refl _
    have c2 : pre.length = (qN A).length := by rw [he]
    rw [u_122_38]
    simp (disch := omega) only [B_122_38, u_122_86, B_122_86, nI1T, Nat.left_eq_add, Nat.add_eq_left, Nat.add_eq_zero_iff, and_false, false_and, if_false, if_true, opsN, opsC, pm_1, lg, ls1, ls2, lq, List.length_cons, List.length_nil, cN, cL, callE, retV, retN, pm_pop, pm_cat, List.map_cons, List.map_nil, List.sum_cons, List.sum_nil, Value.category, Option.toList, List.cons_append, List.nil_append, reduceIte, reduceCtorEq, Nat.reduceAdd, Nat.reduceLT, Nat.reduceLeDiff, Nat.reduceSub, Nat.reduceEqDiff, Nat.zero_le, Nat.sub_zero, Nat.le_refl, true_and, and_true, not_true_eq_false, not_false_eq_true, true_or, or_true, lc_eq, lc_ne, lc_lt, lc_ge, lc_gt, lc_le, nI_add, lN_add, nI_leI, nI_ltI, nI_eq, nI_clamp, pk_lLT, pk_lLE, pk_lEQ, pk_sub, vp_inT, nz_eq, nz_lt, nz_ge, nz_gt, nz_le, lz_eq, lz_lt, lz_ge, hP1, hP2, hP3, hP4, hP5, hP6, hP7, hP8, hP9, hP10, hP11, hP12, hP13, hP14, hP15, hP16, hP17, hP18, hP19, hP20, s0, s1, s2, s3, s4, s5, s6, s7, s8, s9, s10, s11, s12, s13, s14, s15, f5, f6, f7, f8, f9, c1]
    exact hQ
  | cons y r ih =>
    intro pre m he hm hQ
    have hlen : (qN A).length = pre.length + (r.length + 1) := by rw [he, List.length_append, List.length_cons]
    have hy := rN pre.length (by omega)
    rw [he, getD_mid] at hy
    obtain ⟨y1, y2, y3⟩ := hq y (by rw [he]; exact List.mem_append_right _ (List.mem_cons_self ..))
    have c1 : ¬ (qN A).length ≤ pre.length := by omega
    have hw := rW y y1
    rw [wv_0 y2] at hw
    have hk := rK y y1
    have hk2 := i6 y y1
    have step := ih (pre ++ [y])
    rw [List.length_append, List.append_assoc] at step
    rw [List.takeWhile_cons] at hQ
    rw [u_122_38]
    by_cases e : qW A y = w
    · simp (disch := omega) only [B_122_38, nI1T, Nat.left_eq_add, Nat.add_eq_left, Nat.add_eq_zero_iff, and_false, false_and, if_false, if_true, opsN, opsC, pm_1, lg, ls1, ls2, lq, List.length_cons, List.length_nil, cN, cL, callE, retV, retN, pm_pop, pm_cat, List.map_cons, List.map_nil, List.sum_cons, List.sum_nil, Value.category, Option.toList, List.cons_append, List.nil_append, reduceIte, reduceCtorEq, Nat.reduceAdd, Nat.reduceLT, Nat.reduceLeDiff, Nat.reduceSub, Nat.reduceEqDiff, Nat.zero_le, Nat.sub_zero, Nat.le_refl, true_and, and_true, not_true_eq_false, not_false_eq_true, true_or, or_true, lc_eq, lc_ne, lc_lt, lc_ge, lc_gt, lc_le, nI_add, lN_add, nI_leI, nI_ltI, nI_eq, nI_clamp, pk_lLT, pk_lLE, pk_lEQ, pk_sub, vp_inT, nz_eq, nz_lt, nz_ge, nz_gt, nz_le, lz_eq, lz_lt, lz_ge, hP1, hP2, hP3, hP4, hP5, hP6, hP7, hP8, hP9, hP10, hP11, hP12, hP13, hP14, hP15, hP16, hP17, hP18, hP19, hP20, s0, s1, s2, s3, s4, s5, s6, s7, s8, s9, s10, s11, s12, s13, s14, s15, f5, f6, f7, f8, f9, c1, hy, hw, e, hk, ite_lN]
      refine step _ he (by split <;> omega) ?_
      rw [if_pos (by rw [e]; exact beq_self_eq_true w)] at hQ
      exact hQ
    · simp (disch := omega) only [B_122_38, u_122_86, B_122_86, nI1T, Nat.left_eq_add, Nat.add_eq_left, Nat.add_eq_zero_iff, and_false, false_and, if_false, if_true, opsN, opsC, pm_1, lg, ls1, ls2, lq, List.length_cons, List.length_nil, cN, cL, callE, retV, retN, pm_pop, pm_cat, List.map_cons, List.map_nil, List.sum_cons, List.sum_nil, Value.category, Option.toList, List.cons_append, List.nil_append, reduceIte, reduceCtorEq, Nat.reduceAdd, Nat.reduceLT, Nat.reduceLeDiff, Nat.reduceSub, Nat.reduceEqDiff, Nat.zero_le, Nat.sub_zero, Nat.le_refl, true_and, and_true, not_true_eq_false, not_false_eq_true, true_or, or_true, lc_eq, lc_ne, lc_lt, lc_ge, lc_gt, lc_le, nI_add, lN_add, nI_leI, nI_ltI, nI_eq, nI_clamp, pk_lLT, pk_lLE, pk_lEQ, pk_sub, vp_inT, nz_eq, nz_lt, nz_ge, nz_gt, nz_le, lz_eq, lz_lt, lz_ge, hP1, hP2, hP3, hP4, hP5, hP6, hP7, hP8, hP9, hP10, hP11, hP12, hP13, hP14, hP15, hP16, hP17, hP18, hP19, hP20, s0, s1, s2, s3, s4, s5, s6, s7, s8, s9, s10, s11, s12, s13, s14, s15, f5, f6, f7, f8, f9, c1, hy, hw, e]
      rw [if_neg (by rw [beq_iff_eq]; exact e)] at hQ
      exact hQ
theorem c122 (d : Nat) (hB : isB h b cap bits limit A) (hI : qI bits limit A) (hne : qN A ≠ []) (hQ : Q (.inl (some (.long (lN (minK (qK A) (hdD A)))))) h) : pm_M PP (d + 1) 122 [.ref b] h Q := by
  have hB0 := hB
  have hI0 := hI
  have hq := qI_line hI
  obtain ⟨⟨s0, s1, s2, s3, s4, s5, s6, s7, s8, s9, s10, s11, s12, s13, s14, s15, s16⟩, f4, f5, f6, f7, f8, f9, rK, rW, rM, rN⟩ := hB
  obtain ⟨i1, i2, i3, i4, i5, i6, i7, i8, i9, i10, i11, i12⟩ := hI
  obtain ⟨x, r, hx⟩ : ∃ x r, qN A = x :: r := by
    cases e : qN A with
    | nil => exact absurd e hne
    | cons x r => exact ⟨x, r, rfl⟩
  obtain ⟨x1, x2, x3⟩ := hq x (by rw [hx]; exact List.mem_cons_self ..)
  have hl0 := rN 0 (by rw [hx]; exact Nat.zero_lt_succ _)
  have e0 : (qN A).getD 0 0 = x := by rw [hx]; rfl
  rw [e0] at hl0
  have hw := rW x x1
  rw [wv_0 x2] at hw
  have hk := rK x x1
  have c0 : ¬ (qN A).length = 0 := by rw [hx]; exact Nat.succ_ne_zero _
  have c3 : 0 < (qN A).length := by omega
  rw [e_122]
  simp (disch := omega) only [u_122_0, B_122_0, u_122_11, B_122_11, nI1T, Nat.left_eq_add, Nat.add_eq_left, Nat.add_eq_zero_iff, and_false, false_and, if_false, if_true, opsN, opsC, pm_1, lg, ls1, ls2, lq, List.length_cons, List.length_nil, cN, cL, callE, retV, retN, pm_pop, pm_cat, List.map_cons, List.map_nil, List.sum_cons, List.sum_nil, Value.category, Option.toList, List.cons_append, List.nil_append, reduceIte, reduceCtorEq, Nat.reduceAdd, Nat.reduceLT, Nat.reduceLeDiff, Nat.reduceSub, Nat.reduceEqDiff, Nat.zero_le, Nat.sub_zero, Nat.le_refl, true_and, and_true, not_true_eq_false, not_false_eq_true, true_or, or_true, lc_eq, lc_ne, lc_lt, lc_ge, lc_gt, lc_le, nI_add, lN_add, nI_leI, nI_ltI, nI_eq, nI_clamp, pk_lLT, pk_lLE, pk_lEQ, pk_sub, vp_inT, nz_eq, nz_lt, nz_ge, nz_gt, nz_le, lz_eq, lz_lt, lz_ge, hP1, hP2, hP3, hP4, hP5, hP6, hP7, hP8, hP9, hP10, hP11, hP12, hP13, hP14, hP15, hP16, hP17, hP18, hP19, hP20, s0, s1, s2, s3, s4, s5, s6, s7, s8, s9, s10, s11, s12, s13, s14, s15, f5, f6, f7, f8, f9, c0, hl0, hw, hk]
  have hb0 : hdB A = qW A x := by unfold hdB; rw [hx]; rfl
  refine l122 d hB0 hI0 x3 r [x] (qK A x) hx (i6 x x1) ?_
  unfold hdD at hQ
  rw [hb0, hx, List.takeWhile_cons, if_pos (beq_self_eq_true _)] at hQ
  exact hQ
theorem c122e (d : Nat) (hB : isB h b cap bits limit A) (hne : qN A = []) (hQ : Q (.inl (some (.long (-lN 1)))) h) : pm_M PP (d + 1) 122 [.ref b] h Q := by
  obtain ⟨⟨s0, s1, s2, s3, s4, s5, s6, s7, s8, s9, s10, s11, s12, s13, s14, s15, s16⟩, f4, f5, f6, f7, f8, f9, rK, rW, rM, rN⟩ := hB
  have c0 : (qN A).length = 0 := by rw [hne]; rfl
  rw [e_122]
  rw [c0] at f9
  simp (disch := omega) only [u_122_0, B_122_0, nI1T, Nat.left_eq_add, Nat.add_eq_left, Nat.add_eq_zero_iff, and_false, false_and, if_false, if_true, opsN, opsC, pm_1, lg, ls1, ls2, lq, List.length_cons, List.length_nil, cN, cL, callE, retV, retN, pm_pop, pm_cat, List.map_cons, List.map_nil, List.sum_cons, List.sum_nil, Value.category, Option.toList, List.cons_append, List.nil_append, reduceIte, reduceCtorEq, Nat.reduceAdd, Nat.reduceLT, Nat.reduceLeDiff, Nat.reduceSub, Nat.reduceEqDiff, Nat.zero_le, Nat.sub_zero, Nat.le_refl, true_and, and_true, not_true_eq_false, not_false_eq_true, true_or, or_true, lc_eq, lc_ne, lc_lt, lc_ge, lc_gt, lc_le, nI_add, lN_add, nI_leI, nI_ltI, nI_eq, nI_clamp, pk_lLT, pk_lLE, pk_lEQ, pk_sub, vp_inT, nz_eq, nz_lt, nz_ge, nz_gt, nz_le, lz_eq, lz_lt, lz_ge, hP1, hP2, hP3, hP4, hP5, hP6, hP7, hP8, hP9, hP10, hP11, hP12, hP13, hP14, hP15, hP16, hP17, hP18, hP19, hP20, s0, s1, s2, s3, s4, s5, s6, s7, s8, s9, s10, s11, s12, s13, s14, s15, f5, f6, f7, f8, f9, hQ]
/-- buckets with an item -/
def filB (W : Nat → Nat) : List Nat → Nat
  | [] => 0
  | [_] => 1
  | x :: y :: r => (if W y = W x then 0 else 1) + filB W (y :: r)
theorem l123 (d : Nat) (hB : isB h b cap bits limit A) (hI : qI bits limit A) :
    ∀ (suf pre : List Nat) (y : Nat) (c : Nat), qN A = pre ++ y :: suf → Q (.inl (some (.int (nI (c + filB (qW A) (y :: suf)))))) h → pm_W PP d 123 Q 0 0 4 [some (.ref b), some (.int (nI (c + 1))), some (.int (nI (pre.length + 1)))] [] h := by
  have hq := qI_line hI
  obtain ⟨⟨s0, s1, s2, s3, s4, s5, s6, s7, s8, s9, s10, s11, s12, s13, s14, s15, s16⟩, f4, f5, f6, f7, f8, f9, rK, rW, rM, rN⟩ := hB
  obtain ⟨i1, i2, i3, i4, i5, i6, i7, i8, i9, i10, i11, i12⟩ := hI
  intro suf
  induction suf with
  | nil =>
    intro pre y c he hQ
    have c2 : (qN A).length = pre.length + 1 := by rw [he, List.length_append]; rfl
    have c1 : (qN A).length ≤ pre.length + 1 := by omega
    rw [u_123_4]
    simp (disch := omega) only [B_123_4, u_123_52, B_123_52, nI1T, Nat.left_eq_add, Nat.add_eq_left, Nat.add_eq_zero_iff, and_false, false_and, if_false, if_true, opsN, opsC, pm_1, lg, ls1, ls2, lq, List.length_cons, List.length_nil, cN, cL, callE, retV, retN, pm_pop, pm_cat, List.map_cons, List.map_nil, List.sum_cons, List.sum_nil, Value.category, Option.toList, List.cons_append, List.nil_append, reduceIte, reduceCtorEq, Nat.reduceAdd, Nat.reduceLT, Nat.reduceLeDiff, Nat.reduceSub, Nat.reduceEqDiff, Nat.zero_le, Nat.sub_zero, Nat.le_refl, true_and, and_true, not_true_eq_false, not_false_eq_true, true_or, or_true, lc_eq, lc_ne, lc_lt, lc_ge, lc_gt, lc_le, nI_add, lN_add, nI_leI, nI_ltI, nI_eq, nI_clamp, pk_lLT, pk_lLE, pk_lEQ, pk_sub, vp_inT, nz_eq, nz_lt, nz_ge, nz_gt, nz_le, lz_eq, lz_lt, lz_ge, hP1, hP2, hP3, hP4, hP5, hP6, hP7, hP8, hP9, hP10, hP11, hP12, hP13, hP14, hP15, hP16, hP17, hP18, hP19, hP20, s0, s1, s2, s3, s4, s5, s6, s7, s8, s9, s10, s11, s12, s13, s14, s15, f5, f6, f7, f8, f9, c1]
    exact hQ
  | cons z r ih =>
    intro pre y c he hQ
    have hlen : (qN A).length = pre.length + (r.length + 1 + 1) := by rw [he, List.length_append, List.length_cons, List.length_cons]
    have hy := rN pre.length (by omega)
    rw [he, getD_mid] at hy
    have he' : qN A = (pre ++ [y]) ++ z :: r := by rw [List.append_assoc]; exact he
    have hl2 : (pre ++ [y]).length = pre.length + 1 := by rw [List.length_append]; rfl
    have hz := rN (pre ++ [y]).length (by omega)
    rw [he', getD_mid, hl2] at hz
    obtain ⟨y1, y2, y3⟩ := hq y (by rw [he]; exact List.mem_append_right _ (List.mem_cons_self ..))
    obtain ⟨z1, z2, z3⟩ := hq z (by rw [he]; exact List.mem_append_right _ (List.mem_cons_of_mem _ (List.mem_cons_self ..)))
    have hwy := rW y y1
    rw [wv_0 y2] at hwy
    have hwz := rW z z1
    rw [wv_0 z2] at hwz
    have c1 : ¬ (qN A).length ≤ pre.length + 1 := by omega
    have c3 : ¬ pre.length + 1 = 0 := by omega
    have c4 : pre.length + 1 - 1 = pre.length := by omega
    have step := ih (pre ++ [y]) z
    rw [hl2] at step
    have eF : filB (qW A) (y :: z :: r) = (if qW A z = qW A y then 0 else 1) + filB (qW A) (z :: r) := rfl
    rw [eF] at hQ
    rw [u_123_4]
    by_cases e : qW A z = qW A y
    · simp (disch := omega) only [B_123_4, u_123_46, B_123_46, nI1T, Nat.left_eq_add, Nat.add_eq_left, Nat.add_eq_zero_iff, and_false, false_and, if_false, if_true, opsN, opsC, pm_1, lg, ls1, ls2, lq, List.length_cons, List.length_nil, cN, cL, callE, retV, retN, pm_pop, pm_cat, List.map_cons, List.map_nil, List.sum_cons, List.sum_nil, Value.category, Option.toList, List.cons_append, List.nil_append, reduceIte, reduceCtorEq, Nat.reduceAdd, Nat.reduceLT, Nat.reduceLeDiff, Nat.reduceSub, Nat.reduceEqDiff, Nat.zero_le, Nat.sub_zero, Nat.le_refl, true_and, and_true, not_true_eq_false, not_false_eq_true, true_or, or_true, lc_eq, lc_ne, lc_lt, lc_ge, lc_gt, lc_le, nI_add, lN_add, nI_leI, nI_ltI, nI_eq, nI_clamp, pk_lLT, pk_lLE, pk_lEQ, pk_sub, vp_inT, nz_eq, nz_lt, nz_ge, nz_gt, nz_le, lz_eq, lz_lt, lz_ge, hP1, hP2, hP3, hP4, hP5, hP6, hP7, hP8, hP9, hP10, hP11, hP12, hP13, hP14, hP15, hP16, hP17, hP18, hP19, hP20, s0, s1, s2, s3, s4, s5, s6, s7, s8, s9, s10, s11, s12, s13, s14, s15, f5, f6, f7, f8, f9, c1, c3, c4, hy, hz, hwy, hwz, e]
      refine step c he' ?_
      rw [if_pos e, Nat.zero_add] at hQ
      exact hQ
    · simp (disch := omega) only [B_123_4, u_123_43, B_123_43, u_123_46, B_123_46, nI1T, Nat.left_eq_add, Nat.add_eq_left, Nat.add_eq_zero_iff, and_false, false_and, if_false, if_true, opsN, opsC, pm_1, lg, ls1, ls2, lq, List.length_cons, List.length_nil, cN, cL, callE, retV, retN, pm_pop, pm_cat, List.map_cons, List.map_nil, List.sum_cons, List.sum_nil, Value.category, Option.toList, List.cons_append, List.nil_append, reduceIte, reduceCtorEq, Nat.reduceAdd, Nat.reduceLT, Nat.reduceLeDiff, Nat.reduceSub, Nat.reduceEqDiff, Nat.zero_le, Nat.sub_zero, Nat.le_refl, true_and, and_true, not_true_eq_false, not_false_eq_true, true_or, or_true, lc_eq, lc_ne, lc_lt, lc_ge, lc_gt, lc_le, nI_add, lN_add, nI_leI, nI_ltI, nI_eq, nI_clamp, pk_lLT, pk_lLE, pk_lEQ, pk_sub, vp_inT, nz_eq, nz_lt, nz_ge, nz_gt, nz_le, lz_eq, lz_lt, lz_ge, hP1, hP2, hP3, hP4, hP5, hP6, hP7, hP8, hP9, hP10, hP11, hP12, hP13, hP14, hP15, hP16, hP17, hP18, hP19, hP20, s0, s1, s2, s3, s4, s5, s6, s7, s8, s9, s10, s11, s12, s13, s14, s15, f5, f6, f7, f8, f9, c1, c3, c4, hy, hz, hwy, hwz, e]
      refine step (c + 1) he' ?_
      rw [if_neg e, ← Nat.add_assoc] at hQ
      exact hQ
theorem c123 (d : Nat) (hB : isB h b cap bits limit A) (hI : qI bits limit A) (hQ : Q (.inl (some (.int (nI (filB (qW A) (qN A)))))) h) : pm_M PP (d + 1) 123 [.ref b] h Q := by
  have hB0 := hB
  have hI0 := hI
  obtain ⟨⟨s0, s1, s2, s3, s4, s5, s6, s7, s8, s9, s10, s11, s12, s13, s14, s15, s16⟩, f4, f5, f6, f7, f8, f9, rK, rW, rM, rN⟩ := hB
  obtain ⟨i1, i2, i3, i4, i5, i6, i7, i8, i9, i10, i11, i12⟩ := hI
  rw [e_123]
  cases e : qN A with
  | nil =>
    have c0 : (qN A).length = 0 := by rw [e]; rfl
    rw [c0] at f9
    rw [e] at hQ
    simp (disch := omega) only [u_123_0, B_123_0, nI1T, Nat.left_eq_add, Nat.add_eq_left, Nat.add_eq_zero_iff, and_false, false_and, if_false, if_true, opsN, opsC, pm_1, lg, ls1, ls2, lq, List.length_cons, List.length_nil, cN, cL, callE, retV, retN, pm_pop, pm_cat, List.map_cons, List.map_nil, List.sum_cons, List.sum_nil, Value.category, Option.toList, List.cons_append, List.nil_append, reduceIte, reduceCtorEq, Nat.reduceAdd, Nat.reduceLT, Nat.reduceLeDiff, Nat.reduceSub, Nat.reduceEqDiff, Nat.zero_le, Nat.sub_zero, Nat.le_refl, true_and, and_true, not_true_eq_false, not_false_eq_true, true_or, or_true, lc_eq, lc_ne, lc_lt, lc_ge, lc_gt, lc_le, nI_add, lN_add, nI_leI, nI_ltI, nI_eq, nI_clamp, pk_lLT, pk_lLE, pk_lEQ, pk_sub, vp_inT, nz_eq, nz_lt, nz_ge, nz_gt, nz_le, lz_eq, lz_lt, lz_ge, hP1, hP2, hP3, hP4, hP5, hP6, hP7, hP8, hP9, hP10, hP11, hP12, hP13, hP14, hP15, hP16, hP17, hP18, hP19, hP20]
    rw [u_123_4]
    simp (disch := omega) only [B_123_4, u_123_52, B_123_52, nI1T, Nat.left_eq_add, Nat.add_eq_left, Nat.add_eq_zero_iff, and_false, false_and, if_false, if_true, opsN, opsC, pm_1, lg, ls1, ls2, lq, List.length_cons, List.length_nil, cN, cL, callE, retV, retN, pm_pop, pm_cat, List.map_cons, List.map_nil, List.sum_cons, List.sum_nil, Value.category, Option.toList, List.cons_append, List.nil_append, reduceIte, reduceCtorEq, Nat.reduceAdd, Nat.reduceLT, Nat.reduceLeDiff, Nat.reduceSub, Nat.reduceEqDiff, Nat.zero_le, Nat.sub_zero, Nat.le_refl, true_and, and_true, not_true_eq_false, not_false_eq_true, true_or, or_true, lc_eq, lc_ne, lc_lt, lc_ge, lc_gt, lc_le, nI_add, lN_add, nI_leI, nI_ltI, nI_eq, nI_clamp, pk_lLT, pk_lLE, pk_lEQ, pk_sub, vp_inT, nz_eq, nz_lt, nz_ge, nz_gt, nz_le, lz_eq, lz_lt, lz_ge, hP1, hP2, hP3, hP4, hP5, hP6, hP7, hP8, hP9, hP10, hP11, hP12, hP13, hP14, hP15, hP16, hP17, hP18, hP19, hP20, s0, s1, s2, s3, s4, s5, s6, s7, s8, s9, s10, s11, s12, s13, s14, s15, f5, f6, f7, f8, f9]
    exact hQ
  | cons x r =>
    have c0 : ¬ (qN A).length ≤ 0 := by rw [e]; exact Nat.not_succ_le_zero _
    simp (disch := omega) only [u_123_0, B_123_0, nI1T, Nat.left_eq_add, Nat.add_eq_left, Nat.add_eq_zero_iff, and_false, false_and, if_false, if_true, opsN, opsC, pm_1, lg, ls1, ls2, lq, List.length_cons, List.length_nil, cN, cL, callE, retV, retN, pm_pop, pm_cat, List.map_cons, List.map_nil, List.sum_cons, List.sum_nil, Value.category, Option.toList, List.cons_append, List.nil_append, reduceIte, reduceCtorEq, Nat.reduceAdd, Nat.reduceLT, Nat.reduceLeDiff, Nat.reduceSub, Nat.reduceEqDiff, Nat.zero_le, Nat.sub_zero, Nat.le_refl, true_and, and_true, not_true_eq_false, not_false_eq_true, true_or, or_true, lc_eq, lc_ne, lc_lt, lc_ge, lc_gt, lc_le, nI_add, lN_add, nI_leI, nI_ltI, nI_eq, nI_clamp, pk_lLT, pk_lLE, pk_lEQ, pk_sub, vp_inT, nz_eq, nz_lt, nz_ge, nz_gt, nz_le, lz_eq, lz_lt, lz_ge, hP1, hP2, hP3, hP4, hP5, hP6, hP7, hP8, hP9, hP10, hP11, hP12, hP13, hP14, hP15, hP16, hP17, hP18, hP19, hP20]
    rw [u_123_4]
    simp (disch := omega) only [B_123_4, u_123_43, B_123_43, u_123_46, B_123_46, nI1T, Nat.left_eq_add, Nat.add_eq_left, Nat.add_eq_zero_iff, and_false, false_and, if_false, if_true, opsN, opsC, pm_1, lg, ls1, ls2, lq, List.length_cons, List.length_nil, cN, cL, callE, retV, retN, pm_pop, pm_cat, List.map_cons, List.map_nil, List.sum_cons, List.sum_nil, Value.category, Option.toList, List.cons_append, List.nil_append, reduceIte, reduceCtorEq, Nat.reduceAdd, Nat.reduceLT, Nat.reduceLeDiff, Nat.reduceSub, Nat.reduceEqDiff, Nat.zero_le, Nat.sub_zero, Nat.le_refl, true_and, and_true, not_true_eq_false, not_false_eq_true, true_or, or_true, lc_eq, lc_ne, lc_lt, lc_ge, lc_gt, lc_le, nI_add, lN_add, nI_leI, nI_ltI, nI_eq, nI_clamp, pk_lLT, pk_lLE, pk_lEQ, pk_sub, vp_inT, nz_eq, nz_lt, nz_ge, nz_gt, nz_le, lz_eq, lz_lt, lz_ge, hP1, hP2, hP3, hP4, hP5, hP6, hP7, hP8, hP9, hP10, hP11, hP12, hP13, hP14, hP15, hP16, hP17, hP18, hP19, hP20, s0, s1, s2, s3, s4, s5, s6, s7, s8, s9, s10, s11, s12, s13, s14, s15, f5, f6, f7, f8, f9, c0]
    refine l123 d hB0 hI0 r [] x 0 e ?_
    rw [e] at hQ
    rw [Nat.zero_add]
    exact hQ
/-- the buckets' sum -/
def smB (W : Nat → Nat) : List Nat → Nat
  | [] => 0
  | y :: r => W y + smB W r
theorem l124 (d : Nat) (hB : isB h b cap bits limit A) (hI : qI bits limit A) :
    ∀ (suf pre : List Nat) (c : Nat), qN A = pre ++ suf → Q (.inl (some (.int (nI (c + smB (qW A) suf))))) h → pm_W PP d 124 Q 0 0 4 [some (.ref b), some (.int (nI c)), some (.int (nI pre.length))] [] h := by
  have hq := qI_line hI
  obtain ⟨⟨s0, s1, s2, s3, s4, s5, s6, s7, s8, s9, s10, s11, s12, s13, s14, s15, s16⟩, f4, f5, f6, f7, f8, f9, rK, rW, rM, rN⟩ := hB
  obtain ⟨i1, i2, i3, i4, i5, i6, i7, i8, i9, i10, i11, i12⟩ := hI
  intro suf
  induction suf with
  | nil =>
    intro pre c he hQ
    rw [List.append_nil] at he
    have c1 : (qN A).length ≤ pre.length := by rw [he]; exact Nat.le_refl _
    have c2 : pre.length = (qN A).length := by rw [he]
    rw [u_124_4]
    simp (disch := omega) only [B_124_4, u_124_32, B_124_32, nI1T, Nat.left_eq_add, Nat.add_eq_left, Nat.add_eq_zero_iff, and_false, false_and, if_false, if_true, opsN, opsC, pm_1, lg, ls1, ls2, lq, List.length_cons, List.length_nil, cN, cL, callE, retV, retN, pm_pop, pm_cat, List.map_cons, List.map_nil, List.sum_cons, List.sum_nil, Value.category, Option.toList, List.cons_append, List.nil_append, reduceIte, reduceCtorEq, Nat.reduceAdd, Nat.reduceLT, Nat.reduceLeDiff, Nat.reduceSub, Nat.reduceEqDiff, Nat.zero_le, Nat.sub_zero, Nat.le_refl, true_and, and_true, not_true_eq_false, not_false_eq_true, true_or, or_true, lc_eq, lc_ne, lc_lt, lc_ge, lc_gt, lc_le, nI_add, lN_add, nI_leI, nI_ltI, nI_eq, nI_clamp, pk_lLT, pk_lLE, pk_lEQ, pk_sub, vp_inT, nz_eq, nz_lt, nz_ge, nz_gt, nz_le, lz_eq, lz_lt, lz_ge, hP1, hP2, hP3, hP4, hP5, hP6, hP7, hP8, hP9, hP10, hP11, hP12, hP13, hP14, hP15, hP16, hP17, hP18, hP19, hP20, s0, s1, s2, s3, s4, s5, s6, s7, s8, s9, s10, s11, s12, s13, s14, s15, f5, f6, f7, f8, f9, c1]
    exact hQ
  | cons y r ih =>
    intro pre c he hQ
    have hlen : (qN A).length = pre.length + (r.length + 1) := by rw [he, List.length_append, List.length_cons]
    have hy := rN pre.length (by omega)
    rw [he, getD_mid] at hy
    obtain ⟨y1, y2, y3⟩ := hq y (by rw [he]; exact List.mem_append_right _ (List.mem_cons_self ..))
    have c1 : ¬ (qN A).length ≤ pre.length := by omega
    have hw := rW y y1
    rw [wv_0 y2] at hw
    have step := ih (pre ++ [y])
    rw [List.length_append, List.append_assoc] at step
    rw [u_124_4]
    simp (disch := omega) only [B_124_4, nI1T, Nat.left_eq_add, Nat.add_eq_left, Nat.add_eq_zero_iff, and_false, false_and, if_false, if_true, opsN, opsC, pm_1, lg, ls1, ls2, lq, List.length_cons, List.length_nil, cN, cL, callE, retV, retN, pm_pop, pm_cat, List.map_cons, List.map_nil, List.sum_cons, List.sum_nil, Value.category, Option.toList, List.cons_append, List.nil_append, reduceIte, reduceCtorEq, Nat.reduceAdd, Nat.reduceLT, Nat.reduceLeDiff, Nat.reduceSub, Nat.reduceEqDiff, Nat.zero_le, Nat.sub_zero, Nat.le_refl, true_and, and_true, not_true_eq_false, not_false_eq_true, true_or, or_true, lc_eq, lc_ne, lc_lt, lc_ge, lc_gt, lc_le, nI_add, lN_add, nI_leI, nI_ltI, nI_eq, nI_clamp, pk_lLT, pk_lLE, pk_lEQ, pk_sub, vp_inT, nz_eq, nz_lt, nz_ge, nz_gt, nz_le, lz_eq, lz_lt, lz_ge, hP1, hP2, hP3, hP4, hP5, hP6, hP7, hP8, hP9, hP10, hP11, hP12, hP13, hP14, hP15, hP16, hP17, hP18, hP19, hP20, s0, s1, s2, s3, s4, s5, s6, s7, s8, s9, s10, s11, s12, s13, s14, s15, f5, f6, f7, f8, f9, c1, hy, hw]
    refine step _ he ?_
    rw [Nat.add_assoc]
    exact hQ
theorem c124 (d : Nat) (hB : isB h b cap bits limit A) (hI : qI bits limit A) (hQ : Q (.inl (some (.int (nI (smB (qW A) (qN A)))))) h) : pm_M PP (d + 1) 124 [.ref b] h Q := by
  rw [e_124]
  simp (disch := omega) only [u_124_0, B_124_0, nI1T, Nat.left_eq_add, Nat.add_eq_left, Nat.add_eq_zero_iff, and_false, false_and, if_false, if_true, opsN, opsC, pm_1, lg, ls1, ls2, lq, List.length_cons, List.length_nil, cN, cL, callE, retV, retN, pm_pop, pm_cat, List.map_cons, List.map_nil, List.sum_cons, List.sum_nil, Value.category, Option.toList, List.cons_append, List.nil_append, reduceIte, reduceCtorEq, Nat.reduceAdd, Nat.reduceLT, Nat.reduceLeDiff, Nat.reduceSub, Nat.reduceEqDiff, Nat.zero_le, Nat.sub_zero, Nat.le_refl, true_and, and_true, not_true_eq_false, not_false_eq_true, true_or, or_true, lc_eq, lc_ne, lc_lt, lc_ge, lc_gt, lc_le, nI_add, lN_add, nI_leI, nI_ltI, nI_eq, nI_clamp, pk_lLT, pk_lLE, pk_lEQ, pk_sub, vp_inT, nz_eq, nz_lt, nz_ge, nz_gt, nz_le, lz_eq, lz_lt, lz_ge, hP1, hP2, hP3, hP4, hP5, hP6, hP7, hP8, hP9, hP10, hP11, hP12, hP13, hP14, hP15, hP16, hP17, hP18, hP19, hP20]
  exact l124 d hB hI (qN A) [] 0 rfl (by rw [Nat.zero_add]; exact hQ)
/-! loops over all that came -/
theorem l126 (d : Nat) (hB : isB h b cap bits limit A) (hC : qC A ≤ cap) (hM : ∀ i, i < qC A → qM A i < 2 ^ 31) (hQ : Q (.inl (some (.long (lN (sumM (qM A) (qC A)))))) h) :
    ∀ (n i : Nat), n + i = qC A → pm_W PP d 126 Q 0 0 4 [some (.ref b), some (.long (lN (sumM (qM A) i))), none, some (.int (nI i))] [] h := by
  obtain ⟨⟨s0, s1, s2, s3, s4, s5, s6, s7, s8, s9, s10, s11, s12, s13, s14, s15, s16⟩, f4, f5, f6, f7, f8, f9, rK, rW, rM, rN⟩ := hB
  intro n
  induction n with
  | zero =>
    intro i hi
    have e : i = qC A := by omega
    subst e
    rw [u_126_4]
    simp (disch := omega) only [B_126_4, u_126_28, B_126_28, nI1T, Nat.left_eq_add, Nat.add_eq_left, Nat.add_eq_zero_iff, and_false, false_and, if_false, if_true, opsN, opsC, pm_1, lg, ls1, ls2, lq, List.length_cons, List.length_nil, cN, cL, callE, retV, retN, pm_pop, pm_cat, List.map_cons, List.map_nil, List.sum_cons, List.sum_nil, Value.category, Option.toList, List.cons_append, List.nil_append, reduceIte, reduceCtorEq, Nat.reduceAdd, Nat.reduceLT, Nat.reduceLeDiff, Nat.reduceSub, Nat.reduceEqDiff, Nat.zero_le, Nat.sub_zero, Nat.le_refl, true_and, and_true, not_true_eq_false, not_false_eq_true, true_or, or_true, lc_eq, lc_ne, lc_lt, lc_ge, lc_gt, lc_le, nI_add, lN_add, nI_leI, nI_ltI, nI_eq, nI_clamp, pk_lLT, pk_lLE, pk_lEQ, pk_sub, vp_inT, nz_eq, nz_lt, nz_ge, nz_gt, nz_le, lz_eq, lz_lt, lz_ge, hP1, hP2, hP3, hP4, hP5, hP6, hP7, hP8, hP9, hP10, hP11, hP12, hP13, hP14, hP15, hP16, hP17, hP18, hP19, hP20, s0, s1, s2, s3, s4, s5, s6, s7, s8, s9, s10, s11, s12, s13, s14, s15, f5, f6, f7, f8, f9, hQ]
  | succ n ih =>
    intro i hi
    have c1 : ¬ qC A ≤ i := by omega
    have hm := rM i (by omega)
    have hm2 := hM i (by omega)
    rw [u_126_4]
    simp (disch := omega) only [B_126_4, nI1T, Nat.left_eq_add, Nat.add_eq_left, Nat.add_eq_zero_iff, and_false, false_and, if_false, if_true, opsN, opsC, pm_1, lg, ls1, ls2, lq, List.length_cons, List.length_nil, cN, cL, callE, retV, retN, pm_pop, pm_cat, List.map_cons, List.map_nil, List.sum_cons, List.sum_nil, Value.category, Option.toList, List.cons_append, List.nil_append, reduceIte, reduceCtorEq, Nat.reduceAdd, Nat.reduceLT, Nat.reduceLeDiff, Nat.reduceSub, Nat.reduceEqDiff, Nat.zero_le, Nat.sub_zero, Nat.le_refl, true_and, and_true, not_true_eq_false, not_false_eq_true, true_or, or_true, lc_eq, lc_ne, lc_lt, lc_ge, lc_gt, lc_le, nI_add, lN_add, nI_leI, nI_ltI, nI_eq, nI_clamp, pk_lLT, pk_lLE, pk_lEQ, pk_sub, vp_inT, nz_eq, nz_lt, nz_ge, nz_gt, nz_le, lz_eq, lz_lt, lz_ge, hP1, hP2, hP3, hP4, hP5, hP6, hP7, hP8, hP9, hP10, hP11, hP12, hP13, hP14, hP15, hP16, hP17, hP18, hP19, hP20, s0, s1, s2, s3, s4, s5, s6, s7, s8, s9, s10, s11, s12, s13, s14, s15, f5, f6, f7, f8, f9, c1, hm, nI_l]
    exact ih (i + 1) (by omega)
theorem c126 (d : Nat) (hB : isB h b cap bits limit A) (hC : qC A ≤ cap) (hM : ∀ i, i < qC A → qM A i < 2 ^ 31) (hQ : Q (.inl (some (.long (lN (sumM (qM A) (qC A)))))) h) : pm_M PP (d + 1) 126 [.ref b] h Q := by
  rw [e_126]
  simp (disch := omega) only [u_126_0, B_126_0, nI1T, Nat.left_eq_add, Nat.add_eq_left, Nat.add_eq_zero_iff, and_false, false_and, if_false, if_true, opsN, opsC, pm_1, lg, ls1, ls2, lq, List.length_cons, List.length_nil, cN, cL, callE, retV, retN, pm_pop, pm_cat, List.map_cons, List.map_nil, List.sum_cons, List.sum_nil, Value.category, Option.toList, List.cons_append, List.nil_append, reduceIte, reduceCtorEq, Nat.reduceAdd, Nat.reduceLT, Nat.reduceLeDiff, Nat.reduceSub, Nat.reduceEqDiff, Nat.zero_le, Nat.sub_zero, Nat.le_refl, true_and, and_true, not_true_eq_false, not_false_eq_true, true_or, or_true, lc_eq, lc_ne, lc_lt, lc_ge, lc_gt, lc_le, nI_add, lN_add, nI_leI, nI_ltI, nI_eq, nI_clamp, pk_lLT, pk_lLE, pk_lEQ, pk_sub, vp_inT, nz_eq, nz_lt, nz_ge, nz_gt, nz_le, lz_eq, lz_lt, lz_ge, hP1, hP2, hP3, hP4, hP5, hP6, hP7, hP8, hP9, hP10, hP11, hP12, hP13, hP14, hP15, hP16, hP17, hP18, hP19, hP20]
  exact l126 d hB hC hM hQ (qC A) 0 rfl
theorem maxM_lt {M : Nat → Nat} {N : Nat} (h0 : 0 < N) : ∀ n, (∀ i, i < n → M i < N) → maxM M n < N
  | 0, _ => h0
  | n + 1, hn => by
    have := maxM_lt h0 n (fun i hi => hn i (by omega))
    show (if maxM M n < M n then M n else maxM M n) < N
    split
    · exact hn n (by omega)
    · exact this
theorem l127 (d : Nat) (hB : isB h b cap bits limit A) (hC : qC A ≤ cap) (hM : ∀ i, i < qC A → qM A i < 2 ^ 31) (hQ : Q (.inl (some (.int (nI (maxM (qM A) (qC A)))))) h) :
    ∀ (n i : Nat), n + i = qC A → pm_W PP d 127 Q 0 0 4 [some (.ref b), some (.int (nI (maxM (qM A) i))), some (.int (nI i))] [] h := by
  obtain ⟨⟨s0, s1, s2, s3, s4, s5, s6, s7, s8, s9, s10, s11, s12, s13, s14, s15, s16⟩, f4, f5, f6, f7, f8, f9, rK, rW, rM, rN⟩ := hB
  intro n
  induction n with
  | zero =>
    intro i hi
    have e : i = qC A := by omega
    subst e
    rw [u_127_4]
    simp (disch := omega) only [B_127_4, u_127_29, B_127_29, nI1T, Nat.left_eq_add, Nat.add_eq_left, Nat.add_eq_zero_iff, and_false, false_and, if_false, if_true, opsN, opsC, pm_1, lg, ls1, ls2, lq, List.length_cons, List.length_nil, cN, cL, callE, retV, retN, pm_pop, pm_cat, List.map_cons, List.map_nil, List.sum_cons, List.sum_nil, Value.category, Option.toList, List.cons_append, List.nil_append, reduceIte, reduceCtorEq, Nat.reduceAdd, Nat.reduceLT, Nat.reduceLeDiff, Nat.reduceSub, Nat.reduceEqDiff, Nat.zero_le, Nat.sub_zero, Nat.le_refl, true_and, and_true, not_true_eq_false, not_false_eq_true, true_or, or_true, lc_eq, lc_ne, lc_lt, lc_ge, lc_gt, lc_le, nI_add, lN_add, nI_leI, nI_ltI, nI_eq, nI_clamp, pk_lLT, pk_lLE, pk_lEQ, pk_sub, vp_inT, nz_eq, nz_lt, nz_ge, nz_gt, nz_le, lz_eq, lz_lt, lz_ge, hP1, hP2, hP3, hP4, hP5, hP6, hP7, hP8, hP9, hP10, hP11, hP12, hP13, hP14, hP15, hP16, hP17, hP18, hP19, hP20, s0, s1, s2, s3, s4, s5, s6, s7, s8, s9, s10, s11, s12, s13, s14, s15, f5, f6, f7, f8, f9, hQ]
  | succ n ih =>
    intro i hi
    have c1 : ¬ qC A ≤ i := by omega
    have hm := rM i (by omega)
    have hm2 := hM i (by omega)
    have hm3 := maxM_lt (M := qM A) (N := 2 ^ 31) (by decide) i (fun j hj => hM j (by omega))
    rw [u_127_4]
    simp (disch := omega) only [B_127_4, nI1T, Nat.left_eq_add, Nat.add_eq_left, Nat.add_eq_zero_iff, and_false, false_and, if_false, if_true, opsN, opsC, pm_1, lg, ls1, ls2, lq, List.length_cons, List.length_nil, cN, cL, callE, retV, retN, pm_pop, pm_cat, List.map_cons, List.map_nil, List.sum_cons, List.sum_nil, Value.category, Option.toList, List.cons_append, List.nil_append, reduceIte, reduceCtorEq, Nat.reduceAdd, Nat.reduceLT, Nat.reduceLeDiff, Nat.reduceSub, Nat.reduceEqDiff, Nat.zero_le, Nat.sub_zero, Nat.le_refl, true_and, and_true, not_true_eq_false, not_false_eq_true, true_or, or_true, lc_eq, lc_ne, lc_lt, lc_ge, lc_gt, lc_le, nI_add, lN_add, nI_leI, nI_ltI, nI_eq, nI_clamp, pk_lLT, pk_lLE, pk_lEQ, pk_sub, vp_inT, nz_eq, nz_lt, nz_ge, nz_gt, nz_le, lz_eq, lz_lt, lz_ge, hP1, hP2, hP3, hP4, hP5, hP6, hP7, hP8, hP9, hP10, hP11, hP12, hP13, hP14, hP15, hP16, hP17, hP18, hP19, hP20, s0, s1, s2, s3, s4, s5, s6, s7, s8, s9, s10, s11, s12, s13, s14, s15, f5, f6, f7, f8, f9, c1, hm, ite_nI]
    exact ih (i + 1) (by omega)
theorem c127 (d : Nat) (hB : isB h b cap bits limit A) (hC : qC A ≤ cap) (hM : ∀ i, i < qC A → qM A i < 2 ^ 31) (hQ : Q (.inl (some (.int (nI (maxM (qM A) (qC A)))))) h) : pm_M PP (d + 1) 127 [.ref b] h Q := by
  rw [e_127]
  simp (disch := omega) only [u_127_0, B_127_0, nI1T, Nat.left_eq_add, Nat.add_eq_left, Nat.add_eq_zero_iff, and_false, false_and, if_false, if_true, opsN, opsC, pm_1, lg, ls1, ls2, lq, List.length_cons, List.length_nil, cN, cL, callE, retV, retN, pm_pop, pm_cat, List.map_cons, List.map_nil, List.sum_cons, List.sum_nil, Value.category, Option.toList, List.cons_append, List.nil_append, reduceIte, reduceCtorEq, Nat.reduceAdd, Nat.reduceLT, Nat.reduceLeDiff, Nat.reduceSub, Nat.reduceEqDiff, Nat.zero_le, Nat.sub_zero, Nat.le_refl, true_and, and_true, not_true_eq_false, not_false_eq_true, true_or, or_true, lc_eq, lc_ne, lc_lt, lc_ge, lc_gt, lc_le, nI_add, lN_add, nI_leI, nI_ltI, nI_eq, nI_clamp, pk_lLT, pk_lLE, pk_lEQ, pk_sub, vp_inT, nz_eq, nz_lt, nz_ge, nz_gt, nz_le, lz_eq, lz_lt, lz_ge, hP1, hP2, hP3, hP4, hP5, hP6, hP7, hP8, hP9, hP10, hP11, hP12, hP13, hP14, hP15, hP16, hP17, hP18, hP19, hP20]
  exact l127 d hB hC hM hQ (qC A) 0 rfl
theorem l128 (d : Nat) {s : Nat} {x : Int64} (hB : isB h b cap bits limit A) (hC : qC A ≤ cap) (hM : ∀ i, i < qC A → qM A i < 2 ^ 31) (hQ : Q (.inl (some (.long (lN (mixN (qK A) (qM A) s (qC A)))))) h) :
    ∀ (n i : Nat), n + i = qC A → pm_W PP d 128 Q 0 0 14 [some (.ref b), some (.long x), none, some (.long (lN (mixN (qK A) (qM A) s i))), none, some (.int (nI i))] [] h := by
  obtain ⟨⟨s0, s1, s2, s3, s4, s5, s6, s7, s8, s9, s10, s11, s12, s13, s14, s15, s16⟩, f4, f5, f6, f7, f8, f9, rK, rW, rM, rN⟩ := hB
  intro n
  induction n with
  | zero =>
    intro i hi
    have e : i = qC A := by omega
    subst e
    rw [u_128_14]
    simp (disch := omega) only [B_128_14, u_128_58, B_128_58, nI1T, Nat.left_eq_add, Nat.add_eq_left, Nat.add_eq_zero_iff, and_false, false_and, if_false, if_true, opsN, opsC, pm_1, lg, ls1, ls2, lq, List.length_cons, List.length_nil, cN, cL, callE, retV, retN, pm_pop, pm_cat, List.map_cons, List.map_nil, List.sum_cons, List.sum_nil, Value.category, Option.toList, List.cons_append, List.nil_append, reduceIte, reduceCtorEq, Nat.reduceAdd, Nat.reduceLT, Nat.reduceLeDiff, Nat.reduceSub, Nat.reduceEqDiff, Nat.zero_le, Nat.sub_zero, Nat.le_refl, true_and, and_true, not_true_eq_false, not_false_eq_true, true_or, or_true, lc_eq, lc_ne, lc_lt, lc_ge, lc_gt, lc_le, nI_add, lN_add, nI_leI, nI_ltI, nI_eq, nI_clamp, pk_lLT, pk_lLE, pk_lEQ, pk_sub, vp_inT, nz_eq, nz_lt, nz_ge, nz_gt, nz_le, lz_eq, lz_lt, lz_ge, hP1, hP2, hP3, hP4, hP5, hP6, hP7, hP8, hP9, hP10, hP11, hP12, hP13, hP14, hP15, hP16, hP17, hP18, hP19, hP20, s0, s1, s2, s3, s4, s5, s6, s7, s8, s9, s10, s11, s12, s13, s14, s15, f5, f6, f7, f8, f9, hQ]
  | succ n ih =>
    intro i hi
    have c1 : ¬ qC A ≤ i := by omega
    have hm := rM i (by omega)
    have hk := rK i (by omega)
    have hm2 := hM i (by omega)
    rw [u_128_14]
    simp (disch := omega) only [B_128_14, nI1T, Nat.left_eq_add, Nat.add_eq_left, Nat.add_eq_zero_iff, and_false, false_and, if_false, if_true, opsN, opsC, pm_1, lg, ls1, ls2, lq, List.length_cons, List.length_nil, cN, cL, callE, retV, retN, pm_pop, pm_cat, List.map_cons, List.map_nil, List.sum_cons, List.sum_nil, Value.category, Option.toList, List.cons_append, List.nil_append, reduceIte, reduceCtorEq, Nat.reduceAdd, Nat.reduceLT, Nat.reduceLeDiff, Nat.reduceSub, Nat.reduceEqDiff, Nat.zero_le, Nat.sub_zero, Nat.le_refl, true_and, and_true, not_true_eq_false, not_false_eq_true, true_or, or_true, lc_eq, lc_ne, lc_lt, lc_ge, lc_gt, lc_le, nI_add, lN_add, nI_leI, nI_ltI, nI_eq, nI_clamp, pk_lLT, pk_lLE, pk_lEQ, pk_sub, vp_inT, nz_eq, nz_lt, nz_ge, nz_gt, nz_le, lz_eq, lz_lt, lz_ge, hP1, hP2, hP3, hP4, hP5, hP6, hP7, hP8, hP9, hP10, hP11, hP12, hP13, hP14, hP15, hP16, hP17, hP18, hP19, hP20, s0, s1, s2, s3, s4, s5, s6, s7, s8, s9, s10, s11, s12, s13, s14, s15, f5, f6, f7, f8, f9, c1, hm, hk, nI_l, lN_mul]
    exact ih (i + 1) (by omega)
theorem c128 (d : Nat) {s : Nat} (hB : isB h b cap bits limit A) (hC : qC A ≤ cap) (hM : ∀ i, i < qC A → qM A i < 2 ^ 31) (hQ : Q (.inl (some (.long (lN (mixN (qK A) (qM A) (31 * s + qL A) (qC A)))))) h) : pm_M PP (d + 1) 128 [.ref b, .long (lN s)] h Q := by
  have hB0 := hB
  obtain ⟨⟨s0, s1, s2, s3, s4, s5, s6, s7, s8, s9, s10, s11, s12, s13, s14, s15, s16⟩, f4, f5, f6, f7, f8, f9, rK, rW, rM, rN⟩ := hB
  rw [e_128]
  simp (disch := omega) only [u_128_0, B_128_0, nI1T, Nat.left_eq_add, Nat.add_eq_left, Nat.add_eq_zero_iff, and_false, false_and, if_false, if_true, opsN, opsC, pm_1, lg, ls1, ls2, lq, List.length_cons, List.length_nil, cN, cL, callE, retV, retN, pm_pop, pm_cat, List.map_cons, List.map_nil, List.sum_cons, List.sum_nil, Value.category, Option.toList, List.cons_append, List.nil_append, reduceIte, reduceCtorEq, Nat.reduceAdd, Nat.reduceLT, Nat.reduceLeDiff, Nat.reduceSub, Nat.reduceEqDiff, Nat.zero_le, Nat.sub_zero, Nat.le_refl, true_and, and_true, not_true_eq_false, not_false_eq_true, true_or, or_true, lc_eq, lc_ne, lc_lt, lc_ge, lc_gt, lc_le, nI_add, lN_add, nI_leI, nI_ltI, nI_eq, nI_clamp, pk_lLT, pk_lLE, pk_lEQ, pk_sub, vp_inT, nz_eq, nz_lt, nz_ge, nz_gt, nz_le, lz_eq, lz_lt, lz_ge, hP1, hP2, hP3, hP4, hP5, hP6, hP7, hP8, hP9, hP10, hP11, hP12, hP13, hP14, hP15, hP16, hP17, hP18, hP19, hP20, s0, s1, s2, s3, s4, s5, s6, s7, s8, s9, s10, s11, s12, s13, s14, s15, f5, f6, f7, f8, f9, lN_mul]
  exact l128 d hB0 hC hM hQ (qC A) 0 rfl
end RD
