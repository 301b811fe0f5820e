/-! ===== the reference: an item comes to a bucket ===== -/
/-- the object, its row of used buckets -/
def mU (h : pm_H) (m u : Nat) : Prop := hT h m = 10 ∧ hR h m 16 = u ∧ hT h u = 103 ∧ hN h u = 160 ∧ ¬ u = 0
def used1 (h : pm_H) (u bucket : Nat) : Nat → Int32 := va_up (hI h u) bucket (nI 1)
theorem nar1 : vp_nar .boolean (nI 1) = nI 1 := by decide
/-- comes: bucket, stamp, the stamp's own place, the bucket's mark -/
theorem c1011 (d : Nat) {h : pm_H} {m u q i w st : Nat} {Q : pm_Q} (hm : mU h m u) (ht : hT h q = 101) (hn : hN h q = 1503) (hst : hL h q 2 = lN st) (hi : i < 300) (hw : w < 160)
    (hQ : Q (.inl none) (sI (sL h q (va_up (va_up (va_up (hL h q) (3 + 5 * i + 1) (lN w)) (3 + 5 * i + 2) (lN st)) 2 (lN (st + 1)))) u (va_up (hI h u) w (nI 1)))) :
    pm_M PP (d + 2) 1011 [.ref m, .ref q, .int (nI i), .int (nI w)] h Q := by
  obtain ⟨m0, m1, m2, m3, m4⟩ := hm
  have e1 : ¬ 2 = 3 + 5 * i + 1 := by omega
  have e2 : ¬ 2 = 3 + 5 * i + 2 := by omega
  have hl : (nI w).toInt64 = lN w := nI_l (by omega)
  rw [e_1011]
  simp (disch := omega) only [u_1011_0, B_1011_0, nI1T, Nat.left_eq_add, Nat.add_eq_left, Nat.add_eq_zero_iff, and_false, false_and, if_false, if_true, opsN, opsC, pm_1, lg, ls1, ls2, lq, List.length_cons, List.length_nil, cN, cL, callE, retV, retN, pm_pop, pm_cat, List.map_cons, List.map_nil, List.sum_cons, List.sum_nil, Value.category, Option.toList, List.cons_append, List.nil_append, reduceIte, reduceCtorEq, Nat.reduceAdd, Nat.reduceLT, Nat.reduceLeDiff, Nat.reduceSub, Nat.reduceEqDiff, Nat.zero_le, Nat.sub_zero, Nat.le_refl, true_and, and_true, not_true_eq_false, not_false_eq_true, true_or, or_true, lc_eq, lc_ne, lc_lt, lc_ge, lc_gt, lc_le, nI_add, lN_add, nI_leI, nI_ltI, nI_eq, nI_clamp, pk_lLT, pk_lLE, pk_lEQ, pk_sub, vp_inT, nz_eq, nz_lt, nz_ge, nz_gt, nz_le, lz_eq, lz_lt, lz_ge, hP1, hP2, hP3, hP4, hP5, hP6, hP7, hP8, hP9, hP10, hP11, hP12, hP13, hP14, hP15, hP16, hP17, hP18, hP19, hP20, hl]
  rw [q_sets _ ht hn hi (by omega)]
  simp (disch := omega) only [nI1T, Nat.left_eq_add, Nat.add_eq_left, Nat.add_eq_zero_iff, and_false, false_and, if_false, if_true, opsN, opsC, pm_1, lg, ls1, ls2, lq, List.length_cons, List.length_nil, cN, cL, callE, retV, retN, pm_pop, pm_cat, List.map_cons, List.map_nil, List.sum_cons, List.sum_nil, Value.category, Option.toList, List.cons_append, List.nil_append, reduceIte, reduceCtorEq, Nat.reduceAdd, Nat.reduceLT, Nat.reduceLeDiff, Nat.reduceSub, Nat.reduceEqDiff, Nat.zero_le, Nat.sub_zero, Nat.le_refl, true_and, and_true, not_true_eq_false, not_false_eq_true, true_or, or_true, lc_eq, lc_ne, lc_lt, lc_ge, lc_gt, lc_le, nI_add, lN_add, nI_leI, nI_ltI, nI_eq, nI_clamp, pk_lLT, pk_lLE, pk_lEQ, pk_sub, vp_inT, nz_eq, nz_lt, nz_ge, nz_gt, nz_le, lz_eq, lz_lt, lz_ge, hP1, hP2, hP3, hP4, hP5, hP6, hP7, hP8, hP9, hP10, hP11, hP12, hP13, hP14, hP15, hP16, hP17, hP18, hP19, hP20, ht, hn, va_upE, e1, hst]
  rw [q_sets _ (by exact ht) (by exact hn) hi (by omega)]
  simp (disch := omega) only [nI1T, Nat.left_eq_add, Nat.add_eq_left, Nat.add_eq_zero_iff, and_false, false_and, if_false, if_true, opsN, opsC, pm_1, lg, ls1, ls2, lq, List.length_cons, List.length_nil, cN, cL, callE, retV, retN, pm_pop, pm_cat, List.map_cons, List.map_nil, List.sum_cons, List.sum_nil, Value.category, Option.toList, List.cons_append, List.nil_append, reduceIte, reduceCtorEq, Nat.reduceAdd, Nat.reduceLT, Nat.reduceLeDiff, Nat.reduceSub, Nat.reduceEqDiff, Nat.zero_le, Nat.sub_zero, Nat.le_refl, true_and, and_true, not_true_eq_false, not_false_eq_true, true_or, or_true, lc_eq, lc_ne, lc_lt, lc_ge, lc_gt, lc_le, nI_add, lN_add, nI_leI, nI_ltI, nI_eq, nI_clamp, pk_lLT, pk_lLE, pk_lEQ, pk_sub, vp_inT, nz_eq, nz_lt, nz_ge, nz_gt, nz_le, lz_eq, lz_lt, lz_ge, hP1, hP2, hP3, hP4, hP5, hP6, hP7, hP8, hP9, hP10, hP11, hP12, hP13, hP14, hP15, hP16, hP17, hP18, hP19, hP20, ht, hn, va_upE, e1, e2, hst, m0, m1, m2, m3, m4, nar1, sL_sL]
  exact hQ
