/-! ===== what changes a queue ===== -/
def lvH (h : pm_H) (b w j : Nat) : pm_H := bmp (sI (sI h b (va_up (hI h b) 9 (nI (w - 1)))) (b + 5) (va_cpy (hI h (b + 5)) (hI h (b + 5)) (j + 1) j (w - 1 - j)))
theorem c117 (d : Nat) {h : pm_H} {b cap w j : Nat} {Q : pm_Q} (hs : bS h b cap) (f9 : hI h b 9 = nI w) (hw : w ≤ cap) (hj : j < w) (hQ : Q (.inl none) (lvH h b w j)) : pm_M PP (d + 1) 117 [.ref b, .int (nI j)] h Q := by
  obtain ⟨s0, s1, s2, s3, s4, s5, s6, s7, s8, s9, s10, s11, s12, s13, s14, s15, s16⟩ := hs
  have a1 : j + 1 + (w - 1 - j) ≤ cap := by omega
  have a2 : j + (w - 1 - j) ≤ cap := by omega
  rw [e_117]
  simp (disch := omega) only [u_117_0, B_117_0, u_117_13, B_117_13, nI1T, Nat.left_eq_add, Nat.add_eq_left, Nat.add_eq_zero_iff, and_false, false_and, if_false, if_true, opsN, opsC, pm_1, lg, ls1, ls2, lq, List.length_cons, List.length_nil, cN, cL, callE, retV, retN, pm_pop, pm_cat, List.map_cons, List.map_nil, List.sum_cons, List.sum_nil, Value.category, Option.toList, List.cons_append, List.nil_append, reduceIte, reduceCtorEq, Nat.reduceAdd, Nat.reduceLT, Nat.reduceLeDiff, Nat.reduceSub, Nat.reduceEqDiff, Nat.zero_le, Nat.sub_zero, Nat.le_refl, true_and, and_true, not_true_eq_false, not_false_eq_true, true_or, or_true, lc_eq, lc_ne, lc_lt, lc_ge, lc_gt, lc_le, nI_add, lN_add, nI_leI, nI_ltI, nI_eq, nI_clamp, pk_lLT, pk_lLE, pk_lEQ, pk_sub, vp_inT, nz_eq, nz_lt, nz_ge, nz_gt, nz_le, lz_eq, lz_lt, lz_ge, hP1, hP2, hP3, hP4, hP5, hP6, hP7, hP8, hP9, hP10, hP11, hP12, hP13, hP14, hP15, hP16, hP17, hP18, hP19, hP20, s0, s1, s2, s3, s4, s5, s6, s7, s8, s9, s10, s11, s12, s13, s14, s15, f9, hj, va_upE, a1, a2]
  exact hQ
theorem lv_isB {h : pm_H} {b cap bits limit i : Nat} {A : Qs} {pre r : List Nat} (hB : isB h b cap bits limit A) (he : qN A = pre ++ i :: r) :
    isB (lvH h b (qN A).length pre.length) b cap bits limit (qL A, qC A, qK A, qM A, qW A, qS A, pre ++ r) := by
  have hlen : (qN A).length = pre.length + (r.length + 1) := by rw [he, List.length_append, List.length_cons]
  have hs := hB.1
  obtain ⟨⟨s0, s1, s2, s3, s4, s5, s6, s7, s8, s9, s10, s11, s12, s13, s14, s15, s16⟩, f4, f5, f6, f7, f8, f9, rK, rW, rM, rN⟩ := hB
  refine ⟨hs, f4, ?_, ?_, ?_, ?_, ?_, ?_, ?_, ?_, ?_⟩
  · simp only [lvH, hP1, hP2, hP3, hP4, hP5, hP6, hP7, hP8, hP9, hP10, hP11, hP12, hP13, hP14, hP15, hP16, hP17, hP18, hP19, hP20, va_upE, Nat.left_eq_add, Nat.add_eq_left, Nat.add_eq_zero_iff, Nat.reduceEqDiff, Nat.reduceAdd, reduceIte, and_false, false_and, if_false, if_true, reduceCtorEq, f5]
  · simp only [lvH, hP1, hP2, hP3, hP4, hP5, hP6, hP7, hP8, hP9, hP10, hP11, hP12, hP13, hP14, hP15, hP16, hP17, hP18, hP19, hP20, va_upE, Nat.left_eq_add, Nat.add_eq_left, Nat.add_eq_zero_iff, Nat.reduceEqDiff, Nat.reduceAdd, reduceIte, and_false, false_and, if_false, if_true, reduceCtorEq, f6]
  · simp only [lvH, hP1, hP2, hP3, hP4, hP5, hP6, hP7, hP8, hP9, hP10, hP11, hP12, hP13, hP14, hP15, hP16, hP17, hP18, hP19, hP20, va_upE, Nat.left_eq_add, Nat.add_eq_left, Nat.add_eq_zero_iff, Nat.reduceEqDiff, Nat.reduceAdd, reduceIte, and_false, false_and, if_false, if_true, reduceCtorEq, f7]; rfl
  · simp only [lvH, hP1, hP2, hP3, hP4, hP5, hP6, hP7, hP8, hP9, hP10, hP11, hP12, hP13, hP14, hP15, hP16, hP17, hP18, hP19, hP20, va_upE, Nat.left_eq_add, Nat.add_eq_left, Nat.add_eq_zero_iff, Nat.reduceEqDiff, Nat.reduceAdd, reduceIte, and_false, false_and, if_false, if_true, reduceCtorEq, f8]; rfl
  · simp only [lvH, hP1, hP2, hP3, hP4, hP5, hP6, hP7, hP8, hP9, hP10, hP11, hP12, hP13, hP14, hP15, hP16, hP17, hP18, hP19, hP20, va_upE, Nat.left_eq_add, Nat.add_eq_left, Nat.add_eq_zero_iff, Nat.reduceEqDiff, Nat.reduceAdd, reduceIte, and_false, false_and, if_false, if_true, reduceCtorEq]
    show nI ((qN A).length - 1) = nI (pre ++ r).length
    rw [hlen, List.length_append]; rfl
  · intro i hi; simp only [lvH, hP1, hP2, hP3, hP4, hP5, hP6, hP7, hP8, hP9, hP10, hP11, hP12, hP13, hP14, hP15, hP16, hP17, hP18, hP19, hP20, va_upE, Nat.left_eq_add, Nat.add_eq_left, Nat.add_eq_zero_iff, Nat.reduceEqDiff, Nat.reduceAdd, reduceIte, and_false, false_and, if_false, if_true, reduceCtorEq]; exact rK i hi
  · intro i hi; simp only [lvH, hP1, hP2, hP3, hP4, hP5, hP6, hP7, hP8, hP9, hP10, hP11, hP12, hP13, hP14, hP15, hP16, hP17, hP18, hP19, hP20, va_upE, Nat.left_eq_add, Nat.add_eq_left, Nat.add_eq_zero_iff, Nat.reduceEqDiff, Nat.reduceAdd, reduceIte, and_false, false_and, if_false, if_true, reduceCtorEq]; exact rW i hi
  · intro i hi; simp only [lvH, hP1, hP2, hP3, hP4, hP5, hP6, hP7, hP8, hP9, hP10, hP11, hP12, hP13, hP14, hP15, hP16, hP17, hP18, hP19, hP20, va_upE, Nat.left_eq_add, Nat.add_eq_left, Nat.add_eq_zero_iff, Nat.reduceEqDiff, Nat.reduceAdd, reduceIte, and_false, false_and, if_false, if_true, reduceCtorEq]; exact rM i hi
  · intro j hj
    simp only [lvH, hP1, hP2, hP3, hP4, hP5, hP6, hP7, hP8, hP9, hP10, hP11, hP12, hP13, hP14, hP15, hP16, hP17, hP18, hP19, hP20, va_upE, Nat.left_eq_add, Nat.add_eq_left, Nat.add_eq_zero_iff, Nat.reduceEqDiff, Nat.reduceAdd, reduceIte, and_false, false_and, if_false, if_true, reduceCtorEq]
    have hj2 : j < pre.length + r.length := by
      have : j < (pre ++ r).length := hj
      rw [List.length_append] at this; exact this
    show _ = nI ((pre ++ r).getD j 0)
    by_cases c : j < pre.length
    · rw [pk_cpy_out (.inl c), rN j (by omega), he]
      simp only [List.getD_eq_getElem?_getD, List.getElem?_append_left c]
    · rw [pk_cpy_in (by omega) (by omega), rN _ (by omega), he]
      simp only [List.getD_eq_getElem?_getD]
      rw [List.getElem?_append_right (by omega), List.getElem?_append_right (by omega)]
      have : pre.length + 1 + (j - pre.length) - pre.length = (j - pre.length) + 1 := by omega
      rw [this, List.getElem?_cons_succ]
theorem lv_fr {h : pm_H} {b w j : Nat} : fr b (b + 6) h (lvH h b w j) := fr_bmp (fr_sI (fr_sI (fr_refl _ _ _) (by omega) (by omega)) (by omega) (by omega))
theorem lv_F {h : pm_H} {b w j : Nat} {U : Nat → Bool} (hU : isF h b U) : isF (lvH h b w j) b U := hU
/-- a state written -/
theorem st_isB {h : pm_H} {b cap bits limit i s : Nat} {A : Qs} (hB : isB h b cap bits limit A) (hs0 : s = 1 ∨ s = 2) :
    isB (sI h (b + 3) (va_up (hI h (b + 3)) i (if s = 1 then -nI 1 else -nI 2))) b cap bits limit (qL A, qC A, qK A, qM A, qW A, va_up (qS A) i s, qN A) := by
  have hs := hB.1
  obtain ⟨⟨s0, s1, s2, s3, s4, s5, s6, s7, s8, s9, s10, s11, s12, s13, s14, s15, s16⟩, f4, f5, f6, f7, f8, f9, rK, rW, rM, rN⟩ := hB
  refine ⟨hs, f4, ?_, ?_, ?_, ?_, ?_, ?_, ?_, ?_, ?_⟩
  · simp only [hP1, hP2, hP3, hP4, hP5, hP6, hP7, hP8, hP9, hP10, hP11, hP12, hP13, hP14, hP15, hP16, hP17, hP18, hP19, hP20, va_upE, Nat.left_eq_add, Nat.add_eq_left, Nat.add_eq_zero_iff, Nat.reduceEqDiff, Nat.reduceAdd, reduceIte, and_false, false_and, if_false, if_true, reduceCtorEq, f5]
  · simp only [hP1, hP2, hP3, hP4, hP5, hP6, hP7, hP8, hP9, hP10, hP11, hP12, hP13, hP14, hP15, hP16, hP17, hP18, hP19, hP20, va_upE, Nat.left_eq_add, Nat.add_eq_left, Nat.add_eq_zero_iff, Nat.reduceEqDiff, Nat.reduceAdd, reduceIte, and_false, false_and, if_false, if_true, reduceCtorEq, f6]
  · simp only [hP1, hP2, hP3, hP4, hP5, hP6, hP7, hP8, hP9, hP10, hP11, hP12, hP13, hP14, hP15, hP16, hP17, hP18, hP19, hP20, va_upE, Nat.left_eq_add, Nat.add_eq_left, Nat.add_eq_zero_iff, Nat.reduceEqDiff, Nat.reduceAdd, reduceIte, and_false, false_and, if_false, if_true, reduceCtorEq, f7]; rfl
  · simp only [hP1, hP2, hP3, hP4, hP5, hP6, hP7, hP8, hP9, hP10, hP11, hP12, hP13, hP14, hP15, hP16, hP17, hP18, hP19, hP20, va_upE, Nat.left_eq_add, Nat.add_eq_left, Nat.add_eq_zero_iff, Nat.reduceEqDiff, Nat.reduceAdd, reduceIte, and_false, false_and, if_false, if_true, reduceCtorEq, f8]; rfl
  · simp only [hP1, hP2, hP3, hP4, hP5, hP6, hP7, hP8, hP9, hP10, hP11, hP12, hP13, hP14, hP15, hP16, hP17, hP18, hP19, hP20, va_upE, Nat.left_eq_add, Nat.add_eq_left, Nat.add_eq_zero_iff, Nat.reduceEqDiff, Nat.reduceAdd, reduceIte, and_false, false_and, if_false, if_true, reduceCtorEq, f9]; rfl
  · intro i hi; exact rK i hi
  · intro j hj
    simp only [hP1, hP2, hP3, hP4, hP5, hP6, hP7, hP8, hP9, hP10, hP11, hP12, hP13, hP14, hP15, hP16, hP17, hP18, hP19, hP20, va_upE, Nat.left_eq_add, Nat.add_eq_left, Nat.add_eq_zero_iff, Nat.reduceEqDiff, Nat.reduceAdd, reduceIte, and_false, false_and, if_false, if_true, reduceCtorEq]
    show _ = wv (va_up (qS A) i s j) (qW A j)
    rw [va_upE]
    split
    · unfold wv
      rcases hs0 with e | e <;> subst e <;> rfl
    · exact rW j hj
  · intro i hi; simp only [hP1, hP2, hP3, hP4, hP5, hP6, hP7, hP8, hP9, hP10, hP11, hP12, hP13, hP14, hP15, hP16, hP17, hP18, hP19, hP20, va_upE, Nat.left_eq_add, Nat.add_eq_left, Nat.add_eq_zero_iff, Nat.reduceEqDiff, Nat.reduceAdd, reduceIte, and_false, false_and, if_false, if_true, reduceCtorEq]; exact rM i hi
  · intro j hj; simp only [hP1, hP2, hP3, hP4, hP5, hP6, hP7, hP8, hP9, hP10, hP11, hP12, hP13, hP14, hP15, hP16, hP17, hP18, hP19, hP20, va_upE, Nat.left_eq_add, Nat.add_eq_left, Nat.add_eq_zero_iff, Nat.reduceEqDiff, Nat.reduceAdd, reduceIte, and_false, false_and, if_false, if_true, reduceCtorEq]; exact rN j hj
theorem c112f (d : Nat) {h : pm_H} {b cap bits limit i : Nat} {A : Qs} {Q : pm_Q} (hB : isB h b cap bits limit A) (hI : qI bits limit A) (hi : i < 300) (hn : i ∉ qN A) (hQ : Q (.inl (some (.int (-nI 1)))) h) : pm_M PP (d + 2) 112 [.ref b, .int (nI i)] h Q := by
  have s0 := hB.1.1
  have i8 := hI.2.2.2.2.2.2.2.1 i
  have i3 := hI.2.2.1
  have i4 := hI.2.2.2.1
  rw [e_112]
  simp (disch := omega) only [u_112_0, B_112_0, nI1T, Nat.left_eq_add, Nat.add_eq_left, Nat.add_eq_zero_iff, and_false, false_and, if_false, if_true, opsN, opsC, pm_1, lg, ls1, ls2, lq, List.length_cons, List.length_nil, cN, cL, callE, retV, retN, pm_pop, pm_cat, List.map_cons, List.map_nil, List.sum_cons, List.sum_nil, Value.category, Option.toList, List.cons_append, List.nil_append, reduceIte, reduceCtorEq, Nat.reduceAdd, Nat.reduceLT, Nat.reduceLeDiff, Nat.reduceSub, Nat.reduceEqDiff, Nat.zero_le, Nat.sub_zero, Nat.le_refl, true_and, and_true, not_true_eq_false, not_false_eq_true, true_or, or_true, lc_eq, lc_ne, lc_lt, lc_ge, lc_gt, lc_le, nI_add, lN_add, nI_leI, nI_ltI, nI_eq, nI_clamp, pk_lLT, pk_lLE, pk_lEQ, pk_sub, vp_inT, nz_eq, nz_lt, nz_ge, nz_gt, nz_le, lz_eq, lz_lt, lz_ge, hP1, hP2, hP3, hP4, hP5, hP6, hP7, hP8, hP9, hP10, hP11, hP12, hP13, hP14, hP15, hP16, hP17, hP18, hP19, hP20, s0]
  by_cases hc : i < qC A
  · refine c105f d hB hI hc (fun q => hn (i8.mpr ⟨hc, q⟩)) ?_
    simp (disch := omega) only [nI1T, Nat.left_eq_add, Nat.add_eq_left, Nat.add_eq_zero_iff, and_false, false_and, if_false, if_true, opsN, opsC, pm_1, lg, ls1, ls2, lq, List.length_cons, List.length_nil, cN, cL, callE, retV, retN, pm_pop, pm_cat, List.map_cons, List.map_nil, List.sum_cons, List.sum_nil, Value.category, Option.toList, List.cons_append, List.nil_append, reduceIte, reduceCtorEq, Nat.reduceAdd, Nat.reduceLT, Nat.reduceLeDiff, Nat.reduceSub, Nat.reduceEqDiff, Nat.zero_le, Nat.sub_zero, Nat.le_refl, true_and, and_true, not_true_eq_false, not_false_eq_true, true_or, or_true, lc_eq, lc_ne, lc_lt, lc_ge, lc_gt, lc_le, nI_add, lN_add, nI_leI, nI_ltI, nI_eq, nI_clamp, pk_lLT, pk_lLE, pk_lEQ, pk_sub, vp_inT, nz_eq, nz_lt, nz_ge, nz_gt, nz_le, lz_eq, lz_lt, lz_ge, hP1, hP2, hP3, hP4, hP5, hP6, hP7, hP8, hP9, hP10, hP11, hP12, hP13, hP14, hP15, hP16, hP17, hP18, hP19, hP20, hQ]
  · refine c105n d hB (.inr (nI_le (by omega) (by omega))) ?_
    simp (disch := omega) only [nI1T, Nat.left_eq_add, Nat.add_eq_left, Nat.add_eq_zero_iff, and_false, false_and, if_false, if_true, opsN, opsC, pm_1, lg, ls1, ls2, lq, List.length_cons, List.length_nil, cN, cL, callE, retV, retN, pm_pop, pm_cat, List.map_cons, List.map_nil, List.sum_cons, List.sum_nil, Value.category, Option.toList, List.cons_append, List.nil_append, reduceIte, reduceCtorEq, Nat.reduceAdd, Nat.reduceLT, Nat.reduceLeDiff, Nat.reduceSub, Nat.reduceEqDiff, Nat.zero_le, Nat.sub_zero, Nat.le_refl, true_and, and_true, not_true_eq_false, not_false_eq_true, true_or, or_true, lc_eq, lc_ne, lc_lt, lc_ge, lc_gt, lc_le, nI_add, lN_add, nI_leI, nI_ltI, nI_eq, nI_clamp, pk_lLT, pk_lLE, pk_lEQ, pk_sub, vp_inT, nz_eq, nz_lt, nz_ge, nz_gt, nz_le, lz_eq, lz_lt, lz_ge, hP1, hP2, hP3, hP4, hP5, hP6, hP7, hP8, hP9, hP10, hP11, hP12, hP13, hP14, hP15, hP16, hP17, hP18, hP19, hP20, hQ]
theorem c112t (d : Nat) {h : pm_H} {b cap bits limit i : Nat} {A : Qs} {Q : pm_Q} (hB : isB h b cap bits limit A) (hI : qI bits limit A) (hi : i ∈ qN A)
    (hQ : ∀ h', isB h' b cap bits limit (qCast i A) → (∀ U, isF h b U → isF h' b U) → fr b (b + 6) h h' → Q (.inl (some (.int (nI ((qN A).length - 1))))) h') : pm_M PP (d + 2) 112 [.ref b, .int (nI i)] h Q := by
  have hs := hB.1
  have hB0 := hB
  have hI0 := hI
  have hq := qI_line hI
  obtain ⟨⟨s0, s1, s2, s3, s4, s5, s6, s7, s8, s9, s10, s11, s12, s13, s14, s15, s16⟩, f4, f5, f6, f7, f8, f9, rK, rW, rM, rN⟩ := hB
  obtain ⟨i1, i2, i3, i4, i5, i6, i7, i8, i9, i10, i11, i12⟩ := hI
  obtain ⟨x1, x2, x3⟩ := hq i hi
  rw [e_112]
  simp (disch := omega) only [u_112_0, B_112_0, nI1T, Nat.left_eq_add, Nat.add_eq_left, Nat.add_eq_zero_iff, and_false, false_and, if_false, if_true, opsN, opsC, pm_1, lg, ls1, ls2, lq, List.length_cons, List.length_nil, cN, cL, callE, retV, retN, pm_pop, pm_cat, List.map_cons, List.map_nil, List.sum_cons, List.sum_nil, Value.category, Option.toList, List.cons_append, List.nil_append, reduceIte, reduceCtorEq, Nat.reduceAdd, Nat.reduceLT, Nat.reduceLeDiff, Nat.reduceSub, Nat.reduceEqDiff, Nat.zero_le, Nat.sub_zero, Nat.le_refl, true_and, and_true, not_true_eq_false, not_false_eq_true, true_or, or_true, lc_eq, lc_ne, lc_lt, lc_ge, lc_gt, lc_le, nI_add, lN_add, nI_leI, nI_ltI, nI_eq, nI_clamp, pk_lLT, pk_lLE, pk_lEQ, pk_sub, vp_inT, nz_eq, nz_lt, nz_ge, nz_gt, nz_le, lz_eq, lz_lt, lz_ge, hP1, hP2, hP3, hP4, hP5, hP6, hP7, hP8, hP9, hP10, hP11, hP12, hP13, hP14, hP15, hP16, hP17, hP18, hP19, hP20, s0]
  refine c105t d hB0 hI0 x1 x2 ?_
  simp (disch := omega) only [u_112_10, B_112_10, nI1T, Nat.left_eq_add, Nat.add_eq_left, Nat.add_eq_zero_iff, and_false, false_and, if_false, if_true, opsN, opsC, pm_1, lg, ls1, ls2, lq, List.length_cons, List.length_nil, cN, cL, callE, retV, retN, pm_pop, pm_cat, List.map_cons, List.map_nil, List.sum_cons, List.sum_nil, Value.category, Option.toList, List.cons_append, List.nil_append, reduceIte, reduceCtorEq, Nat.reduceAdd, Nat.reduceLT, Nat.reduceLeDiff, Nat.reduceSub, Nat.reduceEqDiff, Nat.zero_le, Nat.sub_zero, Nat.le_refl, true_and, and_true, not_true_eq_false, not_false_eq_true, true_or, or_true, lc_eq, lc_ne, lc_lt, lc_ge, lc_gt, lc_le, nI_add, lN_add, nI_leI, nI_ltI, nI_eq, nI_clamp, pk_lLT, pk_lLE, pk_lEQ, pk_sub, vp_inT, nz_eq, nz_lt, nz_ge, nz_gt, nz_le, lz_eq, lz_lt, lz_ge, hP1, hP2, hP3, hP4, hP5, hP6, hP7, hP8, hP9, hP10, hP11, hP12, hP13, hP14, hP15, hP16, hP17, hP18, hP19, hP20, s0]
  refine c118 d hB0 (fun x hx => by have := (hq x hx).1; omega) (by omega) hi ?_
  intro pre r he hp
  have hlen : (qN A).length = pre.length + (r.length + 1) := by rw [he, List.length_append, List.length_cons]
  simp (disch := omega) only [nI1T, Nat.left_eq_add, Nat.add_eq_left, Nat.add_eq_zero_iff, and_false, false_and, if_false, if_true, opsN, opsC, pm_1, lg, ls1, ls2, lq, List.length_cons, List.length_nil, cN, cL, callE, retV, retN, pm_pop, pm_cat, List.map_cons, List.map_nil, List.sum_cons, List.sum_nil, Value.category, Option.toList, List.cons_append, List.nil_append, reduceIte, reduceCtorEq, Nat.reduceAdd, Nat.reduceLT, Nat.reduceLeDiff, Nat.reduceSub, Nat.reduceEqDiff, Nat.zero_le, Nat.sub_zero, Nat.le_refl, true_and, and_true, not_true_eq_false, not_false_eq_true, true_or, or_true, lc_eq, lc_ne, lc_lt, lc_ge, lc_gt, lc_le, nI_add, lN_add, nI_leI, nI_ltI, nI_eq, nI_clamp, pk_lLT, pk_lLE, pk_lEQ, pk_sub, vp_inT, nz_eq, nz_lt, nz_ge, nz_gt, nz_le, lz_eq, lz_lt, lz_ge, hP1, hP2, hP3, hP4, hP5, hP6, hP7, hP8, hP9, hP10, hP11, hP12, hP13, hP14, hP15, hP16, hP17, hP18, hP19, hP20, s0]
  refine c117 d hs f9 (by omega) (by omega) ?_
  have hB2 := lv_isB hB0 he
  simp (disch := omega) only [nI1T, Nat.left_eq_add, Nat.add_eq_left, Nat.add_eq_zero_iff, and_false, false_and, if_false, if_true, opsN, opsC, pm_1, lg, ls1, ls2, lq, List.length_cons, List.length_nil, cN, cL, callE, retV, retN, pm_pop, pm_cat, List.map_cons, List.map_nil, List.sum_cons, List.sum_nil, Value.category, Option.toList, List.cons_append, List.nil_append, reduceIte, reduceCtorEq, Nat.reduceAdd, Nat.reduceLT, Nat.reduceLeDiff, Nat.reduceSub, Nat.reduceEqDiff, Nat.zero_le, Nat.sub_zero, Nat.le_refl, true_and, and_true, not_true_eq_false, not_false_eq_true, true_or, or_true, lc_eq, lc_ne, lc_lt, lc_ge, lc_gt, lc_le, nI_add, lN_add, nI_leI, nI_ltI, nI_eq, nI_clamp, pk_lLT, pk_lLE, pk_lEQ, pk_sub, vp_inT, nz_eq, nz_lt, nz_ge, nz_gt, nz_le, lz_eq, lz_lt, lz_ge, hP1, hP2, hP3, hP4, hP5, hP6, hP7, hP8, hP9, hP10, hP11, hP12, hP13, hP14, hP15, hP16, hP17, hP18, hP19, hP20]
  obtain ⟨⟨t0, t1, t2, t3, t4, t5, t6, t7, t8, t9, t10, t11, t12, t13, t14, t15, t16⟩, k4, k5, k6, k7, k8, k9, _⟩ := id hB2
  have e9 : (pre ++ r).length = (qN A).length - 1 := by rw [hlen, List.length_append]; omega
  have k9' : hI (lvH h b (qN A).length pre.length) b 9 = nI ((qN A).length - 1) := by rw [← e9]; exact k9
  simp (disch := omega) only [nI1T, Nat.left_eq_add, Nat.add_eq_left, Nat.add_eq_zero_iff, and_false, false_and, if_false, if_true, opsN, opsC, pm_1, lg, ls1, ls2, lq, List.length_cons, List.length_nil, cN, cL, callE, retV, retN, pm_pop, pm_cat, List.map_cons, List.map_nil, List.sum_cons, List.sum_nil, Value.category, Option.toList, List.cons_append, List.nil_append, reduceIte, reduceCtorEq, Nat.reduceAdd, Nat.reduceLT, Nat.reduceLeDiff, Nat.reduceSub, Nat.reduceEqDiff, Nat.zero_le, Nat.sub_zero, Nat.le_refl, true_and, and_true, not_true_eq_false, not_false_eq_true, true_or, or_true, lc_eq, lc_ne, lc_lt, lc_ge, lc_gt, lc_le, nI_add, lN_add, nI_leI, nI_ltI, nI_eq, nI_clamp, pk_lLT, pk_lLE, pk_lEQ, pk_sub, vp_inT, nz_eq, nz_lt, nz_ge, nz_gt, nz_le, lz_eq, lz_lt, lz_ge, hP1, hP2, hP3, hP4, hP5, hP6, hP7, hP8, hP9, hP10, hP11, hP12, hP13, hP14, hP15, hP16, hP17, hP18, hP19, hP20, t0, t1, t2, t3, t4, t5, t6, t7, t8, t9, t10, t11, t12, t13, t14, t15, k9', va_upE]
  refine hQ _ ?_ (fun U hU => hU) (fr_sI lv_fr (by omega) (by omega))
  have := st_isB (i := i) (s := 2) hB2 (.inr rfl)
  have e : qCast i A = (qL A, qC A, qK A, qM A, qW A, va_up (qS A) i 2, pre ++ r) := by
    unfold qCast
    rw [he, erase_mid hp]
  rw [e]
  exact this
