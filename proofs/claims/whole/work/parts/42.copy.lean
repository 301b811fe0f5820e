/-! ===== two queues: copy, admitsAll, takeAllOf; placeInBucket ===== -/
theorem sepN {a b : Nat} (h : b + 6 ≤ a ∨ a + 6 ≤ b) : (a = b) = False ∧ (a = b + 1) = False ∧ (a = b + 2) = False ∧ (a = b + 3) = False ∧ (a = b + 4) = False ∧ (a = b + 5) = False ∧
    (a + 1 = b) = False ∧ (a + 2 = b) = False ∧ (a + 3 = b) = False ∧ (a + 4 = b) = False ∧ (a + 5 = b) = False :=
  ⟨eq_false (by omega), eq_false (by omega), eq_false (by omega), eq_false (by omega), eq_false (by omega), eq_false (by omega), eq_false (by omega), eq_false (by omega), eq_false (by omega), eq_false (by omega), eq_false (by omega)⟩
/-- a row of instructions in two -/
def pm_sq (js : List (List Nat)) (hd : Nat → Option (Nat × Nat)) (K : pm_K) (C : pm_C) (Q : pm_Q) : List pm_O → pm_k → pm_k
  | [], k => k
  | o :: r, k => fun bc bs ls st h => pm_1 js hd K C Q o (pm_sq js hd K C Q r k) bc bs ls st h
def pm_cut (js : List (List Nat)) (hd : Nat → Option (Nat × Nat)) (K : pm_K) (C : pm_C) (Q : pm_Q) (nx : Nat) (l : List pm_O) : pm_k := pm_ops js hd K C Q nx l
section SQ
variable (js : List (List Nat)) (hd : Nat → Option (Nat × Nat)) (K : pm_K) (C : pm_C) (Q : pm_Q)
theorem sqN (k : pm_k) (bc bs : Nat) (ls : pm_L) (st : pm_S) (h : pm_H) : pm_sq js hd K C Q [] k bc bs ls st h = k bc bs ls st h := rfl
theorem sqC (o : pm_O) (r : List pm_O) (k : pm_k) (bc bs : Nat) (ls : pm_L) (st : pm_S) (h : pm_H) : pm_sq js hd K C Q (o :: r) k bc bs ls st h = pm_1 js hd K C Q o (pm_sq js hd K C Q r k) bc bs ls st h := rfl
theorem ops_cut (nx : Nat) : ∀ (n : Nat) (l : List pm_O), pm_ops js hd K C Q nx l = pm_sq js hd K C Q (l.take n) (pm_cut js hd K C Q nx (l.drop n))
  | 0, l => rfl
  | n + 1, [] => rfl
  | n + 1, o :: r => by
    show (fun bc bs ls st h => pm_1 js hd K C Q o (pm_ops js hd K C Q nx r) bc bs ls st h) = fun bc bs ls st h => pm_1 js hd K C Q o (pm_sq js hd K C Q (r.take n) (pm_cut js hd K C Q nx (r.drop n))) bc bs ls st h
    rw [ops_cut nx n r]
theorem cut_ops (nx : Nat) (l : List pm_O) : pm_cut js hd K C Q nx l = pm_ops js hd K C Q nx l := rfl
end SQ
theorem c103 (d : Nat) {h : pm_H} {b cap a cap2 bits limit : Nat} {A : Qs} {Q : pm_Q} (hs : bS h b cap) (hB : isB h a cap2 bits limit A) (hd : b + 6 ≤ a ∨ a + 6 ≤ b) (h1 : qC A ≤ limit) (h2 : (qN A).length ≤ qC A) (h3 : limit ≤ cap)
    (hQ : ∀ h', isB h' b cap bits limit A → (∀ U, isF h a U → isF h' b U) → fr b (b + 6) h h' → Q (.inl none) h') : pm_M PP (d + 1) 103 [.ref b, .ref a] h Q := by
  obtain ⟨s0, s1, s2, s3, s4, s5, s6, s7, s8, s9, s10, s11, s12, s13, s14, s15, s16⟩ := id hs
  obtain ⟨⟨t0, t1, t2, t3, t4, t5, t6, t7, t8, t9, t10, t11, t12, t13, t14, t15, t16⟩, k4, k5, k6, k7, k8, k9, rK, rW, rM, rN⟩ := hB
  obtain ⟨n0, n1, n2, n3, n4, n5, m1, m2, m3, m4, m5⟩ := sepN hd
  have c1 : (if cap < qC A then cap else qC A) = qC A := if_neg (by omega)
  have c2 : (if cap < (qN A).length then cap else (qN A).length) = (qN A).length := if_neg (by omega)
  have c3 : (if cap < limit then cap else limit) = limit := if_neg (by omega)
  have g1 : qC A ≤ cap := by omega
  have g2 : qC A ≤ cap2 := by omega
  have g3 : (qN A).length ≤ cap := by omega
  have g4 : (qN A).length ≤ cap2 := by omega
  have z : ∀ x, 0 + x = x := Nat.zero_add
  rw [e_103, u_103_0, ops_cut _ _ _ _ _ _ 15]
  simp (disch := omega) only [B_103_0, nI1T, Nat.left_eq_add, Nat.add_eq_left, Nat.add_eq_zero_iff, and_false, false_and, if_false, if_true, opsN, opsC, pm_1, lg, ls1, ls2, lq, List.length_cons, List.length_nil, cN, cL, callE, retV, retN, pm_pop, pm_cat, List.map_cons, List.map_nil, List.sum_cons, List.sum_nil, Value.category, Option.toList, List.cons_append, List.nil_append, reduceIte, reduceCtorEq, Nat.reduceAdd, Nat.reduceLT, Nat.reduceLeDiff, Nat.reduceSub, Nat.reduceEqDiff, Nat.zero_le, Nat.sub_zero, Nat.le_refl, true_and, and_true, not_true_eq_false, not_false_eq_true, true_or, or_true, lc_eq, lc_ne, lc_lt, lc_ge, lc_gt, lc_le, nI_add, lN_add, nI_leI, nI_ltI, nI_eq, nI_clamp, pk_lLT, pk_lLE, pk_lEQ, pk_sub, vp_inT, nz_eq, nz_lt, nz_ge, nz_gt, nz_le, lz_eq, lz_lt, lz_ge, hP1, hP2, hP3, hP4, hP5, hP6, hP7, hP8, hP9, hP10, hP11, hP12, hP13, hP14, hP15, hP16, hP17, hP18, hP19, hP20, sqN, sqC, List.take_succ_cons, List.take_zero, List.drop_succ_cons, List.drop_zero, s0, s1, s2, s3, s4, s5, s6, s7, s8, s9, s10, s11, s12, s13, s14, s15, t0, t1, t2, t3, t4, t5, t6, t7, t8, t9, t10, t11, t12, t13, t14, t15, k5, k6, k7, k8, k9, va_upE, ite_nI, c1, c2, c3, n0, n1, n2, n3, n4, n5, m1, m2, m3, m4, m5, g1, g2, g3, g4, z]
  suffices hh1 : ∀ H1 : pm_H, hT H1 = hT h → hN H1 = hN h → hR H1 = hR h → hn H1 = hn h → hI H1 = hI h → hL H1 = va_up (hL h) (b + 2) (va_cpy (hL h (a + 2)) (hL h (b + 2)) 0 0 (qC A)) → pm_cut pm_js hh_0 (pm_W PP d 103 Q) (pm_M PP d) Q 0 (B_103_0.drop 15) 0 0 [some (.ref b), some (.ref a), some (.int (nI (qC A)))] [] H1 from hh1 _ rfl rfl rfl rfl rfl rfl
  intro H1 p01 p02 p03 p04 p05 p06
  rw [cut_ops, ops_cut _ _ _ _ _ _ 8]
  simp (disch := omega) only [B_103_0, nI1T, Nat.left_eq_add, Nat.add_eq_left, Nat.add_eq_zero_iff, and_false, false_and, if_false, if_true, opsN, opsC, pm_1, lg, ls1, ls2, lq, List.length_cons, List.length_nil, cN, cL, callE, retV, retN, pm_pop, pm_cat, List.map_cons, List.map_nil, List.sum_cons, List.sum_nil, Value.category, Option.toList, List.cons_append, List.nil_append, reduceIte, reduceCtorEq, Nat.reduceAdd, Nat.reduceLT, Nat.reduceLeDiff, Nat.reduceSub, Nat.reduceEqDiff, Nat.zero_le, Nat.sub_zero, Nat.le_refl, true_and, and_true, not_true_eq_false, not_false_eq_true, true_or, or_true, lc_eq, lc_ne, lc_lt, lc_ge, lc_gt, lc_le, nI_add, lN_add, nI_leI, nI_ltI, nI_eq, nI_clamp, pk_lLT, pk_lLE, pk_lEQ, pk_sub, vp_inT, nz_eq, nz_lt, nz_ge, nz_gt, nz_le, lz_eq, lz_lt, lz_ge, hP1, hP2, hP3, hP4, hP5, hP6, hP7, hP8, hP9, hP10, hP11, hP12, hP13, hP14, hP15, hP16, hP17, hP18, hP19, hP20, sqN, sqC, List.take_succ_cons, List.take_zero, List.drop_succ_cons, List.drop_zero, s0, s1, s2, s3, s4, s5, s6, s7, s8, s9, s10, s11, s12, s13, s14, s15, t0, t1, t2, t3, t4, t5, t6, t7, t8, t9, t10, t11, t12, t13, t14, t15, k5, k6, k7, k8, k9, p01, p02, p03, p05, p06, va_upE, ite_nI, c1, c2, c3, n0, n1, n2, n3, n4, n5, m1, m2, m3, m4, m5, g1, g2, g3, g4, z]
  suffices hh2 : ∀ H2 : pm_H, hT H2 = hT h → hN H2 = hN h → hR H2 = hR h → hn H2 = hn h → hI H2 = va_up (hI h) (b + 3) (va_cpy (hI h (a + 3)) (hI h (b + 3)) 0 0 (qC A)) → hL H2 = va_up (hL h) (b + 2) (va_cpy (hL h (a + 2)) (hL h (b + 2)) 0 0 (qC A)) → pm_cut pm_js hh_0 (pm_W PP d 103 Q) (pm_M PP d) Q 0 (B_103_0.drop 23) 0 0 [some (.ref b), some (.ref a), some (.int (nI (qC A)))] [] H2 from hh2 _ p01 p02 p03 p04 (by simp only [hP1, hP6, hP11, p05]) p06
  intro H2 p11 p12 p13 p14 p15 p16
  rw [cut_ops, ops_cut _ _ _ _ _ _ 8]
  simp (disch := omega) only [B_103_0, nI1T, Nat.left_eq_add, Nat.add_eq_left, Nat.add_eq_zero_iff, and_false, false_and, if_false, if_true, opsN, opsC, pm_1, lg, ls1, ls2, lq, List.length_cons, List.length_nil, cN, cL, callE, retV, retN, pm_pop, pm_cat, List.map_cons, List.map_nil, List.sum_cons, List.sum_nil, Value.category, Option.toList, List.cons_append, List.nil_append, reduceIte, reduceCtorEq, Nat.reduceAdd, Nat.reduceLT, Nat.reduceLeDiff, Nat.reduceSub, Nat.reduceEqDiff, Nat.zero_le, Nat.sub_zero, Nat.le_refl, true_and, and_true, not_true_eq_false, not_false_eq_true, true_or, or_true, lc_eq, lc_ne, lc_lt, lc_ge, lc_gt, lc_le, nI_add, lN_add, nI_leI, nI_ltI, nI_eq, nI_clamp, pk_lLT, pk_lLE, pk_lEQ, pk_sub, vp_inT, nz_eq, nz_lt, nz_ge, nz_gt, nz_le, lz_eq, lz_lt, lz_ge, hP1, hP2, hP3, hP4, hP5, hP6, hP7, hP8, hP9, hP10, hP11, hP12, hP13, hP14, hP15, hP16, hP17, hP18, hP19, hP20, sqN, sqC, List.take_succ_cons, List.take_zero, List.drop_succ_cons, List.drop_zero, s0, s1, s2, s3, s4, s5, s6, s7, s8, s9, s10, s11, s12, s13, s14, s15, t0, t1, t2, t3, t4, t5, t6, t7, t8, t9, t10, t11, t12, t13, t14, t15, k5, k6, k7, k8, k9, p11, p12, p13, p15, p16, va_upE, ite_nI, c1, c2, c3, n0, n1, n2, n3, n4, n5, m1, m2, m3, m4, m5, g1, g2, g3, g4, z]
  suffices hh3 : ∀ H3 : pm_H, hT H3 = hT h → hN H3 = hN h → hR H3 = hR h → hn H3 = hn h → hI H3 = va_up (va_up (hI h) (b + 3) (va_cpy (hI h (a + 3)) (hI h (b + 3)) 0 0 (qC A))) (b + 4) (va_cpy (hI h (a + 4)) (hI h (b + 4)) 0 0 (qC A)) → hL H3 = va_up (hL h) (b + 2) (va_cpy (hL h (a + 2)) (hL h (b + 2)) 0 0 (qC A)) → pm_cut pm_js hh_0 (pm_W PP d 103 Q) (pm_M PP d) Q 0 (B_103_0.drop 31) 0 0 [some (.ref b), some (.ref a), some (.int (nI (qC A)))] [] H3 from hh3 _ p11 p12 p13 p14 (by simp only [hP1, hP6, hP11, p15]) p16
  intro H3 p21 p22 p23 p24 p25 p26
  rw [cut_ops, ops_cut _ _ _ _ _ _ 17]
  simp (disch := omega) only [B_103_0, nI1T, Nat.left_eq_add, Nat.add_eq_left, Nat.add_eq_zero_iff, and_false, false_and, if_false, if_true, opsN, opsC, pm_1, lg, ls1, ls2, lq, List.length_cons, List.length_nil, cN, cL, callE, retV, retN, pm_pop, pm_cat, List.map_cons, List.map_nil, List.sum_cons, List.sum_nil, Value.category, Option.toList, List.cons_append, List.nil_append, reduceIte, reduceCtorEq, Nat.reduceAdd, Nat.reduceLT, Nat.reduceLeDiff, Nat.reduceSub, Nat.reduceEqDiff, Nat.zero_le, Nat.sub_zero, Nat.le_refl, true_and, and_true, not_true_eq_false, not_false_eq_true, true_or, or_true, lc_eq, lc_ne, lc_lt, lc_ge, lc_gt, lc_le, nI_add, lN_add, nI_leI, nI_ltI, nI_eq, nI_clamp, pk_lLT, pk_lLE, pk_lEQ, pk_sub, vp_inT, nz_eq, nz_lt, nz_ge, nz_gt, nz_le, lz_eq, lz_lt, lz_ge, hP1, hP2, hP3, hP4, hP5, hP6, hP7, hP8, hP9, hP10, hP11, hP12, hP13, hP14, hP15, hP16, hP17, hP18, hP19, hP20, sqN, sqC, List.take_succ_cons, List.take_zero, List.drop_succ_cons, List.drop_zero, s0, s1, s2, s3, s4, s5, s6, s7, s8, s9, s10, s11, s12, s13, s14, s15, t0, t1, t2, t3, t4, t5, t6, t7, t8, t9, t10, t11, t12, t13, t14, t15, k5, k6, k7, k8, k9, p21, p22, p23, p25, p26, va_upE, ite_nI, c1, c2, c3, n0, n1, n2, n3, n4, n5, m1, m2, m3, m4, m5, g1, g2, g3, g4, z]
  suffices hh4 : ∀ H4 : pm_H, hT H4 = hT h → hN H4 = hN h → hR H4 = hR h → hn H4 = hn h → hI H4 = va_up (va_up (va_up (va_up (hI h) (b + 3) (va_cpy (hI h (a + 3)) (hI h (b + 3)) 0 0 (qC A))) (b + 4) (va_cpy (hI h (a + 4)) (hI h (b + 4)) 0 0 (qC A))) b (va_up (hI h b) 9 (nI (qN A).length))) (b + 5) (va_cpy (hI h (a + 5)) (hI h (b + 5)) 0 0 (qN A).length) → hL H4 = va_up (hL h) (b + 2) (va_cpy (hL h (a + 2)) (hL h (b + 2)) 0 0 (qC A)) → pm_cut pm_js hh_0 (pm_W PP d 103 Q) (pm_M PP d) Q 0 (B_103_0.drop 48) 0 0 [some (.ref b), some (.ref a), some (.int (nI (qC A)))] [] H4 from hh4 _ p21 p22 p23 p24 (by simp only [hP1, hP6, hP11, p25]) p26
  intro H4 p31 p32 p33 p34 p35 p36
  rw [cut_ops, ops_cut _ _ _ _ _ _ 10]
  simp (disch := omega) only [B_103_0, nI1T, Nat.left_eq_add, Nat.add_eq_left, Nat.add_eq_zero_iff, and_false, false_and, if_false, if_true, opsN, opsC, pm_1, lg, ls1, ls2, lq, List.length_cons, List.length_nil, cN, cL, callE, retV, retN, pm_pop, pm_cat, List.map_cons, List.map_nil, List.sum_cons, List.sum_nil, Value.category, Option.toList, List.cons_append, List.nil_append, reduceIte, reduceCtorEq, Nat.reduceAdd, Nat.reduceLT, Nat.reduceLeDiff, Nat.reduceSub, Nat.reduceEqDiff, Nat.zero_le, Nat.sub_zero, Nat.le_refl, true_and, and_true, not_true_eq_false, not_false_eq_true, true_or, or_true, lc_eq, lc_ne, lc_lt, lc_ge, lc_gt, lc_le, nI_add, lN_add, nI_leI, nI_ltI, nI_eq, nI_clamp, pk_lLT, pk_lLE, pk_lEQ, pk_sub, vp_inT, nz_eq, nz_lt, nz_ge, nz_gt, nz_le, lz_eq, lz_lt, lz_ge, hP1, hP2, hP3, hP4, hP5, hP6, hP7, hP8, hP9, hP10, hP11, hP12, hP13, hP14, hP15, hP16, hP17, hP18, hP19, hP20, sqN, sqC, List.take_succ_cons, List.take_zero, List.drop_succ_cons, List.drop_zero, s0, s1, s2, s3, s4, s5, s6, s7, s8, s9, s10, s11, s12, s13, s14, s15, t0, t1, t2, t3, t4, t5, t6, t7, t8, t9, t10, t11, t12, t13, t14, t15, k5, k6, k7, k8, k9, p31, p32, p33, p35, p36, va_upE, ite_nI, c1, c2, c3, n0, n1, n2, n3, n4, n5, m1, m2, m3, m4, m5, g1, g2, g3, g4, z]
  suffices hh5 : ∀ H5 : pm_H, hT H5 = hT h → hN H5 = hN h → hR H5 = hR h → hn H5 = hn h → hI H5 = va_up (va_up (va_up (va_up (hI h) (b + 3) (va_cpy (hI h (a + 3)) (hI h (b + 3)) 0 0 (qC A))) (b + 4) (va_cpy (hI h (a + 4)) (hI h (b + 4)) 0 0 (qC A))) b (va_up (hI h b) 9 (nI (qN A).length))) (b + 5) (va_cpy (hI h (a + 5)) (hI h (b + 5)) 0 0 (qN A).length) → hL H5 = va_up (va_up (hL h) (b + 2) (va_cpy (hL h (a + 2)) (hL h (b + 2)) 0 0 (qC A))) (b + 1) (va_cpy (hL h (a + 1)) (hL h (b + 1)) 0 0 3) → pm_cut pm_js hh_0 (pm_W PP d 103 Q) (pm_M PP d) Q 0 (B_103_0.drop 58) 0 0 [some (.ref b), some (.ref a), some (.int (nI (qC A)))] [] H5 from hh5 _ p31 p32 p33 p34 p35 (by simp only [hP7, hP2, hP12, p36])
  intro H5 p41 p42 p43 p44 p45 p46
  rw [cut_ops]
  simp (disch := omega) only [B_103_0, nI1T, Nat.left_eq_add, Nat.add_eq_left, Nat.add_eq_zero_iff, and_false, false_and, if_false, if_true, opsN, opsC, pm_1, lg, ls1, ls2, lq, List.length_cons, List.length_nil, cN, cL, callE, retV, retN, pm_pop, pm_cat, List.map_cons, List.map_nil, List.sum_cons, List.sum_nil, Value.category, Option.toList, List.cons_append, List.nil_append, reduceIte, reduceCtorEq, Nat.reduceAdd, Nat.reduceLT, Nat.reduceLeDiff, Nat.reduceSub, Nat.reduceEqDiff, Nat.zero_le, Nat.sub_zero, Nat.le_refl, true_and, and_true, not_true_eq_false, not_false_eq_true, true_or, or_true, lc_eq, lc_ne, lc_lt, lc_ge, lc_gt, lc_le, nI_add, lN_add, nI_leI, nI_ltI, nI_eq, nI_clamp, pk_lLT, pk_lLE, pk_lEQ, pk_sub, vp_inT, nz_eq, nz_lt, nz_ge, nz_gt, nz_le, lz_eq, lz_lt, lz_ge, hP1, hP2, hP3, hP4, hP5, hP6, hP7, hP8, hP9, hP10, hP11, hP12, hP13, hP14, hP15, hP16, hP17, hP18, hP19, hP20, sqN, sqC, List.take_succ_cons, List.take_zero, List.drop_succ_cons, List.drop_zero, s0, s1, s2, s3, s4, s5, s6, s7, s8, s9, s10, s11, s12, s13, s14, s15, t0, t1, t2, t3, t4, t5, t6, t7, t8, t9, t10, t11, t12, t13, t14, t15, k5, k6, k7, k8, k9, p41, p42, p43, p45, p46, va_upE, ite_nI, c1, c2, c3, n0, n1, n2, n3, n4, n5, m1, m2, m3, m4, m5, g1, g2, g3, g4, z]
  refine hQ _ ?_ ?_ ?_
  · refine ⟨?_, h3, ?_, ?_, ?_, ?_, ?_, ?_, ?_, ?_, ?_⟩
    · unfold bS
      simp only [hP1, hP2, hP3, hP4, hP5, hP6, hP7, hP8, hP9, hP10, hP11, hP12, hP13, hP14, hP15, hP16, hP17, hP18, hP19, hP20, va_upE, Nat.left_eq_add, Nat.add_eq_left, Nat.add_eq_zero_iff, Nat.reduceEqDiff, Nat.reduceAdd, reduceIte, and_false, false_and, if_false, if_true, reduceCtorEq, p41, p42, p43, p45, p46]
      exact hs
    · simp only [hP1, hP2, hP3, hP4, hP5, hP6, hP7, hP8, hP9, hP10, hP11, hP12, hP13, hP14, hP15, hP16, hP17, hP18, hP19, hP20, va_upE, Nat.left_eq_add, Nat.add_eq_left, Nat.add_eq_zero_iff, Nat.reduceEqDiff, Nat.reduceAdd, reduceIte, and_false, false_and, if_false, if_true, reduceCtorEq]
    · simp only [hP1, hP2, hP3, hP4, hP5, hP6, hP7, hP8, hP9, hP10, hP11, hP12, hP13, hP14, hP15, hP16, hP17, hP18, hP19, hP20, va_upE, Nat.left_eq_add, Nat.add_eq_left, Nat.add_eq_zero_iff, Nat.reduceEqDiff, Nat.reduceAdd, reduceIte, and_false, false_and, if_false, if_true, reduceCtorEq]
    · simp only [hP1, hP2, hP3, hP4, hP5, hP6, hP7, hP8, hP9, hP10, hP11, hP12, hP13, hP14, hP15, hP16, hP17, hP18, hP19, hP20, va_upE, Nat.left_eq_add, Nat.add_eq_left, Nat.add_eq_zero_iff, Nat.reduceEqDiff, Nat.reduceAdd, reduceIte, and_false, false_and, if_false, if_true, reduceCtorEq]
    · simp only [hP1, hP2, hP3, hP4, hP5, hP6, hP7, hP8, hP9, hP10, hP11, hP12, hP13, hP14, hP15, hP16, hP17, hP18, hP19, hP20, va_upE, Nat.left_eq_add, Nat.add_eq_left, Nat.add_eq_zero_iff, Nat.reduceEqDiff, Nat.reduceAdd, reduceIte, and_false, false_and, if_false, if_true, reduceCtorEq]
    · simp only [hP1, hP2, hP3, hP4, hP5, hP6, hP7, hP8, hP9, hP10, hP11, hP12, hP13, hP14, hP15, hP16, hP17, hP18, hP19, hP20, va_upE, Nat.left_eq_add, Nat.add_eq_left, Nat.add_eq_zero_iff, Nat.reduceEqDiff, Nat.reduceAdd, reduceIte, and_false, false_and, if_false, if_true, reduceCtorEq, p41, p42, p43, p45, p46]
    · intro i hi
      simp only [hP1, hP2, hP3, hP4, hP5, hP6, hP7, hP8, hP9, hP10, hP11, hP12, hP13, hP14, hP15, hP16, hP17, hP18, hP19, hP20, va_upE, Nat.left_eq_add, Nat.add_eq_left, Nat.add_eq_zero_iff, Nat.reduceEqDiff, Nat.reduceAdd, reduceIte, and_false, false_and, if_false, if_true, reduceCtorEq, p41, p42, p43, p45, p46]
      rw [pk_cpy_in (by omega) (by omega), ← rK i hi]; congr 1; omega
    · intro i hi
      simp only [hP1, hP2, hP3, hP4, hP5, hP6, hP7, hP8, hP9, hP10, hP11, hP12, hP13, hP14, hP15, hP16, hP17, hP18, hP19, hP20, va_upE, Nat.left_eq_add, Nat.add_eq_left, Nat.add_eq_zero_iff, Nat.reduceEqDiff, Nat.reduceAdd, reduceIte, and_false, false_and, if_false, if_true, reduceCtorEq, p41, p42, p43, p45, p46]
      rw [pk_cpy_in (by omega) (by omega), ← rW i hi]; congr 1; omega
    · intro i hi
      simp only [hP1, hP2, hP3, hP4, hP5, hP6, hP7, hP8, hP9, hP10, hP11, hP12, hP13, hP14, hP15, hP16, hP17, hP18, hP19, hP20, va_upE, Nat.left_eq_add, Nat.add_eq_left, Nat.add_eq_zero_iff, Nat.reduceEqDiff, Nat.reduceAdd, reduceIte, and_false, false_and, if_false, if_true, reduceCtorEq, p41, p42, p43, p45, p46]
      rw [pk_cpy_in (by omega) (by omega), ← rM i hi]; congr 1; omega
    · intro i hi
      simp only [hP1, hP2, hP3, hP4, hP5, hP6, hP7, hP8, hP9, hP10, hP11, hP12, hP13, hP14, hP15, hP16, hP17, hP18, hP19, hP20, va_upE, Nat.left_eq_add, Nat.add_eq_left, Nat.add_eq_zero_iff, Nat.reduceEqDiff, Nat.reduceAdd, reduceIte, and_false, false_and, if_false, if_true, reduceCtorEq, p41, p42, p43, p45, p46]
      rw [pk_cpy_in (by omega) (by omega), ← rN i hi]; congr 1; omega
  · intro U hU k hk
    simp only [hP1, hP2, hP3, hP4, hP5, hP6, hP7, hP8, hP9, hP10, hP11, hP12, hP13, hP14, hP15, hP16, hP17, hP18, hP19, hP20, va_upE, Nat.left_eq_add, Nat.add_eq_left, Nat.add_eq_zero_iff, Nat.reduceEqDiff, Nat.reduceAdd, reduceIte, and_false, false_and, if_false, if_true, reduceCtorEq, p41, p42, p43, p45, p46]
    rw [pk_cpy_in (by omega) (by omega)]
    have := hU k hk
    rw [show 0 + (k / 64 - 0) = k / 64 by omega]
    exact this
  · refine ⟨p41, p42, p43, p44, fun k hk => ?_⟩
    have w0 : ¬ k = b := by omega
    have w1 : ¬ k = b + 1 := by omega
    have w2 : ¬ k = b + 2 := by omega
    have w3 : ¬ k = b + 3 := by omega
    have w4 : ¬ k = b + 4 := by omega
    have w5 : ¬ k = b + 5 := by omega
    simp only [hP1, hP2, hP3, hP4, hP5, hP6, hP7, hP8, hP9, hP10, hP11, hP12, hP13, hP14, hP15, hP16, hP17, hP18, hP19, hP20, va_upE, Nat.left_eq_add, Nat.add_eq_left, Nat.add_eq_zero_iff, Nat.reduceEqDiff, Nat.reduceAdd, reduceIte, and_false, false_and, if_false, if_true, reduceCtorEq, p41, p42, p43, p45, p46, w0, w1, w2, w3, w4, w5, and_self]
theorem l107 (d : Nat) {h : pm_H} {b cap a cap2 bits limit bits2 limit2 : Nat} {A B : Qs} {Q : pm_Q} (hA : isB h b cap bits limit A) (hB : isB h a cap2 bits2 limit2 B) (hI : qI bits2 limit2 B) (hl : qL A < 2 ^ 40)
    (hQ : Q (.inl (some (.int (nI (if ∀ x, x ∈ qN B → qL A ≤ qK B x then 1 else 0))))) h) :
    ∀ (suf pre : List Nat), qN B = pre ++ suf → (∀ x, x ∈ pre → qL A ≤ qK B x) → pm_W PP d 107 Q 0 0 20 [some (.ref b), some (.ref a), some (.int (nI pre.length))] [] h := by
  have hq := qI_line hI
  obtain ⟨i1, i2, i3, i4, i5, i6, i7, i8, i9, i10, i11, i12⟩ := hI
  have f7 := hA.2.2.2.2.1
  have s0 := hA.1.1
  obtain ⟨⟨t0, t1, t2, t3, t4, t5, t6, t7, t8, t9, t10, t11, t12, t13, t14, t15, t16⟩, k4, k5, k6, k7, k8, k9, rK, rW, rM, rN⟩ := hB
  intro suf
  induction suf with
  | nil =>
    intro pre he hp
    rw [List.append_nil] at he
    have c1 : (qN B).length ≤ pre.length := by rw [he]; exact Nat.le_refl _
    have c2 : pre.length = (qN B).length := by rw [he]
    rw [u_107_20]
    rw [if_pos (fun x hx => hp x (by rw [← he]; exact hx))] at hQ
    simp (disch := omega) only [B_107_20, u_107_55, B_107_55, nI1T, Nat.left_eq_add, Nat.add_eq_left, Nat.add_eq_zero_iff, and_false, false_and, if_false, if_true, opsN, opsC, pm_1, lg, ls1, ls2, lq, List.length_cons, List.length_nil, cN, cL, callE, retV, retN, pm_pop, pm_cat, List.map_cons, List.map_nil, List.sum_cons, List.sum_nil, Value.category, Option.toList, List.cons_append, List.nil_append, reduceIte, reduceCtorEq, Nat.reduceAdd, Nat.reduceLT, Nat.reduceLeDiff, Nat.reduceSub, Nat.reduceEqDiff, Nat.zero_le, Nat.sub_zero, Nat.le_refl, true_and, and_true, not_true_eq_false, not_false_eq_true, true_or, or_true, lc_eq, lc_ne, lc_lt, lc_ge, lc_gt, lc_le, nI_add, lN_add, nI_leI, nI_ltI, nI_eq, nI_clamp, pk_lLT, pk_lLE, pk_lEQ, pk_sub, vp_inT, nz_eq, nz_lt, nz_ge, nz_gt, nz_le, lz_eq, lz_lt, lz_ge, hP1, hP2, hP3, hP4, hP5, hP6, hP7, hP8, hP9, hP10, hP11, hP12, hP13, hP14, hP15, hP16, hP17, hP18, hP19, hP20, t0, k9, c1, hQ]
  | cons y r ih =>
    intro pre he hp
    have hlen : (qN B).length = pre.length + (r.length + 1) := by rw [he, List.length_append, List.length_cons]
    have hy := rN pre.length (by omega)
    rw [he, getD_mid] at hy
    have hym : y ∈ qN B := by rw [he]; exact List.mem_append_right _ (List.mem_cons_self ..)
    obtain ⟨y1, y2, y3⟩ := hq y hym
    have c1 : ¬ (qN B).length ≤ pre.length := by omega
    have hk := rK y y1
    have hk2 := i6 y y1
    have step := ih (pre ++ [y])
    rw [List.length_append, List.append_assoc] at step
    rw [u_107_20]
    by_cases e : qL A ≤ qK B y
    · simp (disch := omega) only [B_107_20, u_107_49, B_107_49, nI1T, Nat.left_eq_add, Nat.add_eq_left, Nat.add_eq_zero_iff, and_false, false_and, if_false, if_true, opsN, opsC, pm_1, lg, ls1, ls2, lq, List.length_cons, List.length_nil, cN, cL, callE, retV, retN, pm_pop, pm_cat, List.map_cons, List.map_nil, List.sum_cons, List.sum_nil, Value.category, Option.toList, List.cons_append, List.nil_append, reduceIte, reduceCtorEq, Nat.reduceAdd, Nat.reduceLT, Nat.reduceLeDiff, Nat.reduceSub, Nat.reduceEqDiff, Nat.zero_le, Nat.sub_zero, Nat.le_refl, true_and, and_true, not_true_eq_false, not_false_eq_true, true_or, or_true, lc_eq, lc_ne, lc_lt, lc_ge, lc_gt, lc_le, nI_add, lN_add, nI_leI, nI_ltI, nI_eq, nI_clamp, pk_lLT, pk_lLE, pk_lEQ, pk_sub, vp_inT, nz_eq, nz_lt, nz_ge, nz_gt, nz_le, lz_eq, lz_lt, lz_ge, hP1, hP2, hP3, hP4, hP5, hP6, hP7, hP8, hP9, hP10, hP11, hP12, hP13, hP14, hP15, hP16, hP17, hP18, hP19, hP20, s0, f7, t0, t1, t4, t7, t10, t12, t15, k9, c1, hy, hk, e]
      refine step he (fun x hx => ?_)
      rcases List.mem_append.mp hx with q | q
      · exact hp x q
      · rw [List.mem_singleton.mp q]; exact e
    · rw [if_neg (fun q => e (q y hym))] at hQ
      simp (disch := omega) only [B_107_20, nI1T, Nat.left_eq_add, Nat.add_eq_left, Nat.add_eq_zero_iff, and_false, false_and, if_false, if_true, opsN, opsC, pm_1, lg, ls1, ls2, lq, List.length_cons, List.length_nil, cN, cL, callE, retV, retN, pm_pop, pm_cat, List.map_cons, List.map_nil, List.sum_cons, List.sum_nil, Value.category, Option.toList, List.cons_append, List.nil_append, reduceIte, reduceCtorEq, Nat.reduceAdd, Nat.reduceLT, Nat.reduceLeDiff, Nat.reduceSub, Nat.reduceEqDiff, Nat.zero_le, Nat.sub_zero, Nat.le_refl, true_and, and_true, not_true_eq_false, not_false_eq_true, true_or, or_true, lc_eq, lc_ne, lc_lt, lc_ge, lc_gt, lc_le, nI_add, lN_add, nI_leI, nI_ltI, nI_eq, nI_clamp, pk_lLT, pk_lLE, pk_lEQ, pk_sub, vp_inT, nz_eq, nz_lt, nz_ge, nz_gt, nz_le, lz_eq, lz_lt, lz_ge, hP1, hP2, hP3, hP4, hP5, hP6, hP7, hP8, hP9, hP10, hP11, hP12, hP13, hP14, hP15, hP16, hP17, hP18, hP19, hP20, s0, f7, t0, t1, t4, t7, t10, t12, t15, k9, c1, hy, hk, e, hQ]
theorem c107 (d : Nat) {h : pm_H} {b cap a cap2 bits limit bits2 limit2 : Nat} {A B : Qs} {Q : pm_Q} (hA : isB h b cap bits limit A) (hB : isB h a cap2 bits2 limit2 B) (hIA : qI bits limit A) (hI : qI bits2 limit2 B)
    (hQ : Q (.inl (some (.int (nI (if qC A + (qN B).length ≤ limit ∧ ∀ x, x ∈ qN B → qL A ≤ qK B x then 1 else 0))))) h) : pm_M PP (d + 1) 107 [.ref b, .ref a] h Q := by
  have hA0 := hA
  have hB0 := hB
  have hI0 := hI
  obtain ⟨⟨s0, s1, s2, s3, s4, s5, s6, s7, s8, s9, s10, s11, s12, s13, s14, s15, s16⟩, f4, f5, f6, f7, f8, f9, rK, rW, rM, rN⟩ := hA
  obtain ⟨i1, i2, i3, i4, i5, i6, i7, i8, i9, i10, i11, i12⟩ := hIA
  have t0 := hB.1.1
  have k9 := hB.2.2.2.2.2.2.1
  have j11 := hI.2.2.2.2.2.2.2.2.2.2.1
  have j3 := hI.2.2.1
  have j4 := hI.2.2.2.1
  rw [e_107]
  by_cases c : qC A + (qN B).length ≤ limit
  · simp (disch := omega) only [u_107_0, B_107_0, u_107_18, B_107_18, nI1T, Nat.left_eq_add, Nat.add_eq_left, Nat.add_eq_zero_iff, and_false, false_and, if_false, if_true, opsN, opsC, pm_1, lg, ls1, ls2, lq, List.length_cons, List.length_nil, cN, cL, callE, retV, retN, pm_pop, pm_cat, List.map_cons, List.map_nil, List.sum_cons, List.sum_nil, Value.category, Option.toList, List.cons_append, List.nil_append, reduceIte, reduceCtorEq, Nat.reduceAdd, Nat.reduceLT, Nat.reduceLeDiff, Nat.reduceSub, Nat.reduceEqDiff, Nat.zero_le, Nat.sub_zero, Nat.le_refl, true_and, and_true, not_true_eq_false, not_false_eq_true, true_or, or_true, lc_eq, lc_ne, lc_lt, lc_ge, lc_gt, lc_le, nI_add, lN_add, nI_leI, nI_ltI, nI_eq, nI_clamp, pk_lLT, pk_lLE, pk_lEQ, pk_sub, vp_inT, nz_eq, nz_lt, nz_ge, nz_gt, nz_le, lz_eq, lz_lt, lz_ge, hP1, hP2, hP3, hP4, hP5, hP6, hP7, hP8, hP9, hP10, hP11, hP12, hP13, hP14, hP15, hP16, hP17, hP18, hP19, hP20, s0, s1, s2, s3, s4, s5, s6, s7, s8, s9, s10, s11, s12, s13, s14, s15, f5, f6, f7, f8, f9, t0, k9, c]
    refine l107 d hA0 hB0 hI0 i5 ?_ (qN B) [] rfl (fun x hx => absurd hx List.not_mem_nil)
    by_cases e : ∀ x, x ∈ qN B → qL A ≤ qK B x
    · rw [if_pos e]; rw [if_pos ⟨c, e⟩] at hQ; exact hQ
    · rw [if_neg e]; rw [if_neg (fun q => e q.2)] at hQ; exact hQ
  · rw [if_neg (fun q => c q.1)] at hQ
    simp (disch := omega) only [u_107_0, B_107_0, nI1T, Nat.left_eq_add, Nat.add_eq_left, Nat.add_eq_zero_iff, and_false, false_and, if_false, if_true, opsN, opsC, pm_1, lg, ls1, ls2, lq, List.length_cons, List.length_nil, cN, cL, callE, retV, retN, pm_pop, pm_cat, List.map_cons, List.map_nil, List.sum_cons, List.sum_nil, Value.category, Option.toList, List.cons_append, List.nil_append, reduceIte, reduceCtorEq, Nat.reduceAdd, Nat.reduceLT, Nat.reduceLeDiff, Nat.reduceSub, Nat.reduceEqDiff, Nat.zero_le, Nat.sub_zero, Nat.le_refl, true_and, and_true, not_true_eq_false, not_false_eq_true, true_or, or_true, lc_eq, lc_ne, lc_lt, lc_ge, lc_gt, lc_le, nI_add, lN_add, nI_leI, nI_ltI, nI_eq, nI_clamp, pk_lLT, pk_lLE, pk_lEQ, pk_sub, vp_inT, nz_eq, nz_lt, nz_ge, nz_gt, nz_le, lz_eq, lz_lt, lz_ge, hP1, hP2, hP3, hP4, hP5, hP6, hP7, hP8, hP9, hP10, hP11, hP12, hP13, hP14, hP15, hP16, hP17, hP18, hP19, hP20, s0, s1, s2, s3, s4, s5, s6, s7, s8, s9, s10, s11, s12, s13, s14, s15, f5, f6, f7, f8, f9, t0, k9, c, hQ]
/-! all of the other's -/
theorem l113 (d : Nat) {b cap a cap2 bits limit limit2 : Nat} {K : Nat → Nat} {B0 : Qs} {N : List Nat} (hd : b + 6 ≤ a ∨ a + 6 ≤ b) (hc2 : limit2 ≤ cap2) (hNl : N.length ≤ 300) (hK : qK B0 = K) (hCB : qC B0 ≤ limit2) (hNB : N.length ≤ qC B0) :
    ∀ (suf pre : List Nat) (A : Qs) (S : Nat → Nat) (h : pm_H) (x4 : Option Value) (Q : pm_Q), N = pre ++ suf → isB h b cap bits limit A → qI bits limit A → isB h a cap2 bits limit2 (qL B0, qC B0, K, qM B0, qW B0, S, N) →
      (∀ x, x ∈ suf → x < qC B0 ∧ K x < 2 ^ 40 ∧ qL A ≤ K x) → qC A + suf.length ≤ limit →
      (∀ h', isB h' b cap bits limit (addAll bits K suf A) → qI bits limit (addAll bits K suf A) → isB h' a cap2 bits limit2 (qL B0, qC B0, K, qM B0, qW B0, dropS suf S, []) →
        hT h' = hT h → hN h' = hN h → hR h' = hR h → hn h' = hn h → (∀ k, (k < b ∨ b + 6 ≤ k) → (k < a ∨ a + 6 ≤ k) → hI h' k = hI h k ∧ hL h' k = hL h k) → Q (.inl (some (.int (nI N.length)))) h') →
      pm_W PP (d + 2) 113 Q 0 0 7 [some (.ref b), some (.ref a), some (.int (nI N.length)), some (.int (nI pre.length)), x4] [] h := by
  obtain ⟨n0, n1, n2, n3, n4, n5, m1, m2, m3, m4, m5⟩ := sepN hd
  intro suf
  induction suf with
  | nil =>
    intro pre A S h x4 Q he hA hIq hB hx hl hQ
    rw [List.append_nil] at he
    subst he
    have hsB := hB.1
    obtain ⟨⟨t0, t1, t2, t3, t4, t5, t6, t7, t8, t9, t10, t11, t12, t13, t14, t15, t16⟩, k4, k5, k6, k7, k8, k9, rK, rW, rM, rN⟩ := hB
    have c : N.length ≤ N.length := Nat.le_refl _
    rw [u_113_7]
    simp (disch := omega) only [B_113_7, u_113_47, B_113_47, nI1T, Nat.left_eq_add, Nat.add_eq_left, Nat.add_eq_zero_iff, and_false, false_and, if_false, if_true, opsN, opsC, pm_1, lg, ls1, ls2, lq, List.length_cons, List.length_nil, cN, cL, callE, retV, retN, pm_pop, pm_cat, List.map_cons, List.map_nil, List.sum_cons, List.sum_nil, Value.category, Option.toList, List.cons_append, List.nil_append, reduceIte, reduceCtorEq, Nat.reduceAdd, Nat.reduceLT, Nat.reduceLeDiff, Nat.reduceSub, Nat.reduceEqDiff, Nat.zero_le, Nat.sub_zero, Nat.le_refl, true_and, and_true, not_true_eq_false, not_false_eq_true, true_or, or_true, lc_eq, lc_ne, lc_lt, lc_ge, lc_gt, lc_le, nI_add, lN_add, nI_leI, nI_ltI, nI_eq, nI_clamp, pk_lLT, pk_lLE, pk_lEQ, pk_sub, vp_inT, nz_eq, nz_lt, nz_ge, nz_gt, nz_le, lz_eq, lz_lt, lz_ge, hP1, hP2, hP3, hP4, hP5, hP6, hP7, hP8, hP9, hP10, hP11, hP12, hP13, hP14, hP15, hP16, hP17, hP18, hP19, hP20, t0, c]
    have hfr : fr a (a + 6) h (sI h a (va_up (hI h a) 9 (nI 0))) := fr_sI (fr_refl _ _ _) (by omega) (by omega)
    refine hQ _ (isB_fr hfr (by omega) hA) hIq ?_ rfl rfl rfl rfl (fun k _ hk => hfr.2.2.2.2 k hk)
    refine ⟨hsB, k4, ?_, ?_, ?_, ?_, ?_, ?_, ?_, ?_, ?_⟩
    · simp only [hP1, hP2, hP3, hP4, hP5, hP6, hP7, hP8, hP9, hP10, hP11, hP12, hP13, hP14, hP15, hP16, hP17, hP18, hP19, hP20, va_upE, Nat.left_eq_add, Nat.add_eq_left, Nat.add_eq_zero_iff, Nat.reduceEqDiff, Nat.reduceAdd, reduceIte, and_false, false_and, if_false, if_true, reduceCtorEq, k5]
    · simp only [hP1, hP2, hP3, hP4, hP5, hP6, hP7, hP8, hP9, hP10, hP11, hP12, hP13, hP14, hP15, hP16, hP17, hP18, hP19, hP20, va_upE, Nat.left_eq_add, Nat.add_eq_left, Nat.add_eq_zero_iff, Nat.reduceEqDiff, Nat.reduceAdd, reduceIte, and_false, false_and, if_false, if_true, reduceCtorEq, k6]
    · simp only [hP1, hP2, hP3, hP4, hP5, hP6, hP7, hP8, hP9, hP10, hP11, hP12, hP13, hP14, hP15, hP16, hP17, hP18, hP19, hP20, va_upE, Nat.left_eq_add, Nat.add_eq_left, Nat.add_eq_zero_iff, Nat.reduceEqDiff, Nat.reduceAdd, reduceIte, and_false, false_and, if_false, if_true, reduceCtorEq, k7]; rfl
    · simp only [hP1, hP2, hP3, hP4, hP5, hP6, hP7, hP8, hP9, hP10, hP11, hP12, hP13, hP14, hP15, hP16, hP17, hP18, hP19, hP20, va_upE, Nat.left_eq_add, Nat.add_eq_left, Nat.add_eq_zero_iff, Nat.reduceEqDiff, Nat.reduceAdd, reduceIte, and_false, false_and, if_false, if_true, reduceCtorEq, k8]; rfl
    · simp only [hP1, hP2, hP3, hP4, hP5, hP6, hP7, hP8, hP9, hP10, hP11, hP12, hP13, hP14, hP15, hP16, hP17, hP18, hP19, hP20, va_upE, Nat.left_eq_add, Nat.add_eq_left, Nat.add_eq_zero_iff, Nat.reduceEqDiff, Nat.reduceAdd, reduceIte, and_false, false_and, if_false, if_true, reduceCtorEq]; rfl
    · intro i hi; simp only [hP1, hP2, hP3, hP4, hP5, hP6, hP7, hP8, hP9, hP10, hP11, hP12, hP13, hP14, hP15, hP16, hP17, hP18, hP19, hP20, va_upE, Nat.left_eq_add, Nat.add_eq_left, Nat.add_eq_zero_iff, Nat.reduceEqDiff, Nat.reduceAdd, reduceIte, and_false, false_and, if_false, if_true, reduceCtorEq]; exact rK i hi
    · intro i hi; simp only [hP1, hP2, hP3, hP4, hP5, hP6, hP7, hP8, hP9, hP10, hP11, hP12, hP13, hP14, hP15, hP16, hP17, hP18, hP19, hP20, va_upE, Nat.left_eq_add, Nat.add_eq_left, Nat.add_eq_zero_iff, Nat.reduceEqDiff, Nat.reduceAdd, reduceIte, and_false, false_and, if_false, if_true, reduceCtorEq]; exact rW i hi
    · intro i hi; simp only [hP1, hP2, hP3, hP4, hP5, hP6, hP7, hP8, hP9, hP10, hP11, hP12, hP13, hP14, hP15, hP16, hP17, hP18, hP19, hP20, va_upE, Nat.left_eq_add, Nat.add_eq_left, Nat.add_eq_zero_iff, Nat.reduceEqDiff, Nat.reduceAdd, reduceIte, and_false, false_and, if_false, if_true, reduceCtorEq]; exact rM i hi
    · intro i hi; exact absurd hi (Nat.not_lt_zero _)
  | cons y r ih =>
    intro pre A S h x4 Q he hA hIq hB hx hl hQ
    have hB0 := hB
    obtain ⟨⟨t0, t1, t2, t3, t4, t5, t6, t7, t8, t9, t10, t11, t12, t13, t14, t15, t16⟩, k4, k5, k6, k7, k8, k9, rK, rW, rM, rN⟩ := hB
    have s0 := hA.1.1
    obtain ⟨y1, y2, y3⟩ := hx y (List.mem_cons_self ..)
    have hlen : N.length = pre.length + (r.length + 1) := by rw [he, List.length_append, List.length_cons]
    rw [List.length_cons] at hl
    have hy : hI h (a + 5) pre.length = nI y := by
      rw [rN pre.length (by show pre.length < N.length; omega)]
      show nI (N.getD pre.length 0) = _
      rw [he, getD_mid]
    have hk : hL h (a + 2) y = lN (K y) := rK y y1
    have c1 : ¬ N.length ≤ pre.length := by omega
    rw [u_113_7]
    simp (disch := omega) only [B_113_7, nI1T, Nat.left_eq_add, Nat.add_eq_left, Nat.add_eq_zero_iff, and_false, false_and, if_false, if_true, opsN, opsC, pm_1, lg, ls1, ls2, lq, List.length_cons, List.length_nil, cN, cL, callE, retV, retN, pm_pop, pm_cat, List.map_cons, List.map_nil, List.sum_cons, List.sum_nil, Value.category, Option.toList, List.cons_append, List.nil_append, reduceIte, reduceCtorEq, Nat.reduceAdd, Nat.reduceLT, Nat.reduceLeDiff, Nat.reduceSub, Nat.reduceEqDiff, Nat.zero_le, Nat.sub_zero, Nat.le_refl, true_and, and_true, not_true_eq_false, not_false_eq_true, true_or, or_true, lc_eq, lc_ne, lc_lt, lc_ge, lc_gt, lc_le, nI_add, lN_add, nI_leI, nI_ltI, nI_eq, nI_clamp, pk_lLT, pk_lLE, pk_lEQ, pk_sub, vp_inT, nz_eq, nz_lt, nz_ge, nz_gt, nz_le, lz_eq, lz_lt, lz_ge, hP1, hP2, hP3, hP4, hP5, hP6, hP7, hP8, hP9, hP10, hP11, hP12, hP13, hP14, hP15, hP16, hP17, hP18, hP19, hP20, s0, t0, t1, t2, t3, t4, t5, t6, t7, t8, t9, t10, t11, t12, t13, t14, t15, c1, hy, hk]
    refine c109t d hA hIq y2 y3 (by omega) ?_
    intro h1 hA1 hU1 hf1
    have hB1 := isB_fr hf1 (by omega) hB0
    obtain ⟨⟨v0, v1, v2, v3, v4, v5, v6, v7, v8, v9, v10, v11, v12, v13, v14, v15, v16⟩, _⟩ := id hB1
    simp (disch := omega) only [nI1T, Nat.left_eq_add, Nat.add_eq_left, Nat.add_eq_zero_iff, and_false, false_and, if_false, if_true, opsN, opsC, pm_1, lg, ls1, ls2, lq, List.length_cons, List.length_nil, cN, cL, callE, retV, retN, pm_pop, pm_cat, List.map_cons, List.map_nil, List.sum_cons, List.sum_nil, Value.category, Option.toList, List.cons_append, List.nil_append, reduceIte, reduceCtorEq, Nat.reduceAdd, Nat.reduceLT, Nat.reduceLeDiff, Nat.reduceSub, Nat.reduceEqDiff, Nat.zero_le, Nat.sub_zero, Nat.le_refl, true_and, and_true, not_true_eq_false, not_false_eq_true, true_or, or_true, lc_eq, lc_ne, lc_lt, lc_ge, lc_gt, lc_le, nI_add, lN_add, nI_leI, nI_ltI, nI_eq, nI_clamp, pk_lLT, pk_lLE, pk_lEQ, pk_sub, vp_inT, nz_eq, nz_lt, nz_ge, nz_gt, nz_le, lz_eq, lz_lt, lz_ge, hP1, hP2, hP3, hP4, hP5, hP6, hP7, hP8, hP9, hP10, hP11, hP12, hP13, hP14, hP15, hP16, hP17, hP18, hP19, hP20, v0, v1, v2, v3, v4, v5, v6, v7, v8, v9, v10, v11, v12, v13, v14, v15]
    have hB2 := st_isB (i := y) (s := 2) hB1 (.inr rfl)
    have hf2 : fr a (a + 6) h1 (sI h1 (a + 3) (va_up (hI h1 (a + 3)) y (-nI 2))) := fr_sI (fr_refl _ _ _) (by omega) (by omega)
    have hA2 := isB_fr hf2 (by omega) hA1
    have step := ih (pre ++ [y]) (qAdd bits (K y) A) (va_up S y 2) _ (some (.int (nI y))) Q (by rw [List.append_assoc]; exact he) hA2 (qI_add hIq y2 y3 (by omega)) hB2 (fun x hxr => hx x (List.mem_cons_of_mem _ hxr)) (by
      show qC A + 1 + r.length ≤ limit
      omega) (by
      intro h' a1 a2 a3 a4 a5 a6 a7 a8
      refine hQ h' a1 a2 a3 (a4.trans hf1.1) (a5.trans hf1.2.1) (a6.trans hf1.2.2.1) (a7.trans hf1.2.2.2.1) (fun k u1 u2 => ?_)
      have q1 := a8 k u1 u2
      have q2 := hf2.2.2.2.2 k u2
      have q3 := hf1.2.2.2.2 k u1
      exact ⟨q1.1.trans (q2.1.trans q3.1), q1.2.trans (q2.2.trans q3.2)⟩)
    rw [List.length_append] at step
    exact step
theorem c113 (d : Nat) {h : pm_H} {b cap a cap2 bits limit limit2 : Nat} {A B : Qs} {Q : pm_Q} (hd : b + 6 ≤ a ∨ a + 6 ≤ b) (hA : isB h b cap bits limit A) (hIA : qI bits limit A) (hB : isB h a cap2 bits limit2 B) (hIB : qI bits limit2 B)
    (h1 : qC A + (qN B).length ≤ limit) (h2 : ∀ x, x ∈ qN B → qL A ≤ qK B x)
    (hQ : ∀ h', isB h' b cap bits limit (addAll bits (qK B) (qN B) A) → qI bits limit (addAll bits (qK B) (qN B) A) → isB h' a cap2 bits limit2 (qOut B) →
        hT h' = hT h → hN h' = hN h → hR h' = hR h → hn h' = hn h → (∀ k, (k < b ∨ b + 6 ≤ k) → (k < a ∨ a + 6 ≤ k) → hI h' k = hI h k ∧ hL h' k = hL h k) → Q (.inl (some (.int (nI (qN B).length)))) h') :
    pm_M PP (d + 3) 113 [.ref b, .ref a] h Q := by
  have hq := qI_line hIB
  have t0 := hB.1.1
  have k9 := hB.2.2.2.2.2.2.1
  have k4 := hB.2.1
  have hB0 := hB
  obtain ⟨i1, i2, i3, i4, i5, i6, i7, i8, i9, i10, i11, i12⟩ := hIB
  rw [e_113]
  simp (disch := omega) only [u_113_0, B_113_0, nI1T, Nat.left_eq_add, Nat.add_eq_left, Nat.add_eq_zero_iff, and_false, false_and, if_false, if_true, opsN, opsC, pm_1, lg, ls1, ls2, lq, List.length_cons, List.length_nil, cN, cL, callE, retV, retN, pm_pop, pm_cat, List.map_cons, List.map_nil, List.sum_cons, List.sum_nil, Value.category, Option.toList, List.cons_append, List.nil_append, reduceIte, reduceCtorEq, Nat.reduceAdd, Nat.reduceLT, Nat.reduceLeDiff, Nat.reduceSub, Nat.reduceEqDiff, Nat.zero_le, Nat.sub_zero, Nat.le_refl, true_and, and_true, not_true_eq_false, not_false_eq_true, true_or, or_true, lc_eq, lc_ne, lc_lt, lc_ge, lc_gt, lc_le, nI_add, lN_add, nI_leI, nI_ltI, nI_eq, nI_clamp, pk_lLT, pk_lLE, pk_lEQ, pk_sub, vp_inT, nz_eq, nz_lt, nz_ge, nz_gt, nz_le, lz_eq, lz_lt, lz_ge, hP1, hP2, hP3, hP4, hP5, hP6, hP7, hP8, hP9, hP10, hP11, hP12, hP13, hP14, hP15, hP16, hP17, hP18, hP19, hP20, t0, k9]
  exact l113 d (B0 := B) (N := qN B) hd k4 (by omega) rfl i3 i11 (qN B) [] A (qS B) h none Q rfl hA hIA hB0 (fun x hx => ⟨(hq x hx).1, i6 x (hq x hx).1, h2 x hx⟩) h1 hQ
theorem qI_out {bits limit : Nat} {A : Qs} (hI : qI bits limit A) : qI bits limit (qOut A) := by
  have hq := qI_line hI
  obtain ⟨i1, i2, i3, i4, i5, i6, i7, i8, i9, i10, i11, i12⟩ := hI
  have key : ∀ (L : List Nat) (S : Nat → Nat) (x : Nat), (x ∈ L → dropS L S x = 2) ∧ (x ∉ L → dropS L S x = S x) := by
    intro L
    induction L with
    | nil => intro S x; exact ⟨fun q => absurd q List.not_mem_nil, fun _ => rfl⟩
    | cons y r ih =>
      intro S x
      have := ih (va_up S y 2) x
      show (_ → dropS r (va_up S y 2) x = 2) ∧ (_ → dropS r (va_up S y 2) x = S x)
      by_cases hr : x ∈ r
      · exact ⟨fun _ => this.1 hr, fun q => absurd (List.mem_cons_of_mem _ hr) q⟩
      · rw [this.2 hr, va_upE]
        by_cases e : x = y
        · rw [if_pos e]; exact ⟨fun _ => rfl, fun q => absurd (by rw [e]; exact List.mem_cons_self ..) q⟩
        · rw [if_neg e]; exact ⟨fun q => absurd ((List.mem_cons.mp q).resolve_left e) hr, fun _ => rfl⟩
  refine ⟨i1, i2, i3, i4, i5, i6, List.nodup_nil, ?_, List.Pairwise.nil, fun x hx => absurd hx List.not_mem_nil, Nat.zero_le _, ?_⟩
  · intro x
    show x ∈ [] ↔ x < qC A ∧ dropS (qN A) (qS A) x = 0
    refine ⟨fun q => absurd q List.not_mem_nil, fun q => ?_⟩
    by_cases e : x ∈ qN A
    · have := (key (qN A) (qS A) x).1 e; omega
    · have h0 := q.2
      rw [(key (qN A) (qS A) x).2 e] at h0
      exact absurd ((i8 x).mpr ⟨q.1, h0⟩) e
  · intro x hx
    show dropS (qN A) (qS A) x ≤ 2
    by_cases e : x ∈ qN A
    · rw [(key (qN A) (qS A) x).1 e]; exact Nat.le_refl _
    · rw [(key (qN A) (qS A) x).2 e]; exact i12 x hx
/-! the place in a bucket -/
theorem l119 (d : Nat) {h : pm_H} {b cap bits limit i : Nat} {A : Qs} {Q : pm_Q} (hB : isB h b cap bits limit A) (hI : qI bits limit A) (hi : i ∈ qN A)
    (hQ : ∀ pre r, qN A = pre ++ i :: r → i ∉ pre → Q (.inl (some (.int (nI (cntB (qW A) (nI (qW A i)) pre))))) h) :
    ∀ (suf pre : List Nat), qN A = pre ++ suf → i ∈ suf → i ∉ pre → pm_W PP d 119 Q 0 0 14 [some (.ref b), some (.int (nI i)), some (.int (nI (cntB (qW A) (nI (qW A i)) pre))), some (.int (nI pre.length))] [] h := by
  have hq := qI_line hI
  obtain ⟨⟨s0, s1, s2, s3, s4, s5, s6, s7, s8, s9, s10, s11, s12, s13, s14, s15, s16⟩, f4, f5, f6, f7, f8, f9, rK, rW, rM, rN⟩ := hB
  obtain ⟨i1, i2, i3, i4, i5, i6, i7, i8, i9, i10, i11, i12⟩ := hI
  obtain ⟨x1, x2, x3⟩ := hq i hi
  have hwi := rW i x1
  rw [wv_0 x2] at hwi
  intro suf
  induction suf with
  | nil => intro pre _ hm; exact absurd hm List.not_mem_nil
  | cons y r ih =>
    intro pre he hm hn
    have hlen : (qN A).length = pre.length + (r.length + 1) := by rw [he, List.length_append, List.length_cons]
    have hy := rN pre.length (by omega)
    rw [he, getD_mid] at hy
    obtain ⟨y1, y2, y3⟩ := hq y (by rw [he]; exact List.mem_append_right _ (List.mem_cons_self ..))
    have hw := rW y y1
    rw [wv_0 y2] at hw
    have c1 : ¬ (qN A).length ≤ pre.length := by omega
    rw [u_119_14]
    by_cases e : y = i
    · have := hQ pre r (by rw [← e]; exact he) hn
      simp (disch := omega) only [B_119_14, u_119_61, B_119_61, nI1T, Nat.left_eq_add, Nat.add_eq_left, Nat.add_eq_zero_iff, and_false, false_and, if_false, if_true, opsN, opsC, pm_1, lg, ls1, ls2, lq, List.length_cons, List.length_nil, cN, cL, callE, retV, retN, pm_pop, pm_cat, List.map_cons, List.map_nil, List.sum_cons, List.sum_nil, Value.category, Option.toList, List.cons_append, List.nil_append, reduceIte, reduceCtorEq, Nat.reduceAdd, Nat.reduceLT, Nat.reduceLeDiff, Nat.reduceSub, Nat.reduceEqDiff, Nat.zero_le, Nat.sub_zero, Nat.le_refl, true_and, and_true, not_true_eq_false, not_false_eq_true, true_or, or_true, lc_eq, lc_ne, lc_lt, lc_ge, lc_gt, lc_le, nI_add, lN_add, nI_leI, nI_ltI, nI_eq, nI_clamp, pk_lLT, pk_lLE, pk_lEQ, pk_sub, vp_inT, nz_eq, nz_lt, nz_ge, nz_gt, nz_le, lz_eq, lz_lt, lz_ge, hP1, hP2, hP3, hP4, hP5, hP6, hP7, hP8, hP9, hP10, hP11, hP12, hP13, hP14, hP15, hP16, hP17, hP18, hP19, hP20, s0, s1, s2, s3, s4, s5, s6, s7, s8, s9, s10, s11, s12, s13, s14, s15, f5, f6, f7, f8, f9, c1, hy, e, this]
    · have step := ih (pre ++ [y]) (by rw [List.append_assoc]; exact he) ((List.mem_cons.mp hm).resolve_left (Ne.symm e)) (fun q => by
        rcases List.mem_append.mp q with z | z
        · exact hn z
        · exact e (List.mem_singleton.mp z).symm)
      rw [List.length_append, cnt_app] at step
      have ec : cntB (qW A) (nI (qW A i)) [y] = if nI (qW A y) = nI (qW A i) then 1 else 0 := rfl
      by_cases w : qW A y = qW A i
      · rw [ec, if_pos (by rw [w])] at step
        simp (disch := omega) only [B_119_14, u_119_55, B_119_55, nI1T, Nat.left_eq_add, Nat.add_eq_left, Nat.add_eq_zero_iff, and_false, false_and, if_false, if_true, opsN, opsC, pm_1, lg, ls1, ls2, lq, List.length_cons, List.length_nil, cN, cL, callE, retV, retN, pm_pop, pm_cat, List.map_cons, List.map_nil, List.sum_cons, List.sum_nil, Value.category, Option.toList, List.cons_append, List.nil_append, reduceIte, reduceCtorEq, Nat.reduceAdd, Nat.reduceLT, Nat.reduceLeDiff, Nat.reduceSub, Nat.reduceEqDiff, Nat.zero_le, Nat.sub_zero, Nat.le_refl, true_and, and_true, not_true_eq_false, not_false_eq_true, true_or, or_true, lc_eq, lc_ne, lc_lt, lc_ge, lc_gt, lc_le, nI_add, lN_add, nI_leI, nI_ltI, nI_eq, nI_clamp, pk_lLT, pk_lLE, pk_lEQ, pk_sub, vp_inT, nz_eq, nz_lt, nz_ge, nz_gt, nz_le, lz_eq, lz_lt, lz_ge, hP1, hP2, hP3, hP4, hP5, hP6, hP7, hP8, hP9, hP10, hP11, hP12, hP13, hP14, hP15, hP16, hP17, hP18, hP19, hP20, s0, s1, s2, s3, s4, s5, s6, s7, s8, s9, s10, s11, s12, s13, s14, s15, f5, f6, f7, f8, f9, c1, hy, e, hw, hwi, w]
        exact step
      · rw [ec, if_neg (fun q => w ((nI_eq (by omega) (by omega)).mp q)), Nat.add_zero] at step
        simp (disch := omega) only [B_119_14, u_119_55, B_119_55, nI1T, Nat.left_eq_add, Nat.add_eq_left, Nat.add_eq_zero_iff, and_false, false_and, if_false, if_true, opsN, opsC, pm_1, lg, ls1, ls2, lq, List.length_cons, List.length_nil, cN, cL, callE, retV, retN, pm_pop, pm_cat, List.map_cons, List.map_nil, List.sum_cons, List.sum_nil, Value.category, Option.toList, List.cons_append, List.nil_append, reduceIte, reduceCtorEq, Nat.reduceAdd, Nat.reduceLT, Nat.reduceLeDiff, Nat.reduceSub, Nat.reduceEqDiff, Nat.zero_le, Nat.sub_zero, Nat.le_refl, true_and, and_true, not_true_eq_false, not_false_eq_true, true_or, or_true, lc_eq, lc_ne, lc_lt, lc_ge, lc_gt, lc_le, nI_add, lN_add, nI_leI, nI_ltI, nI_eq, nI_clamp, pk_lLT, pk_lLE, pk_lEQ, pk_sub, vp_inT, nz_eq, nz_lt, nz_ge, nz_gt, nz_le, lz_eq, lz_lt, lz_ge, hP1, hP2, hP3, hP4, hP5, hP6, hP7, hP8, hP9, hP10, hP11, hP12, hP13, hP14, hP15, hP16, hP17, hP18, hP19, hP20, s0, s1, s2, s3, s4, s5, s6, s7, s8, s9, s10, s11, s12, s13, s14, s15, f5, f6, f7, f8, f9, c1, hy, e, hw, hwi, w]
        exact step
theorem c119t (d : Nat) {h : pm_H} {b cap bits limit i : Nat} {A : Qs} {Q : pm_Q} (hB : isB h b cap bits limit A) (hI : qI bits limit A) (hi : i ∈ qN A)
    (hQ : ∀ pre r, qN A = pre ++ i :: r → i ∉ pre → Q (.inl (some (.int (nI (cntB (qW A) (nI (qW A i)) pre))))) h) : pm_M PP (d + 2) 119 [.ref b, .int (nI i)] h Q := by
  have s0 := hB.1.1
  obtain ⟨x1, x2, x3⟩ := qI_line hI i hi
  rw [e_119]
  simp (disch := omega) only [u_119_0, B_119_0, nI1T, Nat.left_eq_add, Nat.add_eq_left, Nat.add_eq_zero_iff, and_false, false_and, if_false, if_true, opsN, opsC, pm_1, lg, ls1, ls2, lq, List.length_cons, List.length_nil, cN, cL, callE, retV, retN, pm_pop, pm_cat, List.map_cons, List.map_nil, List.sum_cons, List.sum_nil, Value.category, Option.toList, List.cons_append, List.nil_append, reduceIte, reduceCtorEq, Nat.reduceAdd, Nat.reduceLT, Nat.reduceLeDiff, Nat.reduceSub, Nat.reduceEqDiff, Nat.zero_le, Nat.sub_zero, Nat.le_refl, true_and, and_true, not_true_eq_false, not_false_eq_true, true_or, or_true, lc_eq, lc_ne, lc_lt, lc_ge, lc_gt, lc_le, nI_add, lN_add, nI_leI, nI_ltI, nI_eq, nI_clamp, pk_lLT, pk_lLE, pk_lEQ, pk_sub, vp_inT, nz_eq, nz_lt, nz_ge, nz_gt, nz_le, lz_eq, lz_lt, lz_ge, hP1, hP2, hP3, hP4, hP5, hP6, hP7, hP8, hP9, hP10, hP11, hP12, hP13, hP14, hP15, hP16, hP17, hP18, hP19, hP20, s0]
  refine c105t d hB hI x1 x2 ?_
  simp (disch := omega) only [u_119_10, B_119_10, nI1T, Nat.left_eq_add, Nat.add_eq_left, Nat.add_eq_zero_iff, and_false, false_and, if_false, if_true, opsN, opsC, pm_1, lg, ls1, ls2, lq, List.length_cons, List.length_nil, cN, cL, callE, retV, retN, pm_pop, pm_cat, List.map_cons, List.map_nil, List.sum_cons, List.sum_nil, Value.category, Option.toList, List.cons_append, List.nil_append, reduceIte, reduceCtorEq, Nat.reduceAdd, Nat.reduceLT, Nat.reduceLeDiff, Nat.reduceSub, Nat.reduceEqDiff, Nat.zero_le, Nat.sub_zero, Nat.le_refl, true_and, and_true, not_true_eq_false, not_false_eq_true, true_or, or_true, lc_eq, lc_ne, lc_lt, lc_ge, lc_gt, lc_le, nI_add, lN_add, nI_leI, nI_ltI, nI_eq, nI_clamp, pk_lLT, pk_lLE, pk_lEQ, pk_sub, vp_inT, nz_eq, nz_lt, nz_ge, nz_gt, nz_le, lz_eq, lz_lt, lz_ge, hP1, hP2, hP3, hP4, hP5, hP6, hP7, hP8, hP9, hP10, hP11, hP12, hP13, hP14, hP15, hP16, hP17, hP18, hP19, hP20]
  exact l119 (d + 1) hB hI hi hQ (qN A) [] rfl hi List.not_mem_nil
theorem c119f (d : Nat) {h : pm_H} {b cap bits limit i : Nat} {A : Qs} {Q : pm_Q} (hB : isB h b cap bits limit A) (hI : qI bits limit A) (hi : i < qC A) (hn : ¬ qS A i = 0) (hQ : Q (.inl (some (.int (-nI 1)))) h) : pm_M PP (d + 2) 119 [.ref b, .int (nI i)] h Q := by
  have s0 := hB.1.1
  rw [e_119]
  simp (disch := omega) only [u_119_0, B_119_0, nI1T, Nat.left_eq_add, Nat.add_eq_left, Nat.add_eq_zero_iff, and_false, false_and, if_false, if_true, opsN, opsC, pm_1, lg, ls1, ls2, lq, List.length_cons, List.length_nil, cN, cL, callE, retV, retN, pm_pop, pm_cat, List.map_cons, List.map_nil, List.sum_cons, List.sum_nil, Value.category, Option.toList, List.cons_append, List.nil_append, reduceIte, reduceCtorEq, Nat.reduceAdd, Nat.reduceLT, Nat.reduceLeDiff, Nat.reduceSub, Nat.reduceEqDiff, Nat.zero_le, Nat.sub_zero, Nat.le_refl, true_and, and_true, not_true_eq_false, not_false_eq_true, true_or, or_true, lc_eq, lc_ne, lc_lt, lc_ge, lc_gt, lc_le, nI_add, lN_add, nI_leI, nI_ltI, nI_eq, nI_clamp, pk_lLT, pk_lLE, pk_lEQ, pk_sub, vp_inT, nz_eq, nz_lt, nz_ge, nz_gt, nz_le, lz_eq, lz_lt, lz_ge, hP1, hP2, hP3, hP4, hP5, hP6, hP7, hP8, hP9, hP10, hP11, hP12, hP13, hP14, hP15, hP16, hP17, hP18, hP19, hP20, s0]
  refine c105f d hB hI hi hn ?_
  simp (disch := omega) only [u_119_10, B_119_10, nI1T, Nat.left_eq_add, Nat.add_eq_left, Nat.add_eq_zero_iff, and_false, false_and, if_false, if_true, opsN, opsC, pm_1, lg, ls1, ls2, lq, List.length_cons, List.length_nil, cN, cL, callE, retV, retN, pm_pop, pm_cat, List.map_cons, List.map_nil, List.sum_cons, List.sum_nil, Value.category, Option.toList, List.cons_append, List.nil_append, reduceIte, reduceCtorEq, Nat.reduceAdd, Nat.reduceLT, Nat.reduceLeDiff, Nat.reduceSub, Nat.reduceEqDiff, Nat.zero_le, Nat.sub_zero, Nat.le_refl, true_and, and_true, not_true_eq_false, not_false_eq_true, true_or, or_true, lc_eq, lc_ne, lc_lt, lc_ge, lc_gt, lc_le, nI_add, lN_add, nI_leI, nI_ltI, nI_eq, nI_clamp, pk_lLT, pk_lLE, pk_lEQ, pk_sub, vp_inT, nz_eq, nz_lt, nz_ge, nz_gt, nz_le, lz_eq, lz_lt, lz_ge, hP1, hP2, hP3, hP4, hP5, hP6, hP7, hP8, hP9, hP10, hP11, hP12, hP13, hP14, hP15, hP16, hP17, hP18, hP19, hP20]
  exact hQ
