/-! ===== fills, empty, restart, copy ===== -/
theorem l3003 (d : Nat) {h : pm_H} {a n : Nat} {v : Int64} {Q : pm_Q} (ht : hT h a = 101) (hn : hN h a = n) (hn2 : n < 2 ^ 31) (hQ : ∀ g, (∀ j, j < n → g j = v) → (∀ j, n ≤ j → g j = hL h a j) → Q (.inl none) (sL h a g)) :
    ∀ (k i : Nat) (g : Nat → Int64), k + i = n → (∀ j, j < i → g j = v) → (∀ j, i ≤ j → g j = hL h a j) →
    pm_W PP d 3003 Q 0 0 6 [some (.ref a), some (.long v), none, some (.int (nI i)), some (.int (nI n))] [] (sL h a g) := by
  intro k
  induction k with
  | zero =>
    intro i g hk g1 g2
    have e : i = n := by omega
    subst e
    have c : i ≤ i := Nat.le_refl _
    rw [u_3003_6]
    simp (disch := omega) only [B_3003_6, u_3003_22, B_3003_22, nI1T, Nat.left_eq_add, Nat.add_eq_left, Nat.add_eq_zero_iff, and_false, false_and, if_false, if_true, opsN, opsC, pm_1, lg, ls1, ls2, lq, List.length_cons, List.length_nil, cN, cL, callE, retV, retN, pm_pop, pm_cat, List.map_cons, List.map_nil, List.sum_cons, List.sum_nil, Value.category, Option.toList, List.cons_append, List.nil_append, reduceIte, reduceCtorEq, Nat.reduceAdd, Nat.reduceLT, Nat.reduceLeDiff, Nat.reduceSub, Nat.reduceEqDiff, Nat.zero_le, Nat.sub_zero, Nat.le_refl, true_and, and_true, not_true_eq_false, not_false_eq_true, true_or, or_true, lc_eq, lc_ne, lc_lt, lc_ge, lc_gt, lc_le, nI_add, lN_add, nI_leI, nI_ltI, nI_eq, nI_clamp, pk_lLT, pk_lLE, pk_lEQ, pk_sub, vp_inT, nz_eq, nz_lt, nz_ge, nz_gt, nz_le, lz_eq, lz_lt, lz_ge, hP1, hP2, hP3, hP4, hP5, hP6, hP7, hP8, hP9, hP10, hP11, hP12, hP13, hP14, hP15, hP16, hP17, hP18, hP19, hP20, ht, hn, c]
    exact hQ g g1 g2
  | succ k ih =>
    intro i g hk g1 g2
    have c : ¬ n ≤ i := by omega
    rw [u_3003_6]
    simp (disch := omega) only [B_3003_6, nI1T, Nat.left_eq_add, Nat.add_eq_left, Nat.add_eq_zero_iff, and_false, false_and, if_false, if_true, opsN, opsC, pm_1, lg, ls1, ls2, lq, List.length_cons, List.length_nil, cN, cL, callE, retV, retN, pm_pop, pm_cat, List.map_cons, List.map_nil, List.sum_cons, List.sum_nil, Value.category, Option.toList, List.cons_append, List.nil_append, reduceIte, reduceCtorEq, Nat.reduceAdd, Nat.reduceLT, Nat.reduceLeDiff, Nat.reduceSub, Nat.reduceEqDiff, Nat.zero_le, Nat.sub_zero, Nat.le_refl, true_and, and_true, not_true_eq_false, not_false_eq_true, true_or, or_true, lc_eq, lc_ne, lc_lt, lc_ge, lc_gt, lc_le, nI_add, lN_add, nI_leI, nI_ltI, nI_eq, nI_clamp, pk_lLT, pk_lLE, pk_lEQ, pk_sub, vp_inT, nz_eq, nz_lt, nz_ge, nz_gt, nz_le, lz_eq, lz_lt, lz_ge, hP1, hP2, hP3, hP4, hP5, hP6, hP7, hP8, hP9, hP10, hP11, hP12, hP13, hP14, hP15, hP16, hP17, hP18, hP19, hP20, ht, hn, c, va_upE, sL_sL]
    refine ih (i + 1) _ (by omega) (fun j hj => ?_) (fun j hj => ?_)
    · rw [va_upE]; split
      · rfl
      · exact g1 j (by omega)
    · rw [va_up_ne _ _ (by omega)]; exact g2 j (by omega)
theorem sL_same (h : pm_H) (k : Nat) : sL h k (hL h k) = h := by
  have : va_up h.2.1 k (h.2.1 k) = h.2.1 := by
    funext j
    unfold va_up
    split
    · rename_i e; rw [e]
    · rfl
  show (h.1, va_up h.2.1 k (h.2.1 k), h.2.2) = h
  rw [this]
theorem c3003 (d : Nat) {h : pm_H} {a n : Nat} {v : Int64} {Q : pm_Q} (ht : hT h a = 101) (hn : hN h a = n) (hn2 : n < 2 ^ 31) (hQ : ∀ g, (∀ j, j < n → g j = v) → (∀ j, n ≤ j → g j = hL h a j) → Q (.inl none) (sL h a g)) :
    pm_M PP (d + 1) 3003 [.ref a, .long v] h Q := by
  rw [e_3003]
  simp (disch := omega) only [u_3003_0, B_3003_0, nI1T, Nat.left_eq_add, Nat.add_eq_left, Nat.add_eq_zero_iff, and_false, false_and, if_false, if_true, opsN, opsC, pm_1, lg, ls1, ls2, lq, List.length_cons, List.length_nil, cN, cL, callE, retV, retN, pm_pop, pm_cat, List.map_cons, List.map_nil, List.sum_cons, List.sum_nil, Value.category, Option.toList, List.cons_append, List.nil_append, reduceIte, reduceCtorEq, Nat.reduceAdd, Nat.reduceLT, Nat.reduceLeDiff, Nat.reduceSub, Nat.reduceEqDiff, Nat.zero_le, Nat.sub_zero, Nat.le_refl, true_and, and_true, not_true_eq_false, not_false_eq_true, true_or, or_true, lc_eq, lc_ne, lc_lt, lc_ge, lc_gt, lc_le, nI_add, lN_add, nI_leI, nI_ltI, nI_eq, nI_clamp, pk_lLT, pk_lLE, pk_lEQ, pk_sub, vp_inT, nz_eq, nz_lt, nz_ge, nz_gt, nz_le, lz_eq, lz_lt, lz_ge, hP1, hP2, hP3, hP4, hP5, hP6, hP7, hP8, hP9, hP10, hP11, hP12, hP13, hP14, hP15, hP16, hP17, hP18, hP19, hP20, ht, hn]
  have := l3003 d ht hn hn2 hQ n 0 (hL h a) rfl (fun j hj => absurd hj (Nat.not_lt_zero _)) (fun j _ => rfl)
  rw [sL_same] at this
  exact this
theorem l3004 (d : Nat) {h : pm_H} {a n : Nat} {v : Int32} {Q : pm_Q} (ht : hT h a = 100) (hn : hN h a = n) (hn2 : n < 2 ^ 31) (hQ : ∀ g, (∀ j, j < n → g j = v) → (∀ j, n ≤ j → g j = hI h a j) → Q (.inl none) (sI h a g)) :
    ∀ (k i : Nat) (g : Nat → Int32), k + i = n → (∀ j, j < i → g j = v) → (∀ j, i ≤ j → g j = hI h a j) →
    pm_W PP d 3004 Q 0 0 5 [some (.ref a), some (.int v), some (.int (nI i)), some (.int (nI n))] [] (sI h a g) := by
  intro k
  induction k with
  | zero =>
    intro i g hk g1 g2
    have e : i = n := by omega
    subst e
    have c : i ≤ i := Nat.le_refl _
    rw [u_3004_5]
    simp (disch := omega) only [B_3004_5, u_3004_20, B_3004_20, nI1T, Nat.left_eq_add, Nat.add_eq_left, Nat.add_eq_zero_iff, and_false, false_and, if_false, if_true, opsN, opsC, pm_1, lg, ls1, ls2, lq, List.length_cons, List.length_nil, cN, cL, callE, retV, retN, pm_pop, pm_cat, List.map_cons, List.map_nil, List.sum_cons, List.sum_nil, Value.category, Option.toList, List.cons_append, List.nil_append, reduceIte, reduceCtorEq, Nat.reduceAdd, Nat.reduceLT, Nat.reduceLeDiff, Nat.reduceSub, Nat.reduceEqDiff, Nat.zero_le, Nat.sub_zero, Nat.le_refl, true_and, and_true, not_true_eq_false, not_false_eq_true, true_or, or_true, lc_eq, lc_ne, lc_lt, lc_ge, lc_gt, lc_le, nI_add, lN_add, nI_leI, nI_ltI, nI_eq, nI_clamp, pk_lLT, pk_lLE, pk_lEQ, pk_sub, vp_inT, nz_eq, nz_lt, nz_ge, nz_gt, nz_le, lz_eq, lz_lt, lz_ge, hP1, hP2, hP3, hP4, hP5, hP6, hP7, hP8, hP9, hP10, hP11, hP12, hP13, hP14, hP15, hP16, hP17, hP18, hP19, hP20, ht, hn, c]
    exact hQ g g1 g2
  | succ k ih =>
    intro i g hk g1 g2
    have c : ¬ n ≤ i := by omega
    rw [u_3004_5]
    simp (disch := omega) only [B_3004_5, nI1T, Nat.left_eq_add, Nat.add_eq_left, Nat.add_eq_zero_iff, and_false, false_and, if_false, if_true, opsN, opsC, pm_1, lg, ls1, ls2, lq, List.length_cons, List.length_nil, cN, cL, callE, retV, retN, pm_pop, pm_cat, List.map_cons, List.map_nil, List.sum_cons, List.sum_nil, Value.category, Option.toList, List.cons_append, List.nil_append, reduceIte, reduceCtorEq, Nat.reduceAdd, Nat.reduceLT, Nat.reduceLeDiff, Nat.reduceSub, Nat.reduceEqDiff, Nat.zero_le, Nat.sub_zero, Nat.le_refl, true_and, and_true, not_true_eq_false, not_false_eq_true, true_or, or_true, lc_eq, lc_ne, lc_lt, lc_ge, lc_gt, lc_le, nI_add, lN_add, nI_leI, nI_ltI, nI_eq, nI_clamp, pk_lLT, pk_lLE, pk_lEQ, pk_sub, vp_inT, nz_eq, nz_lt, nz_ge, nz_gt, nz_le, lz_eq, lz_lt, lz_ge, hP1, hP2, hP3, hP4, hP5, hP6, hP7, hP8, hP9, hP10, hP11, hP12, hP13, hP14, hP15, hP16, hP17, hP18, hP19, hP20, ht, hn, c, va_upE, sI_sI]
    refine ih (i + 1) _ (by omega) (fun j hj => ?_) (fun j hj => ?_)
    · rw [va_upE]; split
      · rfl
      · exact g1 j (by omega)
    · rw [va_up_ne _ _ (by omega)]; exact g2 j (by omega)
theorem c3004 (d : Nat) {h : pm_H} {a n : Nat} {v : Int32} {Q : pm_Q} (ht : hT h a = 100) (hn : hN h a = n) (hn2 : n < 2 ^ 31) (hQ : ∀ g, (∀ j, j < n → g j = v) → (∀ j, n ≤ j → g j = hI h a j) → Q (.inl none) (sI h a g)) :
    pm_M PP (d + 1) 3004 [.ref a, .int v] h Q := by
  rw [e_3004]
  simp (disch := omega) only [u_3004_0, B_3004_0, nI1T, Nat.left_eq_add, Nat.add_eq_left, Nat.add_eq_zero_iff, and_false, false_and, if_false, if_true, opsN, opsC, pm_1, lg, ls1, ls2, lq, List.length_cons, List.length_nil, cN, cL, callE, retV, retN, pm_pop, pm_cat, List.map_cons, List.map_nil, List.sum_cons, List.sum_nil, Value.category, Option.toList, List.cons_append, List.nil_append, reduceIte, reduceCtorEq, Nat.reduceAdd, Nat.reduceLT, Nat.reduceLeDiff, Nat.reduceSub, Nat.reduceEqDiff, Nat.zero_le, Nat.sub_zero, Nat.le_refl, true_and, and_true, not_true_eq_false, not_false_eq_true, true_or, or_true, lc_eq, lc_ne, lc_lt, lc_ge, lc_gt, lc_le, nI_add, lN_add, nI_leI, nI_ltI, nI_eq, nI_clamp, pk_lLT, pk_lLE, pk_lEQ, pk_sub, vp_inT, nz_eq, nz_lt, nz_ge, nz_gt, nz_le, lz_eq, lz_lt, lz_ge, hP1, hP2, hP3, hP4, hP5, hP6, hP7, hP8, hP9, hP10, hP11, hP12, hP13, hP14, hP15, hP16, hP17, hP18, hP19, hP20, ht, hn]
  have := l3004 d ht hn hn2 hQ n 0 (hI h a) rfl (fun j hj => absurd hj (Nat.not_lt_zero _)) (fun j _ => rfl)
  rw [sI_same] at this
  exact this
theorem c102 (d : Nat) {h : pm_H} {b cap bits limit : Nat} {Q : pm_Q} (hs : bS h b cap) (f4 : limit ≤ cap) (f5 : hI h b 5 = nI limit) (f6 : hI h b 6 = nI bits)
    (hQ : ∀ h', (∀ K M W S, isB h' b cap bits limit (0, 0, K, M, W, S, [])) → isF h' b (fun _ => false) → fr b (b + 6) h h' → Q (.inl (some (.int (hI h b 9)))) h') : pm_M PP (d + 2) 102 [.ref b] h Q := by
  obtain ⟨s0, s1, s2, s3, s4, s5, s6, s7, s8, s9, s10, s11, s12, s13, s14, s15, s16⟩ := id hs
  rw [e_102]
  simp (disch := omega) only [u_102_0, B_102_0, nI1T, Nat.left_eq_add, Nat.add_eq_left, Nat.add_eq_zero_iff, and_false, false_and, if_false, if_true, opsN, opsC, pm_1, lg, ls1, ls2, lq, List.length_cons, List.length_nil, cN, cL, callE, retV, retN, pm_pop, pm_cat, List.map_cons, List.map_nil, List.sum_cons, List.sum_nil, Value.category, Option.toList, List.cons_append, List.nil_append, reduceIte, reduceCtorEq, Nat.reduceAdd, Nat.reduceLT, Nat.reduceLeDiff, Nat.reduceSub, Nat.reduceEqDiff, Nat.zero_le, Nat.sub_zero, Nat.le_refl, true_and, and_true, not_true_eq_false, not_false_eq_true, true_or, or_true, lc_eq, lc_ne, lc_lt, lc_ge, lc_gt, lc_le, nI_add, lN_add, nI_leI, nI_ltI, nI_eq, nI_clamp, pk_lLT, pk_lLE, pk_lEQ, pk_sub, vp_inT, nz_eq, nz_lt, nz_ge, nz_gt, nz_le, lz_eq, lz_lt, lz_ge, hP1, hP2, hP3, hP4, hP5, hP6, hP7, hP8, hP9, hP10, hP11, hP12, hP13, hP14, hP15, hP16, hP17, hP18, hP19, hP20, s0, s1, s2, s3, s4, s5, s6, s7, s8, s9, s10, s11, s12, s13, s14, s15, va_upE]
  refine c3003 d (n := 3) s6 s11 (by decide) ?_
  intro g g1 g2
  simp (disch := omega) only [nI1T, Nat.left_eq_add, Nat.add_eq_left, Nat.add_eq_zero_iff, and_false, false_and, if_false, if_true, opsN, opsC, pm_1, lg, ls1, ls2, lq, List.length_cons, List.length_nil, cN, cL, callE, retV, retN, pm_pop, pm_cat, List.map_cons, List.map_nil, List.sum_cons, List.sum_nil, Value.category, Option.toList, List.cons_append, List.nil_append, reduceIte, reduceCtorEq, Nat.reduceAdd, Nat.reduceLT, Nat.reduceLeDiff, Nat.reduceSub, Nat.reduceEqDiff, Nat.zero_le, Nat.sub_zero, Nat.le_refl, true_and, and_true, not_true_eq_false, not_false_eq_true, true_or, or_true, lc_eq, lc_ne, lc_lt, lc_ge, lc_gt, lc_le, nI_add, lN_add, nI_leI, nI_ltI, nI_eq, nI_clamp, pk_lLT, pk_lLE, pk_lEQ, pk_sub, vp_inT, nz_eq, nz_lt, nz_ge, nz_gt, nz_le, lz_eq, lz_lt, lz_ge, hP1, hP2, hP3, hP4, hP5, hP6, hP7, hP8, hP9, hP10, hP11, hP12, hP13, hP14, hP15, hP16, hP17, hP18, hP19, hP20]
  refine hQ _ (fun K M W S => ?_) ?_ ?_
  · refine ⟨hs, f4, ?_, ?_, ?_, ?_, ?_, fun i hi => absurd hi (Nat.not_lt_zero _), fun i hi => absurd hi (Nat.not_lt_zero _), fun i hi => absurd hi (Nat.not_lt_zero _), fun i hi => absurd hi (Nat.not_lt_zero _)⟩
    · simp only [hP1, hP2, hP3, hP4, hP5, hP6, hP7, hP8, hP9, hP10, hP11, hP12, hP13, hP14, hP15, hP16, hP17, hP18, hP19, hP20, va_upE, Nat.left_eq_add, Nat.add_eq_left, Nat.add_eq_zero_iff, Nat.reduceEqDiff, Nat.reduceAdd, reduceIte, and_false, false_and, if_false, if_true, reduceCtorEq, f5]
    · simp only [hP1, hP2, hP3, hP4, hP5, hP6, hP7, hP8, hP9, hP10, hP11, hP12, hP13, hP14, hP15, hP16, hP17, hP18, hP19, hP20, va_upE, Nat.left_eq_add, Nat.add_eq_left, Nat.add_eq_zero_iff, Nat.reduceEqDiff, Nat.reduceAdd, reduceIte, and_false, false_and, if_false, if_true, reduceCtorEq, f6]
    · simp only [hP1, hP2, hP3, hP4, hP5, hP6, hP7, hP8, hP9, hP10, hP11, hP12, hP13, hP14, hP15, hP16, hP17, hP18, hP19, hP20, va_upE, Nat.left_eq_add, Nat.add_eq_left, Nat.add_eq_zero_iff, Nat.reduceEqDiff, Nat.reduceAdd, reduceIte, and_false, false_and, if_false, if_true, reduceCtorEq]; rfl
    · simp only [hP1, hP2, hP3, hP4, hP5, hP6, hP7, hP8, hP9, hP10, hP11, hP12, hP13, hP14, hP15, hP16, hP17, hP18, hP19, hP20, va_upE, Nat.left_eq_add, Nat.add_eq_left, Nat.add_eq_zero_iff, Nat.reduceEqDiff, Nat.reduceAdd, reduceIte, and_false, false_and, if_false, if_true, reduceCtorEq]; rfl
    · simp only [hP1, hP2, hP3, hP4, hP5, hP6, hP7, hP8, hP9, hP10, hP11, hP12, hP13, hP14, hP15, hP16, hP17, hP18, hP19, hP20, va_upE, Nat.left_eq_add, Nat.add_eq_left, Nat.add_eq_zero_iff, Nat.reduceEqDiff, Nat.reduceAdd, reduceIte, and_false, false_and, if_false, if_true, reduceCtorEq]; rfl
  · intro k hk
    simp only [hP1, hP2, hP3, hP4, hP5, hP6, hP7, hP8, hP9, hP10, hP11, hP12, hP13, hP14, hP15, hP16, hP17, hP18, hP19, hP20, va_upE, Nat.left_eq_add, Nat.add_eq_left, Nat.add_eq_zero_iff, Nat.reduceEqDiff, Nat.reduceAdd, reduceIte, and_false, false_and, if_false, if_true, reduceCtorEq]
    rw [g1 _ (by omega)]
    show (BitVec.ofNat 64 0).getLsbD _ = false
    exact BitVec.getLsbD_zero
  · exact fr_sL (fr_sI (fr_sI (fr_sL (fr_refl _ _ _) (by omega) (by omega)) (by omega) (by omega)) (by omega) (by omega)) (by omega) (by omega)
theorem c101 (d : Nat) {h : pm_H} {b cap bits most : Nat} {Q : pm_Q} (hs : bS h b cap) (hb : bits ≤ 4) (hm : most ≤ cap)
    (hQ : ∀ h', (∀ K M W S, isB h' b cap bits most (0, 0, K, M, W, S, [])) → isF h' b (fun _ => false) → fr b (b + 6) h h' → Q (.inl none) h') : pm_M PP (d + 3) 101 [.ref b, .int (nI bits), .int (nI most)] h Q := by
  obtain ⟨s0, s1, s2, s3, s4, s5, s6, s7, s8, s9, s10, s11, s12, s13, s14, s15, s16⟩ := id hs
  have c : (if cap < most then cap else most) = most := if_neg (by omega)
  rw [e_101]
  simp (disch := omega) only [u_101_0, B_101_0, nI1T, Nat.left_eq_add, Nat.add_eq_left, Nat.add_eq_zero_iff, and_false, false_and, if_false, if_true, opsN, opsC, pm_1, lg, ls1, ls2, lq, List.length_cons, List.length_nil, cN, cL, callE, retV, retN, pm_pop, pm_cat, List.map_cons, List.map_nil, List.sum_cons, List.sum_nil, Value.category, Option.toList, List.cons_append, List.nil_append, reduceIte, reduceCtorEq, Nat.reduceAdd, Nat.reduceLT, Nat.reduceLeDiff, Nat.reduceSub, Nat.reduceEqDiff, Nat.zero_le, Nat.sub_zero, Nat.le_refl, true_and, and_true, not_true_eq_false, not_false_eq_true, true_or, or_true, lc_eq, lc_ne, lc_lt, lc_ge, lc_gt, lc_le, nI_add, lN_add, nI_leI, nI_ltI, nI_eq, nI_clamp, pk_lLT, pk_lLE, pk_lEQ, pk_sub, vp_inT, nz_eq, nz_lt, nz_ge, nz_gt, nz_le, lz_eq, lz_lt, lz_ge, hP1, hP2, hP3, hP4, hP5, hP6, hP7, hP8, hP9, hP10, hP11, hP12, hP13, hP14, hP15, hP16, hP17, hP18, hP19, hP20, s0, s1, s2, s3, s4, s5, s6, s7, s8, s9, s10, s11, s12, s13, s14, s15, va_upE, ite_nI, c]
  refine c102 d (limit := most) (bits := bits) hs hm ?_ ?_ ?_
  · simp only [hP1, hP2, hP3, hP4, hP5, hP6, hP7, hP8, hP9, hP10, hP11, hP12, hP13, hP14, hP15, hP16, hP17, hP18, hP19, hP20, va_upE, Nat.left_eq_add, Nat.add_eq_left, Nat.add_eq_zero_iff, Nat.reduceEqDiff, Nat.reduceAdd, reduceIte, and_false, false_and, if_false, if_true, reduceCtorEq]
  · simp only [hP1, hP2, hP3, hP4, hP5, hP6, hP7, hP8, hP9, hP10, hP11, hP12, hP13, hP14, hP15, hP16, hP17, hP18, hP19, hP20, va_upE, Nat.left_eq_add, Nat.add_eq_left, Nat.add_eq_zero_iff, Nat.reduceEqDiff, Nat.reduceAdd, reduceIte, and_false, false_and, if_false, if_true, reduceCtorEq]
  intro h' hB' hF' hf'
  simp (disch := omega) only [nI1T, Nat.left_eq_add, Nat.add_eq_left, Nat.add_eq_zero_iff, and_false, false_and, if_false, if_true, opsN, opsC, pm_1, lg, ls1, ls2, lq, List.length_cons, List.length_nil, cN, cL, callE, retV, retN, pm_pop, pm_cat, List.map_cons, List.map_nil, List.sum_cons, List.sum_nil, Value.category, Option.toList, List.cons_append, List.nil_append, reduceIte, reduceCtorEq, Nat.reduceAdd, Nat.reduceLT, Nat.reduceLeDiff, Nat.reduceSub, Nat.reduceEqDiff, Nat.zero_le, Nat.sub_zero, Nat.le_refl, true_and, and_true, not_true_eq_false, not_false_eq_true, true_or, or_true, lc_eq, lc_ne, lc_lt, lc_ge, lc_gt, lc_le, nI_add, lN_add, nI_leI, nI_ltI, nI_eq, nI_clamp, pk_lLT, pk_lLE, pk_lEQ, pk_sub, vp_inT, nz_eq, nz_lt, nz_ge, nz_gt, nz_le, lz_eq, lz_lt, lz_ge, hP1, hP2, hP3, hP4, hP5, hP6, hP7, hP8, hP9, hP10, hP11, hP12, hP13, hP14, hP15, hP16, hP17, hP18, hP19, hP20]
  exact hQ h' hB' hF' (fr_trans (fr_sI (fr_sI (fr_refl _ _ _) (by omega) (by omega)) (by omega) (by omega)) hf')
