/-! ===== the two queues used by hand ===== -/
abbrev Hs : Type := Nat × Qs × Qs
def hOf (n : Nat) (H : Hs) : Qs := if n = 0 then H.2.1 else H.2.2
def hPut (n : Nat) (H : Hs) (A : Qs) : Hs := if n = 0 then (H.1, A, H.2.2) else (H.1, H.2.1, A)
def hb (a n : Nat) : Nat := if n = 0 then a + 1 else a + 7
def hS (h : pm_H) (a : Nat) : Prop := hT h a = 3 ∧ hR h a 0 = a + 1 ∧ hR h a 1 = a + 7
def isH (h : pm_H) (a : Nat) (H : Hs) : Prop := hS h a ∧ isB h (a + 1) 200 H.1 200 H.2.1 ∧ isB h (a + 7) 200 H.1 200 H.2.2
def hJ (H : Hs) : Prop := qI H.1 200 H.2.1 ∧ qI H.1 200 H.2.2
theorem hS_fr {lo hi a : Nat} {h h' : pm_H} (f : fr lo hi h h') (hs : hS h a) : hS h' a := by
  unfold hS at *
  rw [f.1, f.2.2.1]
  exact hs
theorem isH_fr {lo hi a : Nat} {H : Hs} {h h' : pm_H} (f : fr lo hi h h') (hd : a + 13 ≤ lo ∨ hi ≤ a) (hs : isH h a H) : isH h' a H :=
  ⟨hS_fr f hs.1, isB_fr f (by omega) hs.2.1, isB_fr f (by omega) hs.2.2⟩
theorem q_hof (d : Nat) {h : pm_H} {a n : Nat} {Q : pm_Q} (hs : hS h a) (hn : n < 2) : pm_M PP (d + 1) 301 [.ref a, .int (nI n)] h Q = Q (.inl (some (.ref (hb a n)))) h := by
  obtain ⟨s0, s1, s2⟩ := hs
  rw [e_301]
  have e : n = 0 ∨ n = 1 := by omega
  rcases e with e | e
  · subst e
    simp (disch := omega) only [u_301_0, B_301_0, u_301_11, B_301_11, u_301_15, B_301_15, nI1T, Nat.left_eq_add, Nat.add_eq_left, Nat.add_eq_zero_iff, and_false, false_and, if_false, if_true, opsN, opsC, pm_1, lg, ls1, ls2, lq, List.length_cons, List.length_nil, cN, cL, callE, retV, retN, pm_pop, pm_cat, List.map_cons, List.map_nil, List.sum_cons, List.sum_nil, Value.category, Option.toList, List.cons_append, List.nil_append, reduceIte, reduceCtorEq, Nat.reduceAdd, Nat.reduceLT, Nat.reduceLeDiff, Nat.reduceSub, Nat.reduceEqDiff, Nat.zero_le, Nat.sub_zero, Nat.le_refl, true_and, and_true, not_true_eq_false, not_false_eq_true, true_or, or_true, lc_eq, lc_ne, lc_lt, lc_ge, lc_gt, lc_le, nI_add, lN_add, nI_leI, nI_ltI, nI_eq, nI_clamp, pk_lLT, pk_lLE, pk_lEQ, pk_sub, vp_inT, nz_eq, nz_lt, nz_ge, nz_gt, nz_le, lz_eq, lz_lt, lz_ge, hP1, hP2, hP3, hP4, hP5, hP6, hP7, hP8, hP9, hP10, hP11, hP12, hP13, hP14, hP15, hP16, hP17, hP18, hP19, hP20, s0, s1, s2, hb]
  · subst e
    simp (disch := omega) only [u_301_0, B_301_0, u_301_11, B_301_11, u_301_15, B_301_15, nI1T, Nat.left_eq_add, Nat.add_eq_left, Nat.add_eq_zero_iff, and_false, false_and, if_false, if_true, opsN, opsC, pm_1, lg, ls1, ls2, lq, List.length_cons, List.length_nil, cN, cL, callE, retV, retN, pm_pop, pm_cat, List.map_cons, List.map_nil, List.sum_cons, List.sum_nil, Value.category, Option.toList, List.cons_append, List.nil_append, reduceIte, reduceCtorEq, Nat.reduceAdd, Nat.reduceLT, Nat.reduceLeDiff, Nat.reduceSub, Nat.reduceEqDiff, Nat.zero_le, Nat.sub_zero, Nat.le_refl, true_and, and_true, not_true_eq_false, not_false_eq_true, true_or, or_true, lc_eq, lc_ne, lc_lt, lc_ge, lc_gt, lc_le, nI_add, lN_add, nI_leI, nI_ltI, nI_eq, nI_clamp, pk_lLT, pk_lLE, pk_lEQ, pk_sub, vp_inT, nz_eq, nz_lt, nz_ge, nz_gt, nz_le, lz_eq, lz_lt, lz_ge, hP1, hP2, hP3, hP4, hP5, hP6, hP7, hP8, hP9, hP10, hP11, hP12, hP13, hP14, hP15, hP16, hP17, hP18, hP19, hP20, s0, s1, s2, hb]
/-- copy -/
theorem c302 (d : Nat) {h : pm_H} {a c : Nat} {H : Hs} {Q : pm_Q} (hs : hS h a) (h1 : bS h (a + 1) 200) (h2 : bS h (a + 7) 200) (hH : isH h c H) (hJ0 : hJ H) (hd : a + 13 ≤ c ∨ c + 13 ≤ a)
    (hQ : ∀ h', isH h' a H → fr (a + 1) (a + 13) h h' → Q (.inl none) h') : pm_M PP (d + 2) 302 [.ref a, .ref c] h Q := by
  obtain ⟨s0, s1, s2⟩ := id hs
  obtain ⟨⟨t0, t1, t2⟩, b1, b2⟩ := id hH
  have j1 := hJ0.1
  have j2 := hJ0.2
  have e1 := h1.1
  rw [e_302]
  simp (disch := omega) only [u_302_0, B_302_0, nI1T, Nat.left_eq_add, Nat.add_eq_left, Nat.add_eq_zero_iff, and_false, false_and, if_false, if_true, opsN, opsC, pm_1, lg, ls1, ls2, lq, List.length_cons, List.length_nil, cN, cL, callE, retV, retN, pm_pop, pm_cat, List.map_cons, List.map_nil, List.sum_cons, List.sum_nil, Value.category, Option.toList, List.cons_append, List.nil_append, reduceIte, reduceCtorEq, Nat.reduceAdd, Nat.reduceLT, Nat.reduceLeDiff, Nat.reduceSub, Nat.reduceEqDiff, Nat.zero_le, Nat.sub_zero, Nat.le_refl, true_and, and_true, not_true_eq_false, not_false_eq_true, true_or, or_true, lc_eq, lc_ne, lc_lt, lc_ge, lc_gt, lc_le, nI_add, lN_add, nI_leI, nI_ltI, nI_eq, nI_clamp, pk_lLT, pk_lLE, pk_lEQ, pk_sub, vp_inT, nz_eq, nz_lt, nz_ge, nz_gt, nz_le, lz_eq, lz_lt, lz_ge, hP1, hP2, hP3, hP4, hP5, hP6, hP7, hP8, hP9, hP10, hP11, hP12, hP13, hP14, hP15, hP16, hP17, hP18, hP19, hP20, s0, s1, s2, t0, t1, t2, e1]
  refine c103 d h1 b1 (by omega) j1.2.2.1 j1.2.2.2.2.2.2.2.2.2.2.1 (by omega) ?_
  intro h1' hB1 hU1 hf1
  have s0' : hT h1' a = 3 := by rw [hf1.1]; exact s0
  have s2' : hR h1' a 1 = a + 7 := by rw [hf1.2.2.1]; exact s2
  have t0' : hT h1' c = 3 := by rw [hf1.1]; exact t0
  have t2' : hR h1' c 1 = c + 7 := by rw [hf1.2.2.1]; exact t2
  have h2' := bS_fr hf1 h2
  have e2 := h2'.1
  simp (disch := omega) only [nI1T, Nat.left_eq_add, Nat.add_eq_left, Nat.add_eq_zero_iff, and_false, false_and, if_false, if_true, opsN, opsC, pm_1, lg, ls1, ls2, lq, List.length_cons, List.length_nil, cN, cL, callE, retV, retN, pm_pop, pm_cat, List.map_cons, List.map_nil, List.sum_cons, List.sum_nil, Value.category, Option.toList, List.cons_append, List.nil_append, reduceIte, reduceCtorEq, Nat.reduceAdd, Nat.reduceLT, Nat.reduceLeDiff, Nat.reduceSub, Nat.reduceEqDiff, Nat.zero_le, Nat.sub_zero, Nat.le_refl, true_and, and_true, not_true_eq_false, not_false_eq_true, true_or, or_true, lc_eq, lc_ne, lc_lt, lc_ge, lc_gt, lc_le, nI_add, lN_add, nI_leI, nI_ltI, nI_eq, nI_clamp, pk_lLT, pk_lLE, pk_lEQ, pk_sub, vp_inT, nz_eq, nz_lt, nz_ge, nz_gt, nz_le, lz_eq, lz_lt, lz_ge, hP1, hP2, hP3, hP4, hP5, hP6, hP7, hP8, hP9, hP10, hP11, hP12, hP13, hP14, hP15, hP16, hP17, hP18, hP19, hP20, s0', s2', t0', t2', e2]
  refine c103 d h2' (isB_fr hf1 (by omega) b2) (by omega) j2.2.2.1 j2.2.2.2.2.2.2.2.2.2.2.1 (by omega) ?_
  intro h2'' hB2 hU2 hf2
  simp (disch := omega) only [nI1T, Nat.left_eq_add, Nat.add_eq_left, Nat.add_eq_zero_iff, and_false, false_and, if_false, if_true, opsN, opsC, pm_1, lg, ls1, ls2, lq, List.length_cons, List.length_nil, cN, cL, callE, retV, retN, pm_pop, pm_cat, List.map_cons, List.map_nil, List.sum_cons, List.sum_nil, Value.category, Option.toList, List.cons_append, List.nil_append, reduceIte, reduceCtorEq, Nat.reduceAdd, Nat.reduceLT, Nat.reduceLeDiff, Nat.reduceSub, Nat.reduceEqDiff, Nat.zero_le, Nat.sub_zero, Nat.le_refl, true_and, and_true, not_true_eq_false, not_false_eq_true, true_or, or_true, lc_eq, lc_ne, lc_lt, lc_ge, lc_gt, lc_le, nI_add, lN_add, nI_leI, nI_ltI, nI_eq, nI_clamp, pk_lLT, pk_lLE, pk_lEQ, pk_sub, vp_inT, nz_eq, nz_lt, nz_ge, nz_gt, nz_le, lz_eq, lz_lt, lz_ge, hP1, hP2, hP3, hP4, hP5, hP6, hP7, hP8, hP9, hP10, hP11, hP12, hP13, hP14, hP15, hP16, hP17, hP18, hP19, hP20]
  exact hQ h2'' ⟨hS_fr hf2 (hS_fr hf1 hs), isB_fr hf2 (by omega) hB1, hB2⟩ (fr_trans (fr_wide hf1 (by omega) (by omega)) (fr_wide hf2 (by omega) (by omega)))
theorem bt_isB {h : pm_H} {b cap bits limit k : Nat} {A : Qs} (hB : isB h b cap bits limit A) : isB (sI h b (va_up (hI h b) 6 (nI k))) b cap k limit A := by
  have hs := hB.1
  obtain ⟨⟨s0, s1, s2, s3, s4, s5, s6, s7, s8, s9, s10, s11, s12, s13, s14, s15, s16⟩, f4, f5, f6, f7, f8, f9, rK, rW, rM, rN⟩ := hB
  refine ⟨hs, f4, ?_, ?_, ?_, ?_, ?_, ?_, ?_, ?_, ?_⟩
  · simp only [hP1, hP2, hP3, hP4, hP5, hP6, hP7, hP8, hP9, hP10, hP11, hP12, hP13, hP14, hP15, hP16, hP17, hP18, hP19, hP20, va_upE, Nat.left_eq_add, Nat.add_eq_left, Nat.add_eq_zero_iff, Nat.reduceEqDiff, Nat.reduceAdd, reduceIte, and_false, false_and, if_false, if_true, reduceCtorEq, f5]
  · simp only [hP1, hP2, hP3, hP4, hP5, hP6, hP7, hP8, hP9, hP10, hP11, hP12, hP13, hP14, hP15, hP16, hP17, hP18, hP19, hP20, va_upE, Nat.left_eq_add, Nat.add_eq_left, Nat.add_eq_zero_iff, Nat.reduceEqDiff, Nat.reduceAdd, reduceIte, and_false, false_and, if_false, if_true, reduceCtorEq]
  · simp only [hP1, hP2, hP3, hP4, hP5, hP6, hP7, hP8, hP9, hP10, hP11, hP12, hP13, hP14, hP15, hP16, hP17, hP18, hP19, hP20, va_upE, Nat.left_eq_add, Nat.add_eq_left, Nat.add_eq_zero_iff, Nat.reduceEqDiff, Nat.reduceAdd, reduceIte, and_false, false_and, if_false, if_true, reduceCtorEq, f7]
  · simp only [hP1, hP2, hP3, hP4, hP5, hP6, hP7, hP8, hP9, hP10, hP11, hP12, hP13, hP14, hP15, hP16, hP17, hP18, hP19, hP20, va_upE, Nat.left_eq_add, Nat.add_eq_left, Nat.add_eq_zero_iff, Nat.reduceEqDiff, Nat.reduceAdd, reduceIte, and_false, false_and, if_false, if_true, reduceCtorEq, f8]
  · simp only [hP1, hP2, hP3, hP4, hP5, hP6, hP7, hP8, hP9, hP10, hP11, hP12, hP13, hP14, hP15, hP16, hP17, hP18, hP19, hP20, va_upE, Nat.left_eq_add, Nat.add_eq_left, Nat.add_eq_zero_iff, Nat.reduceEqDiff, Nat.reduceAdd, reduceIte, and_false, false_and, if_false, if_true, reduceCtorEq, f9]
  · intro i hi; simp only [hP1, hP2, hP3, hP4, hP5, hP6, hP7, hP8, hP9, hP10, hP11, hP12, hP13, hP14, hP15, hP16, hP17, hP18, hP19, hP20, va_upE, Nat.left_eq_add, Nat.add_eq_left, Nat.add_eq_zero_iff, Nat.reduceEqDiff, Nat.reduceAdd, reduceIte, and_false, false_and, if_false, if_true, reduceCtorEq]; exact rK i hi
  · intro i hi; simp only [hP1, hP2, hP3, hP4, hP5, hP6, hP7, hP8, hP9, hP10, hP11, hP12, hP13, hP14, hP15, hP16, hP17, hP18, hP19, hP20, va_upE, Nat.left_eq_add, Nat.add_eq_left, Nat.add_eq_zero_iff, Nat.reduceEqDiff, Nat.reduceAdd, reduceIte, and_false, false_and, if_false, if_true, reduceCtorEq]; exact rW i hi
  · intro i hi; simp only [hP1, hP2, hP3, hP4, hP5, hP6, hP7, hP8, hP9, hP10, hP11, hP12, hP13, hP14, hP15, hP16, hP17, hP18, hP19, hP20, va_upE, Nat.left_eq_add, Nat.add_eq_left, Nat.add_eq_zero_iff, Nat.reduceEqDiff, Nat.reduceAdd, reduceIte, and_false, false_and, if_false, if_true, reduceCtorEq]; exact rM i hi
  · intro i hi; simp only [hP1, hP2, hP3, hP4, hP5, hP6, hP7, hP8, hP9, hP10, hP11, hP12, hP13, hP14, hP15, hP16, hP17, hP18, hP19, hP20, va_upE, Nat.left_eq_add, Nat.add_eq_left, Nat.add_eq_zero_iff, Nat.reduceEqDiff, Nat.reduceAdd, reduceIte, and_false, false_and, if_false, if_true, reduceCtorEq]; exact rN i hi
theorem c304 (d : Nat) {h : pm_H} {a k : Nat} {H : Hs} {Q : pm_Q} (hH : isH h a H)
    (hQ : ∀ h', isH h' a (k, H.2.1, H.2.2) → fr a (a + 13) h h' → Q (.inl (some (.int (nI H.1)))) h') : pm_M PP (d + 1) 304 [.ref a, .int (nI k)] h Q := by
  obtain ⟨⟨s0, s1, s2⟩, b1, b2⟩ := id hH
  have e1 := b1.1.1
  have e2 := b2.1.1
  have e6 := b1.2.2.2.1
  rw [e_304]
  simp (disch := omega) only [u_304_0, B_304_0, nI1T, Nat.left_eq_add, Nat.add_eq_left, Nat.add_eq_zero_iff, and_false, false_and, if_false, if_true, opsN, opsC, pm_1, lg, ls1, ls2, lq, List.length_cons, List.length_nil, cN, cL, callE, retV, retN, pm_pop, pm_cat, List.map_cons, List.map_nil, List.sum_cons, List.sum_nil, Value.category, Option.toList, List.cons_append, List.nil_append, reduceIte, reduceCtorEq, Nat.reduceAdd, Nat.reduceLT, Nat.reduceLeDiff, Nat.reduceSub, Nat.reduceEqDiff, Nat.zero_le, Nat.sub_zero, Nat.le_refl, true_and, and_true, not_true_eq_false, not_false_eq_true, true_or, or_true, lc_eq, lc_ne, lc_lt, lc_ge, lc_gt, lc_le, nI_add, lN_add, nI_leI, nI_ltI, nI_eq, nI_clamp, pk_lLT, pk_lLE, pk_lEQ, pk_sub, vp_inT, nz_eq, nz_lt, nz_ge, nz_gt, nz_le, lz_eq, lz_lt, lz_ge, hP1, hP2, hP3, hP4, hP5, hP6, hP7, hP8, hP9, hP10, hP11, hP12, hP13, hP14, hP15, hP16, hP17, hP18, hP19, hP20, s0, s1, s2, e1, e2, e6, va_upE]
  have f1 : fr (a + 1) (a + 7) h (sI h (a + 1) (va_up (hI h (a + 1)) 6 (nI k))) := fr_sI (fr_refl _ _ _) (by omega) (by omega)
  have g1 := bt_isB (k := k) b1
  have g2 := bt_isB (k := k) (isB_fr f1 (by omega) b2)
  have f2 : fr (a + 7) (a + 13) (sI h (a + 1) (va_up (hI h (a + 1)) 6 (nI k))) (sI (sI h (a + 1) (va_up (hI h (a + 1)) 6 (nI k))) (a + 7) (va_up (hI (sI h (a + 1) (va_up (hI h (a + 1)) 6 (nI k))) (a + 7)) 6 (nI k))) := fr_sI (fr_refl _ _ _) (by omega) (by omega)
  have eq : hI (sI h (a + 1) (va_up (hI h (a + 1)) 6 (nI k))) (a + 7) = hI h (a + 7) := by rw [hP1, va_up_ne _ _ (by omega)]
  rw [eq] at g2 f2
  exact hQ _ ⟨hS_fr f2 (hS_fr f1 ⟨s0, s1, s2⟩), isB_fr f2 (by omega) g1, g2⟩ (fr_trans (fr_wide f1 (by omega) (by omega)) (fr_wide f2 (by omega) (by omega)))
