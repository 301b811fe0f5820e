/-! ===== plan, as it is called: the class ===== -/
section P5
variable {h : pm_H} {x c t : Nat} {cur : List St} {K : Ks} {W : Nat} {X : List Nat} {G : Gs} {Q : pm_Q}
/-- behind the turns: a fault -/
theorem x401e (d : Nat) {a : Nat} {e : Nat × Nat} {x2 : Option Value} (hr : rd h t X (a, some e)) (hs : plS h c) (hQ : ∀ h' a', rd h' t X (a', some e) → plS h' c → frR t h h' → Q (.inl none) h') : pm_W PP (d + 1) 401 Q 0 0 77 [some (.ref c), some (.ref t), x2] [] h := by
  have s0 := hs.1
  have r2 := hr.2.2.1
  have h5 := hr.2.2.2.2.2.2.2.2.1
  by_cases k : hI h c 7 ≤ 0
  · simp (disch := omega) only [u_401_77, B_401_77, u_401_93, B_401_93, nI1T, Nat.left_eq_add, Nat.add_eq_left, Nat.add_eq_zero_iff, and_false, false_and, if_false, if_true, opsN, opsC, pm_1, lg, ls1, ls2, lq, List.length_cons, List.length_nil, cN, cL, callE, retV, retN, pm_pop, pm_cat, List.map_cons, List.map_nil, List.sum_cons, List.sum_nil, Value.category, Option.toList, List.cons_append, List.nil_append, ↓reduceIte, reduceCtorEq, Nat.reduceAdd, Nat.reduceLT, Nat.reduceLeDiff, Nat.reduceSub, Nat.reduceEqDiff, Nat.zero_le, Nat.sub_zero, Nat.le_refl, true_and, and_true, not_true_eq_false, not_false_eq_true, true_or, or_true, lc_eq, lc_ne, lc_lt, lc_ge, lc_gt, lc_le, nI_add, lN_add, nI_leI, nI_ltI, nI_eq, nI_clamp, pk_lLT, pk_lLE, pk_lEQ, pk_sub, vp_inT, nz_eq, nz_lt, nz_ge, nz_gt, nz_le, lz_eq, lz_lt, lz_ge, hP1, hP2, hP3, hP4, hP5, hP6, hP7, hP8, hP9, hP10, hP11, hP12, hP13, hP14, hP15, hP16, hP17, hP18, hP19, hP20, s0, k]
    exact hQ h a hr hs (frR_refl _ _)
  · simp (disch := omega) only [u_401_77, B_401_77, nI1T, Nat.left_eq_add, Nat.add_eq_left, Nat.add_eq_zero_iff, and_false, false_and, if_false, if_true, opsN, opsC, pm_1, lg, ls1, ls2, lq, List.length_cons, List.length_nil, cN, cL, callE, retV, retN, pm_pop, pm_cat, List.map_cons, List.map_nil, List.sum_cons, List.sum_nil, Value.category, Option.toList, List.cons_append, List.nil_append, ↓reduceIte, reduceCtorEq, Nat.reduceAdd, Nat.reduceLT, Nat.reduceLeDiff, Nat.reduceSub, Nat.reduceEqDiff, Nat.zero_le, Nat.sub_zero, Nat.le_refl, true_and, and_true, not_true_eq_false, not_false_eq_true, true_or, or_true, lc_eq, lc_ne, lc_lt, lc_ge, lc_gt, lc_le, nI_add, lN_add, nI_leI, nI_ltI, nI_eq, nI_clamp, pk_lLT, pk_lLE, pk_lEQ, pk_sub, vp_inT, nz_eq, nz_lt, nz_ge, nz_gt, nz_le, lz_eq, lz_lt, lz_ge, hP1, hP2, hP3, hP4, hP5, hP6, hP7, hP8, hP9, hP10, hP11, hP12, hP13, hP14, hP15, hP16, hP17, hP18, hP19, hP20, s0, k, hr.1.1, r2]
    refine c805 d hr (by decide) (by decide) h5 ?_
    intro h1 q1 q2
    simp (disch := omega) only [u_401_93, B_401_93, nI1T, Nat.left_eq_add, Nat.add_eq_left, Nat.add_eq_zero_iff, and_false, false_and, if_false, if_true, opsN, opsC, pm_1, lg, ls1, ls2, lq, List.length_cons, List.length_nil, cN, cL, callE, retV, retN, pm_pop, pm_cat, List.map_cons, List.map_nil, List.sum_cons, List.sum_nil, Value.category, Option.toList, List.cons_append, List.nil_append, ↓reduceIte, reduceCtorEq, Nat.reduceAdd, Nat.reduceLT, Nat.reduceLeDiff, Nat.reduceSub, Nat.reduceEqDiff, Nat.zero_le, Nat.sub_zero, Nat.le_refl, true_and, and_true, not_true_eq_false, not_false_eq_true, true_or, or_true, lc_eq, lc_ne, lc_lt, lc_ge, lc_gt, lc_le, nI_add, lN_add, nI_leI, nI_ltI, nI_eq, nI_clamp, pk_lLT, pk_lLE, pk_lEQ, pk_sub, vp_inT, nz_eq, nz_lt, nz_ge, nz_gt, nz_le, lz_eq, lz_lt, lz_ge, hP1, hP2, hP3, hP4, hP5, hP6, hP7, hP8, hP9, hP10, hP11, hP12, hP13, hP14, hP15, hP16, hP17, hP18, hP19, hP20]
    exact hQ h1 a q1 (plS_eq q2.1 q2.2.1 (by rw [q2.2.2.1]) hs) q2
/-- behind the turns: none -/
theorem x401 (d : Nat) {a : Nat} {x2 : Option Value} (hr : rd h t X (a, none)) (htc : t + 1 < c) (hP : isPn h c cur K W)
    (hQ : ∀ h' a', rd h' t X (a', resF (CLe X cur K W)) → plS h' c → (∀ L, CLe X cur K W = .inr L → isS h' c (L.1.take 400) ∧ hI h' c 6 = nI L.2) → frR t h h' → Q (.inl none) h') : pm_W PP (d + 1) 401 Q 0 0 77 [some (.ref c), some (.ref t), x2] [] h := by
  have s0 := hP.1.1
  obtain ⟨hs, hS1, w6, w7, wl, wk⟩ := id hP
  have r2 := hr.2.2.1
  have h5 := hr.2.2.2.2.2.2.2.2.1
  by_cases k : K.length = 0
  · have eK : K = [] := List.length_eq_zero_iff.mp k
    have eL : CLe X cur K W = .inr (cur, W) := by unfold CLe; rw [if_pos k]
    rw [eL] at hQ
    simp (disch := omega) only [u_401_77, B_401_77, u_401_93, B_401_93, nI1T, Nat.left_eq_add, Nat.add_eq_left, Nat.add_eq_zero_iff, and_false, false_and, if_false, if_true, opsN, opsC, pm_1, lg, ls1, ls2, lq, List.length_cons, List.length_nil, cN, cL, callE, retV, retN, pm_pop, pm_cat, List.map_cons, List.map_nil, List.sum_cons, List.sum_nil, Value.category, Option.toList, List.cons_append, List.nil_append, ↓reduceIte, reduceCtorEq, Nat.reduceAdd, Nat.reduceLT, Nat.reduceLeDiff, Nat.reduceSub, Nat.reduceEqDiff, Nat.zero_le, Nat.sub_zero, Nat.le_refl, true_and, and_true, not_true_eq_false, not_false_eq_true, true_or, or_true, lc_eq, lc_ne, lc_lt, lc_ge, lc_gt, lc_le, nI_add, lN_add, nI_leI, nI_ltI, nI_eq, nI_clamp, pk_lLT, pk_lLE, pk_lEQ, pk_sub, vp_inT, nz_eq, nz_lt, nz_ge, nz_gt, nz_le, lz_eq, lz_lt, lz_ge, hP1, hP2, hP3, hP4, hP5, hP6, hP7, hP8, hP9, hP10, hP11, hP12, hP13, hP14, hP15, hP16, hP17, hP18, hP19, hP20, s0, w7, k]
    refine hQ h a hr hs (fun L q => ?_) (frR_refl _ _)
    cases q
    subst eK
    exact ⟨hS1, w6⟩
  · have eL : CLe X cur K W = .inl (1, X.length) := by unfold CLe; rw [if_neg k]
    rw [eL] at hQ
    simp (disch := omega) only [u_401_77, B_401_77, nI1T, Nat.left_eq_add, Nat.add_eq_left, Nat.add_eq_zero_iff, and_false, false_and, if_false, if_true, opsN, opsC, pm_1, lg, ls1, ls2, lq, List.length_cons, List.length_nil, cN, cL, callE, retV, retN, pm_pop, pm_cat, List.map_cons, List.map_nil, List.sum_cons, List.sum_nil, Value.category, Option.toList, List.cons_append, List.nil_append, ↓reduceIte, reduceCtorEq, Nat.reduceAdd, Nat.reduceLT, Nat.reduceLeDiff, Nat.reduceSub, Nat.reduceEqDiff, Nat.zero_le, Nat.sub_zero, Nat.le_refl, true_and, and_true, not_true_eq_false, not_false_eq_true, true_or, or_true, lc_eq, lc_ne, lc_lt, lc_ge, lc_gt, lc_le, nI_add, lN_add, nI_leI, nI_ltI, nI_eq, nI_clamp, pk_lLT, pk_lLE, pk_lEQ, pk_sub, vp_inT, nz_eq, nz_lt, nz_ge, nz_gt, nz_le, lz_eq, lz_lt, lz_ge, hP1, hP2, hP3, hP4, hP5, hP6, hP7, hP8, hP9, hP10, hP11, hP12, hP13, hP14, hP15, hP16, hP17, hP18, hP19, hP20, s0, w7, k, hr.1.1, r2]
    refine c805 d hr (by decide) (by decide) h5 ?_
    intro h1 q1 q2
    simp (disch := omega) only [u_401_93, B_401_93, nI1T, Nat.left_eq_add, Nat.add_eq_left, Nat.add_eq_zero_iff, and_false, false_and, if_false, if_true, opsN, opsC, pm_1, lg, ls1, ls2, lq, List.length_cons, List.length_nil, cN, cL, callE, retV, retN, pm_pop, pm_cat, List.map_cons, List.map_nil, List.sum_cons, List.sum_nil, Value.category, Option.toList, List.cons_append, List.nil_append, ↓reduceIte, reduceCtorEq, Nat.reduceAdd, Nat.reduceLT, Nat.reduceLeDiff, Nat.reduceSub, Nat.reduceEqDiff, Nat.zero_le, Nat.sub_zero, Nat.le_refl, true_and, and_true, not_true_eq_false, not_false_eq_true, true_or, or_true, lc_eq, lc_ne, lc_lt, lc_ge, lc_gt, lc_le, nI_add, lN_add, nI_leI, nI_ltI, nI_eq, nI_clamp, pk_lLT, pk_lLE, pk_lEQ, pk_sub, vp_inT, nz_eq, nz_lt, nz_ge, nz_gt, nz_le, lz_eq, lz_lt, lz_ge, hP1, hP2, hP3, hP4, hP5, hP6, hP7, hP8, hP9, hP10, hP11, hP12, hP13, hP14, hP15, hP16, hP17, hP18, hP19, hP20]
    exact hQ h1 a q1 (plS_eq q2.1 q2.2.1 (by rw [q2.2.2.1]) hs) (fun L q => by cases q) q2
theorem x401g (d : Nat) {a k f : Nat} {e : Nat × Nat} (hk : f + (k + 1) = 300) (hr : rd h t X (a, some e)) (hs : plS h c) (hQ : ∀ h' a', rd h' t X (a', some e) → plS h' c → frR t h h' → Q (.inl none) h') : pm_W PP (d + 3) 401 Q 0 0 71 [some (.ref c), some (.ref t), some (.int (nI k))] [] h := by
  simp (disch := omega) only [u_401_71, B_401_71, nI1T, Nat.left_eq_add, Nat.add_eq_left, Nat.add_eq_zero_iff, and_false, false_and, if_false, if_true, opsN, opsC, pm_1, lg, ls1, ls2, lq, List.length_cons, List.length_nil, cN, cL, callE, retV, retN, pm_pop, pm_cat, List.map_cons, List.map_nil, List.sum_cons, List.sum_nil, Value.category, Option.toList, List.cons_append, List.nil_append, ↓reduceIte, reduceCtorEq, Nat.reduceAdd, Nat.reduceLT, Nat.reduceLeDiff, Nat.reduceSub, Nat.reduceEqDiff, Nat.zero_le, Nat.sub_zero, Nat.le_refl, true_and, and_true, not_true_eq_false, not_false_eq_true, true_or, or_true, lc_eq, lc_ne, lc_lt, lc_ge, lc_gt, lc_le, nI_add, lN_add, nI_leI, nI_ltI, nI_eq, nI_clamp, pk_lLT, pk_lLE, pk_lEQ, pk_sub, vp_inT, nz_eq, nz_lt, nz_ge, nz_gt, nz_le, lz_eq, lz_lt, lz_ge, hP1, hP2, hP3, hP4, hP5, hP6, hP7, hP8, hP9, hP10, hP11, hP12, hP13, hP14, hP15, hP16, hP17, hP18, hP19, hP20]
  rw [u_401_17]
  by_cases k3 : k + 1 = 300
  · simp (disch := omega) only [B_401_17, nI1T, Nat.left_eq_add, Nat.add_eq_left, Nat.add_eq_zero_iff, and_false, false_and, if_false, if_true, opsN, opsC, pm_1, lg, ls1, ls2, lq, List.length_cons, List.length_nil, cN, cL, callE, retV, retN, pm_pop, pm_cat, List.map_cons, List.map_nil, List.sum_cons, List.sum_nil, Value.category, Option.toList, List.cons_append, List.nil_append, ↓reduceIte, reduceCtorEq, Nat.reduceAdd, Nat.reduceLT, Nat.reduceLeDiff, Nat.reduceSub, Nat.reduceEqDiff, Nat.zero_le, Nat.sub_zero, Nat.le_refl, true_and, and_true, not_true_eq_false, not_false_eq_true, true_or, or_true, lc_eq, lc_ne, lc_lt, lc_ge, lc_gt, lc_le, nI_add, lN_add, nI_leI, nI_ltI, nI_eq, nI_clamp, pk_lLT, pk_lLE, pk_lEQ, pk_sub, vp_inT, nz_eq, nz_lt, nz_ge, nz_gt, nz_le, lz_eq, lz_lt, lz_ge, hP1, hP2, hP3, hP4, hP5, hP6, hP7, hP8, hP9, hP10, hP11, hP12, hP13, hP14, hP15, hP16, hP17, hP18, hP19, hP20, k3]
    exact x401e (d + 2) hr hs hQ
  · have ck : ¬ 300 ≤ k + 1 := by omega
    simp (disch := omega) only [B_401_17, nI1T, Nat.left_eq_add, Nat.add_eq_left, Nat.add_eq_zero_iff, and_false, false_and, if_false, if_true, opsN, opsC, pm_1, lg, ls1, ls2, lq, List.length_cons, List.length_nil, cN, cL, callE, retV, retN, pm_pop, pm_cat, List.map_cons, List.map_nil, List.sum_cons, List.sum_nil, Value.category, Option.toList, List.cons_append, List.nil_append, ↓reduceIte, reduceCtorEq, Nat.reduceAdd, Nat.reduceLT, Nat.reduceLeDiff, Nat.reduceSub, Nat.reduceEqDiff, Nat.zero_le, Nat.sub_zero, Nat.le_refl, true_and, and_true, not_true_eq_false, not_false_eq_true, true_or, or_true, lc_eq, lc_ne, lc_lt, lc_ge, lc_gt, lc_le, nI_add, lN_add, nI_leI, nI_ltI, nI_eq, nI_clamp, pk_lLT, pk_lLE, pk_lEQ, pk_sub, vp_inT, nz_eq, nz_lt, nz_ge, nz_gt, nz_le, lz_eq, lz_lt, lz_ge, hP1, hP2, hP3, hP4, hP5, hP6, hP7, hP8, hP9, hP10, hP11, hP12, hP13, hP14, hP15, hP16, hP17, hP18, hP19, hP20, ck, hr.1.1]
    refine c806f d hr (.inl (fun q => by cases q)) ?_
    intro h1 a1 q1 q2 q3
    simp (disch := omega) only [nI1T, Nat.left_eq_add, Nat.add_eq_left, Nat.add_eq_zero_iff, and_false, false_and, if_false, if_true, opsN, opsC, pm_1, lg, ls1, ls2, lq, List.length_cons, List.length_nil, cN, cL, callE, retV, retN, pm_pop, pm_cat, List.map_cons, List.map_nil, List.sum_cons, List.sum_nil, Value.category, Option.toList, List.cons_append, List.nil_append, ↓reduceIte, reduceCtorEq, Nat.reduceAdd, Nat.reduceLT, Nat.reduceLeDiff, Nat.reduceSub, Nat.reduceEqDiff, Nat.zero_le, Nat.sub_zero, Nat.le_refl, true_and, and_true, not_true_eq_false, not_false_eq_true, true_or, or_true, lc_eq, lc_ne, lc_lt, lc_ge, lc_gt, lc_le, nI_add, lN_add, nI_leI, nI_ltI, nI_eq, nI_clamp, pk_lLT, pk_lLE, pk_lEQ, pk_sub, vp_inT, nz_eq, nz_lt, nz_ge, nz_gt, nz_le, lz_eq, lz_lt, lz_ge, hP1, hP2, hP3, hP4, hP5, hP6, hP7, hP8, hP9, hP10, hP11, hP12, hP13, hP14, hP15, hP16, hP17, hP18, hP19, hP20]
    refine x401e (d + 2) q1 (plS_eq q3.1 q3.2.1 (by rw [q3.2.2.1]) hs) (fun h' a' z1 z2 z3 => hQ h' a' z1 z2 (frR_trans q3 z3))
theorem l401 (d : Nat) (htc : t + 1 < c) : ∀ (f k a : Nat) (cur : List St) (K : Ks) (W : Nat) (h : pm_H), f + k = 300 → rd h t X (a, none) → isPn h c cur K W →
      (∀ h' a', rd h' t X (a', resF (CL X f a cur K W)) → plS h' c → (∀ L, CL X f a cur K W = .inr L → isS h' c (L.1.take 400) ∧ hI h' c 6 = nI L.2) → frW t c (c + 6) h h' → Q (.inl none) h') →
      pm_W PP (d + 5) 401 Q 0 0 17 [some (.ref c), some (.ref t), some (.int (nI k))] [] h := by
  intro f
  induction f with
  | zero =>
    intro k a cur K W h hk hr hP hQ
    have e : k = 300 := by omega
    subst e
    rw [u_401_17]
    simp (disch := omega) only [B_401_17, nI1T, Nat.left_eq_add, Nat.add_eq_left, Nat.add_eq_zero_iff, and_false, false_and, if_false, if_true, opsN, opsC, pm_1, lg, ls1, ls2, lq, List.length_cons, List.length_nil, cN, cL, callE, retV, retN, pm_pop, pm_cat, List.map_cons, List.map_nil, List.sum_cons, List.sum_nil, Value.category, Option.toList, List.cons_append, List.nil_append, ↓reduceIte, reduceCtorEq, Nat.reduceAdd, Nat.reduceLT, Nat.reduceLeDiff, Nat.reduceSub, Nat.reduceEqDiff, Nat.zero_le, Nat.sub_zero, Nat.le_refl, true_and, and_true, not_true_eq_false, not_false_eq_true, true_or, or_true, lc_eq, lc_ne, lc_lt, lc_ge, lc_gt, lc_le, nI_add, lN_add, nI_leI, nI_ltI, nI_eq, nI_clamp, pk_lLT, pk_lLE, pk_lEQ, pk_sub, vp_inT, nz_eq, nz_lt, nz_ge, nz_gt, nz_le, lz_eq, lz_lt, lz_ge, hP1, hP2, hP3, hP4, hP5, hP6, hP7, hP8, hP9, hP10, hP11, hP12, hP13, hP14, hP15, hP16, hP17, hP18, hP19, hP20]
    exact x401 (d + 4) hr htc hP (fun h' a' q1 q2 q3 q4 => hQ h' a' q1 q2 q3 (frW_R q4))
  | succ f ih =>
    intro k a cur K W h hk hr hP hQ
    have ck : ¬ 300 ≤ k := by omega
    have hz : a ≤ X.length := hr.2.2.2.2.2.2.1
    have ht := hr.2.2.2.2.2.2.2.2
    have hsk := skp_ok hz
    rw [u_401_17]
    simp (disch := omega) only [B_401_17, nI1T, Nat.left_eq_add, Nat.add_eq_left, Nat.add_eq_zero_iff, and_false, false_and, if_false, if_true, opsN, opsC, pm_1, lg, ls1, ls2, lq, List.length_cons, List.length_nil, cN, cL, callE, retV, retN, pm_pop, pm_cat, List.map_cons, List.map_nil, List.sum_cons, List.sum_nil, Value.category, Option.toList, List.cons_append, List.nil_append, ↓reduceIte, reduceCtorEq, Nat.reduceAdd, Nat.reduceLT, Nat.reduceLeDiff, Nat.reduceSub, Nat.reduceEqDiff, Nat.zero_le, Nat.sub_zero, Nat.le_refl, true_and, and_true, not_true_eq_false, not_false_eq_true, true_or, or_true, lc_eq, lc_ne, lc_lt, lc_ge, lc_gt, lc_le, nI_add, lN_add, nI_leI, nI_ltI, nI_eq, nI_clamp, pk_lLT, pk_lLE, pk_lEQ, pk_sub, vp_inT, nz_eq, nz_lt, nz_ge, nz_gt, nz_le, lz_eq, lz_lt, lz_ge, hP1, hP2, hP3, hP4, hP5, hP6, hP7, hP8, hP9, hP10, hP11, hP12, hP13, hP14, hP15, hP16, hP17, hP18, hP19, hP20, ck, hr.1.1]
    cases e : X[skp X a]? with
    | none =>
      have eL : CL X (f + 1) a cur K W = CLe X cur K W := by rw [CL_s, if_pos e]
      rw [eL] at hQ
      refine c806f (d + 2) hr (.inr e) ?_
      intro h1 a1 k1 k2 f1
      simp (disch := omega) only [nI1T, Nat.left_eq_add, Nat.add_eq_left, Nat.add_eq_zero_iff, and_false, false_and, if_false, if_true, opsN, opsC, pm_1, lg, ls1, ls2, lq, List.length_cons, List.length_nil, cN, cL, callE, retV, retN, pm_pop, pm_cat, List.map_cons, List.map_nil, List.sum_cons, List.sum_nil, Value.category, Option.toList, List.cons_append, List.nil_append, ↓reduceIte, reduceCtorEq, Nat.reduceAdd, Nat.reduceLT, Nat.reduceLeDiff, Nat.reduceSub, Nat.reduceEqDiff, Nat.zero_le, Nat.sub_zero, Nat.le_refl, true_and, and_true, not_true_eq_false, not_false_eq_true, true_or, or_true, lc_eq, lc_ne, lc_lt, lc_ge, lc_gt, lc_le, nI_add, lN_add, nI_leI, nI_ltI, nI_eq, nI_clamp, pk_lLT, pk_lLE, pk_lEQ, pk_sub, vp_inT, nz_eq, nz_lt, nz_ge, nz_gt, nz_le, lz_eq, lz_lt, lz_ge, hP1, hP2, hP3, hP4, hP5, hP6, hP7, hP8, hP9, hP10, hP11, hP12, hP13, hP14, hP15, hP16, hP17, hP18, hP19, hP20]
      exact x401 (d + 4) k1 htc (isPn_R f1 htc hP) (fun h' a' q1 q2 q3 q4 => hQ h' a' q1 q2 q3 (frW_trans (frW_R f1) (frW_R q4)))
    | some b =>
      have hid := skp_id hz
      refine c806t (d + 2) hr rfl e ?_
      intro h1 k1 f1
      have k1 : rd h1 t X (skp X a, none) := k1
      have pn1 := isPn_R f1 htc hP
      obtain ⟨hs, hS1, w6, w7, wl, wk⟩ := id pn1
      have go : ¬ (0 < K.length ∧ b = 93) → ∀ h2, rd h2 t X (skp X a, none) → isPn h2 c cur K W → frW t c (c + 6) h h2 → pm_W PP (d + 5) 401 Q 0 0 66 [some (.ref c), some (.ref t), some (.int (nI k))] [] h2 := fun hno h2 z1 z2 z3 => by
        have hno' : ¬ (0 < K.length ∧ X[skp X a]? = some 93) := fun q => hno ⟨q.1, by have := q.2; rw [e] at this; injection this⟩
        have hne : ¬ X[skp X a]? = none := by rw [e]; exact fun q => by cases q
        simp (disch := omega) only [u_401_66, B_401_66, nI1T, Nat.left_eq_add, Nat.add_eq_left, Nat.add_eq_zero_iff, and_false, false_and, if_false, if_true, opsN, opsC, pm_1, lg, ls1, ls2, lq, List.length_cons, List.length_nil, cN, cL, callE, retV, retN, pm_pop, pm_cat, List.map_cons, List.map_nil, List.sum_cons, List.sum_nil, Value.category, Option.toList, List.cons_append, List.nil_append, ↓reduceIte, reduceCtorEq, Nat.reduceAdd, Nat.reduceLT, Nat.reduceLeDiff, Nat.reduceSub, Nat.reduceEqDiff, Nat.zero_le, Nat.sub_zero, Nat.le_refl, true_and, and_true, not_true_eq_false, not_false_eq_true, true_or, or_true, lc_eq, lc_ne, lc_lt, lc_ge, lc_gt, lc_le, nI_add, lN_add, nI_leI, nI_ltI, nI_eq, nI_clamp, pk_lLT, pk_lLE, pk_lEQ, pk_sub, vp_inT, nz_eq, nz_lt, nz_ge, nz_gt, nz_le, lz_eq, lz_lt, lz_ge, hP1, hP2, hP3, hP4, hP5, hP6, hP7, hP8, hP9, hP10, hP11, hP12, hP13, hP14, hP15, hP16, hP17, hP18, hP19, hP20, z2.1.1]
        by_cases hw : wd X (skp X a) wAgain = true
        · have eL : CL X (f + 1) a cur K W = CLr (opP X K.length (skp X a)) (fun a' => CL X f a' [] (((numP X 50 (skp X a + 5, none)).2, cur) :: K) (W + 1)) := by rw [CL_s, if_neg hne, if_neg hno', if_pos hw]
          refine c402a d z1 hid htc z2 hw ?_
          intro h3 q1 q2 q3 q4
          simp (disch := omega) only [nI1T, Nat.left_eq_add, Nat.add_eq_left, Nat.add_eq_zero_iff, and_false, false_and, if_false, if_true, opsN, opsC, pm_1, lg, ls1, ls2, lq, List.length_cons, List.length_nil, cN, cL, callE, retV, retN, pm_pop, pm_cat, List.map_cons, List.map_nil, List.sum_cons, List.sum_nil, Value.category, Option.toList, List.cons_append, List.nil_append, ↓reduceIte, reduceCtorEq, Nat.reduceAdd, Nat.reduceLT, Nat.reduceLeDiff, Nat.reduceSub, Nat.reduceEqDiff, Nat.zero_le, Nat.sub_zero, Nat.le_refl, true_and, and_true, not_true_eq_false, not_false_eq_true, true_or, or_true, lc_eq, lc_ne, lc_lt, lc_ge, lc_gt, lc_le, nI_add, lN_add, nI_leI, nI_ltI, nI_eq, nI_clamp, pk_lLT, pk_lLE, pk_lEQ, pk_sub, vp_inT, nz_eq, nz_lt, nz_ge, nz_gt, nz_le, lz_eq, lz_lt, lz_ge, hP1, hP2, hP3, hP4, hP5, hP6, hP7, hP8, hP9, hP10, hP11, hP12, hP13, hP14, hP15, hP16, hP17, hP18, hP19, hP20]
          cases ez : (opP X K.length (skp X a)).2 with
          | some g =>
            rw [CLr_s ez] at eL
            rw [eL] at hQ
            have q1' : rd h3 t X ((opP X K.length (skp X a)).1, some g) := by rw [← ez]; exact q1
            exact x401g (d + 2) (f := f) (by omega) q1' q2 (fun h' a' y1 y2 y3 => hQ h' a' y1 y2 (fun L q => by cases q) (frW_trans z3 (frW_trans q4 (frW_R y3))))
          | none =>
            rw [CLr_n ez] at eL
            rw [eL] at hQ
            have q1' : rd h3 t X ((opP X K.length (skp X a)).1, none) := by rw [← ez]; exact q1
            simp (disch := omega) only [u_401_71, B_401_71, nI1T, Nat.left_eq_add, Nat.add_eq_left, Nat.add_eq_zero_iff, and_false, false_and, if_false, if_true, opsN, opsC, pm_1, lg, ls1, ls2, lq, List.length_cons, List.length_nil, cN, cL, callE, retV, retN, pm_pop, pm_cat, List.map_cons, List.map_nil, List.sum_cons, List.sum_nil, Value.category, Option.toList, List.cons_append, List.nil_append, ↓reduceIte, reduceCtorEq, Nat.reduceAdd, Nat.reduceLT, Nat.reduceLeDiff, Nat.reduceSub, Nat.reduceEqDiff, Nat.zero_le, Nat.sub_zero, Nat.le_refl, true_and, and_true, not_true_eq_false, not_false_eq_true, true_or, or_true, lc_eq, lc_ne, lc_lt, lc_ge, lc_gt, lc_le, nI_add, lN_add, nI_leI, nI_ltI, nI_eq, nI_clamp, pk_lLT, pk_lLE, pk_lEQ, pk_sub, vp_inT, nz_eq, nz_lt, nz_ge, nz_gt, nz_le, lz_eq, lz_lt, lz_ge, hP1, hP2, hP3, hP4, hP5, hP6, hP7, hP8, hP9, hP10, hP11, hP12, hP13, hP14, hP15, hP16, hP17, hP18, hP19, hP20]
            exact ih (k + 1) _ _ _ _ h3 (by omega) q1' (q3 ez) (fun h' a' y1 y2 y3 y4 => hQ h' a' y1 y2 y3 (frW_trans z3 (frW_trans q4 y4)))
        · have hw' : wd X (skp X a) wAgain = false := by cases hh : wd X (skp X a) wAgain with
            | true => exact absurd hh hw
            | false => rfl
          have eL : CL X (f + 1) a cur K W = CLr (wantP X 59 (stpP X (skp X a)).1) (fun a' => CL X f a' (cur ++ (stpP X (skp X a)).2) K (W + 1)) := by rw [CL_s, if_neg hne, if_neg hno', if_neg hw]
          refine c402s d z1 hid htc z2 hw' ?_
          intro h3 q1 q2 q3 q4
          simp (disch := omega) only [nI1T, Nat.left_eq_add, Nat.add_eq_left, Nat.add_eq_zero_iff, and_false, false_and, if_false, if_true, opsN, opsC, pm_1, lg, ls1, ls2, lq, List.length_cons, List.length_nil, cN, cL, callE, retV, retN, pm_pop, pm_cat, List.map_cons, List.map_nil, List.sum_cons, List.sum_nil, Value.category, Option.toList, List.cons_append, List.nil_append, ↓reduceIte, reduceCtorEq, Nat.reduceAdd, Nat.reduceLT, Nat.reduceLeDiff, Nat.reduceSub, Nat.reduceEqDiff, Nat.zero_le, Nat.sub_zero, Nat.le_refl, true_and, and_true, not_true_eq_false, not_false_eq_true, true_or, or_true, lc_eq, lc_ne, lc_lt, lc_ge, lc_gt, lc_le, nI_add, lN_add, nI_leI, nI_ltI, nI_eq, nI_clamp, pk_lLT, pk_lLE, pk_lEQ, pk_sub, vp_inT, nz_eq, nz_lt, nz_ge, nz_gt, nz_le, lz_eq, lz_lt, lz_ge, hP1, hP2, hP3, hP4, hP5, hP6, hP7, hP8, hP9, hP10, hP11, hP12, hP13, hP14, hP15, hP16, hP17, hP18, hP19, hP20]
          cases ez : (wantP X 59 (stpP X (skp X a)).1).2 with
          | some g =>
            rw [CLr_s ez] at eL
            rw [eL] at hQ
            have q1' : rd h3 t X ((wantP X 59 (stpP X (skp X a)).1).1, some g) := by rw [← ez]; exact q1
            exact x401g (d + 2) (f := f) (by omega) q1' q2 (fun h' a' y1 y2 y3 => hQ h' a' y1 y2 (fun L q => by cases q) (frW_trans z3 (frW_trans q4 (frW_R y3))))
          | none =>
            rw [CLr_n ez] at eL
            rw [eL] at hQ
            have q1' : rd h3 t X ((wantP X 59 (stpP X (skp X a)).1).1, none) := by rw [← ez]; exact q1
            simp (disch := omega) only [u_401_71, B_401_71, nI1T, Nat.left_eq_add, Nat.add_eq_left, Nat.add_eq_zero_iff, and_false, false_and, if_false, if_true, opsN, opsC, pm_1, lg, ls1, ls2, lq, List.length_cons, List.length_nil, cN, cL, callE, retV, retN, pm_pop, pm_cat, List.map_cons, List.map_nil, List.sum_cons, List.sum_nil, Value.category, Option.toList, List.cons_append, List.nil_append, ↓reduceIte, reduceCtorEq, Nat.reduceAdd, Nat.reduceLT, Nat.reduceLeDiff, Nat.reduceSub, Nat.reduceEqDiff, Nat.zero_le, Nat.sub_zero, Nat.le_refl, true_and, and_true, not_true_eq_false, not_false_eq_true, true_or, or_true, lc_eq, lc_ne, lc_lt, lc_ge, lc_gt, lc_le, nI_add, lN_add, nI_leI, nI_ltI, nI_eq, nI_clamp, pk_lLT, pk_lLE, pk_lEQ, pk_sub, vp_inT, nz_eq, nz_lt, nz_ge, nz_gt, nz_le, lz_eq, lz_lt, lz_ge, hP1, hP2, hP3, hP4, hP5, hP6, hP7, hP8, hP9, hP10, hP11, hP12, hP13, hP14, hP15, hP16, hP17, hP18, hP19, hP20]
            exact ih (k + 1) _ _ _ _ h3 (by omega) q1' (q3 ez) (fun h' a' y1 y2 y3 y4 => hQ h' a' y1 y2 y3 (frW_trans z3 (frW_trans q4 y4)))
      by_cases k0 : K.length = 0
      · simp (disch := omega) only [nI1T, Nat.left_eq_add, Nat.add_eq_left, Nat.add_eq_zero_iff, and_false, false_and, if_false, if_true, opsN, opsC, pm_1, lg, ls1, ls2, lq, List.length_cons, List.length_nil, cN, cL, callE, retV, retN, pm_pop, pm_cat, List.map_cons, List.map_nil, List.sum_cons, List.sum_nil, Value.category, Option.toList, List.cons_append, List.nil_append, ↓reduceIte, reduceCtorEq, Nat.reduceAdd, Nat.reduceLT, Nat.reduceLeDiff, Nat.reduceSub, Nat.reduceEqDiff, Nat.zero_le, Nat.sub_zero, Nat.le_refl, true_and, and_true, not_true_eq_false, not_false_eq_true, true_or, or_true, lc_eq, lc_ne, lc_lt, lc_ge, lc_gt, lc_le, nI_add, lN_add, nI_leI, nI_ltI, nI_eq, nI_clamp, pk_lLT, pk_lLE, pk_lEQ, pk_sub, vp_inT, nz_eq, nz_lt, nz_ge, nz_gt, nz_le, lz_eq, lz_lt, lz_ge, hP1, hP2, hP3, hP4, hP5, hP6, hP7, hP8, hP9, hP10, hP11, hP12, hP13, hP14, hP15, hP16, hP17, hP18, hP19, hP20, hs.1, w7, k0]
        exact go (by omega) h1 k1 pn1 (frW_R f1)
      · simp (disch := omega) only [nI1T, Nat.left_eq_add, Nat.add_eq_left, Nat.add_eq_zero_iff, and_false, false_and, if_false, if_true, opsN, opsC, pm_1, lg, ls1, ls2, lq, List.length_cons, List.length_nil, cN, cL, callE, retV, retN, pm_pop, pm_cat, List.map_cons, List.map_nil, List.sum_cons, List.sum_nil, Value.category, Option.toList, List.cons_append, List.nil_append, ↓reduceIte, reduceCtorEq, Nat.reduceAdd, Nat.reduceLT, Nat.reduceLeDiff, Nat.reduceSub, Nat.reduceEqDiff, Nat.zero_le, Nat.sub_zero, Nat.le_refl, true_and, and_true, not_true_eq_false, not_false_eq_true, true_or, or_true, lc_eq, lc_ne, lc_lt, lc_ge, lc_gt, lc_le, nI_add, lN_add, nI_leI, nI_ltI, nI_eq, nI_clamp, pk_lLT, pk_lLE, pk_lEQ, pk_sub, vp_inT, nz_eq, nz_lt, nz_ge, nz_gt, nz_le, lz_eq, lz_lt, lz_ge, hP1, hP2, hP3, hP4, hP5, hP6, hP7, hP8, hP9, hP10, hP11, hP12, hP13, hP14, hP15, hP16, hP17, hP18, hP19, hP20, hs.1, w7, k0, k1.1.1]
        refine c807 (d + 3) k1 ?_
        intro h2 k2 f2
        have k2 : rd h2 t X (skp X a, none) := by rw [← hid]; exact k2
        have pn2 := isPn_R f2 htc pn1
        have e' : X[skp X (skp X a, (none : Fl)).1]? = some b := by show X[skp X (skp X a)]? = some b; rw [hid]; exact e
        have hb := at_b ht b e
        rw [e']
        by_cases b93 : b = 93
        · subst b93
          have hl := at_some e
          simp (disch := omega) only [nI1T, Nat.left_eq_add, Nat.add_eq_left, Nat.add_eq_zero_iff, and_false, false_and, if_false, if_true, opsN, opsC, pm_1, lg, ls1, ls2, lq, List.length_cons, List.length_nil, cN, cL, callE, retV, retN, pm_pop, pm_cat, List.map_cons, List.map_nil, List.sum_cons, List.sum_nil, Value.category, Option.toList, List.cons_append, List.nil_append, ↓reduceIte, reduceCtorEq, Nat.reduceAdd, Nat.reduceLT, Nat.reduceLeDiff, Nat.reduceSub, Nat.reduceEqDiff, Nat.zero_le, Nat.sub_zero, Nat.le_refl, true_and, and_true, not_true_eq_false, not_false_eq_true, true_or, or_true, lc_eq, lc_ne, lc_lt, lc_ge, lc_gt, lc_le, nI_add, lN_add, nI_leI, nI_ltI, nI_eq, nI_clamp, pk_lLT, pk_lLE, pk_lEQ, pk_sub, vp_inT, nz_eq, nz_lt, nz_ge, nz_gt, nz_le, lz_eq, lz_lt, lz_ge, hP1, hP2, hP3, hP4, hP5, hP6, hP7, hP8, hP9, hP10, hP11, hP12, hP13, hP14, hP15, hP16, hP17, hP18, hP19, hP20, iv_so, k2.1.1]
          refine c809 (d + 2) k2 (by decide) ?_
          intro h3 k3 f3
          have ew : wantP X 93 (skp X a, none) = (skp X a + 1, none) := by
            unfold wantP
            show (if X[skp X (skp X a)]? = some 93 then _ else _) = _
            rw [hid, if_pos e]
          rw [ew] at k3
          have pn3 := isPn_R f3 htc pn2
          obtain ⟨n, o, K', eK⟩ : ∃ n o K', K = (n, o) :: K' := by
            cases K with
            | nil => exact absurd rfl k0
            | cons y r => exact ⟨y.1, y.2, r, rfl⟩
          subst eK
          simp (disch := omega) only [nI1T, Nat.left_eq_add, Nat.add_eq_left, Nat.add_eq_zero_iff, and_false, false_and, if_false, if_true, opsN, opsC, pm_1, lg, ls1, ls2, lq, List.length_cons, List.length_nil, cN, cL, callE, retV, retN, pm_pop, pm_cat, List.map_cons, List.map_nil, List.sum_cons, List.sum_nil, Value.category, Option.toList, List.cons_append, List.nil_append, ↓reduceIte, reduceCtorEq, Nat.reduceAdd, Nat.reduceLT, Nat.reduceLeDiff, Nat.reduceSub, Nat.reduceEqDiff, Nat.zero_le, Nat.sub_zero, Nat.le_refl, true_and, and_true, not_true_eq_false, not_false_eq_true, true_or, or_true, lc_eq, lc_ne, lc_lt, lc_ge, lc_gt, lc_le, nI_add, lN_add, nI_leI, nI_ltI, nI_eq, nI_clamp, pk_lLT, pk_lLE, pk_lEQ, pk_sub, vp_inT, nz_eq, nz_lt, nz_ge, nz_gt, nz_le, lz_eq, lz_lt, lz_ge, hP1, hP2, hP3, hP4, hP5, hP6, hP7, hP8, hP9, hP10, hP11, hP12, hP13, hP14, hP15, hP16, hP17, hP18, hP19, hP20, pn3.1.1]
          refine c405 (d + 3) pn3 ?_
          intro h4 q1 q2 q3
          have k4 : rd h4 t X (skp X a + 1, none) := by
            obtain ⟨⟨y0, y1, y2, y3⟩, r1, r2, r3, r4, r5, r6⟩ := k3
            have z0 : hI h4 t = hI h3 t := (q2.2.2.2.2 t (by omega)).1
            have z1 : hI h4 (t + 1) = hI h3 (t + 1) := (q2.2.2.2.2 (t + 1) (by omega)).1
            exact ⟨⟨by rw [q2.1]; exact y0, by rw [q2.2.2.1]; exact y1, by rw [q2.1]; exact y2, by rw [q2.2.1]; exact y3⟩, by rw [z0]; exact r1, by rw [z0]; exact r2, by rw [z0]; exact r3, by rw [z0]; exact r4, fun i hi => by rw [z1]; exact r5 i hi, r6⟩
          have fq : frW t c (c + 6) h3 h4 := ⟨q2.1, q2.2.1, q2.2.2.1, q2.2.2.2.1, q3, fun j _ z => (q2.2.2.2.2 j (by omega)).1, fun j _ _ _ => by rw [(q2.2.2.2.2 t (by omega)).1]⟩
          simp (disch := omega) only [nI1T, Nat.left_eq_add, Nat.add_eq_left, Nat.add_eq_zero_iff, and_false, false_and, if_false, if_true, opsN, opsC, pm_1, lg, ls1, ls2, lq, List.length_cons, List.length_nil, cN, cL, callE, retV, retN, pm_pop, pm_cat, List.map_cons, List.map_nil, List.sum_cons, List.sum_nil, Value.category, Option.toList, List.cons_append, List.nil_append, ↓reduceIte, reduceCtorEq, Nat.reduceAdd, Nat.reduceLT, Nat.reduceLeDiff, Nat.reduceSub, Nat.reduceEqDiff, Nat.zero_le, Nat.sub_zero, Nat.le_refl, true_and, and_true, not_true_eq_false, not_false_eq_true, true_or, or_true, lc_eq, lc_ne, lc_lt, lc_ge, lc_gt, lc_le, nI_add, lN_add, nI_leI, nI_ltI, nI_eq, nI_clamp, pk_lLT, pk_lLE, pk_lEQ, pk_sub, vp_inT, nz_eq, nz_lt, nz_ge, nz_gt, nz_le, lz_eq, lz_lt, lz_ge, hP1, hP2, hP3, hP4, hP5, hP6, hP7, hP8, hP9, hP10, hP11, hP12, hP13, hP14, hP15, hP16, hP17, hP18, hP19, hP20, k4.1.1]
          refine c809 (d + 2) k4 (by decide) ?_
          intro h5 k5 f5
          simp (disch := omega) only [nI1T, Nat.left_eq_add, Nat.add_eq_left, Nat.add_eq_zero_iff, and_false, false_and, if_false, if_true, opsN, opsC, pm_1, lg, ls1, ls2, lq, List.length_cons, List.length_nil, cN, cL, callE, retV, retN, pm_pop, pm_cat, List.map_cons, List.map_nil, List.sum_cons, List.sum_nil, Value.category, Option.toList, List.cons_append, List.nil_append, ↓reduceIte, reduceCtorEq, Nat.reduceAdd, Nat.reduceLT, Nat.reduceLeDiff, Nat.reduceSub, Nat.reduceEqDiff, Nat.zero_le, Nat.sub_zero, Nat.le_refl, true_and, and_true, not_true_eq_false, not_false_eq_true, true_or, or_true, lc_eq, lc_ne, lc_lt, lc_ge, lc_gt, lc_le, nI_add, lN_add, nI_leI, nI_ltI, nI_eq, nI_clamp, pk_lLT, pk_lLE, pk_lEQ, pk_sub, vp_inT, nz_eq, nz_lt, nz_ge, nz_gt, nz_le, lz_eq, lz_lt, lz_ge, hP1, hP2, hP3, hP4, hP5, hP6, hP7, hP8, hP9, hP10, hP11, hP12, hP13, hP14, hP15, hP16, hP17, hP18, hP19, hP20]
          have ft := frW_trans (frW_R (frR_trans f1 (frR_trans f2 f3))) (frW_trans fq (frW_R f5))
          have hne : ¬ X[skp X a]? = none := by rw [e]; exact fun q => by cases q
          have eL : CL X (f + 1) a cur ((n, o) :: K') W = CLr (wantP X 59 (skp X a + 1, none)) (fun a' => CL X f a' (o ++ rpt n cur) K' W) := by
            rw [CL_s, if_neg hne, if_pos ⟨by rw [List.length_cons]; omega, e⟩]; rfl
          have pn5 := isPn_R f5 htc q1
          cases ez : (wantP X 59 (skp X a + 1, none)).2 with
          | some g =>
            rw [CLr_s ez] at eL
            rw [eL] at hQ
            have k5' : rd h5 t X ((wantP X 59 (skp X a + 1, none)).1, some g) := by rw [← ez]; exact k5
            exact x401g (d + 2) (f := f) (by omega) k5' pn5.1 (fun h' a' y1 y2 y3 => hQ h' a' y1 y2 (fun L q => by cases q) (frW_trans ft (frW_R y3)))
          | none =>
            rw [CLr_n ez] at eL
            rw [eL] at hQ
            have k5' : rd h5 t X ((wantP X 59 (skp X a + 1, none)).1, none) := by
              have : wantP X 59 (skp X a + 1, none) = ((wantP X 59 (skp X a + 1, none)).1, none) := Prod.ext rfl ez
              rw [this] at k5; exact k5
            simp (disch := omega) only [u_401_71, B_401_71, nI1T, Nat.left_eq_add, Nat.add_eq_left, Nat.add_eq_zero_iff, and_false, false_and, if_false, if_true, opsN, opsC, pm_1, lg, ls1, ls2, lq, List.length_cons, List.length_nil, cN, cL, callE, retV, retN, pm_pop, pm_cat, List.map_cons, List.map_nil, List.sum_cons, List.sum_nil, Value.category, Option.toList, List.cons_append, List.nil_append, ↓reduceIte, reduceCtorEq, Nat.reduceAdd, Nat.reduceLT, Nat.reduceLeDiff, Nat.reduceSub, Nat.reduceEqDiff, Nat.zero_le, Nat.sub_zero, Nat.le_refl, true_and, and_true, not_true_eq_false, not_false_eq_true, true_or, or_true, lc_eq, lc_ne, lc_lt, lc_ge, lc_gt, lc_le, nI_add, lN_add, nI_leI, nI_ltI, nI_eq, nI_clamp, pk_lLT, pk_lLE, pk_lEQ, pk_sub, vp_inT, nz_eq, nz_lt, nz_ge, nz_gt, nz_le, lz_eq, lz_lt, lz_ge, hP1, hP2, hP3, hP4, hP5, hP6, hP7, hP8, hP9, hP10, hP11, hP12, hP13, hP14, hP15, hP16, hP17, hP18, hP19, hP20]
            exact ih (k + 1) _ _ _ _ h5 (by omega) k5' pn5 (fun h' a' y1 y2 y3 y4 => hQ h' a' y1 y2 y3 (frW_trans ft y4))
        · have e3 : (nI b = nI 93) = False := eq_false fun q => b93 ((nI_eq hb (by decide)).mp q)
          simp (disch := omega) only [nI1T, Nat.left_eq_add, Nat.add_eq_left, Nat.add_eq_zero_iff, and_false, false_and, if_false, if_true, opsN, opsC, pm_1, lg, ls1, ls2, lq, List.length_cons, List.length_nil, cN, cL, callE, retV, retN, pm_pop, pm_cat, List.map_cons, List.map_nil, List.sum_cons, List.sum_nil, Value.category, Option.toList, List.cons_append, List.nil_append, ↓reduceIte, reduceCtorEq, Nat.reduceAdd, Nat.reduceLT, Nat.reduceLeDiff, Nat.reduceSub, Nat.reduceEqDiff, Nat.zero_le, Nat.sub_zero, Nat.le_refl, true_and, and_true, not_true_eq_false, not_false_eq_true, true_or, or_true, lc_eq, lc_ne, lc_lt, lc_ge, lc_gt, lc_le, nI_add, lN_add, nI_leI, nI_ltI, nI_eq, nI_clamp, pk_lLT, pk_lLE, pk_lEQ, pk_sub, vp_inT, nz_eq, nz_lt, nz_ge, nz_gt, nz_le, lz_eq, lz_lt, lz_ge, hP1, hP2, hP3, hP4, hP5, hP6, hP7, hP8, hP9, hP10, hP11, hP12, hP13, hP14, hP15, hP16, hP17, hP18, hP19, hP20, iv_so, e3]
          exact go (fun q => b93 q.2) h2 k2 pn2 (frW_R (frR_trans f1 f2))
theorem c401 (d : Nat) (htc : t + 1 < c) (hr : rd h t X (0, none)) (hs : plS h c)
    (hQ : ∀ h' a', rd h' t X (a', resF (CL X 300 0 [] [] 0)) → plS h' c → (∀ L, CL X 300 0 [] [] 0 = .inr L → isS h' c (L.1.take 400) ∧ hI h' c 6 = nI L.2) → frW t c (c + 6) h h' → Q (.inl none) h') :
    pm_M PP (d + 6) 401 [.ref c, .ref t] h Q := by
  have s0 := hs.1
  rw [e_401]
  simp (disch := omega) only [u_401_0, B_401_0, nI1T, Nat.left_eq_add, Nat.add_eq_left, Nat.add_eq_zero_iff, and_false, false_and, if_false, if_true, opsN, opsC, pm_1, lg, ls1, ls2, lq, List.length_cons, List.length_nil, cN, cL, callE, retV, retN, pm_pop, pm_cat, List.map_cons, List.map_nil, List.sum_cons, List.sum_nil, Value.category, Option.toList, List.cons_append, List.nil_append, ↓reduceIte, reduceCtorEq, Nat.reduceAdd, Nat.reduceLT, Nat.reduceLeDiff, Nat.reduceSub, Nat.reduceEqDiff, Nat.zero_le, Nat.sub_zero, Nat.le_refl, true_and, and_true, not_true_eq_false, not_false_eq_true, true_or, or_true, lc_eq, lc_ne, lc_lt, lc_ge, lc_gt, lc_le, nI_add, lN_add, nI_leI, nI_ltI, nI_eq, nI_clamp, pk_lLT, pk_lLE, pk_lEQ, pk_sub, vp_inT, nz_eq, nz_lt, nz_ge, nz_gt, nz_le, lz_eq, lz_lt, lz_ge, hP1, hP2, hP3, hP4, hP5, hP6, hP7, hP8, hP9, hP10, hP11, hP12, hP13, hP14, hP15, hP16, hP17, hP18, hP19, hP20, s0, sI_sI, va_upE]
  refine l401 d (X := X) htc 300 0 0 [] [] 0 _ rfl (rd_sI (by omega) (by omega) hr) ⟨plS_sI hs, ⟨by decide, ?_, fun i hi => absurd hi (Nat.not_lt_zero _)⟩, ?_, ?_, by decide, trivial⟩ (fun h' a' q1 q2 q3 q4 => hQ h' a' q1 q2 q3 (frW_trans (frW_sI (by omega) (by omega) (by omega)) q4))
  · rw [hI_at]; simp only [va_upE, Nat.reduceEqDiff, if_false, if_true]; rfl
  · rw [hI_at]; simp only [va_upE, Nat.reduceEqDiff, if_false, if_true]
  · rw [hI_at]; simp only [va_upE, Nat.reduceEqDiff, if_false, if_true]; rfl
end P5
