/-! ===== replay: the reference's beginning ===== -/
section PM3
variable {h : pm_H} {m bits : Nat} {Q : pm_Q}
theorem c1062v (d : Nat) (hs : mS h m) (hQ : ∀ h' , (∀ sn, isQ h' (m + 811) q0 sn 0 ∧ qT q0 sn 0) → fVa m h h' → Q (.inl none) h') : pm_M PP (d + 2) 1062 [.ref m] h Q := by
  rw [e_1062]
  simp (disch := omega) only [u_1062_0, B_1062_0, nI1T, Nat.left_eq_add, Nat.add_eq_left, Nat.add_eq_zero_iff, and_false, false_and, if_false, if_true, opsN, opsC, pm_1, lg, ls1, ls2, lq, List.length_cons, List.length_nil, cN, cL, callE, retV, retN, pm_pop, pm_cat, List.map_cons, List.map_nil, List.sum_cons, List.sum_nil, Value.category, Option.toList, List.cons_append, List.nil_append, ↓reduceIte, reduceCtorEq, Nat.reduceAdd, Nat.reduceLT, Nat.reduceLeDiff, Nat.reduceSub, Nat.reduceEqDiff, Nat.zero_le, Nat.sub_zero, Nat.le_refl, true_and, and_true, not_true_eq_false, not_false_eq_true, true_or, or_true, lc_eq, lc_ne, lc_lt, lc_ge, lc_gt, lc_le, nI_add, lN_add, nI_leI, nI_ltI, nI_eq, nI_clamp, pk_lLT, pk_lLE, pk_lEQ, pk_sub, vp_inT, nz_eq, nz_lt, nz_ge, nz_gt, nz_le, lz_eq, lz_lt, lz_ge, hP1, hP2, hP3, hP4, hP5, hP6, hP7, hP8, hP9, hP10, hP11, hP12, hP13, hP14, hP15, hP16, hP17, hP18, hP19, hP20, hs.1, m_g34 hs, m_t811 hs, m_n811 hs]
  refine c1020 d (m_t811 hs) (m_n811 hs) ?_
  intro g hg
  simp (disch := omega) only [nI1T, Nat.left_eq_add, Nat.add_eq_left, Nat.add_eq_zero_iff, and_false, false_and, if_false, if_true, opsN, opsC, pm_1, lg, ls1, ls2, lq, List.length_cons, List.length_nil, cN, cL, callE, retV, retN, pm_pop, pm_cat, List.map_cons, List.map_nil, List.sum_cons, List.sum_nil, Value.category, Option.toList, List.cons_append, List.nil_append, ↓reduceIte, reduceCtorEq, Nat.reduceAdd, Nat.reduceLT, Nat.reduceLeDiff, Nat.reduceSub, Nat.reduceEqDiff, Nat.zero_le, Nat.sub_zero, Nat.le_refl, true_and, and_true, not_true_eq_false, not_false_eq_true, true_or, or_true, lc_eq, lc_ne, lc_lt, lc_ge, lc_gt, lc_le, nI_add, lN_add, nI_leI, nI_ltI, nI_eq, nI_clamp, pk_lLT, pk_lLE, pk_lEQ, pk_sub, vp_inT, nz_eq, nz_lt, nz_ge, nz_gt, nz_le, lz_eq, lz_lt, lz_ge, hP1, hP2, hP3, hP4, hP5, hP6, hP7, hP8, hP9, hP10, hP11, hP12, hP13, hP14, hP15, hP16, hP17, hP18, hP19, hP20]
  have e1 := fun sn => q_emp q0 sn (m_t811 hs) (m_n811 hs) hg
  have f1 := fVa_L (m := m) (k := m + 811) (h := h) (g := g) (by omega)
  have hs1 := mS_Va f1 hs
  generalize sL h (m + 811) g = h1 at *
  refine l1062 d 160 0 h1 (by omega) hs1 (fun j hj => absurd hj (Nat.not_lt_zero _)) ?_
  intro h2 g2 e2 hg2
  subst e2
  exact hQ _ (fun sn => ⟨isQ_eq (h := h1) rfl rfl rfl (e1 sn).1, (e1 sn).2⟩) (fVa_trans f1 fVa_u)
theorem l1078i (d : Nat) {v1 : Int32} {t : Int64} : ∀ (n k : Nat) (h : pm_H), n + k = 8 → mS h m → (∀ j, j < k → hI h (m + 821) j = nI 0) →
    (∀ h', (∀ j, j < 8 → hI h' (m + 821) j = nI 0) → fVa m h h' → hL h' = hL h → pm_W PP (d + 1) 1078 Q 0 0 28 [some (.ref m), some (.int v1), some (.long t), none, some (.int (nI 8)), none] [] h') →
    pm_W PP (d + 1) 1078 Q 0 0 7 [some (.ref m), some (.int v1), some (.long t), none, some (.int (nI k)), none] [] h := by
  intro n
  induction n with
  | zero =>
    intro k h hk hs hz hQ
    have e : k = 8 := by omega
    subst e
    rw [u_1078_7]
    simp (disch := omega) only [B_1078_7, nI1T, Nat.left_eq_add, Nat.add_eq_left, Nat.add_eq_zero_iff, and_false, false_and, if_false, if_true, opsN, opsC, pm_1, lg, ls1, ls2, lq, List.length_cons, List.length_nil, cN, cL, callE, retV, retN, pm_pop, pm_cat, List.map_cons, List.map_nil, List.sum_cons, List.sum_nil, Value.category, Option.toList, List.cons_append, List.nil_append, ↓reduceIte, reduceCtorEq, Nat.reduceAdd, Nat.reduceLT, Nat.reduceLeDiff, Nat.reduceSub, Nat.reduceEqDiff, Nat.zero_le, Nat.sub_zero, Nat.le_refl, true_and, and_true, not_true_eq_false, not_false_eq_true, true_or, or_true, lc_eq, lc_ne, lc_lt, lc_ge, lc_gt, lc_le, nI_add, lN_add, nI_leI, nI_ltI, nI_eq, nI_clamp, pk_lLT, pk_lLE, pk_lEQ, pk_sub, vp_inT, nz_eq, nz_lt, nz_ge, nz_gt, nz_le, lz_eq, lz_lt, lz_ge, hP1, hP2, hP3, hP4, hP5, hP6, hP7, hP8, hP9, hP10, hP11, hP12, hP13, hP14, hP15, hP16, hP17, hP18, hP19, hP20]
    exact hQ h hz (fVa_refl _ _) rfl
  | succ n ih =>
    intro k h hk hs hz hQ
    have c1 : ¬ 8 ≤ k := by omega
    have c2 : k < 8 := by omega
    rw [u_1078_7]
    simp (disch := omega) only [B_1078_7, nI1T, Nat.left_eq_add, Nat.add_eq_left, Nat.add_eq_zero_iff, and_false, false_and, if_false, if_true, opsN, opsC, pm_1, lg, ls1, ls2, lq, List.length_cons, List.length_nil, cN, cL, callE, retV, retN, pm_pop, pm_cat, List.map_cons, List.map_nil, List.sum_cons, List.sum_nil, Value.category, Option.toList, List.cons_append, List.nil_append, ↓reduceIte, reduceCtorEq, Nat.reduceAdd, Nat.reduceLT, Nat.reduceLeDiff, Nat.reduceSub, Nat.reduceEqDiff, Nat.zero_le, Nat.sub_zero, Nat.le_refl, true_and, and_true, not_true_eq_false, not_false_eq_true, true_or, or_true, lc_eq, lc_ne, lc_lt, lc_ge, lc_gt, lc_le, nI_add, lN_add, nI_leI, nI_ltI, nI_eq, nI_clamp, pk_lLT, pk_lLE, pk_lEQ, pk_sub, vp_inT, nz_eq, nz_lt, nz_ge, nz_gt, nz_le, lz_eq, lz_lt, lz_ge, hP1, hP2, hP3, hP4, hP5, hP6, hP7, hP8, hP9, hP10, hP11, hP12, hP13, hP14, hP15, hP16, hP17, hP18, hP19, hP20, hs.1, m_g50 hs, m_t821 hs, m_n821 hs, c1, c2]
    have f1 : fVa m h (sI h (m + 821) (va_up (hI h (m + 821)) k (nI 0))) := fVa_r (by omega) (by omega)
    refine ih (k + 1) _ (by omega) (mS_Va f1 hs) (fun j hj => ?_) (fun h2 a1 a2 a3 => hQ h2 a1 (fVa_trans f1 a2) a3)
    rw [hI_at, va_upE]; split
    · rfl
    · exact hz j (by omega)
theorem c1078 (d : Nat) {t : Nat} {Es : List Ev} {R : List Ed} (hb1 : 1 ≤ bits) (hb4 : bits ≤ 4) (ht : t < 2 ^ 40) (hEs : ∀ e, e ∈ Es → evB e) (h1 : Es.length ≤ 12) (hR0 : ∀ e, e ∈ R → rlB e) (h6 : R.length ≤ 16) (hs : mS h m) (hr : evM h m Es R)
    (hQ : ∀ h', mdV h' m (vAll bits t Es R) 100000 → mS h' m → fVa m h h' → Q (.inl none) h') : pm_M PP (d + 6) 1078 [.ref m, .int (nI bits), .long (lN t)] h Q := by
  rw [e_1078]
  simp (disch := omega) only [u_1078_0, B_1078_0, nI1T, Nat.left_eq_add, Nat.add_eq_left, Nat.add_eq_zero_iff, and_false, false_and, if_false, if_true, opsN, opsC, pm_1, lg, ls1, ls2, lq, List.length_cons, List.length_nil, cN, cL, callE, retV, retN, pm_pop, pm_cat, List.map_cons, List.map_nil, List.sum_cons, List.sum_nil, Value.category, Option.toList, List.cons_append, List.nil_append, ↓reduceIte, reduceCtorEq, Nat.reduceAdd, Nat.reduceLT, Nat.reduceLeDiff, Nat.reduceSub, Nat.reduceEqDiff, Nat.zero_le, Nat.sub_zero, Nat.le_refl, true_and, and_true, not_true_eq_false, not_false_eq_true, true_or, or_true, lc_eq, lc_ne, lc_lt, lc_ge, lc_gt, lc_le, nI_add, lN_add, nI_leI, nI_ltI, nI_eq, nI_clamp, pk_lLT, pk_lLE, pk_lEQ, pk_sub, vp_inT, nz_eq, nz_lt, nz_ge, nz_gt, nz_le, lz_eq, lz_lt, lz_ge, hP1, hP2, hP3, hP4, hP5, hP6, hP7, hP8, hP9, hP10, hP11, hP12, hP13, hP14, hP15, hP16, hP17, hP18, hP19, hP20, hs.1]
  refine c1062v (d + 3) hs ?_
  intro h2 a1 a3
  have hs1 := mS_Va a3 hs
  simp (disch := omega) only [nI1T, Nat.left_eq_add, Nat.add_eq_left, Nat.add_eq_zero_iff, and_false, false_and, if_false, if_true, opsN, opsC, pm_1, lg, ls1, ls2, lq, List.length_cons, List.length_nil, cN, cL, callE, retV, retN, pm_pop, pm_cat, List.map_cons, List.map_nil, List.sum_cons, List.sum_nil, Value.category, Option.toList, List.cons_append, List.nil_append, ↓reduceIte, reduceCtorEq, Nat.reduceAdd, Nat.reduceLT, Nat.reduceLeDiff, Nat.reduceSub, Nat.reduceEqDiff, Nat.zero_le, Nat.sub_zero, Nat.le_refl, true_and, and_true, not_true_eq_false, not_false_eq_true, true_or, or_true, lc_eq, lc_ne, lc_lt, lc_ge, lc_gt, lc_le, nI_add, lN_add, nI_leI, nI_ltI, nI_eq, nI_clamp, pk_lLT, pk_lLE, pk_lEQ, pk_sub, vp_inT, nz_eq, nz_lt, nz_ge, nz_gt, nz_le, lz_eq, lz_lt, lz_ge, hP1, hP2, hP3, hP4, hP5, hP6, hP7, hP8, hP9, hP10, hP11, hP12, hP13, hP14, hP15, hP16, hP17, hP18, hP19, hP20]
  refine l1078i (d + 4) 8 0 h2 (by omega) hs1 (fun j hj => absurd hj (Nat.not_lt_zero _)) ?_
  intro h3 b1 b2 b3
  have hs3 := mS_Va b2 hs1
  have f3 := fVa_f (m := m) (h := h3) (v := nI 0)
  have f4 := fVa_trans a3 (fVa_trans b2 f3)
  simp (disch := omega) only [u_1078_28, B_1078_28, nI1T, Nat.left_eq_add, Nat.add_eq_left, Nat.add_eq_zero_iff, and_false, false_and, if_false, if_true, opsN, opsC, pm_1, lg, ls1, ls2, lq, List.length_cons, List.length_nil, cN, cL, callE, retV, retN, pm_pop, pm_cat, List.map_cons, List.map_nil, List.sum_cons, List.sum_nil, Value.category, Option.toList, List.cons_append, List.nil_append, ↓reduceIte, reduceCtorEq, Nat.reduceAdd, Nat.reduceLT, Nat.reduceLeDiff, Nat.reduceSub, Nat.reduceEqDiff, Nat.zero_le, Nat.sub_zero, Nat.le_refl, true_and, and_true, not_true_eq_false, not_false_eq_true, true_or, or_true, lc_eq, lc_ne, lc_lt, lc_ge, lc_gt, lc_le, nI_add, lN_add, nI_leI, nI_ltI, nI_eq, nI_clamp, pk_lLT, pk_lLE, pk_lEQ, pk_sub, vp_inT, nz_eq, nz_lt, nz_ge, nz_gt, nz_le, lz_eq, lz_lt, lz_ge, hP1, hP2, hP3, hP4, hP5, hP6, hP7, hP8, hP9, hP10, hP11, hP12, hP13, hP14, hP15, hP16, hP17, hP18, hP19, hP20, hs3.1]
  have md0 : mdV (sI h3 m (va_up (hI h3 m) 52 (nI 0))) m v0 0 := by
    refine ⟨⟨fun _ => 0, 0, isQ_eq (h := h2) (by rw [f3.1, b2.1]) (by rw [f3.2.1, b2.2.1]) (by rw [hP2, b3]) (a1 _).1, (a1 _).2, Nat.le_refl _⟩, fun i hi => absurd hi (Nat.not_lt_zero _), fun i hi => absurd hi (Nat.not_lt_zero _), fun j hj => ?_, ?_⟩
    · rw [hP1, va_up_ne _ _ (by omega)]; exact b1 j hj
    · rw [hI_at, va_up_self]; rfl
  refine l1078e (d + 1) (R := R) hEs h1 h6 Es [] 0 v0 _ rfl (mS_Va f4 hs) (evM_fr h1 h6 f4 hr) md0 (by omega) (v0_OK hb1 hb4) rfl ?_
  intro h5 j1 j2
  have f5 := fVa_trans f4 j2
  refine l1078 d (Es := Es) hR0 h1 h6 ht 200 0 0 100 _ h5 _ _ (by omega) (mS_Va f5 hs) (evM_fr h1 h6 f5 hr) (mdV_up (by omega) j1) (by decide) (by rw [Nat.zero_mul, Nat.add_zero]; exact vEvs_OK Es v0 (v0_OK hb1 hb4) rfl hEs) (by rw [(vEvs_L Es v0).2]; rfl) (fun h9 l1 l2 => hQ h9 (mdV_up (by decide) l1) (mS_Va (fVa_trans f5 l2) hs) (fVa_trans f5 l2))
end PM3
