/-! ===== replay: the reference goes ===== -/
section PM2
variable {m bits : Nat} {Q : pm_Q}
theorem l1078 (d : Nat) {t : Nat} {Es : List Ev} {R : List Ed} (hR0 : ∀ e, e ∈ R → rlB e) (h1 : Es.length ≤ 12) (h6 : R.length ≤ 16) (ht : t < 2 ^ 40) : ∀ (n k T B : Nat) (v : VT) (h : pm_H) (v4 v5 : Option Value), n + k = 200 → mS h m → evM h m Es R → mdV h m v B → B + 320 * (n + 1) < 2 ^ 50 → vOK bits T (1000000000 + k * 1000000000) v → v.2.2.1.length = k →
      (∀ h', mdV h' m (vGo bits t R n v) (B + 320 * n) → fVa m h h' → Q (.inl none) h') →
      pm_W PP (d + 5) 1078 Q 0 0 75 [some (.ref m), some (.int (nI bits)), some (.long (lN t)), none, v4, v5] [] h := by
  intro n
  induction n with
  | zero =>
    intro k T B v h v4 v5 hk hs hr hc hB hv hl hQ
    have e : k = 200 := by omega
    obtain ⟨⟨sn, st, q1, q2, q3⟩, p3, p4, p5, p6⟩ := id hc
    rw [hl, e] at p6
    have i11 := hv.1.2.2.2.2.2.2.2.2.2.2.1
    have i3 := hv.1.2.2.1
    have hQ' : Q (.inl none) h := hQ h (by rw [Nat.mul_zero, Nat.add_zero]; exact hc) (fVa_refl _ _)
    rw [u_1078_75]
    simp (disch := omega) only [B_1078_75, nI1T, Nat.left_eq_add, Nat.add_eq_left, Nat.add_eq_zero_iff, and_false, false_and, if_false, if_true, opsN, opsC, pm_1, lg, ls1, ls2, lq, List.length_cons, List.length_nil, cN, cL, callE, retV, retN, pm_pop, pm_cat, List.map_cons, List.map_nil, List.sum_cons, List.sum_nil, Value.category, Option.toList, List.cons_append, List.nil_append, ↓reduceIte, reduceCtorEq, Nat.reduceAdd, Nat.reduceLT, Nat.reduceLeDiff, Nat.reduceSub, Nat.reduceEqDiff, Nat.zero_le, Nat.sub_zero, Nat.le_refl, true_and, and_true, not_true_eq_false, not_false_eq_true, true_or, or_true, lc_eq, lc_ne, lc_lt, lc_ge, lc_gt, lc_le, nI_add, lN_add, nI_leI, nI_ltI, nI_eq, nI_clamp, pk_lLT, pk_lLE, pk_lEQ, pk_sub, vp_inT, nz_eq, nz_lt, nz_ge, nz_gt, nz_le, lz_eq, lz_lt, lz_ge, hP1, hP2, hP3, hP4, hP5, hP6, hP7, hP8, hP9, hP10, hP11, hP12, hP13, hP14, hP15, hP16, hP17, hP18, hP19, hP20, hs.1, m_g34 hs, m_t811 hs, m_n811 hs]
    refine c1014 (d + 2) q1 hv.1 ?_
    by_cases c2 : (qN v.1).length = 0
    · rw [c2]
      simp (disch := omega) only [u_1078_236, B_1078_236, nI1T, Nat.left_eq_add, Nat.add_eq_left, Nat.add_eq_zero_iff, and_false, false_and, if_false, if_true, opsN, opsC, pm_1, lg, ls1, ls2, lq, List.length_cons, List.length_nil, cN, cL, callE, retV, retN, pm_pop, pm_cat, List.map_cons, List.map_nil, List.sum_cons, List.sum_nil, Value.category, Option.toList, List.cons_append, List.nil_append, ↓reduceIte, reduceCtorEq, Nat.reduceAdd, Nat.reduceLT, Nat.reduceLeDiff, Nat.reduceSub, Nat.reduceEqDiff, Nat.zero_le, Nat.sub_zero, Nat.le_refl, true_and, and_true, not_true_eq_false, not_false_eq_true, true_or, or_true, lc_eq, lc_ne, lc_lt, lc_ge, lc_gt, lc_le, nI_add, lN_add, nI_leI, nI_ltI, nI_eq, nI_clamp, pk_lLT, pk_lLE, pk_lEQ, pk_sub, vp_inT, nz_eq, nz_lt, nz_ge, nz_gt, nz_le, lz_eq, lz_lt, lz_ge, hP1, hP2, hP3, hP4, hP5, hP6, hP7, hP8, hP9, hP10, hP11, hP12, hP13, hP14, hP15, hP16, hP17, hP18, hP19, hP20]
      exact hQ'
    · have hne : qN v.1 ≠ [] := fun z => c2 (by rw [z]; rfl)
      have mk : minK (qK v.1) (hdD v.1) < 2 ^ 40 := by
        obtain ⟨y, hy, e⟩ := minK_mem (K := qK v.1) (L := hdD v.1) (hdD_ne hne)
        rw [e]
        have : y ∈ qN v.1 := by rw [← hd_split]; exact List.mem_append_left _ hy
        exact hv.1.2.2.2.2.2.1 y (qI_line hv.1 y this).1
      simp (disch := omega) only [nI1T, Nat.left_eq_add, Nat.add_eq_left, Nat.add_eq_zero_iff, and_false, false_and, if_false, if_true, opsN, opsC, pm_1, lg, ls1, ls2, lq, List.length_cons, List.length_nil, cN, cL, callE, retV, retN, pm_pop, pm_cat, List.map_cons, List.map_nil, List.sum_cons, List.sum_nil, Value.category, Option.toList, List.cons_append, List.nil_append, ↓reduceIte, reduceCtorEq, Nat.reduceAdd, Nat.reduceLT, Nat.reduceLeDiff, Nat.reduceSub, Nat.reduceEqDiff, Nat.zero_le, Nat.sub_zero, Nat.le_refl, true_and, and_true, not_true_eq_false, not_false_eq_true, true_or, or_true, lc_eq, lc_ne, lc_lt, lc_ge, lc_gt, lc_le, nI_add, lN_add, nI_leI, nI_ltI, nI_eq, nI_clamp, pk_lLT, pk_lLE, pk_lEQ, pk_sub, vp_inT, nz_eq, nz_lt, nz_ge, nz_gt, nz_le, lz_eq, lz_lt, lz_ge, hP1, hP2, hP3, hP4, hP5, hP6, hP7, hP8, hP9, hP10, hP11, hP12, hP13, hP14, hP15, hP16, hP17, hP18, hP19, hP20, hs.1, m_g34 hs, m_t811 hs, m_n811 hs, c2]
      refine c1017 (d + 2) q1 hv.1 hne ?_
      by_cases c3 : t < minK (qK v.1) (hdD v.1)
      · simp (disch := omega) only [u_1078_236, B_1078_236, nI1T, Nat.left_eq_add, Nat.add_eq_left, Nat.add_eq_zero_iff, and_false, false_and, if_false, if_true, opsN, opsC, pm_1, lg, ls1, ls2, lq, List.length_cons, List.length_nil, cN, cL, callE, retV, retN, pm_pop, pm_cat, List.map_cons, List.map_nil, List.sum_cons, List.sum_nil, Value.category, Option.toList, List.cons_append, List.nil_append, ↓reduceIte, reduceCtorEq, Nat.reduceAdd, Nat.reduceLT, Nat.reduceLeDiff, Nat.reduceSub, Nat.reduceEqDiff, Nat.zero_le, Nat.sub_zero, Nat.le_refl, true_and, and_true, not_true_eq_false, not_false_eq_true, true_or, or_true, lc_eq, lc_ne, lc_lt, lc_ge, lc_gt, lc_le, nI_add, lN_add, nI_leI, nI_ltI, nI_eq, nI_clamp, pk_lLT, pk_lLE, pk_lEQ, pk_sub, vp_inT, nz_eq, nz_lt, nz_ge, nz_gt, nz_le, lz_eq, lz_lt, lz_ge, hP1, hP2, hP3, hP4, hP5, hP6, hP7, hP8, hP9, hP10, hP11, hP12, hP13, hP14, hP15, hP16, hP17, hP18, hP19, hP20, c3]
        exact hQ'
      · simp (disch := omega) only [u_1078_236, B_1078_236, nI1T, Nat.left_eq_add, Nat.add_eq_left, Nat.add_eq_zero_iff, and_false, false_and, if_false, if_true, opsN, opsC, pm_1, lg, ls1, ls2, lq, List.length_cons, List.length_nil, cN, cL, callE, retV, retN, pm_pop, pm_cat, List.map_cons, List.map_nil, List.sum_cons, List.sum_nil, Value.category, Option.toList, List.cons_append, List.nil_append, ↓reduceIte, reduceCtorEq, Nat.reduceAdd, Nat.reduceLT, Nat.reduceLeDiff, Nat.reduceSub, Nat.reduceEqDiff, Nat.zero_le, Nat.sub_zero, Nat.le_refl, true_and, and_true, not_true_eq_false, not_false_eq_true, true_or, or_true, lc_eq, lc_ne, lc_lt, lc_ge, lc_gt, lc_le, nI_add, lN_add, nI_leI, nI_ltI, nI_eq, nI_clamp, pk_lLT, pk_lLE, pk_lEQ, pk_sub, vp_inT, nz_eq, nz_lt, nz_ge, nz_gt, nz_le, lz_eq, lz_lt, lz_ge, hP1, hP2, hP3, hP4, hP5, hP6, hP7, hP8, hP9, hP10, hP11, hP12, hP13, hP14, hP15, hP16, hP17, hP18, hP19, hP20, c3, hs.1, p6]
        exact hQ'
  | succ n ih =>
    intro k T B v h v4 v5 hk hs hr hc hB hv hl hQ
    have c1 : ¬ 200 ≤ k := by omega
    have hb : k * 1000000000 ≤ 199 * 1000000000 := Nat.mul_le_mul_right _ (by omega)
    obtain ⟨⟨sn, st, q1, q2, q3⟩, p3, p4, p5, p6⟩ := id hc
    have p6' := p6
    rw [hl] at p6'
    have i11 := hv.1.2.2.2.2.2.2.2.2.2.2.1
    have i3 := hv.1.2.2.1
    rw [u_1078_75]
    simp (disch := omega) only [B_1078_75, nI1T, Nat.left_eq_add, Nat.add_eq_left, Nat.add_eq_zero_iff, and_false, false_and, if_false, if_true, opsN, opsC, pm_1, lg, ls1, ls2, lq, List.length_cons, List.length_nil, cN, cL, callE, retV, retN, pm_pop, pm_cat, List.map_cons, List.map_nil, List.sum_cons, List.sum_nil, Value.category, Option.toList, List.cons_append, List.nil_append, ↓reduceIte, reduceCtorEq, Nat.reduceAdd, Nat.reduceLT, Nat.reduceLeDiff, Nat.reduceSub, Nat.reduceEqDiff, Nat.zero_le, Nat.sub_zero, Nat.le_refl, true_and, and_true, not_true_eq_false, not_false_eq_true, true_or, or_true, lc_eq, lc_ne, lc_lt, lc_ge, lc_gt, lc_le, nI_add, lN_add, nI_leI, nI_ltI, nI_eq, nI_clamp, pk_lLT, pk_lLE, pk_lEQ, pk_sub, vp_inT, nz_eq, nz_lt, nz_ge, nz_gt, nz_le, lz_eq, lz_lt, lz_ge, hP1, hP2, hP3, hP4, hP5, hP6, hP7, hP8, hP9, hP10, hP11, hP12, hP13, hP14, hP15, hP16, hP17, hP18, hP19, hP20, hs.1, m_g34 hs, m_t811 hs, m_n811 hs]
    refine c1014 (d + 2) q1 hv.1 ?_
    by_cases c2 : (qN v.1).length = 0
    · have eG : vGo bits t R (n + 1) v = v := by show (if _ then _ else v) = _; rw [if_neg (fun q => q.1 c2)]
      rw [eG] at hQ
      rw [c2]
      simp (disch := omega) only [u_1078_236, B_1078_236, nI1T, Nat.left_eq_add, Nat.add_eq_left, Nat.add_eq_zero_iff, and_false, false_and, if_false, if_true, opsN, opsC, pm_1, lg, ls1, ls2, lq, List.length_cons, List.length_nil, cN, cL, callE, retV, retN, pm_pop, pm_cat, List.map_cons, List.map_nil, List.sum_cons, List.sum_nil, Value.category, Option.toList, List.cons_append, List.nil_append, ↓reduceIte, reduceCtorEq, Nat.reduceAdd, Nat.reduceLT, Nat.reduceLeDiff, Nat.reduceSub, Nat.reduceEqDiff, Nat.zero_le, Nat.sub_zero, Nat.le_refl, true_and, and_true, not_true_eq_false, not_false_eq_true, true_or, or_true, lc_eq, lc_ne, lc_lt, lc_ge, lc_gt, lc_le, nI_add, lN_add, nI_leI, nI_ltI, nI_eq, nI_clamp, pk_lLT, pk_lLE, pk_lEQ, pk_sub, vp_inT, nz_eq, nz_lt, nz_ge, nz_gt, nz_le, lz_eq, lz_lt, lz_ge, hP1, hP2, hP3, hP4, hP5, hP6, hP7, hP8, hP9, hP10, hP11, hP12, hP13, hP14, hP15, hP16, hP17, hP18, hP19, hP20]
      exact hQ h (mdV_up (Nat.le_add_right _ _) hc) (fVa_refl _ _)
    · have hne : qN v.1 ≠ [] := fun z => c2 (by rw [z]; rfl)
      have mk : minK (qK v.1) (hdD v.1) < 2 ^ 40 := by
        obtain ⟨y, hy, e⟩ := minK_mem (K := qK v.1) (L := hdD v.1) (hdD_ne hne)
        rw [e]
        have : y ∈ qN v.1 := by rw [← hd_split]; exact List.mem_append_left _ hy
        exact hv.1.2.2.2.2.2.1 y (qI_line hv.1 y this).1
      simp (disch := omega) only [nI1T, Nat.left_eq_add, Nat.add_eq_left, Nat.add_eq_zero_iff, and_false, false_and, if_false, if_true, opsN, opsC, pm_1, lg, ls1, ls2, lq, List.length_cons, List.length_nil, cN, cL, callE, retV, retN, pm_pop, pm_cat, List.map_cons, List.map_nil, List.sum_cons, List.sum_nil, Value.category, Option.toList, List.cons_append, List.nil_append, ↓reduceIte, reduceCtorEq, Nat.reduceAdd, Nat.reduceLT, Nat.reduceLeDiff, Nat.reduceSub, Nat.reduceEqDiff, Nat.zero_le, Nat.sub_zero, Nat.le_refl, true_and, and_true, not_true_eq_false, not_false_eq_true, true_or, or_true, lc_eq, lc_ne, lc_lt, lc_ge, lc_gt, lc_le, nI_add, lN_add, nI_leI, nI_ltI, nI_eq, nI_clamp, pk_lLT, pk_lLE, pk_lEQ, pk_sub, vp_inT, nz_eq, nz_lt, nz_ge, nz_gt, nz_le, lz_eq, lz_lt, lz_ge, hP1, hP2, hP3, hP4, hP5, hP6, hP7, hP8, hP9, hP10, hP11, hP12, hP13, hP14, hP15, hP16, hP17, hP18, hP19, hP20, hs.1, m_g34 hs, m_t811 hs, m_n811 hs, c2]
      refine c1017 (d + 2) q1 hv.1 hne ?_
      by_cases c3 : t < minK (qK v.1) (hdD v.1)
      · have eG : vGo bits t R (n + 1) v = v := by show (if _ then _ else v) = _; rw [if_neg (fun q => absurd q.2 (by omega))]
        rw [eG] at hQ
        simp (disch := omega) only [u_1078_236, B_1078_236, nI1T, Nat.left_eq_add, Nat.add_eq_left, Nat.add_eq_zero_iff, and_false, false_and, if_false, if_true, opsN, opsC, pm_1, lg, ls1, ls2, lq, List.length_cons, List.length_nil, cN, cL, callE, retV, retN, pm_pop, pm_cat, List.map_cons, List.map_nil, List.sum_cons, List.sum_nil, Value.category, Option.toList, List.cons_append, List.nil_append, ↓reduceIte, reduceCtorEq, Nat.reduceAdd, Nat.reduceLT, Nat.reduceLeDiff, Nat.reduceSub, Nat.reduceEqDiff, Nat.zero_le, Nat.sub_zero, Nat.le_refl, true_and, and_true, not_true_eq_false, not_false_eq_true, true_or, or_true, lc_eq, lc_ne, lc_lt, lc_ge, lc_gt, lc_le, nI_add, lN_add, nI_leI, nI_ltI, nI_eq, nI_clamp, pk_lLT, pk_lLE, pk_lEQ, pk_sub, vp_inT, nz_eq, nz_lt, nz_ge, nz_gt, nz_le, lz_eq, lz_lt, lz_ge, hP1, hP2, hP3, hP4, hP5, hP6, hP7, hP8, hP9, hP10, hP11, hP12, hP13, hP14, hP15, hP16, hP17, hP18, hP19, hP20, c3]
        exact hQ h (mdV_up (Nat.le_add_right _ _) hc) (fVa_refl _ _)
      · have eG : vGo bits t R (n + 1) v = vGo bits t R n (vTurn bits R v) := by show (if _ then _ else v) = _; rw [if_pos ⟨c2, by omega⟩]
        rw [eG] at hQ
        have hH0 : 1000000000 + k * 1000000000 + 1000000000 < 2 ^ 40 := Nat.lt_of_le_of_lt (Nat.add_le_add_right (Nat.add_le_add_left hb _) _) (by decide)
        have hBr0 : B + 300 + R.length < 2 ^ 50 := by omega
        have hB2 : B + 320 + 320 * (n + 1) < 2 ^ 50 := by rw [Nat.add_assoc, Nat.add_comm 320, ← Nat.mul_succ]; exact hB
        simp (disch := omega) only [nI1T, Nat.left_eq_add, Nat.add_eq_left, Nat.add_eq_zero_iff, and_false, false_and, if_false, if_true, opsN, opsC, pm_1, lg, ls1, ls2, lq, List.length_cons, List.length_nil, cN, cL, callE, retV, retN, pm_pop, pm_cat, List.map_cons, List.map_nil, List.sum_cons, List.sum_nil, Value.category, Option.toList, List.cons_append, List.nil_append, ↓reduceIte, reduceCtorEq, Nat.reduceAdd, Nat.reduceLT, Nat.reduceLeDiff, Nat.reduceSub, Nat.reduceEqDiff, Nat.zero_le, Nat.sub_zero, Nat.le_refl, true_and, and_true, not_true_eq_false, not_false_eq_true, true_or, or_true, lc_eq, lc_ne, lc_lt, lc_ge, lc_gt, lc_le, nI_add, lN_add, nI_leI, nI_ltI, nI_eq, nI_clamp, pk_lLT, pk_lLE, pk_lEQ, pk_sub, vp_inT, nz_eq, nz_lt, nz_ge, nz_gt, nz_le, lz_eq, lz_lt, lz_ge, hP1, hP2, hP3, hP4, hP5, hP6, hP7, hP8, hP9, hP10, hP11, hP12, hP13, hP14, hP15, hP16, hP17, hP18, hP19, hP20, hs.1, m_g34 hs, m_t811 hs, m_n811 hs, m_g48 hs, m_t819 hs, m_n819 hs, p6', c1, c3]
        refine c1018 d (mU_of hs) q1 hv.1 q2 hne (by omega) ?_
        intro h2 sn' st' z1 z2 z3 z4 z5
        obtain ⟨u1, u2, u3, u4⟩ := qI_take hv.1 hne
        obtain ⟨tk1, tk2, tk3, tk4, tk5⟩ := take_f hv.1 hne
        obtain ⟨vf, vl, vt⟩ := vFo_take hv hne
        have hs2 := mS_Va (fVa_Q z5) hs
        have o := fun k (q : k ≠ m + 26) => z5.2.2.2.2.1 k q
        have gl : hI h2 (m + 819) (qTop bits v.1) = nI (v.2.1 (qTop bits v.1)) := by rw [o _ (by omega)]; exact p3 _ vt
        have gc : hI h2 (m + 821) (v.2.1 (qTop bits v.1)) = nI (v.2.2.2 (v.2.1 (qTop bits v.1))) := by rw [o _ (by omega)]; exact p5 _ vl
        have g52 : hI h2 m 52 = nI k := by rw [o _ (by omega)]; exact p6'
        have g0 : hL h2 (m + 811) 0 = lN (qL (qTake bits v.1)) := z1.2.2.1
        have t300 : qTop bits v.1 < 300 := by omega
        have k200 : k < 200 := by omega
        have wB : id (B + 320 * (n + 1 + 1) < 2 ^ 50) := hB
        have wB2 : id (B + 320 + 320 * (n + 1) < 2 ^ 50) := hB2
        have wb : id (k * 1000000000 ≤ 199 * 1000000000) := hb
        have hH1 : id (1000000000 + k * 1000000000 + 1000000000 < 2 ^ 40) := hH0
        have hBr : id (B + 300 + R.length < 2 ^ 50) := hBr0
        have wst : id (st' ≤ st + (qN v.1).length ∧ st ≤ B) := ⟨z3, q3⟩
        clear hB hB2 hb z3 hH0 hBr0
        simp (disch := omega) only [nI1T, Nat.left_eq_add, Nat.add_eq_left, Nat.add_eq_zero_iff, and_false, false_and, if_false, if_true, opsN, opsC, pm_1, lg, ls1, ls2, lq, List.length_cons, List.length_nil, cN, cL, callE, retV, retN, pm_pop, pm_cat, List.map_cons, List.map_nil, List.sum_cons, List.sum_nil, Value.category, Option.toList, List.cons_append, List.nil_append, ↓reduceIte, reduceCtorEq, Nat.reduceAdd, Nat.reduceLT, Nat.reduceLeDiff, Nat.reduceSub, Nat.reduceEqDiff, Nat.zero_le, Nat.sub_zero, Nat.le_refl, true_and, and_true, not_true_eq_false, not_false_eq_true, true_or, or_true, lc_eq, lc_ne, lc_lt, lc_ge, lc_gt, lc_le, nI_add, lN_add, nI_leI, nI_ltI, nI_eq, nI_clamp, pk_lLT, pk_lLE, pk_lEQ, pk_sub, vp_inT, nz_eq, nz_lt, nz_ge, nz_gt, nz_le, lz_eq, lz_lt, lz_ge, hP1, hP2, hP3, hP4, hP5, hP6, hP7, hP8, hP9, hP10, hP11, hP12, hP13, hP14, hP15, hP16, hP17, hP18, hP19, hP20, hs2.1, m_g34 hs2, m_t811 hs2, m_n811 hs2, m_g48 hs2, m_t819 hs2, m_n819 hs2, m_g49 hs2, m_t820 hs2, m_n820 hs2, m_g50 hs2, m_t821 hs2, m_n821 hs2, m_g51 hs2, m_t822 hs2, m_n822 hs2, gl, g0, g52, gc, t300, k200, vl, va_upE]
        have hst : st' ≤ B + 300 := by have q := wst.1; have q2 := wst.2; clear wB wB2 wb; omega
        have f0 : ∀ (a : Int64) (b : Int32) (e : Int32) (g : Nat → Int32), fVa m h2 (sI (sI (sL (sI h2 (m + 820) (va_up (hI h2 (m + 820)) k b)) (m + 822) (va_up (hL h2 (m + 822)) k a)) m (va_up (hI h2 m) 52 e)) (m + 821) g) := fun a b e g => by
          have q := fVa_f (m := m) (h := sL (sI h2 (m + 820) (va_up (hI h2 (m + 820)) k b)) (m + 822) (va_up (hL h2 (m + 822)) k a)) (v := e)
          rw [hP6, hP1, va_up_ne _ _ (show m ≠ m + 820 by omega)] at q
          exact fVa_trans (fVa_r (by omega) (by omega)) (fVa_trans (fVa_L (by omega)) (fVa_trans q (fVa_r (by omega) (by omega))))
        have f1 := fVa_trans (fVa_Q z5) (f0 (lN (qL (qTake bits v.1))) (nI (v.2.1 (qTop bits v.1))) (nI (k + 1)) (va_up (hI h2 (m + 821)) (v.2.1 (qTop bits v.1)) (nI (v.2.2.2 (v.2.1 (qTop bits v.1)) + 1))))
        have md1 : mdV (sI (sI (sL (sI h2 (m + 820) (va_up (hI h2 (m + 820)) k (nI (v.2.1 (qTop bits v.1))))) (m + 822) (va_up (hL h2 (m + 822)) k (lN (qL (qTake bits v.1))))) m (va_up (hI h2 m) 52 (nI (k + 1)))) (m + 821) (va_up (hI h2 (m + 821)) (v.2.1 (qTop bits v.1)) (nI (v.2.2.2 (v.2.1 (qTop bits v.1)) + 1)))) m (vTake bits v) (B + 300) := by
          refine ⟨⟨sn', st', isQ_eq (h := h2) rfl rfl (by rw [hP2, hP2, hP7, va_up_ne _ _ (by omega), hP2]) z1, z2, hst⟩, fun i hi => ?_, fun i hi => ?_, fun j hj => ?_, ?_⟩
          · have hi : i < qC (qTake bits v.1) := hi
            rw [u2] at hi
            rw [hP1, va_up_ne _ _ (by omega), hP1, va_up_ne _ _ (by omega), hP6, hP1, va_up_ne _ _ (by omega), o _ (by omega)]; exact p3 i hi
          · have hi : i < (v.2.2.1 ++ [qTop bits v.1]).length := hi
            rw [List.length_append, List.length_singleton] at hi
            show _ = nI (v.2.1 ((v.2.2.1 ++ [qTop bits v.1]).getD i 0)) ∧ _ = lN (qK (qTake bits v.1) ((v.2.2.1 ++ [qTop bits v.1]).getD i 0))
            rw [hP1, va_up_ne _ _ (by omega), hP1, va_up_ne _ _ (by omega), hP6, hI_at, hP2, hP2, hP7, va_up_self, va_upE, va_upE, tk2]
            by_cases e : i = k
            · rw [if_pos e, if_pos e, e, ← hl, getD_mid v.2.2.1 (qTop bits v.1) [], tk3]; exact ⟨rfl, rfl⟩
            · rw [if_neg e, if_neg e, List.getD_eq_getElem?_getD, List.getElem?_append_left (by omega), ← List.getD_eq_getElem?_getD, o _ (by omega), z5.2.2.2.2.2 _ (by omega)]
              exact p4 i (by omega)
          · rw [hI_at]
            show va_up (hI h2 (m + 821)) (v.2.1 (qTop bits v.1)) (nI (v.2.2.2 (v.2.1 (qTop bits v.1)) + 1)) j = nI (va_up v.2.2.2 (v.2.1 (qTop bits v.1)) (v.2.2.2 (v.2.1 (qTop bits v.1)) + 1) j)
            rw [va_upE, va_upE]; split
            · rfl
            · rw [o _ (by omega)]; exact p5 j hj
          · rw [hP1, va_up_ne _ _ (by omega), hI_at, va_up_self]
            show _ = nI (v.2.2.1 ++ [_]).length
            rw [List.length_append, hl]; rfl
        generalize sI (sI (sL (sI h2 (m + 820) (va_up (hI h2 (m + 820)) k (nI (v.2.1 (qTop bits v.1))))) (m + 822) (va_up (hL h2 (m + 822)) k (lN (qL (qTake bits v.1))))) m (va_up (hI h2 m) 52 (nI (k + 1)))) (m + 821) (va_up (hI h2 (m + 821)) (v.2.1 (qTop bits v.1)) (nI (v.2.2.2 (v.2.1 (qTop bits v.1)) + 1))) = h3 at *
        refine l1078r (d + 1) (Es := Es) vl hR0 h1 h6 hH1 R [] (B + 300) (vTake bits v) h3 rfl (mS_Va f1 hs) (evM_fr h1 h6 f1 hr) md1 hBr vf ?_
        intro h4 j1 j2
        have f2 := fVa_trans f1 j2
        have t1 := vOK_turn hv hne hR0 hH1
        rw [show 1000000000 + k * 1000000000 + 1000000000 = 1000000000 + (k + 1) * 1000000000 by rw [Nat.add_mul, Nat.one_mul, Nat.add_assoc]] at t1
        exact ih (k + 1) (T + 1) (B + 320) (vTurn bits R v) h4 _ _ (by omega) (mS_Va f2 hs) (evM_fr h1 h6 f2 hr) (mdV_up (by omega) j1) wB2 t1 (by rw [vTurn_len, hl]) (fun h5 l1 l2 => hQ h5 (mdV_up (by rw [Nat.add_assoc, Nat.add_comm 320, ← Nat.mul_succ]; exact Nat.le_refl _) l1) (fVa_trans f2 l2))
end PM2
