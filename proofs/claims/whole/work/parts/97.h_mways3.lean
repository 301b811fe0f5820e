/-! ===== ways: the reference's beginning ===== -/
section MW4
variable {h : pm_H} {m bits : Nat} {Q : pm_Q}
theorem c1062 (d : Nat) (hs : mS h m) (hQ : ∀ h' , (∀ sn, isQ h' (m + 811) q0 sn 0 ∧ qT q0 sn 0) → isU h' (m + 26) (fun _ => false) → fWa m h h' → hI h' m = hI h m → Q (.inl none) h') : pm_M PP (d + 2) 1062 [.ref m] h Q := by
  rw [e_1062]
  simp (disch := omega) only [u_1062_0, B_1062_0, nI1T, Nat.left_eq_add, Nat.add_eq_left, Nat.add_eq_zero_iff, and_false, false_and, if_false, if_true, opsN, opsC, pm_1, lg, ls1, ls2, lq, List.length_cons, List.length_nil, cN, cL, callE, retV, retN, pm_pop, pm_cat, List.map_cons, List.map_nil, List.sum_cons, List.sum_nil, Value.category, Option.toList, List.cons_append, List.nil_append, ↓reduceIte, reduceCtorEq, Nat.reduceAdd, Nat.reduceLT, Nat.reduceLeDiff, Nat.reduceSub, Nat.reduceEqDiff, Nat.zero_le, Nat.sub_zero, Nat.le_refl, true_and, and_true, not_true_eq_false, not_false_eq_true, true_or, or_true, lc_eq, lc_ne, lc_lt, lc_ge, lc_gt, lc_le, nI_add, lN_add, nI_leI, nI_ltI, nI_eq, nI_clamp, pk_lLT, pk_lLE, pk_lEQ, pk_sub, vp_inT, nz_eq, nz_lt, nz_ge, nz_gt, nz_le, lz_eq, lz_lt, lz_ge, hP1, hP2, hP3, hP4, hP5, hP6, hP7, hP8, hP9, hP10, hP11, hP12, hP13, hP14, hP15, hP16, hP17, hP18, hP19, hP20, hs.1, m_g34 hs, m_t811 hs, m_n811 hs]
  refine c1020 d (m_t811 hs) (m_n811 hs) ?_
  intro g hg
  simp (disch := omega) only [nI1T, Nat.left_eq_add, Nat.add_eq_left, Nat.add_eq_zero_iff, and_false, false_and, if_false, if_true, opsN, opsC, pm_1, lg, ls1, ls2, lq, List.length_cons, List.length_nil, cN, cL, callE, retV, retN, pm_pop, pm_cat, List.map_cons, List.map_nil, List.sum_cons, List.sum_nil, Value.category, Option.toList, List.cons_append, List.nil_append, ↓reduceIte, reduceCtorEq, Nat.reduceAdd, Nat.reduceLT, Nat.reduceLeDiff, Nat.reduceSub, Nat.reduceEqDiff, Nat.zero_le, Nat.sub_zero, Nat.le_refl, true_and, and_true, not_true_eq_false, not_false_eq_true, true_or, or_true, lc_eq, lc_ne, lc_lt, lc_ge, lc_gt, lc_le, nI_add, lN_add, nI_leI, nI_ltI, nI_eq, nI_clamp, pk_lLT, pk_lLE, pk_lEQ, pk_sub, vp_inT, nz_eq, nz_lt, nz_ge, nz_gt, nz_le, lz_eq, lz_lt, lz_ge, hP1, hP2, hP3, hP4, hP5, hP6, hP7, hP8, hP9, hP10, hP11, hP12, hP13, hP14, hP15, hP16, hP17, hP18, hP19, hP20]
  have e1 := fun sn => q_emp q0 sn (m_t811 hs) (m_n811 hs) hg
  have f1 := fWa_L (m := m) (k := m + 811) (h := h) (g := g) (by omega)
  have hs1 := mS_Wa f1 hs
  have hm1 : hI (sL h (m + 811) g) m = hI h m := rfl
  generalize sL h (m + 811) g = h1 at *
  refine l1062 d 160 0 h1 (by omega) hs1 (fun j hj => absurd hj (Nat.not_lt_zero _)) ?_
  intro h2 g2 e2 hg2
  subst e2
  refine hQ _ (fun sn => ⟨isQ_eq (h := h1) rfl rfl rfl (e1 sn).1, (e1 sn).2⟩) (fun k hk => ?_) (fWa_trans f1 fWa_u) ?_
  · rw [hI_at, hg2 k hk]; rfl
  · rw [hP1, va_up_ne _ _ (by omega)]; exact hm1
theorem l1070i (d : Nat) {v1 v2 : Int32} : ∀ (n k : Nat) (h : pm_H), n + k = 16 → mS h m → (∀ j, j < k → (hI h (m + 813) j = -nI 1 ∧ hI h (m + 815) j = -nI 1 ∧ hI h (m + 816) j = -nI 1 ∧ hI h (m + 817) j = nI 0) ∧ hL h (m + 818) j = -lN 1) →
    (∀ h', (∀ j, j < 16 → (hI h' (m + 813) j = -nI 1 ∧ hI h' (m + 815) j = -nI 1 ∧ hI h' (m + 816) j = -nI 1 ∧ hI h' (m + 817) j = nI 0) ∧ hL h' (m + 818) j = -lN 1) → fWa m h h' → hI h' m = hI h m → hL h' (m + 811) = hL h (m + 811) → pm_W PP (d + 1) 1070 Q 0 0 55 [some (.ref m), some (.int v1), some (.int v2), some (.int (nI 16)), none] [] h') →
    pm_W PP (d + 1) 1070 Q 0 0 6 [some (.ref m), some (.int v1), some (.int v2), some (.int (nI k)), none] [] h := by
  intro n
  induction n with
  | zero =>
    intro k h hk hs hz hQ
    have e : k = 16 := by omega
    subst e
    rw [u_1070_6]
    simp (disch := omega) only [B_1070_6, nI1T, Nat.left_eq_add, Nat.add_eq_left, Nat.add_eq_zero_iff, and_false, false_and, if_false, if_true, opsN, opsC, pm_1, lg, ls1, ls2, lq, List.length_cons, List.length_nil, cN, cL, callE, retV, retN, pm_pop, pm_cat, List.map_cons, List.map_nil, List.sum_cons, List.sum_nil, Value.category, Option.toList, List.cons_append, List.nil_append, ↓reduceIte, reduceCtorEq, Nat.reduceAdd, Nat.reduceLT, Nat.reduceLeDiff, Nat.reduceSub, Nat.reduceEqDiff, Nat.zero_le, Nat.sub_zero, Nat.le_refl, true_and, and_true, not_true_eq_false, not_false_eq_true, true_or, or_true, lc_eq, lc_ne, lc_lt, lc_ge, lc_gt, lc_le, nI_add, lN_add, nI_leI, nI_ltI, nI_eq, nI_clamp, pk_lLT, pk_lLE, pk_lEQ, pk_sub, vp_inT, nz_eq, nz_lt, nz_ge, nz_gt, nz_le, lz_eq, lz_lt, lz_ge, hP1, hP2, hP3, hP4, hP5, hP6, hP7, hP8, hP9, hP10, hP11, hP12, hP13, hP14, hP15, hP16, hP17, hP18, hP19, hP20]
    exact hQ h hz (fWa_refl _ _) rfl rfl
  | succ n ih =>
    intro k h hk hs hz hQ
    have c1 : ¬ 16 ≤ k := by omega
    have c2 : k < 16 := by omega
    rw [u_1070_6]
    simp (disch := omega) only [B_1070_6, nI1T, Nat.left_eq_add, Nat.add_eq_left, Nat.add_eq_zero_iff, and_false, false_and, if_false, if_true, opsN, opsC, pm_1, lg, ls1, ls2, lq, List.length_cons, List.length_nil, cN, cL, callE, retV, retN, pm_pop, pm_cat, List.map_cons, List.map_nil, List.sum_cons, List.sum_nil, Value.category, Option.toList, List.cons_append, List.nil_append, ↓reduceIte, reduceCtorEq, Nat.reduceAdd, Nat.reduceLT, Nat.reduceLeDiff, Nat.reduceSub, Nat.reduceEqDiff, Nat.zero_le, Nat.sub_zero, Nat.le_refl, true_and, and_true, not_true_eq_false, not_false_eq_true, true_or, or_true, lc_eq, lc_ne, lc_lt, lc_ge, lc_gt, lc_le, nI_add, lN_add, nI_leI, nI_ltI, nI_eq, nI_clamp, pk_lLT, pk_lLE, pk_lEQ, pk_sub, vp_inT, nz_eq, nz_lt, nz_ge, nz_gt, nz_le, lz_eq, lz_lt, lz_ge, hP1, hP2, hP3, hP4, hP5, hP6, hP7, hP8, hP9, hP10, hP11, hP12, hP13, hP14, hP15, hP16, hP17, hP18, hP19, hP20, hs.1, m_g39 hs, m_t813 hs, m_n813 hs, m_g41 hs, m_t815 hs, m_n815 hs, m_g42 hs, m_t816 hs, m_n816 hs, m_g43 hs, m_t817 hs, m_n817 hs, m_g44 hs, m_t818 hs, m_n818 hs, c1, c2, va_upE]
    have f1 : fWa m h (sL (sI (sI (sI (sI h (m + 813) (va_up (hI h (m + 813)) k (-nI 1))) (m + 815) (va_up (hI h (m + 815)) k (-nI 1))) (m + 816) (va_up (hI h (m + 816)) k (-nI 1))) (m + 817) (va_up (hI h (m + 817)) k (nI 0))) (m + 818) (va_up (hL h (m + 818)) k (-lN 1))) :=
      fWa_trans (fWa_r (by omega) (by omega)) (fWa_trans (fWa_r (by omega) (by omega)) (fWa_trans (fWa_r (by omega) (by omega)) (fWa_trans (fWa_r (by omega) (by omega)) (fWa_L (by omega)))))
    refine ih (k + 1) _ (by omega) (mS_Wa f1 hs) (fun j hj => ?_) (fun h2 a1 a2 a3 a4 => hQ h2 a1 (fWa_trans f1 a2) ?_ ?_)
    · have up : ∀ (f : Nat → Int32) (v : Int32), (j < k → f j = v) → va_up f k v j = v := fun f v q => by
        rw [va_upE]; split
        · rfl
        · exact q (by omega)
      refine ⟨⟨?_, ?_, ?_, ?_⟩, ?_⟩
      · rw [hP6, hP1, va_up_ne _ _ (by omega), hP1, va_up_ne _ _ (by omega), hP1, va_up_ne _ _ (by omega), hI_at]; exact up _ _ (fun q => (hz j q).1.1)
      · rw [hP6, hP1, va_up_ne _ _ (by omega), hP1, va_up_ne _ _ (by omega), hI_at]; exact up _ _ (fun q => (hz j q).1.2.1)
      · rw [hP6, hP1, va_up_ne _ _ (by omega), hI_at]; exact up _ _ (fun q => (hz j q).1.2.2.1)
      · rw [hP6, hI_at]; exact up _ _ (fun q => (hz j q).1.2.2.2)
      · rw [hP7, va_up_self, va_upE]; split
        · rfl
        · exact (hz j (by omega)).2
    · rw [a3, hP6, hP1, va_up_ne _ _ (by omega), hP1, va_up_ne _ _ (by omega), hP1, va_up_ne _ _ (by omega), hP1, va_up_ne _ _ (by omega)]
    · rw [a4, hP7, va_up_ne _ _ (by omega), hP2, hP2, hP2, hP2]
theorem c1070 (d : Nat) {nd : Nat} {E : List Ed} (hb1 : 1 ≤ bits) (hb4 : bits ≤ 4) (hnd : nd < 16) (hE : ∀ e, e ∈ E → edB e) (h6 : E.length ≤ 60) (hs : mS h m) (hr : edM h m E)
    (hQ : ∀ h', mdW h' m (wAll bits nd E) 10000 → hI h' m 47 = nI (wM (wAll bits nd E)) → mS h' m → fWa m h h' → Q (.inl none) h') : pm_M PP (d + 6) 1070 [.ref m, .int (nI bits), .int (nI nd)] h Q := by
  rw [e_1070]
  simp (disch := omega) only [u_1070_0, B_1070_0, nI1T, Nat.left_eq_add, Nat.add_eq_left, Nat.add_eq_zero_iff, and_false, false_and, if_false, if_true, opsN, opsC, pm_1, lg, ls1, ls2, lq, List.length_cons, List.length_nil, cN, cL, callE, retV, retN, pm_pop, pm_cat, List.map_cons, List.map_nil, List.sum_cons, List.sum_nil, Value.category, Option.toList, List.cons_append, List.nil_append, ↓reduceIte, reduceCtorEq, Nat.reduceAdd, Nat.reduceLT, Nat.reduceLeDiff, Nat.reduceSub, Nat.reduceEqDiff, Nat.zero_le, Nat.sub_zero, Nat.le_refl, true_and, and_true, not_true_eq_false, not_false_eq_true, true_or, or_true, lc_eq, lc_ne, lc_lt, lc_ge, lc_gt, lc_le, nI_add, lN_add, nI_leI, nI_ltI, nI_eq, nI_clamp, pk_lLT, pk_lLE, pk_lEQ, pk_sub, vp_inT, nz_eq, nz_lt, nz_ge, nz_gt, nz_le, lz_eq, lz_lt, lz_ge, hP1, hP2, hP3, hP4, hP5, hP6, hP7, hP8, hP9, hP10, hP11, hP12, hP13, hP14, hP15, hP16, hP17, hP18, hP19, hP20, hs.1]
  refine c1062 (d + 3) hs ?_
  intro h1 a1 a2 a3 a4
  have hs1 := mS_Wa a3 hs
  simp (disch := omega) only [nI1T, Nat.left_eq_add, Nat.add_eq_left, Nat.add_eq_zero_iff, and_false, false_and, if_false, if_true, opsN, opsC, pm_1, lg, ls1, ls2, lq, List.length_cons, List.length_nil, cN, cL, callE, retV, retN, pm_pop, pm_cat, List.map_cons, List.map_nil, List.sum_cons, List.sum_nil, Value.category, Option.toList, List.cons_append, List.nil_append, ↓reduceIte, reduceCtorEq, Nat.reduceAdd, Nat.reduceLT, Nat.reduceLeDiff, Nat.reduceSub, Nat.reduceEqDiff, Nat.zero_le, Nat.sub_zero, Nat.le_refl, true_and, and_true, not_true_eq_false, not_false_eq_true, true_or, or_true, lc_eq, lc_ne, lc_lt, lc_ge, lc_gt, lc_le, nI_add, lN_add, nI_leI, nI_ltI, nI_eq, nI_clamp, pk_lLT, pk_lLE, pk_lEQ, pk_sub, vp_inT, nz_eq, nz_lt, nz_ge, nz_gt, nz_le, lz_eq, lz_lt, lz_ge, hP1, hP2, hP3, hP4, hP5, hP6, hP7, hP8, hP9, hP10, hP11, hP12, hP13, hP14, hP15, hP16, hP17, hP18, hP19, hP20]
  refine l1070i (d + 4) 16 0 h1 (by omega) hs1 (fun j hj => absurd hj (Nat.not_lt_zero _)) ?_
  intro h2 b1 b2 b3 b4
  have hs2 := mS_Wa b2 hs1
  have f3 : fWa m h2 (sI h2 m (va_up (va_up (va_up (hI h2 m) 45 (nI 0)) 46 (nI 0)) 47 (nI 1))) :=
    ⟨rfl, rfl, rfl, rfl, fun _ _ _ => rfl, fun k z _ _ => by rw [hP1, va_up_ne _ _ z], fun k q1 q2 q3 => by rw [hI_at, va_up_ne _ _ q3, va_up_ne _ _ q2, va_up_ne _ _ q1]⟩
  have q2 := isQ_eq (h := h1) (h' := sI h2 m (va_up (va_up (va_up (hI h2 m) 45 (nI 0)) 46 (nI 0)) 47 (nI 1))) (by rw [f3.1, b2.1]) (by rw [f3.2.1, b2.2.1]) (by show hL h2 (m + 811) = _; exact b4) (a1 (fun _ => 0)).1
  have hs3 := mS_Wa f3 hs2
  have c3 : ∀ j, j < 16 → (hI (sI h2 m (va_up (va_up (va_up (hI h2 m) 45 (nI 0)) 46 (nI 0)) 47 (nI 1))) (m + 813) j = -nI 1 ∧ hI (sI h2 m (va_up (va_up (va_up (hI h2 m) 45 (nI 0)) 46 (nI 0)) 47 (nI 1))) (m + 815) j = -nI 1 ∧ hI (sI h2 m (va_up (va_up (va_up (hI h2 m) 45 (nI 0)) 46 (nI 0)) 47 (nI 1))) (m + 816) j = -nI 1 ∧ hI (sI h2 m (va_up (va_up (va_up (hI h2 m) 45 (nI 0)) 46 (nI 0)) 47 (nI 1))) (m + 817) j = nI 0) ∧ hL (sI h2 m (va_up (va_up (va_up (hI h2 m) 45 (nI 0)) 46 (nI 0)) 47 (nI 1))) (m + 818) j = -lN 1 := fun j hj => by
    rw [hP1, hP2, va_up_ne _ _ (by omega), va_up_ne _ _ (by omega), va_up_ne _ _ (by omega), va_up_ne _ _ (by omega)]; exact b1 j hj
  have e45 : hI (sI h2 m (va_up (va_up (va_up (hI h2 m) 45 (nI 0)) 46 (nI 0)) 47 (nI 1))) m 45 = nI 0 := by rw [hI_at]; simp only [va_upE, Nat.reduceEqDiff, if_true, if_false]
  have e46 : hI (sI h2 m (va_up (va_up (va_up (hI h2 m) 45 (nI 0)) 46 (nI 0)) 47 (nI 1))) m 46 = nI 0 := by rw [hI_at]; simp only [va_upE, Nat.reduceEqDiff, if_true, if_false]
  have e47 : hI (sI h2 m (va_up (va_up (va_up (hI h2 m) 45 (nI 0)) 46 (nI 0)) 47 (nI 1))) m 47 = nI 1 := by rw [hI_at]; simp only [va_upE, Nat.reduceEqDiff, if_true, if_false]
  simp (disch := omega) only [u_1070_55, B_1070_55, nI1T, Nat.left_eq_add, Nat.add_eq_left, Nat.add_eq_zero_iff, and_false, false_and, if_false, if_true, opsN, opsC, pm_1, lg, ls1, ls2, lq, List.length_cons, List.length_nil, cN, cL, callE, retV, retN, pm_pop, pm_cat, List.map_cons, List.map_nil, List.sum_cons, List.sum_nil, Value.category, Option.toList, List.cons_append, List.nil_append, ↓reduceIte, reduceCtorEq, Nat.reduceAdd, Nat.reduceLT, Nat.reduceLeDiff, Nat.reduceSub, Nat.reduceEqDiff, Nat.zero_le, Nat.sub_zero, Nat.le_refl, true_and, and_true, not_true_eq_false, not_false_eq_true, true_or, or_true, lc_eq, lc_ne, lc_lt, lc_ge, lc_gt, lc_le, nI_add, lN_add, nI_leI, nI_ltI, nI_eq, nI_clamp, pk_lLT, pk_lLE, pk_lEQ, pk_sub, vp_inT, nz_eq, nz_lt, nz_ge, nz_gt, nz_le, lz_eq, lz_lt, lz_ge, hP1, hP2, hP3, hP4, hP5, hP6, hP7, hP8, hP9, hP10, hP11, hP12, hP13, hP14, hP15, hP16, hP17, hP18, hP19, hP20, hs2.1, m_g34 hs2, m_t811 hs2, m_n811 hs2, m_g39 hs2, m_t813 hs2, m_n813 hs2, va_upE, sI_sI]
  have f4 := fWa_trans a3 (fWa_trans b2 f3)
  generalize sI h2 m (va_up (va_up (va_up (hI h2 m) 45 (nI 0)) 46 (nI 0)) 47 (nI 1)) = h3 at *
  refine c1012 (d + 2) (mU_of hs3) q2 (qI_emp (A := q0) hb1 hb4 (by decide)) (a1 (fun _ => 0)).2 (key := 0) (limit := 16) (by decide) (Nat.le_refl _) (by decide) (by decide) ?_
  intro h5 z1 z2 z3 z4
  have hs5 := mS_Wa (fWa_Q z4) hs3
  have o := fun k (q : k ≠ m + 26) => z4.2.2.2.2.1 k q
  have z1 : isQ h5 (m + 811) (qAdd bits 0 q0) (va_up (fun _ => 0) 0 0) 1 := z1
  simp (disch := omega) only [nI1T, Nat.left_eq_add, Nat.add_eq_left, Nat.add_eq_zero_iff, and_false, false_and, if_false, if_true, opsN, opsC, pm_1, lg, ls1, ls2, lq, List.length_cons, List.length_nil, cN, cL, callE, retV, retN, pm_pop, pm_cat, List.map_cons, List.map_nil, List.sum_cons, List.sum_nil, Value.category, Option.toList, List.cons_append, List.nil_append, ↓reduceIte, reduceCtorEq, Nat.reduceAdd, Nat.reduceLT, Nat.reduceLeDiff, Nat.reduceSub, Nat.reduceEqDiff, Nat.zero_le, Nat.sub_zero, Nat.le_refl, true_and, and_true, not_true_eq_false, not_false_eq_true, true_or, or_true, lc_eq, lc_ne, lc_lt, lc_ge, lc_gt, lc_le, nI_add, lN_add, nI_leI, nI_ltI, nI_eq, nI_clamp, pk_lLT, pk_lLE, pk_lEQ, pk_sub, vp_inT, nz_eq, nz_lt, nz_ge, nz_gt, nz_le, lz_eq, lz_lt, lz_ge, hP1, hP2, hP3, hP4, hP5, hP6, hP7, hP8, hP9, hP10, hP11, hP12, hP13, hP14, hP15, hP16, hP17, hP18, hP19, hP20, hs5.1, m_g39 hs5, m_t813 hs5, m_n813 hs5, m_g40 hs5, m_t814 hs5, m_n814 hs5, hnd, va_upE, show qC q0 = 0 from rfl]
  have f5 : fWa m h (sI (sI h5 (m + 813) (va_up (hI h5 (m + 813)) nd (nI 0))) (m + 814) (va_up (hI h5 (m + 814)) 0 (nI nd))) := fWa_trans f4 (fWa_trans (fWa_Q z4) (fWa_trans (fWa_r (by omega) (by omega)) (fWa_r (by omega) (by omega))))
  refine l1070 d hE h6 16 1 100 (wCome bits nd 0 w0) _ _ _ (mS_Wa f5 hs) (edM_fr h6 f5 hr) ⟨⟨_, _, isQ_eq (h := h5) rfl rfl rfl z1, z2, by decide⟩, fun n hn => ?_, fun n hn => ?_, fun i hi => ?_, ?_, ?_⟩ (by decide) ?_ (by show 1 ≤ 16; decide) (wS_OK hb1 hb4 hnd) (by show 16 ≤ 16 + 0; decide) (fun h9 l1 l2 l3 => hQ h9 (mdW_up (by decide) l1) l2 (mS_Wa (fWa_trans f5 l3) hs) (fWa_trans f5 l3))
  · have a := (c3 n hn).1
    refine ⟨?_, ?_, ?_, ?_⟩
    · rw [hP1, va_up_ne _ _ (by omega), hI_at, o _ (by omega)]
      show va_up (hI h3 (m + 813)) nd (nI 0) n = iv (va_up (fun _ => none) nd (some 0) n)
      rw [va_upE, va_upE]; split
      · rfl
      · exact a.1
    · rw [hP1, va_up_ne _ _ (by omega), hP1, va_up_ne _ _ (by omega), o _ (by omega)]; exact a.2.1
    · rw [hP1, va_up_ne _ _ (by omega), hP1, va_up_ne _ _ (by omega), o _ (by omega)]; exact a.2.2.1
    · rw [hP1, va_up_ne _ _ (by omega), hP1, va_up_ne _ _ (by omega), o _ (by omega)]; exact a.2.2.2
  · rw [hP2, hP2, z4.2.2.2.2.2 _ (by omega), farV_0 (w := wCome bits nd 0 w0) rfl]; exact (c3 n hn).2
  · have hi : i < 0 + 1 := hi
    have e : i = 0 := by omega
    subst e
    rw [hI_at, va_up_self]
    show nI nd = nI (va_up (fun _ => 0) 0 nd 0)
    rw [va_up_self]
  · rw [hP1, va_up_ne _ _ (by omega), hP1, va_up_ne _ _ (by omega), o _ (by omega)]; exact e45
  · rw [hP1, va_up_ne _ _ (by omega), hP1, va_up_ne _ _ (by omega), o _ (by omega)]; exact e46
  · rw [hP1, va_up_ne _ _ (by omega), hP1, va_up_ne _ _ (by omega), o _ (by omega)]; exact e47
end MW4
