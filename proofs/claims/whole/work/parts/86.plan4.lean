/-! ===== the plan: steps read by the class ===== -/
theorem want_sk {X : List Nat} {s : Nat} {z : Rz} (hz : z.1 ≤ X.length) : wantP X s (skp X z.1, z.2) = wantP X s z := by
  unfold wantP
  show (if X[skp X (skp X z.1)]? = some s then _ else _) = _
  rw [skp_id hz]
theorem isPn_pl {h : pm_H} {c W : Nat} {cur : List St} {K : Ks} (hP : isPn h c cur K W) : plS h c := hP.1
theorem isPn_add {h h' : pm_H} {c W : Nat} {cur : List St} {K : Ks} {s : St} (hP : isPn h c cur K W) (q1 : isS h' c (((fullC K cur).take 400 ++ [s]).take 400)) (q2 : frS c h h') : isPn h' c (cur ++ [s]) K W := by
  obtain ⟨a1, a2, a3, a4, a5, a6⟩ := hP
  refine ⟨plS_eq q2.1 q2.2.1 (by rw [q2.2.2.1]) a1, ?_, by rw [q2.2.2.2.2.2.2 6 (by decide)]; exact a3, by rw [q2.2.2.2.2.2.2 7 (by decide)]; exact a4, a5, stk_eq (q2.2.2.2.2.2.1 _ (by omega)) (q2.2.2.2.2.2.1 _ (by omega)) a6⟩
  rw [fullC_app, ← tk_tk]; exact q1
theorem rd_S {h h' : pm_H} {t c : Nat} {X : List Nat} {z : Rz} (htc : t + 1 < c) (f : frS c h h') (hr : rd h t X z) : rd h' t X z := by
  obtain ⟨⟨b0, b1, b2, b3⟩, r1, r2, r3, r4, r5, r6⟩ := hr
  have e0 : hI h' t = hI h t := f.2.2.2.2.2.1 t (by omega)
  have e1 : hI h' (t + 1) = hI h (t + 1) := f.2.2.2.2.2.1 (t + 1) (by omega)
  exact ⟨⟨by rw [f.1]; exact b0, by rw [f.2.2.1]; exact b1, by rw [f.1]; exact b2, by rw [f.2.1]; exact b3⟩, by rw [e0]; exact r1, by rw [e0]; exact r2, by rw [e0]; exact r3, by rw [e0]; exact r4, fun i hi => by rw [e1]; exact r5 i hi, r6⟩
section P4
variable {h : pm_H} {c t : Nat} {cur : List St} {K : Ks} {W : Nat} {X : List Nat} {Q : pm_Q}
theorem c404 (d : Nat) {p : Nat} (hr : rd h t X (p + 5, none)) (htc : t + 1 < c) (hP : isPn h c cur K W)
    (hQ : ∀ h', rd h' t X (opP X K.length p) → plS h' c → ((opP X K.length p).2 = none → isPn h' c [] (((numP X 50 (p + 5, none)).2, cur) :: K) W) → frW t c (c + 6) h h' → Q (.inl none) h') : pm_M PP (d + 4) 404 [.ref c, .ref t] h Q := by
  have ht := hr.2.2.2.2.2.2.2.2
  have hp : p + 5 ≤ X.length := hr.2.2.2.2.2.2.1
  have hok := op_ok (dp := K.length) ht hp
  have h5 := ht.1
  rw [e_404]
  simp (disch := omega) only [u_404_0, B_404_0, nI1T, Nat.left_eq_add, Nat.add_eq_left, Nat.add_eq_zero_iff, and_false, false_and, if_false, if_true, opsN, opsC, pm_1, lg, ls1, ls2, lq, List.length_cons, List.length_nil, cN, cL, callE, retV, retN, pm_pop, pm_cat, List.map_cons, List.map_nil, List.sum_cons, List.sum_nil, Value.category, Option.toList, List.cons_append, List.nil_append, ↓reduceIte, reduceCtorEq, Nat.reduceAdd, Nat.reduceLT, Nat.reduceLeDiff, Nat.reduceSub, Nat.reduceEqDiff, Nat.zero_le, Nat.sub_zero, Nat.le_refl, true_and, and_true, not_true_eq_false, not_false_eq_true, true_or, or_true, lc_eq, lc_ne, lc_lt, lc_ge, lc_gt, lc_le, nI_add, lN_add, nI_leI, nI_ltI, nI_eq, nI_clamp, pk_lLT, pk_lLE, pk_lEQ, pk_sub, vp_inT, nz_eq, nz_lt, nz_ge, nz_gt, nz_le, lz_eq, lz_lt, lz_ge, hP1, hP2, hP3, hP4, hP5, hP6, hP7, hP8, hP9, hP10, hP11, hP12, hP13, hP14, hP15, hP16, hP17, hP18, hP19, hP20, hr.1.1]
  refine c811 d hr (by decide) ?_
  intro h1 k1 f1
  simp (disch := omega) only [nI1T, Nat.left_eq_add, Nat.add_eq_left, Nat.add_eq_zero_iff, and_false, false_and, if_false, if_true, opsN, opsC, pm_1, lg, ls1, ls2, lq, List.length_cons, List.length_nil, cN, cL, callE, retV, retN, pm_pop, pm_cat, List.map_cons, List.map_nil, List.sum_cons, List.sum_nil, Value.category, Option.toList, List.cons_append, List.nil_append, ↓reduceIte, reduceCtorEq, Nat.reduceAdd, Nat.reduceLT, Nat.reduceLeDiff, Nat.reduceSub, Nat.reduceEqDiff, Nat.zero_le, Nat.sub_zero, Nat.le_refl, true_and, and_true, not_true_eq_false, not_false_eq_true, true_or, or_true, lc_eq, lc_ne, lc_lt, lc_ge, lc_gt, lc_le, nI_add, lN_add, nI_leI, nI_ltI, nI_eq, nI_clamp, pk_lLT, pk_lLE, pk_lEQ, pk_sub, vp_inT, nz_eq, nz_lt, nz_ge, nz_gt, nz_le, lz_eq, lz_lt, lz_ge, hP1, hP2, hP3, hP4, hP5, hP6, hP7, hP8, hP9, hP10, hP11, hP12, hP13, hP14, hP15, hP16, hP17, hP18, hP19, hP20, k1.1.1]
  have hz1 : (numP X 50 (p + 5, none)).1.1 ≤ X.length := k1.2.2.2.2.2.2.1
  refine c807 (d + 1) k1 ?_
  intro h2 k2 f2
  have f12 := frR_trans f1 f2
  have pn2 := isPn_R f12 htc hP
  obtain ⟨hs, hS1, w6, w7, wl, wk⟩ := id pn2
  have hs0 := hs
  obtain ⟨s0, s1, s2, s3, s4, s5, u1, u2, u3, u4, u5, n1, n2, n3, n4, n5⟩ := hs
  have hsk := skp_ok hz1
  have e0 := iv_eq (o := X[skp X (numP X 50 (p + 5, none)).1.1]?) (s := 91) (at_b ht) (by decide)
  have g1 : hI h2 t 2 = nI (skp X (numP X 50 (p + 5, none)).1.1) := k2.2.1
  have mid : ¬ (X[skp X (numP X 50 (p + 5, none)).1.1]? = some 91 ∧ K.length = 3) → pm_W PP (d + 3) 404 Q 0 0 34 [some (.ref c), some (.ref t), some (.int (nI (numP X 50 (p + 5, none)).2))] [] h2 := fun hno => by
    have eo : opP X K.length p = wantP X 91 (numP X 50 (p + 5, none)).1 := by unfold opP; rw [if_neg hno]
    simp (disch := omega) only [u_404_34, B_404_34, nI1T, Nat.left_eq_add, Nat.add_eq_left, Nat.add_eq_zero_iff, and_false, false_and, if_false, if_true, opsN, opsC, pm_1, lg, ls1, ls2, lq, List.length_cons, List.length_nil, cN, cL, callE, retV, retN, pm_pop, pm_cat, List.map_cons, List.map_nil, List.sum_cons, List.sum_nil, Value.category, Option.toList, List.cons_append, List.nil_append, ↓reduceIte, reduceCtorEq, Nat.reduceAdd, Nat.reduceLT, Nat.reduceLeDiff, Nat.reduceSub, Nat.reduceEqDiff, Nat.zero_le, Nat.sub_zero, Nat.le_refl, true_and, and_true, not_true_eq_false, not_false_eq_true, true_or, or_true, lc_eq, lc_ne, lc_lt, lc_ge, lc_gt, lc_le, nI_add, lN_add, nI_leI, nI_ltI, nI_eq, nI_clamp, pk_lLT, pk_lLE, pk_lEQ, pk_sub, vp_inT, nz_eq, nz_lt, nz_ge, nz_gt, nz_le, lz_eq, lz_lt, lz_ge, hP1, hP2, hP3, hP4, hP5, hP6, hP7, hP8, hP9, hP10, hP11, hP12, hP13, hP14, hP15, hP16, hP17, hP18, hP19, hP20, k2.1.1]
    refine c809 d k2 (by decide) ?_
    intro h3 k3 f3
    rw [want_sk hz1, ← eo] at k3
    have pn3 := isPn_R f3 htc pn2
    obtain ⟨hs, hS1, w6, w7, wl, wk⟩ := id pn3
    have hs0 := hs
    obtain ⟨s0, s1, s2, s3, s4, s5, u1, u2, u3, u4, u5, n1, n2, n3, n4, n5⟩ := hs
    have f123 := frW_trans (frW_R (lo := c) (hi := c + 6) f12) (frW_R f3)
    by_cases k3' : K.length = 3
    · simp (disch := omega) only [u_404_81, B_404_81, nI1T, Nat.left_eq_add, Nat.add_eq_left, Nat.add_eq_zero_iff, and_false, false_and, if_false, if_true, opsN, opsC, pm_1, lg, ls1, ls2, lq, List.length_cons, List.length_nil, cN, cL, callE, retV, retN, pm_pop, pm_cat, List.map_cons, List.map_nil, List.sum_cons, List.sum_nil, Value.category, Option.toList, List.cons_append, List.nil_append, ↓reduceIte, reduceCtorEq, Nat.reduceAdd, Nat.reduceLT, Nat.reduceLeDiff, Nat.reduceSub, Nat.reduceEqDiff, Nat.zero_le, Nat.sub_zero, Nat.le_refl, true_and, and_true, not_true_eq_false, not_false_eq_true, true_or, or_true, lc_eq, lc_ne, lc_lt, lc_ge, lc_gt, lc_le, nI_add, lN_add, nI_leI, nI_ltI, nI_eq, nI_clamp, pk_lLT, pk_lLE, pk_lEQ, pk_sub, vp_inT, nz_eq, nz_lt, nz_ge, nz_gt, nz_le, lz_eq, lz_lt, lz_ge, hP1, hP2, hP3, hP4, hP5, hP6, hP7, hP8, hP9, hP10, hP11, hP12, hP13, hP14, hP15, hP16, hP17, hP18, hP19, hP20, s0, w7, k3']
      rw [k3'] at hok k3
      exact hQ h3 (by rw [k3']; exact k3) hs0 (fun q => absurd rfl ((hok.2.2.1 (by rw [k3'] at q; exact q)).2.1)) f123
    · have c1 : ¬ 3 ≤ K.length := by omega
      have st := hS1.2.1
      simp (disch := omega) only [u_404_81, B_404_81, nI1T, Nat.left_eq_add, Nat.add_eq_left, Nat.add_eq_zero_iff, and_false, false_and, if_false, if_true, opsN, opsC, pm_1, lg, ls1, ls2, lq, List.length_cons, List.length_nil, cN, cL, callE, retV, retN, pm_pop, pm_cat, List.map_cons, List.map_nil, List.sum_cons, List.sum_nil, Value.category, Option.toList, List.cons_append, List.nil_append, ↓reduceIte, reduceCtorEq, Nat.reduceAdd, Nat.reduceLT, Nat.reduceLeDiff, Nat.reduceSub, Nat.reduceEqDiff, Nat.zero_le, Nat.sub_zero, Nat.le_refl, true_and, and_true, not_true_eq_false, not_false_eq_true, true_or, or_true, lc_eq, lc_ne, lc_lt, lc_ge, lc_gt, lc_le, nI_add, lN_add, nI_leI, nI_ltI, nI_eq, nI_clamp, pk_lLT, pk_lLE, pk_lEQ, pk_sub, vp_inT, nz_eq, nz_lt, nz_ge, nz_gt, nz_le, lz_eq, lz_lt, lz_ge, hP1, hP2, hP3, hP4, hP5, hP6, hP7, hP8, hP9, hP10, hP11, hP12, hP13, hP14, hP15, hP16, hP17, hP18, hP19, hP20, s0, s4, s5, u4, u5, n4, n5, w7, c1, st, va_upE]
      refine hQ _ ?_ ?_ ?_ ?_
      · exact rd_sI (by omega) (by omega) (rd_sI (by omega) (by omega) (rd_sI (by omega) (by omega) k3))
      · exact plS_sI (plS_sI (plS_sI hs0))
      rotate_left
      · exact frW_trans f123 (frW_trans (frW_sI (by omega) (by omega) (by omega)) (frW_trans (frW_sI (by omega) (by omega) (by omega)) (frW_sI (by omega) (by omega) (by omega))))
      intro _
      refine ⟨plS_sI (plS_sI (plS_sI hs0)), ?_, ?_, ?_, by rw [List.length_cons]; omega, ?_, ?_, hok.2.2.2, stk_up (h := h3) (N := K.length) (fun j hj => ?_) (fun j hj => ?_) (Nat.le_refl _) wk⟩
      · have eC : fullC (((numP X 50 (p + 5, none)).2, cur) :: K) [] = fullC K cur := List.append_nil _
        rw [eC]
        refine ⟨hS1.1, ?_, fun i hi => ?_⟩
        · rw [hI_at, va_up_ne _ _ (by decide)]; exact hS1.2.1
        · rw [hP1, va_up_ne _ _ (by omega), va_up_ne _ _ (by omega), va_up_ne _ _ (by omega), hP1, va_up_ne _ _ (by omega), va_up_ne _ _ (by omega), va_up_ne _ _ (by omega), hP1, va_up_ne _ _ (by omega), va_up_ne _ _ (by omega), va_up_ne _ _ (by omega)]
          exact hS1.2.2 i hi
      · rw [hI_at, va_up_ne _ _ (by decide)]; exact w6
      · rw [hI_at, va_up_self]; rfl
      · rw [hP1, va_up_ne _ _ (by omega), hP1, va_up_ne _ _ (by omega), hI_at, va_up_self]
      · rw [hP1, va_up_ne _ _ (by omega), hI_at, va_up_self]
      · rw [hP1, va_up_ne _ _ (by omega), hP1, va_up_ne _ _ (by omega), hI_at, va_up_ne _ _ (by omega)]
      · rw [hP1, va_up_ne _ _ (by omega), hI_at, va_up_ne _ _ (by omega)]
  by_cases e : X[skp X (numP X 50 (p + 5, none)).1.1]? = some 91
  · have e1 : (iv X[skp X (numP X 50 (p + 5, none)).1.1]? = nI 91) = True := e0.trans (eq_true e)
    by_cases k3 : K.length = 3
    · have eo : opP X K.length p = (skp X (numP X 50 (p + 5, none)).1.1, bl (numP X 50 (p + 5, none)).1.2 (3, skp X (numP X 50 (p + 5, none)).1.1)) := by unfold opP; rw [if_pos ⟨e, k3⟩]
      simp (disch := omega) only [nI1T, Nat.left_eq_add, Nat.add_eq_left, Nat.add_eq_zero_iff, and_false, false_and, if_false, if_true, opsN, opsC, pm_1, lg, ls1, ls2, lq, List.length_cons, List.length_nil, cN, cL, callE, retV, retN, pm_pop, pm_cat, List.map_cons, List.map_nil, List.sum_cons, List.sum_nil, Value.category, Option.toList, List.cons_append, List.nil_append, ↓reduceIte, reduceCtorEq, Nat.reduceAdd, Nat.reduceLT, Nat.reduceLeDiff, Nat.reduceSub, Nat.reduceEqDiff, Nat.zero_le, Nat.sub_zero, Nat.le_refl, true_and, and_true, not_true_eq_false, not_false_eq_true, true_or, or_true, lc_eq, lc_ne, lc_lt, lc_ge, lc_gt, lc_le, nI_add, lN_add, nI_leI, nI_ltI, nI_eq, nI_clamp, pk_lLT, pk_lLE, pk_lEQ, pk_sub, vp_inT, nz_eq, nz_lt, nz_ge, nz_gt, nz_le, lz_eq, lz_lt, lz_ge, hP1, hP2, hP3, hP4, hP5, hP6, hP7, hP8, hP9, hP10, hP11, hP12, hP13, hP14, hP15, hP16, hP17, hP18, hP19, hP20, e1, s0, w7, k3, k2.1.1, g1]
      refine c805 (d + 2) k2 (by decide) (by decide) (by omega) ?_
      intro h3 q1 q2
      simp (disch := omega) only [nI1T, Nat.left_eq_add, Nat.add_eq_left, Nat.add_eq_zero_iff, and_false, false_and, if_false, if_true, opsN, opsC, pm_1, lg, ls1, ls2, lq, List.length_cons, List.length_nil, cN, cL, callE, retV, retN, pm_pop, pm_cat, List.map_cons, List.map_nil, List.sum_cons, List.sum_nil, Value.category, Option.toList, List.cons_append, List.nil_append, ↓reduceIte, reduceCtorEq, Nat.reduceAdd, Nat.reduceLT, Nat.reduceLeDiff, Nat.reduceSub, Nat.reduceEqDiff, Nat.zero_le, Nat.sub_zero, Nat.le_refl, true_and, and_true, not_true_eq_false, not_false_eq_true, true_or, or_true, lc_eq, lc_ne, lc_lt, lc_ge, lc_gt, lc_le, nI_add, lN_add, nI_leI, nI_ltI, nI_eq, nI_clamp, pk_lLT, pk_lLE, pk_lEQ, pk_sub, vp_inT, nz_eq, nz_lt, nz_ge, nz_gt, nz_le, lz_eq, lz_lt, lz_ge, hP1, hP2, hP3, hP4, hP5, hP6, hP7, hP8, hP9, hP10, hP11, hP12, hP13, hP14, hP15, hP16, hP17, hP18, hP19, hP20]
      refine hQ h3 (by rw [eo]; exact q1) (plS_eq q2.1 q2.2.1 (by rw [q2.2.2.1]) hs0) (fun q => absurd k3 (hok.2.2.1 q).2.1) (frW_trans (frW_R f12) (frW_R q2))
    · simp (disch := omega) only [nI1T, Nat.left_eq_add, Nat.add_eq_left, Nat.add_eq_zero_iff, and_false, false_and, if_false, if_true, opsN, opsC, pm_1, lg, ls1, ls2, lq, List.length_cons, List.length_nil, cN, cL, callE, retV, retN, pm_pop, pm_cat, List.map_cons, List.map_nil, List.sum_cons, List.sum_nil, Value.category, Option.toList, List.cons_append, List.nil_append, ↓reduceIte, reduceCtorEq, Nat.reduceAdd, Nat.reduceLT, Nat.reduceLeDiff, Nat.reduceSub, Nat.reduceEqDiff, Nat.zero_le, Nat.sub_zero, Nat.le_refl, true_and, and_true, not_true_eq_false, not_false_eq_true, true_or, or_true, lc_eq, lc_ne, lc_lt, lc_ge, lc_gt, lc_le, nI_add, lN_add, nI_leI, nI_ltI, nI_eq, nI_clamp, pk_lLT, pk_lLE, pk_lEQ, pk_sub, vp_inT, nz_eq, nz_lt, nz_ge, nz_gt, nz_le, lz_eq, lz_lt, lz_ge, hP1, hP2, hP3, hP4, hP5, hP6, hP7, hP8, hP9, hP10, hP11, hP12, hP13, hP14, hP15, hP16, hP17, hP18, hP19, hP20, e1, s0, w7, k3]
      exact mid (fun q => k3 q.2)
  · have e1 : (iv X[skp X (numP X 50 (p + 5, none)).1.1]? = nI 91) = False := e0.trans (eq_false e)
    simp (disch := omega) only [nI1T, Nat.left_eq_add, Nat.add_eq_left, Nat.add_eq_zero_iff, and_false, false_and, if_false, if_true, opsN, opsC, pm_1, lg, ls1, ls2, lq, List.length_cons, List.length_nil, cN, cL, callE, retV, retN, pm_pop, pm_cat, List.map_cons, List.map_nil, List.sum_cons, List.sum_nil, Value.category, Option.toList, List.cons_append, List.nil_append, ↓reduceIte, reduceCtorEq, Nat.reduceAdd, Nat.reduceLT, Nat.reduceLeDiff, Nat.reduceSub, Nat.reduceEqDiff, Nat.zero_le, Nat.sub_zero, Nat.le_refl, true_and, and_true, not_true_eq_false, not_false_eq_true, true_or, or_true, lc_eq, lc_ne, lc_lt, lc_ge, lc_gt, lc_le, nI_add, lN_add, nI_leI, nI_ltI, nI_eq, nI_clamp, pk_lLT, pk_lLE, pk_lEQ, pk_sub, vp_inT, nz_eq, nz_lt, nz_ge, nz_gt, nz_le, lz_eq, lz_lt, lz_ge, hP1, hP2, hP3, hP4, hP5, hP6, hP7, hP8, hP9, hP10, hP11, hP12, hP13, hP14, hP15, hP16, hP17, hP18, hP19, hP20, e1]
    exact mid (fun q => e q.1)
theorem isPn_w {hh : pm_H} (hP : isPn hh c cur K W) : isPn (sI hh c (va_up (hI hh c) 6 (nI (W + 1)))) c cur K (W + 1) := by
  obtain ⟨a1, a2, a3, a4, a5, a6⟩ := hP
  refine ⟨plS_sI a1, ⟨a2.1, ?_, fun i hi => ?_⟩, ?_, ?_, a5, stk_eq (by rw [hP1, va_up_ne _ _ (by omega)]) (by rw [hP1, va_up_ne _ _ (by omega)]) a6⟩
  · rw [hI_at, va_up_ne _ _ (by decide)]; exact a2.2.1
  · rw [hP1, va_up_ne _ _ (by omega), va_up_ne _ _ (by omega), va_up_ne _ _ (by omega)]; exact a2.2.2 i hi
  · rw [hI_at, va_up_self]
  · rw [hI_at, va_up_ne _ _ (by decide)]; exact a4
theorem c402a (d : Nat) {p : Nat} (hr : rd h t X (p, none)) (hsk : skp X p = p) (htc : t + 1 < c) (hP : isPn h c cur K W) (hw : wd X p wAgain = true)
    (hQ : ∀ h', rd h' t X (opP X K.length p) → plS h' c → ((opP X K.length p).2 = none → isPn h' c [] (((numP X 50 (p + 5, none)).2, cur) :: K) (W + 1)) → frW t c (c + 6) h h' → Q (.inl none) h') : pm_M PP (d + 5) 402 [.ref c, .ref t] h Q := by
  have hP1' := isPn_w hP
  obtain ⟨hs, hS1, w6, w7, wl, wk⟩ := id hP
  have s0 := hs.1
  have hr1 : rd (sI h c (va_up (hI h c) 6 (nI (W + 1)))) t X (p, none) := rd_sI (by omega) (by omega) hr
  have fA : frW t c (c + 6) h (sI h c (va_up (hI h c) 6 (nI (W + 1)))) := frW_sI (by omega) (by omega) (by omega)
  rw [e_402]
  simp (disch := omega) only [u_402_0, B_402_0, nI1T, Nat.left_eq_add, Nat.add_eq_left, Nat.add_eq_zero_iff, and_false, false_and, if_false, if_true, opsN, opsC, pm_1, lg, ls1, ls2, lq, List.length_cons, List.length_nil, cN, cL, callE, retV, retN, pm_pop, pm_cat, List.map_cons, List.map_nil, List.sum_cons, List.sum_nil, Value.category, Option.toList, List.cons_append, List.nil_append, ↓reduceIte, reduceCtorEq, Nat.reduceAdd, Nat.reduceLT, Nat.reduceLeDiff, Nat.reduceSub, Nat.reduceEqDiff, Nat.zero_le, Nat.sub_zero, Nat.le_refl, true_and, and_true, not_true_eq_false, not_false_eq_true, true_or, or_true, lc_eq, lc_ne, lc_lt, lc_ge, lc_gt, lc_le, nI_add, lN_add, nI_leI, nI_ltI, nI_eq, nI_clamp, pk_lLT, pk_lLE, pk_lEQ, pk_sub, vp_inT, nz_eq, nz_lt, nz_ge, nz_gt, nz_le, lz_eq, lz_lt, lz_ge, hP1, hP2, hP3, hP4, hP5, hP6, hP7, hP8, hP9, hP10, hP11, hP12, hP13, hP14, hP15, hP16, hP17, hP18, hP19, hP20, s0, w6, hr.1.1]
  generalize sI h c (va_up (hI h c) 6 (nI (W + 1))) = h1 at hP1' hr1 fA ⊢
  refine c810 (d + 1) (o := 2) (w := wAgain) hr1 (by decide) (by decide) rfl (by decide) (by decide) ?_ ?_
  · intro _ h2 k2 f2
    have k2 : rd h2 t X (p + 5, none) := by rw [← hsk]; exact k2
    have pn2 := isPn_R f2 htc hP1'
    simp (disch := omega) only [nI1T, Nat.left_eq_add, Nat.add_eq_left, Nat.add_eq_zero_iff, and_false, false_and, if_false, if_true, opsN, opsC, pm_1, lg, ls1, ls2, lq, List.length_cons, List.length_nil, cN, cL, callE, retV, retN, pm_pop, pm_cat, List.map_cons, List.map_nil, List.sum_cons, List.sum_nil, Value.category, Option.toList, List.cons_append, List.nil_append, ↓reduceIte, reduceCtorEq, Nat.reduceAdd, Nat.reduceLT, Nat.reduceLeDiff, Nat.reduceSub, Nat.reduceEqDiff, Nat.zero_le, Nat.sub_zero, Nat.le_refl, true_and, and_true, not_true_eq_false, not_false_eq_true, true_or, or_true, lc_eq, lc_ne, lc_lt, lc_ge, lc_gt, lc_le, nI_add, lN_add, nI_leI, nI_ltI, nI_eq, nI_clamp, pk_lLT, pk_lLE, pk_lEQ, pk_sub, vp_inT, nz_eq, nz_lt, nz_ge, nz_gt, nz_le, lz_eq, lz_lt, lz_ge, hP1, hP2, hP3, hP4, hP5, hP6, hP7, hP8, hP9, hP10, hP11, hP12, hP13, hP14, hP15, hP16, hP17, hP18, hP19, hP20, pn2.1.1]
    refine c404 d k2 htc pn2 ?_
    intro h3 q1 q2 q3 q4
    simp (disch := omega) only [nI1T, Nat.left_eq_add, Nat.add_eq_left, Nat.add_eq_zero_iff, and_false, false_and, if_false, if_true, opsN, opsC, pm_1, lg, ls1, ls2, lq, List.length_cons, List.length_nil, cN, cL, callE, retV, retN, pm_pop, pm_cat, List.map_cons, List.map_nil, List.sum_cons, List.sum_nil, Value.category, Option.toList, List.cons_append, List.nil_append, ↓reduceIte, reduceCtorEq, Nat.reduceAdd, Nat.reduceLT, Nat.reduceLeDiff, Nat.reduceSub, Nat.reduceEqDiff, Nat.zero_le, Nat.sub_zero, Nat.le_refl, true_and, and_true, not_true_eq_false, not_false_eq_true, true_or, or_true, lc_eq, lc_ne, lc_lt, lc_ge, lc_gt, lc_le, nI_add, lN_add, nI_leI, nI_ltI, nI_eq, nI_clamp, pk_lLT, pk_lLE, pk_lEQ, pk_sub, vp_inT, nz_eq, nz_lt, nz_ge, nz_gt, nz_le, lz_eq, lz_lt, lz_ge, hP1, hP2, hP3, hP4, hP5, hP6, hP7, hP8, hP9, hP10, hP11, hP12, hP13, hP14, hP15, hP16, hP17, hP18, hP19, hP20]
    exact hQ h3 q1 q2 q3 (frW_trans fA (frW_trans (frW_R f2) q4))
  · intro w1
    have w1 : wd X p wAgain = false := by rw [← hsk]; exact w1
    rw [hw] at w1; cases w1
theorem c402s (d : Nat) {p : Nat} (hr : rd h t X (p, none)) (hsk : skp X p = p) (htc : t + 1 < c) (hP : isPn h c cur K W) (hw : wd X p wAgain = false)
    (hQ : ∀ h', rd h' t X (wantP X 59 (stpP X p).1) → plS h' c → ((wantP X 59 (stpP X p).1).2 = none → isPn h' c (cur ++ (stpP X p).2) K (W + 1)) → frW t c (c + 6) h h' → Q (.inl none) h') : pm_M PP (d + 5) 402 [.ref c, .ref t] h Q := by
  have hP1' := isPn_w hP
  obtain ⟨hs, hS1, w6, w7, wl, wk⟩ := id hP
  have s0 := hs.1
  have hp : p ≤ X.length := hr.2.2.2.2.2.2.1
  have h5 := hr.2.2.2.2.2.2.2.2.1
  have hr1 : rd (sI h c (va_up (hI h c) 6 (nI (W + 1)))) t X (p, none) := rd_sI (by omega) (by omega) hr
  have fA : frW t c (c + 6) h (sI h c (va_up (hI h c) 6 (nI (W + 1)))) := frW_sI (by omega) (by omega) (by omega)
  have fin : ∀ h1 x2, rd h1 t X (stpP X p).1 → plS h1 c → ((stpP X p).1.2 = none → isPn h1 c (cur ++ (stpP X p).2) K (W + 1)) → frW t c (c + 6) h h1 → pm_W PP (d + 4) 402 Q 0 0 134 [some (.ref c), some (.ref t), x2] [] h1 := fun h1 x2 k1 k2 k3 k4 => by
    simp (disch := omega) only [u_402_134, B_402_134, nI1T, Nat.left_eq_add, Nat.add_eq_left, Nat.add_eq_zero_iff, and_false, false_and, if_false, if_true, opsN, opsC, pm_1, lg, ls1, ls2, lq, List.length_cons, List.length_nil, cN, cL, callE, retV, retN, pm_pop, pm_cat, List.map_cons, List.map_nil, List.sum_cons, List.sum_nil, Value.category, Option.toList, List.cons_append, List.nil_append, ↓reduceIte, reduceCtorEq, Nat.reduceAdd, Nat.reduceLT, Nat.reduceLeDiff, Nat.reduceSub, Nat.reduceEqDiff, Nat.zero_le, Nat.sub_zero, Nat.le_refl, true_and, and_true, not_true_eq_false, not_false_eq_true, true_or, or_true, lc_eq, lc_ne, lc_lt, lc_ge, lc_gt, lc_le, nI_add, lN_add, nI_leI, nI_ltI, nI_eq, nI_clamp, pk_lLT, pk_lLE, pk_lEQ, pk_sub, vp_inT, nz_eq, nz_lt, nz_ge, nz_gt, nz_le, lz_eq, lz_lt, lz_ge, hP1, hP2, hP3, hP4, hP5, hP6, hP7, hP8, hP9, hP10, hP11, hP12, hP13, hP14, hP15, hP16, hP17, hP18, hP19, hP20, k1.1.1]
    refine c809 (d + 1) k1 (by decide) ?_
    intro h2 l1 l2
    simp (disch := omega) only [nI1T, Nat.left_eq_add, Nat.add_eq_left, Nat.add_eq_zero_iff, and_false, false_and, if_false, if_true, opsN, opsC, pm_1, lg, ls1, ls2, lq, List.length_cons, List.length_nil, cN, cL, callE, retV, retN, pm_pop, pm_cat, List.map_cons, List.map_nil, List.sum_cons, List.sum_nil, Value.category, Option.toList, List.cons_append, List.nil_append, ↓reduceIte, reduceCtorEq, Nat.reduceAdd, Nat.reduceLT, Nat.reduceLeDiff, Nat.reduceSub, Nat.reduceEqDiff, Nat.zero_le, Nat.sub_zero, Nat.le_refl, true_and, and_true, not_true_eq_false, not_false_eq_true, true_or, or_true, lc_eq, lc_ne, lc_lt, lc_ge, lc_gt, lc_le, nI_add, lN_add, nI_leI, nI_ltI, nI_eq, nI_clamp, pk_lLT, pk_lLE, pk_lEQ, pk_sub, vp_inT, nz_eq, nz_lt, nz_ge, nz_gt, nz_le, lz_eq, lz_lt, lz_ge, hP1, hP2, hP3, hP4, hP5, hP6, hP7, hP8, hP9, hP10, hP11, hP12, hP13, hP14, hP15, hP16, hP17, hP18, hP19, hP20]
    exact hQ h2 l1 (plS_eq l2.1 l2.2.1 (by rw [l2.2.2.1]) k2) (fun q => isPn_R l2 htc (k3 (want_none q))) (frW_trans k4 (frW_R l2))
  rw [e_402]
  simp (disch := omega) only [u_402_0, B_402_0, nI1T, Nat.left_eq_add, Nat.add_eq_left, Nat.add_eq_zero_iff, and_false, false_and, if_false, if_true, opsN, opsC, pm_1, lg, ls1, ls2, lq, List.length_cons, List.length_nil, cN, cL, callE, retV, retN, pm_pop, pm_cat, List.map_cons, List.map_nil, List.sum_cons, List.sum_nil, Value.category, Option.toList, List.cons_append, List.nil_append, ↓reduceIte, reduceCtorEq, Nat.reduceAdd, Nat.reduceLT, Nat.reduceLeDiff, Nat.reduceSub, Nat.reduceEqDiff, Nat.zero_le, Nat.sub_zero, Nat.le_refl, true_and, and_true, not_true_eq_false, not_false_eq_true, true_or, or_true, lc_eq, lc_ne, lc_lt, lc_ge, lc_gt, lc_le, nI_add, lN_add, nI_leI, nI_ltI, nI_eq, nI_clamp, pk_lLT, pk_lLE, pk_lEQ, pk_sub, vp_inT, nz_eq, nz_lt, nz_ge, nz_gt, nz_le, lz_eq, lz_lt, lz_ge, hP1, hP2, hP3, hP4, hP5, hP6, hP7, hP8, hP9, hP10, hP11, hP12, hP13, hP14, hP15, hP16, hP17, hP18, hP19, hP20, s0, w6, hr.1.1]
  generalize sI h c (va_up (hI h c) 6 (nI (W + 1))) = h1 at hP1' hr1 fA ⊢
  refine c810 (d + 1) (o := 2) (w := wAgain) hr1 (by decide) (by decide) rfl (by decide) (by decide) ?_ ?_
  · intro w1
    have w1 : wd X p wAgain = true := by rw [← hsk]; exact w1
    rw [hw] at w1; cases w1
  intro _ h2 k2 f2
  have k2 : rd h2 t X (p, none) := by rw [← hsk]; exact k2
  have pn2 := isPn_R f2 htc hP1'
  have fB := frW_trans fA (frW_R (lo := c) (hi := c + 6) f2)
  simp (disch := omega) only [u_402_25, B_402_25, nI1T, Nat.left_eq_add, Nat.add_eq_left, Nat.add_eq_zero_iff, and_false, false_and, if_false, if_true, opsN, opsC, pm_1, lg, ls1, ls2, lq, List.length_cons, List.length_nil, cN, cL, callE, retV, retN, pm_pop, pm_cat, List.map_cons, List.map_nil, List.sum_cons, List.sum_nil, Value.category, Option.toList, List.cons_append, List.nil_append, ↓reduceIte, reduceCtorEq, Nat.reduceAdd, Nat.reduceLT, Nat.reduceLeDiff, Nat.reduceSub, Nat.reduceEqDiff, Nat.zero_le, Nat.sub_zero, Nat.le_refl, true_and, and_true, not_true_eq_false, not_false_eq_true, true_or, or_true, lc_eq, lc_ne, lc_lt, lc_ge, lc_gt, lc_le, nI_add, lN_add, nI_leI, nI_ltI, nI_eq, nI_clamp, pk_lLT, pk_lLE, pk_lEQ, pk_sub, vp_inT, nz_eq, nz_lt, nz_ge, nz_gt, nz_le, lz_eq, lz_lt, lz_ge, hP1, hP2, hP3, hP4, hP5, hP6, hP7, hP8, hP9, hP10, hP11, hP12, hP13, hP14, hP15, hP16, hP17, hP18, hP19, hP20, k2.1.1]
  refine c810 (d + 1) (o := 3) (w := wPush) k2 (by decide) (by decide) rfl (by decide) (by decide) ?_ ?_
  · intro w1 h3 k3 f3
    have w1 : wd X p wPush = true := by rw [← hsk]; exact w1
    have k3 : rd h3 t X (p + 4, none) := by rw [← hsk]; exact k3
    simp (disch := omega) only [nI1T, Nat.left_eq_add, Nat.add_eq_left, Nat.add_eq_zero_iff, and_false, false_and, if_false, if_true, opsN, opsC, pm_1, lg, ls1, ls2, lq, List.length_cons, List.length_nil, cN, cL, callE, retV, retN, pm_pop, pm_cat, List.map_cons, List.map_nil, List.sum_cons, List.sum_nil, Value.category, Option.toList, List.cons_append, List.nil_append, ↓reduceIte, reduceCtorEq, Nat.reduceAdd, Nat.reduceLT, Nat.reduceLeDiff, Nat.reduceSub, Nat.reduceEqDiff, Nat.zero_le, Nat.sub_zero, Nat.le_refl, true_and, and_true, not_true_eq_false, not_false_eq_true, true_or, or_true, lc_eq, lc_ne, lc_lt, lc_ge, lc_gt, lc_le, nI_add, lN_add, nI_leI, nI_ltI, nI_eq, nI_clamp, pk_lLT, pk_lLE, pk_lEQ, pk_sub, vp_inT, nz_eq, nz_lt, nz_ge, nz_gt, nz_le, lz_eq, lz_lt, lz_ge, hP1, hP2, hP3, hP4, hP5, hP6, hP7, hP8, hP9, hP10, hP11, hP12, hP13, hP14, hP15, hP16, hP17, hP18, hP19, hP20, k3.1.1]
    refine c811 (d + 1) k3 (by decide) ?_
    intro h4 k4 f4
    have pn4 := isPn_R (frR_trans f3 f4) htc pn2
    have eL : stpP X p = ((numP X 1000000000 (p + 4, none)).1, [(0, 0, (numP X 1000000000 (p + 4, none)).2)]) := by unfold stpP; rw [if_pos w1]
    simp (disch := omega) only [nI1T, Nat.left_eq_add, Nat.add_eq_left, Nat.add_eq_zero_iff, and_false, false_and, if_false, if_true, opsN, opsC, pm_1, lg, ls1, ls2, lq, List.length_cons, List.length_nil, cN, cL, callE, retV, retN, pm_pop, pm_cat, List.map_cons, List.map_nil, List.sum_cons, List.sum_nil, Value.category, Option.toList, List.cons_append, List.nil_append, ↓reduceIte, reduceCtorEq, Nat.reduceAdd, Nat.reduceLT, Nat.reduceLeDiff, Nat.reduceSub, Nat.reduceEqDiff, Nat.zero_le, Nat.sub_zero, Nat.le_refl, true_and, and_true, not_true_eq_false, not_false_eq_true, true_or, or_true, lc_eq, lc_ne, lc_lt, lc_ge, lc_gt, lc_le, nI_add, lN_add, nI_leI, nI_ltI, nI_eq, nI_clamp, pk_lLT, pk_lLE, pk_lEQ, pk_sub, vp_inT, nz_eq, nz_lt, nz_ge, nz_gt, nz_le, lz_eq, lz_lt, lz_ge, hP1, hP2, hP3, hP4, hP5, hP6, hP7, hP8, hP9, hP10, hP11, hP12, hP13, hP14, hP15, hP16, hP17, hP18, hP19, hP20, pn4.1.1]
    refine c403 (d + 3) (s := (0, 0, (numP X 1000000000 (p + 4, none)).2)) pn4.1 pn4.2.1 ?_
    intro h5 q1 q2
    have pn5 := isPn_add pn4 q1 q2
    simp (disch := omega) only [nI1T, Nat.left_eq_add, Nat.add_eq_left, Nat.add_eq_zero_iff, and_false, false_and, if_false, if_true, opsN, opsC, pm_1, lg, ls1, ls2, lq, List.length_cons, List.length_nil, cN, cL, callE, retV, retN, pm_pop, pm_cat, List.map_cons, List.map_nil, List.sum_cons, List.sum_nil, Value.category, Option.toList, List.cons_append, List.nil_append, ↓reduceIte, reduceCtorEq, Nat.reduceAdd, Nat.reduceLT, Nat.reduceLeDiff, Nat.reduceSub, Nat.reduceEqDiff, Nat.zero_le, Nat.sub_zero, Nat.le_refl, true_and, and_true, not_true_eq_false, not_false_eq_true, true_or, or_true, lc_eq, lc_ne, lc_lt, lc_ge, lc_gt, lc_le, nI_add, lN_add, nI_leI, nI_ltI, nI_eq, nI_clamp, pk_lLT, pk_lLE, pk_lEQ, pk_sub, vp_inT, nz_eq, nz_lt, nz_ge, nz_gt, nz_le, lz_eq, lz_lt, lz_ge, hP1, hP2, hP3, hP4, hP5, hP6, hP7, hP8, hP9, hP10, hP11, hP12, hP13, hP14, hP15, hP16, hP17, hP18, hP19, hP20]
    exact fin h5 _ (by rw [eL]; exact rd_S htc q2 k4) pn5.1 (fun _ => by rw [eL]; exact pn5) (frW_trans fB (frW_trans (frW_R (frR_trans f3 f4)) (frW_S htc q2)))
  intro w1 h3 k3 f3
  have w1 : ¬ wd X p wPush = true := by rw [← hsk, w1]; exact fun q => by cases q
  have k3 : rd h3 t X (p, none) := by rw [← hsk]; exact k3
  simp (disch := omega) only [u_402_49, B_402_49, nI1T, Nat.left_eq_add, Nat.add_eq_left, Nat.add_eq_zero_iff, and_false, false_and, if_false, if_true, opsN, opsC, pm_1, lg, ls1, ls2, lq, List.length_cons, List.length_nil, cN, cL, callE, retV, retN, pm_pop, pm_cat, List.map_cons, List.map_nil, List.sum_cons, List.sum_nil, Value.category, Option.toList, List.cons_append, List.nil_append, ↓reduceIte, reduceCtorEq, Nat.reduceAdd, Nat.reduceLT, Nat.reduceLeDiff, Nat.reduceSub, Nat.reduceEqDiff, Nat.zero_le, Nat.sub_zero, Nat.le_refl, true_and, and_true, not_true_eq_false, not_false_eq_true, true_or, or_true, lc_eq, lc_ne, lc_lt, lc_ge, lc_gt, lc_le, nI_add, lN_add, nI_leI, nI_ltI, nI_eq, nI_clamp, pk_lLT, pk_lLE, pk_lEQ, pk_sub, vp_inT, nz_eq, nz_lt, nz_ge, nz_gt, nz_le, lz_eq, lz_lt, lz_ge, hP1, hP2, hP3, hP4, hP5, hP6, hP7, hP8, hP9, hP10, hP11, hP12, hP13, hP14, hP15, hP16, hP17, hP18, hP19, hP20, k3.1.1]
  refine c810 (d + 1) (o := 4) (w := wPop) k3 (by decide) (by decide) rfl (by decide) (by decide) ?_ ?_
  · intro w2 h4 k4 f4
    have w2 : wd X p wPop = true := by rw [← hsk]; exact w2
    have k4 : rd h4 t X (p + 3, none) := by rw [← hsk]; exact k4
    have pn4 := isPn_R (frR_trans f3 f4) htc pn2
    have eL : stpP X p = ((p + 3, none), [(1, 0, 0)]) := by unfold stpP; rw [if_neg w1, if_pos w2]
    simp (disch := omega) only [nI1T, Nat.left_eq_add, Nat.add_eq_left, Nat.add_eq_zero_iff, and_false, false_and, if_false, if_true, opsN, opsC, pm_1, lg, ls1, ls2, lq, List.length_cons, List.length_nil, cN, cL, callE, retV, retN, pm_pop, pm_cat, List.map_cons, List.map_nil, List.sum_cons, List.sum_nil, Value.category, Option.toList, List.cons_append, List.nil_append, ↓reduceIte, reduceCtorEq, Nat.reduceAdd, Nat.reduceLT, Nat.reduceLeDiff, Nat.reduceSub, Nat.reduceEqDiff, Nat.zero_le, Nat.sub_zero, Nat.le_refl, true_and, and_true, not_true_eq_false, not_false_eq_true, true_or, or_true, lc_eq, lc_ne, lc_lt, lc_ge, lc_gt, lc_le, nI_add, lN_add, nI_leI, nI_ltI, nI_eq, nI_clamp, pk_lLT, pk_lLE, pk_lEQ, pk_sub, vp_inT, nz_eq, nz_lt, nz_ge, nz_gt, nz_le, lz_eq, lz_lt, lz_ge, hP1, hP2, hP3, hP4, hP5, hP6, hP7, hP8, hP9, hP10, hP11, hP12, hP13, hP14, hP15, hP16, hP17, hP18, hP19, hP20, pn4.1.1]
    refine c403 (d + 3) (s := (1, 0, 0)) pn4.1 pn4.2.1 ?_
    intro h5 q1 q2
    have pn5 := isPn_add pn4 q1 q2
    simp (disch := omega) only [nI1T, Nat.left_eq_add, Nat.add_eq_left, Nat.add_eq_zero_iff, and_false, false_and, if_false, if_true, opsN, opsC, pm_1, lg, ls1, ls2, lq, List.length_cons, List.length_nil, cN, cL, callE, retV, retN, pm_pop, pm_cat, List.map_cons, List.map_nil, List.sum_cons, List.sum_nil, Value.category, Option.toList, List.cons_append, List.nil_append, ↓reduceIte, reduceCtorEq, Nat.reduceAdd, Nat.reduceLT, Nat.reduceLeDiff, Nat.reduceSub, Nat.reduceEqDiff, Nat.zero_le, Nat.sub_zero, Nat.le_refl, true_and, and_true, not_true_eq_false, not_false_eq_true, true_or, or_true, lc_eq, lc_ne, lc_lt, lc_ge, lc_gt, lc_le, nI_add, lN_add, nI_leI, nI_ltI, nI_eq, nI_clamp, pk_lLT, pk_lLE, pk_lEQ, pk_sub, vp_inT, nz_eq, nz_lt, nz_ge, nz_gt, nz_le, lz_eq, lz_lt, lz_ge, hP1, hP2, hP3, hP4, hP5, hP6, hP7, hP8, hP9, hP10, hP11, hP12, hP13, hP14, hP15, hP16, hP17, hP18, hP19, hP20]
    exact fin h5 _ (by rw [eL]; exact rd_S htc q2 k4) pn5.1 (fun _ => by rw [eL]; exact pn5) (frW_trans fB (frW_trans (frW_R (frR_trans f3 f4)) (frW_S htc q2)))
  intro w2 h4 k4 f4
  have w2 : ¬ wd X p wPop = true := by rw [← hsk, w2]; exact fun q => by cases q
  have k4 : rd h4 t X (p, none) := by rw [← hsk]; exact k4
  simp (disch := omega) only [u_402_68, B_402_68, nI1T, Nat.left_eq_add, Nat.add_eq_left, Nat.add_eq_zero_iff, and_false, false_and, if_false, if_true, opsN, opsC, pm_1, lg, ls1, ls2, lq, List.length_cons, List.length_nil, cN, cL, callE, retV, retN, pm_pop, pm_cat, List.map_cons, List.map_nil, List.sum_cons, List.sum_nil, Value.category, Option.toList, List.cons_append, List.nil_append, ↓reduceIte, reduceCtorEq, Nat.reduceAdd, Nat.reduceLT, Nat.reduceLeDiff, Nat.reduceSub, Nat.reduceEqDiff, Nat.zero_le, Nat.sub_zero, Nat.le_refl, true_and, and_true, not_true_eq_false, not_false_eq_true, true_or, or_true, lc_eq, lc_ne, lc_lt, lc_ge, lc_gt, lc_le, nI_add, lN_add, nI_leI, nI_ltI, nI_eq, nI_clamp, pk_lLT, pk_lLE, pk_lEQ, pk_sub, vp_inT, nz_eq, nz_lt, nz_ge, nz_gt, nz_le, lz_eq, lz_lt, lz_ge, hP1, hP2, hP3, hP4, hP5, hP6, hP7, hP8, hP9, hP10, hP11, hP12, hP13, hP14, hP15, hP16, hP17, hP18, hP19, hP20, k4.1.1]
  refine c810 (d + 1) (o := 5) (w := wLess) k4 (by decide) (by decide) rfl (by decide) (by decide) ?_ ?_
  · intro w3 h5 k5 f5
    have w3 : wd X p wLess = true := by rw [← hsk]; exact w3
    have k5 : rd h5 t X (p + 4, none) := by rw [← hsk]; exact k5
    simp (disch := omega) only [nI1T, Nat.left_eq_add, Nat.add_eq_left, Nat.add_eq_zero_iff, and_false, false_and, if_false, if_true, opsN, opsC, pm_1, lg, ls1, ls2, lq, List.length_cons, List.length_nil, cN, cL, callE, retV, retN, pm_pop, pm_cat, List.map_cons, List.map_nil, List.sum_cons, List.sum_nil, Value.category, Option.toList, List.cons_append, List.nil_append, ↓reduceIte, reduceCtorEq, Nat.reduceAdd, Nat.reduceLT, Nat.reduceLeDiff, Nat.reduceSub, Nat.reduceEqDiff, Nat.zero_le, Nat.sub_zero, Nat.le_refl, true_and, and_true, not_true_eq_false, not_false_eq_true, true_or, or_true, lc_eq, lc_ne, lc_lt, lc_ge, lc_gt, lc_le, nI_add, lN_add, nI_leI, nI_ltI, nI_eq, nI_clamp, pk_lLT, pk_lLE, pk_lEQ, pk_sub, vp_inT, nz_eq, nz_lt, nz_ge, nz_gt, nz_le, lz_eq, lz_lt, lz_ge, hP1, hP2, hP3, hP4, hP5, hP6, hP7, hP8, hP9, hP10, hP11, hP12, hP13, hP14, hP15, hP16, hP17, hP18, hP19, hP20, k5.1.1]
    refine c811 (d + 1) k5 (by decide) ?_
    intro h6 k6 f6
    simp (disch := omega) only [nI1T, Nat.left_eq_add, Nat.add_eq_left, Nat.add_eq_zero_iff, and_false, false_and, if_false, if_true, opsN, opsC, pm_1, lg, ls1, ls2, lq, List.length_cons, List.length_nil, cN, cL, callE, retV, retN, pm_pop, pm_cat, List.map_cons, List.map_nil, List.sum_cons, List.sum_nil, Value.category, Option.toList, List.cons_append, List.nil_append, ↓reduceIte, reduceCtorEq, Nat.reduceAdd, Nat.reduceLT, Nat.reduceLeDiff, Nat.reduceSub, Nat.reduceEqDiff, Nat.zero_le, Nat.sub_zero, Nat.le_refl, true_and, and_true, not_true_eq_false, not_false_eq_true, true_or, or_true, lc_eq, lc_ne, lc_lt, lc_ge, lc_gt, lc_le, nI_add, lN_add, nI_leI, nI_ltI, nI_eq, nI_clamp, pk_lLT, pk_lLE, pk_lEQ, pk_sub, vp_inT, nz_eq, nz_lt, nz_ge, nz_gt, nz_le, lz_eq, lz_lt, lz_ge, hP1, hP2, hP3, hP4, hP5, hP6, hP7, hP8, hP9, hP10, hP11, hP12, hP13, hP14, hP15, hP16, hP17, hP18, hP19, hP20, k6.1.1]
    refine c811 (d + 1) k6 (by decide) ?_
    intro h7 k7 f7
    have ff := frR_trans f3 (frR_trans f4 (frR_trans f5 (frR_trans f6 f7)))
    have pn4 := isPn_R ff htc pn2
    have eL : stpP X p = ((numP X 1000000000 (numP X 199 (p + 4, none)).1).1, [(2, (numP X 199 (p + 4, none)).2, (numP X 1000000000 (numP X 199 (p + 4, none)).1).2)]) := by unfold stpP; rw [if_neg w1, if_neg w2, if_pos w3]
    simp (disch := omega) only [nI1T, Nat.left_eq_add, Nat.add_eq_left, Nat.add_eq_zero_iff, and_false, false_and, if_false, if_true, opsN, opsC, pm_1, lg, ls1, ls2, lq, List.length_cons, List.length_nil, cN, cL, callE, retV, retN, pm_pop, pm_cat, List.map_cons, List.map_nil, List.sum_cons, List.sum_nil, Value.category, Option.toList, List.cons_append, List.nil_append, ↓reduceIte, reduceCtorEq, Nat.reduceAdd, Nat.reduceLT, Nat.reduceLeDiff, Nat.reduceSub, Nat.reduceEqDiff, Nat.zero_le, Nat.sub_zero, Nat.le_refl, true_and, and_true, not_true_eq_false, not_false_eq_true, true_or, or_true, lc_eq, lc_ne, lc_lt, lc_ge, lc_gt, lc_le, nI_add, lN_add, nI_leI, nI_ltI, nI_eq, nI_clamp, pk_lLT, pk_lLE, pk_lEQ, pk_sub, vp_inT, nz_eq, nz_lt, nz_ge, nz_gt, nz_le, lz_eq, lz_lt, lz_ge, hP1, hP2, hP3, hP4, hP5, hP6, hP7, hP8, hP9, hP10, hP11, hP12, hP13, hP14, hP15, hP16, hP17, hP18, hP19, hP20, pn4.1.1]
    refine c403 (d + 3) (s := (2, (numP X 199 (p + 4, none)).2, (numP X 1000000000 (numP X 199 (p + 4, none)).1).2)) pn4.1 pn4.2.1 ?_
    intro h8 q1 q2
    have pn5 := isPn_add pn4 q1 q2
    simp (disch := omega) only [nI1T, Nat.left_eq_add, Nat.add_eq_left, Nat.add_eq_zero_iff, and_false, false_and, if_false, if_true, opsN, opsC, pm_1, lg, ls1, ls2, lq, List.length_cons, List.length_nil, cN, cL, callE, retV, retN, pm_pop, pm_cat, List.map_cons, List.map_nil, List.sum_cons, List.sum_nil, Value.category, Option.toList, List.cons_append, List.nil_append, ↓reduceIte, reduceCtorEq, Nat.reduceAdd, Nat.reduceLT, Nat.reduceLeDiff, Nat.reduceSub, Nat.reduceEqDiff, Nat.zero_le, Nat.sub_zero, Nat.le_refl, true_and, and_true, not_true_eq_false, not_false_eq_true, true_or, or_true, lc_eq, lc_ne, lc_lt, lc_ge, lc_gt, lc_le, nI_add, lN_add, nI_leI, nI_ltI, nI_eq, nI_clamp, pk_lLT, pk_lLE, pk_lEQ, pk_sub, vp_inT, nz_eq, nz_lt, nz_ge, nz_gt, nz_le, lz_eq, lz_lt, lz_ge, hP1, hP2, hP3, hP4, hP5, hP6, hP7, hP8, hP9, hP10, hP11, hP12, hP13, hP14, hP15, hP16, hP17, hP18, hP19, hP20]
    exact fin h8 _ (by rw [eL]; exact rd_S htc q2 k7) pn5.1 (fun _ => by rw [eL]; exact pn5) (frW_trans fB (frW_trans (frW_R ff) (frW_S htc q2)))
  intro w3 h5 k5 f5
  have w3 : ¬ wd X p wLess = true := by rw [← hsk, w3]; exact fun q => by cases q
  have k5 : rd h5 t X (p, none) := by rw [← hsk]; exact k5
  simp (disch := omega) only [u_402_100, B_402_100, nI1T, Nat.left_eq_add, Nat.add_eq_left, Nat.add_eq_zero_iff, and_false, false_and, if_false, if_true, opsN, opsC, pm_1, lg, ls1, ls2, lq, List.length_cons, List.length_nil, cN, cL, callE, retV, retN, pm_pop, pm_cat, List.map_cons, List.map_nil, List.sum_cons, List.sum_nil, Value.category, Option.toList, List.cons_append, List.nil_append, ↓reduceIte, reduceCtorEq, Nat.reduceAdd, Nat.reduceLT, Nat.reduceLeDiff, Nat.reduceSub, Nat.reduceEqDiff, Nat.zero_le, Nat.sub_zero, Nat.le_refl, true_and, and_true, not_true_eq_false, not_false_eq_true, true_or, or_true, lc_eq, lc_ne, lc_lt, lc_ge, lc_gt, lc_le, nI_add, lN_add, nI_leI, nI_ltI, nI_eq, nI_clamp, pk_lLT, pk_lLE, pk_lEQ, pk_sub, vp_inT, nz_eq, nz_lt, nz_ge, nz_gt, nz_le, lz_eq, lz_lt, lz_ge, hP1, hP2, hP3, hP4, hP5, hP6, hP7, hP8, hP9, hP10, hP11, hP12, hP13, hP14, hP15, hP16, hP17, hP18, hP19, hP20, k5.1.1]
  refine c810 (d + 1) (o := 6) (w := wDrop) k5 (by decide) (by decide) rfl (by decide) (by decide) ?_ ?_
  · intro w4 h6 k6 f6
    have w4 : wd X p wDrop = true := by rw [← hsk]; exact w4
    have k6 : rd h6 t X (p + 4, none) := by rw [← hsk]; exact k6
    simp (disch := omega) only [nI1T, Nat.left_eq_add, Nat.add_eq_left, Nat.add_eq_zero_iff, and_false, false_and, if_false, if_true, opsN, opsC, pm_1, lg, ls1, ls2, lq, List.length_cons, List.length_nil, cN, cL, callE, retV, retN, pm_pop, pm_cat, List.map_cons, List.map_nil, List.sum_cons, List.sum_nil, Value.category, Option.toList, List.cons_append, List.nil_append, ↓reduceIte, reduceCtorEq, Nat.reduceAdd, Nat.reduceLT, Nat.reduceLeDiff, Nat.reduceSub, Nat.reduceEqDiff, Nat.zero_le, Nat.sub_zero, Nat.le_refl, true_and, and_true, not_true_eq_false, not_false_eq_true, true_or, or_true, lc_eq, lc_ne, lc_lt, lc_ge, lc_gt, lc_le, nI_add, lN_add, nI_leI, nI_ltI, nI_eq, nI_clamp, pk_lLT, pk_lLE, pk_lEQ, pk_sub, vp_inT, nz_eq, nz_lt, nz_ge, nz_gt, nz_le, lz_eq, lz_lt, lz_ge, hP1, hP2, hP3, hP4, hP5, hP6, hP7, hP8, hP9, hP10, hP11, hP12, hP13, hP14, hP15, hP16, hP17, hP18, hP19, hP20, k6.1.1]
    refine c811 (d + 1) k6 (by decide) ?_
    intro h7 k7 f7
    have ff := frR_trans f3 (frR_trans f4 (frR_trans f5 (frR_trans f6 f7)))
    have pn4 := isPn_R ff htc pn2
    have eL : stpP X p = ((numP X 199 (p + 4, none)).1, [(3, (numP X 199 (p + 4, none)).2, 0)]) := by unfold stpP; rw [if_neg w1, if_neg w2, if_neg w3, if_pos w4]
    simp (disch := omega) only [nI1T, Nat.left_eq_add, Nat.add_eq_left, Nat.add_eq_zero_iff, and_false, false_and, if_false, if_true, opsN, opsC, pm_1, lg, ls1, ls2, lq, List.length_cons, List.length_nil, cN, cL, callE, retV, retN, pm_pop, pm_cat, List.map_cons, List.map_nil, List.sum_cons, List.sum_nil, Value.category, Option.toList, List.cons_append, List.nil_append, ↓reduceIte, reduceCtorEq, Nat.reduceAdd, Nat.reduceLT, Nat.reduceLeDiff, Nat.reduceSub, Nat.reduceEqDiff, Nat.zero_le, Nat.sub_zero, Nat.le_refl, true_and, and_true, not_true_eq_false, not_false_eq_true, true_or, or_true, lc_eq, lc_ne, lc_lt, lc_ge, lc_gt, lc_le, nI_add, lN_add, nI_leI, nI_ltI, nI_eq, nI_clamp, pk_lLT, pk_lLE, pk_lEQ, pk_sub, vp_inT, nz_eq, nz_lt, nz_ge, nz_gt, nz_le, lz_eq, lz_lt, lz_ge, hP1, hP2, hP3, hP4, hP5, hP6, hP7, hP8, hP9, hP10, hP11, hP12, hP13, hP14, hP15, hP16, hP17, hP18, hP19, hP20, pn4.1.1]
    refine c403 (d + 3) (s := (3, (numP X 199 (p + 4, none)).2, 0)) pn4.1 pn4.2.1 ?_
    intro h8 q1 q2
    have pn5 := isPn_add pn4 q1 q2
    simp (disch := omega) only [nI1T, Nat.left_eq_add, Nat.add_eq_left, Nat.add_eq_zero_iff, and_false, false_and, if_false, if_true, opsN, opsC, pm_1, lg, ls1, ls2, lq, List.length_cons, List.length_nil, cN, cL, callE, retV, retN, pm_pop, pm_cat, List.map_cons, List.map_nil, List.sum_cons, List.sum_nil, Value.category, Option.toList, List.cons_append, List.nil_append, ↓reduceIte, reduceCtorEq, Nat.reduceAdd, Nat.reduceLT, Nat.reduceLeDiff, Nat.reduceSub, Nat.reduceEqDiff, Nat.zero_le, Nat.sub_zero, Nat.le_refl, true_and, and_true, not_true_eq_false, not_false_eq_true, true_or, or_true, lc_eq, lc_ne, lc_lt, lc_ge, lc_gt, lc_le, nI_add, lN_add, nI_leI, nI_ltI, nI_eq, nI_clamp, pk_lLT, pk_lLE, pk_lEQ, pk_sub, vp_inT, nz_eq, nz_lt, nz_ge, nz_gt, nz_le, lz_eq, lz_lt, lz_ge, hP1, hP2, hP3, hP4, hP5, hP6, hP7, hP8, hP9, hP10, hP11, hP12, hP13, hP14, hP15, hP16, hP17, hP18, hP19, hP20]
    exact fin h8 _ (by rw [eL]; exact rd_S htc q2 k7) pn5.1 (fun _ => by rw [eL]; exact pn5) (frW_trans fB (frW_trans (frW_R ff) (frW_S htc q2)))
  intro w4 h6 k6 f6
  have w4 : ¬ wd X p wDrop = true := by rw [← hsk, w4]; exact fun q => by cases q
  have k6 : rd h6 t X (p, none) := by rw [← hsk]; exact k6
  have g2 : hI h6 t 2 = nI p := k6.2.1
  have eL : stpP X p = ((p, some (1, p)), []) := by unfold stpP; rw [if_neg w1, if_neg w2, if_neg w3, if_neg w4]
  simp (disch := omega) only [u_402_125, B_402_125, nI1T, Nat.left_eq_add, Nat.add_eq_left, Nat.add_eq_zero_iff, and_false, false_and, if_false, if_true, opsN, opsC, pm_1, lg, ls1, ls2, lq, List.length_cons, List.length_nil, cN, cL, callE, retV, retN, pm_pop, pm_cat, List.map_cons, List.map_nil, List.sum_cons, List.sum_nil, Value.category, Option.toList, List.cons_append, List.nil_append, ↓reduceIte, reduceCtorEq, Nat.reduceAdd, Nat.reduceLT, Nat.reduceLeDiff, Nat.reduceSub, Nat.reduceEqDiff, Nat.zero_le, Nat.sub_zero, Nat.le_refl, true_and, and_true, not_true_eq_false, not_false_eq_true, true_or, or_true, lc_eq, lc_ne, lc_lt, lc_ge, lc_gt, lc_le, nI_add, lN_add, nI_leI, nI_ltI, nI_eq, nI_clamp, pk_lLT, pk_lLE, pk_lEQ, pk_sub, vp_inT, nz_eq, nz_lt, nz_ge, nz_gt, nz_le, lz_eq, lz_lt, lz_ge, hP1, hP2, hP3, hP4, hP5, hP6, hP7, hP8, hP9, hP10, hP11, hP12, hP13, hP14, hP15, hP16, hP17, hP18, hP19, hP20, k6.1.1, g2]
  refine c805 (d + 3) k6 (by decide) (by decide) (by omega) ?_
  intro h7 q1 q2
  have ff := frR_trans f3 (frR_trans f4 (frR_trans f5 (frR_trans f6 q2)))
  have pn4 := isPn_R ff htc pn2
  simp (disch := omega) only [nI1T, Nat.left_eq_add, Nat.add_eq_left, Nat.add_eq_zero_iff, and_false, false_and, if_false, if_true, opsN, opsC, pm_1, lg, ls1, ls2, lq, List.length_cons, List.length_nil, cN, cL, callE, retV, retN, pm_pop, pm_cat, List.map_cons, List.map_nil, List.sum_cons, List.sum_nil, Value.category, Option.toList, List.cons_append, List.nil_append, ↓reduceIte, reduceCtorEq, Nat.reduceAdd, Nat.reduceLT, Nat.reduceLeDiff, Nat.reduceSub, Nat.reduceEqDiff, Nat.zero_le, Nat.sub_zero, Nat.le_refl, true_and, and_true, not_true_eq_false, not_false_eq_true, true_or, or_true, lc_eq, lc_ne, lc_lt, lc_ge, lc_gt, lc_le, nI_add, lN_add, nI_leI, nI_ltI, nI_eq, nI_clamp, pk_lLT, pk_lLE, pk_lEQ, pk_sub, vp_inT, nz_eq, nz_lt, nz_ge, nz_gt, nz_le, lz_eq, lz_lt, lz_ge, hP1, hP2, hP3, hP4, hP5, hP6, hP7, hP8, hP9, hP10, hP11, hP12, hP13, hP14, hP15, hP16, hP17, hP18, hP19, hP20]
  exact fin h7 _ (by rw [eL]; exact q1) pn4.1 (fun q => by rw [eL] at q; cases q) (frW_trans fB (frW_R ff))
end P4
