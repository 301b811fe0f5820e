/-! ===== replay: the class goes ===== -/
/-- the chart's events and rules, as the class holds them -/
def evR (h : pm_H) (c : Nat) (Es : List Ev) (R : List Ed) : Prop := hI h c 9 = nI Es.length ∧ hI h c 10 = nI R.length ∧ (∀ i, i < Es.length → hI h (c + 4) i = nI (Es.getD i ev0).1 ∧ hI h (c + 5) i = nI (Es.getD i ev0).2) ∧
  ∀ i, i < R.length → hI h (c + 6) i = nI (R.getD i ed0).1 ∧ hI h (c + 7) i = nI (R.getD i ed0).2.1 ∧ hI h (c + 8) i = nI (R.getD i ed0).2.2
theorem evR_fr {h h' : pm_H} {x c : Nat} {Es : List Ev} {R : List Ed} (f : fr (x + 64) (x + 82) h h') (hc : c + 9 ≤ x + 64) (a : evR h c Es R) : evR h' c Es R := by
  unfold evR
  rw [(f.2.2.2.2 c (by omega)).1, (f.2.2.2.2 (c + 4) (by omega)).1, (f.2.2.2.2 (c + 5) (by omega)).1, (f.2.2.2.2 (c + 6) (by omega)).1, (f.2.2.2.2 (c + 7) (by omega)).1, (f.2.2.2.2 (c + 8) (by omega)).1]; exact a
section PL2
variable {x bits : Nat} {Q : pm_Q}
theorem c602 (d : Nat) {h : pm_H} {v : VT} {T H t : Nat} (hc : clV h x bits v) (hv : vOK bits T H v) (ht : t < 2 ^ 40) (hQ : Q (.inl (some (.int (nI (if (qN v.1).length ≠ 0 ∧ minK (qK v.1) (hdD v.1) ≤ t then 1 else 0))))) h) : pm_M PP (d + 2) 602 [.ref (x + 78), .long (lN t)] h Q := by
  obtain ⟨⟨y0, y1, _⟩, p2, p3, p4, p5, p6⟩ := id hc
  have q1 := p2.1.1
  have f9 := p2.2.2.2.2.2.2.1
  have i11 := hv.1.2.2.2.2.2.2.2.2.2.2.1
  have i3 := hv.1.2.2.1
  rw [e_602]
  by_cases c2 : (qN v.1).length = 0
  · rw [if_neg (fun q => q.1 c2)] at hQ
    rw [c2] at f9
    simp (disch := omega) only [u_602_0, B_602_0, u_602_26, B_602_26, u_602_27, B_602_27, nI1T, Nat.left_eq_add, Nat.add_eq_left, Nat.add_eq_zero_iff, and_false, false_and, if_false, if_true, opsN, opsC, pm_1, lg, ls1, ls2, lq, List.length_cons, List.length_nil, cN, cL, callE, retV, retN, pm_pop, pm_cat, List.map_cons, List.map_nil, List.sum_cons, List.sum_nil, Value.category, Option.toList, List.cons_append, List.nil_append, ↓reduceIte, reduceCtorEq, Nat.reduceAdd, Nat.reduceLT, Nat.reduceLeDiff, Nat.reduceSub, Nat.reduceEqDiff, Nat.zero_le, Nat.sub_zero, Nat.le_refl, true_and, and_true, not_true_eq_false, not_false_eq_true, true_or, or_true, lc_eq, lc_ne, lc_lt, lc_ge, lc_gt, lc_le, nI_add, lN_add, nI_leI, nI_ltI, nI_eq, nI_clamp, pk_lLT, pk_lLE, pk_lEQ, pk_sub, vp_inT, nz_eq, nz_lt, nz_ge, nz_gt, nz_le, lz_eq, lz_lt, lz_ge, hP1, hP2, hP3, hP4, hP5, hP6, hP7, hP8, hP9, hP10, hP11, hP12, hP13, hP14, hP15, hP16, hP17, hP18, hP19, hP20, y0, y1, q1, f9]
    exact hQ
  · have hne : qN v.1 ≠ [] := fun z => c2 (by rw [z]; rfl)
    have mk : minK (qK v.1) (hdD v.1) < 2 ^ 40 := by
      obtain ⟨y, hy, e⟩ := minK_mem (K := qK v.1) (L := hdD v.1) (hdD_ne hne)
      rw [e]
      have : y ∈ qN v.1 := by rw [← hd_split]; exact List.mem_append_left _ hy
      exact hv.1.2.2.2.2.2.1 y (qI_line hv.1 y this).1
    simp (disch := omega) only [u_602_0, B_602_0, nI1T, Nat.left_eq_add, Nat.add_eq_left, Nat.add_eq_zero_iff, and_false, false_and, if_false, if_true, opsN, opsC, pm_1, lg, ls1, ls2, lq, List.length_cons, List.length_nil, cN, cL, callE, retV, retN, pm_pop, pm_cat, List.map_cons, List.map_nil, List.sum_cons, List.sum_nil, Value.category, Option.toList, List.cons_append, List.nil_append, ↓reduceIte, reduceCtorEq, Nat.reduceAdd, Nat.reduceLT, Nat.reduceLeDiff, Nat.reduceSub, Nat.reduceEqDiff, Nat.zero_le, Nat.sub_zero, Nat.le_refl, true_and, and_true, not_true_eq_false, not_false_eq_true, true_or, or_true, lc_eq, lc_ne, lc_lt, lc_ge, lc_gt, lc_le, nI_add, lN_add, nI_leI, nI_ltI, nI_eq, nI_clamp, pk_lLT, pk_lLE, pk_lEQ, pk_sub, vp_inT, nz_eq, nz_lt, nz_ge, nz_gt, nz_le, lz_eq, lz_lt, lz_ge, hP1, hP2, hP3, hP4, hP5, hP6, hP7, hP8, hP9, hP10, hP11, hP12, hP13, hP14, hP15, hP16, hP17, hP18, hP19, hP20, y0, y1, q1, f9, c2]
    refine c122 d p2 hv.1 hne ?_
    by_cases c3 : minK (qK v.1) (hdD v.1) ≤ t
    · have c4 : ¬ t < minK (qK v.1) (hdD v.1) := by omega
      rw [if_pos ⟨c2, c3⟩] at hQ
      simp (disch := omega) only [u_602_27, B_602_27, nI1T, Nat.left_eq_add, Nat.add_eq_left, Nat.add_eq_zero_iff, and_false, false_and, if_false, if_true, opsN, opsC, pm_1, lg, ls1, ls2, lq, List.length_cons, List.length_nil, cN, cL, callE, retV, retN, pm_pop, pm_cat, List.map_cons, List.map_nil, List.sum_cons, List.sum_nil, Value.category, Option.toList, List.cons_append, List.nil_append, ↓reduceIte, reduceCtorEq, Nat.reduceAdd, Nat.reduceLT, Nat.reduceLeDiff, Nat.reduceSub, Nat.reduceEqDiff, Nat.zero_le, Nat.sub_zero, Nat.le_refl, true_and, and_true, not_true_eq_false, not_false_eq_true, true_or, or_true, lc_eq, lc_ne, lc_lt, lc_ge, lc_gt, lc_le, nI_add, lN_add, nI_leI, nI_ltI, nI_eq, nI_clamp, pk_lLT, pk_lLE, pk_lEQ, pk_sub, vp_inT, nz_eq, nz_lt, nz_ge, nz_gt, nz_le, lz_eq, lz_lt, lz_ge, hP1, hP2, hP3, hP4, hP5, hP6, hP7, hP8, hP9, hP10, hP11, hP12, hP13, hP14, hP15, hP16, hP17, hP18, hP19, hP20, c4]
      exact hQ
    · have c4 : t < minK (qK v.1) (hdD v.1) := by omega
      rw [if_neg (fun q => c3 q.2)] at hQ
      simp (disch := omega) only [u_602_26, B_602_26, u_602_27, B_602_27, nI1T, Nat.left_eq_add, Nat.add_eq_left, Nat.add_eq_zero_iff, and_false, false_and, if_false, if_true, opsN, opsC, pm_1, lg, ls1, ls2, lq, List.length_cons, List.length_nil, cN, cL, callE, retV, retN, pm_pop, pm_cat, List.map_cons, List.map_nil, List.sum_cons, List.sum_nil, Value.category, Option.toList, List.cons_append, List.nil_append, ↓reduceIte, reduceCtorEq, Nat.reduceAdd, Nat.reduceLT, Nat.reduceLeDiff, Nat.reduceSub, Nat.reduceEqDiff, Nat.zero_le, Nat.sub_zero, Nat.le_refl, true_and, and_true, not_true_eq_false, not_false_eq_true, true_or, or_true, lc_eq, lc_ne, lc_lt, lc_ge, lc_gt, lc_le, nI_add, lN_add, nI_leI, nI_ltI, nI_eq, nI_clamp, pk_lLT, pk_lLE, pk_lEQ, pk_sub, vp_inT, nz_eq, nz_lt, nz_ge, nz_gt, nz_le, lz_eq, lz_lt, lz_ge, hP1, hP2, hP3, hP4, hP5, hP6, hP7, hP8, hP9, hP10, hP11, hP12, hP13, hP14, hP15, hP16, hP17, hP18, hP19, hP20, c4]
      exact hQ
theorem c603 (d : Nat) {h : pm_H} {v : VT} {c T H : Nat} {Es : List Ev} {R : List Ed} (hcx : x + 46 ≤ c) (hcx2 : c + 9 ≤ x + 64) (hR0 : ∀ e, e ∈ R → rlB e) (h6 : R.length ≤ 16) (hH : H + 1000000000 < 2 ^ 40) (hs : chS h c) (hr : evR h c Es R) (hv : vOK bits T H v) (hne : qN v.1 ≠ []) (hl2 : v.2.2.1.length < 200)
    (hc : clV h x bits (qTake bits v.1, v.2.1, v.2.2.1, v.2.2.2)) (hQ : ∀ h', clV h' x bits (vTurn bits R v) → fr (x + 64) (x + 82) h h' → Q (.inl none) h') : pm_M PP (d + 5) 603 [.ref (x + 78), .ref c, .int (nI (qTop bits v.1))] h Q := by
  obtain ⟨⟨s0, s1, s2, s3, s4, t1, t2, t3, n1, n2, n3⟩, p2, p3, p4, p5, p6⟩ := id hc
  obtain ⟨vf, vl, vt⟩ := vFo_take hv hne
  have i3 := hv.1.2.2.1
  obtain ⟨u1, u2, u3, u4⟩ := qI_take hv.1 hne
  have c1 : ¬ 300 ≤ qTop bits v.1 := by omega
  have c1' : qTop bits v.1 < 300 := by omega
  have gl : hI h (x + 79) (qTop bits v.1) = nI (v.2.1 (qTop bits v.1)) := p3 _ (by show _ < qC (qTake bits v.1); rw [u2]; exact vt)
  have gc := p5 _ vl
  have gc : hI h (x + 81) (v.2.1 (qTop bits v.1)) = nI (v.2.2.2 (v.2.1 (qTop bits v.1))) := gc
  have p6 : hI h (x + 78) 4 = nI v.2.2.1.length := p6
  rw [e_603]
  simp (disch := omega) only [u_603_0, B_603_0, nI1T, Nat.left_eq_add, Nat.add_eq_left, Nat.add_eq_zero_iff, and_false, false_and, if_false, if_true, opsN, opsC, pm_1, lg, ls1, ls2, lq, List.length_cons, List.length_nil, cN, cL, callE, retV, retN, pm_pop, pm_cat, List.map_cons, List.map_nil, List.sum_cons, List.sum_nil, Value.category, Option.toList, List.cons_append, List.nil_append, ↓reduceIte, reduceCtorEq, Nat.reduceAdd, Nat.reduceLT, Nat.reduceLeDiff, Nat.reduceSub, Nat.reduceEqDiff, Nat.zero_le, Nat.sub_zero, Nat.le_refl, true_and, and_true, not_true_eq_false, not_false_eq_true, true_or, or_true, lc_eq, lc_ne, lc_lt, lc_ge, lc_gt, lc_le, nI_add, lN_add, nI_leI, nI_ltI, nI_eq, nI_clamp, pk_lLT, pk_lLE, pk_lEQ, pk_sub, vp_inT, nz_eq, nz_lt, nz_ge, nz_gt, nz_le, lz_eq, lz_lt, lz_ge, hP1, hP2, hP3, hP4, hP5, hP6, hP7, hP8, hP9, hP10, hP11, hP12, hP13, hP14, hP15, hP16, hP17, hP18, hP19, hP20, s0, c1, p6, hl2]
  simp (disch := omega) only [u_603_22, B_603_22, nI1T, Nat.left_eq_add, Nat.add_eq_left, Nat.add_eq_zero_iff, and_false, false_and, if_false, if_true, opsN, opsC, pm_1, lg, ls1, ls2, lq, List.length_cons, List.length_nil, cN, cL, callE, retV, retN, pm_pop, pm_cat, List.map_cons, List.map_nil, List.sum_cons, List.sum_nil, Value.category, Option.toList, List.cons_append, List.nil_append, ↓reduceIte, reduceCtorEq, Nat.reduceAdd, Nat.reduceLT, Nat.reduceLeDiff, Nat.reduceSub, Nat.reduceEqDiff, Nat.zero_le, Nat.sub_zero, Nat.le_refl, true_and, and_true, not_true_eq_false, not_false_eq_true, true_or, or_true, lc_eq, lc_ne, lc_lt, lc_ge, lc_gt, lc_le, nI_add, lN_add, nI_leI, nI_ltI, nI_eq, nI_clamp, pk_lLT, pk_lLE, pk_lEQ, pk_sub, vp_inT, nz_eq, nz_lt, nz_ge, nz_gt, nz_le, lz_eq, lz_lt, lz_ge, hP1, hP2, hP3, hP4, hP5, hP6, hP7, hP8, hP9, hP10, hP11, hP12, hP13, hP14, hP15, hP16, hP17, hP18, hP19, hP20, s0, s2, s3, s4, t1, t2, t3, n1, n2, n3, p6, hl2, gl, gc, vl, c1', va_upE]
  have f1 : fr (x + 78) (x + 82) h (sI (sI (sI h (x + 80) (va_up (hI h (x + 80)) v.2.2.1.length (nI (qTop bits v.1)))) (x + 78) (va_up (hI h (x + 78)) 4 (nI (v.2.2.1.length + 1)))) (x + 81) (va_up (hI h (x + 81)) (v.2.1 (qTop bits v.1)) (nI (v.2.2.2 (v.2.1 (qTop bits v.1)) + 1)))) := fr_sI (fr_sI (fr_sI (fr_refl _ _ _) (by omega) (by omega)) (by omega) (by omega)) (by omega) (by omega)
  have cl1 : clV (sI (sI (sI h (x + 80) (va_up (hI h (x + 80)) v.2.2.1.length (nI (qTop bits v.1)))) (x + 78) (va_up (hI h (x + 78)) 4 (nI (v.2.2.1.length + 1)))) (x + 81) (va_up (hI h (x + 81)) (v.2.1 (qTop bits v.1)) (nI (v.2.2.2 (v.2.1 (qTop bits v.1)) + 1)))) x bits (vTake bits v) := by
    refine ⟨pbS_fr f1 hc.1, isB_fr f1 (by omega) p2, fun i hi => ?_, fun i hi => ?_, fun j hj => ?_, ?_⟩
    · rw [hP1, va_up_ne _ _ (by omega), hP1, va_up_ne _ _ (by omega), hP1, va_up_ne _ _ (by omega)]; exact p3 i hi
    · rw [hP1, va_up_ne _ _ (by omega), hP1, va_up_ne _ _ (by omega), hI_at]
      exact app_row (L := v.2.2.1) (y := qTop bits v.1) (dd := 0) (π := fun e => e) (fun i hi => p4 i hi) i hi
    · rw [hI_at]
      show va_up (hI h (x + 81)) (v.2.1 (qTop bits v.1)) (nI (v.2.2.2 (v.2.1 (qTop bits v.1)) + 1)) j = nI (va_up v.2.2.2 (v.2.1 (qTop bits v.1)) (v.2.2.2 (v.2.1 (qTop bits v.1)) + 1) j)
      rw [va_upE, va_upE]; split
      · rfl
      · exact p5 j hj
    · rw [hP1, va_up_ne _ _ (by omega), hI_at, va_up_self]
      show _ = nI (v.2.2.1 ++ [_]).length
      rw [List.length_append]; rfl
  have f2 := fr_wide f1 (show x + 64 ≤ x + 78 by omega) (Nat.le_refl (x + 82))
  have hs2 := chS_eq f2.1 f2.2.1 (show hR (sI (sI (sI h (x + 80) (va_up (hI h (x + 80)) v.2.2.1.length (nI (qTop bits v.1)))) (x + 78) (va_up (hI h (x + 78)) 4 (nI (v.2.2.1.length + 1)))) (x + 81) (va_up (hI h (x + 81)) (v.2.1 (qTop bits v.1)) (nI (v.2.2.2 (v.2.1 (qTop bits v.1)) + 1)))) c = hR h c by rw [f2.2.2.1]) hs
  have hr2 := evR_fr f2 hcx2 hr
  rw [e_604]
  simp (disch := omega) only [u_604_0, B_604_0, nI1T, Nat.left_eq_add, Nat.add_eq_left, Nat.add_eq_zero_iff, and_false, false_and, if_false, if_true, opsN, opsC, pm_1, lg, ls1, ls2, lq, List.length_cons, List.length_nil, cN, cL, callE, retV, retN, pm_pop, pm_cat, List.map_cons, List.map_nil, List.sum_cons, List.sum_nil, Value.category, Option.toList, List.cons_append, List.nil_append, ↓reduceIte, reduceCtorEq, Nat.reduceAdd, Nat.reduceLT, Nat.reduceLeDiff, Nat.reduceSub, Nat.reduceEqDiff, Nat.zero_le, Nat.sub_zero, Nat.le_refl, true_and, and_true, not_true_eq_false, not_false_eq_true, true_or, or_true, lc_eq, lc_ne, lc_lt, lc_ge, lc_gt, lc_le, nI_add, lN_add, nI_leI, nI_ltI, nI_eq, nI_clamp, pk_lLT, pk_lLE, pk_lEQ, pk_sub, vp_inT, nz_eq, nz_lt, nz_ge, nz_gt, nz_le, lz_eq, lz_lt, lz_ge, hP1, hP2, hP3, hP4, hP5, hP6, hP7, hP8, hP9, hP10, hP11, hP12, hP13, hP14, hP15, hP16, hP17, hP18, hP19, hP20]
  refine l604 d vl hcx hcx2 hR0 h6 hH R [] (vTake bits v) _ rfl hs2 hr2.2.1 hr2.2.2.2 cl1 vf ?_
  intro h' k1 k2
  simp (disch := omega) only [nI1T, Nat.left_eq_add, Nat.add_eq_left, Nat.add_eq_zero_iff, and_false, false_and, if_false, if_true, opsN, opsC, pm_1, lg, ls1, ls2, lq, List.length_cons, List.length_nil, cN, cL, callE, retV, retN, pm_pop, pm_cat, List.map_cons, List.map_nil, List.sum_cons, List.sum_nil, Value.category, Option.toList, List.cons_append, List.nil_append, ↓reduceIte, reduceCtorEq, Nat.reduceAdd, Nat.reduceLT, Nat.reduceLeDiff, Nat.reduceSub, Nat.reduceEqDiff, Nat.zero_le, Nat.sub_zero, Nat.le_refl, true_and, and_true, not_true_eq_false, not_false_eq_true, true_or, or_true, lc_eq, lc_ne, lc_lt, lc_ge, lc_gt, lc_le, nI_add, lN_add, nI_leI, nI_ltI, nI_eq, nI_clamp, pk_lLT, pk_lLE, pk_lEQ, pk_sub, vp_inT, nz_eq, nz_lt, nz_ge, nz_gt, nz_le, lz_eq, lz_lt, lz_ge, hP1, hP2, hP3, hP4, hP5, hP6, hP7, hP8, hP9, hP10, hP11, hP12, hP13, hP14, hP15, hP16, hP17, hP18, hP19, hP20]
  exact hQ h' k1 (fr_trans f2 k2)
theorem l601e (d : Nat) {c : Nat} {Es : List Ev} {R : List Ed} {v2 : Int32} {v3 : Int64} (hcx : x + 46 ≤ c) (hcx2 : c + 9 ≤ x + 64) (hEs : ∀ e, e ∈ Es → evB e) (h6 : Es.length ≤ 12) : ∀ (suf pre : List Ev) (v : VT) (h : pm_H), Es = pre ++ suf → chS h c → evR h c Es R → clV h x bits v → vOK bits 0 1000000000 v → qL v.1 = 0 →
      (∀ h', clV h' x bits (vEvs bits suf v) → fr (x + 64) (x + 82) h h' → pm_W PP (d + 3) 601 Q 0 0 61 [some (.ref (x + 78)), some (.ref c), some (.int v2), some (.long v3), none, some (.int (nI Es.length))] [] h') →
      pm_W PP (d + 3) 601 Q 0 0 27 [some (.ref (x + 78)), some (.ref c), some (.int v2), some (.long v3), none, some (.int (nI pre.length))] [] h := by
  intro suf
  induction suf with
  | nil =>
    intro pre v h hL hs hr hc hv h0 hQ
    have e : pre.length = Es.length := by rw [hL, List.append_nil]
    have c1 : Es.length ≤ Es.length := Nat.le_refl _
    have hl := hr.1
    rw [e, u_601_27]
    simp (disch := omega) only [B_601_27, nI1T, Nat.left_eq_add, Nat.add_eq_left, Nat.add_eq_zero_iff, and_false, false_and, if_false, if_true, opsN, opsC, pm_1, lg, ls1, ls2, lq, List.length_cons, List.length_nil, cN, cL, callE, retV, retN, pm_pop, pm_cat, List.map_cons, List.map_nil, List.sum_cons, List.sum_nil, Value.category, Option.toList, List.cons_append, List.nil_append, ↓reduceIte, reduceCtorEq, Nat.reduceAdd, Nat.reduceLT, Nat.reduceLeDiff, Nat.reduceSub, Nat.reduceEqDiff, Nat.zero_le, Nat.sub_zero, Nat.le_refl, true_and, and_true, not_true_eq_false, not_false_eq_true, true_or, or_true, lc_eq, lc_ne, lc_lt, lc_ge, lc_gt, lc_le, nI_add, lN_add, nI_leI, nI_ltI, nI_eq, nI_clamp, pk_lLT, pk_lLE, pk_lEQ, pk_sub, vp_inT, nz_eq, nz_lt, nz_ge, nz_gt, nz_le, lz_eq, lz_lt, lz_ge, hP1, hP2, hP3, hP4, hP5, hP6, hP7, hP8, hP9, hP10, hP11, hP12, hP13, hP14, hP15, hP16, hP17, hP18, hP19, hP20, hs.1, hl, c1]
    exact hQ h hc (fr_refl _ _ _)
  | cons s r ih =>
    intro pre v h hL hs hr hc hv h0 hQ
    have el : Es.length = pre.length + (r.length + 1) := by rw [hL, List.length_append, List.length_cons]
    have c1 : ¬ Es.length ≤ pre.length := by omega
    have hgd : Es.getD pre.length ev0 = s := by
      rw [hL, List.getD_eq_getElem?_getD, List.getElem?_append_right (Nat.le_refl _), Nat.sub_self]; rfl
    have hg := hr.2.2.1 pre.length (by omega)
    have hl := hr.1
    rw [hgd] at hg
    have hsB := hEs s (by rw [hL]; exact List.mem_append_right _ (List.mem_cons_self ..))
    have hL' : Es = (pre ++ [s]) ++ r := by rw [hL, List.append_assoc]; rfl
    have el2 : (pre ++ [s]).length = pre.length + 1 := by rw [List.length_append]; rfl
    obtain ⟨s0, _, _, _, s4, s5, _, _, _, _, _, _, u4, u5, _, _, _, _, _, _, m4, m5, _⟩ := id hs
    have y0 := hc.1.1
    obtain ⟨g1, g2⟩ := hg
    obtain ⟨sb1, sb2⟩ := id hsB
    have efar : (nI s.2).toInt64 = lN s.2 := nI_l (by omega)
    have p12 : pre.length < 12 := by omega
    rw [u_601_27]
    simp (disch := omega) only [B_601_27, nI1T, Nat.left_eq_add, Nat.add_eq_left, Nat.add_eq_zero_iff, and_false, false_and, if_false, if_true, opsN, opsC, pm_1, lg, ls1, ls2, lq, List.length_cons, List.length_nil, cN, cL, callE, retV, retN, pm_pop, pm_cat, List.map_cons, List.map_nil, List.sum_cons, List.sum_nil, Value.category, Option.toList, List.cons_append, List.nil_append, ↓reduceIte, reduceCtorEq, Nat.reduceAdd, Nat.reduceLT, Nat.reduceLeDiff, Nat.reduceSub, Nat.reduceEqDiff, Nat.zero_le, Nat.sub_zero, Nat.le_refl, true_and, and_true, not_true_eq_false, not_false_eq_true, true_or, or_true, lc_eq, lc_ne, lc_lt, lc_ge, lc_gt, lc_le, nI_add, lN_add, nI_leI, nI_ltI, nI_eq, nI_clamp, pk_lLT, pk_lLE, pk_lEQ, pk_sub, vp_inT, nz_eq, nz_lt, nz_ge, nz_gt, nz_le, lz_eq, lz_lt, lz_ge, hP1, hP2, hP3, hP4, hP5, hP6, hP7, hP8, hP9, hP10, hP11, hP12, hP13, hP14, hP15, hP16, hP17, hP18, hP19, hP20, s0, s4, s5, u4, u5, m4, m5, hl, c1, g1, g2, p12, y0, efar]
    refine c605 d hc hv sb1 (by omega) (by omega) ?_
    intro h' k1 k2
    simp (disch := omega) only [nI1T, Nat.left_eq_add, Nat.add_eq_left, Nat.add_eq_zero_iff, and_false, false_and, if_false, if_true, opsN, opsC, pm_1, lg, ls1, ls2, lq, List.length_cons, List.length_nil, cN, cL, callE, retV, retN, pm_pop, pm_cat, List.map_cons, List.map_nil, List.sum_cons, List.sum_nil, Value.category, Option.toList, List.cons_append, List.nil_append, ↓reduceIte, reduceCtorEq, Nat.reduceAdd, Nat.reduceLT, Nat.reduceLeDiff, Nat.reduceSub, Nat.reduceEqDiff, Nat.zero_le, Nat.sub_zero, Nat.le_refl, true_and, and_true, not_true_eq_false, not_false_eq_true, true_or, or_true, lc_eq, lc_ne, lc_lt, lc_ge, lc_gt, lc_le, nI_add, lN_add, nI_leI, nI_ltI, nI_eq, nI_clamp, pk_lLT, pk_lLE, pk_lEQ, pk_sub, vp_inT, nz_eq, nz_lt, nz_ge, nz_gt, nz_le, lz_eq, lz_lt, lz_ge, hP1, hP2, hP3, hP4, hP5, hP6, hP7, hP8, hP9, hP10, hP11, hP12, hP13, hP14, hP15, hP16, hP17, hP18, hP19, hP20]
    have := ih (pre ++ [s]) (vAdd bits s.1 s.2 v) h' hL' (chS_eq k2.1 k2.2.1 (by rw [k2.2.2.1]) hs) (evR_fr k2 hcx2 hr) k1 (vOK_add hv sb1 (by omega) sb2 (by decide)) (vAdd_f.1.trans h0) (fun h2 j1 j2 => hQ h2 j1 (fr_trans k2 j2))
    rw [el2] at this
    exact this
theorem l601 (d : Nat) {c t : Nat} {Es : List Ev} {R : List Ed} {v2 : Int32} (hcx : x + 46 ≤ c) (hcx2 : c + 9 ≤ x + 64) (hR0 : ∀ e, e ∈ R → rlB e) (h6 : R.length ≤ 16) (ht : t < 2 ^ 40) : ∀ (n k T : Nat) (v : VT) (h : pm_H), n + k = 200 → chS h c → evR h c Es R → clV h x bits v → vOK bits T (1000000000 + k * 1000000000) v → v.2.2.1.length = k →
      (∀ h', clV h' x bits (vGo bits t R n v) → fr (x + 64) (x + 82) h h' → Q (.inl none) h') →
      pm_W PP (d + 5) 601 Q 0 0 64 [some (.ref (x + 78)), some (.ref c), some (.int v2), some (.long (lN t)), none, some (.int (nI k))] [] h := by
  intro n
  induction n with
  | zero =>
    intro k T v h hk hs hr hc hv hl hQ
    have e : k = 200 := by omega
    subst e
    rw [u_601_64]
    simp (disch := omega) only [B_601_64, u_601_98, B_601_98, nI1T, Nat.left_eq_add, Nat.add_eq_left, Nat.add_eq_zero_iff, and_false, false_and, if_false, if_true, opsN, opsC, pm_1, lg, ls1, ls2, lq, List.length_cons, List.length_nil, cN, cL, callE, retV, retN, pm_pop, pm_cat, List.map_cons, List.map_nil, List.sum_cons, List.sum_nil, Value.category, Option.toList, List.cons_append, List.nil_append, ↓reduceIte, reduceCtorEq, Nat.reduceAdd, Nat.reduceLT, Nat.reduceLeDiff, Nat.reduceSub, Nat.reduceEqDiff, Nat.zero_le, Nat.sub_zero, Nat.le_refl, true_and, and_true, not_true_eq_false, not_false_eq_true, true_or, or_true, lc_eq, lc_ne, lc_lt, lc_ge, lc_gt, lc_le, nI_add, lN_add, nI_leI, nI_ltI, nI_eq, nI_clamp, pk_lLT, pk_lLE, pk_lEQ, pk_sub, vp_inT, nz_eq, nz_lt, nz_ge, nz_gt, nz_le, lz_eq, lz_lt, lz_ge, hP1, hP2, hP3, hP4, hP5, hP6, hP7, hP8, hP9, hP10, hP11, hP12, hP13, hP14, hP15, hP16, hP17, hP18, hP19, hP20]
    exact hQ h hc (fr_refl _ _ _)
  | succ n ih =>
    intro k T v h hk hs hr hc hv hl hQ
    have c1 : ¬ 200 ≤ k := by omega
    have hb : k * 1000000000 ≤ 199 * 1000000000 := Nat.mul_le_mul_right _ (by omega)
    obtain ⟨⟨y0, y1, _⟩, p2, p3, p4, p5, p6⟩ := id hc
    have q1 := p2.1.1
    rw [u_601_64]
    simp (disch := omega) only [B_601_64, nI1T, Nat.left_eq_add, Nat.add_eq_left, Nat.add_eq_zero_iff, and_false, false_and, if_false, if_true, opsN, opsC, pm_1, lg, ls1, ls2, lq, List.length_cons, List.length_nil, cN, cL, callE, retV, retN, pm_pop, pm_cat, List.map_cons, List.map_nil, List.sum_cons, List.sum_nil, Value.category, Option.toList, List.cons_append, List.nil_append, ↓reduceIte, reduceCtorEq, Nat.reduceAdd, Nat.reduceLT, Nat.reduceLeDiff, Nat.reduceSub, Nat.reduceEqDiff, Nat.zero_le, Nat.sub_zero, Nat.le_refl, true_and, and_true, not_true_eq_false, not_false_eq_true, true_or, or_true, lc_eq, lc_ne, lc_lt, lc_ge, lc_gt, lc_le, nI_add, lN_add, nI_leI, nI_ltI, nI_eq, nI_clamp, pk_lLT, pk_lLE, pk_lEQ, pk_sub, vp_inT, nz_eq, nz_lt, nz_ge, nz_gt, nz_le, lz_eq, lz_lt, lz_ge, hP1, hP2, hP3, hP4, hP5, hP6, hP7, hP8, hP9, hP10, hP11, hP12, hP13, hP14, hP15, hP16, hP17, hP18, hP19, hP20, c1, y0]
    refine c602 (d + 3) hc hv ht ?_
    by_cases c2 : (qN v.1).length ≠ 0 ∧ minK (qK v.1) (hdD v.1) ≤ t
    · have hne : qN v.1 ≠ [] := fun z => c2.1 (by rw [z]; rfl)
      have eG : vGo bits t R (n + 1) v = vGo bits t R n (vTurn bits R v) := by show (if _ then _ else v) = _; rw [if_pos c2]
      rw [eG] at hQ
      rw [if_pos c2]
      simp (disch := omega) only [nI1T, Nat.left_eq_add, Nat.add_eq_left, Nat.add_eq_zero_iff, and_false, false_and, if_false, if_true, opsN, opsC, pm_1, lg, ls1, ls2, lq, List.length_cons, List.length_nil, cN, cL, callE, retV, retN, pm_pop, pm_cat, List.map_cons, List.map_nil, List.sum_cons, List.sum_nil, Value.category, Option.toList, List.cons_append, List.nil_append, ↓reduceIte, reduceCtorEq, Nat.reduceAdd, Nat.reduceLT, Nat.reduceLeDiff, Nat.reduceSub, Nat.reduceEqDiff, Nat.zero_le, Nat.sub_zero, Nat.le_refl, true_and, and_true, not_true_eq_false, not_false_eq_true, true_or, or_true, lc_eq, lc_ne, lc_lt, lc_ge, lc_gt, lc_le, nI_add, lN_add, nI_leI, nI_ltI, nI_eq, nI_clamp, pk_lLT, pk_lLE, pk_lEQ, pk_sub, vp_inT, nz_eq, nz_lt, nz_ge, nz_gt, nz_le, lz_eq, lz_lt, lz_ge, hP1, hP2, hP3, hP4, hP5, hP6, hP7, hP8, hP9, hP10, hP11, hP12, hP13, hP14, hP15, hP16, hP17, hP18, hP19, hP20, y0, y1, q1]
      refine c110t (d + 2) p2 hv.1 hne ?_
      intro h1 z1 z2 z3
      obtain ⟨u1, u2, u3, u4⟩ := qI_take hv.1 hne
      have o := fun k (q : x + 70 ≤ k) => (z3.2.2.2.2 k (by omega)).1
      have k1 : clV h1 x bits (qTake bits v.1, v.2.1, v.2.2.1, v.2.2.2) := by
        refine ⟨pbS_fr z3 hc.1, z1, fun i hi => ?_, fun i hi => ?_, fun j hj => ?_, ?_⟩
        · have hi : i < qC (qTake bits v.1) := hi
          rw [u2] at hi
          rw [o _ (by omega)]; exact p3 i hi
        · rw [o _ (by omega)]; exact p4 i hi
        · rw [o _ (by omega)]; exact p5 j hj
        · rw [o _ (by omega)]; exact p6
      have y0 := k1.1.1
      have f1 := fr_wide z3 (Nat.le_refl (x + 64)) (show x + 64 + 6 ≤ x + 82 by omega)
      simp (disch := omega) only [nI1T, Nat.left_eq_add, Nat.add_eq_left, Nat.add_eq_zero_iff, and_false, false_and, if_false, if_true, opsN, opsC, pm_1, lg, ls1, ls2, lq, List.length_cons, List.length_nil, cN, cL, callE, retV, retN, pm_pop, pm_cat, List.map_cons, List.map_nil, List.sum_cons, List.sum_nil, Value.category, Option.toList, List.cons_append, List.nil_append, ↓reduceIte, reduceCtorEq, Nat.reduceAdd, Nat.reduceLT, Nat.reduceLeDiff, Nat.reduceSub, Nat.reduceEqDiff, Nat.zero_le, Nat.sub_zero, Nat.le_refl, true_and, and_true, not_true_eq_false, not_false_eq_true, true_or, or_true, lc_eq, lc_ne, lc_lt, lc_ge, lc_gt, lc_le, nI_add, lN_add, nI_leI, nI_ltI, nI_eq, nI_clamp, pk_lLT, pk_lLE, pk_lEQ, pk_sub, vp_inT, nz_eq, nz_lt, nz_ge, nz_gt, nz_le, lz_eq, lz_lt, lz_ge, hP1, hP2, hP3, hP4, hP5, hP6, hP7, hP8, hP9, hP10, hP11, hP12, hP13, hP14, hP15, hP16, hP17, hP18, hP19, hP20, y0]
      refine c603 d hcx hcx2 hR0 h6 (by omega) (chS_eq f1.1 f1.2.1 (by rw [f1.2.2.1]) hs) (evR_fr f1 hcx2 hr) hv hne (by omega) k1 ?_
      intro h2 j1 j2
      simp (disch := omega) only [nI1T, Nat.left_eq_add, Nat.add_eq_left, Nat.add_eq_zero_iff, and_false, false_and, if_false, if_true, opsN, opsC, pm_1, lg, ls1, ls2, lq, List.length_cons, List.length_nil, cN, cL, callE, retV, retN, pm_pop, pm_cat, List.map_cons, List.map_nil, List.sum_cons, List.sum_nil, Value.category, Option.toList, List.cons_append, List.nil_append, ↓reduceIte, reduceCtorEq, Nat.reduceAdd, Nat.reduceLT, Nat.reduceLeDiff, Nat.reduceSub, Nat.reduceEqDiff, Nat.zero_le, Nat.sub_zero, Nat.le_refl, true_and, and_true, not_true_eq_false, not_false_eq_true, true_or, or_true, lc_eq, lc_ne, lc_lt, lc_ge, lc_gt, lc_le, nI_add, lN_add, nI_leI, nI_ltI, nI_eq, nI_clamp, pk_lLT, pk_lLE, pk_lEQ, pk_sub, vp_inT, nz_eq, nz_lt, nz_ge, nz_gt, nz_le, lz_eq, lz_lt, lz_ge, hP1, hP2, hP3, hP4, hP5, hP6, hP7, hP8, hP9, hP10, hP11, hP12, hP13, hP14, hP15, hP16, hP17, hP18, hP19, hP20]
      have f2 := fr_trans f1 j2
      have t1 := vOK_turn hv hne hR0 (by omega)
      rw [show 1000000000 + k * 1000000000 + 1000000000 = 1000000000 + (k + 1) * 1000000000 by rw [Nat.add_mul, Nat.one_mul, Nat.add_assoc]] at t1
      exact ih (k + 1) (T + 1) (vTurn bits R v) h2 (by omega) (chS_eq f2.1 f2.2.1 (by rw [f2.2.2.1]) hs) (evR_fr f2 hcx2 hr) j1 t1 (by rw [vTurn_len, hl]) (fun h3 l1 l2 => hQ h3 l1 (fr_trans f2 l2))
    · have eG : vGo bits t R (n + 1) v = v := by show (if _ then _ else v) = _; rw [if_neg c2]
      rw [eG] at hQ
      rw [if_neg c2]
      simp (disch := omega) only [u_601_98, B_601_98, nI1T, Nat.left_eq_add, Nat.add_eq_left, Nat.add_eq_zero_iff, and_false, false_and, if_false, if_true, opsN, opsC, pm_1, lg, ls1, ls2, lq, List.length_cons, List.length_nil, cN, cL, callE, retV, retN, pm_pop, pm_cat, List.map_cons, List.map_nil, List.sum_cons, List.sum_nil, Value.category, Option.toList, List.cons_append, List.nil_append, ↓reduceIte, reduceCtorEq, Nat.reduceAdd, Nat.reduceLT, Nat.reduceLeDiff, Nat.reduceSub, Nat.reduceEqDiff, Nat.zero_le, Nat.sub_zero, Nat.le_refl, true_and, and_true, not_true_eq_false, not_false_eq_true, true_or, or_true, lc_eq, lc_ne, lc_lt, lc_ge, lc_gt, lc_le, nI_add, lN_add, nI_leI, nI_ltI, nI_eq, nI_clamp, pk_lLT, pk_lLE, pk_lEQ, pk_sub, vp_inT, nz_eq, nz_lt, nz_ge, nz_gt, nz_le, lz_eq, lz_lt, lz_ge, hP1, hP2, hP3, hP4, hP5, hP6, hP7, hP8, hP9, hP10, hP11, hP12, hP13, hP14, hP15, hP16, hP17, hP18, hP19, hP20]
      exact hQ h hc (fr_refl _ _ _)
theorem c601 (d : Nat) {h : pm_H} {c t : Nat} {Es : List Ev} {R : List Ed} (hb1 : 1 ≤ bits) (hb4 : bits ≤ 4) (ht : t < 2 ^ 40) (hcx : x + 46 ≤ c) (hcx2 : c + 9 ≤ x + 64) (hEs : ∀ e, e ∈ Es → evB e) (hE12 : Es.length ≤ 12) (hR0 : ∀ e, e ∈ R → rlB e) (h6 : R.length ≤ 16) (hs : chS h c) (hr : evR h c Es R) (hpb : pbS h x) (hbs : bS h (x + 64) 300)
      (hQ : ∀ h', clV h' x bits (vAll bits t Es R) → fr (x + 64) (x + 82) h h' → Q (.inl none) h') :
      pm_M PP (d + 6) 601 [.ref (x + 78), .ref c, .int (nI bits), .long (lN t)] h Q := by
  obtain ⟨s0, s1, s2, s3, s4, t1, t2, t3, n1, n2, n3⟩ := id hpb
  have q1 := hbs.1
  rw [e_601]
  simp (disch := omega) only [u_601_0, B_601_0, nI1T, Nat.left_eq_add, Nat.add_eq_left, Nat.add_eq_zero_iff, and_false, false_and, if_false, if_true, opsN, opsC, pm_1, lg, ls1, ls2, lq, List.length_cons, List.length_nil, cN, cL, callE, retV, retN, pm_pop, pm_cat, List.map_cons, List.map_nil, List.sum_cons, List.sum_nil, Value.category, Option.toList, List.cons_append, List.nil_append, ↓reduceIte, reduceCtorEq, Nat.reduceAdd, Nat.reduceLT, Nat.reduceLeDiff, Nat.reduceSub, Nat.reduceEqDiff, Nat.zero_le, Nat.sub_zero, Nat.le_refl, true_and, and_true, not_true_eq_false, not_false_eq_true, true_or, or_true, lc_eq, lc_ne, lc_lt, lc_ge, lc_gt, lc_le, nI_add, lN_add, nI_leI, nI_ltI, nI_eq, nI_clamp, pk_lLT, pk_lLE, pk_lEQ, pk_sub, vp_inT, nz_eq, nz_lt, nz_ge, nz_gt, nz_le, lz_eq, lz_lt, lz_ge, hP1, hP2, hP3, hP4, hP5, hP6, hP7, hP8, hP9, hP10, hP11, hP12, hP13, hP14, hP15, hP16, hP17, hP18, hP19, hP20, s0, s1, q1]
  refine c101 (d + 2) hbs hb4 (by decide) ?_
  intro h1 k1 k2 k3
  obtain ⟨s0, s1, s2, s3, s4, t1, t2, t3, n1, n2, n3⟩ := id (pbS_fr k3 hpb)
  simp (disch := omega) only [nI1T, Nat.left_eq_add, Nat.add_eq_left, Nat.add_eq_zero_iff, and_false, false_and, if_false, if_true, opsN, opsC, pm_1, lg, ls1, ls2, lq, List.length_cons, List.length_nil, cN, cL, callE, retV, retN, pm_pop, pm_cat, List.map_cons, List.map_nil, List.sum_cons, List.sum_nil, Value.category, Option.toList, List.cons_append, List.nil_append, ↓reduceIte, reduceCtorEq, Nat.reduceAdd, Nat.reduceLT, Nat.reduceLeDiff, Nat.reduceSub, Nat.reduceEqDiff, Nat.zero_le, Nat.sub_zero, Nat.le_refl, true_and, and_true, not_true_eq_false, not_false_eq_true, true_or, or_true, lc_eq, lc_ne, lc_lt, lc_ge, lc_gt, lc_le, nI_add, lN_add, nI_leI, nI_ltI, nI_eq, nI_clamp, pk_lLT, pk_lLE, pk_lEQ, pk_sub, vp_inT, nz_eq, nz_lt, nz_ge, nz_gt, nz_le, lz_eq, lz_lt, lz_ge, hP1, hP2, hP3, hP4, hP5, hP6, hP7, hP8, hP9, hP10, hP11, hP12, hP13, hP14, hP15, hP16, hP17, hP18, hP19, hP20, s0, s4]
  refine c3004 (d + 4) t3 n3 (by decide) ?_
  intro g1 g1a _
  simp (disch := omega) only [nI1T, Nat.left_eq_add, Nat.add_eq_left, Nat.add_eq_zero_iff, and_false, false_and, if_false, if_true, opsN, opsC, pm_1, lg, ls1, ls2, lq, List.length_cons, List.length_nil, cN, cL, callE, retV, retN, pm_pop, pm_cat, List.map_cons, List.map_nil, List.sum_cons, List.sum_nil, Value.category, Option.toList, List.cons_append, List.nil_append, ↓reduceIte, reduceCtorEq, Nat.reduceAdd, Nat.reduceLT, Nat.reduceLeDiff, Nat.reduceSub, Nat.reduceEqDiff, Nat.zero_le, Nat.sub_zero, Nat.le_refl, true_and, and_true, not_true_eq_false, not_false_eq_true, true_or, or_true, lc_eq, lc_ne, lc_lt, lc_ge, lc_gt, lc_le, nI_add, lN_add, nI_leI, nI_ltI, nI_eq, nI_clamp, pk_lLT, pk_lLE, pk_lEQ, pk_sub, vp_inT, nz_eq, nz_lt, nz_ge, nz_gt, nz_le, lz_eq, lz_lt, lz_ge, hP1, hP2, hP3, hP4, hP5, hP6, hP7, hP8, hP9, hP10, hP11, hP12, hP13, hP14, hP15, hP16, hP17, hP18, hP19, hP20, s0]
  have f1 : fr (x + 78) (x + 82) h1 (sI (sI h1 (x + 81) g1) (x + 78) (va_up (hI h1 (x + 78)) 4 (nI 0))) := fr_sI (fr_sI (fr_refl _ _ _) (by omega) (by omega)) (by omega) (by omega)
  have e9 : hI (sI h1 (x + 81) g1) (x + 78) = hI h1 (x + 78) := by rw [hP1, va_up_ne _ _ (by omega)]
  have f2 := fr_trans (fr_wide k3 (Nat.le_refl (x + 64)) (show x + 64 + 6 ≤ x + 82 by omega)) (fr_wide f1 (show x + 64 ≤ x + 78 by omega) (Nat.le_refl _))
  have c0 : clV (sI (sI h1 (x + 81) g1) (x + 78) (va_up (hI h1 (x + 78)) 4 (nI 0))) x bits v0 := by
    refine ⟨pbS_fr f2 hpb, isB_fr f1 (by omega) (k1 (fun _ => 0) (fun _ => 0) (fun _ => 0) (fun _ => 0)), fun i hi => absurd hi (Nat.not_lt_zero _), fun i hi => absurd hi (Nat.not_lt_zero _), fun j hj => ?_, ?_⟩
    · rw [hP1, va_up_ne _ _ (by omega), hI_at]; exact g1a j hj
    · rw [hI_at, va_up_self]; rfl
  simp (disch := omega) only [va_upE, Nat.left_eq_add, Nat.add_eq_left, Nat.reduceEqDiff, if_false, if_true, Nat.add_left_cancel_iff]
  refine l601e (d + 2) (R := R) hcx hcx2 hEs hE12 Es [] v0 _ rfl (chS_eq f2.1 f2.2.1 (by rw [f2.2.2.1]) hs) (evR_fr f2 hcx2 hr) c0 (v0_OK hb1 hb4) rfl ?_
  intro h3 j1 j2
  have f3 := fr_trans f2 j2
  simp (disch := omega) only [u_601_61, B_601_61, nI1T, Nat.left_eq_add, Nat.add_eq_left, Nat.add_eq_zero_iff, and_false, false_and, if_false, if_true, opsN, opsC, pm_1, lg, ls1, ls2, lq, List.length_cons, List.length_nil, cN, cL, callE, retV, retN, pm_pop, pm_cat, List.map_cons, List.map_nil, List.sum_cons, List.sum_nil, Value.category, Option.toList, List.cons_append, List.nil_append, ↓reduceIte, reduceCtorEq, Nat.reduceAdd, Nat.reduceLT, Nat.reduceLeDiff, Nat.reduceSub, Nat.reduceEqDiff, Nat.zero_le, Nat.sub_zero, Nat.le_refl, true_and, and_true, not_true_eq_false, not_false_eq_true, true_or, or_true, lc_eq, lc_ne, lc_lt, lc_ge, lc_gt, lc_le, nI_add, lN_add, nI_leI, nI_ltI, nI_eq, nI_clamp, pk_lLT, pk_lLE, pk_lEQ, pk_sub, vp_inT, nz_eq, nz_lt, nz_ge, nz_gt, nz_le, lz_eq, lz_lt, lz_ge, hP1, hP2, hP3, hP4, hP5, hP6, hP7, hP8, hP9, hP10, hP11, hP12, hP13, hP14, hP15, hP16, hP17, hP18, hP19, hP20]
  refine l601 d (Es := Es) hcx hcx2 hR0 h6 ht 200 0 0 _ h3 (by omega) (chS_eq f3.1 f3.2.1 (by rw [f3.2.2.1]) hs) (evR_fr f3 hcx2 hr) j1 (by rw [Nat.zero_mul, Nat.add_zero]; exact vEvs_OK Es v0 (v0_OK hb1 hb4) rfl hEs) (by rw [(vEvs_L Es v0).2]; rfl) (fun h5 l1 l2 => hQ h5 l1 (fr_trans f3 l2))
end PL2
