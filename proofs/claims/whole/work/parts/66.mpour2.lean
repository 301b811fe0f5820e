/-! ===== the reference: pour ===== -/
def fr2 (m : Nat) (h h' : pm_H) : Prop := hT h' = hT h ∧ hN h' = hN h ∧ hR h' = hR h ∧ hn h' = hn h ∧ (∀ k, k ≠ m + 26 → hI h' k = hI h k) ∧ ∀ k, k ≠ m + 4 → k ≠ m + 5 → hL h' k = hL h k
theorem fr2_refl (m : Nat) (h : pm_H) : fr2 m h h := ⟨rfl, rfl, rfl, rfl, fun _ _ => rfl, fun _ _ _ => rfl⟩
theorem fr2_trans {m : Nat} {h h1 h2 : pm_H} (a : fr2 m h h1) (b : fr2 m h1 h2) : fr2 m h h2 :=
  ⟨b.1.trans a.1, b.2.1.trans a.2.1, b.2.2.1.trans a.2.2.1, b.2.2.2.1.trans a.2.2.2.1, fun j z => (b.2.2.2.2.1 j z).trans (a.2.2.2.2.1 j z), fun k z1 z2 => (b.2.2.2.2.2 k z1 z2).trans (a.2.2.2.2.2 k z1 z2)⟩
theorem fr2_Q {m n : Nat} {h h' : pm_H} (hn : n < 2) (a : frQ (m + 4 + n) (m + 26) h h') : fr2 m h h' :=
  ⟨a.1, a.2.1, a.2.2.1, a.2.2.2.1, a.2.2.2.2.1, fun k z1 z2 => a.2.2.2.2.2 k (by omega)⟩
theorem l1031 (d : Nat) {m n N bits : Nat} {Q : pm_Q} (hn : n < 2) (hN : N ≤ 200) :
    ∀ (suf : List Nat) (T F : Qs) (B k : Nat) (h : pm_H) (x6 x7 : Option Value), qN F = suf → k + suf.length = N → mS h m → hI h m 14 = nI bits → mQ h (m + 4 + n) T B → mQ h (m + 4 + (1 - n)) F B → qI bits 200 T → qI bits 200 F →
      (∀ y, y ∈ suf → qL T ≤ qK F y) → qC T + suf.length ≤ 200 → B + suf.length < 2 ^ 59 →
      (∀ h', mQ h' (m + 4 + n) (addAll bits (qK F) suf T) (B + suf.length) → mQ h' (m + 4 + (1 - n)) (qOut F) (B + suf.length) → fr2 m h h' → Q (.inl (some (.int (nI N)))) h') →
      pm_W PP (d + 3) 1031 Q 0 0 102 [some (.ref m), some (.int (nI n)), some (.ref (m + 4 + n)), some (.ref (m + 4 + (1 - n))), some (.int (nI N)), some (.int (nI k)), x6, x7] [] h := by
  intro suf
  induction suf with
  | nil =>
    intro T F B k h x6 x7 hF hk hs f14 hqT hqF hIT hIF hle hC hB hQ
    have hk : k = N := by simpa using hk
    subst hk
    have hQ' := hQ h hqT (by unfold qOut; rw [hF]; obtain ⟨sn, st, a, b, c, e⟩ := hqF; exact ⟨sn, st, a, ⟨fun x hx => absurd hx List.not_mem_nil, List.Pairwise.nil, b.2.2⟩, c, e⟩) (fr2_refl m h)
    rw [u_1031_102]
    simp (disch := omega) only [B_1031_102, u_1031_157, B_1031_157, nI1T, Nat.left_eq_add, Nat.add_eq_left, Nat.add_eq_zero_iff, and_false, false_and, if_false, if_true, opsN, opsC, pm_1, lg, ls1, ls2, lq, List.length_cons, List.length_nil, cN, cL, callE, retV, retN, pm_pop, pm_cat, List.map_cons, List.map_nil, List.sum_cons, List.sum_nil, Value.category, Option.toList, List.cons_append, List.nil_append, ↓reduceIte, reduceCtorEq, Nat.reduceAdd, Nat.reduceLT, Nat.reduceLeDiff, Nat.reduceSub, Nat.reduceEqDiff, Nat.zero_le, Nat.sub_zero, Nat.le_refl, true_and, and_true, not_true_eq_false, not_false_eq_true, true_or, or_true, lc_eq, lc_ne, lc_lt, lc_ge, lc_gt, lc_le, nI_add, lN_add, nI_leI, nI_ltI, nI_eq, nI_clamp, pk_lLT, pk_lLE, pk_lEQ, pk_sub, vp_inT, nz_eq, nz_lt, nz_ge, nz_gt, nz_le, lz_eq, lz_lt, lz_ge, hP1, hP2, hP3, hP4, hP5, hP6, hP7, hP8, hP9, hP10, hP11, hP12, hP13, hP14, hP15, hP16, hP17, hP18, hP19, hP20]
    exact hQ'
  | cons x r ih =>
    intro T F B k h x6 x7 hF hk hs f14 hqT hqF hIT hIF hle hC hB hQ
    rw [List.length_cons] at hk hC hB
    have hne : qN F ≠ [] := by rw [hF]; exact List.cons_ne_nil _ _
    have hxm : x ∈ qN F := by rw [hF]; exact List.mem_cons_self ..
    have c : ¬ N ≤ k := by omega
    have h1n : 1 - n < 2 := by omega
    obtain ⟨snF, stF, qF, tF, sF, mF⟩ := hqF
    obtain ⟨snT, stT, qT', tT, sT, mT⟩ := hqT
    have hx := qI_line hIF x hxm
    have i3 := hIF.2.2.1
    have hxK := hIF.2.2.2.2.2.1 x hx.1
    have hbW : ∀ y, y ∈ qN F → qW F y < 2 ^ 62 ∧ snF y < 2 ^ 62 := fun y hy => by
      have a := (qI_line hIF y hy).2.2
      have b := tF.1 y hy
      have e := tF.2.2
      omega
    have hhd : hdB F = qW F x := by unfold hdB; rw [hF]; rfl
    have hdl : hdB F < 160 := by rw [hhd]; exact hx.2.2
    have hnx : nx (qW F) snF (qN F) (hdB F) 0 (qC F) = some x := nx_some (L1 := []) (L2 := r) (qJ_of hIF) hF tF.2.1 (fun y hy => absurd hy List.not_mem_nil) hhd.symm (Nat.zero_le _)
    have el : (nI (hdB F)).toInt64 = lN (hdB F) := nI_l (by omega)
    rw [u_1031_102]
    simp (disch := omega) only [B_1031_102, nI1T, Nat.left_eq_add, Nat.add_eq_left, Nat.add_eq_zero_iff, and_false, false_and, if_false, if_true, opsN, opsC, pm_1, lg, ls1, ls2, lq, List.length_cons, List.length_nil, cN, cL, callE, retV, retN, pm_pop, pm_cat, List.map_cons, List.map_nil, List.sum_cons, List.sum_nil, Value.category, Option.toList, List.cons_append, List.nil_append, ↓reduceIte, reduceCtorEq, Nat.reduceAdd, Nat.reduceLT, Nat.reduceLeDiff, Nat.reduceSub, Nat.reduceEqDiff, Nat.zero_le, Nat.sub_zero, Nat.le_refl, true_and, and_true, not_true_eq_false, not_false_eq_true, true_or, or_true, lc_eq, lc_ne, lc_lt, lc_ge, lc_gt, lc_le, nI_add, lN_add, nI_leI, nI_ltI, nI_eq, nI_clamp, pk_lLT, pk_lLE, pk_lEQ, pk_sub, vp_inT, nz_eq, nz_lt, nz_ge, nz_gt, nz_le, lz_eq, lz_lt, lz_ge, hP1, hP2, hP3, hP4, hP5, hP6, hP7, hP8, hP9, hP10, hP11, hP12, hP13, hP14, hP15, hP16, hP17, hP18, hP19, hP20, c]
    refine c1015 d qF hIF hne ?_
    simp (disch := omega) only [nI1T, Nat.left_eq_add, Nat.add_eq_left, Nat.add_eq_zero_iff, and_false, false_and, if_false, if_true, opsN, opsC, pm_1, lg, ls1, ls2, lq, List.length_cons, List.length_nil, cN, cL, callE, retV, retN, pm_pop, pm_cat, List.map_cons, List.map_nil, List.sum_cons, List.sum_nil, Value.category, Option.toList, List.cons_append, List.nil_append, ↓reduceIte, reduceCtorEq, Nat.reduceAdd, Nat.reduceLT, Nat.reduceLeDiff, Nat.reduceSub, Nat.reduceEqDiff, Nat.zero_le, Nat.sub_zero, Nat.le_refl, true_and, and_true, not_true_eq_false, not_false_eq_true, true_or, or_true, lc_eq, lc_ne, lc_lt, lc_ge, lc_gt, lc_le, nI_add, lN_add, nI_leI, nI_ltI, nI_eq, nI_clamp, pk_lLT, pk_lLE, pk_lEQ, pk_sub, vp_inT, nz_eq, nz_lt, nz_ge, nz_gt, nz_le, lz_eq, lz_lt, lz_ge, hP1, hP2, hP3, hP4, hP5, hP6, hP7, hP8, hP9, hP10, hP11, hP12, hP13, hP14, hP15, hP16, hP17, hP18, hP19, hP20, el]
    refine c1016 d (w := hdB F) (s := 0) qF (qJ_of hIF) (by omega) (by decide) hbW ?_
    rw [hnx]
    simp (disch := omega) only [nI1T, Nat.left_eq_add, Nat.add_eq_left, Nat.add_eq_zero_iff, and_false, false_and, if_false, if_true, opsN, opsC, pm_1, lg, ls1, ls2, lq, List.length_cons, List.length_nil, cN, cL, callE, retV, retN, pm_pop, pm_cat, List.map_cons, List.map_nil, List.sum_cons, List.sum_nil, Value.category, Option.toList, List.cons_append, List.nil_append, ↓reduceIte, reduceCtorEq, Nat.reduceAdd, Nat.reduceLT, Nat.reduceLeDiff, Nat.reduceSub, Nat.reduceEqDiff, Nat.zero_le, Nat.sub_zero, Nat.le_refl, true_and, and_true, not_true_eq_false, not_false_eq_true, true_or, or_true, lc_eq, lc_ne, lc_lt, lc_ge, lc_gt, lc_le, nI_add, lN_add, nI_leI, nI_ltI, nI_eq, nI_clamp, pk_lLT, pk_lLE, pk_lEQ, pk_sub, vp_inT, nz_eq, nz_lt, nz_ge, nz_gt, nz_le, lz_eq, lz_lt, lz_ge, hP1, hP2, hP3, hP4, hP5, hP6, hP7, hP8, hP9, hP10, hP11, hP12, hP13, hP14, hP15, hP16, hP17, hP18, hP19, hP20, iv]
    rw [q_of _ qF.1 qF.2.1 (by omega) (by omega), qF.2.2.2.2.2.1 x hx.1]
    simp (disch := omega) only [nI1T, Nat.left_eq_add, Nat.add_eq_left, Nat.add_eq_zero_iff, and_false, false_and, if_false, if_true, opsN, opsC, pm_1, lg, ls1, ls2, lq, List.length_cons, List.length_nil, cN, cL, callE, retV, retN, pm_pop, pm_cat, List.map_cons, List.map_nil, List.sum_cons, List.sum_nil, Value.category, Option.toList, List.cons_append, List.nil_append, ↓reduceIte, reduceCtorEq, Nat.reduceAdd, Nat.reduceLT, Nat.reduceLeDiff, Nat.reduceSub, Nat.reduceEqDiff, Nat.zero_le, Nat.sub_zero, Nat.le_refl, true_and, and_true, not_true_eq_false, not_false_eq_true, true_or, or_true, lc_eq, lc_ne, lc_lt, lc_ge, lc_gt, lc_le, nI_add, lN_add, nI_leI, nI_ltI, nI_eq, nI_clamp, pk_lLT, pk_lLE, pk_lEQ, pk_sub, vp_inT, nz_eq, nz_lt, nz_ge, nz_gt, nz_le, lz_eq, lz_lt, lz_ge, hP1, hP2, hP3, hP4, hP5, hP6, hP7, hP8, hP9, hP10, hP11, hP12, hP13, hP14, hP15, hP16, hP17, hP18, hP19, hP20, hs.1, f14]
    have hlx := hle x (List.mem_cons_self ..)
    refine c1012 d (mU_of hs) qT' hIT tT hxK hlx (by omega) (by have := tT.2.2; omega) ?_
    intro h4 hq4 hT4 hu4 hf4
    simp (disch := omega) only [nI1T, Nat.left_eq_add, Nat.add_eq_left, Nat.add_eq_zero_iff, and_false, false_and, if_false, if_true, opsN, opsC, pm_1, lg, ls1, ls2, lq, List.length_cons, List.length_nil, cN, cL, callE, retV, retN, pm_pop, pm_cat, List.map_cons, List.map_nil, List.sum_cons, List.sum_nil, Value.category, Option.toList, List.cons_append, List.nil_append, ↓reduceIte, reduceCtorEq, Nat.reduceAdd, Nat.reduceLT, Nat.reduceLeDiff, Nat.reduceSub, Nat.reduceEqDiff, Nat.zero_le, Nat.sub_zero, Nat.le_refl, true_and, and_true, not_true_eq_false, not_false_eq_true, true_or, or_true, lc_eq, lc_ne, lc_lt, lc_ge, lc_gt, lc_le, nI_add, lN_add, nI_leI, nI_ltI, nI_eq, nI_clamp, pk_lLT, pk_lLE, pk_lEQ, pk_sub, vp_inT, nz_eq, nz_lt, nz_ge, nz_gt, nz_le, lz_eq, lz_lt, lz_ge, hP1, hP2, hP3, hP4, hP5, hP6, hP7, hP8, hP9, hP10, hP11, hP12, hP13, hP14, hP15, hP16, hP17, hP18, hP19, hP20]
    have qF4 : isQ h4 (m + 4 + (1 - n)) F snF stF := isQ_eq hf4.1 hf4.2.1 (hf4.2.2.2.2.2 _ (by omega)) qF
    have qT4 := hT4
    rw [q_sets _ qF4.1 qF4.2.1 (by omega) (by omega)]
    simp (disch := omega) only [nI1T, Nat.left_eq_add, Nat.add_eq_left, Nat.add_eq_zero_iff, and_false, false_and, if_false, if_true, opsN, opsC, pm_1, lg, ls1, ls2, lq, List.length_cons, List.length_nil, cN, cL, callE, retV, retN, pm_pop, pm_cat, List.map_cons, List.map_nil, List.sum_cons, List.sum_nil, Value.category, Option.toList, List.cons_append, List.nil_append, ↓reduceIte, reduceCtorEq, Nat.reduceAdd, Nat.reduceLT, Nat.reduceLeDiff, Nat.reduceSub, Nat.reduceEqDiff, Nat.zero_le, Nat.sub_zero, Nat.le_refl, true_and, and_true, not_true_eq_false, not_false_eq_true, true_or, or_true, lc_eq, lc_ne, lc_lt, lc_ge, lc_gt, lc_le, nI_add, lN_add, nI_leI, nI_ltI, nI_eq, nI_clamp, pk_lLT, pk_lLE, pk_lEQ, pk_sub, vp_inT, nz_eq, nz_lt, nz_ge, nz_gt, nz_le, lz_eq, lz_lt, lz_ge, hP1, hP2, hP3, hP4, hP5, hP6, hP7, hP8, hP9, hP10, hP11, hP12, hP13, hP14, hP15, hP16, hP17, hP18, hP19, hP20]
    have hs4 : mS h4 m := mS_eq hf4.1 hf4.2.1 (fun k _ => by rw [hf4.2.2.1]) hs
    have hF' : qN (qCast x F) = r := by show (qN F).erase x = r; rw [hF, List.erase_cons_head]
    have qF5 : mQ (sL h4 (m + 4 + (1 - n)) (va_up (hL h4 (m + 4 + (1 - n))) (3 + 5 * x + 4) (lN 2))) (m + 4 + (1 - n)) (qCast x F) (B + 1) :=
      ⟨snF, stF, q_setS (i := x) (v := 2) (L := (qN F).erase x) qF4, qT_cast tF, by omega, fun j hj => by have := mF j hj; exact Nat.le_trans this (by omega)⟩
    have qT5 : mQ (sL h4 (m + 4 + (1 - n)) (va_up (hL h4 (m + 4 + (1 - n))) (3 + 5 * x + 4) (lN 2))) (m + 4 + n) (qAdd bits (qK F x) T) (B + 1) := mQ_sL (by omega) (mQ_add hq4 hT4 sT mT)
    refine ih (qAdd bits (qK F x) T) (qCast x F) (B + 1) (k + 1) _ _ _ hF' (by omega) (mS_sL hs4) ?_ qT5 qF5 (qI_add hIT hxK hlx (by omega)) (qI_cast hIF hxm) (fun y hy => hle y (List.mem_cons_of_mem _ hy)) (by show qC T + 1 + r.length ≤ 200; omega) (by omega) ?_
    · rw [hP6, hf4.2.2.2.2.1 m (by omega)]; exact f14
    · intro h' a1 a2 a3
      have eO : qOut (qCast x F) = qOut F := by
        unfold qOut
        rw [hF', hF]; rfl
      rw [eO] at a2
      refine hQ h' ?_ ?_ (fr2_trans (fr2_Q hn hf4) (fr2_trans (fr2_Q h1n (frQ_sL (frQ_refl _ _ _))) a3))
      · have := mQ_up (B' := B + (r.length + 1)) (by omega) a1
        exact this
      · exact mQ_up (B := B + 1 + r.length) (B' := B + (r.length + 1)) (by omega) a2
theorem c1031 (d : Nat) {h : pm_H} {m n B : Nat} {H : Hs} {P : List Hs} {Q : pm_Q} (hM : isM h m H P B) (hn : n < 2) (h1 : qC (hOf n H) + (qN (hOf (1 - n) H)).length ≤ 200) (h2 : ∀ y, y ∈ qN (hOf (1 - n) H) → qL (hOf n H) ≤ qK (hOf (1 - n) H) y) (hB : B < 2 ^ 50)
    (hQ : ∀ h', isM h' m (hAct (4, n, 0, 0) H) (psh P H) (B + 300) → frP m h h' → hI h' m 0 = nI 0 → Q (.inl (some (.int (nI (qN (hOf (1 - n) H)).length)))) h') : pm_M PP (d + 4) 1031 [.ref m, .int (nI n)] h Q := by
  obtain ⟨h9, e0, et, hM9, hz⟩ := thr_exM hM
  have hf0 : frP m h h9 := by rw [← et]; exact frP_thr
  have hs := hM.1
  have hs9 := hM9.1
  have h1n : 1 - n < 2 := by omega
  have hI1 := of_hJ hn hM.2.2.1
  have hI2 := of_hJ h1n hM.2.2.1
  have i3 := hI1.2.2.1
  have i5 := hI1.2.2.2.2.1
  have i11 := hI2.2.2.2.2.2.2.2.2.2.2.1
  have k3 := hI2.2.2.1
  obtain ⟨sn, st, ⟨r0, r1, r2, r3, _⟩, _⟩ := of_isM hn hM9
  obtain ⟨sn', st', hq2, _⟩ := of_isM h1n hM9
  have fin : pm_W PP (d + 3) 1031 Q 0 0 84 [some (.ref m), some (.int (nI n)), some (.ref (m + 4 + n)), some (.ref (m + 4 + (1 - n))), some (.int (nI (qN (hOf (1 - n) H)).length)), none, none, none] [.ref m] h9 := by
    simp (disch := omega) only [u_1031_84, B_1031_84, u_1031_85, B_1031_85, nI1T, Nat.left_eq_add, Nat.add_eq_left, Nat.add_eq_zero_iff, and_false, false_and, if_false, if_true, opsN, opsC, pm_1, lg, ls1, ls2, lq, List.length_cons, List.length_nil, cN, cL, callE, retV, retN, pm_pop, pm_cat, List.map_cons, List.map_nil, List.sum_cons, List.sum_nil, Value.category, Option.toList, List.cons_append, List.nil_append, ↓reduceIte, reduceCtorEq, Nat.reduceAdd, Nat.reduceLT, Nat.reduceLeDiff, Nat.reduceSub, Nat.reduceEqDiff, Nat.zero_le, Nat.sub_zero, Nat.le_refl, true_and, and_true, not_true_eq_false, not_false_eq_true, true_or, or_true, lc_eq, lc_ne, lc_lt, lc_ge, lc_gt, lc_le, nI_add, lN_add, nI_leI, nI_ltI, nI_eq, nI_clamp, pk_lLT, pk_lLE, pk_lEQ, pk_sub, vp_inT, nz_eq, nz_lt, nz_ge, nz_gt, nz_le, lz_eq, lz_lt, lz_ge, hP1, hP2, hP3, hP4, hP5, hP6, hP7, hP8, hP9, hP10, hP11, hP12, hP13, hP14, hP15, hP16, hP17, hP18, hP19, hP20, hs9.1]
    rw [bad0 _ hs9 hz]
    simp (disch := omega) only [u_1031_95, B_1031_95, nI1T, Nat.left_eq_add, Nat.add_eq_left, Nat.add_eq_zero_iff, and_false, false_and, if_false, if_true, opsN, opsC, pm_1, lg, ls1, ls2, lq, List.length_cons, List.length_nil, cN, cL, callE, retV, retN, pm_pop, pm_cat, List.map_cons, List.map_nil, List.sum_cons, List.sum_nil, Value.category, Option.toList, List.cons_append, List.nil_append, ↓reduceIte, reduceCtorEq, Nat.reduceAdd, Nat.reduceLT, Nat.reduceLeDiff, Nat.reduceSub, Nat.reduceEqDiff, Nat.zero_le, Nat.sub_zero, Nat.le_refl, true_and, and_true, not_true_eq_false, not_false_eq_true, true_or, or_true, lc_eq, lc_ne, lc_lt, lc_ge, lc_gt, lc_le, nI_add, lN_add, nI_leI, nI_ltI, nI_eq, nI_clamp, pk_lLT, pk_lLE, pk_lEQ, pk_sub, vp_inT, nz_eq, nz_lt, nz_ge, nz_gt, nz_le, lz_eq, lz_lt, lz_ge, hP1, hP2, hP3, hP4, hP5, hP6, hP7, hP8, hP9, hP10, hP11, hP12, hP13, hP14, hP15, hP16, hP17, hP18, hP19, hP20, hs9.1]
    refine c1022 (d + 1) hM9 ?_
    intro h3 hM3 hf3
    simp (disch := omega) only [nI1T, Nat.left_eq_add, Nat.add_eq_left, Nat.add_eq_zero_iff, and_false, false_and, if_false, if_true, opsN, opsC, pm_1, lg, ls1, ls2, lq, List.length_cons, List.length_nil, cN, cL, callE, retV, retN, pm_pop, pm_cat, List.map_cons, List.map_nil, List.sum_cons, List.sum_nil, Value.category, Option.toList, List.cons_append, List.nil_append, ↓reduceIte, reduceCtorEq, Nat.reduceAdd, Nat.reduceLT, Nat.reduceLeDiff, Nat.reduceSub, Nat.reduceEqDiff, Nat.zero_le, Nat.sub_zero, Nat.le_refl, true_and, and_true, not_true_eq_false, not_false_eq_true, true_or, or_true, lc_eq, lc_ne, lc_lt, lc_ge, lc_gt, lc_le, nI_add, lN_add, nI_leI, nI_ltI, nI_eq, nI_clamp, pk_lLT, pk_lLE, pk_lEQ, pk_sub, vp_inT, nz_eq, nz_lt, nz_ge, nz_gt, nz_le, lz_eq, lz_lt, lz_ge, hP1, hP2, hP3, hP4, hP5, hP6, hP7, hP8, hP9, hP10, hP11, hP12, hP13, hP14, hP15, hP16, hP17, hP18, hP19, hP20]
    refine l1031 d (bits := H.1) hn (by omega) (qN (hOf (1 - n) H)) (hOf n H) (hOf (1 - n) H) B 0 h3 none none rfl (Nat.zero_add _) hM3.1 hM3.2.1 (of_isM hn hM3) (of_isM h1n hM3) hI1 hI2 h2 h1 (by omega) ?_
    intro h4 a1 a2 a3
    obtain ⟨g1, g2, g3, g4, g5, g6⟩ := a3
    have hm : hI h4 m = hI h3 m := g5 m (by omega)
    have hjn : hJ (hAct (4, n, 0, 0) H) := hAct_J hM.2.2.1 (ok4 hn h1 h2)
    obtain ⟨hs3, f14, hj, q1, q2, p1, p2, p3, p4⟩ := hM3
    have hB1 := mQ_up (B' := B + 300) (by omega) a1
    have hB2 := mQ_up (B' := B + 300) (by omega) a2
    refine hQ h4 ⟨mS_eq g1 g2 (fun k _ => by rw [g3]) hs3, ?_, hjn, ?_, ?_, p1, by rw [hm]; exact p2, p3, fun i hi => ?_⟩ (frP_trans hf0 (frP_trans (frP_K hf3) ⟨g1, g2, g3, g4, fun j _ _ _ => by rw [hm], fun k _ _ z => g5 k z, fun k z => g6 k (by omega) (by omega)⟩)) ?_
    · rw [hm, f14]
      rcases (show n = 0 ∨ n = 1 by omega) with e | e <;> subst e <;> rfl
    · rcases (show n = 0 ∨ n = 1 by omega) with e | e <;> subst e
      · exact hB1
      · exact hB2
    · rcases (show n = 0 ∨ n = 1 by omega) with e | e <;> subst e
      · exact hB2
      · exact hB1
    · have hr := p4 i hi
      have : mRow h4 m i ((psh P H).getD i hs0) B := mRow_eq g1 g2 (g6 _ (by omega) (by omega)) (g6 _ (by omega) (by omega)) (by rw [g5 _ (by omega)]) hr
      exact ⟨mQ_up (by omega) this.1, mQ_up (by omega) this.2.1, this.2.2⟩
    · rw [hm, hf3.2.2.2.2.1 0 (by omega)]; exact hz
  rw [e_1031]
  simp (disch := omega) only [u_1031_0, B_1031_0, nI1T, Nat.left_eq_add, Nat.add_eq_left, Nat.add_eq_zero_iff, and_false, false_and, if_false, if_true, opsN, opsC, pm_1, lg, ls1, ls2, lq, List.length_cons, List.length_nil, cN, cL, callE, retV, retN, pm_pop, pm_cat, List.map_cons, List.map_nil, List.sum_cons, List.sum_nil, Value.category, Option.toList, List.cons_append, List.nil_append, ↓reduceIte, reduceCtorEq, Nat.reduceAdd, Nat.reduceLT, Nat.reduceLeDiff, Nat.reduceSub, Nat.reduceEqDiff, Nat.zero_le, Nat.sub_zero, Nat.le_refl, true_and, and_true, not_true_eq_false, not_false_eq_true, true_or, or_true, lc_eq, lc_ne, lc_lt, lc_ge, lc_gt, lc_le, nI_add, lN_add, nI_leI, nI_ltI, nI_eq, nI_clamp, pk_lLT, pk_lLE, pk_lEQ, pk_sub, vp_inT, nz_eq, nz_lt, nz_ge, nz_gt, nz_le, lz_eq, lz_lt, lz_ge, hP1, hP2, hP3, hP4, hP5, hP6, hP7, hP8, hP9, hP10, hP11, hP12, hP13, hP14, hP15, hP16, hP17, hP18, hP19, hP20, hs.1, e0, hs9.1]
  rw [q1024t _ hn]
  simp (disch := omega) only [u_1031_17, B_1031_17, u_1031_18, B_1031_18, nI1T, Nat.left_eq_add, Nat.add_eq_left, Nat.add_eq_zero_iff, and_false, false_and, if_false, if_true, opsN, opsC, pm_1, lg, ls1, ls2, lq, List.length_cons, List.length_nil, cN, cL, callE, retV, retN, pm_pop, pm_cat, List.map_cons, List.map_nil, List.sum_cons, List.sum_nil, Value.category, Option.toList, List.cons_append, List.nil_append, ↓reduceIte, reduceCtorEq, Nat.reduceAdd, Nat.reduceLT, Nat.reduceLeDiff, Nat.reduceSub, Nat.reduceEqDiff, Nat.zero_le, Nat.sub_zero, Nat.le_refl, true_and, and_true, not_true_eq_false, not_false_eq_true, true_or, or_true, lc_eq, lc_ne, lc_lt, lc_ge, lc_gt, lc_le, nI_add, lN_add, nI_leI, nI_ltI, nI_eq, nI_clamp, pk_lLT, pk_lLE, pk_lEQ, pk_sub, vp_inT, nz_eq, nz_lt, nz_ge, nz_gt, nz_le, lz_eq, lz_lt, lz_ge, hP1, hP2, hP3, hP4, hP5, hP6, hP7, hP8, hP9, hP10, hP11, hP12, hP13, hP14, hP15, hP16, hP17, hP18, hP19, hP20, hs9.1]
  rw [bad0 _ hs9 hz]
  simp (disch := omega) only [u_1031_28, B_1031_28, nI1T, Nat.left_eq_add, Nat.add_eq_left, Nat.add_eq_zero_iff, and_false, false_and, if_false, if_true, opsN, opsC, pm_1, lg, ls1, ls2, lq, List.length_cons, List.length_nil, cN, cL, callE, retV, retN, pm_pop, pm_cat, List.map_cons, List.map_nil, List.sum_cons, List.sum_nil, Value.category, Option.toList, List.cons_append, List.nil_append, ↓reduceIte, reduceCtorEq, Nat.reduceAdd, Nat.reduceLT, Nat.reduceLeDiff, Nat.reduceSub, Nat.reduceEqDiff, Nat.zero_le, Nat.sub_zero, Nat.le_refl, true_and, and_true, not_true_eq_false, not_false_eq_true, true_or, or_true, lc_eq, lc_ne, lc_lt, lc_ge, lc_gt, lc_le, nI_add, lN_add, nI_leI, nI_ltI, nI_eq, nI_clamp, pk_lLT, pk_lLE, pk_lEQ, pk_sub, vp_inT, nz_eq, nz_lt, nz_ge, nz_gt, nz_le, lz_eq, lz_lt, lz_ge, hP1, hP2, hP3, hP4, hP5, hP6, hP7, hP8, hP9, hP10, hP11, hP12, hP13, hP14, hP15, hP16, hP17, hP18, hP19, hP20, hs9.1, m_g9 hs9, m_t3 hs9, m_n3 hs9, m_r3 hs9]
  refine c1014 d hq2 hI2 ?_
  by_cases c0 : (qN (hOf (1 - n) H)).length = 0
  · simp (disch := omega) only [u_1031_67, B_1031_67, nI1T, Nat.left_eq_add, Nat.add_eq_left, Nat.add_eq_zero_iff, and_false, false_and, if_false, if_true, opsN, opsC, pm_1, lg, ls1, ls2, lq, List.length_cons, List.length_nil, cN, cL, callE, retV, retN, pm_pop, pm_cat, List.map_cons, List.map_nil, List.sum_cons, List.sum_nil, Value.category, Option.toList, List.cons_append, List.nil_append, ↓reduceIte, reduceCtorEq, Nat.reduceAdd, Nat.reduceLT, Nat.reduceLeDiff, Nat.reduceSub, Nat.reduceEqDiff, Nat.zero_le, Nat.sub_zero, Nat.le_refl, true_and, and_true, not_true_eq_false, not_false_eq_true, true_or, or_true, lc_eq, lc_ne, lc_lt, lc_ge, lc_gt, lc_le, nI_add, lN_add, nI_leI, nI_ltI, nI_eq, nI_clamp, pk_lLT, pk_lLE, pk_lEQ, pk_sub, vp_inT, nz_eq, nz_lt, nz_ge, nz_gt, nz_le, lz_eq, lz_lt, lz_ge, hP1, hP2, hP3, hP4, hP5, hP6, hP7, hP8, hP9, hP10, hP11, hP12, hP13, hP14, hP15, hP16, hP17, hP18, hP19, hP20, hs9.1, c0]
    rw [q_came _ r0 r1, r3, lN_i]
    have c2 : qC (hOf n H) ≤ 200 := by omega
    simp (disch := omega) only [nI1T, Nat.left_eq_add, Nat.add_eq_left, Nat.add_eq_zero_iff, and_false, false_and, if_false, if_true, opsN, opsC, pm_1, lg, ls1, ls2, lq, List.length_cons, List.length_nil, cN, cL, callE, retV, retN, pm_pop, pm_cat, List.map_cons, List.map_nil, List.sum_cons, List.sum_nil, Value.category, Option.toList, List.cons_append, List.nil_append, ↓reduceIte, reduceCtorEq, Nat.reduceAdd, Nat.reduceLT, Nat.reduceLeDiff, Nat.reduceSub, Nat.reduceEqDiff, Nat.zero_le, Nat.sub_zero, Nat.le_refl, true_and, and_true, not_true_eq_false, not_false_eq_true, true_or, or_true, lc_eq, lc_ne, lc_lt, lc_ge, lc_gt, lc_le, nI_add, lN_add, nI_leI, nI_ltI, nI_eq, nI_clamp, pk_lLT, pk_lLE, pk_lEQ, pk_sub, vp_inT, nz_eq, nz_lt, nz_ge, nz_gt, nz_le, lz_eq, lz_lt, lz_ge, hP1, hP2, hP3, hP4, hP5, hP6, hP7, hP8, hP9, hP10, hP11, hP12, hP13, hP14, hP15, hP16, hP17, hP18, hP19, hP20, hs9.1, c2, Nat.add_zero]
    rw [c0] at fin
    exact fin
  · have hne : qN (hOf (1 - n) H) ≠ [] := fun z => c0 (by rw [z]; rfl)
    have hmin := (min_all (l := qL (hOf n H)) hI2 hne).mp h2
    have hlt : minK (qK (hOf (1 - n) H)) (hdD (hOf (1 - n) H)) < 2 ^ 40 := by
      obtain ⟨y, y1, y2⟩ := minK_mem (K := qK (hOf (1 - n) H)) (hdD_ne hne)
      rw [y2]
      refine hI2.2.2.2.2.2.1 y (qI_line hI2 y ?_).1
      rw [← hd_split]; exact List.mem_append_left _ y1
    simp (disch := omega) only [nI1T, Nat.left_eq_add, Nat.add_eq_left, Nat.add_eq_zero_iff, and_false, false_and, if_false, if_true, opsN, opsC, pm_1, lg, ls1, ls2, lq, List.length_cons, List.length_nil, cN, cL, callE, retV, retN, pm_pop, pm_cat, List.map_cons, List.map_nil, List.sum_cons, List.sum_nil, Value.category, Option.toList, List.cons_append, List.nil_append, ↓reduceIte, reduceCtorEq, Nat.reduceAdd, Nat.reduceLT, Nat.reduceLeDiff, Nat.reduceSub, Nat.reduceEqDiff, Nat.zero_le, Nat.sub_zero, Nat.le_refl, true_and, and_true, not_true_eq_false, not_false_eq_true, true_or, or_true, lc_eq, lc_ne, lc_lt, lc_ge, lc_gt, lc_le, nI_add, lN_add, nI_leI, nI_ltI, nI_eq, nI_clamp, pk_lLT, pk_lLE, pk_lEQ, pk_sub, vp_inT, nz_eq, nz_lt, nz_ge, nz_gt, nz_le, lz_eq, lz_lt, lz_ge, hP1, hP2, hP3, hP4, hP5, hP6, hP7, hP8, hP9, hP10, hP11, hP12, hP13, hP14, hP15, hP16, hP17, hP18, hP19, hP20, hs9.1, c0]
    refine c1017 d hq2 hI2 hne ?_
    simp (disch := omega) only [u_1031_67, B_1031_67, nI1T, Nat.left_eq_add, Nat.add_eq_left, Nat.add_eq_zero_iff, and_false, false_and, if_false, if_true, opsN, opsC, pm_1, lg, ls1, ls2, lq, List.length_cons, List.length_nil, cN, cL, callE, retV, retN, pm_pop, pm_cat, List.map_cons, List.map_nil, List.sum_cons, List.sum_nil, Value.category, Option.toList, List.cons_append, List.nil_append, ↓reduceIte, reduceCtorEq, Nat.reduceAdd, Nat.reduceLT, Nat.reduceLeDiff, Nat.reduceSub, Nat.reduceEqDiff, Nat.zero_le, Nat.sub_zero, Nat.le_refl, true_and, and_true, not_true_eq_false, not_false_eq_true, true_or, or_true, lc_eq, lc_ne, lc_lt, lc_ge, lc_gt, lc_le, nI_add, lN_add, nI_leI, nI_ltI, nI_eq, nI_clamp, pk_lLT, pk_lLE, pk_lEQ, pk_sub, vp_inT, nz_eq, nz_lt, nz_ge, nz_gt, nz_le, lz_eq, lz_lt, lz_ge, hP1, hP2, hP3, hP4, hP5, hP6, hP7, hP8, hP9, hP10, hP11, hP12, hP13, hP14, hP15, hP16, hP17, hP18, hP19, hP20, hs9.1, r0, r1, r2, hmin]
    rw [q_came _ r0 r1, r3, lN_i]
    simp (disch := omega) only [nI1T, Nat.left_eq_add, Nat.add_eq_left, Nat.add_eq_zero_iff, and_false, false_and, if_false, if_true, opsN, opsC, pm_1, lg, ls1, ls2, lq, List.length_cons, List.length_nil, cN, cL, callE, retV, retN, pm_pop, pm_cat, List.map_cons, List.map_nil, List.sum_cons, List.sum_nil, Value.category, Option.toList, List.cons_append, List.nil_append, ↓reduceIte, reduceCtorEq, Nat.reduceAdd, Nat.reduceLT, Nat.reduceLeDiff, Nat.reduceSub, Nat.reduceEqDiff, Nat.zero_le, Nat.sub_zero, Nat.le_refl, true_and, and_true, not_true_eq_false, not_false_eq_true, true_or, or_true, lc_eq, lc_ne, lc_lt, lc_ge, lc_gt, lc_le, nI_add, lN_add, nI_leI, nI_ltI, nI_eq, nI_clamp, pk_lLT, pk_lLE, pk_lEQ, pk_sub, vp_inT, nz_eq, nz_lt, nz_ge, nz_gt, nz_le, lz_eq, lz_lt, lz_ge, hP1, hP2, hP3, hP4, hP5, hP6, hP7, hP8, hP9, hP10, hP11, hP12, hP13, hP14, hP15, hP16, hP17, hP18, hP19, hP20, hs9.1, h1]
    exact fin
