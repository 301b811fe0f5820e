/-! ===== chart: the pair ===== -/
theorem MI_txt {h h' : pm_H} {m : Nat} {G : Gs} {Z' : Ts} (hM : MI h m G) (f1 : hT h' = hT h) (f2 : hN h' = hN h) (f3 : hR h' = hR h) (f5 : hL h' = hL h) (f6 : ∀ k, k ≠ m → k < m + 27 → hI h' k = hI h k) (g14 : hI h' m 14 = hI h m 14) (g15 : hI h' m 15 = hI h m 15) (hZ : mTs h' m Z') (ok : tsOK Z') :
    MI h' m (G.1, G.2.1, G.2.2.1, G.2.2.2.1, Z') := by
  obtain ⟨⟨hs, f14, hj, q1, q2, p1, p2, p3, p4⟩, b, c, _⟩ := hM
  refine ⟨⟨mS_eq f1 f2 (fun k _ => by rw [f3]) hs, g14.trans f14, hj, mQ_eq f1 f2 (by rw [f5]) q1, mQ_eq f1 f2 (by rw [f5]) q2, p1, g15.trans p2, p3, fun i hi => mRow_eq f1 f2 (by rw [f5]) (by rw [f5]) (by rw [f6 _ (by omega) (by omega)]) (p4 i hi)⟩, fun s hs => ?_, hZ, ok⟩
  rw [f6 _ (by omega) (by omega)]; exact b s hs
theorem mPl_eq {h h' : pm_H} {m : Nat} {L : Ps} (hl : L.2 ≤ 300) (h1 : hI h' m 25 = hI h m 25) (h2 : ∀ k, m + 28 ≤ k → k < m + 328 → hI h' k = hI h k) (hs : mPl h m L) : mPl h' m L := by
  obtain ⟨a, R, b, c⟩ := hs
  refine ⟨h1.trans a, R, b, fun i hi => ?_⟩
  unfold rwIs
  rw [h2 _ (by omega) (by omega)]
  exact c i hi
theorem mCh_eq {h h' : pm_H} {m : Nat} {C : Cs} (hO : chOK C) (h1 : hI h' m 26 = hI h m 26) (h2 : hI h' m 27 = hI h m 27) (h3 : hI h' m 28 = hI h m 28) (h4 : ∀ k, m + 630 ≤ k → k < m + 720 → hI h' k = hI h k) (hs : mCh h m C) : mCh h' m C := by
  obtain ⟨lE, lV, lR, _⟩ := hO
  obtain ⟨c1, c2, c3, c4, c5, c6⟩ := hs
  refine ⟨h1.trans c1, h2.trans c2, h3.trans c3, fun i hi => ?_, fun i hi => ?_, fun i hi => ?_⟩
  · rw [h4 _ (by omega) (by omega)]; exact c4 i hi
  · rw [h4 _ (by omega) (by omega)]; exact c5 i hi
  · rw [h4 _ (by omega) (by omega)]; exact c6 i hi
section C3
variable {h : pm_H} {x m : Nat} {G : Gs} {Q : pm_Q}
theorem r1058a (d : Nat) {v : Int32} (hM : MI h m G) (hv : v < 0 ∨ nI G.2.2.2.2.1.length < v) (hQ : Q (.inl (some (.int (nI 0)))) (rfM (thr h m) m 1 1)) : pm_M PP (d + 4) 1058 [.ref m, .int v] h Q := by
  have hM9 := (MI_thr hM).1
  obtain ⟨h9, e0, et, hs9, hz⟩ := thr_ex hM.1.1
  rw [et] at hQ hM9
  have hs := hM.1.1
  have t3 := hM9.2.2.1.1.1
  have hl5 := hM.2.2.2.1
  have el : (nI G.2.2.2.2.1.length).toInt64 = lN G.2.2.2.2.1.length := nI_l (by omega)
  rw [e_1058]
  simp (disch := omega) only [u_1058_0, B_1058_0, nI1T, Nat.left_eq_add, Nat.add_eq_left, Nat.add_eq_zero_iff, and_false, false_and, if_false, if_true, opsN, opsC, pm_1, lg, ls1, ls2, lq, List.length_cons, List.length_nil, cN, cL, callE, retV, retN, pm_pop, pm_cat, List.map_cons, List.map_nil, List.sum_cons, List.sum_nil, Value.category, Option.toList, List.cons_append, List.nil_append, ↓reduceIte, reduceCtorEq, Nat.reduceAdd, Nat.reduceLT, Nat.reduceLeDiff, Nat.reduceSub, Nat.reduceEqDiff, Nat.zero_le, Nat.sub_zero, Nat.le_refl, true_and, and_true, not_true_eq_false, not_false_eq_true, true_or, or_true, lc_eq, lc_ne, lc_lt, lc_ge, lc_gt, lc_le, nI_add, lN_add, nI_leI, nI_ltI, nI_eq, nI_clamp, pk_lLT, pk_lLE, pk_lEQ, pk_sub, vp_inT, nz_eq, nz_lt, nz_ge, nz_gt, nz_le, lz_eq, lz_lt, lz_ge, hP1, hP2, hP3, hP4, hP5, hP6, hP7, hP8, hP9, hP10, hP11, hP12, hP13, hP14, hP15, hP16, hP17, hP18, hP19, hP20, hs.1, e0, hs9.1, t3, el]
  rw [m1003f _ (v_out (by omega) hv)]
  simp (disch := omega) only [u_1058_25, B_1058_25, nI1T, Nat.left_eq_add, Nat.add_eq_left, Nat.add_eq_zero_iff, and_false, false_and, if_false, if_true, opsN, opsC, pm_1, lg, ls1, ls2, lq, List.length_cons, List.length_nil, cN, cL, callE, retV, retN, pm_pop, pm_cat, List.map_cons, List.map_nil, List.sum_cons, List.sum_nil, Value.category, Option.toList, List.cons_append, List.nil_append, ↓reduceIte, reduceCtorEq, Nat.reduceAdd, Nat.reduceLT, Nat.reduceLeDiff, Nat.reduceSub, Nat.reduceEqDiff, Nat.zero_le, Nat.sub_zero, Nat.le_refl, true_and, and_true, not_true_eq_false, not_false_eq_true, true_or, or_true, lc_eq, lc_ne, lc_lt, lc_ge, lc_gt, lc_le, nI_add, lN_add, nI_leI, nI_ltI, nI_eq, nI_clamp, pk_lLT, pk_lLE, pk_lEQ, pk_sub, vp_inT, nz_eq, nz_lt, nz_ge, nz_gt, nz_le, lz_eq, lz_lt, lz_ge, hP1, hP2, hP3, hP4, hP5, hP6, hP7, hP8, hP9, hP10, hP11, hP12, hP13, hP14, hP15, hP16, hP17, hP18, hP19, hP20, hs9.1]
  rw [bad1 _ hs9 hz (by decide) (by decide) (by decide)]
  simp (disch := omega) only [nI1T, Nat.left_eq_add, Nat.add_eq_left, Nat.add_eq_zero_iff, and_false, false_and, if_false, if_true, opsN, opsC, pm_1, lg, ls1, ls2, lq, List.length_cons, List.length_nil, cN, cL, callE, retV, retN, pm_pop, pm_cat, List.map_cons, List.map_nil, List.sum_cons, List.sum_nil, Value.category, Option.toList, List.cons_append, List.nil_append, ↓reduceIte, reduceCtorEq, Nat.reduceAdd, Nat.reduceLT, Nat.reduceLeDiff, Nat.reduceSub, Nat.reduceEqDiff, Nat.zero_le, Nat.sub_zero, Nat.le_refl, true_and, and_true, not_true_eq_false, not_false_eq_true, true_or, or_true, lc_eq, lc_ne, lc_lt, lc_ge, lc_gt, lc_le, nI_add, lN_add, nI_leI, nI_ltI, nI_eq, nI_clamp, pk_lLT, pk_lLE, pk_lEQ, pk_sub, vp_inT, nz_eq, nz_lt, nz_ge, nz_gt, nz_le, lz_eq, lz_lt, lz_ge, hP1, hP2, hP3, hP4, hP5, hP6, hP7, hP8, hP9, hP10, hP11, hP12, hP13, hP14, hP15, hP16, hP17, hP18, hP19, hP20]
  exact hQ
theorem c1058 (d : Nat) {n : Nat} (hM : MI h m G) (hnn : n ≤ G.2.2.2.2.1.length)
    (hQe : ∀ e h', chR G.2.2.2.2.1 n = .inl e → MI h' m (G.1, G.2.1, G.2.2.1, G.2.2.2.1, [], some e.2, G.2.2.2.2.2.2.1, G.2.2.2.2.2.2.2) → frX m (m + 823) h h' → hI h' m 0 = nI 0 → Q (.inl (some (.int (nI e.1 - nI 10)))) h')
    (hQ : ∀ C' h', chR G.2.2.2.2.1 n = .inr C' → MI h' m (G.1, G.2.1, G.2.2.1, G.2.2.2.1, [], none, G.2.2.2.2.2.2.1, C') → frX m (m + 823) h h' → hI h' m 0 = nI 0 → Q (.inl (some (.int (nI (C'.1.length + C'.2.1.length + C'.2.2.length))))) h') :
    pm_M PP (d + 5) 1058 [.ref m, .int (nI n)] h Q := by
  have h3 := MI_thr hM
  obtain ⟨h9, e0, et, hs9, hz⟩ := thr_ex hM.1.1
  rw [et] at h3
  obtain ⟨hM9, _, hX9⟩ := h3
  have hs := hM.1.1
  have ok := hM.2.2.2
  have hl5 := ok.1
  have htx : txt G.2.2.2.2.1 := ⟨ok.1, ok.2.1⟩
  have t3 := hM9.2.2.1.1.1
  have el : (nI G.2.2.2.2.1.length).toInt64 = lN G.2.2.2.2.1.length := nI_l (by omega)
  have en : (nI n).toInt64 = lN n := nI_l (by omega)
  have hin := v_in (i := n) (c := G.2.2.2.2.1.length) (by omega) hnn
  rw [e_1058]
  simp (disch := omega) only [u_1058_0, B_1058_0, nI1T, Nat.left_eq_add, Nat.add_eq_left, Nat.add_eq_zero_iff, and_false, false_and, if_false, if_true, opsN, opsC, pm_1, lg, ls1, ls2, lq, List.length_cons, List.length_nil, cN, cL, callE, retV, retN, pm_pop, pm_cat, List.map_cons, List.map_nil, List.sum_cons, List.sum_nil, Value.category, Option.toList, List.cons_append, List.nil_append, ↓reduceIte, reduceCtorEq, Nat.reduceAdd, Nat.reduceLT, Nat.reduceLeDiff, Nat.reduceSub, Nat.reduceEqDiff, Nat.zero_le, Nat.sub_zero, Nat.le_refl, true_and, and_true, not_true_eq_false, not_false_eq_true, true_or, or_true, lc_eq, lc_ne, lc_lt, lc_ge, lc_gt, lc_le, nI_add, lN_add, nI_leI, nI_ltI, nI_eq, nI_clamp, pk_lLT, pk_lLE, pk_lEQ, pk_sub, vp_inT, nz_eq, nz_lt, nz_ge, nz_gt, nz_le, lz_eq, lz_lt, lz_ge, hP1, hP2, hP3, hP4, hP5, hP6, hP7, hP8, hP9, hP10, hP11, hP12, hP13, hP14, hP15, hP16, hP17, hP18, hP19, hP20, hs.1, e0, hs9.1, t3, el, en]
  rw [m1003t _ hin.1 hin.2]
  simp (disch := omega) only [u_1058_24, B_1058_24, u_1058_25, B_1058_25, nI1T, Nat.left_eq_add, Nat.add_eq_left, Nat.add_eq_zero_iff, and_false, false_and, if_false, if_true, opsN, opsC, pm_1, lg, ls1, ls2, lq, List.length_cons, List.length_nil, cN, cL, callE, retV, retN, pm_pop, pm_cat, List.map_cons, List.map_nil, List.sum_cons, List.sum_nil, Value.category, Option.toList, List.cons_append, List.nil_append, ↓reduceIte, reduceCtorEq, Nat.reduceAdd, Nat.reduceLT, Nat.reduceLeDiff, Nat.reduceSub, Nat.reduceEqDiff, Nat.zero_le, Nat.sub_zero, Nat.le_refl, true_and, and_true, not_true_eq_false, not_false_eq_true, true_or, or_true, lc_eq, lc_ne, lc_lt, lc_ge, lc_gt, lc_le, nI_add, lN_add, nI_leI, nI_ltI, nI_eq, nI_clamp, pk_lLT, pk_lLE, pk_lEQ, pk_sub, vp_inT, nz_eq, nz_lt, nz_ge, nz_gt, nz_le, lz_eq, lz_lt, lz_ge, hP1, hP2, hP3, hP4, hP5, hP6, hP7, hP8, hP9, hP10, hP11, hP12, hP13, hP14, hP15, hP16, hP17, hP18, hP19, hP20, hs9.1]
  rw [bad0 _ hs9 hz]
  simp (disch := omega) only [u_1058_35, B_1058_35, nI1T, Nat.left_eq_add, Nat.add_eq_left, Nat.add_eq_zero_iff, and_false, false_and, if_false, if_true, opsN, opsC, pm_1, lg, ls1, ls2, lq, List.length_cons, List.length_nil, cN, cL, callE, retV, retN, pm_pop, pm_cat, List.map_cons, List.map_nil, List.sum_cons, List.sum_nil, Value.category, Option.toList, List.cons_append, List.nil_append, ↓reduceIte, reduceCtorEq, Nat.reduceAdd, Nat.reduceLT, Nat.reduceLeDiff, Nat.reduceSub, Nat.reduceEqDiff, Nat.zero_le, Nat.sub_zero, Nat.le_refl, true_and, and_true, not_true_eq_false, not_false_eq_true, true_or, or_true, lc_eq, lc_ne, lc_lt, lc_ge, lc_gt, lc_le, nI_add, lN_add, nI_leI, nI_ltI, nI_eq, nI_clamp, pk_lLT, pk_lLE, pk_lEQ, pk_sub, vp_inT, nz_eq, nz_lt, nz_ge, nz_gt, nz_le, lz_eq, lz_lt, lz_ge, hP1, hP2, hP3, hP4, hP5, hP6, hP7, hP8, hP9, hP10, hP11, hP12, hP13, hP14, hP15, hP16, hP17, hP18, hP19, hP20, hs9.1]
  refine c1055 (d + 3) hs9 hM9.2.2.1.1 hnn htx ?_
  intro h1 k1 k2 k3 k4 k5 f1
  simp (disch := omega) only [nI1T, Nat.left_eq_add, Nat.add_eq_left, Nat.add_eq_zero_iff, and_false, false_and, if_false, if_true, opsN, opsC, pm_1, lg, ls1, ls2, lq, List.length_cons, List.length_nil, cN, cL, callE, retV, retN, pm_pop, pm_cat, List.map_cons, List.map_nil, List.sum_cons, List.sum_nil, Value.category, Option.toList, List.cons_append, List.nil_append, ↓reduceIte, reduceCtorEq, Nat.reduceAdd, Nat.reduceLT, Nat.reduceLeDiff, Nat.reduceSub, Nat.reduceEqDiff, Nat.zero_le, Nat.sub_zero, Nat.le_refl, true_and, and_true, not_true_eq_false, not_false_eq_true, true_or, or_true, lc_eq, lc_ne, lc_lt, lc_ge, lc_gt, lc_le, nI_add, lN_add, nI_leI, nI_ltI, nI_eq, nI_clamp, pk_lLT, pk_lLE, pk_lEQ, pk_sub, vp_inT, nz_eq, nz_lt, nz_ge, nz_gt, nz_le, lz_eq, lz_lt, lz_ge, hP1, hP2, hP3, hP4, hP5, hP6, hP7, hP8, hP9, hP10, hP11, hP12, hP13, hP14, hP15, hP16, hP17, hP18, hP19, hP20]
  refine l1058 d 500 500 0 c0s h1 (by rw [take_len hnn]; omega) (by omega) k1 k2 ⟨by decide, by decide, by decide, fun e he => absurd he List.not_mem_nil, fun e he => absurd he List.not_mem_nil, fun e he => absurd he List.not_mem_nil⟩ ?_
  intro h2 a2 l1 l2 f2
  have hce : chR G.2.2.2.2.1 n = chL (G.2.2.2.2.1.take n) 500 0 c0s := rfl
  obtain ⟨o1, o2, o3, o4, o5, o6, o7⟩ := f1
  obtain ⟨y1, y2, y3, y4, y5, y6, y7⟩ := f2
  have fT : hT h2 = hT h9 := y1.trans o1
  have fN : hN h2 = hN h9 := y2.trans o2
  have fR : hR h2 = hR h9 := y3.trans o3
  have fn : hn h2 = hn h9 := y4.trans o4
  have fL : hL h2 = hL h9 := y5.trans o5
  have fI : ∀ k, k ≠ m → (k < m + 721 ∨ m + 811 ≤ k) → hI h2 k = hI h9 k := fun k q1 q2 => (y6 k q1 q2).trans (o6 k q1)
  have fF : ∀ j, (j < 2 ∨ j = 5 ∨ (8 ≤ j ∧ j < 29)) → hI h2 m j = hI h9 m j := fun j q => (y7 j (by omega) (by omega) (by omega) (by omega) (by omega) (by omega)).trans (o7 j (by omega))
  have f2' : hI h2 m 2 = nI 0 := (y7 2 (by omega) (by omega) (by omega) (by omega) (by omega) (by omega)).trans k3
  have g7 : hI h2 m 7 = flP (resF (chL (G.2.2.2.2.1.take n) 500 0 c0s)) := l1.2.2.2.2.1
  have g6 : hI h2 m 6 = flC (resF (chL (G.2.2.2.2.1.take n) 500 0 c0s)) := l1.2.2.2.1
  cases er : chL (G.2.2.2.2.1.take n) 500 0 c0s with
  | inl e =>
    rw [er] at l1 g6 g7
    have hok := l1.2.2.2.2.2.2.2.1 e rfl
    have g6 : hI h2 m 6 = nI e.1 := g6
    have g7 : hI h2 m 7 = nI e.2 := g7
    have l1' := mrd_f (j := 5) (v := nI e.2) (by decide) (by decide) (by decide) (by decide) l1
    simp (disch := omega) only [u_1058_62, B_1058_62, nI1T, Nat.left_eq_add, Nat.add_eq_left, Nat.add_eq_zero_iff, and_false, false_and, if_false, if_true, opsN, opsC, pm_1, lg, ls1, ls2, lq, List.length_cons, List.length_nil, cN, cL, callE, retV, retN, pm_pop, pm_cat, List.map_cons, List.map_nil, List.sum_cons, List.sum_nil, Value.category, Option.toList, List.cons_append, List.nil_append, ↓reduceIte, reduceCtorEq, Nat.reduceAdd, Nat.reduceLT, Nat.reduceLeDiff, Nat.reduceSub, Nat.reduceEqDiff, Nat.zero_le, Nat.sub_zero, Nat.le_refl, true_and, and_true, not_true_eq_false, not_false_eq_true, true_or, or_true, lc_eq, lc_ne, lc_lt, lc_ge, lc_gt, lc_le, nI_add, lN_add, nI_leI, nI_ltI, nI_eq, nI_clamp, pk_lLT, pk_lLE, pk_lEQ, pk_sub, vp_inT, nz_eq, nz_lt, nz_ge, nz_gt, nz_le, lz_eq, lz_lt, lz_ge, hP1, hP2, hP3, hP4, hP5, hP6, hP7, hP8, hP9, hP10, hP11, hP12, hP13, hP14, hP15, hP16, hP17, hP18, hP19, hP20, l1.1.1, g7]
    have g6' : hI (sI h2 m (va_up (hI h2 m) 5 (nI e.2))) m 6 = nI e.1 := by rw [hI_at, va_up_ne _ _ (by decide)]; exact g6
    have gF : ∀ j, j ≠ 5 → hI (sI h2 m (va_up (hI h2 m) 5 (nI e.2))) m j = hI h2 m j := fun j q => by rw [hI_at, va_up_ne _ _ q]
    have g5 : hI (sI h2 m (va_up (hI h2 m) 5 (nI e.2))) m 5 = nI e.2 := by rw [hI_at, va_up_self]
    have gI : ∀ k, k ≠ m → hI (sI h2 m (va_up (hI h2 m) 5 (nI e.2))) k = hI h2 k := fun k q => by rw [hP1, va_up_ne _ _ q]
    have sT : hT (sI h2 m (va_up (hI h2 m) 5 (nI e.2))) = hT h9 := fT
    have sN : hN (sI h2 m (va_up (hI h2 m) 5 (nI e.2))) = hN h9 := fN
    have sR' : hR (sI h2 m (va_up (hI h2 m) 5 (nI e.2))) = hR h9 := fR
    have sn : hn (sI h2 m (va_up (hI h2 m) 5 (nI e.2))) = hn h9 := fn
    have sL' : hL (sI h2 m (va_up (hI h2 m) 5 (nI e.2))) = hL h9 := fL
    generalize sI h2 m (va_up (hI h2 m) 5 (nI e.2)) = h4 at l1' g6' gF g5 gI sT sN sR' sn sL' ⊢
    rw [q1043f _ l1' (fun q => by cases q)]
    simp (disch := omega) only [nI1T, Nat.left_eq_add, Nat.add_eq_left, Nat.add_eq_zero_iff, and_false, false_and, if_false, if_true, opsN, opsC, pm_1, lg, ls1, ls2, lq, List.length_cons, List.length_nil, cN, cL, callE, retV, retN, pm_pop, pm_cat, List.map_cons, List.map_nil, List.sum_cons, List.sum_nil, Value.category, Option.toList, List.cons_append, List.nil_append, ↓reduceIte, reduceCtorEq, Nat.reduceAdd, Nat.reduceLT, Nat.reduceLeDiff, Nat.reduceSub, Nat.reduceEqDiff, Nat.zero_le, Nat.sub_zero, Nat.le_refl, true_and, and_true, not_true_eq_false, not_false_eq_true, true_or, or_true, lc_eq, lc_ne, lc_lt, lc_ge, lc_gt, lc_le, nI_add, lN_add, nI_leI, nI_ltI, nI_eq, nI_clamp, pk_lLT, pk_lLE, pk_lEQ, pk_sub, vp_inT, nz_eq, nz_lt, nz_ge, nz_gt, nz_le, lz_eq, lz_lt, lz_ge, hP1, hP2, hP3, hP4, hP5, hP6, hP7, hP8, hP9, hP10, hP11, hP12, hP13, hP14, hP15, hP16, hP17, hP18, hP19, hP20, l1'.1.1, g6']
    refine hQe e _ (by rw [hce, er]) (MI_txt hM9 sT sN sR' sL' (fun k q1 q2 => (gI k q1).trans (fI k q1 (by omega))) ((gF _ (by decide)).trans (fF _ (by omega))) ((gF _ (by decide)).trans (fF _ (by omega))) ⟨⟨(gF _ (by decide)).trans f2', g5, fun i hi => absurd hi (Nat.not_lt_zero _)⟩, mPl_eq ok.2.2.2.1 ((gF _ (by decide)).trans (fF _ (by omega))) (fun k q1 q2 => (gI k (by omega)).trans (fI k (by omega) (by omega))) hM9.2.2.1.2.1, mCh_eq ok.2.2.2.2.2 ((gF _ (by decide)).trans (fF _ (by omega))) ((gF _ (by decide)).trans (fF _ (by omega))) ((gF _ (by decide)).trans (fF _ (by omega))) (fun k q1 q2 => (gI k (by omega)).trans (fI k (by omega) (by omega))) hM9.2.2.1.2.2⟩ ⟨Nat.zero_le _, fun b hb => absurd hb List.not_mem_nil, fun p q => by injection q with q; rw [← q]; exact hok.2.2, ok.2.2.2⟩) (frX_trans hX9 ⟨sT, sN, sn, fun k q => ⟨(gI k (by omega)).trans (fI k (by omega) (by omega)), by rw [sL'], by rw [sR']⟩⟩) (((gF _ (by decide)).trans (fF _ (by omega))).trans hz)
  | inr C' =>
    obtain ⟨lc, hO⟩ := l2 C' er
    rw [er] at l1 g6 g7
    have g7 : hI h2 m 7 = -nI 1 := g7
    have l1' := mrd_f (j := 5) (v := -nI 1) (by decide) (by decide) (by decide) (by decide) l1
    simp (disch := omega) only [u_1058_62, B_1058_62, nI1T, Nat.left_eq_add, Nat.add_eq_left, Nat.add_eq_zero_iff, and_false, false_and, if_false, if_true, opsN, opsC, pm_1, lg, ls1, ls2, lq, List.length_cons, List.length_nil, cN, cL, callE, retV, retN, pm_pop, pm_cat, List.map_cons, List.map_nil, List.sum_cons, List.sum_nil, Value.category, Option.toList, List.cons_append, List.nil_append, ↓reduceIte, reduceCtorEq, Nat.reduceAdd, Nat.reduceLT, Nat.reduceLeDiff, Nat.reduceSub, Nat.reduceEqDiff, Nat.zero_le, Nat.sub_zero, Nat.le_refl, true_and, and_true, not_true_eq_false, not_false_eq_true, true_or, or_true, lc_eq, lc_ne, lc_lt, lc_ge, lc_gt, lc_le, nI_add, lN_add, nI_leI, nI_ltI, nI_eq, nI_clamp, pk_lLT, pk_lLE, pk_lEQ, pk_sub, vp_inT, nz_eq, nz_lt, nz_ge, nz_gt, nz_le, lz_eq, lz_lt, lz_ge, hP1, hP2, hP3, hP4, hP5, hP6, hP7, hP8, hP9, hP10, hP11, hP12, hP13, hP14, hP15, hP16, hP17, hP18, hP19, hP20, l1.1.1, g7]
    rw [q1043t _ l1' rfl]
    obtain ⟨b1, b2, b3, b4, b5, b6⟩ := lc
    simp (disch := omega) only [u_1058_85, B_1058_85, nI1T, Nat.left_eq_add, Nat.add_eq_left, Nat.add_eq_zero_iff, and_false, false_and, if_false, if_true, opsN, opsC, pm_1, lg, ls1, ls2, lq, List.length_cons, List.length_nil, cN, cL, callE, retV, retN, pm_pop, pm_cat, List.map_cons, List.map_nil, List.sum_cons, List.sum_nil, Value.category, Option.toList, List.cons_append, List.nil_append, ↓reduceIte, reduceCtorEq, Nat.reduceAdd, Nat.reduceLT, Nat.reduceLeDiff, Nat.reduceSub, Nat.reduceEqDiff, Nat.zero_le, Nat.sub_zero, Nat.le_refl, true_and, and_true, not_true_eq_false, not_false_eq_true, true_or, or_true, lc_eq, lc_ne, lc_lt, lc_ge, lc_gt, lc_le, nI_add, lN_add, nI_leI, nI_ltI, nI_eq, nI_clamp, pk_lLT, pk_lLE, pk_lEQ, pk_sub, vp_inT, nz_eq, nz_lt, nz_ge, nz_gt, nz_le, lz_eq, lz_lt, lz_ge, hP1, hP2, hP3, hP4, hP5, hP6, hP7, hP8, hP9, hP10, hP11, hP12, hP13, hP14, hP15, hP16, hP17, hP18, hP19, hP20, l1.1.1, va_upE, sI_sI, b1, b2, b3]
    obtain ⟨g, hg, hg2, hg5, hg6, hg7, hg8, hgo⟩ : ∃ g, g = (va_up (va_up (va_up (va_up (hI h2 m) 5 (-nI 1)) 26 (nI C'.1.length)) 27 (nI C'.2.1.length)) 28 (nI C'.2.2.length)) ∧ g 2 = hI h2 m 2 ∧ g 5 = -nI 1 ∧ g 26 = nI C'.1.length ∧ g 27 = nI C'.2.1.length ∧ g 28 = nI C'.2.2.length ∧ ∀ j, j ≠ 5 → j ≠ 26 → j ≠ 27 → j ≠ 28 → g j = hI h2 m j :=
      ⟨_, rfl, by simp only [va_upE, Nat.reduceEqDiff, if_true, if_false], by simp only [va_upE, Nat.reduceEqDiff, if_true, if_false], by simp only [va_upE, Nat.reduceEqDiff, if_true, if_false], by simp only [va_upE, Nat.reduceEqDiff, if_true, if_false], by simp only [va_upE, Nat.reduceEqDiff, if_true, if_false], fun j q1 q2 q3 q4 => by rw [va_up_ne _ _ q4, va_up_ne _ _ q3, va_up_ne _ _ q2, va_up_ne _ _ q1]⟩
    rw [← hg]
    clear hg
    have e4 : ∀ k, k ≠ m → hI (sI h2 m g) k = hI h2 k := fun k q => by rw [hP1, va_up_ne _ _ q]
    have e4m : hI (sI h2 m g) m = g := hI_at _ _ _
    have hs4 : mS (sI h2 m g) m := mS_sI l1.1
    have sT : hT (sI h2 m g) = hT h9 := fT
    have sN : hN (sI h2 m g) = hN h9 := fN
    have sR' : hR (sI h2 m g) = hR h9 := fR
    have sn : hn (sI h2 m g) = hn h9 := fn
    have sL' : hL (sI h2 m g) = hL h9 := fL
    generalize sI h2 m g = h4 at e4 e4m hs4 sT sN sR' sn sL' ⊢
    refine l1058e (d + 4) (C := C') hO C'.1.length 0 h4 _ (by omega) hs4 (by rw [e4m]; exact hg6) (fun i hi => by rw [e4 _ (by omega)]; exact b4 i hi) (fun i hi => absurd hi (Nat.not_lt_zero _)) ?_
    intro h5 y5' r5 s5 L5
    have hO' := hO
    obtain ⟨lE, lV, lR, _⟩ := hO'
    have hs5 : mS h5 m := mS_eq s5.1 s5.2.1 (fun k _ => by rw [s5.2.2.1]) hs4
    have e5 : ∀ k, (k < m + 630 ∨ m + 690 ≤ k) → hI h5 k = hI h4 k := fun k q => (s5.2.2.2.2 k (by omega)).1
    simp (disch := omega) only [u_1058_154, B_1058_154, nI1T, Nat.left_eq_add, Nat.add_eq_left, Nat.add_eq_zero_iff, and_false, false_and, if_false, if_true, opsN, opsC, pm_1, lg, ls1, ls2, lq, List.length_cons, List.length_nil, cN, cL, callE, retV, retN, pm_pop, pm_cat, List.map_cons, List.map_nil, List.sum_cons, List.sum_nil, Value.category, Option.toList, List.cons_append, List.nil_append, ↓reduceIte, reduceCtorEq, Nat.reduceAdd, Nat.reduceLT, Nat.reduceLeDiff, Nat.reduceSub, Nat.reduceEqDiff, Nat.zero_le, Nat.sub_zero, Nat.le_refl, true_and, and_true, not_true_eq_false, not_false_eq_true, true_or, or_true, lc_eq, lc_ne, lc_lt, lc_ge, lc_gt, lc_le, nI_add, lN_add, nI_leI, nI_ltI, nI_eq, nI_clamp, pk_lLT, pk_lLE, pk_lEQ, pk_sub, vp_inT, nz_eq, nz_lt, nz_ge, nz_gt, nz_le, lz_eq, lz_lt, lz_ge, hP1, hP2, hP3, hP4, hP5, hP6, hP7, hP8, hP9, hP10, hP11, hP12, hP13, hP14, hP15, hP16, hP17, hP18, hP19, hP20]
    refine l1058v (d + 4) (C := C') hO C'.2.1.length 0 h5 _ (by omega) hs5 (by rw [e5 _ (by omega), e4m]; exact hg7) (fun i hi => by rw [e5 _ (by omega), e4 _ (by omega)]; exact b5 i hi) (fun i hi => absurd hi (Nat.not_lt_zero _)) ?_
    intro h6 y6' r6 s6 L6
    have hs6 : mS h6 m := mS_eq s6.1 s6.2.1 (fun k _ => by rw [s6.2.2.1]) hs5
    have e6 : ∀ k, (k < m + 691 ∨ m + 703 ≤ k) → hI h6 k = hI h5 k := fun k q => (s6.2.2.2.2 k (by omega)).1
    simp (disch := omega) only [u_1058_199, B_1058_199, nI1T, Nat.left_eq_add, Nat.add_eq_left, Nat.add_eq_zero_iff, and_false, false_and, if_false, if_true, opsN, opsC, pm_1, lg, ls1, ls2, lq, List.length_cons, List.length_nil, cN, cL, callE, retV, retN, pm_pop, pm_cat, List.map_cons, List.map_nil, List.sum_cons, List.sum_nil, Value.category, Option.toList, List.cons_append, List.nil_append, ↓reduceIte, reduceCtorEq, Nat.reduceAdd, Nat.reduceLT, Nat.reduceLeDiff, Nat.reduceSub, Nat.reduceEqDiff, Nat.zero_le, Nat.sub_zero, Nat.le_refl, true_and, and_true, not_true_eq_false, not_false_eq_true, true_or, or_true, lc_eq, lc_ne, lc_lt, lc_ge, lc_gt, lc_le, nI_add, lN_add, nI_leI, nI_ltI, nI_eq, nI_clamp, pk_lLT, pk_lLE, pk_lEQ, pk_sub, vp_inT, nz_eq, nz_lt, nz_ge, nz_gt, nz_le, lz_eq, lz_lt, lz_ge, hP1, hP2, hP3, hP4, hP5, hP6, hP7, hP8, hP9, hP10, hP11, hP12, hP13, hP14, hP15, hP16, hP17, hP18, hP19, hP20]
    refine l1058r (d + 4) (C := C') hO C'.2.2.length 0 h6 _ (by omega) hs6 (by rw [e6 _ (by omega), e5 _ (by omega), e4m]; exact hg8) (fun i hi => by rw [e6 _ (by omega), e5 _ (by omega), e4 _ (by omega)]; exact b6 i hi) (fun i hi => absurd hi (Nat.not_lt_zero _)) ?_
    intro h7 y7' r7 s7 L7
    have hs7 : mS h7 m := mS_eq s7.1 s7.2.1 (fun k _ => by rw [s7.2.2.1]) hs6
    have e7 : ∀ k, (k < m + 704 ∨ m + 720 ≤ k) → hI h7 k = hI h6 k := fun k q => (s7.2.2.2.2 k (by omega)).1
    have em : hI h7 m = g := by rw [e7 _ (by omega), e6 _ (by omega), e5 _ (by omega), e4m]
    have eI : ∀ k, k ≠ m → (k < m + 630 ∨ m + 811 ≤ k) → hI h7 k = hI h9 k := fun k q1 q2 => by rw [e7 _ (by omega), e6 _ (by omega), e5 _ (by omega), e4 _ q1, fI _ q1 (by omega)]
    have tT : hT h7 = hT h9 := s7.1.trans (s6.1.trans (s5.1.trans sT))
    have tN : hN h7 = hN h9 := s7.2.1.trans (s6.2.1.trans (s5.2.1.trans sN))
    have tR : hR h7 = hR h9 := s7.2.2.1.trans (s6.2.2.1.trans (s5.2.2.1.trans sR'))
    have tn : hn h7 = hn h9 := s7.2.2.2.1.trans (s6.2.2.2.1.trans (s5.2.2.2.1.trans sn))
    have tL : hL h7 = hL h9 := L7.trans (L6.trans (L5.trans sL'))
    have m6 : hI h7 m 26 = nI C'.1.length := by rw [em]; exact hg6
    have m7 : hI h7 m 27 = nI C'.2.1.length := by rw [em]; exact hg7
    have m8 : hI h7 m 28 = nI C'.2.2.length := by rw [em]; exact hg8
    simp (disch := omega) only [u_1058_244, B_1058_244, nI1T, Nat.left_eq_add, Nat.add_eq_left, Nat.add_eq_zero_iff, and_false, false_and, if_false, if_true, opsN, opsC, pm_1, lg, ls1, ls2, lq, List.length_cons, List.length_nil, cN, cL, callE, retV, retN, pm_pop, pm_cat, List.map_cons, List.map_nil, List.sum_cons, List.sum_nil, Value.category, Option.toList, List.cons_append, List.nil_append, ↓reduceIte, reduceCtorEq, Nat.reduceAdd, Nat.reduceLT, Nat.reduceLeDiff, Nat.reduceSub, Nat.reduceEqDiff, Nat.zero_le, Nat.sub_zero, Nat.le_refl, true_and, and_true, not_true_eq_false, not_false_eq_true, true_or, or_true, lc_eq, lc_ne, lc_lt, lc_ge, lc_gt, lc_le, nI_add, lN_add, nI_leI, nI_ltI, nI_eq, nI_clamp, pk_lLT, pk_lLE, pk_lEQ, pk_sub, vp_inT, nz_eq, nz_lt, nz_ge, nz_gt, nz_le, lz_eq, lz_lt, lz_ge, hP1, hP2, hP3, hP4, hP5, hP6, hP7, hP8, hP9, hP10, hP11, hP12, hP13, hP14, hP15, hP16, hP17, hP18, hP19, hP20, hs7.1, m6, m7, m8]
    refine hQ C' h7 (by rw [hce, er]) (MI_txt hM9 tT tN tR tL (fun k q1 q2 => eI k q1 (by omega)) (by rw [em, hgo _ (by decide) (by decide) (by decide) (by decide)]; exact fF _ (by omega)) (by rw [em, hgo _ (by decide) (by decide) (by decide) (by decide)]; exact fF _ (by omega)) ⟨⟨by rw [em, hg2]; exact f2', by rw [em]; exact hg5, fun i hi => absurd hi (Nat.not_lt_zero _)⟩, mPl_eq ok.2.2.2.1 (by rw [em, hgo _ (by decide) (by decide) (by decide) (by decide)]; exact fF _ (by omega)) (fun k q1 q2 => eI k (by omega) (by omega)) hM9.2.2.1.2.1, m6, m7, m8, fun i hi => ?_, fun i hi => ?_, r7⟩ ⟨Nat.zero_le _, fun b hb => absurd hb List.not_mem_nil, fun p q => (by cases q), ok.2.2.2.1, ok.2.2.2.2.1, hO⟩) (frX_trans hX9 ⟨tT, tN, tn, fun k q => ⟨eI k (by omega) (by omega), by rw [tL], by rw [tR]⟩⟩) ?_
    · have hi : i < C'.1.length := hi
      rw [e7 _ (by omega), e6 _ (by omega)]; exact r5 i hi
    · have hi : i < C'.2.1.length := hi
      rw [e7 _ (by omega)]; exact r6 i hi
    · rw [em, hgo _ (by decide) (by decide) (by decide) (by decide), fF _ (by omega)]; exact hz
/-- chart -/
theorem P903 (hC : CI h x G) (hM : MI h m G) (v : Int32) : pairI x m 903 1058 [.int v] [0, 1, 0, 0] G h := by
  have ok := hM.2.2.2
  have hl5 := ok.1
  have htx : txt G.2.2.2.2.1 := ⟨ok.1, ok.2.1⟩
  rcases v_txt (v := v) (k := G.2.2.2.2.1.length) hl5 with ⟨n, hnn, e⟩ | z
  · subst e
    cases er : chR G.2.2.2.2.1 n with
    | inl e =>
      refine .inr ⟨nI e.1 - nI 10, (G.1, G.2.1, G.2.2.1, G.2.2.2.1, [], some e.2, G.2.2.2.2.2.2.1, G.2.2.2.2.2.2.2), Nat.le_add_right _ _, fun Q hQ => c903 393 hC htx hnn (fun e' h' q1 q2 q3 => ?_) (fun C' h' q1 => ?_), fun h9 Q hM1 hQ => c1058 395 hM1 hnn (fun e' h' q1 q2 q3 q4 => ?_) (fun C' h' q1 => ?_)⟩
      · rw [er] at q1; cases q1; exact hQ h' q2 q3
      · rw [er] at q1; cases q1
      · rw [er] at q1; cases q1; exact hQ h' q2 q3 q4
      · rw [er] at q1; cases q1
    | inr C' =>
      refine .inr ⟨nI (C'.1.length + C'.2.1.length + C'.2.2.length), (G.1, G.2.1, G.2.2.1, G.2.2.2.1, [], none, G.2.2.2.2.2.2.1, C'), Nat.le_add_right _ _, fun Q hQ => c903 393 hC htx hnn (fun e' h' q1 => ?_) (fun C'' h' q1 q2 q3 => ?_), fun h9 Q hM1 hQ => c1058 395 hM1 hnn (fun e' h' q1 => ?_) (fun C'' h' q1 q2 q3 q4 => ?_)⟩
      · rw [er] at q1; cases q1
      · rw [er] at q1; cases q1; exact hQ h' q2 q3
      · rw [er] at q1; cases q1
      · rw [er] at q1; cases q1; exact hQ h' q2 q3 q4
  · exact .inl ⟨1, by decide, by decide, fun Q hQ => c903a 398 hC hl5 z (hQ _ (CI_ref (by decide) hC) frX_ref),
            fun h9 Q hM1 hQ => r1058a 396 hM1 z (by have := MI_ref (w := 1) (r := 1) (by decide) hM1; exact hQ _ this.1 this.2.2 this.2.1)⟩
end C3
