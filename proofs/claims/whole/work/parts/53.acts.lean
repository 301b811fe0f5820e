/-! ===== the kept acts ===== -/
def a0 : At := (0, 0, 0, 0)
def aS (h : pm_H) (p : Nat) : Prop :=
  hT h p = 0 ∧ hR h p 0 = p + 1 ∧ hR h p 1 = p + 14 ∧ hR h p 2 = p + 15 ∧ hR h p 3 = p + 16 ∧ hR h p 4 = p + 17 ∧
  hT h (p + 14) = 100 ∧ hT h (p + 15) = 100 ∧ hT h (p + 16) = 100 ∧ hT h (p + 17) = 101 ∧ hN h (p + 14) = 8 ∧ hN h (p + 15) = 8 ∧ hN h (p + 16) = 8 ∧ hN h (p + 17) = 8
def aR (h : pm_H) (p : Nat) (L : List At) : Prop :=
  L.length ≤ 8 ∧ hI h p 5 = nI L.length ∧ (∀ j, j < L.length → hI h (p + 14) j = nI (L.getD j a0).1) ∧ (∀ j, j < L.length → hI h (p + 15) j = nI (L.getD j a0).2.1) ∧
  (∀ j, j < L.length → hI h (p + 16) j = nI (L.getD j a0).2.2.1) ∧ (∀ j, j < L.length → hL h (p + 17) j = lN (L.getD j a0).2.2.2)
def runA (B : Hs) : List At → Hs
  | [] => B
  | x :: r => runA (hAct x B) r
def okA (B : Hs) : List At → Prop
  | [] => True
  | x :: r => hOk x B ∧ okA (hAct x B) r
theorem runA_app : ∀ (B : Hs) (L R : List At), runA B (L ++ R) = runA (runA B L) R
  | _, [], _ => rfl
  | B, x :: r, R => runA_app (hAct x B) r R
theorem okA_app : ∀ (B : Hs) (L R : List At), okA B (L ++ R) ↔ okA B L ∧ okA (runA B L) R
  | _, [], R => ⟨fun q => ⟨trivial, q⟩, fun q => q.2⟩
  | B, x :: r, R => by
    show hOk x B ∧ okA (hAct x B) (r ++ R) ↔ (hOk x B ∧ okA (hAct x B) r) ∧ okA (runA (hAct x B) r) R
    rw [okA_app (hAct x B) r R]
    exact and_assoc.symm
theorem runA_J : ∀ (L : List At) {B : Hs}, hJ B → okA B L → hJ (runA B L)
  | [], _, h, _ => h
  | _ :: r, _, h, ho => runA_J r (hAct_J h ho.1) ho.2
theorem aS_fr {lo hi p : Nat} {h h' : pm_H} (f : fr lo hi h h') (hs : aS h p) : aS h' p := by
  unfold aS at *
  rw [f.1, f.2.1, f.2.2.1]
  exact hs
theorem aR_fr {lo hi p : Nat} {h h' : pm_H} {L : List At} (f : fr lo hi h h') (hd : p + 18 ≤ lo ∨ (hi ≤ p + 14 ∧ p < lo) ∨ hi ≤ p) (hs : aR h p L) : aR h' p L := by
  unfold aR at *
  rw [(f.2.2.2.2 p (by omega)).1, (f.2.2.2.2 (p + 14) (by omega)).1, (f.2.2.2.2 (p + 15) (by omega)).1, (f.2.2.2.2 (p + 16) (by omega)).1, (f.2.2.2.2 (p + 17) (by omega)).2]
  exact hs
theorem getD_midA (pre : List At) (y : At) (r : List At) : (pre ++ y :: r).getD pre.length a0 = y := by
  rw [List.getD_eq_getElem?_getD, List.getElem?_append_right (Nat.le_refl _), Nat.sub_self]
  rfl
theorem l3 (d : Nat) {p a : Nat} {L : List At} {Q : pm_Q} (hd : a + 13 ≤ p ∨ p + 18 ≤ a) :
    ∀ (suf pre : List At) (H : Hs) (h : pm_H), L = pre ++ suf → aS h p → aR h p L → isH h a H → hJ H → okA H suf →
      (∀ h', isH h' a (runA H suf) → fr a (a + 13) h h' → Q (.inl (some (.int (nI L.length)))) h') →
      pm_W PP (d + 4) 3 Q 0 0 29 [some (.ref p), some (.ref a), some (.int (nI pre.length))] [] h := by
  intro suf
  induction suf with
  | nil =>
    intro pre H h he hs hr hH hj ho hQ
    rw [List.append_nil] at he
    subst he
    have c : L.length ≤ L.length := Nat.le_refl _
    obtain ⟨s0, s1, s2, s3, s4, s5, s6, s7, s8, s9, s10, s11, s12, s13⟩ := hs
    obtain ⟨q0, q1, q2, q3, q4, q5⟩ := hr
    rw [u_3_29]
    simp (disch := omega) only [B_3_29, u_3_72, B_3_72, nI1T, Nat.left_eq_add, Nat.add_eq_left, Nat.add_eq_zero_iff, and_false, false_and, if_false, if_true, opsN, opsC, pm_1, lg, ls1, ls2, lq, List.length_cons, List.length_nil, cN, cL, callE, retV, retN, pm_pop, pm_cat, List.map_cons, List.map_nil, List.sum_cons, List.sum_nil, Value.category, Option.toList, List.cons_append, List.nil_append, reduceIte, reduceCtorEq, Nat.reduceAdd, Nat.reduceLT, Nat.reduceLeDiff, Nat.reduceSub, Nat.reduceEqDiff, Nat.zero_le, Nat.sub_zero, Nat.le_refl, true_and, and_true, not_true_eq_false, not_false_eq_true, true_or, or_true, lc_eq, lc_ne, lc_lt, lc_ge, lc_gt, lc_le, nI_add, lN_add, nI_leI, nI_ltI, nI_eq, nI_clamp, pk_lLT, pk_lLE, pk_lEQ, pk_sub, vp_inT, nz_eq, nz_lt, nz_ge, nz_gt, nz_le, lz_eq, lz_lt, lz_ge, hP1, hP2, hP3, hP4, hP5, hP6, hP7, hP8, hP9, hP10, hP11, hP12, hP13, hP14, hP15, hP16, hP17, hP18, hP19, hP20, s0, q1, c]
    exact hQ h hH (fr_refl _ _ _)
  | cons x r ih =>
    intro pre H h he hs hr hH hj ho hQ
    have hs0 := hs
    have hr0 := hr
    obtain ⟨s0, s1, s2, s3, s4, s5, s6, s7, s8, s9, s10, s11, s12, s13⟩ := hs
    obtain ⟨q0, q1, q2, q3, q4, q5⟩ := hr
    have hlen : L.length = pre.length + (r.length + 1) := by rw [he, List.length_append, List.length_cons]
    have ex : L.getD pre.length a0 = x := by rw [he, getD_midA]
    have k2 := q2 pre.length (by omega)
    have k3 := q3 pre.length (by omega)
    have k4 := q4 pre.length (by omega)
    have k5 := q5 pre.length (by omega)
    rw [ex] at k2 k3 k4 k5
    have c : ¬ L.length ≤ pre.length := by omega
    have hT3 := hH.1.1
    rw [u_3_29]
    simp (disch := omega) only [B_3_29, nI1T, Nat.left_eq_add, Nat.add_eq_left, Nat.add_eq_zero_iff, and_false, false_and, if_false, if_true, opsN, opsC, pm_1, lg, ls1, ls2, lq, List.length_cons, List.length_nil, cN, cL, callE, retV, retN, pm_pop, pm_cat, List.map_cons, List.map_nil, List.sum_cons, List.sum_nil, Value.category, Option.toList, List.cons_append, List.nil_append, reduceIte, reduceCtorEq, Nat.reduceAdd, Nat.reduceLT, Nat.reduceLeDiff, Nat.reduceSub, Nat.reduceEqDiff, Nat.zero_le, Nat.sub_zero, Nat.le_refl, true_and, and_true, not_true_eq_false, not_false_eq_true, true_or, or_true, lc_eq, lc_ne, lc_lt, lc_ge, lc_gt, lc_le, nI_add, lN_add, nI_leI, nI_ltI, nI_eq, nI_clamp, pk_lLT, pk_lLE, pk_lEQ, pk_sub, vp_inT, nz_eq, nz_lt, nz_ge, nz_gt, nz_le, lz_eq, lz_lt, lz_ge, hP1, hP2, hP3, hP4, hP5, hP6, hP7, hP8, hP9, hP10, hP11, hP12, hP13, hP14, hP15, hP16, hP17, hP18, hP19, hP20, s0, s1, s2, s3, s4, s5, s6, s7, s8, s9, s10, s11, s12, s13, q1, c, k2, k3, k4, k5, hT3]
    refine c303 d hH hj ho.1 ?_
    intro h' hH' hf'
    simp (disch := omega) only [nI1T, Nat.left_eq_add, Nat.add_eq_left, Nat.add_eq_zero_iff, and_false, false_and, if_false, if_true, opsN, opsC, pm_1, lg, ls1, ls2, lq, List.length_cons, List.length_nil, cN, cL, callE, retV, retN, pm_pop, pm_cat, List.map_cons, List.map_nil, List.sum_cons, List.sum_nil, Value.category, Option.toList, List.cons_append, List.nil_append, reduceIte, reduceCtorEq, Nat.reduceAdd, Nat.reduceLT, Nat.reduceLeDiff, Nat.reduceSub, Nat.reduceEqDiff, Nat.zero_le, Nat.sub_zero, Nat.le_refl, true_and, and_true, not_true_eq_false, not_false_eq_true, true_or, or_true, lc_eq, lc_ne, lc_lt, lc_ge, lc_gt, lc_le, nI_add, lN_add, nI_leI, nI_ltI, nI_eq, nI_clamp, pk_lLT, pk_lLE, pk_lEQ, pk_sub, vp_inT, nz_eq, nz_lt, nz_ge, nz_gt, nz_le, lz_eq, lz_lt, lz_ge, hP1, hP2, hP3, hP4, hP5, hP6, hP7, hP8, hP9, hP10, hP11, hP12, hP13, hP14, hP15, hP16, hP17, hP18, hP19, hP20]
    have step := ih (pre ++ [x]) (hAct x H) h' (by rw [List.append_assoc]; exact he) (aS_fr hf' hs0) (aR_fr hf' (by omega) hr0) hH' (hAct_J hj ho.1) ho.2 (fun h2 a1 a2 => hQ h2 a1 (fr_trans hf' a2))
    rw [List.length_append] at step
    exact step
/-- takeBack -/
theorem c3e (d : Nat) {h : pm_H} {p a : Nat} {Q : pm_Q} (hs : aS h p) (hr : aR h p []) (hQ : Q (.inl (some (.int (-nI 1)))) h) : pm_M PP (d + 1) 3 [.ref p, .ref a] h Q := by
  have s0 := hs.1
  have q1 : hI h p 5 = nI 0 := hr.2.1
  rw [e_3]
  simp (disch := omega) only [u_3_0, B_3_0, nI1T, Nat.left_eq_add, Nat.add_eq_left, Nat.add_eq_zero_iff, and_false, false_and, if_false, if_true, opsN, opsC, pm_1, lg, ls1, ls2, lq, List.length_cons, List.length_nil, cN, cL, callE, retV, retN, pm_pop, pm_cat, List.map_cons, List.map_nil, List.sum_cons, List.sum_nil, Value.category, Option.toList, List.cons_append, List.nil_append, reduceIte, reduceCtorEq, Nat.reduceAdd, Nat.reduceLT, Nat.reduceLeDiff, Nat.reduceSub, Nat.reduceEqDiff, Nat.zero_le, Nat.sub_zero, Nat.le_refl, true_and, and_true, not_true_eq_false, not_false_eq_true, true_or, or_true, lc_eq, lc_ne, lc_lt, lc_ge, lc_gt, lc_le, nI_add, lN_add, nI_leI, nI_ltI, nI_eq, nI_clamp, pk_lLT, pk_lLE, pk_lEQ, pk_sub, vp_inT, nz_eq, nz_lt, nz_ge, nz_gt, nz_le, lz_eq, lz_lt, lz_ge, hP1, hP2, hP3, hP4, hP5, hP6, hP7, hP8, hP9, hP10, hP11, hP12, hP13, hP14, hP15, hP16, hP17, hP18, hP19, hP20, s0, q1, hQ]
theorem c3 (d : Nat) {h : pm_H} {p a : Nat} {L : List At} {x : At} {B H : Hs} {Q : pm_Q} (hd : a + 13 ≤ p ∨ p + 18 ≤ a) (hs : aS h p) (hr : aR h p (L ++ [x])) (hB : isH h (p + 1) B) (hjB : hJ B) (ho : okA B L) (hH : isH h a H)
    (hQ : ∀ h', aS h' p → aR h' p L → isH h' (p + 1) B → isH h' a (runA B L) → hT h' = hT h → hN h' = hN h → hR h' = hR h → hn h' = hn h → (∀ k, k ≠ p → (k < a ∨ a + 13 ≤ k) → hI h' k = hI h k ∧ hL h' k = hL h k) → Q (.inl (some (.int (nI L.length)))) h') :
    pm_M PP (d + 5) 3 [.ref p, .ref a] h Q := by
  have hs0 := hs
  obtain ⟨s0, s1, s2, s3, s4, s5, s6, s7, s8, s9, s10, s11, s12, s13⟩ := hs
  obtain ⟨q0, q1, q2, q3, q4, q5⟩ := hr
  have hl : (L ++ [x]).length = L.length + 1 := by rw [List.length_append]; rfl
  rw [hl] at q0 q1
  have c : ¬ L.length + 1 = 0 := by omega
  have e1 : L.length + 1 - 1 = L.length := by omega
  have f1 : fr p (p + 1) h (sI h p (va_up (hI h p) 5 (nI L.length))) := fr_sI (fr_refl _ _ _) (by omega) (by omega)
  have hr1 : aR (sI h p (va_up (hI h p) 5 (nI L.length))) p L := by
    have gd : ∀ j, j < L.length → (L ++ [x]).getD j a0 = L.getD j a0 := fun j hj => by
      rw [List.getD_eq_getElem?_getD, List.getElem?_append_left hj, ← List.getD_eq_getElem?_getD]
    refine ⟨by omega, ?_, ?_, ?_, ?_, ?_⟩
    · simp only [hP1, hP2, hP3, hP4, hP5, hP6, hP7, hP8, hP9, hP10, hP11, hP12, hP13, hP14, hP15, hP16, hP17, hP18, hP19, hP20, va_upE, Nat.left_eq_add, Nat.add_eq_left, Nat.add_eq_zero_iff, Nat.reduceEqDiff, Nat.reduceAdd, reduceIte, and_false, false_and, if_false, if_true, reduceCtorEq]
    · intro j hj; simp only [hP1, hP2, hP3, hP4, hP5, hP6, hP7, hP8, hP9, hP10, hP11, hP12, hP13, hP14, hP15, hP16, hP17, hP18, hP19, hP20, va_upE, Nat.left_eq_add, Nat.add_eq_left, Nat.add_eq_zero_iff, Nat.reduceEqDiff, Nat.reduceAdd, reduceIte, and_false, false_and, if_false, if_true, reduceCtorEq]; rw [← gd j hj]; exact q2 j (by rw [hl]; omega)
    · intro j hj; simp only [hP1, hP2, hP3, hP4, hP5, hP6, hP7, hP8, hP9, hP10, hP11, hP12, hP13, hP14, hP15, hP16, hP17, hP18, hP19, hP20, va_upE, Nat.left_eq_add, Nat.add_eq_left, Nat.add_eq_zero_iff, Nat.reduceEqDiff, Nat.reduceAdd, reduceIte, and_false, false_and, if_false, if_true, reduceCtorEq]; rw [← gd j hj]; exact q3 j (by rw [hl]; omega)
    · intro j hj; simp only [hP1, hP2, hP3, hP4, hP5, hP6, hP7, hP8, hP9, hP10, hP11, hP12, hP13, hP14, hP15, hP16, hP17, hP18, hP19, hP20, va_upE, Nat.left_eq_add, Nat.add_eq_left, Nat.add_eq_zero_iff, Nat.reduceEqDiff, Nat.reduceAdd, reduceIte, and_false, false_and, if_false, if_true, reduceCtorEq]; rw [← gd j hj]; exact q4 j (by rw [hl]; omega)
    · intro j hj; simp only [hP1, hP2, hP3, hP4, hP5, hP6, hP7, hP8, hP9, hP10, hP11, hP12, hP13, hP14, hP15, hP16, hP17, hP18, hP19, hP20, va_upE, Nat.left_eq_add, Nat.add_eq_left, Nat.add_eq_zero_iff, Nat.reduceEqDiff, Nat.reduceAdd, reduceIte, and_false, false_and, if_false, if_true, reduceCtorEq]; rw [← gd j hj]; exact q5 j (by rw [hl]; omega)
  have hT3 := hH.1.1
  rw [e_3]
  simp (disch := omega) only [u_3_0, B_3_0, u_3_9, B_3_9, nI1T, Nat.left_eq_add, Nat.add_eq_left, Nat.add_eq_zero_iff, and_false, false_and, if_false, if_true, opsN, opsC, pm_1, lg, ls1, ls2, lq, List.length_cons, List.length_nil, cN, cL, callE, retV, retN, pm_pop, pm_cat, List.map_cons, List.map_nil, List.sum_cons, List.sum_nil, Value.category, Option.toList, List.cons_append, List.nil_append, reduceIte, reduceCtorEq, Nat.reduceAdd, Nat.reduceLT, Nat.reduceLeDiff, Nat.reduceSub, Nat.reduceEqDiff, Nat.zero_le, Nat.sub_zero, Nat.le_refl, true_and, and_true, not_true_eq_false, not_false_eq_true, true_or, or_true, lc_eq, lc_ne, lc_lt, lc_ge, lc_gt, lc_le, nI_add, lN_add, nI_leI, nI_ltI, nI_eq, nI_clamp, pk_lLT, pk_lLE, pk_lEQ, pk_sub, vp_inT, nz_eq, nz_lt, nz_ge, nz_gt, nz_le, lz_eq, lz_lt, lz_ge, hP1, hP2, hP3, hP4, hP5, hP6, hP7, hP8, hP9, hP10, hP11, hP12, hP13, hP14, hP15, hP16, hP17, hP18, hP19, hP20, s0, s1, q1, c, e1, hT3]
  have hH1 := isH_fr f1 (by omega) hH
  refine c302 (d + 2) hH1.1 hH1.2.1.1 hH1.2.2.1 (isH_fr f1 (by omega) hB) hjB (by omega) ?_
  intro h2 hH2 hf2
  simp (disch := omega) only [nI1T, Nat.left_eq_add, Nat.add_eq_left, Nat.add_eq_zero_iff, and_false, false_and, if_false, if_true, opsN, opsC, pm_1, lg, ls1, ls2, lq, List.length_cons, List.length_nil, cN, cL, callE, retV, retN, pm_pop, pm_cat, List.map_cons, List.map_nil, List.sum_cons, List.sum_nil, Value.category, Option.toList, List.cons_append, List.nil_append, reduceIte, reduceCtorEq, Nat.reduceAdd, Nat.reduceLT, Nat.reduceLeDiff, Nat.reduceSub, Nat.reduceEqDiff, Nat.zero_le, Nat.sub_zero, Nat.le_refl, true_and, and_true, not_true_eq_false, not_false_eq_true, true_or, or_true, lc_eq, lc_ne, lc_lt, lc_ge, lc_gt, lc_le, nI_add, lN_add, nI_leI, nI_ltI, nI_eq, nI_clamp, pk_lLT, pk_lLE, pk_lEQ, pk_sub, vp_inT, nz_eq, nz_lt, nz_ge, nz_gt, nz_le, lz_eq, lz_lt, lz_ge, hP1, hP2, hP3, hP4, hP5, hP6, hP7, hP8, hP9, hP10, hP11, hP12, hP13, hP14, hP15, hP16, hP17, hP18, hP19, hP20]
  have hB2 := isH_fr hf2 (by omega) (isH_fr f1 (by omega) hB)
  have hr2 := aR_fr hf2 (by omega) hr1
  refine l3 d hd L [] B h2 rfl (aS_fr hf2 (aS_fr f1 hs0)) hr2 hH2 hjB ho ?_
  intro h3 hH3 hf3
  refine hQ h3 (aS_fr hf3 (aS_fr hf2 (aS_fr f1 hs0))) (aR_fr hf3 (by omega) hr2) (isH_fr hf3 (by omega) hB2) hH3 (hf3.1.trans (hf2.1.trans f1.1)) (hf3.2.1.trans (hf2.2.1.trans f1.2.1)) (hf3.2.2.1.trans (hf2.2.2.1.trans f1.2.2.1)) (hf3.2.2.2.1.trans (hf2.2.2.2.1.trans f1.2.2.2.1)) (fun k hk hk2 => ?_)
  have z1 := hf3.2.2.2.2 k hk2
  have z2 := hf2.2.2.2.2 k (by omega)
  have z3 := f1.2.2.2.2 k (by omega)
  exact ⟨z1.1.trans (z2.1.trans z3.1), z1.2.trans (z2.2.trans z3.2)⟩
