/-! ===== THE PLAN, RUN: by the reference ===== -/
def frU (m : Nat) (h h' : pm_H) : Prop := hT h' = hT h ∧ hN h' = hN h ∧ hR h' = hR h ∧ hn h' = hn h ∧ (∀ k, k ≠ m + 811 → hL h' k = hL h k) ∧ (∀ k, k ≠ m → k ≠ m + 26 → k ≠ m + 812 → hI h' k = hI h k) ∧ ∀ j, j ≠ 36 → j ≠ 37 → j ≠ 38 → hI h' m j = hI h m j
theorem frU_refl (m : Nat) (h : pm_H) : frU m h h := ⟨rfl, rfl, rfl, rfl, fun _ _ => rfl, fun _ _ _ _ => rfl, fun _ _ _ _ => rfl⟩
theorem frU_trans {m : Nat} {h h1 h2 : pm_H} (a : frU m h h1) (b : frU m h1 h2) : frU m h h2 :=
  ⟨b.1.trans a.1, b.2.1.trans a.2.1, b.2.2.1.trans a.2.2.1, b.2.2.2.1.trans a.2.2.2.1, fun k z => (b.2.2.2.2.1 k z).trans (a.2.2.2.2.1 k z), fun k z1 z2 z3 => (b.2.2.2.2.2.1 k z1 z2 z3).trans (a.2.2.2.2.2.1 k z1 z2 z3), fun j z1 z2 z3 => (b.2.2.2.2.2.2 j z1 z2 z3).trans (a.2.2.2.2.2.2 j z1 z2 z3)⟩
theorem frU_Q {m : Nat} {h h1 : pm_H} (a : frQ (m + 811) (m + 26) h h1) : frU m h h1 :=
  ⟨a.1, a.2.1, a.2.2.1, a.2.2.2.1, fun k z => a.2.2.2.2.2 k z, fun k _ z _ => a.2.2.2.2.1 k z, fun j _ _ _ => by rw [a.2.2.2.2.1 m (by omega)]⟩
theorem frU_f {m j : Nat} {h : pm_H} {v : Int32} (hj : j = 36 ∨ j = 37 ∨ j = 38) : frU m h (sI h m (va_up (hI h m) j v)) :=
  ⟨rfl, rfl, rfl, rfl, fun _ _ => rfl, fun k z _ _ => by rw [hP1, va_up_ne _ _ z], fun k _ _ _ => by rw [hP1, va_up_self, va_up_ne _ _ (by omega)]⟩
theorem frU_t {m : Nat} {h : pm_H} {g : Nat → Int32} : frU m h (sI h (m + 812) g) :=
  ⟨rfl, rfl, rfl, rfl, fun _ _ => rfl, fun k _ _ z => by rw [hP1, va_up_ne _ _ z], fun k _ _ _ => by rw [hP1, va_up_ne _ _ (by omega)]⟩
theorem frU_u {m : Nat} {h : pm_H} {g : Nat → Int32} : frU m h (sI h (m + 26) g) :=
  ⟨rfl, rfl, rfl, rfl, fun _ _ => rfl, fun k _ z _ => by rw [hP1, va_up_ne _ _ z], fun k _ _ _ => by rw [hP1, va_up_ne _ _ (by omega)]⟩
theorem frU_L {m : Nat} {h : pm_H} {g : Nat → Int64} : frU m h (sL h (m + 811) g) :=
  ⟨rfl, rfl, rfl, rfl, fun _ z => by rw [hP7, va_up_ne _ _ z], fun k _ z _ => rfl, fun k _ _ _ => rfl⟩
theorem frZ_U {m : Nat} {h h' : pm_H} (a : frU m h h') : frZ m h h' :=
  ⟨a.1, a.2.1, a.2.2.1, a.2.2.2.1, fun j z => a.2.2.2.2.2.2 j (by omega) (by omega) (by omega), fun k z z2 => a.2.2.2.2.2.1 k z (by omega) (by omega), fun k z => a.2.2.2.2.1 k (by omega)⟩
theorem mS_U {m : Nat} {h h' : pm_H} (a : frU m h h') (hs : mS h m) : mS h' m := mS_eq a.1 a.2.1 (fun k _ => by rw [a.2.2.1]) hs
def mdT (h : pm_H) (m : Nat) (S : RT) (B : Nat) : Prop := (∃ sn st, isQ h (m + 811) S.1 sn st ∧ qT S.1 sn st ∧ st ≤ B) ∧ isU h (m + 26) S.2.2 ∧ hI h m 38 = nI S.2.1.length ∧ ∀ i, i < S.2.1.length → hI h (m + 812) i = nI (S.2.1.getD i 0)
theorem mdT_up {h : pm_H} {m B B' : Nat} {S : RT} (hb : B ≤ B') (a : mdT h m S B) : mdT h m S B' := by
  obtain ⟨⟨sn, st, a1, a2, a3⟩, b⟩ := a
  exact ⟨⟨sn, st, a1, a2, by omega⟩, b⟩
theorem mdT_f {h : pm_H} {m j B : Nat} {S : RT} {v : Int32} (hj : j ≠ 38) (a : mdT h m S B) : mdT (sI h m (va_up (hI h m) j v)) m S B := by
  obtain ⟨⟨sn, st, a1, a2, a3⟩, b, c, e⟩ := a
  refine ⟨⟨sn, st, isQ_eq (h := h) rfl rfl rfl a1, a2, a3⟩, fun k hk => ?_, ?_, fun i hi => ?_⟩
  · rw [hP1, va_up_ne _ _ (by omega)]; exact b k hk
  · rw [hI_at, va_up_ne _ _ (by omega)]; exact c
  · rw [hP1, va_up_ne _ _ (by omega)]; exact e i hi
section RV
variable {h : pm_H} {m bits : Nat} {S : RT} {Q : pm_Q}
theorem mdT_q {B B' : Nat} {A' : Qs} {U' : Nat → Bool} {h' : pm_H} (hc : mdT h m S B) (f : frQ (m + 811) (m + 26) h h') (hB : ∃ sn st, isQ h' (m + 811) A' sn st ∧ qT A' sn st ∧ st ≤ B') (hF : isU h' (m + 26) U') : mdT h' m (A', S.2.1, U') B' := by
  obtain ⟨_, _, c, e⟩ := hc
  refine ⟨hB, hF, ?_, fun i hi => ?_⟩
  · rw [f.2.2.2.2.1 m (by omega)]; exact c
  · rw [f.2.2.2.2.1 _ (by omega)]; exact e i hi
theorem c1060 (d : Nat) {n B k : Nat} {r : Pw} (hs : mS h m) (ht : hT h k = 100) (hk4 : hN h k = 4) (hr : rwIs h k r) (hc : mdT h m S B) (hI1 : rtI bits S n) (h4 : r.1 < 4) (hsB : stB (stOf r)) (hBB : B < 2 ^ 50)
    (hQ1 : ∀ S' h', stS bits (stOf r) S = some S' → mdT h' m S' (B + 300) → frU m h h' → (∀ j, j ≠ 38 → hI h' m j = hI h m j) → Q (.inl (some (.int (nI 1)))) h')
    (hQ0 : stS bits (stOf r) S = none → Q (.inl (some (.int (nI 0)))) h) : pm_M PP (d + 6) 1060 [.ref m, .ref k, .int (nI bits)] h Q := by
  obtain ⟨r0, r1, r2, r3⟩ := r
  obtain ⟨w0, w1, w2, w3⟩ := hr
  have w0 : hI h k 0 = nI r0 := w0
  have w1 : hI h k 1 = nI r1 := w1
  have w2 : hI h k 2 = nI r2 := w2
  have h4 : r0 < 4 := h4
  have hc0 := hc
  obtain ⟨⟨sn, st, q1, q2, q3⟩, hU, g2, g3⟩ := hc
  obtain ⟨a1, a2, a3, a4, a5⟩ := id hI1
  have i3 := a1.2.2.1
  have i11 := a1.2.2.2.2.2.2.2.2.2.2.1
  have g0 := q1.2.2.1
  rw [e_1060]
  rcases (show r0 = 0 ∨ r0 = 1 ∨ r0 = 2 ∨ r0 = 3 by omega) with e | e | e | e <;> subst e
  · have e : stOf (0, r1, r2, r3) = (0, 0, r1) := rfl
    rw [e] at hQ1 hQ0 hsB
    have b3 : r1 ≤ 1000000000 := hsB.2.2
    have el : (nI r1).toInt64 = lN r1 := nI_l (by omega)
    have q1l := a1.2.2.2.2.1
    simp (disch := omega) only [u_1060_0, B_1060_0, nI1T, Nat.left_eq_add, Nat.add_eq_left, Nat.add_eq_zero_iff, and_false, false_and, if_false, if_true, opsN, opsC, pm_1, lg, ls1, ls2, lq, List.length_cons, List.length_nil, cN, cL, callE, retV, retN, pm_pop, pm_cat, List.map_cons, List.map_nil, List.sum_cons, List.sum_nil, Value.category, Option.toList, List.cons_append, List.nil_append, ↓reduceIte, reduceCtorEq, Nat.reduceAdd, Nat.reduceLT, Nat.reduceLeDiff, Nat.reduceSub, Nat.reduceEqDiff, Nat.zero_le, Nat.sub_zero, Nat.le_refl, true_and, and_true, not_true_eq_false, not_false_eq_true, true_or, or_true, lc_eq, lc_ne, lc_lt, lc_ge, lc_gt, lc_le, nI_add, lN_add, nI_leI, nI_ltI, nI_eq, nI_clamp, pk_lLT, pk_lLE, pk_lEQ, pk_sub, vp_inT, nz_eq, nz_lt, nz_ge, nz_gt, nz_le, lz_eq, lz_lt, lz_ge, hP1, hP2, hP3, hP4, hP5, hP6, hP7, hP8, hP9, hP10, hP11, hP12, hP13, hP14, hP15, hP16, hP17, hP18, hP19, hP20, ht, hk4, w0, ts0, Int.reduceLT, or_self, or_false, false_or, or_true, true_or, Int.sub_self, Int.toNat_zero, if_true, if_false]
    show pm_W PP (d + 5) 1060 Q _ _ 28 _ _ _
    by_cases c1 : qC S.1 = 200
    · have eS : stS bits (0, 0, r1) S = none := by unfold stS; rw [if_pos rfl, if_neg (by omega)]
      simp (disch := omega) only [u_1060_28, B_1060_28, u_1060_55, B_1060_55, nI1T, Nat.left_eq_add, Nat.add_eq_left, Nat.add_eq_zero_iff, and_false, false_and, if_false, if_true, opsN, opsC, pm_1, lg, ls1, ls2, lq, List.length_cons, List.length_nil, cN, cL, callE, retV, retN, pm_pop, pm_cat, List.map_cons, List.map_nil, List.sum_cons, List.sum_nil, Value.category, Option.toList, List.cons_append, List.nil_append, ↓reduceIte, reduceCtorEq, Nat.reduceAdd, Nat.reduceLT, Nat.reduceLeDiff, Nat.reduceSub, Nat.reduceEqDiff, Nat.zero_le, Nat.sub_zero, Nat.le_refl, true_and, and_true, not_true_eq_false, not_false_eq_true, true_or, or_true, lc_eq, lc_ne, lc_lt, lc_ge, lc_gt, lc_le, nI_add, lN_add, nI_leI, nI_ltI, nI_eq, nI_clamp, pk_lLT, pk_lLE, pk_lEQ, pk_sub, vp_inT, nz_eq, nz_lt, nz_ge, nz_gt, nz_le, lz_eq, lz_lt, lz_ge, hP1, hP2, hP3, hP4, hP5, hP6, hP7, hP8, hP9, hP10, hP11, hP12, hP13, hP14, hP15, hP16, hP17, hP18, hP19, hP20, hs.1, m_g34 hs, m_t811 hs, m_n811 hs, q_came _ q1.1 q1.2.1, q1.2.2.2.1, lN_i, c1]
      exact hQ0 eS
    · by_cases c2 : qL S.1 ≤ r1
      · have eS : stS bits (0, 0, r1) S = some (qAdd bits r1 S.1, S.2.1, va_up S.2.2 (bk bits (qL S.1) r1) true) := by unfold stS; rw [if_pos rfl, if_pos ⟨c2, by omega⟩]
        simp (disch := omega) only [u_1060_28, B_1060_28, u_1060_57, B_1060_57, nI1T, Nat.left_eq_add, Nat.add_eq_left, Nat.add_eq_zero_iff, and_false, false_and, if_false, if_true, opsN, opsC, pm_1, lg, ls1, ls2, lq, List.length_cons, List.length_nil, cN, cL, callE, retV, retN, pm_pop, pm_cat, List.map_cons, List.map_nil, List.sum_cons, List.sum_nil, Value.category, Option.toList, List.cons_append, List.nil_append, ↓reduceIte, reduceCtorEq, Nat.reduceAdd, Nat.reduceLT, Nat.reduceLeDiff, Nat.reduceSub, Nat.reduceEqDiff, Nat.zero_le, Nat.sub_zero, Nat.le_refl, true_and, and_true, not_true_eq_false, not_false_eq_true, true_or, or_true, lc_eq, lc_ne, lc_lt, lc_ge, lc_gt, lc_le, nI_add, lN_add, nI_leI, nI_ltI, nI_eq, nI_clamp, pk_lLT, pk_lLE, pk_lEQ, pk_sub, vp_inT, nz_eq, nz_lt, nz_ge, nz_gt, nz_le, lz_eq, lz_lt, lz_ge, hP1, hP2, hP3, hP4, hP5, hP6, hP7, hP8, hP9, hP10, hP11, hP12, hP13, hP14, hP15, hP16, hP17, hP18, hP19, hP20, hs.1, m_g34 hs, m_t811 hs, m_n811 hs, q_came _ q1.1 q1.2.1, q1.2.2.2.1, lN_i, c1, c2, el, ht, hk4, w1, g0]
        refine c1012 (d + 2) (mU_of hs) q1 a1 q2 (by omega) c2 (by omega) (by omega) ?_
        intro h' z1 z2 z3 z4
        simp (disch := omega) only [nI1T, Nat.left_eq_add, Nat.add_eq_left, Nat.add_eq_zero_iff, and_false, false_and, if_false, if_true, opsN, opsC, pm_1, lg, ls1, ls2, lq, List.length_cons, List.length_nil, cN, cL, callE, retV, retN, pm_pop, pm_cat, List.map_cons, List.map_nil, List.sum_cons, List.sum_nil, Value.category, Option.toList, List.cons_append, List.nil_append, ↓reduceIte, reduceCtorEq, Nat.reduceAdd, Nat.reduceLT, Nat.reduceLeDiff, Nat.reduceSub, Nat.reduceEqDiff, Nat.zero_le, Nat.sub_zero, Nat.le_refl, true_and, and_true, not_true_eq_false, not_false_eq_true, true_or, or_true, lc_eq, lc_ne, lc_lt, lc_ge, lc_gt, lc_le, nI_add, lN_add, nI_leI, nI_ltI, nI_eq, nI_clamp, pk_lLT, pk_lLE, pk_lEQ, pk_sub, vp_inT, nz_eq, nz_lt, nz_ge, nz_gt, nz_le, lz_eq, lz_lt, lz_ge, hP1, hP2, hP3, hP4, hP5, hP6, hP7, hP8, hP9, hP10, hP11, hP12, hP13, hP14, hP15, hP16, hP17, hP18, hP19, hP20]
        refine hQ1 _ h' eS (mdT_q hc0 z4 ⟨_, _, z1, z2, by omega⟩ (z3 _ hU)) (frU_Q z4) (fun j _ => by rw [z4.2.2.2.2.1 m (by omega)])
      · have eS : stS bits (0, 0, r1) S = none := by unfold stS; rw [if_pos rfl, if_neg (fun z => c2 z.1)]
        simp (disch := omega) only [u_1060_28, B_1060_28, u_1060_55, B_1060_55, nI1T, Nat.left_eq_add, Nat.add_eq_left, Nat.add_eq_zero_iff, and_false, false_and, if_false, if_true, opsN, opsC, pm_1, lg, ls1, ls2, lq, List.length_cons, List.length_nil, cN, cL, callE, retV, retN, pm_pop, pm_cat, List.map_cons, List.map_nil, List.sum_cons, List.sum_nil, Value.category, Option.toList, List.cons_append, List.nil_append, ↓reduceIte, reduceCtorEq, Nat.reduceAdd, Nat.reduceLT, Nat.reduceLeDiff, Nat.reduceSub, Nat.reduceEqDiff, Nat.zero_le, Nat.sub_zero, Nat.le_refl, true_and, and_true, not_true_eq_false, not_false_eq_true, true_or, or_true, lc_eq, lc_ne, lc_lt, lc_ge, lc_gt, lc_le, nI_add, lN_add, nI_leI, nI_ltI, nI_eq, nI_clamp, pk_lLT, pk_lLE, pk_lEQ, pk_sub, vp_inT, nz_eq, nz_lt, nz_ge, nz_gt, nz_le, lz_eq, lz_lt, lz_ge, hP1, hP2, hP3, hP4, hP5, hP6, hP7, hP8, hP9, hP10, hP11, hP12, hP13, hP14, hP15, hP16, hP17, hP18, hP19, hP20, hs.1, m_g34 hs, m_t811 hs, m_n811 hs, q_came _ q1.1 q1.2.1, q1.2.2.2.1, lN_i, c1, c2, el, ht, hk4, w1, g0]
        exact hQ0 eS
  · have e : stOf (1, r1, r2, r3) = (1, r1, r2) := rfl
    rw [e] at hQ1 hQ0 hsB
    simp (disch := omega) only [u_1060_0, B_1060_0, nI1T, Nat.left_eq_add, Nat.add_eq_left, Nat.add_eq_zero_iff, and_false, false_and, if_false, if_true, opsN, opsC, pm_1, lg, ls1, ls2, lq, List.length_cons, List.length_nil, cN, cL, callE, retV, retN, pm_pop, pm_cat, List.map_cons, List.map_nil, List.sum_cons, List.sum_nil, Value.category, Option.toList, List.cons_append, List.nil_append, ↓reduceIte, reduceCtorEq, Nat.reduceAdd, Nat.reduceLT, Nat.reduceLeDiff, Nat.reduceSub, Nat.reduceEqDiff, Nat.zero_le, Nat.sub_zero, Nat.le_refl, true_and, and_true, not_true_eq_false, not_false_eq_true, true_or, or_true, lc_eq, lc_ne, lc_lt, lc_ge, lc_gt, lc_le, nI_add, lN_add, nI_leI, nI_ltI, nI_eq, nI_clamp, pk_lLT, pk_lLE, pk_lEQ, pk_sub, vp_inT, nz_eq, nz_lt, nz_ge, nz_gt, nz_le, lz_eq, lz_lt, lz_ge, hP1, hP2, hP3, hP4, hP5, hP6, hP7, hP8, hP9, hP10, hP11, hP12, hP13, hP14, hP15, hP16, hP17, hP18, hP19, hP20, ht, hk4, w0, ts1, Int.reduceLT, or_self, or_false, false_or, or_true, true_or, Int.sub_self, Int.toNat_zero, if_true, if_false]
    show pm_W PP (d + 5) 1060 Q _ _ 73 _ _ _
    simp (disch := omega) only [u_1060_73, B_1060_73, nI1T, Nat.left_eq_add, Nat.add_eq_left, Nat.add_eq_zero_iff, and_false, false_and, if_false, if_true, opsN, opsC, pm_1, lg, ls1, ls2, lq, List.length_cons, List.length_nil, cN, cL, callE, retV, retN, pm_pop, pm_cat, List.map_cons, List.map_nil, List.sum_cons, List.sum_nil, Value.category, Option.toList, List.cons_append, List.nil_append, ↓reduceIte, reduceCtorEq, Nat.reduceAdd, Nat.reduceLT, Nat.reduceLeDiff, Nat.reduceSub, Nat.reduceEqDiff, Nat.zero_le, Nat.sub_zero, Nat.le_refl, true_and, and_true, not_true_eq_false, not_false_eq_true, true_or, or_true, lc_eq, lc_ne, lc_lt, lc_ge, lc_gt, lc_le, nI_add, lN_add, nI_leI, nI_ltI, nI_eq, nI_clamp, pk_lLT, pk_lLE, pk_lEQ, pk_sub, vp_inT, nz_eq, nz_lt, nz_ge, nz_gt, nz_le, lz_eq, lz_lt, lz_ge, hP1, hP2, hP3, hP4, hP5, hP6, hP7, hP8, hP9, hP10, hP11, hP12, hP13, hP14, hP15, hP16, hP17, hP18, hP19, hP20, hs.1, m_g34 hs, m_t811 hs, m_n811 hs]
    refine c1014 (d + 2) q1 a1 ?_
    by_cases c : (qN S.1).length = 0
    · have eS : stS bits (1, r1, r2) S = none := by unfold stS; rw [if_neg (show ¬ (1 : Nat) = 0 by decide), if_pos rfl, if_pos c]
      simp (disch := omega) only [nI1T, Nat.left_eq_add, Nat.add_eq_left, Nat.add_eq_zero_iff, and_false, false_and, if_false, if_true, opsN, opsC, pm_1, lg, ls1, ls2, lq, List.length_cons, List.length_nil, cN, cL, callE, retV, retN, pm_pop, pm_cat, List.map_cons, List.map_nil, List.sum_cons, List.sum_nil, Value.category, Option.toList, List.cons_append, List.nil_append, ↓reduceIte, reduceCtorEq, Nat.reduceAdd, Nat.reduceLT, Nat.reduceLeDiff, Nat.reduceSub, Nat.reduceEqDiff, Nat.zero_le, Nat.sub_zero, Nat.le_refl, true_and, and_true, not_true_eq_false, not_false_eq_true, true_or, or_true, lc_eq, lc_ne, lc_lt, lc_ge, lc_gt, lc_le, nI_add, lN_add, nI_leI, nI_ltI, nI_eq, nI_clamp, pk_lLT, pk_lLE, pk_lEQ, pk_sub, vp_inT, nz_eq, nz_lt, nz_ge, nz_gt, nz_le, lz_eq, lz_lt, lz_ge, hP1, hP2, hP3, hP4, hP5, hP6, hP7, hP8, hP9, hP10, hP11, hP12, hP13, hP14, hP15, hP16, hP17, hP18, hP19, hP20, c]
      exact hQ0 eS
    · have hne : qN S.1 ≠ [] := fun z => c (by rw [z]; rfl)
      have eS : stS bits (1, r1, r2) S = some (qTake bits S.1, S.2.1 ++ [qTop bits S.1], rdyU bits S.1 S.2.2) := by unfold stS; rw [if_neg (show ¬ (1 : Nat) = 0 by decide), if_pos rfl, if_neg c]
      simp (disch := omega) only [u_1060_85, B_1060_85, nI1T, Nat.left_eq_add, Nat.add_eq_left, Nat.add_eq_zero_iff, and_false, false_and, if_false, if_true, opsN, opsC, pm_1, lg, ls1, ls2, lq, List.length_cons, List.length_nil, cN, cL, callE, retV, retN, pm_pop, pm_cat, List.map_cons, List.map_nil, List.sum_cons, List.sum_nil, Value.category, Option.toList, List.cons_append, List.nil_append, ↓reduceIte, reduceCtorEq, Nat.reduceAdd, Nat.reduceLT, Nat.reduceLeDiff, Nat.reduceSub, Nat.reduceEqDiff, Nat.zero_le, Nat.sub_zero, Nat.le_refl, true_and, and_true, not_true_eq_false, not_false_eq_true, true_or, or_true, lc_eq, lc_ne, lc_lt, lc_ge, lc_gt, lc_le, nI_add, lN_add, nI_leI, nI_ltI, nI_eq, nI_clamp, pk_lLT, pk_lLE, pk_lEQ, pk_sub, vp_inT, nz_eq, nz_lt, nz_ge, nz_gt, nz_le, lz_eq, lz_lt, lz_ge, hP1, hP2, hP3, hP4, hP5, hP6, hP7, hP8, hP9, hP10, hP11, hP12, hP13, hP14, hP15, hP16, hP17, hP18, hP19, hP20, hs.1, m_g34 hs, m_t811 hs, m_n811 hs, m_g35 hs, m_t812 hs, m_n812 hs, c, g2]
      refine c1018 d (mU_of hs) q1 a1 q2 hne (by omega) ?_
      intro h' sn' st' z1 z2 z3 z4 z5
      have hc1 := mdT_q hc0 z5 ⟨sn', st', z1, z2, Nat.le_refl _⟩ (z4 _ hU)
      have hs1 := mS_U (frU_Q z5) hs
      obtain ⟨_, wU, wg2, wg3⟩ := id hc1
      have lt : S.2.1.length < 200 := by omega
      have lt4 : S.2.1.length < 400 := by omega
      have wg2 : hI h' m 38 = nI S.2.1.length := wg2
      simp (disch := omega) only [nI1T, Nat.left_eq_add, Nat.add_eq_left, Nat.add_eq_zero_iff, and_false, false_and, if_false, if_true, opsN, opsC, pm_1, lg, ls1, ls2, lq, List.length_cons, List.length_nil, cN, cL, callE, retV, retN, pm_pop, pm_cat, List.map_cons, List.map_nil, List.sum_cons, List.sum_nil, Value.category, Option.toList, List.cons_append, List.nil_append, ↓reduceIte, reduceCtorEq, Nat.reduceAdd, Nat.reduceLT, Nat.reduceLeDiff, Nat.reduceSub, Nat.reduceEqDiff, Nat.zero_le, Nat.sub_zero, Nat.le_refl, true_and, and_true, not_true_eq_false, not_false_eq_true, true_or, or_true, lc_eq, lc_ne, lc_lt, lc_ge, lc_gt, lc_le, nI_add, lN_add, nI_leI, nI_ltI, nI_eq, nI_clamp, pk_lLT, pk_lLE, pk_lEQ, pk_sub, vp_inT, nz_eq, nz_lt, nz_ge, nz_gt, nz_le, lz_eq, lz_lt, lz_ge, hP1, hP2, hP3, hP4, hP5, hP6, hP7, hP8, hP9, hP10, hP11, hP12, hP13, hP14, hP15, hP16, hP17, hP18, hP19, hP20, hs1.1, m_g34 hs1, m_t811 hs1, m_n811 hs1, m_g35 hs1, m_t812 hs1, m_n812 hs1, wg2, lt4, va_upE]
      have fA : frU m h' (sI (sI h' (m + 812) (va_up (hI h' (m + 812)) S.2.1.length (nI (qTop bits S.1)))) m (va_up (hI h' m) 38 (nI (S.2.1.length + 1)))) := by
        have a := frU_t (m := m) (h := h') (g := va_up (hI h' (m + 812)) S.2.1.length (nI (qTop bits S.1)))
        have b := frU_f (m := m) (j := 38) (h := sI h' (m + 812) (va_up (hI h' (m + 812)) S.2.1.length (nI (qTop bits S.1)))) (v := nI (S.2.1.length + 1)) (by omega)
        rw [show hI (sI h' (m + 812) (va_up (hI h' (m + 812)) S.2.1.length (nI (qTop bits S.1)))) m = hI h' m by rw [hP1, va_up_ne _ _ (by omega)]] at b
        exact frU_trans a b
      refine hQ1 _ _ eS ⟨⟨sn', st', isQ_eq (h := h') rfl rfl rfl z1, z2, by omega⟩, fun j hj => ?_, ?_, fun j hj => ?_⟩ (frU_trans (frU_Q z5) fA) (fun j hj => ?_)
      · rw [hP1, va_up_ne _ _ (by omega), hP1, va_up_ne _ _ (by omega)]; exact wU j hj
      · rw [hI_at, va_up_self]; show _ = nI (S.2.1 ++ [_]).length; rw [List.length_append]; rfl
      · rw [hP1, va_up_ne _ _ (by omega), hI_at]
        exact app_row (L := S.2.1) (y := qTop bits S.1) (dd := 0) (π := fun e => e) (fun i hi => wg3 i hi) j hj
      · rw [hI_at, va_up_ne _ _ hj, z5.2.2.2.2.1 m (by omega)]
  · have e : stOf (2, r1, r2, r3) = (2, r1, r2) := rfl
    rw [e] at hQ1 hQ0 hsB
    have b2 : r1 < 200 := hsB.2.1
    have b3 : r2 ≤ 1000000000 := hsB.2.2
    have el : (nI r2).toInt64 = lN r2 := nI_l (by omega)
    have q1l := a1.2.2.2.2.1
    simp (disch := omega) only [u_1060_0, B_1060_0, nI1T, Nat.left_eq_add, Nat.add_eq_left, Nat.add_eq_zero_iff, and_false, false_and, if_false, if_true, opsN, opsC, pm_1, lg, ls1, ls2, lq, List.length_cons, List.length_nil, cN, cL, callE, retV, retN, pm_pop, pm_cat, List.map_cons, List.map_nil, List.sum_cons, List.sum_nil, Value.category, Option.toList, List.cons_append, List.nil_append, ↓reduceIte, reduceCtorEq, Nat.reduceAdd, Nat.reduceLT, Nat.reduceLeDiff, Nat.reduceSub, Nat.reduceEqDiff, Nat.zero_le, Nat.sub_zero, Nat.le_refl, true_and, and_true, not_true_eq_false, not_false_eq_true, true_or, or_true, lc_eq, lc_ne, lc_lt, lc_ge, lc_gt, lc_le, nI_add, lN_add, nI_leI, nI_ltI, nI_eq, nI_clamp, pk_lLT, pk_lLE, pk_lEQ, pk_sub, vp_inT, nz_eq, nz_lt, nz_ge, nz_gt, nz_le, lz_eq, lz_lt, lz_ge, hP1, hP2, hP3, hP4, hP5, hP6, hP7, hP8, hP9, hP10, hP11, hP12, hP13, hP14, hP15, hP16, hP17, hP18, hP19, hP20, ht, hk4, w0, ts2, Int.reduceLT, or_self, or_false, false_or, or_true, true_or, Int.sub_self, Int.toNat_zero, if_true, if_false]
    show pm_W PP (d + 5) 1060 Q _ _ 115 _ _ _
    simp (disch := omega) only [u_1060_115, B_1060_115, nI1T, Nat.left_eq_add, Nat.add_eq_left, Nat.add_eq_zero_iff, and_false, false_and, if_false, if_true, opsN, opsC, pm_1, lg, ls1, ls2, lq, List.length_cons, List.length_nil, cN, cL, callE, retV, retN, pm_pop, pm_cat, List.map_cons, List.map_nil, List.sum_cons, List.sum_nil, Value.category, Option.toList, List.cons_append, List.nil_append, ↓reduceIte, reduceCtorEq, Nat.reduceAdd, Nat.reduceLT, Nat.reduceLeDiff, Nat.reduceSub, Nat.reduceEqDiff, Nat.zero_le, Nat.sub_zero, Nat.le_refl, true_and, and_true, not_true_eq_false, not_false_eq_true, true_or, or_true, lc_eq, lc_ne, lc_lt, lc_ge, lc_gt, lc_le, nI_add, lN_add, nI_leI, nI_ltI, nI_eq, nI_clamp, pk_lLT, pk_lLE, pk_lEQ, pk_sub, vp_inT, nz_eq, nz_lt, nz_ge, nz_gt, nz_le, lz_eq, lz_lt, lz_ge, hP1, hP2, hP3, hP4, hP5, hP6, hP7, hP8, hP9, hP10, hP11, hP12, hP13, hP14, hP15, hP16, hP17, hP18, hP19, hP20, hs.1, m_g34 hs, m_t811 hs, m_n811 hs, ht, hk4, w1]
    rw [q_wait _ q1 a1 (by omega)]
    by_cases c : r1 ∈ qN S.1
    · rw [if_pos c]
      obtain ⟨y1, y2, y3⟩ := qI_line a1 r1 c
      have kb := a1.2.2.2.2.2.1 r1 y1
      have gk := q1.2.2.2.2.2.1 r1 y1
      by_cases c2 : qL S.1 ≤ r2
      · have c2' : ¬ r2 < qL S.1 := by omega
        by_cases c3 : r2 ≤ qK S.1 r1
        · have eS : stS bits (2, r1, r2) S = some (qLow bits r1 r2 S.1, S.2.1, if bk bits (qL S.1) r2 = qW S.1 r1 then S.2.2 else va_up S.2.2 (bk bits (qL S.1) r2) true) := by unfold stS; rw [if_neg (show ¬ (2 : Nat) = 0 by decide), if_neg (show ¬ (2 : Nat) = 1 by decide), if_pos rfl, if_pos ⟨c, c2, c3⟩]
          simp (disch := omega) only [u_1060_163, B_1060_163, nI1T, Nat.left_eq_add, Nat.add_eq_left, Nat.add_eq_zero_iff, and_false, false_and, if_false, if_true, opsN, opsC, pm_1, lg, ls1, ls2, lq, List.length_cons, List.length_nil, cN, cL, callE, retV, retN, pm_pop, pm_cat, List.map_cons, List.map_nil, List.sum_cons, List.sum_nil, Value.category, Option.toList, List.cons_append, List.nil_append, ↓reduceIte, reduceCtorEq, Nat.reduceAdd, Nat.reduceLT, Nat.reduceLeDiff, Nat.reduceSub, Nat.reduceEqDiff, Nat.zero_le, Nat.sub_zero, Nat.le_refl, true_and, and_true, not_true_eq_false, not_false_eq_true, true_or, or_true, lc_eq, lc_ne, lc_lt, lc_ge, lc_gt, lc_le, nI_add, lN_add, nI_leI, nI_ltI, nI_eq, nI_clamp, pk_lLT, pk_lLE, pk_lEQ, pk_sub, vp_inT, nz_eq, nz_lt, nz_ge, nz_gt, nz_le, lz_eq, lz_lt, lz_ge, hP1, hP2, hP3, hP4, hP5, hP6, hP7, hP8, hP9, hP10, hP11, hP12, hP13, hP14, hP15, hP16, hP17, hP18, hP19, hP20, hs.1, m_g34 hs, m_t811 hs, m_n811 hs, ht, hk4, w1, w2, el, g0, c2', q_of _ q1.1 q1.2.1, gk, c3]
          refine c1019 (d + 1) (mU_of hs) q1 a1 q2 c (by omega) c2 (by omega) ?_
          intro h' sn' st' z1 z2 z3 z4 z5
          simp (disch := omega) only [nI1T, Nat.left_eq_add, Nat.add_eq_left, Nat.add_eq_zero_iff, and_false, false_and, if_false, if_true, opsN, opsC, pm_1, lg, ls1, ls2, lq, List.length_cons, List.length_nil, cN, cL, callE, retV, retN, pm_pop, pm_cat, List.map_cons, List.map_nil, List.sum_cons, List.sum_nil, Value.category, Option.toList, List.cons_append, List.nil_append, ↓reduceIte, reduceCtorEq, Nat.reduceAdd, Nat.reduceLT, Nat.reduceLeDiff, Nat.reduceSub, Nat.reduceEqDiff, Nat.zero_le, Nat.sub_zero, Nat.le_refl, true_and, and_true, not_true_eq_false, not_false_eq_true, true_or, or_true, lc_eq, lc_ne, lc_lt, lc_ge, lc_gt, lc_le, nI_add, lN_add, nI_leI, nI_ltI, nI_eq, nI_clamp, pk_lLT, pk_lLE, pk_lEQ, pk_sub, vp_inT, nz_eq, nz_lt, nz_ge, nz_gt, nz_le, lz_eq, lz_lt, lz_ge, hP1, hP2, hP3, hP4, hP5, hP6, hP7, hP8, hP9, hP10, hP11, hP12, hP13, hP14, hP15, hP16, hP17, hP18, hP19, hP20]
          exact hQ1 _ h' eS (mdT_q hc0 z5 ⟨_, _, z1, z2, by omega⟩ (z4 _ hU)) (frU_Q z5) (fun j _ => by rw [z5.2.2.2.2.1 m (by omega)])
        · have eS : stS bits (2, r1, r2) S = none := by unfold stS; rw [if_neg (show ¬ (2 : Nat) = 0 by decide), if_neg (show ¬ (2 : Nat) = 1 by decide), if_pos rfl, if_neg (fun z => c3 z.2.2)]
          simp (disch := omega) only [u_1060_161, B_1060_161, nI1T, Nat.left_eq_add, Nat.add_eq_left, Nat.add_eq_zero_iff, and_false, false_and, if_false, if_true, opsN, opsC, pm_1, lg, ls1, ls2, lq, List.length_cons, List.length_nil, cN, cL, callE, retV, retN, pm_pop, pm_cat, List.map_cons, List.map_nil, List.sum_cons, List.sum_nil, Value.category, Option.toList, List.cons_append, List.nil_append, ↓reduceIte, reduceCtorEq, Nat.reduceAdd, Nat.reduceLT, Nat.reduceLeDiff, Nat.reduceSub, Nat.reduceEqDiff, Nat.zero_le, Nat.sub_zero, Nat.le_refl, true_and, and_true, not_true_eq_false, not_false_eq_true, true_or, or_true, lc_eq, lc_ne, lc_lt, lc_ge, lc_gt, lc_le, nI_add, lN_add, nI_leI, nI_ltI, nI_eq, nI_clamp, pk_lLT, pk_lLE, pk_lEQ, pk_sub, vp_inT, nz_eq, nz_lt, nz_ge, nz_gt, nz_le, lz_eq, lz_lt, lz_ge, hP1, hP2, hP3, hP4, hP5, hP6, hP7, hP8, hP9, hP10, hP11, hP12, hP13, hP14, hP15, hP16, hP17, hP18, hP19, hP20, hs.1, m_g34 hs, m_t811 hs, m_n811 hs, ht, hk4, w1, w2, el, g0, c2', q_of _ q1.1 q1.2.1, gk, c3]
          exact hQ0 eS
      · have c2' : r2 < qL S.1 := by omega
        have eS : stS bits (2, r1, r2) S = none := by unfold stS; rw [if_neg (show ¬ (2 : Nat) = 0 by decide), if_neg (show ¬ (2 : Nat) = 1 by decide), if_pos rfl, if_neg (fun z => c2 z.2.1)]
        simp (disch := omega) only [u_1060_161, B_1060_161, nI1T, Nat.left_eq_add, Nat.add_eq_left, Nat.add_eq_zero_iff, and_false, false_and, if_false, if_true, opsN, opsC, pm_1, lg, ls1, ls2, lq, List.length_cons, List.length_nil, cN, cL, callE, retV, retN, pm_pop, pm_cat, List.map_cons, List.map_nil, List.sum_cons, List.sum_nil, Value.category, Option.toList, List.cons_append, List.nil_append, ↓reduceIte, reduceCtorEq, Nat.reduceAdd, Nat.reduceLT, Nat.reduceLeDiff, Nat.reduceSub, Nat.reduceEqDiff, Nat.zero_le, Nat.sub_zero, Nat.le_refl, true_and, and_true, not_true_eq_false, not_false_eq_true, true_or, or_true, lc_eq, lc_ne, lc_lt, lc_ge, lc_gt, lc_le, nI_add, lN_add, nI_leI, nI_ltI, nI_eq, nI_clamp, pk_lLT, pk_lLE, pk_lEQ, pk_sub, vp_inT, nz_eq, nz_lt, nz_ge, nz_gt, nz_le, lz_eq, lz_lt, lz_ge, hP1, hP2, hP3, hP4, hP5, hP6, hP7, hP8, hP9, hP10, hP11, hP12, hP13, hP14, hP15, hP16, hP17, hP18, hP19, hP20, hs.1, m_g34 hs, m_t811 hs, m_n811 hs, ht, hk4, w1, w2, el, g0, c2']
        exact hQ0 eS
    · rw [if_neg c]
      have eS : stS bits (2, r1, r2) S = none := by unfold stS; rw [if_neg (show ¬ (2 : Nat) = 0 by decide), if_neg (show ¬ (2 : Nat) = 1 by decide), if_pos rfl, if_neg (fun z => c z.1)]
      simp (disch := omega) only [u_1060_161, B_1060_161, nI1T, Nat.left_eq_add, Nat.add_eq_left, Nat.add_eq_zero_iff, and_false, false_and, if_false, if_true, opsN, opsC, pm_1, lg, ls1, ls2, lq, List.length_cons, List.length_nil, cN, cL, callE, retV, retN, pm_pop, pm_cat, List.map_cons, List.map_nil, List.sum_cons, List.sum_nil, Value.category, Option.toList, List.cons_append, List.nil_append, ↓reduceIte, reduceCtorEq, Nat.reduceAdd, Nat.reduceLT, Nat.reduceLeDiff, Nat.reduceSub, Nat.reduceEqDiff, Nat.zero_le, Nat.sub_zero, Nat.le_refl, true_and, and_true, not_true_eq_false, not_false_eq_true, true_or, or_true, lc_eq, lc_ne, lc_lt, lc_ge, lc_gt, lc_le, nI_add, lN_add, nI_leI, nI_ltI, nI_eq, nI_clamp, pk_lLT, pk_lLE, pk_lEQ, pk_sub, vp_inT, nz_eq, nz_lt, nz_ge, nz_gt, nz_le, lz_eq, lz_lt, lz_ge, hP1, hP2, hP3, hP4, hP5, hP6, hP7, hP8, hP9, hP10, hP11, hP12, hP13, hP14, hP15, hP16, hP17, hP18, hP19, hP20]
      exact hQ0 eS
  · have e : stOf (3, r1, r2, r3) = (3, r1, r2) := rfl
    rw [e] at hQ1 hQ0 hsB
    have b2 : r1 < 200 := hsB.2.1
    simp (disch := omega) only [u_1060_0, B_1060_0, nI1T, Nat.left_eq_add, Nat.add_eq_left, Nat.add_eq_zero_iff, and_false, false_and, if_false, if_true, opsN, opsC, pm_1, lg, ls1, ls2, lq, List.length_cons, List.length_nil, cN, cL, callE, retV, retN, pm_pop, pm_cat, List.map_cons, List.map_nil, List.sum_cons, List.sum_nil, Value.category, Option.toList, List.cons_append, List.nil_append, ↓reduceIte, reduceCtorEq, Nat.reduceAdd, Nat.reduceLT, Nat.reduceLeDiff, Nat.reduceSub, Nat.reduceEqDiff, Nat.zero_le, Nat.sub_zero, Nat.le_refl, true_and, and_true, not_true_eq_false, not_false_eq_true, true_or, or_true, lc_eq, lc_ne, lc_lt, lc_ge, lc_gt, lc_le, nI_add, lN_add, nI_leI, nI_ltI, nI_eq, nI_clamp, pk_lLT, pk_lLE, pk_lEQ, pk_sub, vp_inT, nz_eq, nz_lt, nz_ge, nz_gt, nz_le, lz_eq, lz_lt, lz_ge, hP1, hP2, hP3, hP4, hP5, hP6, hP7, hP8, hP9, hP10, hP11, hP12, hP13, hP14, hP15, hP16, hP17, hP18, hP19, hP20, ht, hk4, w0, ts3, Int.reduceLT, or_self, or_false, false_or, or_true, true_or, Int.sub_self, Int.toNat_zero, if_true, if_false]
    show pm_W PP (d + 5) 1060 Q _ _ 181 _ _ _
    simp (disch := omega) only [u_1060_181, B_1060_181, nI1T, Nat.left_eq_add, Nat.add_eq_left, Nat.add_eq_zero_iff, and_false, false_and, if_false, if_true, opsN, opsC, pm_1, lg, ls1, ls2, lq, List.length_cons, List.length_nil, cN, cL, callE, retV, retN, pm_pop, pm_cat, List.map_cons, List.map_nil, List.sum_cons, List.sum_nil, Value.category, Option.toList, List.cons_append, List.nil_append, ↓reduceIte, reduceCtorEq, Nat.reduceAdd, Nat.reduceLT, Nat.reduceLeDiff, Nat.reduceSub, Nat.reduceEqDiff, Nat.zero_le, Nat.sub_zero, Nat.le_refl, true_and, and_true, not_true_eq_false, not_false_eq_true, true_or, or_true, lc_eq, lc_ne, lc_lt, lc_ge, lc_gt, lc_le, nI_add, lN_add, nI_leI, nI_ltI, nI_eq, nI_clamp, pk_lLT, pk_lLE, pk_lEQ, pk_sub, vp_inT, nz_eq, nz_lt, nz_ge, nz_gt, nz_le, lz_eq, lz_lt, lz_ge, hP1, hP2, hP3, hP4, hP5, hP6, hP7, hP8, hP9, hP10, hP11, hP12, hP13, hP14, hP15, hP16, hP17, hP18, hP19, hP20, hs.1, m_g34 hs, m_t811 hs, m_n811 hs, ht, hk4, w1]
    rw [q_wait _ q1 a1 (by omega)]
    by_cases c : r1 ∈ qN S.1
    · rw [if_pos c]
      obtain ⟨y1, y2, y3⟩ := qI_line a1 r1 c
      have eS : stS bits (3, r1, r2) S = some (qCast r1 S.1, S.2.1, S.2.2) := by unfold stS; rw [if_neg (show ¬ (3 : Nat) = 0 by decide), if_neg (show ¬ (3 : Nat) = 1 by decide), if_neg (show ¬ (3 : Nat) = 2 by decide), if_pos c]
      simp (disch := omega) only [u_1060_196, B_1060_196, nI1T, Nat.left_eq_add, Nat.add_eq_left, Nat.add_eq_zero_iff, and_false, false_and, if_false, if_true, opsN, opsC, pm_1, lg, ls1, ls2, lq, List.length_cons, List.length_nil, cN, cL, callE, retV, retN, pm_pop, pm_cat, List.map_cons, List.map_nil, List.sum_cons, List.sum_nil, Value.category, Option.toList, List.cons_append, List.nil_append, ↓reduceIte, reduceCtorEq, Nat.reduceAdd, Nat.reduceLT, Nat.reduceLeDiff, Nat.reduceSub, Nat.reduceEqDiff, Nat.zero_le, Nat.sub_zero, Nat.le_refl, true_and, and_true, not_true_eq_false, not_false_eq_true, true_or, or_true, lc_eq, lc_ne, lc_lt, lc_ge, lc_gt, lc_le, nI_add, lN_add, nI_leI, nI_ltI, nI_eq, nI_clamp, pk_lLT, pk_lLE, pk_lEQ, pk_sub, vp_inT, nz_eq, nz_lt, nz_ge, nz_gt, nz_le, lz_eq, lz_lt, lz_ge, hP1, hP2, hP3, hP4, hP5, hP6, hP7, hP8, hP9, hP10, hP11, hP12, hP13, hP14, hP15, hP16, hP17, hP18, hP19, hP20, hs.1, m_g34 hs, m_t811 hs, m_n811 hs, ht, hk4, w1, q_sets _ q1.1 q1.2.1]
      have hq4 := q_setS (i := r1) (v := 2) (L := (qN S.1).erase r1) q1
      have hf4 : frQ (m + 811) (m + 26) h (sL h (m + 811) (va_up (hL h (m + 811)) (3 + 5 * r1 + 4) (lN 2))) := frQ_sL (frQ_refl _ _ _)
      exact hQ1 _ _ eS (mdT_q (A' := qCast r1 S.1) hc0 hf4 ⟨_, _, hq4, qT_cast q2, by omega⟩ hU) (frU_Q hf4) (fun j _ => rfl)
    · rw [if_neg c]
      have eS : stS bits (3, r1, r2) S = none := by unfold stS; rw [if_neg (show ¬ (3 : Nat) = 0 by decide), if_neg (show ¬ (3 : Nat) = 1 by decide), if_neg (show ¬ (3 : Nat) = 2 by decide), if_neg c]
      simp (disch := omega) only [nI1T, Nat.left_eq_add, Nat.add_eq_left, Nat.add_eq_zero_iff, and_false, false_and, if_false, if_true, opsN, opsC, pm_1, lg, ls1, ls2, lq, List.length_cons, List.length_nil, cN, cL, callE, retV, retN, pm_pop, pm_cat, List.map_cons, List.map_nil, List.sum_cons, List.sum_nil, Value.category, Option.toList, List.cons_append, List.nil_append, ↓reduceIte, reduceCtorEq, Nat.reduceAdd, Nat.reduceLT, Nat.reduceLeDiff, Nat.reduceSub, Nat.reduceEqDiff, Nat.zero_le, Nat.sub_zero, Nat.le_refl, true_and, and_true, not_true_eq_false, not_false_eq_true, true_or, or_true, lc_eq, lc_ne, lc_lt, lc_ge, lc_gt, lc_le, nI_add, lN_add, nI_leI, nI_ltI, nI_eq, nI_clamp, pk_lLT, pk_lLE, pk_lEQ, pk_sub, vp_inT, nz_eq, nz_lt, nz_ge, nz_gt, nz_le, lz_eq, lz_lt, lz_ge, hP1, hP2, hP3, hP4, hP5, hP6, hP7, hP8, hP9, hP10, hP11, hP12, hP13, hP14, hP15, hP16, hP17, hP18, hP19, hP20]
      exact hQ0 eS
end RV
