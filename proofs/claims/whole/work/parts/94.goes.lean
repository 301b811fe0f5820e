/-! ===== the reference's goes ===== -/
def gR (bits : Nat) : List St → RS × Nat → RS × Nat
  | [], X => X
  | s :: U, X => if X.2 < 400 then gR bits U (doS bits s X.1, X.2 + 1) else X
theorem gR_full {bits : Nat} : ∀ (U : List St) (X : RS × Nat), ¬ X.2 < 400 → gR bits U X = X
  | [], _, _ => rfl
  | s :: U, X, h => by unfold gR; rw [if_neg h]
theorem gR_app {bits : Nat} : ∀ (U V : List St) (X : RS × Nat), gR bits (U ++ V) X = gR bits V (gR bits U X)
  | [], V, X => rfl
  | s :: U, V, X => by
    show (if X.2 < 400 then gR bits (U ++ V) (doS bits s X.1, X.2 + 1) else X) = gR bits V (if X.2 < 400 then gR bits U (doS bits s X.1, X.2 + 1) else X)
    by_cases c : X.2 < 400
    · rw [if_pos c, if_pos c]; exact gR_app U V _
    · rw [if_neg c, if_neg c]; exact (gR_full V X c).symm
theorem gR_run {bits : Nat} : ∀ (U : List St) (S : RS) (n : Nat), n ≤ 400 → gR bits U (S, n) = (runS bits (U.take (400 - n)) S, min 400 (n + U.length))
  | [], S, n, h => by show (S, n) = _; rw [List.take_nil]; show (S, n) = (S, min 400 (n + 0)); rw [show min 400 (n + 0) = n by omega]
  | s :: U, S, n, h => by
    unfold gR
    by_cases c : n < 400
    · rw [if_pos c, gR_run U _ (n + 1) (by omega), show 400 - n = (400 - (n + 1)) + 1 by omega, List.take_succ_cons, List.length_cons, show n + 1 + U.length = n + (U.length + 1) by omega]
      rfl
    · rw [if_neg c, show 400 - n = 0 by omega, show min 400 (n + (s :: U).length) = n by omega]; rfl
/-- the reference's rows hold X -/
def gM (h : pm_H) (m bits : Nat) (X : RS × Nat) : Prop := mS h m ∧ mdT h m X.1.1 (300 * X.2) ∧ rtI bits X.1.1 X.2 ∧ hI h m 36 = nI X.2 ∧ hI h m 37 = nI X.1.2 ∧ X.2 ≤ 400
def rwA (h : pm_H) (m W : Nat) (R : Nat → Pw) : Prop := ∀ j, j < W → rwIs h (m + 28 + j) (R j)
theorem rwA_U {h h' : pm_H} {m W : Nat} {R : Nat → Pw} (hW : W ≤ 300) (f : frU m h h') (a : rwA h m W R) : rwA h' m W R := fun j hj => by
  unfold rwIs; rw [f.2.2.2.2.2.1 _ (by omega) (by omega) (by omega)]; exact a j hj
def goP (m bits W : Nat) (R : Nat → Pw) (i t : Nat) (U : List St) : Prop := i ≤ t ∧ (t ≤ W → ∀ (d : Nat) (h : pm_H) (Q : pm_Q) (X : RS × Nat) (v1 : Int32) (v5 : Option Value), t - i ≤ d → rwA h m W R → gM h m bits X →
  (∀ h', gM h' m bits (gR bits U X) → frU m h h' → Q (.inl none) h') → pm_W PP (d + 8) 1061 Q 0 0 3 [some (.ref m), some (.int v1), some (.int (nI t)), some (.int (nI bits)), some (.int (nI i)), v5] [] h)
section RW
variable {m bits W : Nat} {R : Nat → Pw}
theorem go_nil (i : Nat) (hW : W ≤ 300) : goP m bits W R i i [] := by
  refine ⟨Nat.le_refl _, fun ht d h Q X v1 v5 hd hr hg hQ => ?_⟩
  have c1 : i ≤ i := Nat.le_refl _
  rw [u_1061_3]
  simp (disch := omega) only [B_1061_3, u_1061_128, B_1061_128, nI1T, Nat.left_eq_add, Nat.add_eq_left, Nat.add_eq_zero_iff, and_false, false_and, if_false, if_true, opsN, opsC, pm_1, lg, ls1, ls2, lq, List.length_cons, List.length_nil, cN, cL, callE, retV, retN, pm_pop, pm_cat, List.map_cons, List.map_nil, List.sum_cons, List.sum_nil, Value.category, Option.toList, List.cons_append, List.nil_append, ↓reduceIte, reduceCtorEq, Nat.reduceAdd, Nat.reduceLT, Nat.reduceLeDiff, Nat.reduceSub, Nat.reduceEqDiff, Nat.zero_le, Nat.sub_zero, Nat.le_refl, true_and, and_true, not_true_eq_false, not_false_eq_true, true_or, or_true, lc_eq, lc_ne, lc_lt, lc_ge, lc_gt, lc_le, nI_add, lN_add, nI_leI, nI_ltI, nI_eq, nI_clamp, pk_lLT, pk_lLE, pk_lEQ, pk_sub, vp_inT, nz_eq, nz_lt, nz_ge, nz_gt, nz_le, lz_eq, lz_lt, lz_ge, hP1, hP2, hP3, hP4, hP5, hP6, hP7, hP8, hP9, hP10, hP11, hP12, hP13, hP14, hP15, hP16, hP17, hP18, hP19, hP20, c1]
  exact hQ h hg (frU_refl _ _)
theorem go_full {i t : Nat} {U : List St} (hW : W ≤ 300) (hit : i < t) (ht : t ≤ W) (d : Nat) (h : pm_H) (Q : pm_Q) (X : RS × Nat) (v1 : Int32) (v5 : Option Value) (hg : gM h m bits X) (c : ¬ X.2 < 400)
    (hQ : ∀ h', gM h' m bits (gR bits U X) → frU m h h' → Q (.inl none) h') : pm_W PP (d + 8) 1061 Q 0 0 3 [some (.ref m), some (.int v1), some (.int (nI t)), some (.int (nI bits)), some (.int (nI i)), v5] [] h := by
  have c1 : ¬ t ≤ i := by omega
  obtain ⟨hs, g1, g2, g3, g4, g5⟩ := id hg
  have c2 : X.2 = 400 := by omega
  rw [c2] at g3
  rw [u_1061_3]
  simp (disch := omega) only [B_1061_3, u_1061_128, B_1061_128, nI1T, Nat.left_eq_add, Nat.add_eq_left, Nat.add_eq_zero_iff, and_false, false_and, if_false, if_true, opsN, opsC, pm_1, lg, ls1, ls2, lq, List.length_cons, List.length_nil, cN, cL, callE, retV, retN, pm_pop, pm_cat, List.map_cons, List.map_nil, List.sum_cons, List.sum_nil, Value.category, Option.toList, List.cons_append, List.nil_append, ↓reduceIte, reduceCtorEq, Nat.reduceAdd, Nat.reduceLT, Nat.reduceLeDiff, Nat.reduceSub, Nat.reduceEqDiff, Nat.zero_le, Nat.sub_zero, Nat.le_refl, true_and, and_true, not_true_eq_false, not_false_eq_true, true_or, or_true, lc_eq, lc_ne, lc_lt, lc_ge, lc_gt, lc_le, nI_add, lN_add, nI_leI, nI_ltI, nI_eq, nI_clamp, pk_lLT, pk_lLE, pk_lEQ, pk_sub, vp_inT, nz_eq, nz_lt, nz_ge, nz_gt, nz_le, lz_eq, lz_lt, lz_ge, hP1, hP2, hP3, hP4, hP5, hP6, hP7, hP8, hP9, hP10, hP11, hP12, hP13, hP14, hP15, hP16, hP17, hP18, hP19, hP20, c1, hs.1, g3]
  exact hQ h (by rw [gR_full U X c]; exact hg) (frU_refl _ _)
theorem go_step {i t : Nat} {U : List St} (hW : W ≤ 300) (h4 : (R i).1 < 4) (hB : stB (stOf (R i))) (ih : goP m bits W R (i + 1) t U) : goP m bits W R i t (stOf (R i) :: U) := by
  have hle : i + 1 ≤ t := ih.1
  refine ⟨by omega, fun ht d h Q X v1 v5 hd hr hg hQ => ?_⟩
  by_cases c : X.2 < 400
  · obtain ⟨hs, g1, g2, g3, g4, g5⟩ := id hg
    have c1 : ¬ t ≤ i := by omega
    have c2 : ¬ 400 ≤ X.2 := by omega
    have w := hr i (by omega)
    have w0 := w.1
    have e4 : ¬ (R i).1 = 4 := by omega
    have eG : gR bits (stOf (R i) :: U) X = gR bits U (doS bits (stOf (R i)) X.1, X.2 + 1) := by
      show (if X.2 < 400 then _ else _) = _; rw [if_pos c]
    rw [eG] at hQ
    have hD := doS_I g2 hB
    rw [u_1061_3]
    simp (disch := omega) only [B_1061_3, nI1T, Nat.left_eq_add, Nat.add_eq_left, Nat.add_eq_zero_iff, and_false, false_and, if_false, if_true, opsN, opsC, pm_1, lg, ls1, ls2, lq, List.length_cons, List.length_nil, cN, cL, callE, retV, retN, pm_pop, pm_cat, List.map_cons, List.map_nil, List.sum_cons, List.sum_nil, Value.category, Option.toList, List.cons_append, List.nil_append, ↓reduceIte, reduceCtorEq, Nat.reduceAdd, Nat.reduceLT, Nat.reduceLeDiff, Nat.reduceSub, Nat.reduceEqDiff, Nat.zero_le, Nat.sub_zero, Nat.le_refl, true_and, and_true, not_true_eq_false, not_false_eq_true, true_or, or_true, lc_eq, lc_ne, lc_lt, lc_ge, lc_gt, lc_le, nI_add, lN_add, nI_leI, nI_ltI, nI_eq, nI_clamp, pk_lLT, pk_lLE, pk_lEQ, pk_sub, vp_inT, nz_eq, nz_lt, nz_ge, nz_gt, nz_le, lz_eq, lz_lt, lz_ge, hP1, hP2, hP3, hP4, hP5, hP6, hP7, hP8, hP9, hP10, hP11, hP12, hP13, hP14, hP15, hP16, hP17, hP18, hP19, hP20, c1, c2, hs.1, m_g17 hs, m_t27 hs, m_n27 hs, m_r27 hs, m_rt27 hs, m_rn27 hs, g3, w0, e4]
    simp (disch := omega) only [u_1061_87, B_1061_87, nI1T, Nat.left_eq_add, Nat.add_eq_left, Nat.add_eq_zero_iff, and_false, false_and, if_false, if_true, opsN, opsC, pm_1, lg, ls1, ls2, lq, List.length_cons, List.length_nil, cN, cL, callE, retV, retN, pm_pop, pm_cat, List.map_cons, List.map_nil, List.sum_cons, List.sum_nil, Value.category, Option.toList, List.cons_append, List.nil_append, ↓reduceIte, reduceCtorEq, Nat.reduceAdd, Nat.reduceLT, Nat.reduceLeDiff, Nat.reduceSub, Nat.reduceEqDiff, Nat.zero_le, Nat.sub_zero, Nat.le_refl, true_and, and_true, not_true_eq_false, not_false_eq_true, true_or, or_true, lc_eq, lc_ne, lc_lt, lc_ge, lc_gt, lc_le, nI_add, lN_add, nI_leI, nI_ltI, nI_eq, nI_clamp, pk_lLT, pk_lLE, pk_lEQ, pk_sub, vp_inT, nz_eq, nz_lt, nz_ge, nz_gt, nz_le, lz_eq, lz_lt, lz_ge, hP1, hP2, hP3, hP4, hP5, hP6, hP7, hP8, hP9, hP10, hP11, hP12, hP13, hP14, hP15, hP16, hP17, hP18, hP19, hP20, hs.1, m_g17 hs, m_t27 hs, m_n27 hs, m_r27 hs, m_rt27 hs, m_rn27 hs, g3, w0, e4]
    have f1 := frU_f (m := m) (j := 36) (h := h) (v := nI (X.2 + 1)) (by omega)
    have w' := rwA_U hW f1 hr i (by omega)
    have hs1 := mS_U f1 hs
    have g1' := mdT_f (j := 36) (v := nI (X.2 + 1)) (by decide) g1
    have e36 : hI (sI h m (va_up (hI h m) 36 (nI (X.2 + 1)))) m 36 = nI (X.2 + 1) := by rw [hI_at, va_up_self]
    have e37 : hI (sI h m (va_up (hI h m) 36 (nI (X.2 + 1)))) m 37 = nI X.1.2 := by rw [hI_at, va_up_ne _ _ (by decide)]; exact g4
    generalize sI h m (va_up (hI h m) 36 (nI (X.2 + 1))) = h1 at *
    refine c1060 (d + 2) hs1 (m_rt27 hs1 i (by omega)) (m_rn27 hs1 i (by omega)) w' g1' g2 h4 hB (by omega) ?_ ?_
    · intro S' h' eS k1 k2 k3
      have eD : doS bits (stOf (R i)) X.1 = (S', X.1.2) := by unfold doS; rw [eS]
      rw [eD] at hQ hD
      simp (disch := omega) only [u_1061_122, B_1061_122, nI1T, Nat.left_eq_add, Nat.add_eq_left, Nat.add_eq_zero_iff, and_false, false_and, if_false, if_true, opsN, opsC, pm_1, lg, ls1, ls2, lq, List.length_cons, List.length_nil, cN, cL, callE, retV, retN, pm_pop, pm_cat, List.map_cons, List.map_nil, List.sum_cons, List.sum_nil, Value.category, Option.toList, List.cons_append, List.nil_append, ↓reduceIte, reduceCtorEq, Nat.reduceAdd, Nat.reduceLT, Nat.reduceLeDiff, Nat.reduceSub, Nat.reduceEqDiff, Nat.zero_le, Nat.sub_zero, Nat.le_refl, true_and, and_true, not_true_eq_false, not_false_eq_true, true_or, or_true, lc_eq, lc_ne, lc_lt, lc_ge, lc_gt, lc_le, nI_add, lN_add, nI_leI, nI_ltI, nI_eq, nI_clamp, pk_lLT, pk_lLE, pk_lEQ, pk_sub, vp_inT, nz_eq, nz_lt, nz_ge, nz_gt, nz_le, lz_eq, lz_lt, lz_ge, hP1, hP2, hP3, hP4, hP5, hP6, hP7, hP8, hP9, hP10, hP11, hP12, hP13, hP14, hP15, hP16, hP17, hP18, hP19, hP20]
      exact ih.2 ht d h' Q ((S', X.1.2), X.2 + 1) v1 v5 (by omega) (rwA_U hW (frU_trans f1 k2) hr) ⟨mS_U k2 hs1, mdT_up (by show 300 * X.2 + 300 ≤ 300 * (X.2 + 1); omega) k1, hD, (k3 36 (by decide)).trans e36, (k3 37 (by decide)).trans e37, c⟩ (fun h2 q1 q2 => hQ h2 q1 (frU_trans f1 (frU_trans k2 q2)))
    · intro eS
      have eD : doS bits (stOf (R i)) X.1 = (X.1.1, X.1.2 + 1) := by unfold doS; rw [eS]
      rw [eD] at hQ hD
      simp (disch := omega) only [u_1061_122, B_1061_122, nI1T, Nat.left_eq_add, Nat.add_eq_left, Nat.add_eq_zero_iff, and_false, false_and, if_false, if_true, opsN, opsC, pm_1, lg, ls1, ls2, lq, List.length_cons, List.length_nil, cN, cL, callE, retV, retN, pm_pop, pm_cat, List.map_cons, List.map_nil, List.sum_cons, List.sum_nil, Value.category, Option.toList, List.cons_append, List.nil_append, ↓reduceIte, reduceCtorEq, Nat.reduceAdd, Nat.reduceLT, Nat.reduceLeDiff, Nat.reduceSub, Nat.reduceEqDiff, Nat.zero_le, Nat.sub_zero, Nat.le_refl, true_and, and_true, not_true_eq_false, not_false_eq_true, true_or, or_true, lc_eq, lc_ne, lc_lt, lc_ge, lc_gt, lc_le, nI_add, lN_add, nI_leI, nI_ltI, nI_eq, nI_clamp, pk_lLT, pk_lLE, pk_lEQ, pk_sub, vp_inT, nz_eq, nz_lt, nz_ge, nz_gt, nz_le, lz_eq, lz_lt, lz_ge, hP1, hP2, hP3, hP4, hP5, hP6, hP7, hP8, hP9, hP10, hP11, hP12, hP13, hP14, hP15, hP16, hP17, hP18, hP19, hP20, hs1.1, e37]
      have f2 := frU_f (m := m) (j := 37) (h := h1) (v := nI (X.1.2 + 1)) (by omega)
      exact ih.2 ht d _ Q ((X.1.1, X.1.2 + 1), X.2 + 1) v1 v5 (by omega) (rwA_U hW (frU_trans f1 f2) hr) ⟨mS_U f2 hs1, mdT_up (by show 300 * X.2 ≤ 300 * (X.2 + 1); omega) (mdT_f (by decide) g1'), hD, by rw [hI_at, va_up_ne _ _ (by decide)]; exact e36, by rw [hI_at, va_up_self], c⟩ (fun h2 q1 q2 => hQ h2 q1 (frU_trans f1 (frU_trans f2 q2)))
  · exact go_full hW (by omega) ht d h Q X v1 v5 hg c hQ
theorem go_rep {i e t : Nat} {U V : List St} (hW : W ≤ 300) (h4 : (R i).1 = 4) (h5 : (R i).2.1 ≤ 50) (he : (R i).2.2.2 = e) (ihU : goP m bits W R (i + 1) e U) (ihV : goP m bits W R e t V) (ht : t ≤ W) (d : Nat) (hd : t - i ≤ d) (Q : pm_Q) (v1 : Int32) :
    ∀ (n j : Nat) (h : pm_H) (X : RS × Nat), n + j = (R i).2.1 → rwA h m W R → gM h m bits X → (∀ h', gM h' m bits (gR bits ((List.replicate n U).flatten ++ V) X) → frU m h h' → Q (.inl none) h') →
      pm_W PP (d + 8) 1061 Q 0 0 35 [some (.ref m), some (.int v1), some (.int (nI t)), some (.int (nI bits)), some (.int (nI i)), some (.int (nI j))] [] h := by
  have l1 : i + 1 ≤ e := ihU.1
  have l2 : e ≤ t := ihV.1
  intro n
  induction n with
  | zero =>
    intro j h X hj hr hg hQ
    obtain ⟨hs, g1, g2, g3, g4, g5⟩ := id hg
    obtain ⟨w0, w1, w2, w3⟩ := hr i (by omega)
    rw [he] at w3
    have ej : (R i).2.1 = j := by omega
    rw [ej] at w1
    have c1 : j ≤ j := Nat.le_refl _
    rw [u_1061_35]
    simp (disch := omega) only [B_1061_35, u_1061_73, B_1061_73, nI1T, Nat.left_eq_add, Nat.add_eq_left, Nat.add_eq_zero_iff, and_false, false_and, if_false, if_true, opsN, opsC, pm_1, lg, ls1, ls2, lq, List.length_cons, List.length_nil, cN, cL, callE, retV, retN, pm_pop, pm_cat, List.map_cons, List.map_nil, List.sum_cons, List.sum_nil, Value.category, Option.toList, List.cons_append, List.nil_append, ↓reduceIte, reduceCtorEq, Nat.reduceAdd, Nat.reduceLT, Nat.reduceLeDiff, Nat.reduceSub, Nat.reduceEqDiff, Nat.zero_le, Nat.sub_zero, Nat.le_refl, true_and, and_true, not_true_eq_false, not_false_eq_true, true_or, or_true, lc_eq, lc_ne, lc_lt, lc_ge, lc_gt, lc_le, nI_add, lN_add, nI_leI, nI_ltI, nI_eq, nI_clamp, pk_lLT, pk_lLE, pk_lEQ, pk_sub, vp_inT, nz_eq, nz_lt, nz_ge, nz_gt, nz_le, lz_eq, lz_lt, lz_ge, hP1, hP2, hP3, hP4, hP5, hP6, hP7, hP8, hP9, hP10, hP11, hP12, hP13, hP14, hP15, hP16, hP17, hP18, hP19, hP20, hs.1, m_g17 hs, m_t27 hs, m_n27 hs, m_r27 hs, m_rt27 hs, m_rn27 hs, w1, w3, c1]
    exact ihV.2 ht d h Q X v1 _ (by omega) hr hg hQ
  | succ n ih =>
    intro j h X hj hr hg hQ
    obtain ⟨hs, g1, g2, g3, g4, g5⟩ := id hg
    obtain ⟨w0, w1, w2, w3⟩ := hr i (by omega)
    rw [he] at w3
    have c1 : ¬ (R i).2.1 ≤ j := by omega
    obtain ⟨d', rfl⟩ : ∃ d', d = d' + 1 := ⟨d - 1, by omega⟩
    have eG : gR bits ((List.replicate (n + 1) U).flatten ++ V) X = gR bits ((List.replicate n U).flatten ++ V) (gR bits U X) := by
      rw [List.replicate_succ, List.flatten_cons, List.append_assoc, gR_app]
    rw [eG] at hQ
    rw [u_1061_35]
    simp (disch := omega) only [B_1061_35, nI1T, Nat.left_eq_add, Nat.add_eq_left, Nat.add_eq_zero_iff, and_false, false_and, if_false, if_true, opsN, opsC, pm_1, lg, ls1, ls2, lq, List.length_cons, List.length_nil, cN, cL, callE, retV, retN, pm_pop, pm_cat, List.map_cons, List.map_nil, List.sum_cons, List.sum_nil, Value.category, Option.toList, List.cons_append, List.nil_append, ↓reduceIte, reduceCtorEq, Nat.reduceAdd, Nat.reduceLT, Nat.reduceLeDiff, Nat.reduceSub, Nat.reduceEqDiff, Nat.zero_le, Nat.sub_zero, Nat.le_refl, true_and, and_true, not_true_eq_false, not_false_eq_true, true_or, or_true, lc_eq, lc_ne, lc_lt, lc_ge, lc_gt, lc_le, nI_add, lN_add, nI_leI, nI_ltI, nI_eq, nI_clamp, pk_lLT, pk_lLE, pk_lEQ, pk_sub, vp_inT, nz_eq, nz_lt, nz_ge, nz_gt, nz_le, lz_eq, lz_lt, lz_ge, hP1, hP2, hP3, hP4, hP5, hP6, hP7, hP8, hP9, hP10, hP11, hP12, hP13, hP14, hP15, hP16, hP17, hP18, hP19, hP20, hs.1, m_g17 hs, m_t27 hs, m_n27 hs, m_r27 hs, m_rt27 hs, m_rn27 hs, w1, w3, c1]
    rw [e_1061]
    simp (disch := omega) only [u_1061_0, B_1061_0, nI1T, Nat.left_eq_add, Nat.add_eq_left, Nat.add_eq_zero_iff, and_false, false_and, if_false, if_true, opsN, opsC, pm_1, lg, ls1, ls2, lq, List.length_cons, List.length_nil, cN, cL, callE, retV, retN, pm_pop, pm_cat, List.map_cons, List.map_nil, List.sum_cons, List.sum_nil, Value.category, Option.toList, List.cons_append, List.nil_append, ↓reduceIte, reduceCtorEq, Nat.reduceAdd, Nat.reduceLT, Nat.reduceLeDiff, Nat.reduceSub, Nat.reduceEqDiff, Nat.zero_le, Nat.sub_zero, Nat.le_refl, true_and, and_true, not_true_eq_false, not_false_eq_true, true_or, or_true, lc_eq, lc_ne, lc_lt, lc_ge, lc_gt, lc_le, nI_add, lN_add, nI_leI, nI_ltI, nI_eq, nI_clamp, pk_lLT, pk_lLE, pk_lEQ, pk_sub, vp_inT, nz_eq, nz_lt, nz_ge, nz_gt, nz_le, lz_eq, lz_lt, lz_ge, hP1, hP2, hP3, hP4, hP5, hP6, hP7, hP8, hP9, hP10, hP11, hP12, hP13, hP14, hP15, hP16, hP17, hP18, hP19, hP20]
    refine ihU.2 (by omega) d' h _ X _ _ (by omega) hr hg ?_
    intro h' k1 k2
    simp (disch := omega) only [nI1T, Nat.left_eq_add, Nat.add_eq_left, Nat.add_eq_zero_iff, and_false, false_and, if_false, if_true, opsN, opsC, pm_1, lg, ls1, ls2, lq, List.length_cons, List.length_nil, cN, cL, callE, retV, retN, pm_pop, pm_cat, List.map_cons, List.map_nil, List.sum_cons, List.sum_nil, Value.category, Option.toList, List.cons_append, List.nil_append, ↓reduceIte, reduceCtorEq, Nat.reduceAdd, Nat.reduceLT, Nat.reduceLeDiff, Nat.reduceSub, Nat.reduceEqDiff, Nat.zero_le, Nat.sub_zero, Nat.le_refl, true_and, and_true, not_true_eq_false, not_false_eq_true, true_or, or_true, lc_eq, lc_ne, lc_lt, lc_ge, lc_gt, lc_le, nI_add, lN_add, nI_leI, nI_ltI, nI_eq, nI_clamp, pk_lLT, pk_lLE, pk_lEQ, pk_sub, vp_inT, nz_eq, nz_lt, nz_ge, nz_gt, nz_le, lz_eq, lz_lt, lz_ge, hP1, hP2, hP3, hP4, hP5, hP6, hP7, hP8, hP9, hP10, hP11, hP12, hP13, hP14, hP15, hP16, hP17, hP18, hP19, hP20]
    exact ih (j + 1) h' _ (by omega) (rwA_U hW k2 hr) k1 (fun h2 q1 q2 => hQ h2 q1 (frU_trans k2 q2))
theorem go_loop {i e t : Nat} {U V : List St} (hW : W ≤ 300) (h4 : (R i).1 = 4) (h5 : (R i).2.1 ≤ 50) (he : (R i).2.2.2 = e) (ihU : goP m bits W R (i + 1) e U) (ihV : goP m bits W R e t V) : goP m bits W R i t ((List.replicate (R i).2.1 U).flatten ++ V) := by
  have l1 : i + 1 ≤ e := ihU.1
  have l2 : e ≤ t := ihV.1
  refine ⟨by omega, fun ht d h Q X v1 v5 hd hr hg hQ => ?_⟩
  by_cases c : X.2 < 400
  · obtain ⟨hs, g1, g2, g3, g4, g5⟩ := id hg
    have c1 : ¬ t ≤ i := by omega
    have c2 : ¬ 400 ≤ X.2 := by omega
    have w0 := (hr i (by omega)).1
    rw [h4] at w0
    rw [u_1061_3]
    simp (disch := omega) only [B_1061_3, nI1T, Nat.left_eq_add, Nat.add_eq_left, Nat.add_eq_zero_iff, and_false, false_and, if_false, if_true, opsN, opsC, pm_1, lg, ls1, ls2, lq, List.length_cons, List.length_nil, cN, cL, callE, retV, retN, pm_pop, pm_cat, List.map_cons, List.map_nil, List.sum_cons, List.sum_nil, Value.category, Option.toList, List.cons_append, List.nil_append, ↓reduceIte, reduceCtorEq, Nat.reduceAdd, Nat.reduceLT, Nat.reduceLeDiff, Nat.reduceSub, Nat.reduceEqDiff, Nat.zero_le, Nat.sub_zero, Nat.le_refl, true_and, and_true, not_true_eq_false, not_false_eq_true, true_or, or_true, lc_eq, lc_ne, lc_lt, lc_ge, lc_gt, lc_le, nI_add, lN_add, nI_leI, nI_ltI, nI_eq, nI_clamp, pk_lLT, pk_lLE, pk_lEQ, pk_sub, vp_inT, nz_eq, nz_lt, nz_ge, nz_gt, nz_le, lz_eq, lz_lt, lz_ge, hP1, hP2, hP3, hP4, hP5, hP6, hP7, hP8, hP9, hP10, hP11, hP12, hP13, hP14, hP15, hP16, hP17, hP18, hP19, hP20, c1, c2, hs.1, m_g17 hs, m_t27 hs, m_n27 hs, m_r27 hs, m_rt27 hs, m_rn27 hs, g3, w0]
    exact go_rep hW h4 h5 he ihU ihV ht d hd Q v1 (R i).2.1 0 h X (by omega) hr hg hQ
  · exact go_full hW (by omega) ht d h Q X v1 v5 hg c hQ
theorem go_SG {t : Nat} {U : List St} (hW : W ≤ 300) (h : SG R 0 t U) : goP m bits W R 0 t U :=
  h (goP m bits W R) (fun i => go_nil i hW) (fun i t U a b c => go_step hW a b c) (fun i e t U V a b c e f => go_loop hW a b c e f)
theorem nar0 : vp_nar .boolean (nI 0) = nI 0 := by decide
theorem sI_id (h : pm_H) (k : Nat) : sI h k (hI h k) = h := by
  have : va_up h.1 k (h.1 k) = h.1 := funext fun j => by
    rw [va_upE]; split
    · rename_i e; rw [e]
    · rfl
  show (va_up h.1 k (h.1 k), h.2) = h
  rw [this]
theorem l1062 (d : Nat) {Q : pm_Q} : ∀ (n k : Nat) (h : pm_H), n + k = 160 → mS h m → (∀ j, j < k → hI h (m + 26) j = nI 0) →
    (∀ h' g, h' = sI h (m + 26) g → (∀ j, j < 160 → g j = nI 0) → Q (.inl none) h') → pm_W PP (d + 1) 1062 Q 0 0 9 [some (.ref m), some (.int (nI k))] [] h := by
  intro n
  induction n with
  | zero =>
    intro k h hk hs hz hQ
    have e : k = 160 := by omega
    subst e
    rw [u_1062_9]
    simp (disch := omega) only [B_1062_9, u_1062_31, B_1062_31, nI1T, Nat.left_eq_add, Nat.add_eq_left, Nat.add_eq_zero_iff, and_false, false_and, if_false, if_true, opsN, opsC, pm_1, lg, ls1, ls2, lq, List.length_cons, List.length_nil, cN, cL, callE, retV, retN, pm_pop, pm_cat, List.map_cons, List.map_nil, List.sum_cons, List.sum_nil, Value.category, Option.toList, List.cons_append, List.nil_append, ↓reduceIte, reduceCtorEq, Nat.reduceAdd, Nat.reduceLT, Nat.reduceLeDiff, Nat.reduceSub, Nat.reduceEqDiff, Nat.zero_le, Nat.sub_zero, Nat.le_refl, true_and, and_true, not_true_eq_false, not_false_eq_true, true_or, or_true, lc_eq, lc_ne, lc_lt, lc_ge, lc_gt, lc_le, nI_add, lN_add, nI_leI, nI_ltI, nI_eq, nI_clamp, pk_lLT, pk_lLE, pk_lEQ, pk_sub, vp_inT, nz_eq, nz_lt, nz_ge, nz_gt, nz_le, lz_eq, lz_lt, lz_ge, hP1, hP2, hP3, hP4, hP5, hP6, hP7, hP8, hP9, hP10, hP11, hP12, hP13, hP14, hP15, hP16, hP17, hP18, hP19, hP20, hs.1, m_g16 hs, m_t26 hs, m_n26 hs]
    exact hQ h (hI h (m + 26)) (sI_id _ _).symm hz
  | succ n ih =>
    intro k h hk hs hz hQ
    have c1 : ¬ 160 ≤ k := by omega
    have c2 : k < 160 := by omega
    rw [u_1062_9]
    simp (disch := omega) only [B_1062_9, nI1T, Nat.left_eq_add, Nat.add_eq_left, Nat.add_eq_zero_iff, and_false, false_and, if_false, if_true, opsN, opsC, pm_1, lg, ls1, ls2, lq, List.length_cons, List.length_nil, cN, cL, callE, retV, retN, pm_pop, pm_cat, List.map_cons, List.map_nil, List.sum_cons, List.sum_nil, Value.category, Option.toList, List.cons_append, List.nil_append, ↓reduceIte, reduceCtorEq, Nat.reduceAdd, Nat.reduceLT, Nat.reduceLeDiff, Nat.reduceSub, Nat.reduceEqDiff, Nat.zero_le, Nat.sub_zero, Nat.le_refl, true_and, and_true, not_true_eq_false, not_false_eq_true, true_or, or_true, lc_eq, lc_ne, lc_lt, lc_ge, lc_gt, lc_le, nI_add, lN_add, nI_leI, nI_ltI, nI_eq, nI_clamp, pk_lLT, pk_lLE, pk_lEQ, pk_sub, vp_inT, nz_eq, nz_lt, nz_ge, nz_gt, nz_le, lz_eq, lz_lt, lz_ge, hP1, hP2, hP3, hP4, hP5, hP6, hP7, hP8, hP9, hP10, hP11, hP12, hP13, hP14, hP15, hP16, hP17, hP18, hP19, hP20, hs.1, m_g16 hs, m_t26 hs, m_n26 hs, c1, c2, nar0]
    refine ih (k + 1) _ (by omega) (mS_U frU_u hs) (fun j hj => ?_) (fun h' g e hg => hQ h' g (by rw [e, sI_sI]) hg)
    rw [hI_at, va_upE]
    split
    · rfl
    · exact hz j (by omega)
theorem c1063 (d : Nat) {h : pm_H} {Q : pm_Q} {L : Ps} (hb1 : 1 ≤ bits) (hb4 : bits ≤ 4) (hs : mS h m) (hp : mPl h m L) (hL3 : L.2 ≤ 300)
    (hQ : ∀ h', gM h' m bits (gR bits L.1 (r0, 0)) → frU m h h' → Q (.inl none) h') : pm_M PP (d + 330) 1063 [.ref m, .int (nI bits)] h Q := by
  obtain ⟨p1, R, p2, p3⟩ := hp
  rw [e_1063]
  simp (disch := omega) only [u_1063_0, B_1063_0, nI1T, Nat.left_eq_add, Nat.add_eq_left, Nat.add_eq_zero_iff, and_false, false_and, if_false, if_true, opsN, opsC, pm_1, lg, ls1, ls2, lq, List.length_cons, List.length_nil, cN, cL, callE, retV, retN, pm_pop, pm_cat, List.map_cons, List.map_nil, List.sum_cons, List.sum_nil, Value.category, Option.toList, List.cons_append, List.nil_append, ↓reduceIte, reduceCtorEq, Nat.reduceAdd, Nat.reduceLT, Nat.reduceLeDiff, Nat.reduceSub, Nat.reduceEqDiff, Nat.zero_le, Nat.sub_zero, Nat.le_refl, true_and, and_true, not_true_eq_false, not_false_eq_true, true_or, or_true, lc_eq, lc_ne, lc_lt, lc_ge, lc_gt, lc_le, nI_add, lN_add, nI_leI, nI_ltI, nI_eq, nI_clamp, pk_lLT, pk_lLE, pk_lEQ, pk_sub, vp_inT, nz_eq, nz_lt, nz_ge, nz_gt, nz_le, lz_eq, lz_lt, lz_ge, hP1, hP2, hP3, hP4, hP5, hP6, hP7, hP8, hP9, hP10, hP11, hP12, hP13, hP14, hP15, hP16, hP17, hP18, hP19, hP20, hs.1]
  rw [e_1062]
  simp (disch := omega) only [u_1062_0, B_1062_0, nI1T, Nat.left_eq_add, Nat.add_eq_left, Nat.add_eq_zero_iff, and_false, false_and, if_false, if_true, opsN, opsC, pm_1, lg, ls1, ls2, lq, List.length_cons, List.length_nil, cN, cL, callE, retV, retN, pm_pop, pm_cat, List.map_cons, List.map_nil, List.sum_cons, List.sum_nil, Value.category, Option.toList, List.cons_append, List.nil_append, ↓reduceIte, reduceCtorEq, Nat.reduceAdd, Nat.reduceLT, Nat.reduceLeDiff, Nat.reduceSub, Nat.reduceEqDiff, Nat.zero_le, Nat.sub_zero, Nat.le_refl, true_and, and_true, not_true_eq_false, not_false_eq_true, true_or, or_true, lc_eq, lc_ne, lc_lt, lc_ge, lc_gt, lc_le, nI_add, lN_add, nI_leI, nI_ltI, nI_eq, nI_clamp, pk_lLT, pk_lLE, pk_lEQ, pk_sub, vp_inT, nz_eq, nz_lt, nz_ge, nz_gt, nz_le, lz_eq, lz_lt, lz_ge, hP1, hP2, hP3, hP4, hP5, hP6, hP7, hP8, hP9, hP10, hP11, hP12, hP13, hP14, hP15, hP16, hP17, hP18, hP19, hP20, hs.1, m_g34 hs, m_t811 hs, m_n811 hs]
  refine c1020 (d + 327) (m_t811 hs) (m_n811 hs) ?_
  intro g hg
  simp (disch := omega) only [nI1T, Nat.left_eq_add, Nat.add_eq_left, Nat.add_eq_zero_iff, and_false, false_and, if_false, if_true, opsN, opsC, pm_1, lg, ls1, ls2, lq, List.length_cons, List.length_nil, cN, cL, callE, retV, retN, pm_pop, pm_cat, List.map_cons, List.map_nil, List.sum_cons, List.sum_nil, Value.category, Option.toList, List.cons_append, List.nil_append, ↓reduceIte, reduceCtorEq, Nat.reduceAdd, Nat.reduceLT, Nat.reduceLeDiff, Nat.reduceSub, Nat.reduceEqDiff, Nat.zero_le, Nat.sub_zero, Nat.le_refl, true_and, and_true, not_true_eq_false, not_false_eq_true, true_or, or_true, lc_eq, lc_ne, lc_lt, lc_ge, lc_gt, lc_le, nI_add, lN_add, nI_leI, nI_ltI, nI_eq, nI_clamp, pk_lLT, pk_lLE, pk_lEQ, pk_sub, vp_inT, nz_eq, nz_lt, nz_ge, nz_gt, nz_le, lz_eq, lz_lt, lz_ge, hP1, hP2, hP3, hP4, hP5, hP6, hP7, hP8, hP9, hP10, hP11, hP12, hP13, hP14, hP15, hP16, hP17, hP18, hP19, hP20]
  have e1 := q_emp q0 (fun _ => 0) (m_t811 hs) (m_n811 hs) hg
  have f1 := frU_L (m := m) (h := h) (g := g)
  have hs1 := mS_U f1 hs
  generalize hh : sL h (m + 811) g = h1 at *
  refine l1062 (d + 327) 160 0 h1 (by omega) hs1 (fun j hj => absurd hj (Nat.not_lt_zero _)) ?_
  intro h2 g2 e2 hg2
  have f2 : frU m h1 h2 := by rw [e2]; exact frU_u
  have hs2 := mS_U f2 hs1
  have z1 : ∀ k, k ≠ m + 26 → hI h2 k = hI h1 k := fun k hk => by rw [e2, hP1, va_up_ne _ _ hk]
  have f3 : frU m h2 (sI h2 m (va_up (va_up (va_up (hI h2 m) 36 (nI 0)) 37 (nI 0)) 38 (nI 0))) :=
    ⟨rfl, rfl, rfl, rfl, fun _ _ => rfl, fun k z _ _ => by rw [hP1, va_up_ne _ _ z], fun k q1 q2 q3 => by rw [hI_at, va_up_ne _ _ q3, va_up_ne _ _ q2, va_up_ne _ _ q1]⟩
  have p25 : hI h2 m 25 = nI L.2 := by rw [f2.2.2.2.2.2.2 25 (by decide) (by decide) (by decide), f1.2.2.2.2.2.2 25 (by decide) (by decide) (by decide)]; exact p1
  simp (disch := omega) only [nI1T, Nat.left_eq_add, Nat.add_eq_left, Nat.add_eq_zero_iff, and_false, false_and, if_false, if_true, opsN, opsC, pm_1, lg, ls1, ls2, lq, List.length_cons, List.length_nil, cN, cL, callE, retV, retN, pm_pop, pm_cat, List.map_cons, List.map_nil, List.sum_cons, List.sum_nil, Value.category, Option.toList, List.cons_append, List.nil_append, ↓reduceIte, reduceCtorEq, Nat.reduceAdd, Nat.reduceLT, Nat.reduceLeDiff, Nat.reduceSub, Nat.reduceEqDiff, Nat.zero_le, Nat.sub_zero, Nat.le_refl, true_and, and_true, not_true_eq_false, not_false_eq_true, true_or, or_true, lc_eq, lc_ne, lc_lt, lc_ge, lc_gt, lc_le, nI_add, lN_add, nI_leI, nI_ltI, nI_eq, nI_clamp, pk_lLT, pk_lLE, pk_lEQ, pk_sub, vp_inT, nz_eq, nz_lt, nz_ge, nz_gt, nz_le, lz_eq, lz_lt, lz_ge, hP1, hP2, hP3, hP4, hP5, hP6, hP7, hP8, hP9, hP10, hP11, hP12, hP13, hP14, hP15, hP16, hP17, hP18, hP19, hP20, hs2.1, p25, va_upE, sI_sI]
  rw [e_1061]
  simp (disch := omega) only [u_1061_0, B_1061_0, nI1T, Nat.left_eq_add, Nat.add_eq_left, Nat.add_eq_zero_iff, and_false, false_and, if_false, if_true, opsN, opsC, pm_1, lg, ls1, ls2, lq, List.length_cons, List.length_nil, cN, cL, callE, retV, retN, pm_pop, pm_cat, List.map_cons, List.map_nil, List.sum_cons, List.sum_nil, Value.category, Option.toList, List.cons_append, List.nil_append, ↓reduceIte, reduceCtorEq, Nat.reduceAdd, Nat.reduceLT, Nat.reduceLeDiff, Nat.reduceSub, Nat.reduceEqDiff, Nat.zero_le, Nat.sub_zero, Nat.le_refl, true_and, and_true, not_true_eq_false, not_false_eq_true, true_or, or_true, lc_eq, lc_ne, lc_lt, lc_ge, lc_gt, lc_le, nI_add, lN_add, nI_leI, nI_ltI, nI_eq, nI_clamp, pk_lLT, pk_lLE, pk_lEQ, pk_sub, vp_inT, nz_eq, nz_lt, nz_ge, nz_gt, nz_le, lz_eq, lz_lt, lz_ge, hP1, hP2, hP3, hP4, hP5, hP6, hP7, hP8, hP9, hP10, hP11, hP12, hP13, hP14, hP15, hP16, hP17, hP18, hP19, hP20]
  have f4 := frU_trans f1 (frU_trans f2 f3)
  refine (go_SG (m := m) (bits := bits) hL3 p2).2 (Nat.le_refl _) (d + 320) _ _ (r0, 0) _ _ (by omega) (rwA_U hL3 f4 (fun j hj => (p3 j hj).1)) ⟨mS_U f3 hs2, ⟨⟨fun _ => 0, 0, ?_, e1.2, Nat.le_refl _⟩, fun k hk => ?_, ?_, fun i hi => absurd hi (Nat.not_lt_zero _)⟩, r0_I hb1 hb4, ?_, ?_, by show 0 ≤ 400; decide⟩ (fun h' q1 q2 => ?_)
  · exact isQ_eq (h := h1) (by rw [f3.1, f2.1]) (by rw [f3.2.1, f2.2.1]) (by rw [e2]; rfl) e1.1
  · rw [hP1, va_up_ne _ _ (by omega), e2, hI_at]; exact hg2 k hk
  · rw [hI_at]; simp only [va_upE, Nat.reduceEqDiff, if_true, if_false]; rfl
  · rw [hI_at]; simp only [va_upE, Nat.reduceEqDiff, if_true, if_false]
  · rw [hI_at]; simp only [va_upE, Nat.reduceEqDiff, if_true, if_false]; rfl
  · simp (disch := omega) only [nI1T, Nat.left_eq_add, Nat.add_eq_left, Nat.add_eq_zero_iff, and_false, false_and, if_false, if_true, opsN, opsC, pm_1, lg, ls1, ls2, lq, List.length_cons, List.length_nil, cN, cL, callE, retV, retN, pm_pop, pm_cat, List.map_cons, List.map_nil, List.sum_cons, List.sum_nil, Value.category, Option.toList, List.cons_append, List.nil_append, ↓reduceIte, reduceCtorEq, Nat.reduceAdd, Nat.reduceLT, Nat.reduceLeDiff, Nat.reduceSub, Nat.reduceEqDiff, Nat.zero_le, Nat.sub_zero, Nat.le_refl, true_and, and_true, not_true_eq_false, not_false_eq_true, true_or, or_true, lc_eq, lc_ne, lc_lt, lc_ge, lc_gt, lc_le, nI_add, lN_add, nI_leI, nI_ltI, nI_eq, nI_clamp, pk_lLT, pk_lLE, pk_lEQ, pk_sub, vp_inT, nz_eq, nz_lt, nz_ge, nz_gt, nz_le, lz_eq, lz_lt, lz_ge, hP1, hP2, hP3, hP4, hP5, hP6, hP7, hP8, hP9, hP10, hP11, hP12, hP13, hP14, hP15, hP16, hP17, hP18, hP19, hP20]
    exact hQ h' q1 (frU_trans f4 q2)
end RW
