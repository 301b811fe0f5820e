/-! ===== replay: the class ===== -/
def pbS (h : pm_H) (x : Nat) : Prop := hT h (x + 78) = 6 ∧ hR h (x + 78) 0 = x + 64 ∧ hR h (x + 78) 1 = x + 79 ∧ hR h (x + 78) 2 = x + 80 ∧ hR h (x + 78) 3 = x + 81 ∧ hT h (x + 79) = 100 ∧ hT h (x + 80) = 100 ∧ hT h (x + 81) = 100 ∧ hN h (x + 79) = 300 ∧ hN h (x + 80) = 200 ∧ hN h (x + 81) = 8
theorem pbS_fr {h h' : pm_H} {x lo hi : Nat} (f : fr lo hi h h') (hs : pbS h x) : pbS h' x := by
  unfold pbS at *; rw [f.1, f.2.1, f.2.2.1]; exact hs
def clV (h : pm_H) (x bits : Nat) (v : VT) : Prop := pbS h x ∧ isB h (x + 64) 300 bits 300 v.1 ∧ (∀ i, i < qC v.1 → hI h (x + 79) i = nI (v.2.1 i)) ∧ (∀ i, i < v.2.2.1.length → hI h (x + 80) i = nI (v.2.2.1.getD i 0)) ∧ (∀ j, j < 8 → hI h (x + 81) j = nI (v.2.2.2 j)) ∧ hI h (x + 78) 4 = nI v.2.2.1.length
section PL
variable {h : pm_H} {x bits : Nat} {v : VT} {Q : pm_Q}
/-- bring -/
theorem c605 (d : Nat) {T H l k : Nat} (hc : clV h x bits v) (hv : vOK bits T H v) (hl : l < 8) (hk : qL v.1 ≤ k) (hk2 : k < 2 ^ 40) (hQ : ∀ h', clV h' x bits (vAdd bits l k v) → fr (x + 64) (x + 82) h h' → Q (.inl none) h') : pm_M PP (d + 3) 605 [.ref (x + 78), .int (nI l), .long (lN k)] h Q := by
  obtain ⟨⟨s0, s1, s2, s3, s4, t1, t2, t3, n1, n2, n3⟩, p2, p3, p4, p5, p6⟩ := id hc
  have q1 := p2.1.1
  have a1 := hv.1
  rw [e_605]
  simp (disch := omega) only [u_605_0, B_605_0, nI1T, Nat.left_eq_add, Nat.add_eq_left, Nat.add_eq_zero_iff, and_false, false_and, if_false, if_true, opsN, opsC, pm_1, lg, ls1, ls2, lq, List.length_cons, List.length_nil, cN, cL, callE, retV, retN, pm_pop, pm_cat, List.map_cons, List.map_nil, List.sum_cons, List.sum_nil, Value.category, Option.toList, List.cons_append, List.nil_append, ↓reduceIte, reduceCtorEq, Nat.reduceAdd, Nat.reduceLT, Nat.reduceLeDiff, Nat.reduceSub, Nat.reduceEqDiff, Nat.zero_le, Nat.sub_zero, Nat.le_refl, true_and, and_true, not_true_eq_false, not_false_eq_true, true_or, or_true, lc_eq, lc_ne, lc_lt, lc_ge, lc_gt, lc_le, nI_add, lN_add, nI_leI, nI_ltI, nI_eq, nI_clamp, pk_lLT, pk_lLE, pk_lEQ, pk_sub, vp_inT, nz_eq, nz_lt, nz_ge, nz_gt, nz_le, lz_eq, lz_lt, lz_ge, hP1, hP2, hP3, hP4, hP5, hP6, hP7, hP8, hP9, hP10, hP11, hP12, hP13, hP14, hP15, hP16, hP17, hP18, hP19, hP20, s0, s1, q1]
  by_cases c : qC v.1 < 300
  · have eA : vAdd bits l k v = (qAdd bits k v.1, va_up v.2.1 (qC v.1) l, v.2.2.1, v.2.2.2) := by unfold vAdd; rw [if_pos c]
    refine c109t d p2 a1 hk2 hk c ?_
    intro h' z1 z2 z3
    have e1 := m1_ne (n := qC v.1) (by omega)
    have hs' := pbS_fr z3 hc.1
    obtain ⟨s0, s1, s2, s3, s4, t1, t2, t3, n1, n2, n3⟩ := id hs'
    simp (disch := omega) only [u_605_24, B_605_24, nI1T, Nat.left_eq_add, Nat.add_eq_left, Nat.add_eq_zero_iff, and_false, false_and, if_false, if_true, opsN, opsC, pm_1, lg, ls1, ls2, lq, List.length_cons, List.length_nil, cN, cL, callE, retV, retN, pm_pop, pm_cat, List.map_cons, List.map_nil, List.sum_cons, List.sum_nil, Value.category, Option.toList, List.cons_append, List.nil_append, ↓reduceIte, reduceCtorEq, Nat.reduceAdd, Nat.reduceLT, Nat.reduceLeDiff, Nat.reduceSub, Nat.reduceEqDiff, Nat.zero_le, Nat.sub_zero, Nat.le_refl, true_and, and_true, not_true_eq_false, not_false_eq_true, true_or, or_true, lc_eq, lc_ne, lc_lt, lc_ge, lc_gt, lc_le, nI_add, lN_add, nI_leI, nI_ltI, nI_eq, nI_clamp, pk_lLT, pk_lLE, pk_lEQ, pk_sub, vp_inT, nz_eq, nz_lt, nz_ge, nz_gt, nz_le, lz_eq, lz_lt, lz_ge, hP1, hP2, hP3, hP4, hP5, hP6, hP7, hP8, hP9, hP10, hP11, hP12, hP13, hP14, hP15, hP16, hP17, hP18, hP19, hP20, e1, s0, s2, t1, n1, c]
    have f1 : fr (x + 79) (x + 80) h' (sI h' (x + 79) (va_up (hI h' (x + 79)) (qC v.1) (nI l))) := fr_sI (fr_refl _ _ _) (by omega) (by omega)
    have o := fun k (q : x + 70 ≤ k) => (z3.2.2.2.2 k (by omega)).1
    have f2 : fr (x + 64) (x + 82) h (sI h' (x + 79) (va_up (hI h' (x + 79)) (qC v.1) (nI l))) := fr_trans (fr_wide z3 (by omega) (by omega)) (fr_wide f1 (by omega) (by omega))
    have b2 : isB (sI h' (x + 79) (va_up (hI h' (x + 79)) (qC v.1) (nI l))) (x + 64) 300 bits 300 (qAdd bits k v.1) := isB_fr f1 (by omega) z1
    refine hQ _ ?_ f2
    rw [eA]
    refine ⟨pbS_fr f1 hs', b2, fun i hi => ?_, fun i hi => ?_, fun j hj => ?_, ?_⟩
    · have hi : i < qC v.1 + 1 := hi
      rw [hI_at, o _ (by omega)]
      show va_up (hI h (x + 79)) (qC v.1) (nI l) i = nI (va_up v.2.1 (qC v.1) l i)
      rw [va_upE, va_upE]; split
      · rfl
      · exact p3 i (by omega)
    · rw [hP1, va_up_ne _ _ (by omega), o _ (by omega)]; exact p4 i hi
    · rw [hP1, va_up_ne _ _ (by omega), o _ (by omega)]; exact p5 j hj
    · rw [hP1, va_up_ne _ _ (by omega), o _ (by omega)]; exact p6
  · have eA : vAdd bits l k v = v := by unfold vAdd; rw [if_neg c]
    refine c109f d p2 a1 hk2 (fun q => c q.2) ?_
    simp (disch := omega) only [u_605_24, B_605_24, nI1T, Nat.left_eq_add, Nat.add_eq_left, Nat.add_eq_zero_iff, and_false, false_and, if_false, if_true, opsN, opsC, pm_1, lg, ls1, ls2, lq, List.length_cons, List.length_nil, cN, cL, callE, retV, retN, pm_pop, pm_cat, List.map_cons, List.map_nil, List.sum_cons, List.sum_nil, Value.category, Option.toList, List.cons_append, List.nil_append, ↓reduceIte, reduceCtorEq, Nat.reduceAdd, Nat.reduceLT, Nat.reduceLeDiff, Nat.reduceSub, Nat.reduceEqDiff, Nat.zero_le, Nat.sub_zero, Nat.le_refl, true_and, and_true, not_true_eq_false, not_false_eq_true, true_or, or_true, lc_eq, lc_ne, lc_lt, lc_ge, lc_gt, lc_le, nI_add, lN_add, nI_leI, nI_ltI, nI_eq, nI_clamp, pk_lLT, pk_lLE, pk_lEQ, pk_sub, vp_inT, nz_eq, nz_lt, nz_ge, nz_gt, nz_le, lz_eq, lz_lt, lz_ge, hP1, hP2, hP3, hP4, hP5, hP6, hP7, hP8, hP9, hP10, hP11, hP12, hP13, hP14, hP15, hP16, hP17, hP18, hP19, hP20]
    exact hQ h (by rw [eA]; exact hc) (fr_refl _ _ _)
/-- followRules -/
theorem l604 (d : Nat) {c lt T H : Nat} {R : List Ed} (hlt : lt < 8) (hcx : x + 46 ≤ c) (hcx2 : c + 9 ≤ x + 64) (hR0 : ∀ e, e ∈ R → rlB e) (h6 : R.length ≤ 16) (hH : H < 2 ^ 40) : ∀ (suf pre : List Ed) (v : VT) (h : pm_H), R = pre ++ suf → chS h c → hI h c 10 = nI R.length →
      (∀ i, i < R.length → hI h (c + 6) i = nI (R.getD i ed0).1 ∧ hI h (c + 7) i = nI (R.getD i ed0).2.1 ∧ hI h (c + 8) i = nI (R.getD i ed0).2.2) → clV h x bits v → vFo bits T H v →
      (∀ h', clV h' x bits (vRs bits lt suf v) → fr (x + 64) (x + 82) h h' → Q (.inl none) h') →
      pm_W PP (d + 3) 604 Q 0 0 2 [some (.ref (x + 78)), some (.ref c), some (.int (nI lt)), some (.int (nI pre.length))] [] h := by
  intro suf
  induction suf with
  | nil =>
    intro pre v h hL hs hl hr hc hv hQ
    have e : pre.length = R.length := by rw [hL, List.append_nil]
    have c1 : pre.length ≤ pre.length := Nat.le_refl _
    rw [← e] at hl
    rw [u_604_2]
    simp (disch := omega) only [B_604_2, u_604_51, B_604_51, nI1T, Nat.left_eq_add, Nat.add_eq_left, Nat.add_eq_zero_iff, and_false, false_and, if_false, if_true, opsN, opsC, pm_1, lg, ls1, ls2, lq, List.length_cons, List.length_nil, cN, cL, callE, retV, retN, pm_pop, pm_cat, List.map_cons, List.map_nil, List.sum_cons, List.sum_nil, Value.category, Option.toList, List.cons_append, List.nil_append, ↓reduceIte, reduceCtorEq, Nat.reduceAdd, Nat.reduceLT, Nat.reduceLeDiff, Nat.reduceSub, Nat.reduceEqDiff, Nat.zero_le, Nat.sub_zero, Nat.le_refl, true_and, and_true, not_true_eq_false, not_false_eq_true, true_or, or_true, lc_eq, lc_ne, lc_lt, lc_ge, lc_gt, lc_le, nI_add, lN_add, nI_leI, nI_ltI, nI_eq, nI_clamp, pk_lLT, pk_lLE, pk_lEQ, pk_sub, vp_inT, nz_eq, nz_lt, nz_ge, nz_gt, nz_le, lz_eq, lz_lt, lz_ge, hP1, hP2, hP3, hP4, hP5, hP6, hP7, hP8, hP9, hP10, hP11, hP12, hP13, hP14, hP15, hP16, hP17, hP18, hP19, hP20, hs.1, hl, c1]
    exact hQ h hc (fr_refl _ _ _)
  | cons s r ih =>
    intro pre v h hL hs hl hr hc hv hQ
    have el : R.length = pre.length + (r.length + 1) := by rw [hL, List.length_append, List.length_cons]
    have c1 : ¬ R.length ≤ pre.length := by omega
    have hgd : R.getD pre.length ed0 = s := by
      rw [hL, List.getD_eq_getElem?_getD, List.getElem?_append_right (Nat.le_refl _), Nat.sub_self]; rfl
    have hg := hr pre.length (by omega)
    rw [hgd] at hg
    have hsB := hR0 s (by rw [hL]; exact List.mem_append_right _ (List.mem_cons_self ..))
    have hL' : R = (pre ++ [s]) ++ r := by rw [hL, List.append_assoc]; rfl
    have el2 : (pre ++ [s]).length = pre.length + 1 := by rw [List.length_append]; rfl
    obtain ⟨s0, _, _, _, _, _, s6, s7, s8, _, _, _, _, _, u6, u7, u8, _, _, _, _, _, m6, m7, m8⟩ := id hs
    obtain ⟨⟨y0, y1, _⟩, p2, p3, p4, p5, p6⟩ := id hc
    obtain ⟨g1, g2, g3⟩ := hg
    obtain ⟨sb1, sb2, sb3⟩ := id hsB
    have q1 := p2.1.1
    have f7 := p2.2.2.2.2.1
    have efar : (nI s.2.1).toInt64 = lN s.2.1 := nI_l (by omega)
    have p16 : pre.length < 16 := by omega
    have fin : ∀ (h1 : pm_H), clV h1 x bits (vRul bits lt s v) → fr (x + 64) (x + 82) h h1 → pm_W PP (d + 3) 604 Q 0 0 2 [some (.ref (x + 78)), some (.ref c), some (.int (nI lt)), some (.int (nI (pre.length + 1)))] [] h1 := fun h1 k1 k2 => by
      have := ih (pre ++ [s]) (vRul bits lt s v) h1 hL' (chS_eq k2.1 k2.2.1 (by rw [k2.2.2.1]) hs) (by rw [(k2.2.2.2.2 c (by omega)).1]; exact hl) (fun i hi => by rw [(k2.2.2.2.2 (c + 6) (by omega)).1, (k2.2.2.2.2 (c + 7) (by omega)).1, (k2.2.2.2.2 (c + 8) (by omega)).1]; exact hr i hi) k1 (vFo_r hv hsB hH) (fun h2 j1 j2 => hQ h2 j1 (fr_trans k2 j2))
      rw [el2] at this
      exact this
    rw [u_604_2]
    by_cases ca : s.1 = lt
    · have eE : vRul bits lt s v = vAdd bits s.2.2 (qL v.1 + s.2.1) v := by unfold vRul; rw [if_pos ca]
      rw [ca] at g1
      simp (disch := omega) only [B_604_2, nI1T, Nat.left_eq_add, Nat.add_eq_left, Nat.add_eq_zero_iff, and_false, false_and, if_false, if_true, opsN, opsC, pm_1, lg, ls1, ls2, lq, List.length_cons, List.length_nil, cN, cL, callE, retV, retN, pm_pop, pm_cat, List.map_cons, List.map_nil, List.sum_cons, List.sum_nil, Value.category, Option.toList, List.cons_append, List.nil_append, ↓reduceIte, reduceCtorEq, Nat.reduceAdd, Nat.reduceLT, Nat.reduceLeDiff, Nat.reduceSub, Nat.reduceEqDiff, Nat.zero_le, Nat.sub_zero, Nat.le_refl, true_and, and_true, not_true_eq_false, not_false_eq_true, true_or, or_true, lc_eq, lc_ne, lc_lt, lc_ge, lc_gt, lc_le, nI_add, lN_add, nI_leI, nI_ltI, nI_eq, nI_clamp, pk_lLT, pk_lLE, pk_lEQ, pk_sub, vp_inT, nz_eq, nz_lt, nz_ge, nz_gt, nz_le, lz_eq, lz_lt, lz_ge, hP1, hP2, hP3, hP4, hP5, hP6, hP7, hP8, hP9, hP10, hP11, hP12, hP13, hP14, hP15, hP16, hP17, hP18, hP19, hP20, s0, s6, s7, s8, u6, u7, u8, m6, m7, m8, hl, c1, g1, g2, g3, p16, y0, y1, q1, f7, efar]
      have hfo := hv.2
      refine c605 d hc hv.1 sb3 (by omega) (by omega) ?_
      intro h' k1 k2
      simp (disch := omega) only [u_604_45, B_604_45, nI1T, Nat.left_eq_add, Nat.add_eq_left, Nat.add_eq_zero_iff, and_false, false_and, if_false, if_true, opsN, opsC, pm_1, lg, ls1, ls2, lq, List.length_cons, List.length_nil, cN, cL, callE, retV, retN, pm_pop, pm_cat, List.map_cons, List.map_nil, List.sum_cons, List.sum_nil, Value.category, Option.toList, List.cons_append, List.nil_append, ↓reduceIte, reduceCtorEq, Nat.reduceAdd, Nat.reduceLT, Nat.reduceLeDiff, Nat.reduceSub, Nat.reduceEqDiff, Nat.zero_le, Nat.sub_zero, Nat.le_refl, true_and, and_true, not_true_eq_false, not_false_eq_true, true_or, or_true, lc_eq, lc_ne, lc_lt, lc_ge, lc_gt, lc_le, nI_add, lN_add, nI_leI, nI_ltI, nI_eq, nI_clamp, pk_lLT, pk_lLE, pk_lEQ, pk_sub, vp_inT, nz_eq, nz_lt, nz_ge, nz_gt, nz_le, lz_eq, lz_lt, lz_ge, hP1, hP2, hP3, hP4, hP5, hP6, hP7, hP8, hP9, hP10, hP11, hP12, hP13, hP14, hP15, hP16, hP17, hP18, hP19, hP20]
      exact fin h' (by rw [eE]; exact k1) k2
    · have eE : vRul bits lt s v = v := by unfold vRul; rw [if_neg ca]
      simp (disch := omega) only [B_604_2, u_604_45, B_604_45, nI1T, Nat.left_eq_add, Nat.add_eq_left, Nat.add_eq_zero_iff, and_false, false_and, if_false, if_true, opsN, opsC, pm_1, lg, ls1, ls2, lq, List.length_cons, List.length_nil, cN, cL, callE, retV, retN, pm_pop, pm_cat, List.map_cons, List.map_nil, List.sum_cons, List.sum_nil, Value.category, Option.toList, List.cons_append, List.nil_append, ↓reduceIte, reduceCtorEq, Nat.reduceAdd, Nat.reduceLT, Nat.reduceLeDiff, Nat.reduceSub, Nat.reduceEqDiff, Nat.zero_le, Nat.sub_zero, Nat.le_refl, true_and, and_true, not_true_eq_false, not_false_eq_true, true_or, or_true, lc_eq, lc_ne, lc_lt, lc_ge, lc_gt, lc_le, nI_add, lN_add, nI_leI, nI_ltI, nI_eq, nI_clamp, pk_lLT, pk_lLE, pk_lEQ, pk_sub, vp_inT, nz_eq, nz_lt, nz_ge, nz_gt, nz_le, lz_eq, lz_lt, lz_ge, hP1, hP2, hP3, hP4, hP5, hP6, hP7, hP8, hP9, hP10, hP11, hP12, hP13, hP14, hP15, hP16, hP17, hP18, hP19, hP20, s0, s6, s7, s8, u6, u7, u8, m6, m7, m8, hl, c1, g1, g2, g3, p16, ca]
      exact fin h (by rw [eE]; exact hc) (fr_refl _ _ _)
end PL
