/-! ===== ways: the reference goes ===== -/
def edM (h : pm_H) (m : Nat) (E : List Ed) : Prop := hI h m 26 = nI E.length ∧ ∀ i, i < E.length → hI h (m + 630 + i) 0 = nI (E.getD i ed0).1 ∧ hI h (m + 630 + i) 1 = nI (E.getD i ed0).2.1 ∧ hI h (m + 630 + i) 2 = nI (E.getD i ed0).2.2
theorem edM_fr {h h' : pm_H} {m : Nat} {E : List Ed} (h6 : E.length ≤ 60) (f : fWa m h h') (a : edM h m E) : edM h' m E := by
  refine ⟨(f.2.2.2.2.2.2 26 (by decide) (by decide) (by decide)).trans a.1, fun i hi => ?_⟩
  rw [f.2.2.2.2.2.1 (m + 630 + i) (by omega) (by omega) (by omega)]; exact a.2 i hi
theorem q1004 (d : Nat) {h : pm_H} {Q : pm_Q} {a b : Nat} (ha : a < 2 ^ 31) (hb : b < 2 ^ 31) : pm_M PP (d + 1) 1004 [.int (nI a), .int (nI b)] h Q = Q (.inl (some (.int (nI (max a b))))) h := by
  rw [e_1004]
  by_cases c : a ≤ b
  · rw [show max a b = b by omega]
    simp (disch := omega) only [u_1004_0, B_1004_0, u_1004_9, B_1004_9, u_1004_10, B_1004_10, nI1T, Nat.left_eq_add, Nat.add_eq_left, Nat.add_eq_zero_iff, and_false, false_and, if_false, if_true, opsN, opsC, pm_1, lg, ls1, ls2, lq, List.length_cons, List.length_nil, cN, cL, callE, retV, retN, pm_pop, pm_cat, List.map_cons, List.map_nil, List.sum_cons, List.sum_nil, Value.category, Option.toList, List.cons_append, List.nil_append, ↓reduceIte, reduceCtorEq, Nat.reduceAdd, Nat.reduceLT, Nat.reduceLeDiff, Nat.reduceSub, Nat.reduceEqDiff, Nat.zero_le, Nat.sub_zero, Nat.le_refl, true_and, and_true, not_true_eq_false, not_false_eq_true, true_or, or_true, lc_eq, lc_ne, lc_lt, lc_ge, lc_gt, lc_le, nI_add, lN_add, nI_leI, nI_ltI, nI_eq, nI_clamp, pk_lLT, pk_lLE, pk_lEQ, pk_sub, vp_inT, nz_eq, nz_lt, nz_ge, nz_gt, nz_le, lz_eq, lz_lt, lz_ge, hP1, hP2, hP3, hP4, hP5, hP6, hP7, hP8, hP9, hP10, hP11, hP12, hP13, hP14, hP15, hP16, hP17, hP18, hP19, hP20, c]
  · rw [show max a b = a by omega]
    simp (disch := omega) only [u_1004_0, B_1004_0, u_1004_9, B_1004_9, u_1004_10, B_1004_10, nI1T, Nat.left_eq_add, Nat.add_eq_left, Nat.add_eq_zero_iff, and_false, false_and, if_false, if_true, opsN, opsC, pm_1, lg, ls1, ls2, lq, List.length_cons, List.length_nil, cN, cL, callE, retV, retN, pm_pop, pm_cat, List.map_cons, List.map_nil, List.sum_cons, List.sum_nil, Value.category, Option.toList, List.cons_append, List.nil_append, ↓reduceIte, reduceCtorEq, Nat.reduceAdd, Nat.reduceLT, Nat.reduceLeDiff, Nat.reduceSub, Nat.reduceEqDiff, Nat.zero_le, Nat.sub_zero, Nat.le_refl, true_and, and_true, not_true_eq_false, not_false_eq_true, true_or, or_true, lc_eq, lc_ne, lc_lt, lc_ge, lc_gt, lc_le, nI_add, lN_add, nI_leI, nI_ltI, nI_eq, nI_clamp, pk_lLT, pk_lLE, pk_lEQ, pk_sub, vp_inT, nz_eq, nz_lt, nz_ge, nz_gt, nz_le, lz_eq, lz_lt, lz_ge, hP1, hP2, hP3, hP4, hP5, hP6, hP7, hP8, hP9, hP10, hP11, hP12, hP13, hP14, hP15, hP16, hP17, hP18, hP19, hP20, c]
section MW3
variable {m bits : Nat} {Q : pm_Q}
theorem l1070e (d : Nat) {nd : Nat} {E : List Ed} {v2 : Int32} (hE : ∀ e, e ∈ E → edB e) (h6 : E.length ≤ 60) : ∀ (suf pre : List Ed) (T B : Nat) (w : WT) (h : pm_H), E = pre ++ suf → mS h m → edM h m E → mdW h m w B → B + suf.length < 2 ^ 50 → wFo bits T nd w →
      (∀ h', mdW h' m (wFol bits nd suf w) (B + suf.length) → fWa m h h' → hI h' m 47 = hI h m 47 → pm_W PP (d + 5) 1070 Q 0 0 231 [some (.ref m), some (.int (nI bits)), some (.int v2), some (.int (nI nd)), some (.int (nI E.length))] [] h') →
      pm_W PP (d + 5) 1070 Q 0 0 153 [some (.ref m), some (.int (nI bits)), some (.int v2), some (.int (nI nd)), some (.int (nI pre.length))] [] h := by
  intro suf
  induction suf with
  | nil =>
    intro pre T B w h hL hs hr hc hB hw hQ
    have e : pre.length = E.length := by rw [hL, List.append_nil]
    have c1 : E.length ≤ E.length := Nat.le_refl _
    have hl := hr.1
    rw [e]
    rw [u_1070_153]
    simp (disch := omega) only [B_1070_153, nI1T, Nat.left_eq_add, Nat.add_eq_left, Nat.add_eq_zero_iff, and_false, false_and, if_false, if_true, opsN, opsC, pm_1, lg, ls1, ls2, lq, List.length_cons, List.length_nil, cN, cL, callE, retV, retN, pm_pop, pm_cat, List.map_cons, List.map_nil, List.sum_cons, List.sum_nil, Value.category, Option.toList, List.cons_append, List.nil_append, ↓reduceIte, reduceCtorEq, Nat.reduceAdd, Nat.reduceLT, Nat.reduceLeDiff, Nat.reduceSub, Nat.reduceEqDiff, Nat.zero_le, Nat.sub_zero, Nat.le_refl, true_and, and_true, not_true_eq_false, not_false_eq_true, true_or, or_true, lc_eq, lc_ne, lc_lt, lc_ge, lc_gt, lc_le, nI_add, lN_add, nI_leI, nI_ltI, nI_eq, nI_clamp, pk_lLT, pk_lLE, pk_lEQ, pk_sub, vp_inT, nz_eq, nz_lt, nz_ge, nz_gt, nz_le, lz_eq, lz_lt, lz_ge, hP1, hP2, hP3, hP4, hP5, hP6, hP7, hP8, hP9, hP10, hP11, hP12, hP13, hP14, hP15, hP16, hP17, hP18, hP19, hP20, hs.1, hl, c1]
    exact hQ h hc (fWa_refl _ _) rfl
  | cons s r ih =>
    intro pre T B w h hL hs hr hc hB hw hQ
    have el : E.length = pre.length + (r.length + 1) := by rw [hL, List.length_append, List.length_cons]
    have c1 : ¬ E.length ≤ pre.length := by omega
    have hgd : E.getD pre.length ed0 = s := by
      rw [hL, List.getD_eq_getElem?_getD, List.getElem?_append_right (Nat.le_refl _), Nat.sub_self]; rfl
    have hg := hr.2 pre.length (by omega)
    have hl := hr.1
    rw [hgd] at hg
    have hsB := hE s (by rw [hL]; exact List.mem_append_right _ (List.mem_cons_self ..))
    have hL' : E = (pre ++ [s]) ++ r := by rw [hL, List.append_assoc]; rfl
    have el2 : (pre ++ [s]).length = pre.length + 1 := by rw [List.length_append]; rfl
    have hB' : B + (r.length + 1) < 2 ^ 50 := hB
    obtain ⟨⟨sn, st, q1, _, _⟩, p3, _⟩ := id hc
    obtain ⟨g1, g2, g3⟩ := hg
    obtain ⟨sb1, sb2, sb3⟩ := hsB
    have gR2 := (p3 s.2.1 sb2).2.2.1
    have g0 := q1.2.2.1
    have efar : (nI s.2.2).toInt64 = lN s.2.2 := nI_l (by omega)
    have p60 : pre.length < 60 := by omega
    have fin : ∀ (h1 : pm_H), mdW h1 m (wEd bits nd s w) (B + 1) → fWa m h h1 → hI h1 m 47 = hI h m 47 → pm_W PP (d + 5) 1070 Q 0 0 153 [some (.ref m), some (.int (nI bits)), some (.int v2), some (.int (nI nd)), some (.int (nI (pre.length + 1)))] [] h1 := fun h1 k1 k2 k3 => by
      have := ih (pre ++ [s]) (T + 1) (B + 1) (wEd bits nd s w) h1 hL' (mS_Wa k2 hs) (edM_fr h6 k2 hr) k1 (by omega) (wFo_ed hw ⟨sb1, sb2, sb3⟩) (fun h2 j1 j2 j3 => hQ h2 (by rw [List.length_cons, show B + (r.length + 1) = B + 1 + r.length by omega]; exact j1) (fWa_trans k2 j2) (j3.trans k3))
      rw [el2] at this
      exact this
    rw [u_1070_153]
    by_cases ca : s.1 = nd
    · by_cases cb : wR w s.2.1 = none
      · have eE : wEd bits nd s w = wTry bits nd s.2.1 (qL (wQ w) + s.2.2) w := by unfold wEd; rw [if_pos ⟨ca, cb⟩]
        rw [cb] at gR2
        have gR2 : hI h (m + 816) s.2.1 = -nI 1 := gR2
        rw [ca] at g1
        simp (disch := omega) only [B_1070_153, nI1T, Nat.left_eq_add, Nat.add_eq_left, Nat.add_eq_zero_iff, and_false, false_and, if_false, if_true, opsN, opsC, pm_1, lg, ls1, ls2, lq, List.length_cons, List.length_nil, cN, cL, callE, retV, retN, pm_pop, pm_cat, List.map_cons, List.map_nil, List.sum_cons, List.sum_nil, Value.category, Option.toList, List.cons_append, List.nil_append, ↓reduceIte, reduceCtorEq, Nat.reduceAdd, Nat.reduceLT, Nat.reduceLeDiff, Nat.reduceSub, Nat.reduceEqDiff, Nat.zero_le, Nat.sub_zero, Nat.le_refl, true_and, and_true, not_true_eq_false, not_false_eq_true, true_or, or_true, lc_eq, lc_ne, lc_lt, lc_ge, lc_gt, lc_le, nI_add, lN_add, nI_leI, nI_ltI, nI_eq, nI_clamp, pk_lLT, pk_lLE, pk_lEQ, pk_sub, vp_inT, nz_eq, nz_lt, nz_ge, nz_gt, nz_le, lz_eq, lz_lt, lz_ge, hP1, hP2, hP3, hP4, hP5, hP6, hP7, hP8, hP9, hP10, hP11, hP12, hP13, hP14, hP15, hP16, hP17, hP18, hP19, hP20, hs.1, m_g19 hs, m_t629 hs, m_n629 hs, m_r629 hs, m_rt629 hs, m_rn629 hs, m_g34 hs, m_t811 hs, m_n811 hs, m_g42 hs, m_t816 hs, m_n816 hs, hl, c1, g1, g2, g3, p60, sb2, gR2, g0, efar]
        refine c1071 d hs hc hw.1 hw.2.2.2.1 hw.2.1 sb2 cb (by omega) (by have := hw.2.2.2.2; omega) (by omega) ?_
        intro h' k1 k2 k3
        simp (disch := omega) only [u_1070_225, B_1070_225, nI1T, Nat.left_eq_add, Nat.add_eq_left, Nat.add_eq_zero_iff, and_false, false_and, if_false, if_true, opsN, opsC, pm_1, lg, ls1, ls2, lq, List.length_cons, List.length_nil, cN, cL, callE, retV, retN, pm_pop, pm_cat, List.map_cons, List.map_nil, List.sum_cons, List.sum_nil, Value.category, Option.toList, List.cons_append, List.nil_append, ↓reduceIte, reduceCtorEq, Nat.reduceAdd, Nat.reduceLT, Nat.reduceLeDiff, Nat.reduceSub, Nat.reduceEqDiff, Nat.zero_le, Nat.sub_zero, Nat.le_refl, true_and, and_true, not_true_eq_false, not_false_eq_true, true_or, or_true, lc_eq, lc_ne, lc_lt, lc_ge, lc_gt, lc_le, nI_add, lN_add, nI_leI, nI_ltI, nI_eq, nI_clamp, pk_lLT, pk_lLE, pk_lEQ, pk_sub, vp_inT, nz_eq, nz_lt, nz_ge, nz_gt, nz_le, lz_eq, lz_lt, lz_ge, hP1, hP2, hP3, hP4, hP5, hP6, hP7, hP8, hP9, hP10, hP11, hP12, hP13, hP14, hP15, hP16, hP17, hP18, hP19, hP20]
        exact fin h' (by rw [eE]; exact k1) k2 k3
      · have eE : wEd bits nd s w = w := by unfold wEd; rw [if_neg (fun q => cb q.2)]
        cases hrk : wR w s.2.1 with
        | none => exact absurd hrk cb
        | some rk =>
          rw [hrk, iv_so] at gR2
          have := hw.1.2.2.2.2.2.2.1 _ rk sb2 hrk
          have h16 := hw.2.2.2.1
          have e1 := m1_ne (n := rk) (by omega)
          rw [ca] at g1
          simp (disch := omega) only [B_1070_153, u_1070_225, B_1070_225, nI1T, Nat.left_eq_add, Nat.add_eq_left, Nat.add_eq_zero_iff, and_false, false_and, if_false, if_true, opsN, opsC, pm_1, lg, ls1, ls2, lq, List.length_cons, List.length_nil, cN, cL, callE, retV, retN, pm_pop, pm_cat, List.map_cons, List.map_nil, List.sum_cons, List.sum_nil, Value.category, Option.toList, List.cons_append, List.nil_append, ↓reduceIte, reduceCtorEq, Nat.reduceAdd, Nat.reduceLT, Nat.reduceLeDiff, Nat.reduceSub, Nat.reduceEqDiff, Nat.zero_le, Nat.sub_zero, Nat.le_refl, true_and, and_true, not_true_eq_false, not_false_eq_true, true_or, or_true, lc_eq, lc_ne, lc_lt, lc_ge, lc_gt, lc_le, nI_add, lN_add, nI_leI, nI_ltI, nI_eq, nI_clamp, pk_lLT, pk_lLE, pk_lEQ, pk_sub, vp_inT, nz_eq, nz_lt, nz_ge, nz_gt, nz_le, lz_eq, lz_lt, lz_ge, hP1, hP2, hP3, hP4, hP5, hP6, hP7, hP8, hP9, hP10, hP11, hP12, hP13, hP14, hP15, hP16, hP17, hP18, hP19, hP20, hs.1, m_g19 hs, m_t629 hs, m_n629 hs, m_r629 hs, m_rt629 hs, m_rn629 hs, m_g34 hs, m_t811 hs, m_n811 hs, m_g42 hs, m_t816 hs, m_n816 hs, hl, c1, g1, g2, g3, p60, sb2, gR2, e1]
          exact fin h (by rw [eE]; exact mdW_up (by omega) hc) (fWa_refl _ _) rfl
    · have eE : wEd bits nd s w = w := by unfold wEd; rw [if_neg (fun q => ca q.1)]
      have hnd := hw.2.1
      simp (disch := omega) only [B_1070_153, u_1070_225, B_1070_225, nI1T, Nat.left_eq_add, Nat.add_eq_left, Nat.add_eq_zero_iff, and_false, false_and, if_false, if_true, opsN, opsC, pm_1, lg, ls1, ls2, lq, List.length_cons, List.length_nil, cN, cL, callE, retV, retN, pm_pop, pm_cat, List.map_cons, List.map_nil, List.sum_cons, List.sum_nil, Value.category, Option.toList, List.cons_append, List.nil_append, ↓reduceIte, reduceCtorEq, Nat.reduceAdd, Nat.reduceLT, Nat.reduceLeDiff, Nat.reduceSub, Nat.reduceEqDiff, Nat.zero_le, Nat.sub_zero, Nat.le_refl, true_and, and_true, not_true_eq_false, not_false_eq_true, true_or, or_true, lc_eq, lc_ne, lc_lt, lc_ge, lc_gt, lc_le, nI_add, lN_add, nI_leI, nI_ltI, nI_eq, nI_clamp, pk_lLT, pk_lLE, pk_lEQ, pk_sub, vp_inT, nz_eq, nz_lt, nz_ge, nz_gt, nz_le, lz_eq, lz_lt, lz_ge, hP1, hP2, hP3, hP4, hP5, hP6, hP7, hP8, hP9, hP10, hP11, hP12, hP13, hP14, hP15, hP16, hP17, hP18, hP19, hP20, hs.1, m_g19 hs, m_t629 hs, m_n629 hs, m_r629 hs, m_rt629 hs, m_rn629 hs, hl, c1, g1, g2, g3, p60, ca]
      exact fin h (by rw [eE]; exact mdW_up (by omega) hc) (fWa_refl _ _) rfl
theorem l1070 (d : Nat) {E : List Ed} {v2 : Int32} (hE : ∀ e, e ∈ E → edB e) (h6 : E.length ≤ 60) : ∀ (n T B : Nat) (w : WT) (h : pm_H) (v3 v4 : Option Value), mS h m → edM h m E → mdW h m w B → B + 80 * (n + 1) < 2 ^ 50 → hI h m 47 = nI (wM w) → wM w ≤ 16 → wOK bits T w → 16 ≤ n + wN w →
      (∀ h', mdW h' m (wGo bits E n w) (B + 80 * n) → hI h' m 47 = nI (wM (wGo bits E n w)) → fWa m h h' → Q (.inl none) h') →
      pm_W PP (d + 5) 1070 Q 0 0 93 [some (.ref m), some (.int (nI bits)), some (.int v2), v3, v4] [] h := by
  intro n
  induction n with
  | zero =>
    intro T B w h v3 v4 hs hr hc hB h7 hm hw hn hQ
    have i3 := hw.1.2.2.1
    have a4 := hw.2.2.2.1
    have e : (qN (wQ w)).length = 0 := by omega
    obtain ⟨⟨sn, st, q1, _, _⟩, p3, _⟩ := id hc
    rw [u_1070_93]
    simp (disch := omega) only [B_1070_93, nI1T, Nat.left_eq_add, Nat.add_eq_left, Nat.add_eq_zero_iff, and_false, false_and, if_false, if_true, opsN, opsC, pm_1, lg, ls1, ls2, lq, List.length_cons, List.length_nil, cN, cL, callE, retV, retN, pm_pop, pm_cat, List.map_cons, List.map_nil, List.sum_cons, List.sum_nil, Value.category, Option.toList, List.cons_append, List.nil_append, ↓reduceIte, reduceCtorEq, Nat.reduceAdd, Nat.reduceLT, Nat.reduceLeDiff, Nat.reduceSub, Nat.reduceEqDiff, Nat.zero_le, Nat.sub_zero, Nat.le_refl, true_and, and_true, not_true_eq_false, not_false_eq_true, true_or, or_true, lc_eq, lc_ne, lc_lt, lc_ge, lc_gt, lc_le, nI_add, lN_add, nI_leI, nI_ltI, nI_eq, nI_clamp, pk_lLT, pk_lLE, pk_lEQ, pk_sub, vp_inT, nz_eq, nz_lt, nz_ge, nz_gt, nz_le, lz_eq, lz_lt, lz_ge, hP1, hP2, hP3, hP4, hP5, hP6, hP7, hP8, hP9, hP10, hP11, hP12, hP13, hP14, hP15, hP16, hP17, hP18, hP19, hP20, hs.1, m_g34 hs, m_t811 hs, m_n811 hs]
    refine c1014 (d + 2) q1 hw.1 ?_
    rw [e]
    simp (disch := omega) only [u_1070_252, B_1070_252, nI1T, Nat.left_eq_add, Nat.add_eq_left, Nat.add_eq_zero_iff, and_false, false_and, if_false, if_true, opsN, opsC, pm_1, lg, ls1, ls2, lq, List.length_cons, List.length_nil, cN, cL, callE, retV, retN, pm_pop, pm_cat, List.map_cons, List.map_nil, List.sum_cons, List.sum_nil, Value.category, Option.toList, List.cons_append, List.nil_append, ↓reduceIte, reduceCtorEq, Nat.reduceAdd, Nat.reduceLT, Nat.reduceLeDiff, Nat.reduceSub, Nat.reduceEqDiff, Nat.zero_le, Nat.sub_zero, Nat.le_refl, true_and, and_true, not_true_eq_false, not_false_eq_true, true_or, or_true, lc_eq, lc_ne, lc_lt, lc_ge, lc_gt, lc_le, nI_add, lN_add, nI_leI, nI_ltI, nI_eq, nI_clamp, pk_lLT, pk_lLE, pk_lEQ, pk_sub, vp_inT, nz_eq, nz_lt, nz_ge, nz_gt, nz_le, lz_eq, lz_lt, lz_ge, hP1, hP2, hP3, hP4, hP5, hP6, hP7, hP8, hP9, hP10, hP11, hP12, hP13, hP14, hP15, hP16, hP17, hP18, hP19, hP20]
    exact hQ h hc h7 (fWa_refl _ _)
  | succ n ih =>
    intro T B w h v3 v4 hs hr hc hB h7 hm hw hn hQ
    have i3 := hw.1.2.2.1
    have a4 := hw.2.2.2.1
    obtain ⟨⟨sn, st, q1, q2, q3⟩, p3, p6, p4, p5, p7⟩ := id hc
    rw [u_1070_93]
    simp (disch := omega) only [B_1070_93, nI1T, Nat.left_eq_add, Nat.add_eq_left, Nat.add_eq_zero_iff, and_false, false_and, if_false, if_true, opsN, opsC, pm_1, lg, ls1, ls2, lq, List.length_cons, List.length_nil, cN, cL, callE, retV, retN, pm_pop, pm_cat, List.map_cons, List.map_nil, List.sum_cons, List.sum_nil, Value.category, Option.toList, List.cons_append, List.nil_append, ↓reduceIte, reduceCtorEq, Nat.reduceAdd, Nat.reduceLT, Nat.reduceLeDiff, Nat.reduceSub, Nat.reduceEqDiff, Nat.zero_le, Nat.sub_zero, Nat.le_refl, true_and, and_true, not_true_eq_false, not_false_eq_true, true_or, or_true, lc_eq, lc_ne, lc_lt, lc_ge, lc_gt, lc_le, nI_add, lN_add, nI_leI, nI_ltI, nI_eq, nI_clamp, pk_lLT, pk_lLE, pk_lEQ, pk_sub, vp_inT, nz_eq, nz_lt, nz_ge, nz_gt, nz_le, lz_eq, lz_lt, lz_ge, hP1, hP2, hP3, hP4, hP5, hP6, hP7, hP8, hP9, hP10, hP11, hP12, hP13, hP14, hP15, hP16, hP17, hP18, hP19, hP20, hs.1, m_g34 hs, m_t811 hs, m_n811 hs]
    refine c1014 (d + 2) q1 hw.1 ?_
    by_cases c2 : (qN (wQ w)).length = 0
    · have eG : wGo bits E (n + 1) w = w := by show (if _ then w else _) = w; rw [if_pos c2]
      rw [eG] at hQ
      rw [c2]
      simp (disch := omega) only [u_1070_252, B_1070_252, nI1T, Nat.left_eq_add, Nat.add_eq_left, Nat.add_eq_zero_iff, and_false, false_and, if_false, if_true, opsN, opsC, pm_1, lg, ls1, ls2, lq, List.length_cons, List.length_nil, cN, cL, callE, retV, retN, pm_pop, pm_cat, List.map_cons, List.map_nil, List.sum_cons, List.sum_nil, Value.category, Option.toList, List.cons_append, List.nil_append, ↓reduceIte, reduceCtorEq, Nat.reduceAdd, Nat.reduceLT, Nat.reduceLeDiff, Nat.reduceSub, Nat.reduceEqDiff, Nat.zero_le, Nat.sub_zero, Nat.le_refl, true_and, and_true, not_true_eq_false, not_false_eq_true, true_or, or_true, lc_eq, lc_ne, lc_lt, lc_ge, lc_gt, lc_le, nI_add, lN_add, nI_leI, nI_ltI, nI_eq, nI_clamp, pk_lLT, pk_lLE, pk_lEQ, pk_sub, vp_inT, nz_eq, nz_lt, nz_ge, nz_gt, nz_le, lz_eq, lz_lt, lz_ge, hP1, hP2, hP3, hP4, hP5, hP6, hP7, hP8, hP9, hP10, hP11, hP12, hP13, hP14, hP15, hP16, hP17, hP18, hP19, hP20]
      exact hQ h (mdW_up (by omega) hc) h7 (fWa_refl _ _)
    · have hne : qN (wQ w) ≠ [] := fun z => c2 (by rw [z]; rfl)
      have eG : wGo bits E (n + 1) w = wGo bits E n (wTurn bits E w) := by show (if _ then w else _) = _; rw [if_neg c2]
      rw [eG] at hQ
      obtain ⟨tk1, tk2, tk3, tk4, tk5⟩ := take_f hw.1 hne
      obtain ⟨u1, u2, u3, u4⟩ := qI_take hw.1 hne
      obtain ⟨o1, o2⟩ := hw.2.1 _ tk4
      have t16 : qTop bits (wQ w) < 16 := by omega
      simp (disch := omega) only [nI1T, Nat.left_eq_add, Nat.add_eq_left, Nat.add_eq_zero_iff, and_false, false_and, if_false, if_true, opsN, opsC, pm_1, lg, ls1, ls2, lq, List.length_cons, List.length_nil, cN, cL, callE, retV, retN, pm_pop, pm_cat, List.map_cons, List.map_nil, List.sum_cons, List.sum_nil, Value.category, Option.toList, List.cons_append, List.nil_append, ↓reduceIte, reduceCtorEq, Nat.reduceAdd, Nat.reduceLT, Nat.reduceLeDiff, Nat.reduceSub, Nat.reduceEqDiff, Nat.zero_le, Nat.sub_zero, Nat.le_refl, true_and, and_true, not_true_eq_false, not_false_eq_true, true_or, or_true, lc_eq, lc_ne, lc_lt, lc_ge, lc_gt, lc_le, nI_add, lN_add, nI_leI, nI_ltI, nI_eq, nI_clamp, pk_lLT, pk_lLE, pk_lEQ, pk_sub, vp_inT, nz_eq, nz_lt, nz_ge, nz_gt, nz_le, lz_eq, lz_lt, lz_ge, hP1, hP2, hP3, hP4, hP5, hP6, hP7, hP8, hP9, hP10, hP11, hP12, hP13, hP14, hP15, hP16, hP17, hP18, hP19, hP20, hs.1, m_g34 hs, m_t811 hs, m_n811 hs, m_g40 hs, m_t814 hs, m_n814 hs, c2]
      refine c1018 d (mU_of hs) q1 hw.1 q2 hne (by omega) ?_
      intro h1 sn' st' z1 z2 z3 z4 z5
      have hu : wR w (wO w (qTop bits (wQ w))) = none := (hw.2.2.2.2.1 _ _ o1 o2).mpr tk1
      have k1 := mdW_q (B' := B + 16) hc z5 ⟨sn', st', z1, z2, by omega⟩ (by rw [u2]; exact Nat.le_refl _) (fun _ _ _ _ _ _ => by rw [tk2])
      have hs1 := mS_Wa (fWa_Q z5) hs
      obtain ⟨kq, k3, k6, k4, k5, k7⟩ := k1
      have gO : hI h1 (m + 814) (qTop bits (wQ w)) = nI (wO w (qTop bits (wQ w))) := k4 _ (by show _ < qC (qTake bits (wQ w)); rw [u2]; exact tk4)
      have k5 : hI h1 m 45 = nI (wN w) := k5
      have g0 : hL h1 (m + 811) 0 = lN (qL (qTake bits (wQ w))) := z1.2.2.1
      simp (disch := omega) only [nI1T, Nat.left_eq_add, Nat.add_eq_left, Nat.add_eq_zero_iff, and_false, false_and, if_false, if_true, opsN, opsC, pm_1, lg, ls1, ls2, lq, List.length_cons, List.length_nil, cN, cL, callE, retV, retN, pm_pop, pm_cat, List.map_cons, List.map_nil, List.sum_cons, List.sum_nil, Value.category, Option.toList, List.cons_append, List.nil_append, ↓reduceIte, reduceCtorEq, Nat.reduceAdd, Nat.reduceLT, Nat.reduceLeDiff, Nat.reduceSub, Nat.reduceEqDiff, Nat.zero_le, Nat.sub_zero, Nat.le_refl, true_and, and_true, not_true_eq_false, not_false_eq_true, true_or, or_true, lc_eq, lc_ne, lc_lt, lc_ge, lc_gt, lc_le, nI_add, lN_add, nI_leI, nI_ltI, nI_eq, nI_clamp, pk_lLT, pk_lLE, pk_lEQ, pk_sub, vp_inT, nz_eq, nz_lt, nz_ge, nz_gt, nz_le, lz_eq, lz_lt, lz_ge, hP1, hP2, hP3, hP4, hP5, hP6, hP7, hP8, hP9, hP10, hP11, hP12, hP13, hP14, hP15, hP16, hP17, hP18, hP19, hP20, hs1.1, m_g34 hs1, m_t811 hs1, m_n811 hs1, m_g40 hs1, m_t814 hs1, m_n814 hs1, m_g42 hs1, m_t816 hs1, m_n816 hs1, m_g44 hs1, m_t818 hs1, m_n818 hs1, gO, g0, k5, o1, t16, va_upE]
      have f1 : fWa m h (sI (sI (sL h1 (m + 818) (va_up (hL h1 (m + 818)) (wO w (qTop bits (wQ w))) (lN (qL (qTake bits (wQ w)))))) (m + 816) (va_up (hI h1 (m + 816)) (wO w (qTop bits (wQ w))) (nI (wN w)))) m (va_up (hI h1 m) 45 (nI (wN w + 1)))) := by
        have b := fWa_f (m := m) (j := 45) (h := sI (sL h1 (m + 818) (va_up (hL h1 (m + 818)) (wO w (qTop bits (wQ w))) (lN (qL (qTake bits (wQ w)))))) (m + 816) (va_up (hI h1 (m + 816)) (wO w (qTop bits (wQ w))) (nI (wN w)))) (v := nI (wN w + 1)) (by omega)
        rw [hP1, va_up_ne _ _ (show m ≠ m + 816 by omega)] at b
        exact fWa_trans (fWa_Q z5) (fWa_trans (fWa_L (by omega)) (fWa_trans (fWa_r (by omega) (by omega)) b))
      have md1 : mdW (sI (sI (sL h1 (m + 818) (va_up (hL h1 (m + 818)) (wO w (qTop bits (wQ w))) (lN (qL (qTake bits (wQ w)))))) (m + 816) (va_up (hI h1 (m + 816)) (wO w (qTop bits (wQ w))) (nI (wN w)))) m (va_up (hI h1 m) 45 (nI (wN w + 1)))) m (wTake bits w) (B + 16) := by
        refine ⟨?_, fun j hj => ?_, fun j hj => ?_, fun j hj => ?_, ?_, ?_⟩
        · obtain ⟨sn9, st9, y1, y2, y3⟩ := kq
          exact ⟨sn9, st9, isQ_eq (h := h1) rfl rfl (by rw [hP2, hP2, hP7, va_up_ne _ _ (by omega)]) y1, y2, y3⟩
        · have a := k3 j hj
          refine ⟨?_, ?_, ?_, ?_⟩
          · rw [hP1, va_up_ne _ _ (by omega), hP1, va_up_ne _ _ (by omega)]; exact a.1
          · rw [hP1, va_up_ne _ _ (by omega), hP1, va_up_ne _ _ (by omega)]; exact a.2.1
          · rw [hP1, va_up_ne _ _ (by omega), hI_at]
            show va_up (hI h1 (m + 816)) (wO w (qTop bits (wQ w))) (nI (wN w)) j = iv (va_up (wR w) (wO w (qTop bits (wQ w))) (some (wN w)) j)
            rw [va_upE, va_upE]; split
            · rfl
            · exact a.2.2.1
          · rw [hP1, va_up_ne _ _ (by omega), hP1, va_up_ne _ _ (by omega)]; exact a.2.2.2
        · rw [hP2, hP2, hP7, va_up_self, va_upE]
          by_cases e : j = wO w (qTop bits (wQ w))
          · rw [if_pos e, farV_1 (w := wTake bits w) (r := wN w) (i := qTop bits (wQ w)) (by show va_up (wR w) _ _ j = _; rw [e, va_up_self]) (by show wI w j = _; rw [e]; exact o2)]
            show lN (qL (qTake bits (wQ w))) = lN (qK (qTake bits (wQ w)) (qTop bits (wQ w)))
            rw [tk2, tk3]
          · rw [if_neg e, k6 j hj]
            have er : wR (wTake bits w) j = wR w j := by show va_up (wR w) _ _ j = _; rw [va_up_ne _ _ e]
            unfold farV
            rw [er]; rfl
        · rw [hP1, va_up_ne _ _ (by omega), hP1, va_up_ne _ _ (by omega)]; exact k4 j hj
        · rw [hI_at, va_up_self]; rfl
        · rw [hI_at, va_up_ne _ _ (by decide)]; exact k7
      have h71 : hI (sI (sI (sL h1 (m + 818) (va_up (hL h1 (m + 818)) (wO w (qTop bits (wQ w))) (lN (qL (qTake bits (wQ w)))))) (m + 816) (va_up (hI h1 (m + 816)) (wO w (qTop bits (wQ w))) (nI (wN w)))) m (va_up (hI h1 m) 45 (nI (wN w + 1)))) m 47 = nI (wM w) := by
        rw [hI_at, va_up_ne _ _ (by decide), z5.2.2.2.2.1 m (by omega)]; exact h7
      generalize sI (sI (sL h1 (m + 818) (va_up (hL h1 (m + 818)) (wO w (qTop bits (wQ w))) (lN (qL (qTake bits (wQ w)))))) (m + 816) (va_up (hI h1 (m + 816)) (wO w (qTop bits (wQ w))) (nI (wN w)))) m (va_up (hI h1 m) 45 (nI (wN w + 1))) = h2 at *
      refine l1070e d (E := E) hE h6 E [] (T + 1) (B + 16) (wTake bits w) h2 rfl (mS_Wa f1 hs) (edM_fr h6 f1 hr) md1 (by omega) (wFo_take hw hne) ?_
      intro h3 j1 j2 j3
      obtain ⟨tO, tN⟩ := wOK_turn hw hne hE h6
      have i11 : (qN (wQ (wFol bits (wO w (qTop bits (wQ w))) E (wTake bits w)))).length ≤ 16 := Nat.le_trans tO.1.2.2.2.2.2.2.2.2.2.2.1 tO.1.2.2.1
      have wm : wM (wFol bits (wO w (qTop bits (wQ w))) E (wTake bits w)) = wM w := wFol_M _ _
      have tI : qI bits 16 (wQ (wFol bits (wO w (qTop bits (wQ w))) E (wTake bits w))) := tO.1
      have hs3 := mS_Wa j2 (mS_Wa f1 hs)
      have h73 : hI h3 m 47 = nI (wM w) := j3.trans h71
      obtain ⟨⟨sn3, st3, y1, y2, y3⟩, w3, w6, w4, w5, w7⟩ := id j1
      simp (disch := omega) only [u_1070_231, B_1070_231, nI1T, Nat.left_eq_add, Nat.add_eq_left, Nat.add_eq_zero_iff, and_false, false_and, if_false, if_true, opsN, opsC, pm_1, lg, ls1, ls2, lq, List.length_cons, List.length_nil, cN, cL, callE, retV, retN, pm_pop, pm_cat, List.map_cons, List.map_nil, List.sum_cons, List.sum_nil, Value.category, Option.toList, List.cons_append, List.nil_append, ↓reduceIte, reduceCtorEq, Nat.reduceAdd, Nat.reduceLT, Nat.reduceLeDiff, Nat.reduceSub, Nat.reduceEqDiff, Nat.zero_le, Nat.sub_zero, Nat.le_refl, true_and, and_true, not_true_eq_false, not_false_eq_true, true_or, or_true, lc_eq, lc_ne, lc_lt, lc_ge, lc_gt, lc_le, nI_add, lN_add, nI_leI, nI_ltI, nI_eq, nI_clamp, pk_lLT, pk_lLE, pk_lEQ, pk_sub, vp_inT, nz_eq, nz_lt, nz_ge, nz_gt, nz_le, lz_eq, lz_lt, lz_ge, hP1, hP2, hP3, hP4, hP5, hP6, hP7, hP8, hP9, hP10, hP11, hP12, hP13, hP14, hP15, hP16, hP17, hP18, hP19, hP20, hs3.1, m_g34 hs3, m_t811 hs3, m_n811 hs3, h73]
      refine c1014 (d + 2) y1 tI ?_
      simp (disch := omega) only [nI1T, Nat.left_eq_add, Nat.add_eq_left, Nat.add_eq_zero_iff, and_false, false_and, if_false, if_true, opsN, opsC, pm_1, lg, ls1, ls2, lq, List.length_cons, List.length_nil, cN, cL, callE, retV, retN, pm_pop, pm_cat, List.map_cons, List.map_nil, List.sum_cons, List.sum_nil, Value.category, Option.toList, List.cons_append, List.nil_append, ↓reduceIte, reduceCtorEq, Nat.reduceAdd, Nat.reduceLT, Nat.reduceLeDiff, Nat.reduceSub, Nat.reduceEqDiff, Nat.zero_le, Nat.sub_zero, Nat.le_refl, true_and, and_true, not_true_eq_false, not_false_eq_true, true_or, or_true, lc_eq, lc_ne, lc_lt, lc_ge, lc_gt, lc_le, nI_add, lN_add, nI_leI, nI_ltI, nI_eq, nI_clamp, pk_lLT, pk_lLE, pk_lEQ, pk_sub, vp_inT, nz_eq, nz_lt, nz_ge, nz_gt, nz_le, lz_eq, lz_lt, lz_ge, hP1, hP2, hP3, hP4, hP5, hP6, hP7, hP8, hP9, hP10, hP11, hP12, hP13, hP14, hP15, hP16, hP17, hP18, hP19, hP20]
      rw [q1004 _ (by omega) (by omega)]
      simp (disch := omega) only [nI1T, Nat.left_eq_add, Nat.add_eq_left, Nat.add_eq_zero_iff, and_false, false_and, if_false, if_true, opsN, opsC, pm_1, lg, ls1, ls2, lq, List.length_cons, List.length_nil, cN, cL, callE, retV, retN, pm_pop, pm_cat, List.map_cons, List.map_nil, List.sum_cons, List.sum_nil, Value.category, Option.toList, List.cons_append, List.nil_append, ↓reduceIte, reduceCtorEq, Nat.reduceAdd, Nat.reduceLT, Nat.reduceLeDiff, Nat.reduceSub, Nat.reduceEqDiff, Nat.zero_le, Nat.sub_zero, Nat.le_refl, true_and, and_true, not_true_eq_false, not_false_eq_true, true_or, or_true, lc_eq, lc_ne, lc_lt, lc_ge, lc_gt, lc_le, nI_add, lN_add, nI_leI, nI_ltI, nI_eq, nI_clamp, pk_lLT, pk_lLE, pk_lEQ, pk_sub, vp_inT, nz_eq, nz_lt, nz_ge, nz_gt, nz_le, lz_eq, lz_lt, lz_ge, hP1, hP2, hP3, hP4, hP5, hP6, hP7, hP8, hP9, hP10, hP11, hP12, hP13, hP14, hP15, hP16, hP17, hP18, hP19, hP20, hs3.1]
      have m2 : wM (wTurn bits E w) = max (wM w) (qN (wQ (wFol bits (wO w (qTop bits (wQ w))) E (wTake bits w)))).length := by
        show max (wM (wFol bits (wO w (qTop bits (wQ w))) E (wTake bits w))) _ = _
        rw [wm]
      have f4 : fWa m h (sI h3 m (va_up (hI h3 m) 47 (nI (max (wM w) (qN (wQ (wFol bits (wO w (qTop bits (wQ w))) E (wTake bits w)))).length)))) := fWa_trans f1 (fWa_trans j2 (fWa_f (by omega)))
      refine ih (T + 61) (B + 80) (wTurn bits E w) _ _ _ (mS_Wa f4 hs) (edM_fr h6 f4 hr) ⟨⟨sn3, st3, isQ_eq (h := h3) rfl rfl rfl y1, y2, by omega⟩, fun j hj => ?_, w6, fun j hj => ?_, ?_, ?_⟩ (by omega) ?_ (by rw [m2]; omega) tO (by omega) (fun h5 l1 l2 l3 => hQ h5 (mdW_up (by omega) l1) l2 (fWa_trans f4 l3))
      · rw [hP1, va_up_ne _ _ (by omega), va_up_ne _ _ (by omega), va_up_ne _ _ (by omega), va_up_ne _ _ (by omega)]; exact w3 j hj
      · rw [hP1, va_up_ne _ _ (by omega)]; exact w4 j hj
      · rw [hI_at, va_up_ne _ _ (by decide)]; exact w5
      · rw [hI_at, va_up_ne _ _ (by decide)]; exact w7
      · rw [m2, hI_at, va_up_self]
end MW3
