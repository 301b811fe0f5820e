/-! ===== ways: what is asked ===== -/
theorem wN_le {bits T : Nat} {w : WT} (hw : wOK bits T w) : wN w ≤ 16 := by
  have := hw.2.2.2.1
  have := hw.1.2.2.1
  omega
def nodV (w : WT) (n : Nat) : Int32 := match wR w n with
  | none => nI 0
  | some _ => nI (orL (pth w 17 n) 0)
def edgV (w : WT) (n : Nat) : Int32 := match wR w n with
  | none => -nI 1
  | some _ => nI (rst w 16 n).length
def movV (w : WT) (n : Nat) : Nat := match wI w n with
  | none => 0
  | some i => qM (wQ w) i
theorem z_or (n : Nat) : 0 ||| 2 ^ n = 2 ^ n := Nat.zero_or _
section WA
variable {h : pm_H} {x m bits T : Nat} {w : WT} {Q : pm_Q}
theorem n936m (d : Nat) : pm_M PP (d + 1) 936 [.int (-nI 1)] h Q = Q (.inl (some (.int (nI 0)))) h := n936f d (.inl (by decide))
theorem l708 (d : Nat) {v1 : Int32} (hc : clW h x bits w) (hw : wOK bits T w) : ∀ (f n r i a : Nat), n < 16 → wR w n = some r → r < f → i + r < 16 → a < 2 ^ 16 → Q (.inl (some (.int (nI (orL (pth w f n) a))))) h →
    pm_W PP (d + 1) 708 Q 0 0 19 [some (.ref (x + 72)), some (.int v1), some (.int (nI a)), some (.int (nI n)), some (.int (nI i))] [] h := by
  obtain ⟨⟨s0, s1, s2, s3, s4, s5, s6, t1, t2, t3, t4, t5, n1, n2, n3, n4, n5⟩, p2, p3, p4, p5⟩ := id hc
  intro f
  induction f with
  | zero => intro n r i a _ _ h0; exact absurd h0 (Nat.not_lt_zero _)
  | succ f ih =>
    intro n r i a hn hr hf hi ha hQ
    have c1 : ¬ 16 ≤ i := by omega
    have gb := (p3 n hn).2.1
    have e1 := or_n ha hn
    have al := or_16 ha hn
    rw [pth_s] at hQ
    have hQ : Q (.inl (some (.int (nI (orL (rst w f n) (a ||| 2 ^ n)))))) h := hQ
    rw [u_708_19]
    simp (disch := omega) only [B_708_19, nI1T, Nat.left_eq_add, Nat.add_eq_left, Nat.add_eq_zero_iff, and_false, false_and, if_false, if_true, opsN, opsC, pm_1, lg, ls1, ls2, lq, List.length_cons, List.length_nil, cN, cL, callE, retV, retN, pm_pop, pm_cat, List.map_cons, List.map_nil, List.sum_cons, List.sum_nil, Value.category, Option.toList, List.cons_append, List.nil_append, ↓reduceIte, reduceCtorEq, Nat.reduceAdd, Nat.reduceLT, Nat.reduceLeDiff, Nat.reduceSub, Nat.reduceEqDiff, Nat.zero_le, Nat.sub_zero, Nat.le_refl, true_and, and_true, not_true_eq_false, not_false_eq_true, true_or, or_true, lc_eq, lc_ne, lc_lt, lc_ge, lc_gt, lc_le, nI_add, lN_add, nI_leI, nI_ltI, nI_eq, nI_clamp, pk_lLT, pk_lLE, pk_lEQ, pk_sub, vp_inT, nz_eq, nz_lt, nz_ge, nz_gt, nz_le, lz_eq, lz_lt, lz_ge, hP1, hP2, hP3, hP4, hP5, hP6, hP7, hP8, hP9, hP10, hP11, hP12, hP13, hP14, hP15, hP16, hP17, hP18, hP19, hP20, c1]
    rw [n936t _ hn]
    cases hb : wB w n with
    | none =>
      rw [rst_0 hb] at hQ
      have hQ : Q (.inl (some (.int (nI (a ||| 2 ^ n))))) h := hQ
      rw [hb] at gb
      have gb : hI h (x + 75) n = -nI 1 := gb
      simp (disch := omega) only [nI1T, Nat.left_eq_add, Nat.add_eq_left, Nat.add_eq_zero_iff, and_false, false_and, if_false, if_true, opsN, opsC, pm_1, lg, ls1, ls2, lq, List.length_cons, List.length_nil, cN, cL, callE, retV, retN, pm_pop, pm_cat, List.map_cons, List.map_nil, List.sum_cons, List.sum_nil, Value.category, Option.toList, List.cons_append, List.nil_append, ↓reduceIte, reduceCtorEq, Nat.reduceAdd, Nat.reduceLT, Nat.reduceLeDiff, Nat.reduceSub, Nat.reduceEqDiff, Nat.zero_le, Nat.sub_zero, Nat.le_refl, true_and, and_true, not_true_eq_false, not_false_eq_true, true_or, or_true, lc_eq, lc_ne, lc_lt, lc_ge, lc_gt, lc_le, nI_add, lN_add, nI_leI, nI_ltI, nI_eq, nI_clamp, pk_lLT, pk_lLE, pk_lEQ, pk_sub, vp_inT, nz_eq, nz_lt, nz_ge, nz_gt, nz_le, lz_eq, lz_lt, lz_ge, hP1, hP2, hP3, hP4, hP5, hP6, hP7, hP8, hP9, hP10, hP11, hP12, hP13, hP14, hP15, hP16, hP17, hP18, hP19, hP20, s0, s4, t3, n3, hn, gb, e1]
      rw [u_708_19]
      by_cases c2 : 16 ≤ i + 1
      · simp (disch := omega) only [B_708_19, u_708_52, B_708_52, nI1T, Nat.left_eq_add, Nat.add_eq_left, Nat.add_eq_zero_iff, and_false, false_and, if_false, if_true, opsN, opsC, pm_1, lg, ls1, ls2, lq, List.length_cons, List.length_nil, cN, cL, callE, retV, retN, pm_pop, pm_cat, List.map_cons, List.map_nil, List.sum_cons, List.sum_nil, Value.category, Option.toList, List.cons_append, List.nil_append, ↓reduceIte, reduceCtorEq, Nat.reduceAdd, Nat.reduceLT, Nat.reduceLeDiff, Nat.reduceSub, Nat.reduceEqDiff, Nat.zero_le, Nat.sub_zero, Nat.le_refl, true_and, and_true, not_true_eq_false, not_false_eq_true, true_or, or_true, lc_eq, lc_ne, lc_lt, lc_ge, lc_gt, lc_le, nI_add, lN_add, nI_leI, nI_ltI, nI_eq, nI_clamp, pk_lLT, pk_lLE, pk_lEQ, pk_sub, vp_inT, nz_eq, nz_lt, nz_ge, nz_gt, nz_le, lz_eq, lz_lt, lz_ge, hP1, hP2, hP3, hP4, hP5, hP6, hP7, hP8, hP9, hP10, hP11, hP12, hP13, hP14, hP15, hP16, hP17, hP18, hP19, hP20, c2]
        exact hQ
      · simp (disch := omega) only [B_708_19, nI1T, Nat.left_eq_add, Nat.add_eq_left, Nat.add_eq_zero_iff, and_false, false_and, if_false, if_true, opsN, opsC, pm_1, lg, ls1, ls2, lq, List.length_cons, List.length_nil, cN, cL, callE, retV, retN, pm_pop, pm_cat, List.map_cons, List.map_nil, List.sum_cons, List.sum_nil, Value.category, Option.toList, List.cons_append, List.nil_append, ↓reduceIte, reduceCtorEq, Nat.reduceAdd, Nat.reduceLT, Nat.reduceLeDiff, Nat.reduceSub, Nat.reduceEqDiff, Nat.zero_le, Nat.sub_zero, Nat.le_refl, true_and, and_true, not_true_eq_false, not_false_eq_true, true_or, or_true, lc_eq, lc_ne, lc_lt, lc_ge, lc_gt, lc_le, nI_add, lN_add, nI_leI, nI_ltI, nI_eq, nI_clamp, pk_lLT, pk_lLE, pk_lEQ, pk_sub, vp_inT, nz_eq, nz_lt, nz_ge, nz_gt, nz_le, lz_eq, lz_lt, lz_ge, hP1, hP2, hP3, hP4, hP5, hP6, hP7, hP8, hP9, hP10, hP11, hP12, hP13, hP14, hP15, hP16, hP17, hP18, hP19, hP20, c2]
        rw [n936m]
        simp (disch := omega) only [u_708_52, B_708_52, nI1T, Nat.left_eq_add, Nat.add_eq_left, Nat.add_eq_zero_iff, and_false, false_and, if_false, if_true, opsN, opsC, pm_1, lg, ls1, ls2, lq, List.length_cons, List.length_nil, cN, cL, callE, retV, retN, pm_pop, pm_cat, List.map_cons, List.map_nil, List.sum_cons, List.sum_nil, Value.category, Option.toList, List.cons_append, List.nil_append, ↓reduceIte, reduceCtorEq, Nat.reduceAdd, Nat.reduceLT, Nat.reduceLeDiff, Nat.reduceSub, Nat.reduceEqDiff, Nat.zero_le, Nat.sub_zero, Nat.le_refl, true_and, and_true, not_true_eq_false, not_false_eq_true, true_or, or_true, lc_eq, lc_ne, lc_lt, lc_ge, lc_gt, lc_le, nI_add, lN_add, nI_leI, nI_ltI, nI_eq, nI_clamp, pk_lLT, pk_lLE, pk_lEQ, pk_sub, vp_inT, nz_eq, nz_lt, nz_ge, nz_gt, nz_le, lz_eq, lz_lt, lz_ge, hP1, hP2, hP3, hP4, hP5, hP6, hP7, hP8, hP9, hP10, hP11, hP12, hP13, hP14, hP15, hP16, hP17, hP18, hP19, hP20]
        exact hQ
    | some b =>
      rw [rst_1 hb] at hQ
      rw [hb, iv_so] at gb
      obtain ⟨b16, s, hs, hlt⟩ := hw.2.2.2.2.2.2.2.2.2.1 n b hn hb
      have hsr := hlt r hr
      simp (disch := omega) only [nI1T, Nat.left_eq_add, Nat.add_eq_left, Nat.add_eq_zero_iff, and_false, false_and, if_false, if_true, opsN, opsC, pm_1, lg, ls1, ls2, lq, List.length_cons, List.length_nil, cN, cL, callE, retV, retN, pm_pop, pm_cat, List.map_cons, List.map_nil, List.sum_cons, List.sum_nil, Value.category, Option.toList, List.cons_append, List.nil_append, ↓reduceIte, reduceCtorEq, Nat.reduceAdd, Nat.reduceLT, Nat.reduceLeDiff, Nat.reduceSub, Nat.reduceEqDiff, Nat.zero_le, Nat.sub_zero, Nat.le_refl, true_and, and_true, not_true_eq_false, not_false_eq_true, true_or, or_true, lc_eq, lc_ne, lc_lt, lc_ge, lc_gt, lc_le, nI_add, lN_add, nI_leI, nI_ltI, nI_eq, nI_clamp, pk_lLT, pk_lLE, pk_lEQ, pk_sub, vp_inT, nz_eq, nz_lt, nz_ge, nz_gt, nz_le, lz_eq, lz_lt, lz_ge, hP1, hP2, hP3, hP4, hP5, hP6, hP7, hP8, hP9, hP10, hP11, hP12, hP13, hP14, hP15, hP16, hP17, hP18, hP19, hP20, s0, s4, t3, n3, hn, gb, e1]
      exact ih b s (i + 1) (a ||| 2 ^ n) b16 hs (by omega) (by omega) al hQ
theorem c708 (d : Nat) {n : Nat} (hc : clW h x bits w) (hw : wOK bits T w) (hn : n < 16) (hQ : Q (.inl (some (.int (nodV w n)))) h) : pm_M PP (d + 2) 708 [.ref (x + 72), .int (nI n)] h Q := by
  obtain ⟨⟨s0, s1, s2, s3, s4, s5, s6, t1, t2, t3, t4, t5, n1, n2, n3, n4, n5⟩, p2, p3, p4, p5⟩ := id hc
  have gr := (p3 n hn).2.2.1
  have w16 := wN_le hw
  unfold nodV at hQ
  rw [e_708]
  cases hr : wR w n with
  | none =>
    rw [hr] at gr hQ
    have gr : hI h (x + 76) n = -nI 1 := gr
    simp (disch := omega) only [u_708_0, B_708_0, nI1T, Nat.left_eq_add, Nat.add_eq_left, Nat.add_eq_zero_iff, and_false, false_and, if_false, if_true, opsN, opsC, pm_1, lg, ls1, ls2, lq, List.length_cons, List.length_nil, cN, cL, callE, retV, retN, pm_pop, pm_cat, List.map_cons, List.map_nil, List.sum_cons, List.sum_nil, Value.category, Option.toList, List.cons_append, List.nil_append, ↓reduceIte, reduceCtorEq, Nat.reduceAdd, Nat.reduceLT, Nat.reduceLeDiff, Nat.reduceSub, Nat.reduceEqDiff, Nat.zero_le, Nat.sub_zero, Nat.le_refl, true_and, and_true, not_true_eq_false, not_false_eq_true, true_or, or_true, lc_eq, lc_ne, lc_lt, lc_ge, lc_gt, lc_le, nI_add, lN_add, nI_leI, nI_ltI, nI_eq, nI_clamp, pk_lLT, pk_lLE, pk_lEQ, pk_sub, vp_inT, nz_eq, nz_lt, nz_ge, nz_gt, nz_le, lz_eq, lz_lt, lz_ge, hP1, hP2, hP3, hP4, hP5, hP6, hP7, hP8, hP9, hP10, hP11, hP12, hP13, hP14, hP15, hP16, hP17, hP18, hP19, hP20, s0, s5, t4, n4, hn, gr]
    exact hQ
  | some r =>
    rw [hr] at hQ
    rw [hr, iv_so] at gr
    have := hw.2.2.2.2.2.2.1 n r hn hr
    have e1 := m1_ne (n := r) (by omega)
    simp (disch := omega) only [u_708_0, B_708_0, u_708_12, B_708_12, nI1T, Nat.left_eq_add, Nat.add_eq_left, Nat.add_eq_zero_iff, and_false, false_and, if_false, if_true, opsN, opsC, pm_1, lg, ls1, ls2, lq, List.length_cons, List.length_nil, cN, cL, callE, retV, retN, pm_pop, pm_cat, List.map_cons, List.map_nil, List.sum_cons, List.sum_nil, Value.category, Option.toList, List.cons_append, List.nil_append, ↓reduceIte, reduceCtorEq, Nat.reduceAdd, Nat.reduceLT, Nat.reduceLeDiff, Nat.reduceSub, Nat.reduceEqDiff, Nat.zero_le, Nat.sub_zero, Nat.le_refl, true_and, and_true, not_true_eq_false, not_false_eq_true, true_or, or_true, lc_eq, lc_ne, lc_lt, lc_ge, lc_gt, lc_le, nI_add, lN_add, nI_leI, nI_ltI, nI_eq, nI_clamp, pk_lLT, pk_lLE, pk_lEQ, pk_sub, vp_inT, nz_eq, nz_lt, nz_ge, nz_gt, nz_le, lz_eq, lz_lt, lz_ge, hP1, hP2, hP3, hP4, hP5, hP6, hP7, hP8, hP9, hP10, hP11, hP12, hP13, hP14, hP15, hP16, hP17, hP18, hP19, hP20, s0, s5, t4, n4, hn, gr, e1]
    exact l708 d hc hw 17 n r 0 0 hn hr (by omega) (by omega) (by decide) hQ
theorem c707 (d : Nat) {n : Nat} (hc : clW h x bits w) (hw : wOK bits T w) (hn : n < 16) (hQ : Q (.inl (some (.int (edgV w n)))) h) : pm_M PP (d + 3) 707 [.ref (x + 72), .int (nI n)] h Q := by
  obtain ⟨⟨s0, s1, s2, s3, s4, s5, s6, t1, t2, t3, t4, t5, n1, n2, n3, n4, n5⟩, p2, p3, p4, p5⟩ := id hc
  have gr := (p3 n hn).2.2.1
  have w16 := wN_le hw
  unfold edgV at hQ
  rw [e_707]
  cases hr : wR w n with
  | none =>
    rw [hr] at gr hQ
    have gr : hI h (x + 76) n = -nI 1 := gr
    simp (disch := omega) only [u_707_0, B_707_0, u_707_24, B_707_24, nI1T, Nat.left_eq_add, Nat.add_eq_left, Nat.add_eq_zero_iff, and_false, false_and, if_false, if_true, opsN, opsC, pm_1, lg, ls1, ls2, lq, List.length_cons, List.length_nil, cN, cL, callE, retV, retN, pm_pop, pm_cat, List.map_cons, List.map_nil, List.sum_cons, List.sum_nil, Value.category, Option.toList, List.cons_append, List.nil_append, ↓reduceIte, reduceCtorEq, Nat.reduceAdd, Nat.reduceLT, Nat.reduceLeDiff, Nat.reduceSub, Nat.reduceEqDiff, Nat.zero_le, Nat.sub_zero, Nat.le_refl, true_and, and_true, not_true_eq_false, not_false_eq_true, true_or, or_true, lc_eq, lc_ne, lc_lt, lc_ge, lc_gt, lc_le, nI_add, lN_add, nI_leI, nI_ltI, nI_eq, nI_clamp, pk_lLT, pk_lLE, pk_lEQ, pk_sub, vp_inT, nz_eq, nz_lt, nz_ge, nz_gt, nz_le, lz_eq, lz_lt, lz_ge, hP1, hP2, hP3, hP4, hP5, hP6, hP7, hP8, hP9, hP10, hP11, hP12, hP13, hP14, hP15, hP16, hP17, hP18, hP19, hP20, s0, s5, t4, n4, hn, gr]
    exact hQ
  | some r =>
    rw [hr] at hQ
    rw [hr, iv_so] at gr
    have := hw.2.2.2.2.2.2.1 n r hn hr
    have e1 := m1_ne (n := r) (by omega)
    simp (disch := omega) only [u_707_0, B_707_0, u_707_14, B_707_14, nI1T, Nat.left_eq_add, Nat.add_eq_left, Nat.add_eq_zero_iff, and_false, false_and, if_false, if_true, opsN, opsC, pm_1, lg, ls1, ls2, lq, List.length_cons, List.length_nil, cN, cL, callE, retV, retN, pm_pop, pm_cat, List.map_cons, List.map_nil, List.sum_cons, List.sum_nil, Value.category, Option.toList, List.cons_append, List.nil_append, ↓reduceIte, reduceCtorEq, Nat.reduceAdd, Nat.reduceLT, Nat.reduceLeDiff, Nat.reduceSub, Nat.reduceEqDiff, Nat.zero_le, Nat.sub_zero, Nat.le_refl, true_and, and_true, not_true_eq_false, not_false_eq_true, true_or, or_true, lc_eq, lc_ne, lc_lt, lc_ge, lc_gt, lc_le, nI_add, lN_add, nI_leI, nI_ltI, nI_eq, nI_clamp, pk_lLT, pk_lLE, pk_lEQ, pk_sub, vp_inT, nz_eq, nz_lt, nz_ge, nz_gt, nz_le, lz_eq, lz_lt, lz_ge, hP1, hP2, hP3, hP4, hP5, hP6, hP7, hP8, hP9, hP10, hP11, hP12, hP13, hP14, hP15, hP16, hP17, hP18, hP19, hP20, s0, s5, t4, n4, hn, gr, e1]
    refine c708 d hc hw hn ?_
    obtain ⟨o1, o2, o3⟩ := pth_ok hw 17 n r hn hr (by omega)
    have ol := orL_lt (pth w 17 n) 0 (by decide) (fun y hy => (o3 y hy).1)
    have op := orL_pc (pth w 17 n) 0 o1 (fun y hy => ⟨(o3 y hy).1, Nat.zero_testBit y⟩)
    rw [pc_0, Nat.zero_add, pth_s, List.length_cons] at op
    have nv : nodV w n = nI (orL (pth w 17 n) 0) := by unfold nodV; rw [hr]
    rw [nv]
    simp (disch := omega) only [nI1T, Nat.left_eq_add, Nat.add_eq_left, Nat.add_eq_zero_iff, and_false, false_and, if_false, if_true, opsN, opsC, pm_1, lg, ls1, ls2, lq, List.length_cons, List.length_nil, cN, cL, callE, retV, retN, pm_pop, pm_cat, List.map_cons, List.map_nil, List.sum_cons, List.sum_nil, Value.category, Option.toList, List.cons_append, List.nil_append, ↓reduceIte, reduceCtorEq, Nat.reduceAdd, Nat.reduceLT, Nat.reduceLeDiff, Nat.reduceSub, Nat.reduceEqDiff, Nat.zero_le, Nat.sub_zero, Nat.le_refl, true_and, and_true, not_true_eq_false, not_false_eq_true, true_or, or_true, lc_eq, lc_ne, lc_lt, lc_ge, lc_gt, lc_le, nI_add, lN_add, nI_leI, nI_ltI, nI_eq, nI_clamp, pk_lLT, pk_lLE, pk_lEQ, pk_sub, vp_inT, nz_eq, nz_lt, nz_ge, nz_gt, nz_le, lz_eq, lz_lt, lz_ge, hP1, hP2, hP3, hP4, hP5, hP6, hP7, hP8, hP9, hP10, hP11, hP12, hP13, hP14, hP15, hP16, hP17, hP18, hP19, hP20]
    rw [q3001 _ (by omega), pth_s, op]
    simp (disch := omega) only [u_707_24, B_707_24, nI1T, Nat.left_eq_add, Nat.add_eq_left, Nat.add_eq_zero_iff, and_false, false_and, if_false, if_true, opsN, opsC, pm_1, lg, ls1, ls2, lq, List.length_cons, List.length_nil, cN, cL, callE, retV, retN, pm_pop, pm_cat, List.map_cons, List.map_nil, List.sum_cons, List.sum_nil, Value.category, Option.toList, List.cons_append, List.nil_append, ↓reduceIte, reduceCtorEq, Nat.reduceAdd, Nat.reduceLT, Nat.reduceLeDiff, Nat.reduceSub, Nat.reduceEqDiff, Nat.zero_le, Nat.sub_zero, Nat.le_refl, true_and, and_true, not_true_eq_false, not_false_eq_true, true_or, or_true, lc_eq, lc_ne, lc_lt, lc_ge, lc_gt, lc_le, nI_add, lN_add, nI_leI, nI_ltI, nI_eq, nI_clamp, pk_lLT, pk_lLE, pk_lEQ, pk_sub, vp_inT, nz_eq, nz_lt, nz_ge, nz_gt, nz_le, lz_eq, lz_lt, lz_ge, hP1, hP2, hP3, hP4, hP5, hP6, hP7, hP8, hP9, hP10, hP11, hP12, hP13, hP14, hP15, hP16, hP17, hP18, hP19, hP20, Nat.add_sub_cancel]
    exact hQ
theorem c706 (d : Nat) {n : Nat} (hc : clW h x bits w) (hw : wOK bits T w) (hn : n < 16) (hQ : Q (.inl (some (.long (farV w n)))) h) : pm_M PP (d + 1) 706 [.ref (x + 72), .int (nI n)] h Q := by
  obtain ⟨⟨s0, s1, s2, s3, s4, s5, s6, t1, t2, t3, t4, t5, n1, n2, n3, n4, n5⟩, p2, p3, p4, p5⟩ := id hc
  have gr := (p3 n hn).2.2.1
  have gi := (p3 n hn).1
  have w16 := wN_le hw
  have q1 := p2.1.1
  have i3 := hw.1.2.2.1
  rw [e_706]
  cases hr : wR w n with
  | none =>
    rw [farV_0 hr] at hQ
    rw [hr] at gr
    have gr : hI h (x + 76) n = -nI 1 := gr
    simp (disch := omega) only [u_706_0, B_706_0, u_706_30, B_706_30, nI1T, Nat.left_eq_add, Nat.add_eq_left, Nat.add_eq_zero_iff, and_false, false_and, if_false, if_true, opsN, opsC, pm_1, lg, ls1, ls2, lq, List.length_cons, List.length_nil, cN, cL, callE, retV, retN, pm_pop, pm_cat, List.map_cons, List.map_nil, List.sum_cons, List.sum_nil, Value.category, Option.toList, List.cons_append, List.nil_append, ↓reduceIte, reduceCtorEq, Nat.reduceAdd, Nat.reduceLT, Nat.reduceLeDiff, Nat.reduceSub, Nat.reduceEqDiff, Nat.zero_le, Nat.sub_zero, Nat.le_refl, true_and, and_true, not_true_eq_false, not_false_eq_true, true_or, or_true, lc_eq, lc_ne, lc_lt, lc_ge, lc_gt, lc_le, nI_add, lN_add, nI_leI, nI_ltI, nI_eq, nI_clamp, pk_lLT, pk_lLE, pk_lEQ, pk_sub, vp_inT, nz_eq, nz_lt, nz_ge, nz_gt, nz_le, lz_eq, lz_lt, lz_ge, hP1, hP2, hP3, hP4, hP5, hP6, hP7, hP8, hP9, hP10, hP11, hP12, hP13, hP14, hP15, hP16, hP17, hP18, hP19, hP20, s0, s5, t4, n4, hn, gr]
    exact hQ
  | some r =>
    cases hi : wI w n with
    | none => rw [hw.2.2.2.2.2.1 n hn hi] at hr; cases hr
    | some i =>
      rw [farV_1 hr hi] at hQ
      rw [hr, iv_so] at gr
      rw [hi, iv_so] at gi
      have := hw.2.2.2.2.2.2.1 n r hn hr
      have hic := (hw.2.2.1 n i hn hi).1
      have e1 := m1_ne (n := r) (by omega)
      have gk : hL h (x + 64 + 2) i = lN (qK (wQ w) i) := by obtain ⟨⟨s0, s1, s2, s3, s4, s5, s6, s7, s8, s9, s10, s11, s12, s13, s14, s15, s16⟩, f4, f5, f6, f7, f8, f9, rK, rW, rM, rN⟩ := id p2; exact rK i hic
      have gB : hR h (x + 64) 0 = x + 64 + 2 ∧ hT h (x + 64 + 2) = 101 ∧ hN h (x + 64 + 2) = 300 := by obtain ⟨⟨s0, s1, s2, s3, s4, s5, s6, s7, s8, s9, s10, s11, s12, s13, s14, s15, s16⟩, f4, f5, f6, f7, f8, f9, rK, rW, rM, rN⟩ := id p2; exact ⟨by assumption, by assumption, by assumption⟩
      obtain ⟨g1, g2, g3⟩ := gB
      have i30 : i < 300 := by omega
      simp (disch := omega) only [u_706_0, B_706_0, u_706_16, B_706_16, u_706_30, B_706_30, nI1T, Nat.left_eq_add, Nat.add_eq_left, Nat.add_eq_zero_iff, and_false, false_and, if_false, if_true, opsN, opsC, pm_1, lg, ls1, ls2, lq, List.length_cons, List.length_nil, cN, cL, callE, retV, retN, pm_pop, pm_cat, List.map_cons, List.map_nil, List.sum_cons, List.sum_nil, Value.category, Option.toList, List.cons_append, List.nil_append, ↓reduceIte, reduceCtorEq, Nat.reduceAdd, Nat.reduceLT, Nat.reduceLeDiff, Nat.reduceSub, Nat.reduceEqDiff, Nat.zero_le, Nat.sub_zero, Nat.le_refl, true_and, and_true, not_true_eq_false, not_false_eq_true, true_or, or_true, lc_eq, lc_ne, lc_lt, lc_ge, lc_gt, lc_le, nI_add, lN_add, nI_leI, nI_ltI, nI_eq, nI_clamp, pk_lLT, pk_lLE, pk_lEQ, pk_sub, vp_inT, nz_eq, nz_lt, nz_ge, nz_gt, nz_le, lz_eq, lz_lt, lz_ge, hP1, hP2, hP3, hP4, hP5, hP6, hP7, hP8, hP9, hP10, hP11, hP12, hP13, hP14, hP15, hP16, hP17, hP18, hP19, hP20, s0, s1, s2, s5, t1, n1, t4, n4, hn, gr, gi, e1, q1, g1, g2, g3, gk, i30]
      exact hQ
theorem c709 (d : Nat) {n : Nat} (hc : clW h x bits w) (hw : wOK bits T w) (hn : n < 16) (hQ : Q (.inl (some (.int (nI (movV w n))))) h) : pm_M PP (d + 1) 709 [.ref (x + 72), .int (nI n)] h Q := by
  obtain ⟨⟨s0, s1, s2, s3, s4, s5, s6, t1, t2, t3, t4, t5, n1, n2, n3, n4, n5⟩, p2, p3, p4, p5⟩ := id hc
  have gi := (p3 n hn).1
  have q1 := p2.1.1
  have i3 := hw.1.2.2.1
  unfold movV at hQ
  rw [e_709]
  cases hi : wI w n with
  | none =>
    rw [hi] at gi hQ
    have gi : hI h (x + 73) n = -nI 1 := gi
    simp (disch := omega) only [u_709_0, B_709_0, u_709_28, B_709_28, nI1T, Nat.left_eq_add, Nat.add_eq_left, Nat.add_eq_zero_iff, and_false, false_and, if_false, if_true, opsN, opsC, pm_1, lg, ls1, ls2, lq, List.length_cons, List.length_nil, cN, cL, callE, retV, retN, pm_pop, pm_cat, List.map_cons, List.map_nil, List.sum_cons, List.sum_nil, Value.category, Option.toList, List.cons_append, List.nil_append, ↓reduceIte, reduceCtorEq, Nat.reduceAdd, Nat.reduceLT, Nat.reduceLeDiff, Nat.reduceSub, Nat.reduceEqDiff, Nat.zero_le, Nat.sub_zero, Nat.le_refl, true_and, and_true, not_true_eq_false, not_false_eq_true, true_or, or_true, lc_eq, lc_ne, lc_lt, lc_ge, lc_gt, lc_le, nI_add, lN_add, nI_leI, nI_ltI, nI_eq, nI_clamp, pk_lLT, pk_lLE, pk_lEQ, pk_sub, vp_inT, nz_eq, nz_lt, nz_ge, nz_gt, nz_le, lz_eq, lz_lt, lz_ge, hP1, hP2, hP3, hP4, hP5, hP6, hP7, hP8, hP9, hP10, hP11, hP12, hP13, hP14, hP15, hP16, hP17, hP18, hP19, hP20, s0, s2, t1, n1, hn, gi]
    exact hQ
  | some i =>
    rw [hi] at hQ
    rw [hi, iv_so] at gi
    have hic := (hw.2.2.1 n i hn hi).1
    have e1 := m1_ne (n := i) (by omega)
    have gk : hI h (x + 64 + 4) i = nI (qM (wQ w) i) := by obtain ⟨⟨s0, s1, s2, s3, s4, s5, s6, s7, s8, s9, s10, s11, s12, s13, s14, s15, s16⟩, f4, f5, f6, f7, f8, f9, rK, rW, rM, rN⟩ := id p2; exact rM i hic
    have gB : hR h (x + 64) 2 = x + 64 + 4 ∧ hT h (x + 64 + 4) = 100 ∧ hN h (x + 64 + 4) = 300 := by obtain ⟨⟨s0, s1, s2, s3, s4, s5, s6, s7, s8, s9, s10, s11, s12, s13, s14, s15, s16⟩, f4, f5, f6, f7, f8, f9, rK, rW, rM, rN⟩ := id p2; exact ⟨by assumption, by assumption, by assumption⟩
    obtain ⟨g1, g2, g3⟩ := gB
    have i30 : i < 300 := by omega
    simp (disch := omega) only [u_709_0, B_709_0, u_709_14, B_709_14, u_709_28, B_709_28, nI1T, Nat.left_eq_add, Nat.add_eq_left, Nat.add_eq_zero_iff, and_false, false_and, if_false, if_true, opsN, opsC, pm_1, lg, ls1, ls2, lq, List.length_cons, List.length_nil, cN, cL, callE, retV, retN, pm_pop, pm_cat, List.map_cons, List.map_nil, List.sum_cons, List.sum_nil, Value.category, Option.toList, List.cons_append, List.nil_append, ↓reduceIte, reduceCtorEq, Nat.reduceAdd, Nat.reduceLT, Nat.reduceLeDiff, Nat.reduceSub, Nat.reduceEqDiff, Nat.zero_le, Nat.sub_zero, Nat.le_refl, true_and, and_true, not_true_eq_false, not_false_eq_true, true_or, or_true, lc_eq, lc_ne, lc_lt, lc_ge, lc_gt, lc_le, nI_add, lN_add, nI_leI, nI_ltI, nI_eq, nI_clamp, pk_lLT, pk_lLE, pk_lEQ, pk_sub, vp_inT, nz_eq, nz_lt, nz_ge, nz_gt, nz_le, lz_eq, lz_lt, lz_ge, hP1, hP2, hP3, hP4, hP5, hP6, hP7, hP8, hP9, hP10, hP11, hP12, hP13, hP14, hP15, hP16, hP17, hP18, hP19, hP20, s0, s1, s2, t1, n1, hn, gi, e1, q1, g1, g2, g3, gk, i30]
    exact hQ
theorem l710 (d : Nat) (hc : clW h x bits w) (hQ : Q (.inl (some (.int (nI (sumL (wL w) 16))))) h) : ∀ (n k : Nat), n + k = 16 → pm_W PP d 710 Q 0 0 4 [some (.ref (x + 72)), some (.int (nI (sumL (wL w) k))), some (.int (nI k))] [] h := by
  obtain ⟨⟨s0, s1, s2, s3, s4, s5, s6, t1, t2, t3, t4, t5, n1, n2, n3, n4, n5⟩, p2, p3, p4, p5⟩ := id hc
  intro n
  induction n with
  | zero =>
    intro k hk
    have e : k = 16 := by omega
    subst e
    rw [u_710_4]
    simp (disch := omega) only [B_710_4, u_710_25, B_710_25, nI1T, Nat.left_eq_add, Nat.add_eq_left, Nat.add_eq_zero_iff, and_false, false_and, if_false, if_true, opsN, opsC, pm_1, lg, ls1, ls2, lq, List.length_cons, List.length_nil, cN, cL, callE, retV, retN, pm_pop, pm_cat, List.map_cons, List.map_nil, List.sum_cons, List.sum_nil, Value.category, Option.toList, List.cons_append, List.nil_append, ↓reduceIte, reduceCtorEq, Nat.reduceAdd, Nat.reduceLT, Nat.reduceLeDiff, Nat.reduceSub, Nat.reduceEqDiff, Nat.zero_le, Nat.sub_zero, Nat.le_refl, true_and, and_true, not_true_eq_false, not_false_eq_true, true_or, or_true, lc_eq, lc_ne, lc_lt, lc_ge, lc_gt, lc_le, nI_add, lN_add, nI_leI, nI_ltI, nI_eq, nI_clamp, pk_lLT, pk_lLE, pk_lEQ, pk_sub, vp_inT, nz_eq, nz_lt, nz_ge, nz_gt, nz_le, lz_eq, lz_lt, lz_ge, hP1, hP2, hP3, hP4, hP5, hP6, hP7, hP8, hP9, hP10, hP11, hP12, hP13, hP14, hP15, hP16, hP17, hP18, hP19, hP20]
    exact hQ
  | succ n ih =>
    intro k hk
    have c1 : ¬ 16 ≤ k := by omega
    have c2 : k < 16 := by omega
    have gl := (p3 k c2).2.2.2
    rw [u_710_4]
    simp (disch := omega) only [B_710_4, nI1T, Nat.left_eq_add, Nat.add_eq_left, Nat.add_eq_zero_iff, and_false, false_and, if_false, if_true, opsN, opsC, pm_1, lg, ls1, ls2, lq, List.length_cons, List.length_nil, cN, cL, callE, retV, retN, pm_pop, pm_cat, List.map_cons, List.map_nil, List.sum_cons, List.sum_nil, Value.category, Option.toList, List.cons_append, List.nil_append, ↓reduceIte, reduceCtorEq, Nat.reduceAdd, Nat.reduceLT, Nat.reduceLeDiff, Nat.reduceSub, Nat.reduceEqDiff, Nat.zero_le, Nat.sub_zero, Nat.le_refl, true_and, and_true, not_true_eq_false, not_false_eq_true, true_or, or_true, lc_eq, lc_ne, lc_lt, lc_ge, lc_gt, lc_le, nI_add, lN_add, nI_leI, nI_ltI, nI_eq, nI_clamp, pk_lLT, pk_lLE, pk_lEQ, pk_sub, vp_inT, nz_eq, nz_lt, nz_ge, nz_gt, nz_le, lz_eq, lz_lt, lz_ge, hP1, hP2, hP3, hP4, hP5, hP6, hP7, hP8, hP9, hP10, hP11, hP12, hP13, hP14, hP15, hP16, hP17, hP18, hP19, hP20, c1, c2, s0, s6, t5, n5, gl]
    exact ih (k + 1) (by omega)
theorem c710 (d : Nat) (hc : clW h x bits w) (hQ : Q (.inl (some (.int (nI (sumL (wL w) 16))))) h) : pm_M PP (d + 1) 710 [.ref (x + 72)] h Q := by
  rw [e_710]
  simp (disch := omega) only [u_710_0, B_710_0, nI1T, Nat.left_eq_add, Nat.add_eq_left, Nat.add_eq_zero_iff, and_false, false_and, if_false, if_true, opsN, opsC, pm_1, lg, ls1, ls2, lq, List.length_cons, List.length_nil, cN, cL, callE, retV, retN, pm_pop, pm_cat, List.map_cons, List.map_nil, List.sum_cons, List.sum_nil, Value.category, Option.toList, List.cons_append, List.nil_append, ↓reduceIte, reduceCtorEq, Nat.reduceAdd, Nat.reduceLT, Nat.reduceLeDiff, Nat.reduceSub, Nat.reduceEqDiff, Nat.zero_le, Nat.sub_zero, Nat.le_refl, true_and, and_true, not_true_eq_false, not_false_eq_true, true_or, or_true, lc_eq, lc_ne, lc_lt, lc_ge, lc_gt, lc_le, nI_add, lN_add, nI_leI, nI_ltI, nI_eq, nI_clamp, pk_lLT, pk_lLE, pk_lEQ, pk_sub, vp_inT, nz_eq, nz_lt, nz_ge, nz_gt, nz_le, lz_eq, lz_lt, lz_ge, hP1, hP2, hP3, hP4, hP5, hP6, hP7, hP8, hP9, hP10, hP11, hP12, hP13, hP14, hP15, hP16, hP17, hP18, hP19, hP20]
  exact l710 d hc hQ 16 0 (by omega)
/-! the reference's path -/
theorem l1073 (d B : Nat) {v1 : Int32} {fl : Nat} (hs : mS h m) (hc : mdW h m w B) (hw : wOK bits T w) (hfl : fl < 2) : ∀ (f n r a k : Nat), n < 16 → wR w n = some r → r ≤ f → a < 2 ^ 16 → Q (.inl (some (.int (if fl = 0 then nI (k + (rst w f n).length) else nI (orL (rst w f n) a))))) h →
    pm_W PP d 1073 Q 0 0 30 [some (.ref m), some (.int v1), some (.int (nI fl)), some (.int (nI a)), some (.int (nI k)), some (.int (nI n))] [] h := by
  obtain ⟨q1, p3, p6, p4, p5, p7⟩ := id hc
  have ex : ∀ (n a k : Nat), n < 16 → wB w n = none → Q (.inl (some (.int (if fl = 0 then nI k else nI a)))) h → pm_W PP d 1073 Q 0 0 30 [some (.ref m), some (.int v1), some (.int (nI fl)), some (.int (nI a)), some (.int (nI k)), some (.int (nI n))] [] h := fun n a k hn hb hQ => by
    have gb := (p3 n hn).2.1
    rw [hb] at gb
    have gb : hI h (m + 815) n = -nI 1 := gb
    rw [u_1073_30]
    rcases (show fl = 0 ∨ fl = 1 by omega) with e | e <;> subst e
    · simp (disch := omega) only [B_1073_30, u_1073_68, B_1073_68, u_1073_76, B_1073_76, u_1073_78, B_1073_78, nI1T, Nat.left_eq_add, Nat.add_eq_left, Nat.add_eq_zero_iff, and_false, false_and, if_false, if_true, opsN, opsC, pm_1, lg, ls1, ls2, lq, List.length_cons, List.length_nil, cN, cL, callE, retV, retN, pm_pop, pm_cat, List.map_cons, List.map_nil, List.sum_cons, List.sum_nil, Value.category, Option.toList, List.cons_append, List.nil_append, ↓reduceIte, reduceCtorEq, Nat.reduceAdd, Nat.reduceLT, Nat.reduceLeDiff, Nat.reduceSub, Nat.reduceEqDiff, Nat.zero_le, Nat.sub_zero, Nat.le_refl, true_and, and_true, not_true_eq_false, not_false_eq_true, true_or, or_true, lc_eq, lc_ne, lc_lt, lc_ge, lc_gt, lc_le, nI_add, lN_add, nI_leI, nI_ltI, nI_eq, nI_clamp, pk_lLT, pk_lLE, pk_lEQ, pk_sub, vp_inT, nz_eq, nz_lt, nz_ge, nz_gt, nz_le, lz_eq, lz_lt, lz_ge, hP1, hP2, hP3, hP4, hP5, hP6, hP7, hP8, hP9, hP10, hP11, hP12, hP13, hP14, hP15, hP16, hP17, hP18, hP19, hP20, hs.1, m_g41 hs, m_t815 hs, m_n815 hs, gb, hn]
      exact hQ
    · simp (disch := omega) only [B_1073_30, u_1073_68, B_1073_68, u_1073_76, B_1073_76, u_1073_78, B_1073_78, nI1T, Nat.left_eq_add, Nat.add_eq_left, Nat.add_eq_zero_iff, and_false, false_and, if_false, if_true, opsN, opsC, pm_1, lg, ls1, ls2, lq, List.length_cons, List.length_nil, cN, cL, callE, retV, retN, pm_pop, pm_cat, List.map_cons, List.map_nil, List.sum_cons, List.sum_nil, Value.category, Option.toList, List.cons_append, List.nil_append, ↓reduceIte, reduceCtorEq, Nat.reduceAdd, Nat.reduceLT, Nat.reduceLeDiff, Nat.reduceSub, Nat.reduceEqDiff, Nat.zero_le, Nat.sub_zero, Nat.le_refl, true_and, and_true, not_true_eq_false, not_false_eq_true, true_or, or_true, lc_eq, lc_ne, lc_lt, lc_ge, lc_gt, lc_le, nI_add, lN_add, nI_leI, nI_ltI, nI_eq, nI_clamp, pk_lLT, pk_lLE, pk_lEQ, pk_sub, vp_inT, nz_eq, nz_lt, nz_ge, nz_gt, nz_le, lz_eq, lz_lt, lz_ge, hP1, hP2, hP3, hP4, hP5, hP6, hP7, hP8, hP9, hP10, hP11, hP12, hP13, hP14, hP15, hP16, hP17, hP18, hP19, hP20, hs.1, m_g41 hs, m_t815 hs, m_n815 hs, gb, hn]
      exact hQ
  intro f
  induction f with
  | zero =>
    intro n r a k hn hr hf ha hQ
    cases hb : wB w n with
    | none => rw [rst_0 hb] at hQ; exact ex n a k hn hb hQ
    | some b =>
      obtain ⟨b16, s, hs', hlt⟩ := hw.2.2.2.2.2.2.2.2.2.1 n b hn hb
      have := hlt r hr
      omega
  | succ f ih =>
    intro n r a k hn hr hf ha hQ
    cases hb : wB w n with
    | none => rw [rst_0 hb] at hQ; exact ex n a k hn hb hQ
    | some b =>
      obtain ⟨b16, s, hs', hlt⟩ := hw.2.2.2.2.2.2.2.2.2.1 n b hn hb
      have hsr := hlt r hr
      have gb := (p3 n hn).2.1
      rw [hb, iv_so] at gb
      have e1 := m1_ne (n := b) (by omega)
      have e2 := or_n ha b16
      rw [rst_1 hb, pth_s, List.length_cons] at hQ
      rw [show k + ((rst w f b).length + 1) = k + 1 + (rst w f b).length by omega] at hQ
      rw [u_1073_30]
      simp (disch := omega) only [B_1073_30, nI1T, Nat.left_eq_add, Nat.add_eq_left, Nat.add_eq_zero_iff, and_false, false_and, if_false, if_true, opsN, opsC, pm_1, lg, ls1, ls2, lq, List.length_cons, List.length_nil, cN, cL, callE, retV, retN, pm_pop, pm_cat, List.map_cons, List.map_nil, List.sum_cons, List.sum_nil, Value.category, Option.toList, List.cons_append, List.nil_append, ↓reduceIte, reduceCtorEq, Nat.reduceAdd, Nat.reduceLT, Nat.reduceLeDiff, Nat.reduceSub, Nat.reduceEqDiff, Nat.zero_le, Nat.sub_zero, Nat.le_refl, true_and, and_true, not_true_eq_false, not_false_eq_true, true_or, or_true, lc_eq, lc_ne, lc_lt, lc_ge, lc_gt, lc_le, nI_add, lN_add, nI_leI, nI_ltI, nI_eq, nI_clamp, pk_lLT, pk_lLE, pk_lEQ, pk_sub, vp_inT, nz_eq, nz_lt, nz_ge, nz_gt, nz_le, lz_eq, lz_lt, lz_ge, hP1, hP2, hP3, hP4, hP5, hP6, hP7, hP8, hP9, hP10, hP11, hP12, hP13, hP14, hP15, hP16, hP17, hP18, hP19, hP20, hs.1, m_g41 hs, m_t815 hs, m_n815 hs, gb, hn, e1, e2]
      exact ih b s (a ||| 2 ^ b) (k + 1) b16 hs' (by omega) (or_16 ha b16) hQ
theorem c1073 (d B : Nat) {n fl : Nat} (hs : mS h m) (hc : mdW h m w B) (hw : wOK bits T w) (hfl : fl < 2) (hn : n < 16) (hQ : Q (.inl (some (.int (if fl = 0 then edgV w n else nodV w n)))) h) : pm_M PP (d + 1) 1073 [.ref m, .int (nI n), .int (nI fl)] h Q := by
  obtain ⟨q1, p3, p6, p4, p5, p7⟩ := id hc
  have gr := (p3 n hn).2.2.1
  have w16 := wN_le hw
  rw [e_1073]
  cases hr : wR w n with
  | none =>
    have n1 : edgV w n = -nI 1 := by unfold edgV; rw [hr]
    have n2 : nodV w n = nI 0 := by unfold nodV; rw [hr]
    rw [n1, n2] at hQ
    rw [hr] at gr
    have gr : hI h (m + 816) n = -nI 1 := gr
    rcases (show fl = 0 ∨ fl = 1 by omega) with e | e <;> subst e
    · simp (disch := omega) only [u_1073_0, B_1073_0, u_1073_18, B_1073_18, u_1073_19, B_1073_19, nI1T, Nat.left_eq_add, Nat.add_eq_left, Nat.add_eq_zero_iff, and_false, false_and, if_false, if_true, opsN, opsC, pm_1, lg, ls1, ls2, lq, List.length_cons, List.length_nil, cN, cL, callE, retV, retN, pm_pop, pm_cat, List.map_cons, List.map_nil, List.sum_cons, List.sum_nil, Value.category, Option.toList, List.cons_append, List.nil_append, ↓reduceIte, reduceCtorEq, Nat.reduceAdd, Nat.reduceLT, Nat.reduceLeDiff, Nat.reduceSub, Nat.reduceEqDiff, Nat.zero_le, Nat.sub_zero, Nat.le_refl, true_and, and_true, not_true_eq_false, not_false_eq_true, true_or, or_true, lc_eq, lc_ne, lc_lt, lc_ge, lc_gt, lc_le, nI_add, lN_add, nI_leI, nI_ltI, nI_eq, nI_clamp, pk_lLT, pk_lLE, pk_lEQ, pk_sub, vp_inT, nz_eq, nz_lt, nz_ge, nz_gt, nz_le, lz_eq, lz_lt, lz_ge, hP1, hP2, hP3, hP4, hP5, hP6, hP7, hP8, hP9, hP10, hP11, hP12, hP13, hP14, hP15, hP16, hP17, hP18, hP19, hP20, hs.1, m_g42 hs, m_t816 hs, m_n816 hs, gr, hn]
      exact hQ
    · simp (disch := omega) only [u_1073_0, B_1073_0, u_1073_18, B_1073_18, u_1073_19, B_1073_19, nI1T, Nat.left_eq_add, Nat.add_eq_left, Nat.add_eq_zero_iff, and_false, false_and, if_false, if_true, opsN, opsC, pm_1, lg, ls1, ls2, lq, List.length_cons, List.length_nil, cN, cL, callE, retV, retN, pm_pop, pm_cat, List.map_cons, List.map_nil, List.sum_cons, List.sum_nil, Value.category, Option.toList, List.cons_append, List.nil_append, ↓reduceIte, reduceCtorEq, Nat.reduceAdd, Nat.reduceLT, Nat.reduceLeDiff, Nat.reduceSub, Nat.reduceEqDiff, Nat.zero_le, Nat.sub_zero, Nat.le_refl, true_and, and_true, not_true_eq_false, not_false_eq_true, true_or, or_true, lc_eq, lc_ne, lc_lt, lc_ge, lc_gt, lc_le, nI_add, lN_add, nI_leI, nI_ltI, nI_eq, nI_clamp, pk_lLT, pk_lLE, pk_lEQ, pk_sub, vp_inT, nz_eq, nz_lt, nz_ge, nz_gt, nz_le, lz_eq, lz_lt, lz_ge, hP1, hP2, hP3, hP4, hP5, hP6, hP7, hP8, hP9, hP10, hP11, hP12, hP13, hP14, hP15, hP16, hP17, hP18, hP19, hP20, hs.1, m_g42 hs, m_t816 hs, m_n816 hs, gr, hn]
      exact hQ
  | some r =>
    have n1 : edgV w n = nI (rst w 16 n).length := by unfold edgV; rw [hr]
    have n2 : nodV w n = nI (orL (pth w 17 n) 0) := by unfold nodV; rw [hr]
    rw [n1, n2, pth_s] at hQ
    have hQ : Q (.inl (some (.int (if fl = 0 then nI (rst w 16 n).length else nI (orL (rst w 16 n) (0 ||| 2 ^ n)))))) h := hQ
    rw [z_or] at hQ
    rw [hr, iv_so] at gr
    have := hw.2.2.2.2.2.2.1 n r hn hr
    have e1 := m1_ne (n := r) (by omega)
    simp (disch := omega) only [u_1073_0, B_1073_0, u_1073_20, B_1073_20, nI1T, Nat.left_eq_add, Nat.add_eq_left, Nat.add_eq_zero_iff, and_false, false_and, if_false, if_true, opsN, opsC, pm_1, lg, ls1, ls2, lq, List.length_cons, List.length_nil, cN, cL, callE, retV, retN, pm_pop, pm_cat, List.map_cons, List.map_nil, List.sum_cons, List.sum_nil, Value.category, Option.toList, List.cons_append, List.nil_append, ↓reduceIte, reduceCtorEq, Nat.reduceAdd, Nat.reduceLT, Nat.reduceLeDiff, Nat.reduceSub, Nat.reduceEqDiff, Nat.zero_le, Nat.sub_zero, Nat.le_refl, true_and, and_true, not_true_eq_false, not_false_eq_true, true_or, or_true, lc_eq, lc_ne, lc_lt, lc_ge, lc_gt, lc_le, nI_add, lN_add, nI_leI, nI_ltI, nI_eq, nI_clamp, pk_lLT, pk_lLE, pk_lEQ, pk_sub, vp_inT, nz_eq, nz_lt, nz_ge, nz_gt, nz_le, lz_eq, lz_lt, lz_ge, hP1, hP2, hP3, hP4, hP5, hP6, hP7, hP8, hP9, hP10, hP11, hP12, hP13, hP14, hP15, hP16, hP17, hP18, hP19, hP20, hs.1, m_g42 hs, m_t816 hs, m_n816 hs, gr, hn, e1, sh_n]
    exact l1073 d B hs hc hw hfl 16 n r (2 ^ n) 0 hn hr (by omega) (Nat.pow_lt_pow_right (by decide) hn) (by rw [Nat.zero_add]; exact hQ)
end WA
