/-! ===== the chart, read by the class ===== -/
def resF {α : Type} : (Nat × Nat) ⊕ α → Fl
  | .inl e => some e
  | .inr _ => none
theorem ed_ok {X : List Nat} {p : Nat} (ht : txt X) (hp : p ≤ X.length) : (edP X p).1.1 ≤ X.length ∧ flOK (edP X p).1.2 ∧ (edP X p).2.1 < 16 ∧ (edP X p).2.2.1 < 16 ∧ (edP X p).2.2.2 ≤ 1000000000 := by
  have a := num_ok (most := 15) (z := (p, none)) ht hp (fun e q => by cases q)
  have b := num_ok (most := 15) ht a.1 a.2.1
  have c := num_ok (most := 1000000000) ht b.1 b.2.1
  refine ⟨c.1, c.2.1, ?_, ?_, c.2.2⟩
  · have := a.2.2; show (numP X 15 (p, none)).2 < 16; omega
  · have := b.2.2; show (numP X 15 (numP X 15 (p, none)).1).2 < 16; omega
theorem ev_ok {X : List Nat} {p : Nat} (ht : txt X) (hp : p ≤ X.length) : (evP X p).1.1 ≤ X.length ∧ flOK (evP X p).1.2 ∧ (evP X p).2.1 < 8 ∧ (evP X p).2.2 ≤ 1000000000 := by
  have a := let_ok (z := (p, none)) ht hp (fun e q => by cases q)
  have b := num_ok (most := 1000000000) ht a.1 a.2.1
  exact ⟨b.1, b.2.1, a.2.2, b.2.2⟩
theorem ru_ok {X : List Nat} {p : Nat} (ht : txt X) (hp : p ≤ X.length) : (ruP X p).1.1 ≤ X.length ∧ flOK (ruP X p).1.2 ∧ (ruP X p).2.1 < 8 ∧ (ruP X p).2.2.1 ≤ 1000000000 ∧ (ruP X p).2.2.2 < 8 := by
  have a := let_ok (z := (p, none)) ht hp (fun e q => by cases q)
  have b := num_ok (most := 1000000000) ht a.1 a.2.1
  have c := let_ok ht b.1 b.2.1
  exact ⟨c.1, c.2.1, a.2.2, b.2.2, c.2.2⟩
theorem ln_ok {X : List Nat} {p : Nat} {C : Cs} (ht : txt X) (hp : p ≤ X.length) (hO : chOK C) : (lnP X C p).1.1 ≤ X.length ∧ flOK (lnP X C p).1.2 ∧ chOK (lnP X C p).2 := by
  have h5 := ht.1
  have f3 : flOK (some (3, p)) := bl_ok (f := none) (fun e q => by cases q) (by decide) (by decide) (by omega)
  have f1 : flOK (some (1, p)) := bl_ok (f := none) (fun e q => by cases q) (by decide) (by decide) (by omega)
  obtain ⟨o1, o2, o3, o4, o5, o6⟩ := hO
  unfold lnP
  by_cases w1 : wd X p wEdge = true
  · have hl := wd_len hp w1
    have hl : p + 4 ≤ X.length := hl
    rw [if_pos w1]
    by_cases c : C.1.length = 60
    · rw [if_pos c]; exact ⟨hl, f3, o1, o2, o3, o4, o5, o6⟩
    · rw [if_neg c]
      have k := ed_ok ht hl
      refine ⟨k.1, k.2.1, ?_, o2, o3, fun e he => ?_, o5, o6⟩
      · show (C.1 ++ [_]).length ≤ 60; rw [List.length_append]; show C.1.length + 1 ≤ 60; omega
      · rcases List.mem_append.mp he with z | z
        · exact o4 e z
        · rw [List.mem_singleton.mp z]; exact k.2.2
  · rw [if_neg w1]
    by_cases w2 : wd X p wEvent = true
    · have hl := wd_len hp w2
      have hl : p + 5 ≤ X.length := hl
      rw [if_pos w2]
      by_cases c : C.2.1.length = 12
      · rw [if_pos c]; exact ⟨hl, f3, o1, o2, o3, o4, o5, o6⟩
      · rw [if_neg c]
        have k := ev_ok ht hl
        refine ⟨k.1, k.2.1, o1, ?_, o3, o4, fun e he => ?_, o6⟩
        · show (C.2.1 ++ [_]).length ≤ 12; rw [List.length_append]; show C.2.1.length + 1 ≤ 12; omega
        · rcases List.mem_append.mp he with z | z
          · exact o5 e z
          · rw [List.mem_singleton.mp z]; exact k.2.2
    · rw [if_neg w2]
      by_cases w3 : wd X p wRule = true
      · have hl := wd_len hp w3
        have hl : p + 4 ≤ X.length := hl
        rw [if_pos w3]
        by_cases c : C.2.2.length = 16
        · rw [if_pos c]; exact ⟨hl, f3, o1, o2, o3, o4, o5, o6⟩
        · rw [if_neg c]
          have k := ru_ok ht hl
          refine ⟨k.1, k.2.1, o1, o2, ?_, o4, o5, fun e he => ?_⟩
          · show (C.2.2 ++ [_]).length ≤ 16; rw [List.length_append]; show C.2.2.length + 1 ≤ 16; omega
          · rcases List.mem_append.mp he with z | z
            · exact o6 e z
            · rw [List.mem_singleton.mp z]; exact k.2.2
      · rw [if_neg w3]; exact ⟨hp, f1, o1, o2, o3, o4, o5, o6⟩
theorem js_n : pm_js.length = 20 := rfl
section CR
variable {h : pm_H} {t c : Nat} {X : List Nat} {z : Rz} {C : Cs} {Q : pm_Q}
theorem isCh_R {h' : pm_H} (f : frR t h h') (htc : t + 1 < c) (hC : isCh h c C) : isCh h' c C := isCh_eq (fun k q1 q2 => f.2.2.2.2.2.1 k (by omega)) hC
theorem chS_R {h' : pm_H} (f : frR t h h') (hs : chS h c) : chS h' c := chS_eq f.1 f.2.1 (by rw [f.2.2.1]) hs
theorem c203 (d : Nat) {p : Nat} (hr : rd h t X (p, none)) (hsk : skp X p = p) (htc : t + 1 < c) (hs : chS h c) (hC : isCh h c C) (hO : chOK C)
    (hQ : ∀ h', rd h' t X (wantP X 59 (lnP X C p).1) → chS h' c → isCh h' c (lnP X C p).2 → frW t c (c + 9) h h' → Q (.inl none) h') :
    pm_M PP (d + 5) 203 [.ref c, .ref t] h Q := by
  have t0 := hr.1.1
  have r1 : hI h t 2 = nI p := hr.2.1
  have hz : p ≤ X.length := hr.2.2.2.2.2.2.1
  have ht := hr.2.2.2.2.2.2.2.2
  have h5 := ht.1
  have s0 := hs.1
  have fin : ∀ h1, rd h1 t X (lnP X C p).1 → chS h1 c → isCh h1 c (lnP X C p).2 → frW t c (c + 9) h h1 → pm_W PP (d + 4) 203 Q 0 0 65 [some (.ref c), some (.ref t), some (.int (nI p))] [] h1 := fun h1 k1 k2 k3 k4 => by
    simp (disch := omega) only [u_203_65, B_203_65, nI1T, Nat.left_eq_add, Nat.add_eq_left, Nat.add_eq_zero_iff, and_false, false_and, if_false, if_true, opsN, opsC, pm_1, lg, ls1, ls2, lq, List.length_cons, List.length_nil, cN, cL, callE, retV, retN, pm_pop, pm_cat, List.map_cons, List.map_nil, List.sum_cons, List.sum_nil, Value.category, Option.toList, List.cons_append, List.nil_append, ↓reduceIte, reduceCtorEq, Nat.reduceAdd, Nat.reduceLT, Nat.reduceLeDiff, Nat.reduceSub, Nat.reduceEqDiff, Nat.zero_le, Nat.sub_zero, Nat.le_refl, true_and, and_true, not_true_eq_false, not_false_eq_true, true_or, or_true, lc_eq, lc_ne, lc_lt, lc_ge, lc_gt, lc_le, nI_add, lN_add, nI_leI, nI_ltI, nI_eq, nI_clamp, pk_lLT, pk_lLE, pk_lEQ, pk_sub, vp_inT, nz_eq, nz_lt, nz_ge, nz_gt, nz_le, lz_eq, lz_lt, lz_ge, hP1, hP2, hP3, hP4, hP5, hP6, hP7, hP8, hP9, hP10, hP11, hP12, hP13, hP14, hP15, hP16, hP17, hP18, hP19, hP20, k1.1.1]
    refine c809 (d + 1) k1 (by decide) ?_
    intro h2 l1 l2
    simp (disch := omega) only [nI1T, Nat.left_eq_add, Nat.add_eq_left, Nat.add_eq_zero_iff, and_false, false_and, if_false, if_true, opsN, opsC, pm_1, lg, ls1, ls2, lq, List.length_cons, List.length_nil, cN, cL, callE, retV, retN, pm_pop, pm_cat, List.map_cons, List.map_nil, List.sum_cons, List.sum_nil, Value.category, Option.toList, List.cons_append, List.nil_append, ↓reduceIte, reduceCtorEq, Nat.reduceAdd, Nat.reduceLT, Nat.reduceLeDiff, Nat.reduceSub, Nat.reduceEqDiff, Nat.zero_le, Nat.sub_zero, Nat.le_refl, true_and, and_true, not_true_eq_false, not_false_eq_true, true_or, or_true, lc_eq, lc_ne, lc_lt, lc_ge, lc_gt, lc_le, nI_add, lN_add, nI_leI, nI_ltI, nI_eq, nI_clamp, pk_lLT, pk_lLE, pk_lEQ, pk_sub, vp_inT, nz_eq, nz_lt, nz_ge, nz_gt, nz_le, lz_eq, lz_lt, lz_ge, hP1, hP2, hP3, hP4, hP5, hP6, hP7, hP8, hP9, hP10, hP11, hP12, hP13, hP14, hP15, hP16, hP17, hP18, hP19, hP20]
    exact hQ h2 l1 (chS_R l2 k2) (isCh_R l2 htc k3) (frW_trans k4 (frW_R l2))
  rw [e_203]
  simp (disch := omega) only [u_203_0, B_203_0, nI1T, Nat.left_eq_add, Nat.add_eq_left, Nat.add_eq_zero_iff, and_false, false_and, if_false, if_true, opsN, opsC, pm_1, lg, ls1, ls2, lq, List.length_cons, List.length_nil, cN, cL, callE, retV, retN, pm_pop, pm_cat, List.map_cons, List.map_nil, List.sum_cons, List.sum_nil, Value.category, Option.toList, List.cons_append, List.nil_append, ↓reduceIte, reduceCtorEq, Nat.reduceAdd, Nat.reduceLT, Nat.reduceLeDiff, Nat.reduceSub, Nat.reduceEqDiff, Nat.zero_le, Nat.sub_zero, Nat.le_refl, true_and, and_true, not_true_eq_false, not_false_eq_true, true_or, or_true, lc_eq, lc_ne, lc_lt, lc_ge, lc_gt, lc_le, nI_add, lN_add, nI_leI, nI_ltI, nI_eq, nI_clamp, pk_lLT, pk_lLE, pk_lEQ, pk_sub, vp_inT, nz_eq, nz_lt, nz_ge, nz_gt, nz_le, lz_eq, lz_lt, lz_ge, hP1, hP2, hP3, hP4, hP5, hP6, hP7, hP8, hP9, hP10, hP11, hP12, hP13, hP14, hP15, hP16, hP17, hP18, hP19, hP20, t0, r1]
  refine c810 (d + 1) (o := 7) (w := wEdge) hr (by decide) (by decide) rfl (by decide) (by decide) ?_ ?_
  · intro w1 h1 k1 f1
    have w1 : wd X p wEdge = true := by rw [← hsk]; exact w1
    have k1 : rd h1 t X (p + 4, none) := by rw [← hsk]; exact k1
    have s1 : hT h1 c = 2 := by rw [f1.1]; exact s0
    simp (disch := omega) only [nI1T, Nat.left_eq_add, Nat.add_eq_left, Nat.add_eq_zero_iff, and_false, false_and, if_false, if_true, opsN, opsC, pm_1, lg, ls1, ls2, lq, List.length_cons, List.length_nil, cN, cL, callE, retV, retN, pm_pop, pm_cat, List.map_cons, List.map_nil, List.sum_cons, List.sum_nil, Value.category, Option.toList, List.cons_append, List.nil_append, ↓reduceIte, reduceCtorEq, Nat.reduceAdd, Nat.reduceLT, Nat.reduceLeDiff, Nat.reduceSub, Nat.reduceEqDiff, Nat.zero_le, Nat.sub_zero, Nat.le_refl, true_and, and_true, not_true_eq_false, not_false_eq_true, true_or, or_true, lc_eq, lc_ne, lc_lt, lc_ge, lc_gt, lc_le, nI_add, lN_add, nI_leI, nI_ltI, nI_eq, nI_clamp, pk_lLT, pk_lLE, pk_lEQ, pk_sub, vp_inT, nz_eq, nz_lt, nz_ge, nz_gt, nz_le, lz_eq, lz_lt, lz_ge, hP1, hP2, hP3, hP4, hP5, hP6, hP7, hP8, hP9, hP10, hP11, hP12, hP13, hP14, hP15, hP16, hP17, hP18, hP19, hP20, s1]
    refine c204 d k1 htc (chS_R f1 hs) (isCh_R f1 htc hC) hO (by omega) ?_
    intro h2 l1 l2 l3 l4
    simp (disch := omega) only [nI1T, Nat.left_eq_add, Nat.add_eq_left, Nat.add_eq_zero_iff, and_false, false_and, if_false, if_true, opsN, opsC, pm_1, lg, ls1, ls2, lq, List.length_cons, List.length_nil, cN, cL, callE, retV, retN, pm_pop, pm_cat, List.map_cons, List.map_nil, List.sum_cons, List.sum_nil, Value.category, Option.toList, List.cons_append, List.nil_append, ↓reduceIte, reduceCtorEq, Nat.reduceAdd, Nat.reduceLT, Nat.reduceLeDiff, Nat.reduceSub, Nat.reduceEqDiff, Nat.zero_le, Nat.sub_zero, Nat.le_refl, true_and, and_true, not_true_eq_false, not_false_eq_true, true_or, or_true, lc_eq, lc_ne, lc_lt, lc_ge, lc_gt, lc_le, nI_add, lN_add, nI_leI, nI_ltI, nI_eq, nI_clamp, pk_lLT, pk_lLE, pk_lEQ, pk_sub, vp_inT, nz_eq, nz_lt, nz_ge, nz_gt, nz_le, lz_eq, lz_lt, lz_ge, hP1, hP2, hP3, hP4, hP5, hP6, hP7, hP8, hP9, hP10, hP11, hP12, hP13, hP14, hP15, hP16, hP17, hP18, hP19, hP20]
    refine fin h2 ?_ l2 ?_ (frW_trans (frW_R f1) l4)
    · unfold lnP; rw [if_pos w1]
      by_cases c : C.1.length = 60
      · rw [if_pos c] at l1 ⊢; exact l1
      · rw [if_neg c] at l1 ⊢; exact l1
    · unfold lnP; rw [if_pos w1]
      by_cases c : C.1.length = 60
      · rw [if_pos c] at l3 ⊢; exact l3
      · rw [if_neg c] at l3 ⊢; exact l3
  · intro w1 h1 k1 f1
    have w1 : ¬ wd X p wEdge = true := by rw [← hsk, w1]; exact fun q => by cases q
    have k1 : rd h1 t X (p, none) := by rw [← hsk]; exact k1
    simp (disch := omega) only [u_203_23, B_203_23, nI1T, Nat.left_eq_add, Nat.add_eq_left, Nat.add_eq_zero_iff, and_false, false_and, if_false, if_true, opsN, opsC, pm_1, lg, ls1, ls2, lq, List.length_cons, List.length_nil, cN, cL, callE, retV, retN, pm_pop, pm_cat, List.map_cons, List.map_nil, List.sum_cons, List.sum_nil, Value.category, Option.toList, List.cons_append, List.nil_append, ↓reduceIte, reduceCtorEq, Nat.reduceAdd, Nat.reduceLT, Nat.reduceLeDiff, Nat.reduceSub, Nat.reduceEqDiff, Nat.zero_le, Nat.sub_zero, Nat.le_refl, true_and, and_true, not_true_eq_false, not_false_eq_true, true_or, or_true, lc_eq, lc_ne, lc_lt, lc_ge, lc_gt, lc_le, nI_add, lN_add, nI_leI, nI_ltI, nI_eq, nI_clamp, pk_lLT, pk_lLE, pk_lEQ, pk_sub, vp_inT, nz_eq, nz_lt, nz_ge, nz_gt, nz_le, lz_eq, lz_lt, lz_ge, hP1, hP2, hP3, hP4, hP5, hP6, hP7, hP8, hP9, hP10, hP11, hP12, hP13, hP14, hP15, hP16, hP17, hP18, hP19, hP20, k1.1.1]
    refine c810 (d + 1) (o := 8) (w := wEvent) k1 (by decide) (by decide) rfl (by decide) (by decide) ?_ ?_
    · intro w2 h2 k2 f2
      have w2 : wd X p wEvent = true := by rw [← hsk]; exact w2
      have k2 : rd h2 t X (p + 5, none) := by rw [← hsk]; exact k2
      have f12 := frR_trans f1 f2
      have s1 : hT h2 c = 2 := by rw [f12.1]; exact s0
      simp (disch := omega) only [nI1T, Nat.left_eq_add, Nat.add_eq_left, Nat.add_eq_zero_iff, and_false, false_and, if_false, if_true, opsN, opsC, pm_1, lg, ls1, ls2, lq, List.length_cons, List.length_nil, cN, cL, callE, retV, retN, pm_pop, pm_cat, List.map_cons, List.map_nil, List.sum_cons, List.sum_nil, Value.category, Option.toList, List.cons_append, List.nil_append, ↓reduceIte, reduceCtorEq, Nat.reduceAdd, Nat.reduceLT, Nat.reduceLeDiff, Nat.reduceSub, Nat.reduceEqDiff, Nat.zero_le, Nat.sub_zero, Nat.le_refl, true_and, and_true, not_true_eq_false, not_false_eq_true, true_or, or_true, lc_eq, lc_ne, lc_lt, lc_ge, lc_gt, lc_le, nI_add, lN_add, nI_leI, nI_ltI, nI_eq, nI_clamp, pk_lLT, pk_lLE, pk_lEQ, pk_sub, vp_inT, nz_eq, nz_lt, nz_ge, nz_gt, nz_le, lz_eq, lz_lt, lz_ge, hP1, hP2, hP3, hP4, hP5, hP6, hP7, hP8, hP9, hP10, hP11, hP12, hP13, hP14, hP15, hP16, hP17, hP18, hP19, hP20, s1]
      refine c205 d k2 htc (chS_R f12 hs) (isCh_R f12 htc hC) hO (by omega) ?_
      intro h3 l1 l2 l3 l4
      simp (disch := omega) only [nI1T, Nat.left_eq_add, Nat.add_eq_left, Nat.add_eq_zero_iff, and_false, false_and, if_false, if_true, opsN, opsC, pm_1, lg, ls1, ls2, lq, List.length_cons, List.length_nil, cN, cL, callE, retV, retN, pm_pop, pm_cat, List.map_cons, List.map_nil, List.sum_cons, List.sum_nil, Value.category, Option.toList, List.cons_append, List.nil_append, ↓reduceIte, reduceCtorEq, Nat.reduceAdd, Nat.reduceLT, Nat.reduceLeDiff, Nat.reduceSub, Nat.reduceEqDiff, Nat.zero_le, Nat.sub_zero, Nat.le_refl, true_and, and_true, not_true_eq_false, not_false_eq_true, true_or, or_true, lc_eq, lc_ne, lc_lt, lc_ge, lc_gt, lc_le, nI_add, lN_add, nI_leI, nI_ltI, nI_eq, nI_clamp, pk_lLT, pk_lLE, pk_lEQ, pk_sub, vp_inT, nz_eq, nz_lt, nz_ge, nz_gt, nz_le, lz_eq, lz_lt, lz_ge, hP1, hP2, hP3, hP4, hP5, hP6, hP7, hP8, hP9, hP10, hP11, hP12, hP13, hP14, hP15, hP16, hP17, hP18, hP19, hP20]
      refine fin h3 ?_ l2 ?_ (frW_trans (frW_R f12) l4)
      · unfold lnP; rw [if_neg w1, if_pos w2]
        by_cases c : C.2.1.length = 12
        · rw [if_pos c] at l1 ⊢; exact l1
        · rw [if_neg c] at l1 ⊢; exact l1
      · unfold lnP; rw [if_neg w1, if_pos w2]
        by_cases c : C.2.1.length = 12
        · rw [if_pos c] at l3 ⊢; exact l3
        · rw [if_neg c] at l3 ⊢; exact l3
    · intro w2 h2 k2 f2
      have w2 : ¬ wd X p wEvent = true := by rw [← hsk, w2]; exact fun q => by cases q
      have k2 : rd h2 t X (p, none) := by rw [← hsk]; exact k2
      simp (disch := omega) only [u_203_41, B_203_41, nI1T, Nat.left_eq_add, Nat.add_eq_left, Nat.add_eq_zero_iff, and_false, false_and, if_false, if_true, opsN, opsC, pm_1, lg, ls1, ls2, lq, List.length_cons, List.length_nil, cN, cL, callE, retV, retN, pm_pop, pm_cat, List.map_cons, List.map_nil, List.sum_cons, List.sum_nil, Value.category, Option.toList, List.cons_append, List.nil_append, ↓reduceIte, reduceCtorEq, Nat.reduceAdd, Nat.reduceLT, Nat.reduceLeDiff, Nat.reduceSub, Nat.reduceEqDiff, Nat.zero_le, Nat.sub_zero, Nat.le_refl, true_and, and_true, not_true_eq_false, not_false_eq_true, true_or, or_true, lc_eq, lc_ne, lc_lt, lc_ge, lc_gt, lc_le, nI_add, lN_add, nI_leI, nI_ltI, nI_eq, nI_clamp, pk_lLT, pk_lLE, pk_lEQ, pk_sub, vp_inT, nz_eq, nz_lt, nz_ge, nz_gt, nz_le, lz_eq, lz_lt, lz_ge, hP1, hP2, hP3, hP4, hP5, hP6, hP7, hP8, hP9, hP10, hP11, hP12, hP13, hP14, hP15, hP16, hP17, hP18, hP19, hP20, k2.1.1]
      refine c810 (d + 1) (o := 9) (w := wRule) k2 (by decide) (by decide) rfl (by decide) (by decide) ?_ ?_
      · intro w3 h3 k3 f3
        have w3 : wd X p wRule = true := by rw [← hsk]; exact w3
        have k3 : rd h3 t X (p + 4, none) := by rw [← hsk]; exact k3
        have f13 := frR_trans f1 (frR_trans f2 f3)
        have s1 : hT h3 c = 2 := by rw [f13.1]; exact s0
        simp (disch := omega) only [nI1T, Nat.left_eq_add, Nat.add_eq_left, Nat.add_eq_zero_iff, and_false, false_and, if_false, if_true, opsN, opsC, pm_1, lg, ls1, ls2, lq, List.length_cons, List.length_nil, cN, cL, callE, retV, retN, pm_pop, pm_cat, List.map_cons, List.map_nil, List.sum_cons, List.sum_nil, Value.category, Option.toList, List.cons_append, List.nil_append, ↓reduceIte, reduceCtorEq, Nat.reduceAdd, Nat.reduceLT, Nat.reduceLeDiff, Nat.reduceSub, Nat.reduceEqDiff, Nat.zero_le, Nat.sub_zero, Nat.le_refl, true_and, and_true, not_true_eq_false, not_false_eq_true, true_or, or_true, lc_eq, lc_ne, lc_lt, lc_ge, lc_gt, lc_le, nI_add, lN_add, nI_leI, nI_ltI, nI_eq, nI_clamp, pk_lLT, pk_lLE, pk_lEQ, pk_sub, vp_inT, nz_eq, nz_lt, nz_ge, nz_gt, nz_le, lz_eq, lz_lt, lz_ge, hP1, hP2, hP3, hP4, hP5, hP6, hP7, hP8, hP9, hP10, hP11, hP12, hP13, hP14, hP15, hP16, hP17, hP18, hP19, hP20, s1]
        refine c206 d k3 htc (chS_R f13 hs) (isCh_R f13 htc hC) hO (by omega) ?_
        intro h4 l1 l2 l3 l4
        simp (disch := omega) only [nI1T, Nat.left_eq_add, Nat.add_eq_left, Nat.add_eq_zero_iff, and_false, false_and, if_false, if_true, opsN, opsC, pm_1, lg, ls1, ls2, lq, List.length_cons, List.length_nil, cN, cL, callE, retV, retN, pm_pop, pm_cat, List.map_cons, List.map_nil, List.sum_cons, List.sum_nil, Value.category, Option.toList, List.cons_append, List.nil_append, ↓reduceIte, reduceCtorEq, Nat.reduceAdd, Nat.reduceLT, Nat.reduceLeDiff, Nat.reduceSub, Nat.reduceEqDiff, Nat.zero_le, Nat.sub_zero, Nat.le_refl, true_and, and_true, not_true_eq_false, not_false_eq_true, true_or, or_true, lc_eq, lc_ne, lc_lt, lc_ge, lc_gt, lc_le, nI_add, lN_add, nI_leI, nI_ltI, nI_eq, nI_clamp, pk_lLT, pk_lLE, pk_lEQ, pk_sub, vp_inT, nz_eq, nz_lt, nz_ge, nz_gt, nz_le, lz_eq, lz_lt, lz_ge, hP1, hP2, hP3, hP4, hP5, hP6, hP7, hP8, hP9, hP10, hP11, hP12, hP13, hP14, hP15, hP16, hP17, hP18, hP19, hP20]
        refine fin h4 ?_ l2 ?_ (frW_trans (frW_R f13) l4)
        · unfold lnP; rw [if_neg w1, if_neg w2, if_pos w3]
          by_cases c : C.2.2.length = 16
          · rw [if_pos c] at l1 ⊢; exact l1
          · rw [if_neg c] at l1 ⊢; exact l1
        · unfold lnP; rw [if_neg w1, if_neg w2, if_pos w3]
          by_cases c : C.2.2.length = 16
          · rw [if_pos c] at l3 ⊢; exact l3
          · rw [if_neg c] at l3 ⊢; exact l3
      · intro w3 h3 k3 f3
        have w3 : ¬ wd X p wRule = true := by rw [← hsk, w3]; exact fun q => by cases q
        have k3 : rd h3 t X (p, none) := by rw [← hsk]; exact k3
        simp (disch := omega) only [u_203_59, B_203_59, nI1T, Nat.left_eq_add, Nat.add_eq_left, Nat.add_eq_zero_iff, and_false, false_and, if_false, if_true, opsN, opsC, pm_1, lg, ls1, ls2, lq, List.length_cons, List.length_nil, cN, cL, callE, retV, retN, pm_pop, pm_cat, List.map_cons, List.map_nil, List.sum_cons, List.sum_nil, Value.category, Option.toList, List.cons_append, List.nil_append, ↓reduceIte, reduceCtorEq, Nat.reduceAdd, Nat.reduceLT, Nat.reduceLeDiff, Nat.reduceSub, Nat.reduceEqDiff, Nat.zero_le, Nat.sub_zero, Nat.le_refl, true_and, and_true, not_true_eq_false, not_false_eq_true, true_or, or_true, lc_eq, lc_ne, lc_lt, lc_ge, lc_gt, lc_le, nI_add, lN_add, nI_leI, nI_ltI, nI_eq, nI_clamp, pk_lLT, pk_lLE, pk_lEQ, pk_sub, vp_inT, nz_eq, nz_lt, nz_ge, nz_gt, nz_le, lz_eq, lz_lt, lz_ge, hP1, hP2, hP3, hP4, hP5, hP6, hP7, hP8, hP9, hP10, hP11, hP12, hP13, hP14, hP15, hP16, hP17, hP18, hP19, hP20, k3.1.1]
        refine c805 (d + 3) k3 (by decide) (by decide) (by omega) ?_
        intro h4 l1 l2
        have f14 := frR_trans f1 (frR_trans f2 (frR_trans f3 l2))
        have eL : lnP X C p = ((p, some (1, p)), C) := by unfold lnP; rw [if_neg w1, if_neg w2, if_neg w3]
        simp (disch := omega) only [nI1T, Nat.left_eq_add, Nat.add_eq_left, Nat.add_eq_zero_iff, and_false, false_and, if_false, if_true, opsN, opsC, pm_1, lg, ls1, ls2, lq, List.length_cons, List.length_nil, cN, cL, callE, retV, retN, pm_pop, pm_cat, List.map_cons, List.map_nil, List.sum_cons, List.sum_nil, Value.category, Option.toList, List.cons_append, List.nil_append, ↓reduceIte, reduceCtorEq, Nat.reduceAdd, Nat.reduceLT, Nat.reduceLeDiff, Nat.reduceSub, Nat.reduceEqDiff, Nat.zero_le, Nat.sub_zero, Nat.le_refl, true_and, and_true, not_true_eq_false, not_false_eq_true, true_or, or_true, lc_eq, lc_ne, lc_lt, lc_ge, lc_gt, lc_le, nI_add, lN_add, nI_leI, nI_ltI, nI_eq, nI_clamp, pk_lLT, pk_lLE, pk_lEQ, pk_sub, vp_inT, nz_eq, nz_lt, nz_ge, nz_gt, nz_le, lz_eq, lz_lt, lz_ge, hP1, hP2, hP3, hP4, hP5, hP6, hP7, hP8, hP9, hP10, hP11, hP12, hP13, hP14, hP15, hP16, hP17, hP18, hP19, hP20]
        refine fin h4 ?_ (chS_R f14 hs) ?_ (frW_R f14)
        · rw [eL]; exact l1
        · rw [eL]; exact isCh_R f14 htc hC
theorem l202 (d : Nat) (htc : t + 1 < c) : ∀ (f k a : Nat) (C : Cs) (h : pm_H), f + k = 500 → rd h t X (a, none) → chS h c → isCh h c C → chOK C →
      (∀ h' a', rd h' t X (a', resF (chL X f a C)) → chS h' c → (∀ C', chL X f a C = .inr C' → isCh h' c C') → frW t c (c + 9) h h' → Q (.inl none) h') →
      pm_W PP (d + 5) 202 Q 0 0 17 [some (.ref c), some (.ref t), some (.int (nI k))] [] h := by
  intro f
  induction f with
  | zero =>
    intro k a C h hk hr hs hC hO hQ
    have e : k = 500 := by omega
    subst e
    rw [u_202_17]
    simp (disch := omega) only [B_202_17, u_202_42, B_202_42, nI1T, Nat.left_eq_add, Nat.add_eq_left, Nat.add_eq_zero_iff, and_false, false_and, if_false, if_true, opsN, opsC, pm_1, lg, ls1, ls2, lq, List.length_cons, List.length_nil, cN, cL, callE, retV, retN, pm_pop, pm_cat, List.map_cons, List.map_nil, List.sum_cons, List.sum_nil, Value.category, Option.toList, List.cons_append, List.nil_append, ↓reduceIte, reduceCtorEq, Nat.reduceAdd, Nat.reduceLT, Nat.reduceLeDiff, Nat.reduceSub, Nat.reduceEqDiff, Nat.zero_le, Nat.sub_zero, Nat.le_refl, true_and, and_true, not_true_eq_false, not_false_eq_true, true_or, or_true, lc_eq, lc_ne, lc_lt, lc_ge, lc_gt, lc_le, nI_add, lN_add, nI_leI, nI_ltI, nI_eq, nI_clamp, pk_lLT, pk_lLE, pk_lEQ, pk_sub, vp_inT, nz_eq, nz_lt, nz_ge, nz_gt, nz_le, lz_eq, lz_lt, lz_ge, hP1, hP2, hP3, hP4, hP5, hP6, hP7, hP8, hP9, hP10, hP11, hP12, hP13, hP14, hP15, hP16, hP17, hP18, hP19, hP20]
    exact hQ h a hr hs (fun C' q => by cases q; exact hC) (frW_R (frR_refl _ _))
  | succ f ih =>
    intro k a C h hk hr hs hC hO hQ
    have ck : ¬ 500 ≤ k := by omega
    have hz : a ≤ X.length := hr.2.2.2.2.2.2.1
    have ht := hr.2.2.2.2.2.2.2.2
    rw [u_202_17]
    simp (disch := omega) only [B_202_17, nI1T, Nat.left_eq_add, Nat.add_eq_left, Nat.add_eq_zero_iff, and_false, false_and, if_false, if_true, opsN, opsC, pm_1, lg, ls1, ls2, lq, List.length_cons, List.length_nil, cN, cL, callE, retV, retN, pm_pop, pm_cat, List.map_cons, List.map_nil, List.sum_cons, List.sum_nil, Value.category, Option.toList, List.cons_append, List.nil_append, ↓reduceIte, reduceCtorEq, Nat.reduceAdd, Nat.reduceLT, Nat.reduceLeDiff, Nat.reduceSub, Nat.reduceEqDiff, Nat.zero_le, Nat.sub_zero, Nat.le_refl, true_and, and_true, not_true_eq_false, not_false_eq_true, true_or, or_true, lc_eq, lc_ne, lc_lt, lc_ge, lc_gt, lc_le, nI_add, lN_add, nI_leI, nI_ltI, nI_eq, nI_clamp, pk_lLT, pk_lLE, pk_lEQ, pk_sub, vp_inT, nz_eq, nz_lt, nz_ge, nz_gt, nz_le, lz_eq, lz_lt, lz_ge, hP1, hP2, hP3, hP4, hP5, hP6, hP7, hP8, hP9, hP10, hP11, hP12, hP13, hP14, hP15, hP16, hP17, hP18, hP19, hP20, ck, hr.1.1]
    cases e : X[skp X a]? with
    | none =>
      have eL : chL X (f + 1) a C = .inr C := by simp only [chL, e]
      rw [eL] at hQ
      refine c806f (d + 2) hr (.inr e) ?_
      intro h1 a1 k1 k2 f1
      simp (disch := omega) only [u_202_42, B_202_42, nI1T, Nat.left_eq_add, Nat.add_eq_left, Nat.add_eq_zero_iff, and_false, false_and, if_false, if_true, opsN, opsC, pm_1, lg, ls1, ls2, lq, List.length_cons, List.length_nil, cN, cL, callE, retV, retN, pm_pop, pm_cat, List.map_cons, List.map_nil, List.sum_cons, List.sum_nil, Value.category, Option.toList, List.cons_append, List.nil_append, ↓reduceIte, reduceCtorEq, Nat.reduceAdd, Nat.reduceLT, Nat.reduceLeDiff, Nat.reduceSub, Nat.reduceEqDiff, Nat.zero_le, Nat.sub_zero, Nat.le_refl, true_and, and_true, not_true_eq_false, not_false_eq_true, true_or, or_true, lc_eq, lc_ne, lc_lt, lc_ge, lc_gt, lc_le, nI_add, lN_add, nI_leI, nI_ltI, nI_eq, nI_clamp, pk_lLT, pk_lLE, pk_lEQ, pk_sub, vp_inT, nz_eq, nz_lt, nz_ge, nz_gt, nz_le, lz_eq, lz_lt, lz_ge, hP1, hP2, hP3, hP4, hP5, hP6, hP7, hP8, hP9, hP10, hP11, hP12, hP13, hP14, hP15, hP16, hP17, hP18, hP19, hP20]
      exact hQ h1 a1 k1 (chS_R f1 hs) (fun C' q => by cases q; exact isCh_R f1 htc hC) (frW_R f1)
    | some b =>
      refine c806t (d + 2) hr rfl e ?_
      intro h1 k1 f1
      have s1 : hT h1 c = 2 := by rw [f1.1]; exact hs.1
      simp (disch := omega) only [nI1T, Nat.left_eq_add, Nat.add_eq_left, Nat.add_eq_zero_iff, and_false, false_and, if_false, if_true, opsN, opsC, pm_1, lg, ls1, ls2, lq, List.length_cons, List.length_nil, cN, cL, callE, retV, retN, pm_pop, pm_cat, List.map_cons, List.map_nil, List.sum_cons, List.sum_nil, Value.category, Option.toList, List.cons_append, List.nil_append, ↓reduceIte, reduceCtorEq, Nat.reduceAdd, Nat.reduceLT, Nat.reduceLeDiff, Nat.reduceSub, Nat.reduceEqDiff, Nat.zero_le, Nat.sub_zero, Nat.le_refl, true_and, and_true, not_true_eq_false, not_false_eq_true, true_or, or_true, lc_eq, lc_ne, lc_lt, lc_ge, lc_gt, lc_le, nI_add, lN_add, nI_leI, nI_ltI, nI_eq, nI_clamp, pk_lLT, pk_lLE, pk_lEQ, pk_sub, vp_inT, nz_eq, nz_lt, nz_ge, nz_gt, nz_le, lz_eq, lz_lt, lz_ge, hP1, hP2, hP3, hP4, hP5, hP6, hP7, hP8, hP9, hP10, hP11, hP12, hP13, hP14, hP15, hP16, hP17, hP18, hP19, hP20, s1]
      refine c203 d k1 (skp_id hz) htc (chS_R f1 hs) (isCh_R f1 htc hC) hO ?_
      intro h2 l1 l2 l3 l4
      have hok := ln_ok ht (skp_ok hz).2.1 hO
      simp (disch := omega) only [nI1T, Nat.left_eq_add, Nat.add_eq_left, Nat.add_eq_zero_iff, and_false, false_and, if_false, if_true, opsN, opsC, pm_1, lg, ls1, ls2, lq, List.length_cons, List.length_nil, cN, cL, callE, retV, retN, pm_pop, pm_cat, List.map_cons, List.map_nil, List.sum_cons, List.sum_nil, Value.category, Option.toList, List.cons_append, List.nil_append, ↓reduceIte, reduceCtorEq, Nat.reduceAdd, Nat.reduceLT, Nat.reduceLeDiff, Nat.reduceSub, Nat.reduceEqDiff, Nat.zero_le, Nat.sub_zero, Nat.le_refl, true_and, and_true, not_true_eq_false, not_false_eq_true, true_or, or_true, lc_eq, lc_ne, lc_lt, lc_ge, lc_gt, lc_le, nI_add, lN_add, nI_leI, nI_ltI, nI_eq, nI_clamp, pk_lLT, pk_lLE, pk_lEQ, pk_sub, vp_inT, nz_eq, nz_lt, nz_ge, nz_gt, nz_le, lz_eq, lz_lt, lz_ge, hP1, hP2, hP3, hP4, hP5, hP6, hP7, hP8, hP9, hP10, hP11, hP12, hP13, hP14, hP15, hP16, hP17, hP18, hP19, hP20]
      cases ez : (wantP X 59 (lnP X C (skp X a)).1).2 with
      | some g =>
        have eL : chL X (f + 1) a C = .inl g := by simp only [chL, e, ez]
        rw [eL] at hQ
        have l1' : rd h2 t X ((wantP X 59 (lnP X C (skp X a)).1).1, some g) := by rw [← ez]; exact l1
        by_cases k500 : k + 1 = 500
        · have e5 : nI (k + 1) = nI 500 := by rw [k500]
          rw [u_202_17]
          simp (disch := omega) only [B_202_17, u_202_42, B_202_42, nI1T, Nat.left_eq_add, Nat.add_eq_left, Nat.add_eq_zero_iff, and_false, false_and, if_false, if_true, opsN, opsC, pm_1, lg, ls1, ls2, lq, List.length_cons, List.length_nil, cN, cL, callE, retV, retN, pm_pop, pm_cat, List.map_cons, List.map_nil, List.sum_cons, List.sum_nil, Value.category, Option.toList, List.cons_append, List.nil_append, ↓reduceIte, reduceCtorEq, Nat.reduceAdd, Nat.reduceLT, Nat.reduceLeDiff, Nat.reduceSub, Nat.reduceEqDiff, Nat.zero_le, Nat.sub_zero, Nat.le_refl, true_and, and_true, not_true_eq_false, not_false_eq_true, true_or, or_true, lc_eq, lc_ne, lc_lt, lc_ge, lc_gt, lc_le, nI_add, lN_add, nI_leI, nI_ltI, nI_eq, nI_clamp, pk_lLT, pk_lLE, pk_lEQ, pk_sub, vp_inT, nz_eq, nz_lt, nz_ge, nz_gt, nz_le, lz_eq, lz_lt, lz_ge, hP1, hP2, hP3, hP4, hP5, hP6, hP7, hP8, hP9, hP10, hP11, hP12, hP13, hP14, hP15, hP16, hP17, hP18, hP19, hP20, k500]
          exact hQ h2 _ l1' l2 (fun C' q => by cases q) (frW_trans (frW_R f1) l4)
        · have ck2 : ¬ 500 ≤ k + 1 := by omega
          rw [u_202_17]
          simp (disch := omega) only [B_202_17, nI1T, Nat.left_eq_add, Nat.add_eq_left, Nat.add_eq_zero_iff, and_false, false_and, if_false, if_true, opsN, opsC, pm_1, lg, ls1, ls2, lq, List.length_cons, List.length_nil, cN, cL, callE, retV, retN, pm_pop, pm_cat, List.map_cons, List.map_nil, List.sum_cons, List.sum_nil, Value.category, Option.toList, List.cons_append, List.nil_append, ↓reduceIte, reduceCtorEq, Nat.reduceAdd, Nat.reduceLT, Nat.reduceLeDiff, Nat.reduceSub, Nat.reduceEqDiff, Nat.zero_le, Nat.sub_zero, Nat.le_refl, true_and, and_true, not_true_eq_false, not_false_eq_true, true_or, or_true, lc_eq, lc_ne, lc_lt, lc_ge, lc_gt, lc_le, nI_add, lN_add, nI_leI, nI_ltI, nI_eq, nI_clamp, pk_lLT, pk_lLE, pk_lEQ, pk_sub, vp_inT, nz_eq, nz_lt, nz_ge, nz_gt, nz_le, lz_eq, lz_lt, lz_ge, hP1, hP2, hP3, hP4, hP5, hP6, hP7, hP8, hP9, hP10, hP11, hP12, hP13, hP14, hP15, hP16, hP17, hP18, hP19, hP20, ck2, l1.1.1]
          refine c806f (d + 2) l1' (.inl (fun q => by cases q)) ?_
          intro h3 a3 n1 n2 n3
          simp (disch := omega) only [u_202_42, B_202_42, nI1T, Nat.left_eq_add, Nat.add_eq_left, Nat.add_eq_zero_iff, and_false, false_and, if_false, if_true, opsN, opsC, pm_1, lg, ls1, ls2, lq, List.length_cons, List.length_nil, cN, cL, callE, retV, retN, pm_pop, pm_cat, List.map_cons, List.map_nil, List.sum_cons, List.sum_nil, Value.category, Option.toList, List.cons_append, List.nil_append, ↓reduceIte, reduceCtorEq, Nat.reduceAdd, Nat.reduceLT, Nat.reduceLeDiff, Nat.reduceSub, Nat.reduceEqDiff, Nat.zero_le, Nat.sub_zero, Nat.le_refl, true_and, and_true, not_true_eq_false, not_false_eq_true, true_or, or_true, lc_eq, lc_ne, lc_lt, lc_ge, lc_gt, lc_le, nI_add, lN_add, nI_leI, nI_ltI, nI_eq, nI_clamp, pk_lLT, pk_lLE, pk_lEQ, pk_sub, vp_inT, nz_eq, nz_lt, nz_ge, nz_gt, nz_le, lz_eq, lz_lt, lz_ge, hP1, hP2, hP3, hP4, hP5, hP6, hP7, hP8, hP9, hP10, hP11, hP12, hP13, hP14, hP15, hP16, hP17, hP18, hP19, hP20]
          exact hQ h3 a3 n1 (chS_R n3 l2) (fun C' q => by cases q) (frW_trans (frW_R f1) (frW_trans l4 (frW_R n3)))
      | none =>
        have eL : chL X (f + 1) a C = chL X f (wantP X 59 (lnP X C (skp X a)).1).1 (lnP X C (skp X a)).2 := by simp only [chL, e, ez]
        rw [eL] at hQ
        have l1' : rd h2 t X ((wantP X 59 (lnP X C (skp X a)).1).1, none) := by rw [← ez]; exact l1
        exact ih (k + 1) _ _ h2 (by omega) l1' l2 l3 hok.2.2 (fun h' a' q1 q2 q3 q4 => hQ h' a' q1 q2 q3 (frW_trans (frW_R f1) (frW_trans l4 q4)))
def c0s : Cs := ([], [], [])
theorem c202 (d : Nat) (htc : t + 1 < c) (hr : rd h t X (0, none)) (hs : chS h c)
    (hQ : ∀ h' a', rd h' t X (a', resF (chL X 500 0 c0s)) → chS h' c → (∀ C', chL X 500 0 c0s = .inr C' → isCh h' c C') → frW t c (c + 9) h h' → Q (.inl none) h') :
    pm_M PP (d + 6) 202 [.ref c, .ref t] h Q := by
  have s0 := hs.1
  rw [e_202]
  simp (disch := omega) only [u_202_0, B_202_0, nI1T, Nat.left_eq_add, Nat.add_eq_left, Nat.add_eq_zero_iff, and_false, false_and, if_false, if_true, opsN, opsC, pm_1, lg, ls1, ls2, lq, List.length_cons, List.length_nil, cN, cL, callE, retV, retN, pm_pop, pm_cat, List.map_cons, List.map_nil, List.sum_cons, List.sum_nil, Value.category, Option.toList, List.cons_append, List.nil_append, ↓reduceIte, reduceCtorEq, Nat.reduceAdd, Nat.reduceLT, Nat.reduceLeDiff, Nat.reduceSub, Nat.reduceEqDiff, Nat.zero_le, Nat.sub_zero, Nat.le_refl, true_and, and_true, not_true_eq_false, not_false_eq_true, true_or, or_true, lc_eq, lc_ne, lc_lt, lc_ge, lc_gt, lc_le, nI_add, lN_add, nI_leI, nI_ltI, nI_eq, nI_clamp, pk_lLT, pk_lLE, pk_lEQ, pk_sub, vp_inT, nz_eq, nz_lt, nz_ge, nz_gt, nz_le, lz_eq, lz_lt, lz_ge, hP1, hP2, hP3, hP4, hP5, hP6, hP7, hP8, hP9, hP10, hP11, hP12, hP13, hP14, hP15, hP16, hP17, hP18, hP19, hP20, s0, sI_sI, va_upE]
  refine l202 d (X := X) htc 500 0 0 c0s _ rfl (rd_sI (by omega) (by omega) hr) (chS_sI hs) ⟨?_, ?_, ?_, fun i hi => absurd hi (Nat.not_lt_zero _), fun i hi => absurd hi (Nat.not_lt_zero _), fun i hi => absurd hi (Nat.not_lt_zero _)⟩ ⟨by decide, by decide, by decide, fun e he => absurd he List.not_mem_nil, fun e he => absurd he List.not_mem_nil, fun e he => absurd he List.not_mem_nil⟩ (fun h' a' q1 q2 q3 q4 => hQ h' a' q1 q2 q3 (frW_trans (frW_sI (by omega) (by omega) (by omega)) q4))
  · rw [hI_at]; simp only [va_upE, Nat.reduceEqDiff, if_false, if_true]; rfl
  · rw [hI_at]; simp only [va_upE, Nat.reduceEqDiff, if_false, if_true]; rfl
  · rw [hI_at]; simp only [va_upE, Nat.reduceEqDiff, if_false, if_true]; rfl
end CR
