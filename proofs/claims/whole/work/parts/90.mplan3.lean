/-! ===== steps of the plan, read by the reference ===== -/
theorem wd_0 {X : List Nat} {p : Nat} {w : List Nat} (h : wd X p w = true) (h0 : 0 < w.length) : X[p]? = some (w.getD 0 0) := by
  simp only [wd, Bool.and_eq_true, decide_eq_true_eq] at h
  have := h.1 0 h0
  rw [Nat.add_zero] at this; exact this
theorem wd_ne {X : List Nat} {p : Nat} {w w' : List Nat} (h : wd X p w = true) (h0 : 0 < w.length) (h0' : 0 < w'.length) (hne : w.getD 0 0 ≠ w'.getD 0 0) : wd X p w' = false := by
  cases e : wd X p w' with
  | false => rfl
  | true =>
    have a := wd_0 h h0
    rw [wd_0 e h0'] at a
    injection a with a
    exact absurd a.symm hne
section A5
variable {m : Nat} {X : List Nat}
theorem l1053 (d : Nat) {dp : Nat} (hB : B54 X m dp (d + 5)) (hX : X.length ≤ 300) : ∀ (N a k : Nat) (h : pm_H) (Q : pm_Q) (x1 : Option Value), X.length - a ≤ N → mrd h m X (a, none) → hI h m 29 = nI k → hI h m 33 = nI dp → k ≤ a →
      (∀ h', rdO X m dp k a (nsm X) (CO X a) h h' → Q (.inl none) h') → pm_W PP (d + 5) 1053 Q 0 0 0 [some (.ref m), x1] [] h := by
  intro N
  induction N with
  | zero =>
    intro a k h Q x1 hN hr g29 g33 hk hQ
    have ha : a ≤ X.length := hr.2.2.2.2.2.2.1
    have ht := hr.2.2.2.2.2.2.2.2
    have hsk := skp_ok ha
    have e : X[skp X a]? = none := at_ge (by omega)
    rw [u_1053_0]
    simp (disch := omega) only [B_1053_0, nI1T, Nat.left_eq_add, Nat.add_eq_left, Nat.add_eq_zero_iff, and_false, false_and, if_false, if_true, opsN, opsC, pm_1, lg, ls1, ls2, lq, List.length_cons, List.length_nil, cN, cL, callE, retV, retN, pm_pop, pm_cat, List.map_cons, List.map_nil, List.sum_cons, List.sum_nil, Value.category, Option.toList, List.cons_append, List.nil_append, ↓reduceIte, reduceCtorEq, Nat.reduceAdd, Nat.reduceLT, Nat.reduceLeDiff, Nat.reduceSub, Nat.reduceEqDiff, Nat.zero_le, Nat.sub_zero, Nat.le_refl, true_and, and_true, not_true_eq_false, not_false_eq_true, true_or, or_true, lc_eq, lc_ne, lc_lt, lc_ge, lc_gt, lc_le, nI_add, lN_add, nI_leI, nI_ltI, nI_eq, nI_clamp, pk_lLT, pk_lLE, pk_lEQ, pk_sub, vp_inT, nz_eq, nz_lt, nz_ge, nz_gt, nz_le, lz_eq, lz_lt, lz_ge, hP1, hP2, hP3, hP4, hP5, hP6, hP7, hP8, hP9, hP10, hP11, hP12, hP13, hP14, hP15, hP16, hP17, hP18, hP19, hP20, hr.1.1]
    rw [q1043t _ hr rfl]
    simp (disch := omega) only [nI1T, Nat.left_eq_add, Nat.add_eq_left, Nat.add_eq_zero_iff, and_false, false_and, if_false, if_true, opsN, opsC, pm_1, lg, ls1, ls2, lq, List.length_cons, List.length_nil, cN, cL, callE, retV, retN, pm_pop, pm_cat, List.map_cons, List.map_nil, List.sum_cons, List.sum_nil, Value.category, Option.toList, List.cons_append, List.nil_append, ↓reduceIte, reduceCtorEq, Nat.reduceAdd, Nat.reduceLT, Nat.reduceLeDiff, Nat.reduceSub, Nat.reduceEqDiff, Nat.zero_le, Nat.sub_zero, Nat.le_refl, true_and, and_true, not_true_eq_false, not_false_eq_true, true_or, or_true, lc_eq, lc_ne, lc_lt, lc_ge, lc_gt, lc_le, nI_add, lN_add, nI_leI, nI_ltI, nI_eq, nI_clamp, pk_lLT, pk_lLE, pk_lEQ, pk_sub, vp_inT, nz_eq, nz_lt, nz_ge, nz_gt, nz_le, lz_eq, lz_lt, lz_ge, hP1, hP2, hP3, hP4, hP5, hP6, hP7, hP8, hP9, hP10, hP11, hP12, hP13, hP14, hP15, hP16, hP17, hP18, hP19, hP20, hr.1.1]
    refine c1042 (d + 3) hr rfl ?_
    intro h1 k1 f1
    simp (disch := omega) only [nI1T, Nat.left_eq_add, Nat.add_eq_left, Nat.add_eq_zero_iff, and_false, false_and, if_false, if_true, opsN, opsC, pm_1, lg, ls1, ls2, lq, List.length_cons, List.length_nil, cN, cL, callE, retV, retN, pm_pop, pm_cat, List.map_cons, List.map_nil, List.sum_cons, List.sum_nil, Value.category, Option.toList, List.cons_append, List.nil_append, ↓reduceIte, reduceCtorEq, Nat.reduceAdd, Nat.reduceLT, Nat.reduceLeDiff, Nat.reduceSub, Nat.reduceEqDiff, Nat.zero_le, Nat.sub_zero, Nat.le_refl, true_and, and_true, not_true_eq_false, not_false_eq_true, true_or, or_true, lc_eq, lc_ne, lc_lt, lc_ge, lc_gt, lc_le, nI_add, lN_add, nI_leI, nI_ltI, nI_eq, nI_clamp, pk_lLT, pk_lLE, pk_lEQ, pk_sub, vp_inT, nz_eq, nz_lt, nz_ge, nz_gt, nz_le, lz_eq, lz_lt, lz_ge, hP1, hP2, hP3, hP4, hP5, hP6, hP7, hP8, hP9, hP10, hP11, hP12, hP13, hP14, hP15, hP16, hP17, hP18, hP19, hP20]
    rw [q1045 _ (at_b ht)]
    have e' : X[skp X (a, (none : Fl)).1]? = none := e
    rw [e', if_neg (by decide)]
    simp (disch := omega) only [u_1053_195, B_1053_195, nI1T, Nat.left_eq_add, Nat.add_eq_left, Nat.add_eq_zero_iff, and_false, false_and, if_false, if_true, opsN, opsC, pm_1, lg, ls1, ls2, lq, List.length_cons, List.length_nil, cN, cL, callE, retV, retN, pm_pop, pm_cat, List.map_cons, List.map_nil, List.sum_cons, List.sum_nil, Value.category, Option.toList, List.cons_append, List.nil_append, ↓reduceIte, reduceCtorEq, Nat.reduceAdd, Nat.reduceLT, Nat.reduceLeDiff, Nat.reduceSub, Nat.reduceEqDiff, Nat.zero_le, Nat.sub_zero, Nat.le_refl, true_and, and_true, not_true_eq_false, not_false_eq_true, true_or, or_true, lc_eq, lc_ne, lc_lt, lc_ge, lc_gt, lc_le, nI_add, lN_add, nI_leI, nI_ltI, nI_eq, nI_clamp, pk_lLT, pk_lLE, pk_lEQ, pk_sub, vp_inT, nz_eq, nz_lt, nz_ge, nz_gt, nz_le, lz_eq, lz_lt, lz_ge, hP1, hP2, hP3, hP4, hP5, hP6, hP7, hP8, hP9, hP10, hP11, hP12, hP13, hP14, hP15, hP16, hP17, hP18, hP19, hP20]
    refine hQ h1 ⟨frG_V f1, .inr ⟨skp X a, [], 0, fun _ => p0, hsk.1, ⟨skp_id ha, by rw [e]; rfl⟩, k1, (f1.2.2.2.2.2.2 _ (by decide) (by decide) (by decide)).trans g29, (f1.2.2.2.2.2.2 _ (by decide) (by decide) (by decide)).trans g33, by omega, SG_nil _, fun i q1 q2 => absurd q2 (by omega), fun cur K W _ => ?_⟩⟩
    rw [List.append_nil]; exact (CO_skp ht ha).symm
  | succ N ih =>
    intro a k h Q x1 hN hr g29 g33 hk hQ
    have ha : a ≤ X.length := hr.2.2.2.2.2.2.1
    have ht := hr.2.2.2.2.2.2.2.2
    have hsk := skp_ok ha
    have hid := skp_id ha
    rw [u_1053_0]
    simp (disch := omega) only [B_1053_0, nI1T, Nat.left_eq_add, Nat.add_eq_left, Nat.add_eq_zero_iff, and_false, false_and, if_false, if_true, opsN, opsC, pm_1, lg, ls1, ls2, lq, List.length_cons, List.length_nil, cN, cL, callE, retV, retN, pm_pop, pm_cat, List.map_cons, List.map_nil, List.sum_cons, List.sum_nil, Value.category, Option.toList, List.cons_append, List.nil_append, ↓reduceIte, reduceCtorEq, Nat.reduceAdd, Nat.reduceLT, Nat.reduceLeDiff, Nat.reduceSub, Nat.reduceEqDiff, Nat.zero_le, Nat.sub_zero, Nat.le_refl, true_and, and_true, not_true_eq_false, not_false_eq_true, true_or, or_true, lc_eq, lc_ne, lc_lt, lc_ge, lc_gt, lc_le, nI_add, lN_add, nI_leI, nI_ltI, nI_eq, nI_clamp, pk_lLT, pk_lLE, pk_lEQ, pk_sub, vp_inT, nz_eq, nz_lt, nz_ge, nz_gt, nz_le, lz_eq, lz_lt, lz_ge, hP1, hP2, hP3, hP4, hP5, hP6, hP7, hP8, hP9, hP10, hP11, hP12, hP13, hP14, hP15, hP16, hP17, hP18, hP19, hP20, hr.1.1]
    rw [q1043t _ hr rfl]
    simp (disch := omega) only [nI1T, Nat.left_eq_add, Nat.add_eq_left, Nat.add_eq_zero_iff, and_false, false_and, if_false, if_true, opsN, opsC, pm_1, lg, ls1, ls2, lq, List.length_cons, List.length_nil, cN, cL, callE, retV, retN, pm_pop, pm_cat, List.map_cons, List.map_nil, List.sum_cons, List.sum_nil, Value.category, Option.toList, List.cons_append, List.nil_append, ↓reduceIte, reduceCtorEq, Nat.reduceAdd, Nat.reduceLT, Nat.reduceLeDiff, Nat.reduceSub, Nat.reduceEqDiff, Nat.zero_le, Nat.sub_zero, Nat.le_refl, true_and, and_true, not_true_eq_false, not_false_eq_true, true_or, or_true, lc_eq, lc_ne, lc_lt, lc_ge, lc_gt, lc_le, nI_add, lN_add, nI_leI, nI_ltI, nI_eq, nI_clamp, pk_lLT, pk_lLE, pk_lEQ, pk_sub, vp_inT, nz_eq, nz_lt, nz_ge, nz_gt, nz_le, lz_eq, lz_lt, lz_ge, hP1, hP2, hP3, hP4, hP5, hP6, hP7, hP8, hP9, hP10, hP11, hP12, hP13, hP14, hP15, hP16, hP17, hP18, hP19, hP20, hr.1.1]
    refine c1042 (d + 3) hr rfl ?_
    intro h1 k1 f1
    have b29 : hI h1 m 29 = nI k := (f1.2.2.2.2.2.2 _ (by decide) (by decide) (by decide)).trans g29
    have b33 : hI h1 m 33 = nI dp := (f1.2.2.2.2.2.2 _ (by decide) (by decide) (by decide)).trans g33
    simp (disch := omega) only [nI1T, Nat.left_eq_add, Nat.add_eq_left, Nat.add_eq_zero_iff, and_false, false_and, if_false, if_true, opsN, opsC, pm_1, lg, ls1, ls2, lq, List.length_cons, List.length_nil, cN, cL, callE, retV, retN, pm_pop, pm_cat, List.map_cons, List.map_nil, List.sum_cons, List.sum_nil, Value.category, Option.toList, List.cons_append, List.nil_append, ↓reduceIte, reduceCtorEq, Nat.reduceAdd, Nat.reduceLT, Nat.reduceLeDiff, Nat.reduceSub, Nat.reduceEqDiff, Nat.zero_le, Nat.sub_zero, Nat.le_refl, true_and, and_true, not_true_eq_false, not_false_eq_true, true_or, or_true, lc_eq, lc_ne, lc_lt, lc_ge, lc_gt, lc_le, nI_add, lN_add, nI_leI, nI_ltI, nI_eq, nI_clamp, pk_lLT, pk_lLE, pk_lEQ, pk_sub, vp_inT, nz_eq, nz_lt, nz_ge, nz_gt, nz_le, lz_eq, lz_lt, lz_ge, hP1, hP2, hP3, hP4, hP5, hP6, hP7, hP8, hP9, hP10, hP11, hP12, hP13, hP14, hP15, hP16, hP17, hP18, hP19, hP20]
    rw [q1045 _ (at_b ht)]
    by_cases sm : inO 97 122 X[skp X a]? = true
    case neg =>
      have sm' := (c9k _ _ _).mp sm
      have sm2 : ¬ inO 97 122 X[skp X (a, (none : Fl)).1]? = true := sm
      rw [if_neg sm2]
      simp (disch := omega) only [u_1053_195, B_1053_195, nI1T, Nat.left_eq_add, Nat.add_eq_left, Nat.add_eq_zero_iff, and_false, false_and, if_false, if_true, opsN, opsC, pm_1, lg, ls1, ls2, lq, List.length_cons, List.length_nil, cN, cL, callE, retV, retN, pm_pop, pm_cat, List.map_cons, List.map_nil, List.sum_cons, List.sum_nil, Value.category, Option.toList, List.cons_append, List.nil_append, ↓reduceIte, reduceCtorEq, Nat.reduceAdd, Nat.reduceLT, Nat.reduceLeDiff, Nat.reduceSub, Nat.reduceEqDiff, Nat.zero_le, Nat.sub_zero, Nat.le_refl, true_and, and_true, not_true_eq_false, not_false_eq_true, true_or, or_true, lc_eq, lc_ne, lc_lt, lc_ge, lc_gt, lc_le, nI_add, lN_add, nI_leI, nI_ltI, nI_eq, nI_clamp, pk_lLT, pk_lLE, pk_lEQ, pk_sub, vp_inT, nz_eq, nz_lt, nz_ge, nz_gt, nz_le, lz_eq, lz_lt, lz_ge, hP1, hP2, hP3, hP4, hP5, hP6, hP7, hP8, hP9, hP10, hP11, hP12, hP13, hP14, hP15, hP16, hP17, hP18, hP19, hP20]
      refine hQ h1 ⟨frG_V f1, .inr ⟨skp X a, [], 0, fun _ => p0, hsk.1, ⟨hid, sm'⟩, k1, b29, b33, by omega, SG_nil _, fun i q1 q2 => absurd q2 (by omega), fun cur K W _ => ?_⟩⟩
      rw [List.append_nil]; exact (CO_skp ht ha).symm
    case pos =>
      have sm2 : inO 97 122 X[skp X (a, (none : Fl)).1]? = true := sm
      rw [if_pos sm2]
      obtain ⟨b, eb, b1, b2⟩ : ∃ b, X[skp X a]? = some b ∧ 97 ≤ b ∧ b ≤ 122 := by
        cases e : X[skp X a]? with
        | none => rw [e] at sm; cases sm
        | some b =>
          rw [e] at sm
          simp only [inO, Bool.and_eq_true, decide_eq_true_eq] at sm
          exact ⟨b, rfl, sm.1, sm.2⟩
      have hpl := at_some eb
      have k1 : mrd h1 m X (skp X a, none) := k1
      have h93 : ∀ K : Ks, ¬ (0 < K.length ∧ b = 93) := fun K q => by omega
      have fin : wd X (skp X a) wAgain = false → ∀ (h5 : pm_H), mrd h5 m X (stpP X (skp X a)).1 → hI h5 m 29 = nI k → hI h5 m 33 = nI dp → frG m k h h5 → ((stpP X (skp X a)).1.2 = none → ∃ r : Pw, rwIs h5 (m + 329 + k) r ∧ r.1 < 4 ∧ stB (stOf r) ∧ (stpP X (skp X a)).2 = [stOf r]) →
          pm_W PP (d + 5) 1053 Q 0 0 176 [some (.ref m), some (.int (nI k))] [] h5 := fun hw h5 r5 c29 c33 fC hrow => by
        have hso := stp_ok ht hsk.2.1
        have r6 : mrd (sI h5 m (va_up (hI h5 m) 29 (nI (k + 1)))) m X (stpP X (skp X a)).1 := mrd_f (by decide) (by decide) (by decide) (by decide) r5
        simp (disch := omega) only [u_1053_176, B_1053_176, nI1T, Nat.left_eq_add, Nat.add_eq_left, Nat.add_eq_zero_iff, and_false, false_and, if_false, if_true, opsN, opsC, pm_1, lg, ls1, ls2, lq, List.length_cons, List.length_nil, cN, cL, callE, retV, retN, pm_pop, pm_cat, List.map_cons, List.map_nil, List.sum_cons, List.sum_nil, Value.category, Option.toList, List.cons_append, List.nil_append, ↓reduceIte, reduceCtorEq, Nat.reduceAdd, Nat.reduceLT, Nat.reduceLeDiff, Nat.reduceSub, Nat.reduceEqDiff, Nat.zero_le, Nat.sub_zero, Nat.le_refl, true_and, and_true, not_true_eq_false, not_false_eq_true, true_or, or_true, lc_eq, lc_ne, lc_lt, lc_ge, lc_gt, lc_le, nI_add, lN_add, nI_leI, nI_ltI, nI_eq, nI_clamp, pk_lLT, pk_lLE, pk_lEQ, pk_sub, vp_inT, nz_eq, nz_lt, nz_ge, nz_gt, nz_le, lz_eq, lz_lt, lz_ge, hP1, hP2, hP3, hP4, hP5, hP6, hP7, hP8, hP9, hP10, hP11, hP12, hP13, hP14, hP15, hP16, hP17, hP18, hP19, hP20, r5.1.1, c29]
        refine c1051 (d + 2) r6 (by decide) ?_
        intro h7 r7 f7
        have d29 : hI h7 m 29 = nI (k + 1) := (f7.2.2.2.2.2.2 _ (by decide) (by decide) (by decide)).trans (by rw [hI_at, va_up_self])
        have d33 : hI h7 m 33 = nI dp := (f7.2.2.2.2.2.2 _ (by decide) (by decide) (by decide)).trans (by rw [hI_at, va_up_ne _ _ (by decide)]; exact c33)
        have fD : frG m k h h7 := frG_trans fC (frG_trans (frG_f (by omega)) (frG_V f7))
        have eC : ∀ cur K W, CO X a cur K W = CLr (wantP X 59 (stpP X (skp X a)).1) (fun a' => CO X a' (cur ++ (stpP X (skp X a)).2) K (W + 1)) := fun cur K W => CO_step ht ha eb (h93 K) hw
        simp (disch := omega) only [nI1T, Nat.left_eq_add, Nat.add_eq_left, Nat.add_eq_zero_iff, and_false, false_and, if_false, if_true, opsN, opsC, pm_1, lg, ls1, ls2, lq, List.length_cons, List.length_nil, cN, cL, callE, retV, retN, pm_pop, pm_cat, List.map_cons, List.map_nil, List.sum_cons, List.sum_nil, Value.category, Option.toList, List.cons_append, List.nil_append, ↓reduceIte, reduceCtorEq, Nat.reduceAdd, Nat.reduceLT, Nat.reduceLeDiff, Nat.reduceSub, Nat.reduceEqDiff, Nat.zero_le, Nat.sub_zero, Nat.le_refl, true_and, and_true, not_true_eq_false, not_false_eq_true, true_or, or_true, lc_eq, lc_ne, lc_lt, lc_ge, lc_gt, lc_le, nI_add, lN_add, nI_leI, nI_ltI, nI_eq, nI_clamp, pk_lLT, pk_lLE, pk_lEQ, pk_sub, vp_inT, nz_eq, nz_lt, nz_ge, nz_gt, nz_le, lz_eq, lz_lt, lz_ge, hP1, hP2, hP3, hP4, hP5, hP6, hP7, hP8, hP9, hP10, hP11, hP12, hP13, hP14, hP15, hP16, hP17, hP18, hP19, hP20]
        cases ez : (wantP X 59 (stpP X (skp X a)).1).2 with
        | some e =>
          have r7' : mrd h7 m X ((wantP X 59 (stpP X (skp X a)).1).1, some e) := by rw [← ez]; exact r7
          rw [u_1053_0]
          simp (disch := omega) only [B_1053_0, nI1T, Nat.left_eq_add, Nat.add_eq_left, Nat.add_eq_zero_iff, and_false, false_and, if_false, if_true, opsN, opsC, pm_1, lg, ls1, ls2, lq, List.length_cons, List.length_nil, cN, cL, callE, retV, retN, pm_pop, pm_cat, List.map_cons, List.map_nil, List.sum_cons, List.sum_nil, Value.category, Option.toList, List.cons_append, List.nil_append, ↓reduceIte, reduceCtorEq, Nat.reduceAdd, Nat.reduceLT, Nat.reduceLeDiff, Nat.reduceSub, Nat.reduceEqDiff, Nat.zero_le, Nat.sub_zero, Nat.le_refl, true_and, and_true, not_true_eq_false, not_false_eq_true, true_or, or_true, lc_eq, lc_ne, lc_lt, lc_ge, lc_gt, lc_le, nI_add, lN_add, nI_leI, nI_ltI, nI_eq, nI_clamp, pk_lLT, pk_lLE, pk_lEQ, pk_sub, vp_inT, nz_eq, nz_lt, nz_ge, nz_gt, nz_le, lz_eq, lz_lt, lz_ge, hP1, hP2, hP3, hP4, hP5, hP6, hP7, hP8, hP9, hP10, hP11, hP12, hP13, hP14, hP15, hP16, hP17, hP18, hP19, hP20, r7.1.1]
          rw [q1043f _ r7' (fun q => by cases q)]
          simp (disch := omega) only [u_1053_195, B_1053_195, nI1T, Nat.left_eq_add, Nat.add_eq_left, Nat.add_eq_zero_iff, and_false, false_and, if_false, if_true, opsN, opsC, pm_1, lg, ls1, ls2, lq, List.length_cons, List.length_nil, cN, cL, callE, retV, retN, pm_pop, pm_cat, List.map_cons, List.map_nil, List.sum_cons, List.sum_nil, Value.category, Option.toList, List.cons_append, List.nil_append, ↓reduceIte, reduceCtorEq, Nat.reduceAdd, Nat.reduceLT, Nat.reduceLeDiff, Nat.reduceSub, Nat.reduceEqDiff, Nat.zero_le, Nat.sub_zero, Nat.le_refl, true_and, and_true, not_true_eq_false, not_false_eq_true, true_or, or_true, lc_eq, lc_ne, lc_lt, lc_ge, lc_gt, lc_le, nI_add, lN_add, nI_leI, nI_ltI, nI_eq, nI_clamp, pk_lLT, pk_lLE, pk_lEQ, pk_sub, vp_inT, nz_eq, nz_lt, nz_ge, nz_gt, nz_le, lz_eq, lz_lt, lz_ge, hP1, hP2, hP3, hP4, hP5, hP6, hP7, hP8, hP9, hP10, hP11, hP12, hP13, hP14, hP15, hP16, hP17, hP18, hP19, hP20]
          exact hQ h7 ⟨fD, .inl ⟨e, _, r7', fun cur K W _ => by rw [eC, CLr_s ez]⟩⟩
        | none =>
          have r7' : mrd h7 m X ((wantP X 59 (stpP X (skp X a)).1).1, none) := by rw [← ez]; exact r7
          have hlt := want_lt hso.1 ez
          obtain ⟨r, y1, y2, y3, y4⟩ := hrow (want_none ez)
          refine ih _ (k + 1) h7 Q _ (by omega) r7' d29 d33 (by omega) ?_
          intro h' hO
          obtain ⟨fE, hO⟩ := hO
          refine hQ h' ⟨frG_trans fD (frG_le (by omega) fE), ?_⟩
          rcases hO with ⟨e, a', q1, q2⟩ | ⟨a', U1, w1, R1, l1, l2, l3, l4, l5, l6, l7, l8, l9⟩
          · exact .inl ⟨e, a', q1, fun cur K W hK => by rw [eC, CLr_n ez, q2 _ _ _ hK]⟩
          · refine .inr ⟨a', stOf r :: U1, 1 + w1, va_up R1 k r, by omega, l2, l3, by rw [l4, Nat.add_assoc], l5, by omega, ?_, fun i hi1 hi2 => ?_, fun cur K W hK => ?_⟩
            · have hb1 : (va_up R1 k r) k = r := va_up_self _ _ _
              have hsg : SG (va_up R1 k r) (k + 1) (k + (1 + w1)) U1 := by
                rw [← Nat.add_assoc]; exact SG_congr l7 (fun j q1 q2 => va_up_ne _ _ (by omega))
              have := SG_step (R := va_up R1 k r) (i := k) (by rw [hb1]; exact y2) (by rw [hb1]; exact y3) hsg
              rw [hb1] at this; exact this
            · by_cases ei : i = k
              · subst ei
                rw [va_up_self]
                refine ⟨?_, by omega⟩
                unfold rwIs at *
                rw [fE.2.2.2.2.2.1 _ (by omega) (by omega), f7.2.2.2.2.2.1 _ (by omega), hP1, va_up_ne _ _ (by omega)]
                exact y1
              · rw [va_up_ne _ _ ei]; exact l8 i (by omega) (by omega)
            · rw [eC, CLr_n ez, l9 _ _ _ hK, y4, List.append_assoc, Nat.add_assoc]; rfl
      have hs := k1.1
      simp (disch := omega) only [nI1T, Nat.left_eq_add, Nat.add_eq_left, Nat.add_eq_zero_iff, and_false, false_and, if_false, if_true, opsN, opsC, pm_1, lg, ls1, ls2, lq, List.length_cons, List.length_nil, cN, cL, callE, retV, retN, pm_pop, pm_cat, List.map_cons, List.map_nil, List.sum_cons, List.sum_nil, Value.category, Option.toList, List.cons_append, List.nil_append, ↓reduceIte, reduceCtorEq, Nat.reduceAdd, Nat.reduceLT, Nat.reduceLeDiff, Nat.reduceSub, Nat.reduceEqDiff, Nat.zero_le, Nat.sub_zero, Nat.le_refl, true_and, and_true, not_true_eq_false, not_false_eq_true, true_or, or_true, lc_eq, lc_ne, lc_lt, lc_ge, lc_gt, lc_le, nI_add, lN_add, nI_leI, nI_ltI, nI_eq, nI_clamp, pk_lLT, pk_lLE, pk_lEQ, pk_sub, vp_inT, nz_eq, nz_lt, nz_ge, nz_gt, nz_le, lz_eq, lz_lt, lz_ge, hP1, hP2, hP3, hP4, hP5, hP6, hP7, hP8, hP9, hP10, hP11, hP12, hP13, hP14, hP15, hP16, hP17, hP18, hP19, hP20, k1.1.1, b29]
      refine c1048 (d + 2) (o := 13) (w := wPush) k1 rfl (by decide) (by decide) rfl (by decide) (by decide) ?_ ?_
      · intro w1 h2 k2 f2
        have w1 : wd X (skp X a) wPush = true := by rw [← hid]; exact w1
        have k2 : mrd h2 m X (skp X a + 4, none) := by rw [← hid]; exact k2
        have hs := k2.1
        simp (disch := omega) only [nI1T, Nat.left_eq_add, Nat.add_eq_left, Nat.add_eq_zero_iff, and_false, false_and, if_false, if_true, opsN, opsC, pm_1, lg, ls1, ls2, lq, List.length_cons, List.length_nil, cN, cL, callE, retV, retN, pm_pop, pm_cat, List.map_cons, List.map_nil, List.sum_cons, List.sum_nil, Value.category, Option.toList, List.cons_append, List.nil_append, ↓reduceIte, reduceCtorEq, Nat.reduceAdd, Nat.reduceLT, Nat.reduceLeDiff, Nat.reduceSub, Nat.reduceEqDiff, Nat.zero_le, Nat.sub_zero, Nat.le_refl, true_and, and_true, not_true_eq_false, not_false_eq_true, true_or, or_true, lc_eq, lc_ne, lc_lt, lc_ge, lc_gt, lc_le, nI_add, lN_add, nI_leI, nI_ltI, nI_eq, nI_clamp, pk_lLT, pk_lLE, pk_lEQ, pk_sub, vp_inT, nz_eq, nz_lt, nz_ge, nz_gt, nz_le, lz_eq, lz_lt, lz_ge, hP1, hP2, hP3, hP4, hP5, hP6, hP7, hP8, hP9, hP10, hP11, hP12, hP13, hP14, hP15, hP16, hP17, hP18, hP19, hP20, hs.1, m_g18 hs, m_t328 hs, m_n328 hs, m_r328 hs, m_rt328 hs, m_rn328 hs]
        refine c1049 (d + 2) k2 (by decide) ?_
        intro h3 v k3 kv f3
        have hs3 := k3.1
        have eL : stpP X (skp X a) = ((numP X 1000000000 (skp X a + 4, none)).1, [(0, 0, (numP X 1000000000 (skp X a + 4, none)).2)]) := by unfold stpP; rw [if_pos w1]
        simp (disch := omega) only [nI1T, Nat.left_eq_add, Nat.add_eq_left, Nat.add_eq_zero_iff, and_false, false_and, if_false, if_true, opsN, opsC, pm_1, lg, ls1, ls2, lq, List.length_cons, List.length_nil, cN, cL, callE, retV, retN, pm_pop, pm_cat, List.map_cons, List.map_nil, List.sum_cons, List.sum_nil, Value.category, Option.toList, List.cons_append, List.nil_append, ↓reduceIte, reduceCtorEq, Nat.reduceAdd, Nat.reduceLT, Nat.reduceLeDiff, Nat.reduceSub, Nat.reduceEqDiff, Nat.zero_le, Nat.sub_zero, Nat.le_refl, true_and, and_true, not_true_eq_false, not_false_eq_true, true_or, or_true, lc_eq, lc_ne, lc_lt, lc_ge, lc_gt, lc_le, nI_add, lN_add, nI_leI, nI_ltI, nI_eq, nI_clamp, pk_lLT, pk_lLE, pk_lEQ, pk_sub, vp_inT, nz_eq, nz_lt, nz_ge, nz_gt, nz_le, lz_eq, lz_lt, lz_ge, hP1, hP2, hP3, hP4, hP5, hP6, hP7, hP8, hP9, hP10, hP11, hP12, hP13, hP14, hP15, hP16, hP17, hP18, hP19, hP20]
        rw [q1052 _ (m_rt328 hs3 k (by omega)) (m_rn328 hs3 k (by omega))]
        simp (disch := omega) only [nI1T, Nat.left_eq_add, Nat.add_eq_left, Nat.add_eq_zero_iff, and_false, false_and, if_false, if_true, opsN, opsC, pm_1, lg, ls1, ls2, lq, List.length_cons, List.length_nil, cN, cL, callE, retV, retN, pm_pop, pm_cat, List.map_cons, List.map_nil, List.sum_cons, List.sum_nil, Value.category, Option.toList, List.cons_append, List.nil_append, ↓reduceIte, reduceCtorEq, Nat.reduceAdd, Nat.reduceLT, Nat.reduceLeDiff, Nat.reduceSub, Nat.reduceEqDiff, Nat.zero_le, Nat.sub_zero, Nat.le_refl, true_and, and_true, not_true_eq_false, not_false_eq_true, true_or, or_true, lc_eq, lc_ne, lc_lt, lc_ge, lc_gt, lc_le, nI_add, lN_add, nI_leI, nI_ltI, nI_eq, nI_clamp, pk_lLT, pk_lLE, pk_lEQ, pk_sub, vp_inT, nz_eq, nz_lt, nz_ge, nz_gt, nz_le, lz_eq, lz_lt, lz_ge, hP1, hP2, hP3, hP4, hP5, hP6, hP7, hP8, hP9, hP10, hP11, hP12, hP13, hP14, hP15, hP16, hP17, hP18, hP19, hP20]
        refine fin (wd_ne w1 (by decide) (by decide) (by decide)) _ (by rw [eL]; exact mrd_w (by omega) k3) ?_ ?_ (frG_trans (frG_V (frV_trans f1 (frV_trans f2 f3))) (frG_w (by omega) (by omega))) (fun q => ?_)
        · show hI (sI h3 _ _) m 29 = _
          rw [hP1, va_up_ne _ _ (by omega), f3.2.2.2.2.2.2 _ (by decide) (by decide) (by decide), f2.2.2.2.2.2.2 _ (by decide) (by decide) (by decide)]; exact b29
        · show hI (sI h3 _ _) m 33 = _
          rw [hP1, va_up_ne _ _ (by omega), f3.2.2.2.2.2.2 _ (by decide) (by decide) (by decide), f2.2.2.2.2.2.2 _ (by decide) (by decide) (by decide)]; exact b33
        · have hso := (stp_ok ht hsk.2.1).2.2.2 q
          rw [eL] at q hso
          obtain ⟨s, es, hs'⟩ := hso
          rw [← kv q] at es
          cases es
          exact ⟨(0, v, 0, 0), wrR_is (w := (0, v, 0, 0)), (by show (0 : Nat) < 4; decide), hs', by rw [eL, ← kv q]; rfl⟩
      intro w1 h2 k2 f2
      have w1 : ¬ wd X (skp X a) wPush = true := by rw [← hid, w1]; exact fun q => by cases q
      have k2 : mrd h2 m X (skp X a, none) := by rw [← hid]; exact k2
      simp (disch := omega) only [u_1053_54, B_1053_54, nI1T, Nat.left_eq_add, Nat.add_eq_left, Nat.add_eq_zero_iff, and_false, false_and, if_false, if_true, opsN, opsC, pm_1, lg, ls1, ls2, lq, List.length_cons, List.length_nil, cN, cL, callE, retV, retN, pm_pop, pm_cat, List.map_cons, List.map_nil, List.sum_cons, List.sum_nil, Value.category, Option.toList, List.cons_append, List.nil_append, ↓reduceIte, reduceCtorEq, Nat.reduceAdd, Nat.reduceLT, Nat.reduceLeDiff, Nat.reduceSub, Nat.reduceEqDiff, Nat.zero_le, Nat.sub_zero, Nat.le_refl, true_and, and_true, not_true_eq_false, not_false_eq_true, true_or, or_true, lc_eq, lc_ne, lc_lt, lc_ge, lc_gt, lc_le, nI_add, lN_add, nI_leI, nI_ltI, nI_eq, nI_clamp, pk_lLT, pk_lLE, pk_lEQ, pk_sub, vp_inT, nz_eq, nz_lt, nz_ge, nz_gt, nz_le, lz_eq, lz_lt, lz_ge, hP1, hP2, hP3, hP4, hP5, hP6, hP7, hP8, hP9, hP10, hP11, hP12, hP13, hP14, hP15, hP16, hP17, hP18, hP19, hP20, k2.1.1]
      refine c1048 (d + 2) (o := 14) (w := wPop) k2 rfl (by decide) (by decide) rfl (by decide) (by decide) ?_ ?_
      · intro w2 h3 k3 f3
        have w2 : wd X (skp X a) wPop = true := by rw [← hid]; exact w2
        have k3 : mrd h3 m X (skp X a + 3, none) := by rw [← hid]; exact k3
        have hs := k3.1
        have eL : stpP X (skp X a) = ((skp X a + 3, none), [(1, 0, 0)]) := by unfold stpP; rw [if_neg w1, if_pos w2]
        simp (disch := omega) only [nI1T, Nat.left_eq_add, Nat.add_eq_left, Nat.add_eq_zero_iff, and_false, false_and, if_false, if_true, opsN, opsC, pm_1, lg, ls1, ls2, lq, List.length_cons, List.length_nil, cN, cL, callE, retV, retN, pm_pop, pm_cat, List.map_cons, List.map_nil, List.sum_cons, List.sum_nil, Value.category, Option.toList, List.cons_append, List.nil_append, ↓reduceIte, reduceCtorEq, Nat.reduceAdd, Nat.reduceLT, Nat.reduceLeDiff, Nat.reduceSub, Nat.reduceEqDiff, Nat.zero_le, Nat.sub_zero, Nat.le_refl, true_and, and_true, not_true_eq_false, not_false_eq_true, true_or, or_true, lc_eq, lc_ne, lc_lt, lc_ge, lc_gt, lc_le, nI_add, lN_add, nI_leI, nI_ltI, nI_eq, nI_clamp, pk_lLT, pk_lLE, pk_lEQ, pk_sub, vp_inT, nz_eq, nz_lt, nz_ge, nz_gt, nz_le, lz_eq, lz_lt, lz_ge, hP1, hP2, hP3, hP4, hP5, hP6, hP7, hP8, hP9, hP10, hP11, hP12, hP13, hP14, hP15, hP16, hP17, hP18, hP19, hP20, hs.1, m_g18 hs, m_t328 hs, m_n328 hs, m_r328 hs, m_rt328 hs, m_rn328 hs]
        rw [q1052 _ (m_rt328 hs k (by omega)) (m_rn328 hs k (by omega))]
        simp (disch := omega) only [nI1T, Nat.left_eq_add, Nat.add_eq_left, Nat.add_eq_zero_iff, and_false, false_and, if_false, if_true, opsN, opsC, pm_1, lg, ls1, ls2, lq, List.length_cons, List.length_nil, cN, cL, callE, retV, retN, pm_pop, pm_cat, List.map_cons, List.map_nil, List.sum_cons, List.sum_nil, Value.category, Option.toList, List.cons_append, List.nil_append, ↓reduceIte, reduceCtorEq, Nat.reduceAdd, Nat.reduceLT, Nat.reduceLeDiff, Nat.reduceSub, Nat.reduceEqDiff, Nat.zero_le, Nat.sub_zero, Nat.le_refl, true_and, and_true, not_true_eq_false, not_false_eq_true, true_or, or_true, lc_eq, lc_ne, lc_lt, lc_ge, lc_gt, lc_le, nI_add, lN_add, nI_leI, nI_ltI, nI_eq, nI_clamp, pk_lLT, pk_lLE, pk_lEQ, pk_sub, vp_inT, nz_eq, nz_lt, nz_ge, nz_gt, nz_le, lz_eq, lz_lt, lz_ge, hP1, hP2, hP3, hP4, hP5, hP6, hP7, hP8, hP9, hP10, hP11, hP12, hP13, hP14, hP15, hP16, hP17, hP18, hP19, hP20]
        refine fin (wd_ne w2 (by decide) (by decide) (by decide)) _ (by rw [eL]; exact mrd_w (by omega) k3) ?_ ?_ (frG_trans (frG_V (frV_trans f1 (frV_trans f2 f3))) (frG_w (by omega) (by omega))) (fun q => ?_)
        · show hI (sI h3 _ _) m 29 = _
          rw [hP1, va_up_ne _ _ (by omega), f3.2.2.2.2.2.2 _ (by decide) (by decide) (by decide), f2.2.2.2.2.2.2 _ (by decide) (by decide) (by decide)]; exact b29
        · show hI (sI h3 _ _) m 33 = _
          rw [hP1, va_up_ne _ _ (by omega), f3.2.2.2.2.2.2 _ (by decide) (by decide) (by decide), f2.2.2.2.2.2.2 _ (by decide) (by decide) (by decide)]; exact b33
        · exact ⟨(1, 0, 0, 0), wrR_is (w := (1, 0, 0, 0)), by decide, ⟨by decide, by decide, by decide⟩, by rw [eL]; rfl⟩
      intro w2 h3 k3 f3
      have w2 : ¬ wd X (skp X a) wPop = true := by rw [← hid, w2]; exact fun q => by cases q
      have k3 : mrd h3 m X (skp X a, none) := by rw [← hid]; exact k3
      simp (disch := omega) only [u_1053_80, B_1053_80, nI1T, Nat.left_eq_add, Nat.add_eq_left, Nat.add_eq_zero_iff, and_false, false_and, if_false, if_true, opsN, opsC, pm_1, lg, ls1, ls2, lq, List.length_cons, List.length_nil, cN, cL, callE, retV, retN, pm_pop, pm_cat, List.map_cons, List.map_nil, List.sum_cons, List.sum_nil, Value.category, Option.toList, List.cons_append, List.nil_append, ↓reduceIte, reduceCtorEq, Nat.reduceAdd, Nat.reduceLT, Nat.reduceLeDiff, Nat.reduceSub, Nat.reduceEqDiff, Nat.zero_le, Nat.sub_zero, Nat.le_refl, true_and, and_true, not_true_eq_false, not_false_eq_true, true_or, or_true, lc_eq, lc_ne, lc_lt, lc_ge, lc_gt, lc_le, nI_add, lN_add, nI_leI, nI_ltI, nI_eq, nI_clamp, pk_lLT, pk_lLE, pk_lEQ, pk_sub, vp_inT, nz_eq, nz_lt, nz_ge, nz_gt, nz_le, lz_eq, lz_lt, lz_ge, hP1, hP2, hP3, hP4, hP5, hP6, hP7, hP8, hP9, hP10, hP11, hP12, hP13, hP14, hP15, hP16, hP17, hP18, hP19, hP20, k3.1.1]
      refine c1048 (d + 2) (o := 15) (w := wLess) k3 rfl (by decide) (by decide) rfl (by decide) (by decide) ?_ ?_
      · intro w3 h4 k4 f4
        have w3 : wd X (skp X a) wLess = true := by rw [← hid]; exact w3
        have k4 : mrd h4 m X (skp X a + 4, none) := by rw [← hid]; exact k4
        have hs := k4.1
        simp (disch := omega) only [nI1T, Nat.left_eq_add, Nat.add_eq_left, Nat.add_eq_zero_iff, and_false, false_and, if_false, if_true, opsN, opsC, pm_1, lg, ls1, ls2, lq, List.length_cons, List.length_nil, cN, cL, callE, retV, retN, pm_pop, pm_cat, List.map_cons, List.map_nil, List.sum_cons, List.sum_nil, Value.category, Option.toList, List.cons_append, List.nil_append, ↓reduceIte, reduceCtorEq, Nat.reduceAdd, Nat.reduceLT, Nat.reduceLeDiff, Nat.reduceSub, Nat.reduceEqDiff, Nat.zero_le, Nat.sub_zero, Nat.le_refl, true_and, and_true, not_true_eq_false, not_false_eq_true, true_or, or_true, lc_eq, lc_ne, lc_lt, lc_ge, lc_gt, lc_le, nI_add, lN_add, nI_leI, nI_ltI, nI_eq, nI_clamp, pk_lLT, pk_lLE, pk_lEQ, pk_sub, vp_inT, nz_eq, nz_lt, nz_ge, nz_gt, nz_le, lz_eq, lz_lt, lz_ge, hP1, hP2, hP3, hP4, hP5, hP6, hP7, hP8, hP9, hP10, hP11, hP12, hP13, hP14, hP15, hP16, hP17, hP18, hP19, hP20, hs.1, m_g18 hs, m_t328 hs, m_n328 hs, m_r328 hs, m_rt328 hs, m_rn328 hs]
        refine c1049 (d + 2) k4 (by decide) ?_
        intro h5 v k5 kv f5
        simp (disch := omega) only [nI1T, Nat.left_eq_add, Nat.add_eq_left, Nat.add_eq_zero_iff, and_false, false_and, if_false, if_true, opsN, opsC, pm_1, lg, ls1, ls2, lq, List.length_cons, List.length_nil, cN, cL, callE, retV, retN, pm_pop, pm_cat, List.map_cons, List.map_nil, List.sum_cons, List.sum_nil, Value.category, Option.toList, List.cons_append, List.nil_append, ↓reduceIte, reduceCtorEq, Nat.reduceAdd, Nat.reduceLT, Nat.reduceLeDiff, Nat.reduceSub, Nat.reduceEqDiff, Nat.zero_le, Nat.sub_zero, Nat.le_refl, true_and, and_true, not_true_eq_false, not_false_eq_true, true_or, or_true, lc_eq, lc_ne, lc_lt, lc_ge, lc_gt, lc_le, nI_add, lN_add, nI_leI, nI_ltI, nI_eq, nI_clamp, pk_lLT, pk_lLE, pk_lEQ, pk_sub, vp_inT, nz_eq, nz_lt, nz_ge, nz_gt, nz_le, lz_eq, lz_lt, lz_ge, hP1, hP2, hP3, hP4, hP5, hP6, hP7, hP8, hP9, hP10, hP11, hP12, hP13, hP14, hP15, hP16, hP17, hP18, hP19, hP20, k5.1.1]
        refine c1049 (d + 2) (most := 1000000000) k5 (by decide) ?_
        intro h6 v' k6 kv' f6
        have hs6 := k6.1
        have eL : stpP X (skp X a) = ((numP X 1000000000 (numP X 199 (skp X a + 4, none)).1).1, [(2, (numP X 199 (skp X a + 4, none)).2, (numP X 1000000000 (numP X 199 (skp X a + 4, none)).1).2)]) := by unfold stpP; rw [if_neg w1, if_neg w2, if_pos w3]
        simp (disch := omega) only [nI1T, Nat.left_eq_add, Nat.add_eq_left, Nat.add_eq_zero_iff, and_false, false_and, if_false, if_true, opsN, opsC, pm_1, lg, ls1, ls2, lq, List.length_cons, List.length_nil, cN, cL, callE, retV, retN, pm_pop, pm_cat, List.map_cons, List.map_nil, List.sum_cons, List.sum_nil, Value.category, Option.toList, List.cons_append, List.nil_append, ↓reduceIte, reduceCtorEq, Nat.reduceAdd, Nat.reduceLT, Nat.reduceLeDiff, Nat.reduceSub, Nat.reduceEqDiff, Nat.zero_le, Nat.sub_zero, Nat.le_refl, true_and, and_true, not_true_eq_false, not_false_eq_true, true_or, or_true, lc_eq, lc_ne, lc_lt, lc_ge, lc_gt, lc_le, nI_add, lN_add, nI_leI, nI_ltI, nI_eq, nI_clamp, pk_lLT, pk_lLE, pk_lEQ, pk_sub, vp_inT, nz_eq, nz_lt, nz_ge, nz_gt, nz_le, lz_eq, lz_lt, lz_ge, hP1, hP2, hP3, hP4, hP5, hP6, hP7, hP8, hP9, hP10, hP11, hP12, hP13, hP14, hP15, hP16, hP17, hP18, hP19, hP20]
        rw [q1052 _ (m_rt328 hs6 k (by omega)) (m_rn328 hs6 k (by omega))]
        simp (disch := omega) only [nI1T, Nat.left_eq_add, Nat.add_eq_left, Nat.add_eq_zero_iff, and_false, false_and, if_false, if_true, opsN, opsC, pm_1, lg, ls1, ls2, lq, List.length_cons, List.length_nil, cN, cL, callE, retV, retN, pm_pop, pm_cat, List.map_cons, List.map_nil, List.sum_cons, List.sum_nil, Value.category, Option.toList, List.cons_append, List.nil_append, ↓reduceIte, reduceCtorEq, Nat.reduceAdd, Nat.reduceLT, Nat.reduceLeDiff, Nat.reduceSub, Nat.reduceEqDiff, Nat.zero_le, Nat.sub_zero, Nat.le_refl, true_and, and_true, not_true_eq_false, not_false_eq_true, true_or, or_true, lc_eq, lc_ne, lc_lt, lc_ge, lc_gt, lc_le, nI_add, lN_add, nI_leI, nI_ltI, nI_eq, nI_clamp, pk_lLT, pk_lLE, pk_lEQ, pk_sub, vp_inT, nz_eq, nz_lt, nz_ge, nz_gt, nz_le, lz_eq, lz_lt, lz_ge, hP1, hP2, hP3, hP4, hP5, hP6, hP7, hP8, hP9, hP10, hP11, hP12, hP13, hP14, hP15, hP16, hP17, hP18, hP19, hP20]
        refine fin (wd_ne w3 (by decide) (by decide) (by decide)) _ (by rw [eL]; exact mrd_w (by omega) k6) ?_ ?_ (frG_trans (frG_V (frV_trans f1 (frV_trans f2 (frV_trans f3 (frV_trans f4 (frV_trans f5 f6)))))) (frG_w (by omega) (by omega))) (fun q => ?_)
        · show hI (sI h6 _ _) m 29 = _
          rw [hP1, va_up_ne _ _ (by omega), f6.2.2.2.2.2.2 _ (by decide) (by decide) (by decide), f5.2.2.2.2.2.2 _ (by decide) (by decide) (by decide), f4.2.2.2.2.2.2 _ (by decide) (by decide) (by decide), f3.2.2.2.2.2.2 _ (by decide) (by decide) (by decide), f2.2.2.2.2.2.2 _ (by decide) (by decide) (by decide)]; exact b29
        · show hI (sI h6 _ _) m 33 = _
          rw [hP1, va_up_ne _ _ (by omega), f6.2.2.2.2.2.2 _ (by decide) (by decide) (by decide), f5.2.2.2.2.2.2 _ (by decide) (by decide) (by decide), f4.2.2.2.2.2.2 _ (by decide) (by decide) (by decide), f3.2.2.2.2.2.2 _ (by decide) (by decide) (by decide), f2.2.2.2.2.2.2 _ (by decide) (by decide) (by decide)]; exact b33
        · have hso := (stp_ok ht hsk.2.1).2.2.2 q
          rw [eL] at q hso
          obtain ⟨s, es, hs'⟩ := hso
          have q' := num_none q
          rw [← kv' q, ← kv q'] at es
          cases es
          exact ⟨(2, v, v', 0), wrR_is (w := (2, v, v', 0)), (by show (2 : Nat) < 4; decide), hs', by rw [eL, ← kv' q, ← kv q']; rfl⟩
      intro w3 h4 k4 f4
      have w3 : ¬ wd X (skp X a) wLess = true := by rw [← hid, w3]; exact fun q => by cases q
      have k4 : mrd h4 m X (skp X a, none) := by rw [← hid]; exact k4
      simp (disch := omega) only [u_1053_118, B_1053_118, nI1T, Nat.left_eq_add, Nat.add_eq_left, Nat.add_eq_zero_iff, and_false, false_and, if_false, if_true, opsN, opsC, pm_1, lg, ls1, ls2, lq, List.length_cons, List.length_nil, cN, cL, callE, retV, retN, pm_pop, pm_cat, List.map_cons, List.map_nil, List.sum_cons, List.sum_nil, Value.category, Option.toList, List.cons_append, List.nil_append, ↓reduceIte, reduceCtorEq, Nat.reduceAdd, Nat.reduceLT, Nat.reduceLeDiff, Nat.reduceSub, Nat.reduceEqDiff, Nat.zero_le, Nat.sub_zero, Nat.le_refl, true_and, and_true, not_true_eq_false, not_false_eq_true, true_or, or_true, lc_eq, lc_ne, lc_lt, lc_ge, lc_gt, lc_le, nI_add, lN_add, nI_leI, nI_ltI, nI_eq, nI_clamp, pk_lLT, pk_lLE, pk_lEQ, pk_sub, vp_inT, nz_eq, nz_lt, nz_ge, nz_gt, nz_le, lz_eq, lz_lt, lz_ge, hP1, hP2, hP3, hP4, hP5, hP6, hP7, hP8, hP9, hP10, hP11, hP12, hP13, hP14, hP15, hP16, hP17, hP18, hP19, hP20, k4.1.1]
      refine c1048 (d + 2) (o := 16) (w := wDrop) k4 rfl (by decide) (by decide) rfl (by decide) (by decide) ?_ ?_
      · intro w4 h5 k5 f5
        have w4 : wd X (skp X a) wDrop = true := by rw [← hid]; exact w4
        have k5 : mrd h5 m X (skp X a + 4, none) := by rw [← hid]; exact k5
        have hs := k5.1
        simp (disch := omega) only [nI1T, Nat.left_eq_add, Nat.add_eq_left, Nat.add_eq_zero_iff, and_false, false_and, if_false, if_true, opsN, opsC, pm_1, lg, ls1, ls2, lq, List.length_cons, List.length_nil, cN, cL, callE, retV, retN, pm_pop, pm_cat, List.map_cons, List.map_nil, List.sum_cons, List.sum_nil, Value.category, Option.toList, List.cons_append, List.nil_append, ↓reduceIte, reduceCtorEq, Nat.reduceAdd, Nat.reduceLT, Nat.reduceLeDiff, Nat.reduceSub, Nat.reduceEqDiff, Nat.zero_le, Nat.sub_zero, Nat.le_refl, true_and, and_true, not_true_eq_false, not_false_eq_true, true_or, or_true, lc_eq, lc_ne, lc_lt, lc_ge, lc_gt, lc_le, nI_add, lN_add, nI_leI, nI_ltI, nI_eq, nI_clamp, pk_lLT, pk_lLE, pk_lEQ, pk_sub, vp_inT, nz_eq, nz_lt, nz_ge, nz_gt, nz_le, lz_eq, lz_lt, lz_ge, hP1, hP2, hP3, hP4, hP5, hP6, hP7, hP8, hP9, hP10, hP11, hP12, hP13, hP14, hP15, hP16, hP17, hP18, hP19, hP20, hs.1, m_g18 hs, m_t328 hs, m_n328 hs, m_r328 hs, m_rt328 hs, m_rn328 hs]
        refine c1049 (d + 2) k5 (by decide) ?_
        intro h6 v k6 kv f6
        have hs6 := k6.1
        have eL : stpP X (skp X a) = ((numP X 199 (skp X a + 4, none)).1, [(3, (numP X 199 (skp X a + 4, none)).2, 0)]) := by unfold stpP; rw [if_neg w1, if_neg w2, if_neg w3, if_pos w4]
        simp (disch := omega) only [nI1T, Nat.left_eq_add, Nat.add_eq_left, Nat.add_eq_zero_iff, and_false, false_and, if_false, if_true, opsN, opsC, pm_1, lg, ls1, ls2, lq, List.length_cons, List.length_nil, cN, cL, callE, retV, retN, pm_pop, pm_cat, List.map_cons, List.map_nil, List.sum_cons, List.sum_nil, Value.category, Option.toList, List.cons_append, List.nil_append, ↓reduceIte, reduceCtorEq, Nat.reduceAdd, Nat.reduceLT, Nat.reduceLeDiff, Nat.reduceSub, Nat.reduceEqDiff, Nat.zero_le, Nat.sub_zero, Nat.le_refl, true_and, and_true, not_true_eq_false, not_false_eq_true, true_or, or_true, lc_eq, lc_ne, lc_lt, lc_ge, lc_gt, lc_le, nI_add, lN_add, nI_leI, nI_ltI, nI_eq, nI_clamp, pk_lLT, pk_lLE, pk_lEQ, pk_sub, vp_inT, nz_eq, nz_lt, nz_ge, nz_gt, nz_le, lz_eq, lz_lt, lz_ge, hP1, hP2, hP3, hP4, hP5, hP6, hP7, hP8, hP9, hP10, hP11, hP12, hP13, hP14, hP15, hP16, hP17, hP18, hP19, hP20]
        rw [q1052 _ (m_rt328 hs6 k (by omega)) (m_rn328 hs6 k (by omega))]
        simp (disch := omega) only [nI1T, Nat.left_eq_add, Nat.add_eq_left, Nat.add_eq_zero_iff, and_false, false_and, if_false, if_true, opsN, opsC, pm_1, lg, ls1, ls2, lq, List.length_cons, List.length_nil, cN, cL, callE, retV, retN, pm_pop, pm_cat, List.map_cons, List.map_nil, List.sum_cons, List.sum_nil, Value.category, Option.toList, List.cons_append, List.nil_append, ↓reduceIte, reduceCtorEq, Nat.reduceAdd, Nat.reduceLT, Nat.reduceLeDiff, Nat.reduceSub, Nat.reduceEqDiff, Nat.zero_le, Nat.sub_zero, Nat.le_refl, true_and, and_true, not_true_eq_false, not_false_eq_true, true_or, or_true, lc_eq, lc_ne, lc_lt, lc_ge, lc_gt, lc_le, nI_add, lN_add, nI_leI, nI_ltI, nI_eq, nI_clamp, pk_lLT, pk_lLE, pk_lEQ, pk_sub, vp_inT, nz_eq, nz_lt, nz_ge, nz_gt, nz_le, lz_eq, lz_lt, lz_ge, hP1, hP2, hP3, hP4, hP5, hP6, hP7, hP8, hP9, hP10, hP11, hP12, hP13, hP14, hP15, hP16, hP17, hP18, hP19, hP20]
        refine fin (wd_ne w4 (by decide) (by decide) (by decide)) _ (by rw [eL]; exact mrd_w (by omega) k6) ?_ ?_ (frG_trans (frG_V (frV_trans f1 (frV_trans f2 (frV_trans f3 (frV_trans f4 (frV_trans f5 f6)))))) (frG_w (by omega) (by omega))) (fun q => ?_)
        · show hI (sI h6 _ _) m 29 = _
          rw [hP1, va_up_ne _ _ (by omega), f6.2.2.2.2.2.2 _ (by decide) (by decide) (by decide), f5.2.2.2.2.2.2 _ (by decide) (by decide) (by decide), f4.2.2.2.2.2.2 _ (by decide) (by decide) (by decide), f3.2.2.2.2.2.2 _ (by decide) (by decide) (by decide), f2.2.2.2.2.2.2 _ (by decide) (by decide) (by decide)]; exact b29
        · show hI (sI h6 _ _) m 33 = _
          rw [hP1, va_up_ne _ _ (by omega), f6.2.2.2.2.2.2 _ (by decide) (by decide) (by decide), f5.2.2.2.2.2.2 _ (by decide) (by decide) (by decide), f4.2.2.2.2.2.2 _ (by decide) (by decide) (by decide), f3.2.2.2.2.2.2 _ (by decide) (by decide) (by decide), f2.2.2.2.2.2.2 _ (by decide) (by decide) (by decide)]; exact b33
        · have hso := (stp_ok ht hsk.2.1).2.2.2 q
          rw [eL] at q hso
          obtain ⟨s, es, hs'⟩ := hso
          rw [← kv q] at es
          cases es
          exact ⟨(3, v, 0, 0), wrR_is (w := (3, v, 0, 0)), (by show (3 : Nat) < 4; decide), hs', by rw [eL, ← kv q]; rfl⟩
      intro w4 h5 k5 f5
      have w4 : ¬ wd X (skp X a) wDrop = true := by rw [← hid, w4]; exact fun q => by cases q
      have k5 : mrd h5 m X (skp X a, none) := by rw [← hid]; exact k5
      have f15 := frV_trans f1 (frV_trans f2 (frV_trans f3 (frV_trans f4 f5)))
      simp (disch := omega) only [u_1053_150, B_1053_150, nI1T, Nat.left_eq_add, Nat.add_eq_left, Nat.add_eq_zero_iff, and_false, false_and, if_false, if_true, opsN, opsC, pm_1, lg, ls1, ls2, lq, List.length_cons, List.length_nil, cN, cL, callE, retV, retN, pm_pop, pm_cat, List.map_cons, List.map_nil, List.sum_cons, List.sum_nil, Value.category, Option.toList, List.cons_append, List.nil_append, ↓reduceIte, reduceCtorEq, Nat.reduceAdd, Nat.reduceLT, Nat.reduceLeDiff, Nat.reduceSub, Nat.reduceEqDiff, Nat.zero_le, Nat.sub_zero, Nat.le_refl, true_and, and_true, not_true_eq_false, not_false_eq_true, true_or, or_true, lc_eq, lc_ne, lc_lt, lc_ge, lc_gt, lc_le, nI_add, lN_add, nI_leI, nI_ltI, nI_eq, nI_clamp, pk_lLT, pk_lLE, pk_lEQ, pk_sub, vp_inT, nz_eq, nz_lt, nz_ge, nz_gt, nz_le, lz_eq, lz_lt, lz_ge, hP1, hP2, hP3, hP4, hP5, hP6, hP7, hP8, hP9, hP10, hP11, hP12, hP13, hP14, hP15, hP16, hP17, hP18, hP19, hP20, k5.1.1]
      refine c1048 (d + 2) (o := 17) (w := wAgain) k5 rfl (by decide) (by decide) rfl (by decide) (by decide) ?_ ?_
      · intro w5 h6 k6 f6
        have w5 : wd X (skp X a) wAgain = true := by rw [← hid]; exact w5
        have k6 : mrd h6 m X (skp X a + 5, none) := by rw [← hid]; exact k6
        have f16 := frV_trans f15 f6
        have c29 : hI h6 m 29 = nI k := (f16.2.2.2.2.2.2 _ (by decide) (by decide) (by decide)).trans g29
        have c33 : hI h6 m 33 = nI dp := (f16.2.2.2.2.2.2 _ (by decide) (by decide) (by decide)).trans g33
        have eC : ∀ cur K W, K.length = dp → CO X a cur K W = opF X dp (skp X a) cur K W := fun cur K W hK => by
          rw [CO_open ht ha eb (h93 K) w5, hK]; rfl
        simp (disch := omega) only [nI1T, Nat.left_eq_add, Nat.add_eq_left, Nat.add_eq_zero_iff, and_false, false_and, if_false, if_true, opsN, opsC, pm_1, lg, ls1, ls2, lq, List.length_cons, List.length_nil, cN, cL, callE, retV, retN, pm_pop, pm_cat, List.map_cons, List.map_nil, List.sum_cons, List.sum_nil, Value.category, Option.toList, List.cons_append, List.nil_append, ↓reduceIte, reduceCtorEq, Nat.reduceAdd, Nat.reduceLT, Nat.reduceLeDiff, Nat.reduceSub, Nat.reduceEqDiff, Nat.zero_le, Nat.sub_zero, Nat.le_refl, true_and, and_true, not_true_eq_false, not_false_eq_true, true_or, or_true, lc_eq, lc_ne, lc_lt, lc_ge, lc_gt, lc_le, nI_add, lN_add, nI_leI, nI_ltI, nI_eq, nI_clamp, pk_lLT, pk_lLE, pk_lEQ, pk_sub, vp_inT, nz_eq, nz_lt, nz_ge, nz_gt, nz_le, lz_eq, lz_lt, lz_ge, hP1, hP2, hP3, hP4, hP5, hP6, hP7, hP8, hP9, hP10, hP11, hP12, hP13, hP14, hP15, hP16, hP17, hP18, hP19, hP20, k6.1.1]
        refine hB h6 _ (skp X a) k k6 c29 c33 (by omega) ?_
        intro h7 hO
        obtain ⟨fE, hO⟩ := hO
        have fD := frG_trans (frG_V (k := k) f16) fE
        simp (disch := omega) only [nI1T, Nat.left_eq_add, Nat.add_eq_left, Nat.add_eq_zero_iff, and_false, false_and, if_false, if_true, opsN, opsC, pm_1, lg, ls1, ls2, lq, List.length_cons, List.length_nil, cN, cL, callE, retV, retN, pm_pop, pm_cat, List.map_cons, List.map_nil, List.sum_cons, List.sum_nil, Value.category, Option.toList, List.cons_append, List.nil_append, ↓reduceIte, reduceCtorEq, Nat.reduceAdd, Nat.reduceLT, Nat.reduceLeDiff, Nat.reduceSub, Nat.reduceEqDiff, Nat.zero_le, Nat.sub_zero, Nat.le_refl, true_and, and_true, not_true_eq_false, not_false_eq_true, true_or, or_true, lc_eq, lc_ne, lc_lt, lc_ge, lc_gt, lc_le, nI_add, lN_add, nI_leI, nI_ltI, nI_eq, nI_clamp, pk_lLT, pk_lLE, pk_lEQ, pk_sub, vp_inT, nz_eq, nz_lt, nz_ge, nz_gt, nz_le, lz_eq, lz_lt, lz_ge, hP1, hP2, hP3, hP4, hP5, hP6, hP7, hP8, hP9, hP10, hP11, hP12, hP13, hP14, hP15, hP16, hP17, hP18, hP19, hP20]
        rcases hO with ⟨e, a', q1, q2⟩ | ⟨a', U1, w1, R1, l1, l2, l3, l4, l5, l6, l7, l8, l9⟩
        · rw [u_1053_0]
          simp (disch := omega) only [B_1053_0, nI1T, Nat.left_eq_add, Nat.add_eq_left, Nat.add_eq_zero_iff, and_false, false_and, if_false, if_true, opsN, opsC, pm_1, lg, ls1, ls2, lq, List.length_cons, List.length_nil, cN, cL, callE, retV, retN, pm_pop, pm_cat, List.map_cons, List.map_nil, List.sum_cons, List.sum_nil, Value.category, Option.toList, List.cons_append, List.nil_append, ↓reduceIte, reduceCtorEq, Nat.reduceAdd, Nat.reduceLT, Nat.reduceLeDiff, Nat.reduceSub, Nat.reduceEqDiff, Nat.zero_le, Nat.sub_zero, Nat.le_refl, true_and, and_true, not_true_eq_false, not_false_eq_true, true_or, or_true, lc_eq, lc_ne, lc_lt, lc_ge, lc_gt, lc_le, nI_add, lN_add, nI_leI, nI_ltI, nI_eq, nI_clamp, pk_lLT, pk_lLE, pk_lEQ, pk_sub, vp_inT, nz_eq, nz_lt, nz_ge, nz_gt, nz_le, lz_eq, lz_lt, lz_ge, hP1, hP2, hP3, hP4, hP5, hP6, hP7, hP8, hP9, hP10, hP11, hP12, hP13, hP14, hP15, hP16, hP17, hP18, hP19, hP20, q1.1.1]
          rw [q1043f _ q1 (fun q => by cases q)]
          simp (disch := omega) only [u_1053_195, B_1053_195, nI1T, Nat.left_eq_add, Nat.add_eq_left, Nat.add_eq_zero_iff, and_false, false_and, if_false, if_true, opsN, opsC, pm_1, lg, ls1, ls2, lq, List.length_cons, List.length_nil, cN, cL, callE, retV, retN, pm_pop, pm_cat, List.map_cons, List.map_nil, List.sum_cons, List.sum_nil, Value.category, Option.toList, List.cons_append, List.nil_append, ↓reduceIte, reduceCtorEq, Nat.reduceAdd, Nat.reduceLT, Nat.reduceLeDiff, Nat.reduceSub, Nat.reduceEqDiff, Nat.zero_le, Nat.sub_zero, Nat.le_refl, true_and, and_true, not_true_eq_false, not_false_eq_true, true_or, or_true, lc_eq, lc_ne, lc_lt, lc_ge, lc_gt, lc_le, nI_add, lN_add, nI_leI, nI_ltI, nI_eq, nI_clamp, pk_lLT, pk_lLE, pk_lEQ, pk_sub, vp_inT, nz_eq, nz_lt, nz_ge, nz_gt, nz_le, lz_eq, lz_lt, lz_ge, hP1, hP2, hP3, hP4, hP5, hP6, hP7, hP8, hP9, hP10, hP11, hP12, hP13, hP14, hP15, hP16, hP17, hP18, hP19, hP20]
          exact hQ h7 ⟨fD, .inl ⟨e, a', q1, fun cur K W hK => by rw [eC cur K W hK, q2 _ _ _ hK]⟩⟩
        · refine ih a' (k + w1) h7 Q _ (by omega) l3 l4 l5 l6 ?_
          intro h' hO
          obtain ⟨fF, hO⟩ := hO
          refine hQ h' ⟨frG_trans fD (frG_le (by omega) fF), ?_⟩
          rcases hO with ⟨e, a2, q1, q2⟩ | ⟨a2, U2, w2', R2, t1, t2, t3, t4, t5, t6, t7, t8, t9⟩
          · exact .inl ⟨e, a2, q1, fun cur K W hK => by rw [eC cur K W hK, l9 _ _ _ hK, q2 _ _ _ hK]⟩
          · refine .inr ⟨a2, U1 ++ U2, w1 + w2', fun i => if i < k + w1 then R1 i else R2 i, by omega, t2, t3, by rw [t4, Nat.add_assoc], t5, by omega, ?_, fun i hi1 hi2 => ?_, fun cur K W hK => ?_⟩
            · have s1 : SG (fun i => if i < k + w1 then R1 i else R2 i) k (k + w1) U1 := SG_congr l7 (fun j q1 q2 => if_pos q2)
              have s2 : SG (fun i => if i < k + w1 then R1 i else R2 i) (k + w1) (k + (w1 + w2')) U2 := by
                rw [← Nat.add_assoc]; exact SG_congr t7 (fun j q1 q2 => if_neg (by omega))
              exact SG_app s1 s2
            · show rwIs h' (m + 329 + i) (if i < k + w1 then R1 i else R2 i) ∧ (if i < k + w1 then R1 i else R2 i).1 ≤ 4
              by_cases ei : i < k + w1
              · rw [if_pos ei]
                have := l8 i hi1 ei
                unfold rwIs at *
                rw [fF.2.2.2.2.2.1 _ (by omega) (by omega)]
                exact this
              · rw [if_neg ei]; exact t8 i (by omega) (by omega)
            · rw [eC cur K W hK, l9 _ _ _ hK, t9 _ _ _ hK, List.append_assoc, Nat.add_assoc]
      intro w5 h6 k6 f6
      have w5 : wd X (skp X a) wAgain = false := by rw [← hid]; exact w5
      have k6 : mrd h6 m X (skp X a, none) := by rw [← hid]; exact k6
      have f16 := frV_trans f15 f6
      have g4 : hI h6 m 4 = nI (skp X a) := k6.2.2.1 rfl
      have eL : stpP X (skp X a) = ((skp X a, some (1, skp X a)), []) := by unfold stpP; rw [if_neg w1, if_neg w2, if_neg w3, if_neg w4]
      simp (disch := omega) only [u_1053_167, B_1053_167, nI1T, Nat.left_eq_add, Nat.add_eq_left, Nat.add_eq_zero_iff, and_false, false_and, if_false, if_true, opsN, opsC, pm_1, lg, ls1, ls2, lq, List.length_cons, List.length_nil, cN, cL, callE, retV, retN, pm_pop, pm_cat, List.map_cons, List.map_nil, List.sum_cons, List.sum_nil, Value.category, Option.toList, List.cons_append, List.nil_append, ↓reduceIte, reduceCtorEq, Nat.reduceAdd, Nat.reduceLT, Nat.reduceLeDiff, Nat.reduceSub, Nat.reduceEqDiff, Nat.zero_le, Nat.sub_zero, Nat.le_refl, true_and, and_true, not_true_eq_false, not_false_eq_true, true_or, or_true, lc_eq, lc_ne, lc_lt, lc_ge, lc_gt, lc_le, nI_add, lN_add, nI_leI, nI_ltI, nI_eq, nI_clamp, pk_lLT, pk_lLE, pk_lEQ, pk_sub, vp_inT, nz_eq, nz_lt, nz_ge, nz_gt, nz_le, lz_eq, lz_lt, lz_ge, hP1, hP2, hP3, hP4, hP5, hP6, hP7, hP8, hP9, hP10, hP11, hP12, hP13, hP14, hP15, hP16, hP17, hP18, hP19, hP20, k6.1.1, g4]
      refine c1044 (d + 4) k6 (by decide) (by decide) (by omega) ?_
      intro h7 r7 f7
      simp (disch := omega) only [nI1T, Nat.left_eq_add, Nat.add_eq_left, Nat.add_eq_zero_iff, and_false, false_and, if_false, if_true, opsN, opsC, pm_1, lg, ls1, ls2, lq, List.length_cons, List.length_nil, cN, cL, callE, retV, retN, pm_pop, pm_cat, List.map_cons, List.map_nil, List.sum_cons, List.sum_nil, Value.category, Option.toList, List.cons_append, List.nil_append, ↓reduceIte, reduceCtorEq, Nat.reduceAdd, Nat.reduceLT, Nat.reduceLeDiff, Nat.reduceSub, Nat.reduceEqDiff, Nat.zero_le, Nat.sub_zero, Nat.le_refl, true_and, and_true, not_true_eq_false, not_false_eq_true, true_or, or_true, lc_eq, lc_ne, lc_lt, lc_ge, lc_gt, lc_le, nI_add, lN_add, nI_leI, nI_ltI, nI_eq, nI_clamp, pk_lLT, pk_lLE, pk_lEQ, pk_sub, vp_inT, nz_eq, nz_lt, nz_ge, nz_gt, nz_le, lz_eq, lz_lt, lz_ge, hP1, hP2, hP3, hP4, hP5, hP6, hP7, hP8, hP9, hP10, hP11, hP12, hP13, hP14, hP15, hP16, hP17, hP18, hP19, hP20]
      exact fin w5 h7 (by rw [eL]; exact r7) ((f7.2.2.2.2.2.2 _ (by decide) (by decide) (by decide)).trans ((f16.2.2.2.2.2.2 _ (by decide) (by decide) (by decide)).trans g29)) ((f7.2.2.2.2.2.2 _ (by decide) (by decide) (by decide)).trans ((f16.2.2.2.2.2.2 _ (by decide) (by decide) (by decide)).trans g33)) (frG_V (frV_trans f16 f7)) (fun q => by rw [eL] at q; cases q)
theorem a53 (d : Nat) {dp : Nat} (hB : B54 X m dp (d + 5)) (hX : X.length ≤ 300) : A53 X m dp (d + 6) := by
  intro h Q a k hr g29 g33 hk hQ
  rw [e_1053]
  exact l1053 d hB hX X.length a k h Q none (by omega) hr g29 g33 hk hQ
theorem a53_0 (d : Nat) (hX : X.length ≤ 300) : A53 X m 0 (d + 12) := by
  have a3 : A53 X m 3 (d + 6) := a53 d (b54 d (fun q => absurd q (by decide)) (by decide) hX) hX
  have a2 : A53 X m 2 (d + 8) := a53 (d + 2) (b54 (d + 2) (fun _ => a3) (by decide) hX) hX
  have a1 : A53 X m 1 (d + 10) := a53 (d + 4) (b54 (d + 4) (fun _ => a2) (by decide) hX) hX
  exact a53 (d + 6) (b54 (d + 6) (fun _ => a1) (by decide) hX) hX
end A5
