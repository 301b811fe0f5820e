/-! ===== loops and steps of the plan, read by the reference ===== -/
def A53 (X : List Nat) (m dp D : Nat) : Prop := ∀ (h : pm_H) (Q : pm_Q) (a k : Nat), mrd h m X (a, none) → hI h m 29 = nI k → hI h m 33 = nI dp → k ≤ a →
  (∀ h', rdO X m dp k a (nsm X) (CO X a) h h' → Q (.inl none) h') → pm_M PP D 1053 [.ref m] h Q
def opF (X : List Nat) (dp p : Nat) (cur : List St) (K : Ks) (W : Nat) : (Nat × Nat) ⊕ Ps := CLr (opP X dp p) (fun a' => CO X a' [] (((numP X 50 (p + 5, none)).2, cur) :: K) (W + 1))
def B54 (X : List Nat) (m dp D : Nat) : Prop := ∀ (h : pm_H) (Q : pm_Q) (p k : Nat), mrd h m X (p + 5, none) → hI h m 29 = nI k → hI h m 33 = nI dp → k ≤ p →
  (∀ h', rdO X m dp k (p + 1) (fun _ => True) (opF X dp p) h h' → Q (.inl none) h') → pm_M PP D 1054 [.ref m] h Q
theorem ns_wd {X : List Nat} {p : Nat} {w : List Nat} (hn : inO 97 122 X[p]? = false) (h0 : 0 < w.length) (h1 : 97 ≤ w.getD 0 0) (h2 : w.getD 0 0 ≤ 122) : wd X p w = false := by
  cases e : wd X p w with
  | false => rfl
  | true =>
    simp only [wd, Bool.and_eq_true, decide_eq_true_eq] at e
    have := e.1 0 h0
    rw [Nat.add_zero] at this
    rw [this] at hn
    simp only [inO, Bool.and_eq_false_iff, decide_eq_false_iff_not] at hn
    omega
theorem ns_stp {X : List Nat} {p : Nat} (hn : inO 97 122 X[p]? = false) : stpP X p = ((p, some (1, p)), []) := by
  unfold stpP
  rw [if_neg (by rw [ns_wd hn (by decide) (by decide) (by decide)]; exact fun q => by cases q), if_neg (by rw [ns_wd hn (by decide) (by decide) (by decide)]; exact fun q => by cases q), if_neg (by rw [ns_wd hn (by decide) (by decide) (by decide)]; exact fun q => by cases q), if_neg (by rw [ns_wd hn (by decide) (by decide) (by decide)]; exact fun q => by cases q)]
theorem bl_sm {f : Fl} {e : Nat × Nat} : bl f e ≠ none := by cases f <;> exact fun q => by cases q
/-- where a small letter does not stand, and no bracket that closes, there is a fault -/
theorem CO_ns {X : List Nat} {a : Nat} {cur : List St} {K : Ks} {W : Nat} (ht : txt X) (ha : a ≤ X.length) (hn : nsm X a) (h93 : 0 < K.length) (hb : X[a]? ≠ some 93) : CO X a cur K W = .inl (1, a) := by
  obtain ⟨n1, n2⟩ := hn
  cases e : X[a]? with
  | none =>
    have hl : ¬ a < X.length := fun q => by rw [at_lt q] at e; cases e
    rw [CO_end ht ha (by rw [n1]; exact e)]
    unfold CLe
    rw [if_neg (by omega), show X.length = a by omega]
  | some b =>
    have hb3 : ¬ b = 93 := fun q => hb (by rw [e, q])
    rw [CO_step ht ha (by rw [n1]; exact e) (fun q => hb3 q.2) (by rw [n1]; exact ns_wd n2 (by decide) (by decide) (by decide)), n1, ns_stp n2, CLr_s (want_some (fun q => by cases q))]
section B5
variable {m : Nat} {X : List Nat}
theorem b54 (d : Nat) {dp : Nat} (hA : dp < 3 → A53 X m (dp + 1) (d + 4)) (hdp : dp ≤ 3) (hX : X.length ≤ 300) : B54 X m dp (d + 5) := by
  intro h Q p k hr g29 g33 hk hQ
  have hp : p + 5 ≤ X.length := hr.2.2.2.2.2.2.1
  have ht := hr.2.2.2.2.2.2.2.2
  have hok := op_ok (dp := dp) ht hp
  have h5 := ht.1
  have hr0 : mrd (sI h m (va_up (hI h m) 29 (nI (k + 1)))) m X (p + 5, none) := mrd_f (by decide) (by decide) (by decide) (by decide) hr
  have fA : frG m k h (sI h m (va_up (hI h m) 29 (nI (k + 1)))) := frG_f (by omega)
  have a29 : hI (sI h m (va_up (hI h m) 29 (nI (k + 1)))) m 29 = nI (k + 1) := by rw [hI_at, va_up_self]
  have a33 : hI (sI h m (va_up (hI h m) 29 (nI (k + 1)))) m 33 = nI dp := by rw [hI_at, va_up_ne _ _ (by decide)]; exact g33
  rw [e_1054]
  simp (disch := omega) only [u_1054_0, B_1054_0, nI1T, Nat.left_eq_add, Nat.add_eq_left, Nat.add_eq_zero_iff, and_false, false_and, if_false, if_true, opsN, opsC, pm_1, lg, ls1, ls2, lq, List.length_cons, List.length_nil, cN, cL, callE, retV, retN, pm_pop, pm_cat, List.map_cons, List.map_nil, List.sum_cons, List.sum_nil, Value.category, Option.toList, List.cons_append, List.nil_append, ↓reduceIte, reduceCtorEq, Nat.reduceAdd, Nat.reduceLT, Nat.reduceLeDiff, Nat.reduceSub, Nat.reduceEqDiff, Nat.zero_le, Nat.sub_zero, Nat.le_refl, true_and, and_true, not_true_eq_false, not_false_eq_true, true_or, or_true, lc_eq, lc_ne, lc_lt, lc_ge, lc_gt, lc_le, nI_add, lN_add, nI_leI, nI_ltI, nI_eq, nI_clamp, pk_lLT, pk_lLE, pk_lEQ, pk_sub, vp_inT, nz_eq, nz_lt, nz_ge, nz_gt, nz_le, lz_eq, lz_lt, lz_ge, hP1, hP2, hP3, hP4, hP5, hP6, hP7, hP8, hP9, hP10, hP11, hP12, hP13, hP14, hP15, hP16, hP17, hP18, hP19, hP20, hr.1.1, g29]
  generalize sI h m (va_up (hI h m) 29 (nI (k + 1))) = h0 at hr0 fA a29 a33 ⊢
  refine c1049 (d + 1) hr0 (by decide) ?_
  intro h1 v k1 kv f1
  have b29 : hI h1 m 29 = nI (k + 1) := (f1.2.2.2.2.2.2 _ (by decide) (by decide) (by decide)).trans a29
  have b33 : hI h1 m 33 = nI dp := (f1.2.2.2.2.2.2 _ (by decide) (by decide) (by decide)).trans a33
  have fB := frG_trans fA (frG_V (k := k) f1)
  have hz1 : (numP X 50 (p + 5, none)).1.1 ≤ X.length := k1.2.2.2.2.2.2.1
  have hsk := skp_ok hz1
  have mid : ∀ h3 z3, mrd h3 m X z3 → hI h3 m 29 = nI (k + 1) → hI h3 m 33 = nI dp → frG m k h h3 → (wantP X 91 z3).2 = (opP X dp p).2 → ((opP X dp p).2 = none → wantP X 91 z3 = opP X dp p ∧ v = (numP X 50 (p + 5, none)).2) →
      pm_W PP (d + 4) 1054 Q 0 0 55 [some (.ref m), some (.int (nI k)), some (.int (nI v))] [] h3 := fun h3 z3 r3 c29 c33 fC e1 e2 => by
    simp (disch := omega) only [u_1054_55, B_1054_55, nI1T, Nat.left_eq_add, Nat.add_eq_left, Nat.add_eq_zero_iff, and_false, false_and, if_false, if_true, opsN, opsC, pm_1, lg, ls1, ls2, lq, List.length_cons, List.length_nil, cN, cL, callE, retV, retN, pm_pop, pm_cat, List.map_cons, List.map_nil, List.sum_cons, List.sum_nil, Value.category, Option.toList, List.cons_append, List.nil_append, ↓reduceIte, reduceCtorEq, Nat.reduceAdd, Nat.reduceLT, Nat.reduceLeDiff, Nat.reduceSub, Nat.reduceEqDiff, Nat.zero_le, Nat.sub_zero, Nat.le_refl, true_and, and_true, not_true_eq_false, not_false_eq_true, true_or, or_true, lc_eq, lc_ne, lc_lt, lc_ge, lc_gt, lc_le, nI_add, lN_add, nI_leI, nI_ltI, nI_eq, nI_clamp, pk_lLT, pk_lLE, pk_lEQ, pk_sub, vp_inT, nz_eq, nz_lt, nz_ge, nz_gt, nz_le, lz_eq, lz_lt, lz_ge, hP1, hP2, hP3, hP4, hP5, hP6, hP7, hP8, hP9, hP10, hP11, hP12, hP13, hP14, hP15, hP16, hP17, hP18, hP19, hP20, r3.1.1]
    refine c1051 (d + 1) r3 (by decide) ?_
    intro h4 r4 f4
    have d29 : hI h4 m 29 = nI (k + 1) := (f4.2.2.2.2.2.2 _ (by decide) (by decide) (by decide)).trans c29
    have d33 : hI h4 m 33 = nI dp := (f4.2.2.2.2.2.2 _ (by decide) (by decide) (by decide)).trans c33
    have r5 : mrd (sI h4 m (va_up (hI h4 m) 33 (nI (dp + 1)))) m X (wantP X 91 z3) := mrd_f (by decide) (by decide) (by decide) (by decide) r4
    have fE : frG m k h (sI h4 m (va_up (hI h4 m) 33 (nI (dp + 1)))) := frG_trans fC (frG_trans (frG_V f4) (frG_f (by omega)))
    have e29 : hI (sI h4 m (va_up (hI h4 m) 33 (nI (dp + 1)))) m 29 = nI (k + 1) := by rw [hI_at, va_up_ne _ _ (by decide)]; exact d29
    have e33 : hI (sI h4 m (va_up (hI h4 m) 33 (nI (dp + 1)))) m 33 = nI (dp + 1) := by rw [hI_at, va_up_self]
    simp (disch := omega) only [nI1T, Nat.left_eq_add, Nat.add_eq_left, Nat.add_eq_zero_iff, and_false, false_and, if_false, if_true, opsN, opsC, pm_1, lg, ls1, ls2, lq, List.length_cons, List.length_nil, cN, cL, callE, retV, retN, pm_pop, pm_cat, List.map_cons, List.map_nil, List.sum_cons, List.sum_nil, Value.category, Option.toList, List.cons_append, List.nil_append, ↓reduceIte, reduceCtorEq, Nat.reduceAdd, Nat.reduceLT, Nat.reduceLeDiff, Nat.reduceSub, Nat.reduceEqDiff, Nat.zero_le, Nat.sub_zero, Nat.le_refl, true_and, and_true, not_true_eq_false, not_false_eq_true, true_or, or_true, lc_eq, lc_ne, lc_lt, lc_ge, lc_gt, lc_le, nI_add, lN_add, nI_leI, nI_ltI, nI_eq, nI_clamp, pk_lLT, pk_lLE, pk_lEQ, pk_sub, vp_inT, nz_eq, nz_lt, nz_ge, nz_gt, nz_le, lz_eq, lz_lt, lz_ge, hP1, hP2, hP3, hP4, hP5, hP6, hP7, hP8, hP9, hP10, hP11, hP12, hP13, hP14, hP15, hP16, hP17, hP18, hP19, hP20, r4.1.1, d33]
    generalize sI h4 m (va_up (hI h4 m) 33 (nI (dp + 1))) = h5 at r5 fE e29 e33 ⊢
    have lastE : ∀ (h8 : pm_H) (a8 : Nat) (e : Nat × Nat), mrd h8 m X (a8, some e) → frG m k h h8 → (∀ cur K W, K.length = dp → opF X dp p cur K W = .inl e) → Q (.inl none) (wrR (sI h8 m (va_up (hI h8 m) 33 (hI h8 m 33 - nI 1))) (m + 329 + k) (nI 4) (nI v) (nI 0) (hI h8 m 29)) := fun h8 a8 e q1 q2 q3 =>
      hQ _ ⟨frG_trans q2 (frG_trans (frG_f (by omega)) (frG_w (by omega) (by omega))), .inl ⟨e, a8, mrd_w (by omega) (mrd_f (by decide) (by decide) (by decide) (by decide) q1), q3⟩⟩
    cases ez : (opP X dp p).2 with
    | some e =>
      have r5' : mrd h5 m X ((wantP X 91 z3).1, some e) := by rw [← ez, ← e1]; exact r5
      refine c1053f (d + 2) r5' ?_
      simp (disch := omega) only [nI1T, Nat.left_eq_add, Nat.add_eq_left, Nat.add_eq_zero_iff, and_false, false_and, if_false, if_true, opsN, opsC, pm_1, lg, ls1, ls2, lq, List.length_cons, List.length_nil, cN, cL, callE, retV, retN, pm_pop, pm_cat, List.map_cons, List.map_nil, List.sum_cons, List.sum_nil, Value.category, Option.toList, List.cons_append, List.nil_append, ↓reduceIte, reduceCtorEq, Nat.reduceAdd, Nat.reduceLT, Nat.reduceLeDiff, Nat.reduceSub, Nat.reduceEqDiff, Nat.zero_le, Nat.sub_zero, Nat.le_refl, true_and, and_true, not_true_eq_false, not_false_eq_true, true_or, or_true, lc_eq, lc_ne, lc_lt, lc_ge, lc_gt, lc_le, nI_add, lN_add, nI_leI, nI_ltI, nI_eq, nI_clamp, pk_lLT, pk_lLE, pk_lEQ, pk_sub, vp_inT, nz_eq, nz_lt, nz_ge, nz_gt, nz_le, lz_eq, lz_lt, lz_ge, hP1, hP2, hP3, hP4, hP5, hP6, hP7, hP8, hP9, hP10, hP11, hP12, hP13, hP14, hP15, hP16, hP17, hP18, hP19, hP20, r5.1.1]
      refine c1051f (d + 2) r5' ?_
      simp (disch := omega) only [nI1T, Nat.left_eq_add, Nat.add_eq_left, Nat.add_eq_zero_iff, and_false, false_and, if_false, if_true, opsN, opsC, pm_1, lg, ls1, ls2, lq, List.length_cons, List.length_nil, cN, cL, callE, retV, retN, pm_pop, pm_cat, List.map_cons, List.map_nil, List.sum_cons, List.sum_nil, Value.category, Option.toList, List.cons_append, List.nil_append, ↓reduceIte, reduceCtorEq, Nat.reduceAdd, Nat.reduceLT, Nat.reduceLeDiff, Nat.reduceSub, Nat.reduceEqDiff, Nat.zero_le, Nat.sub_zero, Nat.le_refl, true_and, and_true, not_true_eq_false, not_false_eq_true, true_or, or_true, lc_eq, lc_ne, lc_lt, lc_ge, lc_gt, lc_le, nI_add, lN_add, nI_leI, nI_ltI, nI_eq, nI_clamp, pk_lLT, pk_lLE, pk_lEQ, pk_sub, vp_inT, nz_eq, nz_lt, nz_ge, nz_gt, nz_le, lz_eq, lz_lt, lz_ge, hP1, hP2, hP3, hP4, hP5, hP6, hP7, hP8, hP9, hP10, hP11, hP12, hP13, hP14, hP15, hP16, hP17, hP18, hP19, hP20, r5.1.1]
      refine c1051f (d + 2) r5' ?_
      rw [retN]
      exact x1054 (d + 3) r5.1 (by omega) (lastE h5 _ e r5' fE (fun cur K W _ => CLr_s ez))
    | none =>
      obtain ⟨ew, ev⟩ := e2 ez
      obtain ⟨o1, o2, o3⟩ := hok.2.2.1 ez
      have r5' : mrd h5 m X ((opP X dp p).1, none) := by
        have : opP X dp p = ((opP X dp p).1, none) := Prod.ext rfl ez
        rw [← this, ← ew]; exact r5
      refine hA (by omega) h5 _ (opP X dp p).1 (k + 1) r5' e29 e33 (by omega) ?_
      intro h6 hO
      obtain ⟨fF, hO⟩ := hO
      have fG := frG_trans fE (frG_le (show k ≤ k + 1 by omega) fF)
      have eF : ∀ cur K W, opF X dp p cur K W = CO X (opP X dp p).1 [] (((numP X 50 (p + 5, none)).2, cur) :: K) (W + 1) := fun cur K W => CLr_n ez
      rcases hO with ⟨e, a', q1, q2⟩ | ⟨a', U1, w1, R1, l1, l2, l3, l4, l5, l6, l7, l8, l9⟩
      · simp (disch := omega) only [nI1T, Nat.left_eq_add, Nat.add_eq_left, Nat.add_eq_zero_iff, and_false, false_and, if_false, if_true, opsN, opsC, pm_1, lg, ls1, ls2, lq, List.length_cons, List.length_nil, cN, cL, callE, retV, retN, pm_pop, pm_cat, List.map_cons, List.map_nil, List.sum_cons, List.sum_nil, Value.category, Option.toList, List.cons_append, List.nil_append, ↓reduceIte, reduceCtorEq, Nat.reduceAdd, Nat.reduceLT, Nat.reduceLeDiff, Nat.reduceSub, Nat.reduceEqDiff, Nat.zero_le, Nat.sub_zero, Nat.le_refl, true_and, and_true, not_true_eq_false, not_false_eq_true, true_or, or_true, lc_eq, lc_ne, lc_lt, lc_ge, lc_gt, lc_le, nI_add, lN_add, nI_leI, nI_ltI, nI_eq, nI_clamp, pk_lLT, pk_lLE, pk_lEQ, pk_sub, vp_inT, nz_eq, nz_lt, nz_ge, nz_gt, nz_le, lz_eq, lz_lt, lz_ge, hP1, hP2, hP3, hP4, hP5, hP6, hP7, hP8, hP9, hP10, hP11, hP12, hP13, hP14, hP15, hP16, hP17, hP18, hP19, hP20, q1.1.1]
        refine c1051f (d + 2) q1 ?_
        simp (disch := omega) only [nI1T, Nat.left_eq_add, Nat.add_eq_left, Nat.add_eq_zero_iff, and_false, false_and, if_false, if_true, opsN, opsC, pm_1, lg, ls1, ls2, lq, List.length_cons, List.length_nil, cN, cL, callE, retV, retN, pm_pop, pm_cat, List.map_cons, List.map_nil, List.sum_cons, List.sum_nil, Value.category, Option.toList, List.cons_append, List.nil_append, ↓reduceIte, reduceCtorEq, Nat.reduceAdd, Nat.reduceLT, Nat.reduceLeDiff, Nat.reduceSub, Nat.reduceEqDiff, Nat.zero_le, Nat.sub_zero, Nat.le_refl, true_and, and_true, not_true_eq_false, not_false_eq_true, true_or, or_true, lc_eq, lc_ne, lc_lt, lc_ge, lc_gt, lc_le, nI_add, lN_add, nI_leI, nI_ltI, nI_eq, nI_clamp, pk_lLT, pk_lLE, pk_lEQ, pk_sub, vp_inT, nz_eq, nz_lt, nz_ge, nz_gt, nz_le, lz_eq, lz_lt, lz_ge, hP1, hP2, hP3, hP4, hP5, hP6, hP7, hP8, hP9, hP10, hP11, hP12, hP13, hP14, hP15, hP16, hP17, hP18, hP19, hP20, q1.1.1]
        refine c1051f (d + 2) q1 ?_
        rw [retN]
        exact x1054 (d + 3) q1.1 (by omega) (lastE h6 _ e q1 fG (fun cur K W hK => by rw [eF]; exact q2 _ _ _ (by rw [List.length_cons, hK])))
      · have ha' : a' ≤ X.length := l3.2.2.2.2.2.2.1
        simp (disch := omega) only [nI1T, Nat.left_eq_add, Nat.add_eq_left, Nat.add_eq_zero_iff, and_false, false_and, if_false, if_true, opsN, opsC, pm_1, lg, ls1, ls2, lq, List.length_cons, List.length_nil, cN, cL, callE, retV, retN, pm_pop, pm_cat, List.map_cons, List.map_nil, List.sum_cons, List.sum_nil, Value.category, Option.toList, List.cons_append, List.nil_append, ↓reduceIte, reduceCtorEq, Nat.reduceAdd, Nat.reduceLT, Nat.reduceLeDiff, Nat.reduceSub, Nat.reduceEqDiff, Nat.zero_le, Nat.sub_zero, Nat.le_refl, true_and, and_true, not_true_eq_false, not_false_eq_true, true_or, or_true, lc_eq, lc_ne, lc_lt, lc_ge, lc_gt, lc_le, nI_add, lN_add, nI_leI, nI_ltI, nI_eq, nI_clamp, pk_lLT, pk_lLE, pk_lEQ, pk_sub, vp_inT, nz_eq, nz_lt, nz_ge, nz_gt, nz_le, lz_eq, lz_lt, lz_ge, hP1, hP2, hP3, hP4, hP5, hP6, hP7, hP8, hP9, hP10, hP11, hP12, hP13, hP14, hP15, hP16, hP17, hP18, hP19, hP20, l3.1.1]
        refine c1051 (d + 1) l3 (by decide) ?_
        intro h7 r7 f7
        have g29' : hI h7 m 29 = nI (k + 1 + w1) := (f7.2.2.2.2.2.2 _ (by decide) (by decide) (by decide)).trans l4
        have g33' : hI h7 m 33 = nI (dp + 1) := (f7.2.2.2.2.2.2 _ (by decide) (by decide) (by decide)).trans l5
        by_cases e93 : X[a']? = some 93
        · have ew93 : wantP X 93 (a', none) = (a' + 1, none) := by
            unfold wantP
            show (if X[skp X a']? = some 93 then (skp X a' + 1, none) else _) = _
            rw [l2.1, if_pos e93]
          rw [ew93] at r7
          simp (disch := omega) only [nI1T, Nat.left_eq_add, Nat.add_eq_left, Nat.add_eq_zero_iff, and_false, false_and, if_false, if_true, opsN, opsC, pm_1, lg, ls1, ls2, lq, List.length_cons, List.length_nil, cN, cL, callE, retV, retN, pm_pop, pm_cat, List.map_cons, List.map_nil, List.sum_cons, List.sum_nil, Value.category, Option.toList, List.cons_append, List.nil_append, ↓reduceIte, reduceCtorEq, Nat.reduceAdd, Nat.reduceLT, Nat.reduceLeDiff, Nat.reduceSub, Nat.reduceEqDiff, Nat.zero_le, Nat.sub_zero, Nat.le_refl, true_and, and_true, not_true_eq_false, not_false_eq_true, true_or, or_true, lc_eq, lc_ne, lc_lt, lc_ge, lc_gt, lc_le, nI_add, lN_add, nI_leI, nI_ltI, nI_eq, nI_clamp, pk_lLT, pk_lLE, pk_lEQ, pk_sub, vp_inT, nz_eq, nz_lt, nz_ge, nz_gt, nz_le, lz_eq, lz_lt, lz_ge, hP1, hP2, hP3, hP4, hP5, hP6, hP7, hP8, hP9, hP10, hP11, hP12, hP13, hP14, hP15, hP16, hP17, hP18, hP19, hP20, r7.1.1]
          refine c1051 (d + 1) r7 (by decide) ?_
          intro h8 r8 f8
          have i29 : hI h8 m 29 = nI (k + 1 + w1) := (f8.2.2.2.2.2.2 _ (by decide) (by decide) (by decide)).trans g29'
          have i33 : hI h8 m 33 = nI (dp + 1) := (f8.2.2.2.2.2.2 _ (by decide) (by decide) (by decide)).trans g33'
          have fH := frG_trans fG (frG_V (k := k) (frV_trans f7 f8))
          have eC : ∀ cur K W, K.length = dp → opF X dp p cur K W = CLr (wantP X 59 (a' + 1, none)) (fun a'' => CO X a'' (cur ++ rpt (numP X 50 (p + 5, none)).2 U1) K (W + 1 + w1)) := fun cur K W hK => by
            rw [eF, l9 _ _ _ (by rw [List.length_cons, hK]), List.nil_append, CO_close ht ha' (by rw [l2.1]; exact e93) rfl, l2.1]
          rw [retN]
          cases e59 : (wantP X 59 (a' + 1, none)).2 with
          | some e =>
            have r8' : mrd h8 m X ((wantP X 59 (a' + 1, none)).1, some e) := by
              have : wantP X 59 (a' + 1, none) = ((wantP X 59 (a' + 1, none)).1, some e) := Prod.ext rfl e59
              rw [this] at r8; exact r8
            exact x1054 (d + 3) r8.1 (by omega) (lastE h8 _ e r8' fH (fun cur K W hK => by rw [eC cur K W hK, CLr_s e59]))
          | none =>
            have r8' : mrd h8 m X ((wantP X 59 (a' + 1, none)).1, none) := by
              have : wantP X 59 (a' + 1, none) = ((wantP X 59 (a' + 1, none)).1, none) := Prod.ext rfl e59
              rw [this] at r8; exact r8
            have hl : a' + 1 ≤ X.length := at_some e93
            have hlt := want_lt (s := 59) (z := (a' + 1, none)) hl e59
            have hlt : a' + 1 < (wantP X 59 (a' + 1, none)).1 := hlt
            have e33' : nI (dp + 1) - nI 1 = nI dp := by rw [pk_sub (by omega)]; congr 1
            refine x1054 (d + 3) r8.1 (by omega) ?_
            rw [i33, i29, e33']
            refine hQ _ ⟨frG_trans fH (frG_trans (frG_f (by omega)) (frG_w (by omega) (by omega))), .inr ⟨(wantP X 59 (a' + 1, none)).1, rpt (numP X 50 (p + 5, none)).2 U1, 1 + w1, va_up R1 k (4, v, 0, k + 1 + w1), by omega, trivial, mrd_w (by omega) (mrd_f (by decide) (by decide) (by decide) (by decide) r8'), ?_, ?_, by omega, ?_, fun i hi1 hi2 => ?_, fun cur K W hK => ?_⟩⟩
            · show hI (sI _ (m + 329 + k) _) m 29 = _
              rw [hP1, va_up_ne _ _ (by omega), hI_at, va_up_ne _ _ (by decide), i29, Nat.add_assoc]
            · show hI (sI _ (m + 329 + k) _) m 33 = _
              rw [hP1, va_up_ne _ _ (by omega), hI_at, va_up_self]
            · have hb1 : (va_up R1 k (4, v, 0, k + 1 + w1)) k = (4, v, 0, k + 1 + w1) := va_up_self _ _ _
              have hsg : SG (va_up R1 k (4, v, 0, k + 1 + w1)) (k + 1) (k + 1 + w1) U1 := SG_congr l7 (fun j q1 q2 => va_up_ne _ _ (by omega))
              have := SG_loop (R := va_up R1 k (4, v, 0, k + 1 + w1)) (i := k) (e := k + 1 + w1) (t := k + (1 + w1)) (V := []) (by rw [hb1]) (by rw [hb1]; show v ≤ 50; rw [ev]; exact hok.2.2.2) (by rw [hb1]) hsg (by rw [Nat.add_assoc]; exact SG_nil _)
              rw [hb1, List.append_nil] at this
              rw [← ev]
              exact this
            · by_cases ei : i = k
              · subst ei
                rw [va_up_self]
                exact ⟨wrR_is (w := (4, v, 0, i + 1 + w1)), Nat.le_refl _⟩
              · rw [va_up_ne _ _ ei]
                have := l8 i (by omega) (by omega)
                unfold rwIs at *
                show (hI (sI _ (m + 329 + k) _) (m + 329 + i) 0 = _ ∧ hI (sI _ (m + 329 + k) _) (m + 329 + i) 1 = _ ∧ hI (sI _ (m + 329 + k) _) (m + 329 + i) 2 = _ ∧ hI (sI _ (m + 329 + k) _) (m + 329 + i) 3 = _) ∧ _
                rw [hP1, va_up_ne _ _ (by omega), hP1, va_up_ne _ _ (by omega), f8.2.2.2.2.2.1 _ (by omega), f7.2.2.2.2.2.1 _ (by omega)]
                exact this
            · rw [eC cur K W hK, CLr_n e59, Nat.add_assoc]
        · have ew93 : wantP X 93 (a', none) = (a', some (1, a')) := by
            unfold wantP
            show (if X[skp X a']? = some 93 then _ else (skp X a', some (1, skp X a'))) = _
            rw [l2.1, if_neg e93]
          rw [ew93] at r7
          simp (disch := omega) only [nI1T, Nat.left_eq_add, Nat.add_eq_left, Nat.add_eq_zero_iff, and_false, false_and, if_false, if_true, opsN, opsC, pm_1, lg, ls1, ls2, lq, List.length_cons, List.length_nil, cN, cL, callE, retV, retN, pm_pop, pm_cat, List.map_cons, List.map_nil, List.sum_cons, List.sum_nil, Value.category, Option.toList, List.cons_append, List.nil_append, ↓reduceIte, reduceCtorEq, Nat.reduceAdd, Nat.reduceLT, Nat.reduceLeDiff, Nat.reduceSub, Nat.reduceEqDiff, Nat.zero_le, Nat.sub_zero, Nat.le_refl, true_and, and_true, not_true_eq_false, not_false_eq_true, true_or, or_true, lc_eq, lc_ne, lc_lt, lc_ge, lc_gt, lc_le, nI_add, lN_add, nI_leI, nI_ltI, nI_eq, nI_clamp, pk_lLT, pk_lLE, pk_lEQ, pk_sub, vp_inT, nz_eq, nz_lt, nz_ge, nz_gt, nz_le, lz_eq, lz_lt, lz_ge, hP1, hP2, hP3, hP4, hP5, hP6, hP7, hP8, hP9, hP10, hP11, hP12, hP13, hP14, hP15, hP16, hP17, hP18, hP19, hP20, r7.1.1]
          refine c1051f (d + 2) r7 ?_
          rw [retN]
          refine x1054 (d + 3) r7.1 (by omega) (lastE h7 _ (1, a') r7 (frG_trans fG (frG_V f7)) (fun cur K W hK => ?_))
          rw [eF, l9 _ _ _ (by rw [List.length_cons, hK])]
          exact CO_ns ht ha' l2 (by rw [List.length_cons]; omega) e93
  simp (disch := omega) only [nI1T, Nat.left_eq_add, Nat.add_eq_left, Nat.add_eq_zero_iff, and_false, false_and, if_false, if_true, opsN, opsC, pm_1, lg, ls1, ls2, lq, List.length_cons, List.length_nil, cN, cL, callE, retV, retN, pm_pop, pm_cat, List.map_cons, List.map_nil, List.sum_cons, List.sum_nil, Value.category, Option.toList, List.cons_append, List.nil_append, ↓reduceIte, reduceCtorEq, Nat.reduceAdd, Nat.reduceLT, Nat.reduceLeDiff, Nat.reduceSub, Nat.reduceEqDiff, Nat.zero_le, Nat.sub_zero, Nat.le_refl, true_and, and_true, not_true_eq_false, not_false_eq_true, true_or, or_true, lc_eq, lc_ne, lc_lt, lc_ge, lc_gt, lc_le, nI_add, lN_add, nI_leI, nI_ltI, nI_eq, nI_clamp, pk_lLT, pk_lLE, pk_lEQ, pk_sub, vp_inT, nz_eq, nz_lt, nz_ge, nz_gt, nz_le, lz_eq, lz_lt, lz_ge, hP1, hP2, hP3, hP4, hP5, hP6, hP7, hP8, hP9, hP10, hP11, hP12, hP13, hP14, hP15, hP16, hP17, hP18, hP19, hP20, k1.1.1]
  by_cases c0 : (numP X 50 (p + 5, none)).1.2 = none
  · rw [q1043t _ k1 c0]
    simp (disch := omega) only [nI1T, Nat.left_eq_add, Nat.add_eq_left, Nat.add_eq_zero_iff, and_false, false_and, if_false, if_true, opsN, opsC, pm_1, lg, ls1, ls2, lq, List.length_cons, List.length_nil, cN, cL, callE, retV, retN, pm_pop, pm_cat, List.map_cons, List.map_nil, List.sum_cons, List.sum_nil, Value.category, Option.toList, List.cons_append, List.nil_append, ↓reduceIte, reduceCtorEq, Nat.reduceAdd, Nat.reduceLT, Nat.reduceLeDiff, Nat.reduceSub, Nat.reduceEqDiff, Nat.zero_le, Nat.sub_zero, Nat.le_refl, true_and, and_true, not_true_eq_false, not_false_eq_true, true_or, or_true, lc_eq, lc_ne, lc_lt, lc_ge, lc_gt, lc_le, nI_add, lN_add, nI_leI, nI_ltI, nI_eq, nI_clamp, pk_lLT, pk_lLE, pk_lEQ, pk_sub, vp_inT, nz_eq, nz_lt, nz_ge, nz_gt, nz_le, lz_eq, lz_lt, lz_ge, hP1, hP2, hP3, hP4, hP5, hP6, hP7, hP8, hP9, hP10, hP11, hP12, hP13, hP14, hP15, hP16, hP17, hP18, hP19, hP20, k1.1.1]
    refine c1042 (d + 2) k1 c0 ?_
    intro h2 k2 f2
    have c29 : hI h2 m 29 = nI (k + 1) := (f2.2.2.2.2.2.2 _ (by decide) (by decide) (by decide)).trans b29
    have c33 : hI h2 m 33 = nI dp := (f2.2.2.2.2.2.2 _ (by decide) (by decide) (by decide)).trans b33
    have fC := frG_trans fB (frG_V (k := k) f2)
    have g4 : hI h2 m 4 = nI (skp X (numP X 50 (p + 5, none)).1.1) := k2.2.2.1 rfl
    have e0 := iv_eq (o := X[skp X (numP X 50 (p + 5, none)).1.1]?) (s := 91) (at_b ht) (by decide)
    have ez1 : (numP X 50 (p + 5, none)).1 = ((numP X 50 (p + 5, none)).1.1, none) := Prod.ext rfl c0
    have nm : ¬ (X[skp X (numP X 50 (p + 5, none)).1.1]? = some 91 ∧ dp = 3) → pm_W PP (d + 4) 1054 Q 0 0 55 [some (.ref m), some (.int (nI k)), some (.int (nI v))] [] h2 := fun hno => by
      have eo : opP X dp p = wantP X 91 (numP X 50 (p + 5, none)).1 := by unfold opP; rw [if_neg hno]
      have es : wantP X 91 (skp X (numP X 50 (p + 5, none)).1.1, none) = opP X dp p := by
        rw [eo]
        have := want_sk (s := 91) (z := (numP X 50 (p + 5, none)).1) hz1
        rw [c0] at this
        exact this
      exact mid h2 _ k2 c29 c33 fC (by rw [es]) (fun _ => ⟨es, kv c0⟩)
    by_cases e : X[skp X (numP X 50 (p + 5, none)).1.1]? = some 91
    · have e1 : (iv X[skp X (numP X 50 (p + 5, none)).1.1]? = nI 91) = True := e0.trans (eq_true e)
      by_cases k3 : dp = 3
      · have eo : opP X dp p = (skp X (numP X 50 (p + 5, none)).1.1, some (3, skp X (numP X 50 (p + 5, none)).1.1)) := by unfold opP; rw [if_pos ⟨e, k3⟩, c0]; rfl
        simp (disch := omega) only [nI1T, Nat.left_eq_add, Nat.add_eq_left, Nat.add_eq_zero_iff, and_false, false_and, if_false, if_true, opsN, opsC, pm_1, lg, ls1, ls2, lq, List.length_cons, List.length_nil, cN, cL, callE, retV, retN, pm_pop, pm_cat, List.map_cons, List.map_nil, List.sum_cons, List.sum_nil, Value.category, Option.toList, List.cons_append, List.nil_append, ↓reduceIte, reduceCtorEq, Nat.reduceAdd, Nat.reduceLT, Nat.reduceLeDiff, Nat.reduceSub, Nat.reduceEqDiff, Nat.zero_le, Nat.sub_zero, Nat.le_refl, true_and, and_true, not_true_eq_false, not_false_eq_true, true_or, or_true, lc_eq, lc_ne, lc_lt, lc_ge, lc_gt, lc_le, nI_add, lN_add, nI_leI, nI_ltI, nI_eq, nI_clamp, pk_lLT, pk_lLE, pk_lEQ, pk_sub, vp_inT, nz_eq, nz_lt, nz_ge, nz_gt, nz_le, lz_eq, lz_lt, lz_ge, hP1, hP2, hP3, hP4, hP5, hP6, hP7, hP8, hP9, hP10, hP11, hP12, hP13, hP14, hP15, hP16, hP17, hP18, hP19, hP20, e1, k2.1.1, c33, k3, g4]
        refine c1044 (d + 3) k2 (by decide) (by decide) (by omega) ?_
        intro h3 q1 q2
        simp (disch := omega) only [nI1T, Nat.left_eq_add, Nat.add_eq_left, Nat.add_eq_zero_iff, and_false, false_and, if_false, if_true, opsN, opsC, pm_1, lg, ls1, ls2, lq, List.length_cons, List.length_nil, cN, cL, callE, retV, retN, pm_pop, pm_cat, List.map_cons, List.map_nil, List.sum_cons, List.sum_nil, Value.category, Option.toList, List.cons_append, List.nil_append, ↓reduceIte, reduceCtorEq, Nat.reduceAdd, Nat.reduceLT, Nat.reduceLeDiff, Nat.reduceSub, Nat.reduceEqDiff, Nat.zero_le, Nat.sub_zero, Nat.le_refl, true_and, and_true, not_true_eq_false, not_false_eq_true, true_or, or_true, lc_eq, lc_ne, lc_lt, lc_ge, lc_gt, lc_le, nI_add, lN_add, nI_leI, nI_ltI, nI_eq, nI_clamp, pk_lLT, pk_lLE, pk_lEQ, pk_sub, vp_inT, nz_eq, nz_lt, nz_ge, nz_gt, nz_le, lz_eq, lz_lt, lz_ge, hP1, hP2, hP3, hP4, hP5, hP6, hP7, hP8, hP9, hP10, hP11, hP12, hP13, hP14, hP15, hP16, hP17, hP18, hP19, hP20]
        refine mid h3 _ q1 ((q2.2.2.2.2.2.2 _ (by decide) (by decide) (by decide)).trans c29) ((q2.2.2.2.2.2.2 _ (by decide) (by decide) (by decide)).trans c33) (frG_trans fC (frG_V q2)) ?_ (fun q => by rw [eo] at q; cases q)
        rw [want_some (fun q => by cases q), eo]; rfl
      · simp (disch := omega) only [nI1T, Nat.left_eq_add, Nat.add_eq_left, Nat.add_eq_zero_iff, and_false, false_and, if_false, if_true, opsN, opsC, pm_1, lg, ls1, ls2, lq, List.length_cons, List.length_nil, cN, cL, callE, retV, retN, pm_pop, pm_cat, List.map_cons, List.map_nil, List.sum_cons, List.sum_nil, Value.category, Option.toList, List.cons_append, List.nil_append, ↓reduceIte, reduceCtorEq, Nat.reduceAdd, Nat.reduceLT, Nat.reduceLeDiff, Nat.reduceSub, Nat.reduceEqDiff, Nat.zero_le, Nat.sub_zero, Nat.le_refl, true_and, and_true, not_true_eq_false, not_false_eq_true, true_or, or_true, lc_eq, lc_ne, lc_lt, lc_ge, lc_gt, lc_le, nI_add, lN_add, nI_leI, nI_ltI, nI_eq, nI_clamp, pk_lLT, pk_lLE, pk_lEQ, pk_sub, vp_inT, nz_eq, nz_lt, nz_ge, nz_gt, nz_le, lz_eq, lz_lt, lz_ge, hP1, hP2, hP3, hP4, hP5, hP6, hP7, hP8, hP9, hP10, hP11, hP12, hP13, hP14, hP15, hP16, hP17, hP18, hP19, hP20, e1, k2.1.1, c33, k3]
        exact nm (fun q => k3 q.2)
    · have e1 : (iv X[skp X (numP X 50 (p + 5, none)).1.1]? = nI 91) = False := e0.trans (eq_false e)
      simp (disch := omega) only [nI1T, Nat.left_eq_add, Nat.add_eq_left, Nat.add_eq_zero_iff, and_false, false_and, if_false, if_true, opsN, opsC, pm_1, lg, ls1, ls2, lq, List.length_cons, List.length_nil, cN, cL, callE, retV, retN, pm_pop, pm_cat, List.map_cons, List.map_nil, List.sum_cons, List.sum_nil, Value.category, Option.toList, List.cons_append, List.nil_append, ↓reduceIte, reduceCtorEq, Nat.reduceAdd, Nat.reduceLT, Nat.reduceLeDiff, Nat.reduceSub, Nat.reduceEqDiff, Nat.zero_le, Nat.sub_zero, Nat.le_refl, true_and, and_true, not_true_eq_false, not_false_eq_true, true_or, or_true, lc_eq, lc_ne, lc_lt, lc_ge, lc_gt, lc_le, nI_add, lN_add, nI_leI, nI_ltI, nI_eq, nI_clamp, pk_lLT, pk_lLE, pk_lEQ, pk_sub, vp_inT, nz_eq, nz_lt, nz_ge, nz_gt, nz_le, lz_eq, lz_lt, lz_ge, hP1, hP2, hP3, hP4, hP5, hP6, hP7, hP8, hP9, hP10, hP11, hP12, hP13, hP14, hP15, hP16, hP17, hP18, hP19, hP20, e1]
      exact nm (fun q => e q.1)
  · rw [q1043f _ k1 c0]
    simp (disch := omega) only [nI1T, Nat.left_eq_add, Nat.add_eq_left, Nat.add_eq_zero_iff, and_false, false_and, if_false, if_true, opsN, opsC, pm_1, lg, ls1, ls2, lq, List.length_cons, List.length_nil, cN, cL, callE, retV, retN, pm_pop, pm_cat, List.map_cons, List.map_nil, List.sum_cons, List.sum_nil, Value.category, Option.toList, List.cons_append, List.nil_append, ↓reduceIte, reduceCtorEq, Nat.reduceAdd, Nat.reduceLT, Nat.reduceLeDiff, Nat.reduceSub, Nat.reduceEqDiff, Nat.zero_le, Nat.sub_zero, Nat.le_refl, true_and, and_true, not_true_eq_false, not_false_eq_true, true_or, or_true, lc_eq, lc_ne, lc_lt, lc_ge, lc_gt, lc_le, nI_add, lN_add, nI_leI, nI_ltI, nI_eq, nI_clamp, pk_lLT, pk_lLE, pk_lEQ, pk_sub, vp_inT, nz_eq, nz_lt, nz_ge, nz_gt, nz_le, lz_eq, lz_lt, lz_ge, hP1, hP2, hP3, hP4, hP5, hP6, hP7, hP8, hP9, hP10, hP11, hP12, hP13, hP14, hP15, hP16, hP17, hP18, hP19, hP20]
    have eo2 : (opP X dp p).2 = (numP X 50 (p + 5, none)).1.2 := by
      unfold opP
      split
      · exact bl_some c0
      · exact want_some c0
    refine mid h1 _ k1 b29 b33 fB ?_ (fun q => absurd (eo2.symm.trans q) c0)
    rw [want_some c0, eo2]
end B5
