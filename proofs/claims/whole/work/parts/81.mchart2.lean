/-! ===== chart, as it is called: the reference ===== -/
/-- numbers of a text that is read, and nothing else -/
def frO (m : Nat) (h h' : pm_H) : Prop := hT h' = hT h ∧ hN h' = hN h ∧ hR h' = hR h ∧ hn h' = hn h ∧ hL h' = hL h ∧ (∀ k, k ≠ m → hI h' k = hI h k) ∧ ∀ j, (j < 2 ∨ j = 5 ∨ (8 ≤ j ∧ j < 29) ∨ 34 ≤ j) → hI h' m j = hI h m j
theorem c1055 (d : Nat) {h : pm_H} {m n : Nat} {T : List Nat} {F : Option Nat} {Q : pm_Q} (hs : mS h m) (hT1 : mTp h m T F) (hnn : n ≤ T.length) (ht : txt T)
    (hQ : ∀ h', mrd h' m (T.take n) (0, none) → mChR h' m c0s → hI h' m 2 = nI 0 → hI h' m 29 = nI 0 → hI h' m 33 = nI 0 → frO m h h' → Q (.inl none) h') : pm_M PP (d + 1) 1055 [.ref m, .int (nI n)] h Q := by
  obtain ⟨a1, a2, a3⟩ := hT1
  have s0 := hs.1
  have h5 := ht.1
  rw [e_1055]
  simp (disch := omega) only [u_1055_0, B_1055_0, nI1T, Nat.left_eq_add, Nat.add_eq_left, Nat.add_eq_zero_iff, and_false, false_and, if_false, if_true, opsN, opsC, pm_1, lg, ls1, ls2, lq, List.length_cons, List.length_nil, cN, cL, callE, retV, retN, pm_pop, pm_cat, List.map_cons, List.map_nil, List.sum_cons, List.sum_nil, Value.category, Option.toList, List.cons_append, List.nil_append, ↓reduceIte, reduceCtorEq, Nat.reduceAdd, Nat.reduceLT, Nat.reduceLeDiff, Nat.reduceSub, Nat.reduceEqDiff, Nat.zero_le, Nat.sub_zero, Nat.le_refl, true_and, and_true, not_true_eq_false, not_false_eq_true, true_or, or_true, lc_eq, lc_ne, lc_lt, lc_ge, lc_gt, lc_le, nI_add, lN_add, nI_leI, nI_ltI, nI_eq, nI_clamp, pk_lLT, pk_lLE, pk_lEQ, pk_sub, vp_inT, nz_eq, nz_lt, nz_ge, nz_gt, nz_le, lz_eq, lz_lt, lz_ge, hP1, hP2, hP3, hP4, hP5, hP6, hP7, hP8, hP9, hP10, hP11, hP12, hP13, hP14, hP15, hP16, hP17, hP18, hP19, hP20, s0, va_upE, sI_sI]
  refine hQ _ ⟨mS_sI hs, ?_, fun _ => ?_, ?_, ?_, fun i hi => ?_, Nat.zero_le _, (fun e q => by cases q), txt_take ht⟩ ⟨?_, ?_, ?_, fun i hi => absurd hi (Nat.not_lt_zero _), fun i hi => absurd hi (Nat.not_lt_zero _), fun i hi => absurd hi (Nat.not_lt_zero _)⟩ ?_ ?_ ?_ ⟨rfl, rfl, rfl, rfl, rfl, fun k q => ?_, fun j q => ?_⟩
  · rw [hI_at]; simp only [va_upE, Nat.reduceEqDiff, if_false, if_true, take_len hnn]
  · rw [hI_at]; simp only [va_upE, Nat.reduceEqDiff, if_false, if_true]
  · rw [hI_at]; simp only [va_upE, Nat.reduceEqDiff, if_false, if_true]; rfl
  · rw [hI_at]; simp only [va_upE, Nat.reduceEqDiff, if_false, if_true]; rfl
  · rw [take_len hnn] at hi
    rw [hP1, va_up_ne _ _ (by omega), take_at hi]; exact a3 i (by omega)
  · rw [hI_at]; simp only [va_upE, Nat.reduceEqDiff, if_false, if_true]; rfl
  · rw [hI_at]; simp only [va_upE, Nat.reduceEqDiff, if_false, if_true]; rfl
  · rw [hI_at]; simp only [va_upE, Nat.reduceEqDiff, if_false, if_true]; rfl
  · rw [hI_at]; simp only [va_upE, Nat.reduceEqDiff, if_false, if_true]
  · rw [hI_at]; simp only [va_upE, Nat.reduceEqDiff, if_false, if_true]
  · rw [hI_at]; simp only [va_upE, Nat.reduceEqDiff, if_false, if_true]
  · rw [hP1, va_up_ne _ _ q]
  · rw [hI_at]
    simp only [va_upE]
    rw [if_neg (by omega), if_neg (by omega), if_neg (by omega), if_neg (by omega), if_neg (by omega), if_neg (by omega), if_neg (by omega), if_neg (by omega), if_neg (by omega), if_neg (by omega)]
/-! progress -/
theorem num_mono {X : List Nat} {most : Nat} {z : Rz} (hz : z.1 ≤ X.length) : z.1 ≤ (numP X most z).1.1 := by
  have := (skp_ok hz).1
  unfold numP; split
  · split
    · show z.1 ≤ skp X z.1 + _; omega
    · show z.1 ≤ skp X z.1 + _; omega
  · exact this
theorem let_mono {X : List Nat} {z : Rz} (hz : z.1 ≤ X.length) : z.1 ≤ (letP X z).1.1 := by
  have := (skp_ok hz).1
  unfold letP; split
  · show z.1 ≤ skp X z.1 + 1; omega
  · exact this
theorem want_lt {X : List Nat} {s : Nat} {z : Rz} (hz : z.1 ≤ X.length) (h : (wantP X s z).2 = none) : z.1 < (wantP X s z).1 := by
  have := (skp_ok hz).1
  unfold wantP at *
  by_cases e : X[skp X z.1]? = some s
  · rw [if_pos e]; show z.1 < skp X z.1 + 1; omega
  · rw [if_neg e] at h
    have : bl z.2 (1, skp X z.1) = none := h
    cases hf : z.2 with
    | none => rw [hf] at this; cases this
    | some g => rw [hf] at this; cases this
theorem ln_mono {X : List Nat} {C : Cs} {p : Nat} (ht : txt X) (hp : p ≤ X.length) : p ≤ (lnP X C p).1.1 := by
  unfold lnP
  by_cases w1 : wd X p wEdge = true
  · have hl : p + 4 ≤ X.length := wd_len hp w1
    rw [if_pos w1]; split
    · show p ≤ p + 4; omega
    · have a := num_ok (most := 15) (z := (p + 4, none)) ht hl (fun e q => by cases q)
      have b := num_ok (most := 15) ht a.1 a.2.1
      have m1 := num_mono (X := X) (most := 15) (z := (p + 4, none)) hl
      have m2 := num_mono (most := 15) a.1
      have m3 := num_mono (most := 1000000000) b.1
      have m1 : p + 4 ≤ _ := m1
      show p ≤ (numP X 1000000000 (numP X 15 (numP X 15 (p + 4, none)).1).1).1.1
      omega
  · rw [if_neg w1]
    by_cases w2 : wd X p wEvent = true
    · have hl : p + 5 ≤ X.length := wd_len hp w2
      rw [if_pos w2]; split
      · show p ≤ p + 5; omega
      · have a := let_ok (z := (p + 5, none)) ht hl (fun e q => by cases q)
        have m1 := let_mono (X := X) (z := (p + 5, none)) hl
        have m2 := num_mono (most := 1000000000) a.1
        have m1 : p + 5 ≤ _ := m1
        show p ≤ (numP X 1000000000 (letP X (p + 5, none)).1).1.1
        omega
    · rw [if_neg w2]
      by_cases w3 : wd X p wRule = true
      · have hl : p + 4 ≤ X.length := wd_len hp w3
        rw [if_pos w3]; split
        · show p ≤ p + 4; omega
        · have a := let_ok (z := (p + 4, none)) ht hl (fun e q => by cases q)
          have b := num_ok (most := 1000000000) ht a.1 a.2.1
          have m1 := let_mono (X := X) (z := (p + 4, none)) hl
          have m2 := num_mono (most := 1000000000) a.1
          have m3 := let_mono b.1
          have m1 : p + 4 ≤ _ := m1
          show p ≤ (letP X (numP X 1000000000 (letP X (p + 4, none)).1).1).1.1
          omega
      · rw [if_neg w3]; exact Nat.le_refl _
section CH
variable {h : pm_H} {m : Nat} {X : List Nat} {C : Cs} {Q : pm_Q}
theorem l1058 (d : Nat) {n0 : Nat} {x2 x3 : Option Value} : ∀ (n f a : Nat) (C : Cs) (h : pm_H), X.length - a ≤ n → n ≤ f → mrd h m X (a, none) → mChR h m C → chOK C →
      (∀ h' a', mrd h' m X (a', resF (chL X f a C)) → (∀ C', chL X f a C = .inr C' → mChR h' m C' ∧ chOK C') → frY m h h' → pm_W PP (d + 4) 1058 Q 0 0 62 [some (.ref m), some (.int (nI n0)), x2, x3] [] h') →
      pm_W PP (d + 4) 1058 Q 0 0 40 [some (.ref m), some (.int (nI n0)), x2, x3] [] h := by
  intro n
  induction n with
  | zero =>
    intro f a C h hn hf hr hC hO hQ
    have hz : a ≤ X.length := hr.2.2.2.2.2.2.1
    have hsk := skp_ok hz
    have e : X[skp X a]? = none := at_ge (by omega)
    have eL : chL X f a C = .inr C := by
      cases f with
      | zero => rfl
      | succ f => simp only [chL, e]
    rw [eL] at hQ
    rw [u_1058_40]
    simp (disch := omega) only [B_1058_40, nI1T, Nat.left_eq_add, Nat.add_eq_left, Nat.add_eq_zero_iff, and_false, false_and, if_false, if_true, opsN, opsC, pm_1, lg, ls1, ls2, lq, List.length_cons, List.length_nil, cN, cL, callE, retV, retN, pm_pop, pm_cat, List.map_cons, List.map_nil, List.sum_cons, List.sum_nil, Value.category, Option.toList, List.cons_append, List.nil_append, ↓reduceIte, reduceCtorEq, Nat.reduceAdd, Nat.reduceLT, Nat.reduceLeDiff, Nat.reduceSub, Nat.reduceEqDiff, Nat.zero_le, Nat.sub_zero, Nat.le_refl, true_and, and_true, not_true_eq_false, not_false_eq_true, true_or, or_true, lc_eq, lc_ne, lc_lt, lc_ge, lc_gt, lc_le, nI_add, lN_add, nI_leI, nI_ltI, nI_eq, nI_clamp, pk_lLT, pk_lLE, pk_lEQ, pk_sub, vp_inT, nz_eq, nz_lt, nz_ge, nz_gt, nz_le, lz_eq, lz_lt, lz_ge, hP1, hP2, hP3, hP4, hP5, hP6, hP7, hP8, hP9, hP10, hP11, hP12, hP13, hP14, hP15, hP16, hP17, hP18, hP19, hP20, hr.1.1]
    rw [q1043t _ hr rfl]
    simp (disch := omega) only [nI1T, Nat.left_eq_add, Nat.add_eq_left, Nat.add_eq_zero_iff, and_false, false_and, if_false, if_true, opsN, opsC, pm_1, lg, ls1, ls2, lq, List.length_cons, List.length_nil, cN, cL, callE, retV, retN, pm_pop, pm_cat, List.map_cons, List.map_nil, List.sum_cons, List.sum_nil, Value.category, Option.toList, List.cons_append, List.nil_append, ↓reduceIte, reduceCtorEq, Nat.reduceAdd, Nat.reduceLT, Nat.reduceLeDiff, Nat.reduceSub, Nat.reduceEqDiff, Nat.zero_le, Nat.sub_zero, Nat.le_refl, true_and, and_true, not_true_eq_false, not_false_eq_true, true_or, or_true, lc_eq, lc_ne, lc_lt, lc_ge, lc_gt, lc_le, nI_add, lN_add, nI_leI, nI_ltI, nI_eq, nI_clamp, pk_lLT, pk_lLE, pk_lEQ, pk_sub, vp_inT, nz_eq, nz_lt, nz_ge, nz_gt, nz_le, lz_eq, lz_lt, lz_ge, hP1, hP2, hP3, hP4, hP5, hP6, hP7, hP8, hP9, hP10, hP11, hP12, hP13, hP14, hP15, hP16, hP17, hP18, hP19, hP20, hr.1.1]
    refine c1042 (d + 2) hr rfl ?_
    intro h1 k1 f1
    have e : X[skp X (a, (none : Fl)).1]? = none := e
    rw [e]
    simp (disch := omega) only [nI1T, Nat.left_eq_add, Nat.add_eq_left, Nat.add_eq_zero_iff, and_false, false_and, if_false, if_true, opsN, opsC, pm_1, lg, ls1, ls2, lq, List.length_cons, List.length_nil, cN, cL, callE, retV, retN, pm_pop, pm_cat, List.map_cons, List.map_nil, List.sum_cons, List.sum_nil, Value.category, Option.toList, List.cons_append, List.nil_append, ↓reduceIte, reduceCtorEq, Nat.reduceAdd, Nat.reduceLT, Nat.reduceLeDiff, Nat.reduceSub, Nat.reduceEqDiff, Nat.zero_le, Nat.sub_zero, Nat.le_refl, true_and, and_true, not_true_eq_false, not_false_eq_true, true_or, or_true, lc_eq, lc_ne, lc_lt, lc_ge, lc_gt, lc_le, nI_add, lN_add, nI_leI, nI_ltI, nI_eq, nI_clamp, pk_lLT, pk_lLE, pk_lEQ, pk_sub, vp_inT, nz_eq, nz_lt, nz_ge, nz_gt, nz_le, lz_eq, lz_lt, lz_ge, hP1, hP2, hP3, hP4, hP5, hP6, hP7, hP8, hP9, hP10, hP11, hP12, hP13, hP14, hP15, hP16, hP17, hP18, hP19, hP20, iv]
    exact hQ h1 _ k1 (fun C' q => by cases q; exact ⟨mChR_V f1 hC, hO⟩) (frY_V f1)
  | succ n ih =>
    intro f a C h hn hf hr hC hO hQ
    have hz : a ≤ X.length := hr.2.2.2.2.2.2.1
    have ht := hr.2.2.2.2.2.2.2.2
    have hsk := skp_ok hz
    rw [u_1058_40]
    simp (disch := omega) only [B_1058_40, nI1T, Nat.left_eq_add, Nat.add_eq_left, Nat.add_eq_zero_iff, and_false, false_and, if_false, if_true, opsN, opsC, pm_1, lg, ls1, ls2, lq, List.length_cons, List.length_nil, cN, cL, callE, retV, retN, pm_pop, pm_cat, List.map_cons, List.map_nil, List.sum_cons, List.sum_nil, Value.category, Option.toList, List.cons_append, List.nil_append, ↓reduceIte, reduceCtorEq, Nat.reduceAdd, Nat.reduceLT, Nat.reduceLeDiff, Nat.reduceSub, Nat.reduceEqDiff, Nat.zero_le, Nat.sub_zero, Nat.le_refl, true_and, and_true, not_true_eq_false, not_false_eq_true, true_or, or_true, lc_eq, lc_ne, lc_lt, lc_ge, lc_gt, lc_le, nI_add, lN_add, nI_leI, nI_ltI, nI_eq, nI_clamp, pk_lLT, pk_lLE, pk_lEQ, pk_sub, vp_inT, nz_eq, nz_lt, nz_ge, nz_gt, nz_le, lz_eq, lz_lt, lz_ge, hP1, hP2, hP3, hP4, hP5, hP6, hP7, hP8, hP9, hP10, hP11, hP12, hP13, hP14, hP15, hP16, hP17, hP18, hP19, hP20, hr.1.1]
    rw [q1043t _ hr rfl]
    simp (disch := omega) only [nI1T, Nat.left_eq_add, Nat.add_eq_left, Nat.add_eq_zero_iff, and_false, false_and, if_false, if_true, opsN, opsC, pm_1, lg, ls1, ls2, lq, List.length_cons, List.length_nil, cN, cL, callE, retV, retN, pm_pop, pm_cat, List.map_cons, List.map_nil, List.sum_cons, List.sum_nil, Value.category, Option.toList, List.cons_append, List.nil_append, ↓reduceIte, reduceCtorEq, Nat.reduceAdd, Nat.reduceLT, Nat.reduceLeDiff, Nat.reduceSub, Nat.reduceEqDiff, Nat.zero_le, Nat.sub_zero, Nat.le_refl, true_and, and_true, not_true_eq_false, not_false_eq_true, true_or, or_true, lc_eq, lc_ne, lc_lt, lc_ge, lc_gt, lc_le, nI_add, lN_add, nI_leI, nI_ltI, nI_eq, nI_clamp, pk_lLT, pk_lLE, pk_lEQ, pk_sub, vp_inT, nz_eq, nz_lt, nz_ge, nz_gt, nz_le, lz_eq, lz_lt, lz_ge, hP1, hP2, hP3, hP4, hP5, hP6, hP7, hP8, hP9, hP10, hP11, hP12, hP13, hP14, hP15, hP16, hP17, hP18, hP19, hP20, hr.1.1]
    refine c1042 (d + 2) hr rfl ?_
    intro h1 k1 f1
    cases e : X[skp X a]? with
    | none =>
      have eL : chL X f a C = .inr C := by
        cases f with
        | zero => rfl
        | succ f => simp only [chL, e]
      rw [eL] at hQ
      simp (disch := omega) only [nI1T, Nat.left_eq_add, Nat.add_eq_left, Nat.add_eq_zero_iff, and_false, false_and, if_false, if_true, opsN, opsC, pm_1, lg, ls1, ls2, lq, List.length_cons, List.length_nil, cN, cL, callE, retV, retN, pm_pop, pm_cat, List.map_cons, List.map_nil, List.sum_cons, List.sum_nil, Value.category, Option.toList, List.cons_append, List.nil_append, ↓reduceIte, reduceCtorEq, Nat.reduceAdd, Nat.reduceLT, Nat.reduceLeDiff, Nat.reduceSub, Nat.reduceEqDiff, Nat.zero_le, Nat.sub_zero, Nat.le_refl, true_and, and_true, not_true_eq_false, not_false_eq_true, true_or, or_true, lc_eq, lc_ne, lc_lt, lc_ge, lc_gt, lc_le, nI_add, lN_add, nI_leI, nI_ltI, nI_eq, nI_clamp, pk_lLT, pk_lLE, pk_lEQ, pk_sub, vp_inT, nz_eq, nz_lt, nz_ge, nz_gt, nz_le, lz_eq, lz_lt, lz_ge, hP1, hP2, hP3, hP4, hP5, hP6, hP7, hP8, hP9, hP10, hP11, hP12, hP13, hP14, hP15, hP16, hP17, hP18, hP19, hP20, iv]
      exact hQ h1 _ k1 (fun C' q => by cases q; exact ⟨mChR_V f1 hC, hO⟩) (frY_V f1)
    | some b =>
      have hb := at_b ht b e
      have e1 : (nI b = -nI 1) = False := eq_false fun q => by
        have := congrArg Int32.toInt q
        rw [nI_toInt hb] at this
        have e9 : (-nI 1 : Int32).toInt = -1 := by decide
        omega
      simp (disch := omega) only [nI1T, Nat.left_eq_add, Nat.add_eq_left, Nat.add_eq_zero_iff, and_false, false_and, if_false, if_true, opsN, opsC, pm_1, lg, ls1, ls2, lq, List.length_cons, List.length_nil, cN, cL, callE, retV, retN, pm_pop, pm_cat, List.map_cons, List.map_nil, List.sum_cons, List.sum_nil, Value.category, Option.toList, List.cons_append, List.nil_append, ↓reduceIte, reduceCtorEq, Nat.reduceAdd, Nat.reduceLT, Nat.reduceLeDiff, Nat.reduceSub, Nat.reduceEqDiff, Nat.zero_le, Nat.sub_zero, Nat.le_refl, true_and, and_true, not_true_eq_false, not_false_eq_true, true_or, or_true, lc_eq, lc_ne, lc_lt, lc_ge, lc_gt, lc_le, nI_add, lN_add, nI_leI, nI_ltI, nI_eq, nI_clamp, pk_lLT, pk_lLE, pk_lEQ, pk_sub, vp_inT, nz_eq, nz_lt, nz_ge, nz_gt, nz_le, lz_eq, lz_lt, lz_ge, hP1, hP2, hP3, hP4, hP5, hP6, hP7, hP8, hP9, hP10, hP11, hP12, hP13, hP14, hP15, hP16, hP17, hP18, hP19, hP20, iv_so, e1, k1.1.1]
      have hid := skp_id hz
      refine c1057 d (a := skp X a) k1 (mChR_V f1 hC) hO ?_
      intro h2 l1 l2 l3
      rw [hid] at l1 l2
      simp (disch := omega) only [nI1T, Nat.left_eq_add, Nat.add_eq_left, Nat.add_eq_zero_iff, and_false, false_and, if_false, if_true, opsN, opsC, pm_1, lg, ls1, ls2, lq, List.length_cons, List.length_nil, cN, cL, callE, retV, retN, pm_pop, pm_cat, List.map_cons, List.map_nil, List.sum_cons, List.sum_nil, Value.category, Option.toList, List.cons_append, List.nil_append, ↓reduceIte, reduceCtorEq, Nat.reduceAdd, Nat.reduceLT, Nat.reduceLeDiff, Nat.reduceSub, Nat.reduceEqDiff, Nat.zero_le, Nat.sub_zero, Nat.le_refl, true_and, and_true, not_true_eq_false, not_false_eq_true, true_or, or_true, lc_eq, lc_ne, lc_lt, lc_ge, lc_gt, lc_le, nI_add, lN_add, nI_leI, nI_ltI, nI_eq, nI_clamp, pk_lLT, pk_lLE, pk_lEQ, pk_sub, vp_inT, nz_eq, nz_lt, nz_ge, nz_gt, nz_le, lz_eq, lz_lt, lz_ge, hP1, hP2, hP3, hP4, hP5, hP6, hP7, hP8, hP9, hP10, hP11, hP12, hP13, hP14, hP15, hP16, hP17, hP18, hP19, hP20]
      have hok := ln_ok ht hsk.2.1 hO
      have hmo := ln_mono (C := C) ht hsk.2.1
      obtain ⟨f', rfl⟩ : ∃ f', f = f' + 1 := ⟨f - 1, by omega⟩
      cases ez : (wantP X 59 (lnP X C (skp X a)).1).2 with
      | some g =>
        have eL : chL X (f' + 1) a C = .inl g := by simp only [chL, e, ez]
        rw [eL] at hQ
        have l1' : mrd h2 m X ((wantP X 59 (lnP X C (skp X a)).1).1, some g) := by rw [← ez]; exact l1
        rw [u_1058_40]
        simp (disch := omega) only [B_1058_40, nI1T, Nat.left_eq_add, Nat.add_eq_left, Nat.add_eq_zero_iff, and_false, false_and, if_false, if_true, opsN, opsC, pm_1, lg, ls1, ls2, lq, List.length_cons, List.length_nil, cN, cL, callE, retV, retN, pm_pop, pm_cat, List.map_cons, List.map_nil, List.sum_cons, List.sum_nil, Value.category, Option.toList, List.cons_append, List.nil_append, ↓reduceIte, reduceCtorEq, Nat.reduceAdd, Nat.reduceLT, Nat.reduceLeDiff, Nat.reduceSub, Nat.reduceEqDiff, Nat.zero_le, Nat.sub_zero, Nat.le_refl, true_and, and_true, not_true_eq_false, not_false_eq_true, true_or, or_true, lc_eq, lc_ne, lc_lt, lc_ge, lc_gt, lc_le, nI_add, lN_add, nI_leI, nI_ltI, nI_eq, nI_clamp, pk_lLT, pk_lLE, pk_lEQ, pk_sub, vp_inT, nz_eq, nz_lt, nz_ge, nz_gt, nz_le, lz_eq, lz_lt, lz_ge, hP1, hP2, hP3, hP4, hP5, hP6, hP7, hP8, hP9, hP10, hP11, hP12, hP13, hP14, hP15, hP16, hP17, hP18, hP19, hP20, l1.1.1]
        rw [q1043f _ l1' (fun q => by cases q)]
        simp (disch := omega) only [nI1T, Nat.left_eq_add, Nat.add_eq_left, Nat.add_eq_zero_iff, and_false, false_and, if_false, if_true, opsN, opsC, pm_1, lg, ls1, ls2, lq, List.length_cons, List.length_nil, cN, cL, callE, retV, retN, pm_pop, pm_cat, List.map_cons, List.map_nil, List.sum_cons, List.sum_nil, Value.category, Option.toList, List.cons_append, List.nil_append, ↓reduceIte, reduceCtorEq, Nat.reduceAdd, Nat.reduceLT, Nat.reduceLeDiff, Nat.reduceSub, Nat.reduceEqDiff, Nat.zero_le, Nat.sub_zero, Nat.le_refl, true_and, and_true, not_true_eq_false, not_false_eq_true, true_or, or_true, lc_eq, lc_ne, lc_lt, lc_ge, lc_gt, lc_le, nI_add, lN_add, nI_leI, nI_ltI, nI_eq, nI_clamp, pk_lLT, pk_lLE, pk_lEQ, pk_sub, vp_inT, nz_eq, nz_lt, nz_ge, nz_gt, nz_le, lz_eq, lz_lt, lz_ge, hP1, hP2, hP3, hP4, hP5, hP6, hP7, hP8, hP9, hP10, hP11, hP12, hP13, hP14, hP15, hP16, hP17, hP18, hP19, hP20]
        exact hQ h2 _ l1' (fun C' q => by cases q) (frY_trans (frY_V f1) l3)
      | none =>
        have eL : chL X (f' + 1) a C = chL X f' (wantP X 59 (lnP X C (skp X a)).1).1 (lnP X C (skp X a)).2 := by simp only [chL, e, ez]
        rw [eL] at hQ
        have hlt := want_lt hok.1 ez
        have l1' : mrd h2 m X ((wantP X 59 (lnP X C (skp X a)).1).1, none) := by rw [← ez]; exact l1
        exact ih f' _ _ h2 (by omega) (by omega) l1' (l2 ez) hok.2.2 (fun h' a' q1 q2 q3 => hQ h' a' q1 q2 (frY_trans (frY_V f1) (frY_trans l3 q3)))

/-- one row copied -/
theorem x1058e (d : Nat) {h : pm_H} {k : Nat} {v1 : Int32} {y0 : Option Value} (hs : mS h m) (hk : k < 60) 
    (hQ : ∀ g : Nat → Int32, g 0 = hI h (m + 721 + k) 0 ∧ g 1 = hI h (m + 721 + k) 1 ∧ g 2 = hI h (m + 721 + k) 2 → pm_W PP d 1058 Q 0 0 111 [some (.ref m), some (.int v1), some (.int (nI (k + 1))), some (.int (nI 3))] [] (sI h (m + 630 + k) g)) :
    pm_W PP d 1058 Q 0 0 121 [some (.ref m), some (.int v1), some (.int (nI k)), some (.int (nI 0))] [] h := by
  have en : (m + 721 + k = m + 630 + k) = False := eq_false (by omega)
  rw [u_1058_121]
  simp (disch := omega) only [B_1058_121, nI1T, Nat.left_eq_add, Nat.add_eq_left, Nat.add_eq_zero_iff, and_false, false_and, if_false, if_true, opsN, opsC, pm_1, lg, ls1, ls2, lq, List.length_cons, List.length_nil, cN, cL, callE, retV, retN, pm_pop, pm_cat, List.map_cons, List.map_nil, List.sum_cons, List.sum_nil, Value.category, Option.toList, List.cons_append, List.nil_append, ↓reduceIte, reduceCtorEq, Nat.reduceAdd, Nat.reduceLT, Nat.reduceLeDiff, Nat.reduceSub, Nat.reduceEqDiff, Nat.zero_le, Nat.sub_zero, Nat.le_refl, true_and, and_true, not_true_eq_false, not_false_eq_true, true_or, or_true, lc_eq, lc_ne, lc_lt, lc_ge, lc_gt, lc_le, nI_add, lN_add, nI_leI, nI_ltI, nI_eq, nI_clamp, pk_lLT, pk_lLE, pk_lEQ, pk_sub, vp_inT, nz_eq, nz_lt, nz_ge, nz_gt, nz_le, lz_eq, lz_lt, lz_ge, hP1, hP2, hP3, hP4, hP5, hP6, hP7, hP8, hP9, hP10, hP11, hP12, hP13, hP14, hP15, hP16, hP17, hP18, hP19, hP20, hs.1, m_g19 hs, m_t629 hs, m_n629 hs, m_r629 hs, m_rt629 hs, m_rn629 hs, m_g22 hs, m_t720 hs, m_n720 hs, m_r720 hs, m_rt720 hs, m_rn720 hs, va_upE, en, sI_sI]
  rw [u_1058_121]
  simp (disch := omega) only [B_1058_121, nI1T, Nat.left_eq_add, Nat.add_eq_left, Nat.add_eq_zero_iff, and_false, false_and, if_false, if_true, opsN, opsC, pm_1, lg, ls1, ls2, lq, List.length_cons, List.length_nil, cN, cL, callE, retV, retN, pm_pop, pm_cat, List.map_cons, List.map_nil, List.sum_cons, List.sum_nil, Value.category, Option.toList, List.cons_append, List.nil_append, ↓reduceIte, reduceCtorEq, Nat.reduceAdd, Nat.reduceLT, Nat.reduceLeDiff, Nat.reduceSub, Nat.reduceEqDiff, Nat.zero_le, Nat.sub_zero, Nat.le_refl, true_and, and_true, not_true_eq_false, not_false_eq_true, true_or, or_true, lc_eq, lc_ne, lc_lt, lc_ge, lc_gt, lc_le, nI_add, lN_add, nI_leI, nI_ltI, nI_eq, nI_clamp, pk_lLT, pk_lLE, pk_lEQ, pk_sub, vp_inT, nz_eq, nz_lt, nz_ge, nz_gt, nz_le, lz_eq, lz_lt, lz_ge, hP1, hP2, hP3, hP4, hP5, hP6, hP7, hP8, hP9, hP10, hP11, hP12, hP13, hP14, hP15, hP16, hP17, hP18, hP19, hP20, hs.1, m_g19 hs, m_t629 hs, m_n629 hs, m_r629 hs, m_rt629 hs, m_rn629 hs, m_g22 hs, m_t720 hs, m_n720 hs, m_r720 hs, m_rt720 hs, m_rn720 hs, va_upE, en, sI_sI]
  rw [u_1058_121]
  simp (disch := omega) only [B_1058_121, nI1T, Nat.left_eq_add, Nat.add_eq_left, Nat.add_eq_zero_iff, and_false, false_and, if_false, if_true, opsN, opsC, pm_1, lg, ls1, ls2, lq, List.length_cons, List.length_nil, cN, cL, callE, retV, retN, pm_pop, pm_cat, List.map_cons, List.map_nil, List.sum_cons, List.sum_nil, Value.category, Option.toList, List.cons_append, List.nil_append, ↓reduceIte, reduceCtorEq, Nat.reduceAdd, Nat.reduceLT, Nat.reduceLeDiff, Nat.reduceSub, Nat.reduceEqDiff, Nat.zero_le, Nat.sub_zero, Nat.le_refl, true_and, and_true, not_true_eq_false, not_false_eq_true, true_or, or_true, lc_eq, lc_ne, lc_lt, lc_ge, lc_gt, lc_le, nI_add, lN_add, nI_leI, nI_ltI, nI_eq, nI_clamp, pk_lLT, pk_lLE, pk_lEQ, pk_sub, vp_inT, nz_eq, nz_lt, nz_ge, nz_gt, nz_le, lz_eq, lz_lt, lz_ge, hP1, hP2, hP3, hP4, hP5, hP6, hP7, hP8, hP9, hP10, hP11, hP12, hP13, hP14, hP15, hP16, hP17, hP18, hP19, hP20, hs.1, m_g19 hs, m_t629 hs, m_n629 hs, m_r629 hs, m_rt629 hs, m_rn629 hs, m_g22 hs, m_t720 hs, m_n720 hs, m_r720 hs, m_rt720 hs, m_rn720 hs, va_upE, en, sI_sI]
  rw [u_1058_121]
  simp (disch := omega) only [B_1058_121, u_1058_148, B_1058_148, nI1T, Nat.left_eq_add, Nat.add_eq_left, Nat.add_eq_zero_iff, and_false, false_and, if_false, if_true, opsN, opsC, pm_1, lg, ls1, ls2, lq, List.length_cons, List.length_nil, cN, cL, callE, retV, retN, pm_pop, pm_cat, List.map_cons, List.map_nil, List.sum_cons, List.sum_nil, Value.category, Option.toList, List.cons_append, List.nil_append, ↓reduceIte, reduceCtorEq, Nat.reduceAdd, Nat.reduceLT, Nat.reduceLeDiff, Nat.reduceSub, Nat.reduceEqDiff, Nat.zero_le, Nat.sub_zero, Nat.le_refl, true_and, and_true, not_true_eq_false, not_false_eq_true, true_or, or_true, lc_eq, lc_ne, lc_lt, lc_ge, lc_gt, lc_le, nI_add, lN_add, nI_leI, nI_ltI, nI_eq, nI_clamp, pk_lLT, pk_lLE, pk_lEQ, pk_sub, vp_inT, nz_eq, nz_lt, nz_ge, nz_gt, nz_le, lz_eq, lz_lt, lz_ge, hP1, hP2, hP3, hP4, hP5, hP6, hP7, hP8, hP9, hP10, hP11, hP12, hP13, hP14, hP15, hP16, hP17, hP18, hP19, hP20]
  refine hQ _ ?_
  simp only [va_upE, Nat.reduceEqDiff, if_true, if_false, and_self]
theorem l1058e (d : Nat) {v1 : Int32} (hO : chOK C) : ∀ (n k : Nat) (h : pm_H) (x3 : Option Value), n + k = C.1.length → mS h m → hI h m 26 = nI C.1.length →
      (∀ i, i < C.1.length → hI h (m + 721 + i) 0 = nI (C.1.getD i ed0).1 ∧ hI h (m + 721 + i) 1 = nI (C.1.getD i ed0).2.1 ∧ hI h (m + 721 + i) 2 = nI (C.1.getD i ed0).2.2) →
      (∀ i, i < k → hI h (m + 630 + i) 0 = nI (C.1.getD i ed0).1 ∧ hI h (m + 630 + i) 1 = nI (C.1.getD i ed0).2.1 ∧ hI h (m + 630 + i) 2 = nI (C.1.getD i ed0).2.2) →
      (∀ h' x3', (∀ i, i < C.1.length → hI h' (m + 630 + i) 0 = nI (C.1.getD i ed0).1 ∧ hI h' (m + 630 + i) 1 = nI (C.1.getD i ed0).2.1 ∧ hI h' (m + 630 + i) 2 = nI (C.1.getD i ed0).2.2) → fr (m + 630) (m + 630 + 60) h h' → hL h' = hL h → pm_W PP d 1058 Q 0 0 154 [some (.ref m), some (.int v1), some (.int (nI C.1.length)), x3'] [] h') →
      pm_W PP d 1058 Q 0 0 111 [some (.ref m), some (.int v1), some (.int (nI k)), x3] [] h := by
  obtain ⟨lE, lV, lR, _⟩ := hO
  intro n
  induction n with
  | zero =>
    intro k h x3 hk hs f0 hS hD hQ
    have e : k = C.1.length := by omega
    subst e
    have c1 : C.1.length ≤ C.1.length := Nat.le_refl _
    rw [u_1058_111]
    simp (disch := omega) only [B_1058_111, nI1T, Nat.left_eq_add, Nat.add_eq_left, Nat.add_eq_zero_iff, and_false, false_and, if_false, if_true, opsN, opsC, pm_1, lg, ls1, ls2, lq, List.length_cons, List.length_nil, cN, cL, callE, retV, retN, pm_pop, pm_cat, List.map_cons, List.map_nil, List.sum_cons, List.sum_nil, Value.category, Option.toList, List.cons_append, List.nil_append, ↓reduceIte, reduceCtorEq, Nat.reduceAdd, Nat.reduceLT, Nat.reduceLeDiff, Nat.reduceSub, Nat.reduceEqDiff, Nat.zero_le, Nat.sub_zero, Nat.le_refl, true_and, and_true, not_true_eq_false, not_false_eq_true, true_or, or_true, lc_eq, lc_ne, lc_lt, lc_ge, lc_gt, lc_le, nI_add, lN_add, nI_leI, nI_ltI, nI_eq, nI_clamp, pk_lLT, pk_lLE, pk_lEQ, pk_sub, vp_inT, nz_eq, nz_lt, nz_ge, nz_gt, nz_le, lz_eq, lz_lt, lz_ge, hP1, hP2, hP3, hP4, hP5, hP6, hP7, hP8, hP9, hP10, hP11, hP12, hP13, hP14, hP15, hP16, hP17, hP18, hP19, hP20, hs.1, f0, c1]
    exact hQ h x3 hD (fr_refl _ _ _) rfl
  | succ n ih =>
    intro k h x3 hk hs f0 hS hD hQ
    have c1 : ¬ C.1.length ≤ k := by omega
    rw [u_1058_111]
    simp (disch := omega) only [B_1058_111, nI1T, Nat.left_eq_add, Nat.add_eq_left, Nat.add_eq_zero_iff, and_false, false_and, if_false, if_true, opsN, opsC, pm_1, lg, ls1, ls2, lq, List.length_cons, List.length_nil, cN, cL, callE, retV, retN, pm_pop, pm_cat, List.map_cons, List.map_nil, List.sum_cons, List.sum_nil, Value.category, Option.toList, List.cons_append, List.nil_append, ↓reduceIte, reduceCtorEq, Nat.reduceAdd, Nat.reduceLT, Nat.reduceLeDiff, Nat.reduceSub, Nat.reduceEqDiff, Nat.zero_le, Nat.sub_zero, Nat.le_refl, true_and, and_true, not_true_eq_false, not_false_eq_true, true_or, or_true, lc_eq, lc_ne, lc_lt, lc_ge, lc_gt, lc_le, nI_add, lN_add, nI_leI, nI_ltI, nI_eq, nI_clamp, pk_lLT, pk_lLE, pk_lEQ, pk_sub, vp_inT, nz_eq, nz_lt, nz_ge, nz_gt, nz_le, lz_eq, lz_lt, lz_ge, hP1, hP2, hP3, hP4, hP5, hP6, hP7, hP8, hP9, hP10, hP11, hP12, hP13, hP14, hP15, hP16, hP17, hP18, hP19, hP20, hs.1, f0, c1]
    refine x1058e d (y0 := none) hs (by omega) ?_
    intro g hg
    refine ih (k + 1) _ _ (by omega) (mS_sI hs) ?_ (fun i hi => ?_) (fun i hi => ?_) (fun h' x3' q1 q2 q3 => hQ h' x3' q1 (fr_trans (fr_sI (fr_refl _ _ _) (by omega) (by omega)) q2) q3)
    · rw [hP1, va_up_ne _ _ (by omega)]; exact f0
    · rw [hP1, va_up_ne _ _ (by omega)]; exact hS i hi
    · by_cases z : i = k
      · subst z
        have := hS i (by omega)
        rw [hI_at, hg.1, hg.2.1, hg.2.2]; exact this
      · rw [hP1, va_up_ne _ _ (by omega)]; exact hD i (by omega)
/-- one row copied -/
theorem x1058v (d : Nat) {h : pm_H} {k : Nat} {v1 : Int32} {y0 : Option Value} (hs : mS h m) (hk : k < 12) 
    (hQ : ∀ g : Nat → Int32, g 0 = hI h (m + 782 + k) 0 ∧ g 1 = hI h (m + 782 + k) 1 → pm_W PP d 1058 Q 0 0 156 [some (.ref m), some (.int v1), some (.int (nI (k + 1))), some (.int (nI 2))] [] (sI h (m + 691 + k) g)) :
    pm_W PP d 1058 Q 0 0 166 [some (.ref m), some (.int v1), some (.int (nI k)), some (.int (nI 0))] [] h := by
  have en : (m + 782 + k = m + 691 + k) = False := eq_false (by omega)
  rw [u_1058_166]
  simp (disch := omega) only [B_1058_166, nI1T, Nat.left_eq_add, Nat.add_eq_left, Nat.add_eq_zero_iff, and_false, false_and, if_false, if_true, opsN, opsC, pm_1, lg, ls1, ls2, lq, List.length_cons, List.length_nil, cN, cL, callE, retV, retN, pm_pop, pm_cat, List.map_cons, List.map_nil, List.sum_cons, List.sum_nil, Value.category, Option.toList, List.cons_append, List.nil_append, ↓reduceIte, reduceCtorEq, Nat.reduceAdd, Nat.reduceLT, Nat.reduceLeDiff, Nat.reduceSub, Nat.reduceEqDiff, Nat.zero_le, Nat.sub_zero, Nat.le_refl, true_and, and_true, not_true_eq_false, not_false_eq_true, true_or, or_true, lc_eq, lc_ne, lc_lt, lc_ge, lc_gt, lc_le, nI_add, lN_add, nI_leI, nI_ltI, nI_eq, nI_clamp, pk_lLT, pk_lLE, pk_lEQ, pk_sub, vp_inT, nz_eq, nz_lt, nz_ge, nz_gt, nz_le, lz_eq, lz_lt, lz_ge, hP1, hP2, hP3, hP4, hP5, hP6, hP7, hP8, hP9, hP10, hP11, hP12, hP13, hP14, hP15, hP16, hP17, hP18, hP19, hP20, hs.1, m_g20 hs, m_t690 hs, m_n690 hs, m_r690 hs, m_rt690 hs, m_rn690 hs, m_g23 hs, m_t781 hs, m_n781 hs, m_r781 hs, m_rt781 hs, m_rn781 hs, va_upE, en, sI_sI]
  rw [u_1058_166]
  simp (disch := omega) only [B_1058_166, nI1T, Nat.left_eq_add, Nat.add_eq_left, Nat.add_eq_zero_iff, and_false, false_and, if_false, if_true, opsN, opsC, pm_1, lg, ls1, ls2, lq, List.length_cons, List.length_nil, cN, cL, callE, retV, retN, pm_pop, pm_cat, List.map_cons, List.map_nil, List.sum_cons, List.sum_nil, Value.category, Option.toList, List.cons_append, List.nil_append, ↓reduceIte, reduceCtorEq, Nat.reduceAdd, Nat.reduceLT, Nat.reduceLeDiff, Nat.reduceSub, Nat.reduceEqDiff, Nat.zero_le, Nat.sub_zero, Nat.le_refl, true_and, and_true, not_true_eq_false, not_false_eq_true, true_or, or_true, lc_eq, lc_ne, lc_lt, lc_ge, lc_gt, lc_le, nI_add, lN_add, nI_leI, nI_ltI, nI_eq, nI_clamp, pk_lLT, pk_lLE, pk_lEQ, pk_sub, vp_inT, nz_eq, nz_lt, nz_ge, nz_gt, nz_le, lz_eq, lz_lt, lz_ge, hP1, hP2, hP3, hP4, hP5, hP6, hP7, hP8, hP9, hP10, hP11, hP12, hP13, hP14, hP15, hP16, hP17, hP18, hP19, hP20, hs.1, m_g20 hs, m_t690 hs, m_n690 hs, m_r690 hs, m_rt690 hs, m_rn690 hs, m_g23 hs, m_t781 hs, m_n781 hs, m_r781 hs, m_rt781 hs, m_rn781 hs, va_upE, en, sI_sI]
  rw [u_1058_166]
  simp (disch := omega) only [B_1058_166, u_1058_193, B_1058_193, nI1T, Nat.left_eq_add, Nat.add_eq_left, Nat.add_eq_zero_iff, and_false, false_and, if_false, if_true, opsN, opsC, pm_1, lg, ls1, ls2, lq, List.length_cons, List.length_nil, cN, cL, callE, retV, retN, pm_pop, pm_cat, List.map_cons, List.map_nil, List.sum_cons, List.sum_nil, Value.category, Option.toList, List.cons_append, List.nil_append, ↓reduceIte, reduceCtorEq, Nat.reduceAdd, Nat.reduceLT, Nat.reduceLeDiff, Nat.reduceSub, Nat.reduceEqDiff, Nat.zero_le, Nat.sub_zero, Nat.le_refl, true_and, and_true, not_true_eq_false, not_false_eq_true, true_or, or_true, lc_eq, lc_ne, lc_lt, lc_ge, lc_gt, lc_le, nI_add, lN_add, nI_leI, nI_ltI, nI_eq, nI_clamp, pk_lLT, pk_lLE, pk_lEQ, pk_sub, vp_inT, nz_eq, nz_lt, nz_ge, nz_gt, nz_le, lz_eq, lz_lt, lz_ge, hP1, hP2, hP3, hP4, hP5, hP6, hP7, hP8, hP9, hP10, hP11, hP12, hP13, hP14, hP15, hP16, hP17, hP18, hP19, hP20]
  refine hQ _ ?_
  simp only [va_upE, Nat.reduceEqDiff, if_true, if_false, and_self]
theorem l1058v (d : Nat) {v1 : Int32} (hO : chOK C) : ∀ (n k : Nat) (h : pm_H) (x3 : Option Value), n + k = C.2.1.length → mS h m → hI h m 27 = nI C.2.1.length →
      (∀ i, i < C.2.1.length → hI h (m + 782 + i) 0 = nI (C.2.1.getD i ev0).1 ∧ hI h (m + 782 + i) 1 = nI (C.2.1.getD i ev0).2) →
      (∀ i, i < k → hI h (m + 691 + i) 0 = nI (C.2.1.getD i ev0).1 ∧ hI h (m + 691 + i) 1 = nI (C.2.1.getD i ev0).2) →
      (∀ h' x3', (∀ i, i < C.2.1.length → hI h' (m + 691 + i) 0 = nI (C.2.1.getD i ev0).1 ∧ hI h' (m + 691 + i) 1 = nI (C.2.1.getD i ev0).2) → fr (m + 691) (m + 691 + 12) h h' → hL h' = hL h → pm_W PP d 1058 Q 0 0 199 [some (.ref m), some (.int v1), some (.int (nI C.2.1.length)), x3'] [] h') →
      pm_W PP d 1058 Q 0 0 156 [some (.ref m), some (.int v1), some (.int (nI k)), x3] [] h := by
  obtain ⟨lE, lV, lR, _⟩ := hO
  intro n
  induction n with
  | zero =>
    intro k h x3 hk hs f0 hS hD hQ
    have e : k = C.2.1.length := by omega
    subst e
    have c1 : C.2.1.length ≤ C.2.1.length := Nat.le_refl _
    rw [u_1058_156]
    simp (disch := omega) only [B_1058_156, nI1T, Nat.left_eq_add, Nat.add_eq_left, Nat.add_eq_zero_iff, and_false, false_and, if_false, if_true, opsN, opsC, pm_1, lg, ls1, ls2, lq, List.length_cons, List.length_nil, cN, cL, callE, retV, retN, pm_pop, pm_cat, List.map_cons, List.map_nil, List.sum_cons, List.sum_nil, Value.category, Option.toList, List.cons_append, List.nil_append, ↓reduceIte, reduceCtorEq, Nat.reduceAdd, Nat.reduceLT, Nat.reduceLeDiff, Nat.reduceSub, Nat.reduceEqDiff, Nat.zero_le, Nat.sub_zero, Nat.le_refl, true_and, and_true, not_true_eq_false, not_false_eq_true, true_or, or_true, lc_eq, lc_ne, lc_lt, lc_ge, lc_gt, lc_le, nI_add, lN_add, nI_leI, nI_ltI, nI_eq, nI_clamp, pk_lLT, pk_lLE, pk_lEQ, pk_sub, vp_inT, nz_eq, nz_lt, nz_ge, nz_gt, nz_le, lz_eq, lz_lt, lz_ge, hP1, hP2, hP3, hP4, hP5, hP6, hP7, hP8, hP9, hP10, hP11, hP12, hP13, hP14, hP15, hP16, hP17, hP18, hP19, hP20, hs.1, f0, c1]
    exact hQ h x3 hD (fr_refl _ _ _) rfl
  | succ n ih =>
    intro k h x3 hk hs f0 hS hD hQ
    have c1 : ¬ C.2.1.length ≤ k := by omega
    rw [u_1058_156]
    simp (disch := omega) only [B_1058_156, nI1T, Nat.left_eq_add, Nat.add_eq_left, Nat.add_eq_zero_iff, and_false, false_and, if_false, if_true, opsN, opsC, pm_1, lg, ls1, ls2, lq, List.length_cons, List.length_nil, cN, cL, callE, retV, retN, pm_pop, pm_cat, List.map_cons, List.map_nil, List.sum_cons, List.sum_nil, Value.category, Option.toList, List.cons_append, List.nil_append, ↓reduceIte, reduceCtorEq, Nat.reduceAdd, Nat.reduceLT, Nat.reduceLeDiff, Nat.reduceSub, Nat.reduceEqDiff, Nat.zero_le, Nat.sub_zero, Nat.le_refl, true_and, and_true, not_true_eq_false, not_false_eq_true, true_or, or_true, lc_eq, lc_ne, lc_lt, lc_ge, lc_gt, lc_le, nI_add, lN_add, nI_leI, nI_ltI, nI_eq, nI_clamp, pk_lLT, pk_lLE, pk_lEQ, pk_sub, vp_inT, nz_eq, nz_lt, nz_ge, nz_gt, nz_le, lz_eq, lz_lt, lz_ge, hP1, hP2, hP3, hP4, hP5, hP6, hP7, hP8, hP9, hP10, hP11, hP12, hP13, hP14, hP15, hP16, hP17, hP18, hP19, hP20, hs.1, f0, c1]
    refine x1058v d (y0 := none) hs (by omega) ?_
    intro g hg
    refine ih (k + 1) _ _ (by omega) (mS_sI hs) ?_ (fun i hi => ?_) (fun i hi => ?_) (fun h' x3' q1 q2 q3 => hQ h' x3' q1 (fr_trans (fr_sI (fr_refl _ _ _) (by omega) (by omega)) q2) q3)
    · rw [hP1, va_up_ne _ _ (by omega)]; exact f0
    · rw [hP1, va_up_ne _ _ (by omega)]; exact hS i hi
    · by_cases z : i = k
      · subst z
        have := hS i (by omega)
        rw [hI_at, hg.1, hg.2]; exact this
      · rw [hP1, va_up_ne _ _ (by omega)]; exact hD i (by omega)
/-- one row copied -/
theorem x1058r (d : Nat) {h : pm_H} {k : Nat} {v1 : Int32} {y0 : Option Value} (hs : mS h m) (hk : k < 16) 
    (hQ : ∀ g : Nat → Int32, g 0 = hI h (m + 795 + k) 0 ∧ g 1 = hI h (m + 795 + k) 1 ∧ g 2 = hI h (m + 795 + k) 2 → pm_W PP d 1058 Q 0 0 201 [some (.ref m), some (.int v1), some (.int (nI (k + 1))), some (.int (nI 3))] [] (sI h (m + 704 + k) g)) :
    pm_W PP d 1058 Q 0 0 211 [some (.ref m), some (.int v1), some (.int (nI k)), some (.int (nI 0))] [] h := by
  have en : (m + 795 + k = m + 704 + k) = False := eq_false (by omega)
  rw [u_1058_211]
  simp (disch := omega) only [B_1058_211, nI1T, Nat.left_eq_add, Nat.add_eq_left, Nat.add_eq_zero_iff, and_false, false_and, if_false, if_true, opsN, opsC, pm_1, lg, ls1, ls2, lq, List.length_cons, List.length_nil, cN, cL, callE, retV, retN, pm_pop, pm_cat, List.map_cons, List.map_nil, List.sum_cons, List.sum_nil, Value.category, Option.toList, List.cons_append, List.nil_append, ↓reduceIte, reduceCtorEq, Nat.reduceAdd, Nat.reduceLT, Nat.reduceLeDiff, Nat.reduceSub, Nat.reduceEqDiff, Nat.zero_le, Nat.sub_zero, Nat.le_refl, true_and, and_true, not_true_eq_false, not_false_eq_true, true_or, or_true, lc_eq, lc_ne, lc_lt, lc_ge, lc_gt, lc_le, nI_add, lN_add, nI_leI, nI_ltI, nI_eq, nI_clamp, pk_lLT, pk_lLE, pk_lEQ, pk_sub, vp_inT, nz_eq, nz_lt, nz_ge, nz_gt, nz_le, lz_eq, lz_lt, lz_ge, hP1, hP2, hP3, hP4, hP5, hP6, hP7, hP8, hP9, hP10, hP11, hP12, hP13, hP14, hP15, hP16, hP17, hP18, hP19, hP20, hs.1, m_g21 hs, m_t703 hs, m_n703 hs, m_r703 hs, m_rt703 hs, m_rn703 hs, m_g24 hs, m_t794 hs, m_n794 hs, m_r794 hs, m_rt794 hs, m_rn794 hs, va_upE, en, sI_sI]
  rw [u_1058_211]
  simp (disch := omega) only [B_1058_211, nI1T, Nat.left_eq_add, Nat.add_eq_left, Nat.add_eq_zero_iff, and_false, false_and, if_false, if_true, opsN, opsC, pm_1, lg, ls1, ls2, lq, List.length_cons, List.length_nil, cN, cL, callE, retV, retN, pm_pop, pm_cat, List.map_cons, List.map_nil, List.sum_cons, List.sum_nil, Value.category, Option.toList, List.cons_append, List.nil_append, ↓reduceIte, reduceCtorEq, Nat.reduceAdd, Nat.reduceLT, Nat.reduceLeDiff, Nat.reduceSub, Nat.reduceEqDiff, Nat.zero_le, Nat.sub_zero, Nat.le_refl, true_and, and_true, not_true_eq_false, not_false_eq_true, true_or, or_true, lc_eq, lc_ne, lc_lt, lc_ge, lc_gt, lc_le, nI_add, lN_add, nI_leI, nI_ltI, nI_eq, nI_clamp, pk_lLT, pk_lLE, pk_lEQ, pk_sub, vp_inT, nz_eq, nz_lt, nz_ge, nz_gt, nz_le, lz_eq, lz_lt, lz_ge, hP1, hP2, hP3, hP4, hP5, hP6, hP7, hP8, hP9, hP10, hP11, hP12, hP13, hP14, hP15, hP16, hP17, hP18, hP19, hP20, hs.1, m_g21 hs, m_t703 hs, m_n703 hs, m_r703 hs, m_rt703 hs, m_rn703 hs, m_g24 hs, m_t794 hs, m_n794 hs, m_r794 hs, m_rt794 hs, m_rn794 hs, va_upE, en, sI_sI]
  rw [u_1058_211]
  simp (disch := omega) only [B_1058_211, nI1T, Nat.left_eq_add, Nat.add_eq_left, Nat.add_eq_zero_iff, and_false, false_and, if_false, if_true, opsN, opsC, pm_1, lg, ls1, ls2, lq, List.length_cons, List.length_nil, cN, cL, callE, retV, retN, pm_pop, pm_cat, List.map_cons, List.map_nil, List.sum_cons, List.sum_nil, Value.category, Option.toList, List.cons_append, List.nil_append, ↓reduceIte, reduceCtorEq, Nat.reduceAdd, Nat.reduceLT, Nat.reduceLeDiff, Nat.reduceSub, Nat.reduceEqDiff, Nat.zero_le, Nat.sub_zero, Nat.le_refl, true_and, and_true, not_true_eq_false, not_false_eq_true, true_or, or_true, lc_eq, lc_ne, lc_lt, lc_ge, lc_gt, lc_le, nI_add, lN_add, nI_leI, nI_ltI, nI_eq, nI_clamp, pk_lLT, pk_lLE, pk_lEQ, pk_sub, vp_inT, nz_eq, nz_lt, nz_ge, nz_gt, nz_le, lz_eq, lz_lt, lz_ge, hP1, hP2, hP3, hP4, hP5, hP6, hP7, hP8, hP9, hP10, hP11, hP12, hP13, hP14, hP15, hP16, hP17, hP18, hP19, hP20, hs.1, m_g21 hs, m_t703 hs, m_n703 hs, m_r703 hs, m_rt703 hs, m_rn703 hs, m_g24 hs, m_t794 hs, m_n794 hs, m_r794 hs, m_rt794 hs, m_rn794 hs, va_upE, en, sI_sI]
  rw [u_1058_211]
  simp (disch := omega) only [B_1058_211, u_1058_238, B_1058_238, nI1T, Nat.left_eq_add, Nat.add_eq_left, Nat.add_eq_zero_iff, and_false, false_and, if_false, if_true, opsN, opsC, pm_1, lg, ls1, ls2, lq, List.length_cons, List.length_nil, cN, cL, callE, retV, retN, pm_pop, pm_cat, List.map_cons, List.map_nil, List.sum_cons, List.sum_nil, Value.category, Option.toList, List.cons_append, List.nil_append, ↓reduceIte, reduceCtorEq, Nat.reduceAdd, Nat.reduceLT, Nat.reduceLeDiff, Nat.reduceSub, Nat.reduceEqDiff, Nat.zero_le, Nat.sub_zero, Nat.le_refl, true_and, and_true, not_true_eq_false, not_false_eq_true, true_or, or_true, lc_eq, lc_ne, lc_lt, lc_ge, lc_gt, lc_le, nI_add, lN_add, nI_leI, nI_ltI, nI_eq, nI_clamp, pk_lLT, pk_lLE, pk_lEQ, pk_sub, vp_inT, nz_eq, nz_lt, nz_ge, nz_gt, nz_le, lz_eq, lz_lt, lz_ge, hP1, hP2, hP3, hP4, hP5, hP6, hP7, hP8, hP9, hP10, hP11, hP12, hP13, hP14, hP15, hP16, hP17, hP18, hP19, hP20]
  refine hQ _ ?_
  simp only [va_upE, Nat.reduceEqDiff, if_true, if_false, and_self]
theorem l1058r (d : Nat) {v1 : Int32} (hO : chOK C) : ∀ (n k : Nat) (h : pm_H) (x3 : Option Value), n + k = C.2.2.length → mS h m → hI h m 28 = nI C.2.2.length →
      (∀ i, i < C.2.2.length → hI h (m + 795 + i) 0 = nI (C.2.2.getD i ed0).1 ∧ hI h (m + 795 + i) 1 = nI (C.2.2.getD i ed0).2.1 ∧ hI h (m + 795 + i) 2 = nI (C.2.2.getD i ed0).2.2) →
      (∀ i, i < k → hI h (m + 704 + i) 0 = nI (C.2.2.getD i ed0).1 ∧ hI h (m + 704 + i) 1 = nI (C.2.2.getD i ed0).2.1 ∧ hI h (m + 704 + i) 2 = nI (C.2.2.getD i ed0).2.2) →
      (∀ h' x3', (∀ i, i < C.2.2.length → hI h' (m + 704 + i) 0 = nI (C.2.2.getD i ed0).1 ∧ hI h' (m + 704 + i) 1 = nI (C.2.2.getD i ed0).2.1 ∧ hI h' (m + 704 + i) 2 = nI (C.2.2.getD i ed0).2.2) → fr (m + 704) (m + 704 + 16) h h' → hL h' = hL h → pm_W PP d 1058 Q 0 0 244 [some (.ref m), some (.int v1), some (.int (nI C.2.2.length)), x3'] [] h') →
      pm_W PP d 1058 Q 0 0 201 [some (.ref m), some (.int v1), some (.int (nI k)), x3] [] h := by
  obtain ⟨lE, lV, lR, _⟩ := hO
  intro n
  induction n with
  | zero =>
    intro k h x3 hk hs f0 hS hD hQ
    have e : k = C.2.2.length := by omega
    subst e
    have c1 : C.2.2.length ≤ C.2.2.length := Nat.le_refl _
    rw [u_1058_201]
    simp (disch := omega) only [B_1058_201, nI1T, Nat.left_eq_add, Nat.add_eq_left, Nat.add_eq_zero_iff, and_false, false_and, if_false, if_true, opsN, opsC, pm_1, lg, ls1, ls2, lq, List.length_cons, List.length_nil, cN, cL, callE, retV, retN, pm_pop, pm_cat, List.map_cons, List.map_nil, List.sum_cons, List.sum_nil, Value.category, Option.toList, List.cons_append, List.nil_append, ↓reduceIte, reduceCtorEq, Nat.reduceAdd, Nat.reduceLT, Nat.reduceLeDiff, Nat.reduceSub, Nat.reduceEqDiff, Nat.zero_le, Nat.sub_zero, Nat.le_refl, true_and, and_true, not_true_eq_false, not_false_eq_true, true_or, or_true, lc_eq, lc_ne, lc_lt, lc_ge, lc_gt, lc_le, nI_add, lN_add, nI_leI, nI_ltI, nI_eq, nI_clamp, pk_lLT, pk_lLE, pk_lEQ, pk_sub, vp_inT, nz_eq, nz_lt, nz_ge, nz_gt, nz_le, lz_eq, lz_lt, lz_ge, hP1, hP2, hP3, hP4, hP5, hP6, hP7, hP8, hP9, hP10, hP11, hP12, hP13, hP14, hP15, hP16, hP17, hP18, hP19, hP20, hs.1, f0, c1]
    exact hQ h x3 hD (fr_refl _ _ _) rfl
  | succ n ih =>
    intro k h x3 hk hs f0 hS hD hQ
    have c1 : ¬ C.2.2.length ≤ k := by omega
    rw [u_1058_201]
    simp (disch := omega) only [B_1058_201, nI1T, Nat.left_eq_add, Nat.add_eq_left, Nat.add_eq_zero_iff, and_false, false_and, if_false, if_true, opsN, opsC, pm_1, lg, ls1, ls2, lq, List.length_cons, List.length_nil, cN, cL, callE, retV, retN, pm_pop, pm_cat, List.map_cons, List.map_nil, List.sum_cons, List.sum_nil, Value.category, Option.toList, List.cons_append, List.nil_append, ↓reduceIte, reduceCtorEq, Nat.reduceAdd, Nat.reduceLT, Nat.reduceLeDiff, Nat.reduceSub, Nat.reduceEqDiff, Nat.zero_le, Nat.sub_zero, Nat.le_refl, true_and, and_true, not_true_eq_false, not_false_eq_true, true_or, or_true, lc_eq, lc_ne, lc_lt, lc_ge, lc_gt, lc_le, nI_add, lN_add, nI_leI, nI_ltI, nI_eq, nI_clamp, pk_lLT, pk_lLE, pk_lEQ, pk_sub, vp_inT, nz_eq, nz_lt, nz_ge, nz_gt, nz_le, lz_eq, lz_lt, lz_ge, hP1, hP2, hP3, hP4, hP5, hP6, hP7, hP8, hP9, hP10, hP11, hP12, hP13, hP14, hP15, hP16, hP17, hP18, hP19, hP20, hs.1, f0, c1]
    refine x1058r d (y0 := none) hs (by omega) ?_
    intro g hg
    refine ih (k + 1) _ _ (by omega) (mS_sI hs) ?_ (fun i hi => ?_) (fun i hi => ?_) (fun h' x3' q1 q2 q3 => hQ h' x3' q1 (fr_trans (fr_sI (fr_refl _ _ _) (by omega) (by omega)) q2) q3)
    · rw [hP1, va_up_ne _ _ (by omega)]; exact f0
    · rw [hP1, va_up_ne _ _ (by omega)]; exact hS i hi
    · by_cases z : i = k
      · subst z
        have := hS i (by omega)
        rw [hI_at, hg.1, hg.2.1, hg.2.2]; exact this
      · rw [hP1, va_up_ne _ _ (by omega)]; exact hD i (by omega)
end CH
