/-! ===== the plan, read by the class ===== -/
theorem getD_ap {α : Type} {L R : List α} {dd : α} {j : Nat} : (L ++ R).getD j dd = if j < L.length then L.getD j dd else R.getD (j - L.length) dd := by
  split
  · rename_i h; rw [List.getD_eq_getElem?_getD, List.getElem?_append_left h, ← List.getD_eq_getElem?_getD]
  · rename_i h; rw [List.getD_eq_getElem?_getD, List.getElem?_append_right (by omega), ← List.getD_eq_getElem?_getD]
theorem getD_tk {α : Type} {L : List α} {dd : α} {n j : Nat} (hj : j < n) : (L.take n).getD j dd = L.getD j dd := by
  rw [List.getD_eq_getElem?_getD, List.getElem?_take_of_lt hj, ← List.getD_eq_getElem?_getD]
theorem getD_dr {α : Type} {L : List α} {dd : α} {n j : Nat} : (L.drop n).getD j dd = L.getD (n + j) dd := by
  rw [List.getD_eq_getElem?_getD, List.getElem?_drop, ← List.getD_eq_getElem?_getD]
/-- only the plan's steps changed -/
def frS (c : Nat) (h h' : pm_H) : Prop := hT h' = hT h ∧ hN h' = hN h ∧ hR h' = hR h ∧ hn h' = hn h ∧ hL h' = hL h ∧ (∀ k, (k < c ∨ c + 4 ≤ k) → hI h' k = hI h k) ∧ ∀ j, j ≠ 5 → hI h' c j = hI h c j
theorem frS_refl (c : Nat) (h : pm_H) : frS c h h := ⟨rfl, rfl, rfl, rfl, rfl, fun _ _ => rfl, fun _ _ => rfl⟩
theorem frS_trans {c : Nat} {h h1 h2 : pm_H} (a : frS c h h1) (b : frS c h1 h2) : frS c h h2 :=
  ⟨b.1.trans a.1, b.2.1.trans a.2.1, b.2.2.1.trans a.2.2.1, b.2.2.2.1.trans a.2.2.2.1, b.2.2.2.2.1.trans a.2.2.2.2.1, fun k q => (b.2.2.2.2.2.1 k q).trans (a.2.2.2.2.2.1 k q), fun j q => (b.2.2.2.2.2.2 j q).trans (a.2.2.2.2.2.2 j q)⟩
section PL
variable {h : pm_H} {c : Nat} {S : List St} {Q : pm_Q}
theorem c403 (d : Nat) {s : St} (hs : plS h c) (hS1 : isS h c S) (hQ : ∀ h', isS h' c ((S ++ [s]).take 400) → frS c h h' → Q (.inl none) h') : pm_M PP (d + 1) 403 [.ref c, .int (nI s.1), .int (nI s.2.1), .int (nI s.2.2)] h Q := by
  have hS0 := hS1
  obtain ⟨s0, s1, s2, s3, s4, s5, u1, u2, u3, u4, u5, n1, n2, n3, n4, n5⟩ := hs
  obtain ⟨a1, a2, a3⟩ := hS1
  rw [e_403]
  by_cases k : S.length < 400
  · simp (disch := omega) only [u_403_0, B_403_0, u_403_11, B_403_11, nI1T, Nat.left_eq_add, Nat.add_eq_left, Nat.add_eq_zero_iff, and_false, false_and, if_false, if_true, opsN, opsC, pm_1, lg, ls1, ls2, lq, List.length_cons, List.length_nil, cN, cL, callE, retV, retN, pm_pop, pm_cat, List.map_cons, List.map_nil, List.sum_cons, List.sum_nil, Value.category, Option.toList, List.cons_append, List.nil_append, ↓reduceIte, reduceCtorEq, Nat.reduceAdd, Nat.reduceLT, Nat.reduceLeDiff, Nat.reduceSub, Nat.reduceEqDiff, Nat.zero_le, Nat.sub_zero, Nat.le_refl, true_and, and_true, not_true_eq_false, not_false_eq_true, true_or, or_true, lc_eq, lc_ne, lc_lt, lc_ge, lc_gt, lc_le, nI_add, lN_add, nI_leI, nI_ltI, nI_eq, nI_clamp, pk_lLT, pk_lLE, pk_lEQ, pk_sub, vp_inT, nz_eq, nz_lt, nz_ge, nz_gt, nz_le, lz_eq, lz_lt, lz_ge, hP1, hP2, hP3, hP4, hP5, hP6, hP7, hP8, hP9, hP10, hP11, hP12, hP13, hP14, hP15, hP16, hP17, hP18, hP19, hP20, s0, s1, s2, s3, u1, u2, u3, n1, n2, n3, a2, k, va_upE]
    have el : (S ++ [s]).take 400 = S ++ [s] := List.take_of_length_le (by rw [List.length_append]; show S.length + 1 ≤ 400; omega)
    rw [el] at hQ
    refine hQ _ ⟨by rw [List.length_append]; show S.length + 1 ≤ 400; omega, ?_, fun i hi => ?_⟩ ⟨rfl, rfl, rfl, rfl, rfl, fun k q => ?_, fun j q => ?_⟩
    · rw [hI_at, va_up_self, List.length_append]; rfl
    · refine ⟨?_, ?_, ?_⟩
      · rw [hP1, va_up_ne _ _ (by omega), hP1, va_up_ne _ _ (by omega), hP1, va_up_ne _ _ (by omega), hI_at]
        exact app_row (π := fun e : St => e.1) (fun i hi => (a3 i hi).1) i hi
      · rw [hP1, va_up_ne _ _ (by omega), hP1, va_up_ne _ _ (by omega), hI_at]
        exact app_row (π := fun e : St => e.2.1) (fun i hi => (a3 i hi).2.1) i hi
      · rw [hP1, va_up_ne _ _ (by omega), hI_at]
        exact app_row (π := fun e : St => e.2.2) (fun i hi => (a3 i hi).2.2) i hi
    · rw [hP1, va_up_ne _ _ (by omega), hP1, va_up_ne _ _ (by omega), hP1, va_up_ne _ _ (by omega), hP1, va_up_ne _ _ (by omega)]
    · rw [hI_at, va_up_ne _ _ q]
  · have el : (S ++ [s]).take 400 = S := by rw [List.take_append_of_le_length (by omega), List.take_of_length_le a1]
    rw [el] at hQ
    simp (disch := omega) only [u_403_0, B_403_0, nI1T, Nat.left_eq_add, Nat.add_eq_left, Nat.add_eq_zero_iff, and_false, false_and, if_false, if_true, opsN, opsC, pm_1, lg, ls1, ls2, lq, List.length_cons, List.length_nil, cN, cL, callE, retV, retN, pm_pop, pm_cat, List.map_cons, List.map_nil, List.sum_cons, List.sum_nil, Value.category, Option.toList, List.cons_append, List.nil_append, ↓reduceIte, reduceCtorEq, Nat.reduceAdd, Nat.reduceLT, Nat.reduceLeDiff, Nat.reduceSub, Nat.reduceEqDiff, Nat.zero_le, Nat.sub_zero, Nat.le_refl, true_and, and_true, not_true_eq_false, not_false_eq_true, true_or, or_true, lc_eq, lc_ne, lc_lt, lc_ge, lc_gt, lc_le, nI_add, lN_add, nI_leI, nI_ltI, nI_eq, nI_clamp, pk_lLT, pk_lLE, pk_lEQ, pk_sub, vp_inT, nz_eq, nz_lt, nz_ge, nz_gt, nz_le, lz_eq, lz_lt, lz_ge, hP1, hP2, hP3, hP4, hP5, hP6, hP7, hP8, hP9, hP10, hP11, hP12, hP13, hP14, hP15, hP16, hP17, hP18, hP19, hP20, s0, a2, k]
    exact hQ h hS0 (frS_refl _ _)
theorem cp_row {f : Nat → Int32} {π : St → Nat} {st bd rm : Nat} (hf : ∀ i, i < S.length → f i = nI (π (S.getD i s0))) (h1 : st + bd ≤ S.length) (h2 : rm ≤ bd) (h3 : S.length + rm ≤ 400) (h4 : rm = bd ∨ S.length + rm = 400) :
    ∀ i, i < ((S ++ (S.drop st).take bd).take 400).length → va_cpy f f st S.length rm i = nI (π (((S ++ (S.drop st).take bd).take 400).getD i s0)) := by
  intro i hi
  rw [List.length_take, List.length_append, List.length_take, List.length_drop] at hi
  rw [getD_tk (by omega), getD_ap]
  unfold va_cpy
  by_cases k : i < S.length
  · rw [if_neg (by omega), if_pos k]; exact hf i k
  · rw [if_pos (by omega), if_neg k, getD_tk (by omega), getD_dr]; exact hf _ (by omega)
theorem c406 (d : Nat) {st bd : Nat} (hs : plS h c) (hS1 : isS h c S) (h1 : st + bd ≤ S.length) (hQ : ∀ h', isS h' c ((S ++ (S.drop st).take bd).take 400) → frS c h h' → Q (.inl none) h') : pm_M PP (d + 1) 406 [.ref c, .int (nI st), .int (nI bd)] h Q := by
  obtain ⟨s0, s1, s2, s3, s4, s5, u1, u2, u3, u4, u5, n1, n2, n3, n4, n5⟩ := hs
  obtain ⟨a1, a2, a3⟩ := hS1
  obtain ⟨rm, hrm, e1, e2, e3⟩ : ∃ rm, (if 400 - S.length < bd then 400 - S.length else bd) = rm ∧ rm ≤ bd ∧ S.length + rm ≤ 400 ∧ (rm = bd ∨ S.length + rm = 400) := by
    by_cases k : 400 - S.length < bd
    · exact ⟨400 - S.length, by rw [if_pos k], by omega, by omega, by omega⟩
    · exact ⟨bd, by rw [if_neg k], by omega, by omega, by omega⟩
  have er : (if nI (400 - S.length) < nI bd then nI (400 - S.length) else nI bd) = nI rm := by
    rw [← hrm]
    by_cases k : 400 - S.length < bd
    · rw [if_pos k, if_pos ((nI_ltI (by omega) (by omega)).mpr k)]
    · rw [if_neg k, if_neg (fun q => k ((nI_ltI (by omega) (by omega)).mp q))]
  have er2 : (if 400 - S.length < bd then nI (400 - S.length) else nI bd) = nI rm := by
    rw [← hrm]; split <;> rfl
  have b1 : st + rm ≤ 400 := by omega
  have b2 : S.length + rm ≤ 400 := e2
  rw [e_406]
  simp (disch := omega) only [u_406_0, B_406_0, nI1T, Nat.left_eq_add, Nat.add_eq_left, Nat.add_eq_zero_iff, and_false, false_and, if_false, if_true, opsN, opsC, pm_1, lg, ls1, ls2, lq, List.length_cons, List.length_nil, cN, cL, callE, retV, retN, pm_pop, pm_cat, List.map_cons, List.map_nil, List.sum_cons, List.sum_nil, Value.category, Option.toList, List.cons_append, List.nil_append, ↓reduceIte, reduceCtorEq, Nat.reduceAdd, Nat.reduceLT, Nat.reduceLeDiff, Nat.reduceSub, Nat.reduceEqDiff, Nat.zero_le, Nat.sub_zero, Nat.le_refl, true_and, and_true, not_true_eq_false, not_false_eq_true, true_or, or_true, lc_eq, lc_ne, lc_lt, lc_ge, lc_gt, lc_le, nI_add, lN_add, nI_leI, nI_ltI, nI_eq, nI_clamp, pk_lLT, pk_lLE, pk_lEQ, pk_sub, vp_inT, nz_eq, nz_lt, nz_ge, nz_gt, nz_le, lz_eq, lz_lt, lz_ge, hP1, hP2, hP3, hP4, hP5, hP6, hP7, hP8, hP9, hP10, hP11, hP12, hP13, hP14, hP15, hP16, hP17, hP18, hP19, hP20, s0, s1, s2, s3, u1, u2, u3, n1, n2, n3, a2, er, er2, b1, b2, va_upE]
  have el : ((S ++ (S.drop st).take bd).take 400).length = S.length + rm := by rw [List.length_take, List.length_append, List.length_take, List.length_drop]; omega
  refine hQ _ ⟨by rw [el]; exact e2, ?_, fun i hi => ⟨?_, ?_, ?_⟩⟩ ⟨rfl, rfl, rfl, rfl, rfl, fun k q => ?_, fun j q => ?_⟩
  · rw [hI_at, va_up_self, el]
  · rw [hP1, va_up_ne _ _ (by omega), hP11, hP1, va_up_ne _ _ (by omega), hP11, hP1, va_up_ne _ _ (by omega), hP11, hI_at]
    exact cp_row (π := fun e : St => e.1) (fun i hi => (a3 i hi).1) h1 e1 e2 e3 i hi
  · rw [hP1, va_up_ne _ _ (by omega), hP11, hP1, va_up_ne _ _ (by omega), hP11, hI_at]
    exact cp_row (π := fun e : St => e.2.1) (fun i hi => (a3 i hi).2.1) h1 e1 e2 e3 i hi
  · rw [hP1, va_up_ne _ _ (by omega), hP11, hI_at]
    exact cp_row (π := fun e : St => e.2.2) (fun i hi => (a3 i hi).2.2) h1 e1 e2 e3 i hi
  · rw [hP1, va_up_ne _ _ (by omega), hP11, hP1, va_up_ne _ _ (by omega), hP11, hP1, va_up_ne _ _ (by omega), hP11, hP1, va_up_ne _ _ (by omega)]
  · rw [hI_at, va_up_ne _ _ q]
end PL
