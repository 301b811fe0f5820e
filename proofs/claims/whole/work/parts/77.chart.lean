/-! ===== THE CHART: a line, the plain reader ===== -/
def wEdge : List Nat := [101, 100, 103, 101]
def wEvent : List Nat := [101, 118, 101, 110, 116]
def wRule : List Nat := [114, 117, 108, 101]
def edP (X : List Nat) (p : Nat) : Rz × Ed :=
  ((numP X 1000000000 (numP X 15 (numP X 15 (p, none)).1).1).1, ((numP X 15 (p, none)).2, (numP X 15 (numP X 15 (p, none)).1).2, (numP X 1000000000 (numP X 15 (numP X 15 (p, none)).1).1).2))
def evP (X : List Nat) (p : Nat) : Rz × Ev := ((numP X 1000000000 (letP X (p, none)).1).1, ((letP X (p, none)).2, (numP X 1000000000 (letP X (p, none)).1).2))
def ruP (X : List Nat) (p : Nat) : Rz × Ed :=
  ((letP X (numP X 1000000000 (letP X (p, none)).1).1).1, ((letP X (p, none)).2, (numP X 1000000000 (letP X (p, none)).1).2, (letP X (numP X 1000000000 (letP X (p, none)).1).1).2))
/-- a line that begins at p, ahead of its end -/
def lnP (X : List Nat) (C : Cs) (p : Nat) : Rz × Cs :=
  if wd X p wEdge then (if C.1.length = 60 then ((p + 4, some (3, p)), C) else ((edP X (p + 4)).1, (C.1 ++ [(edP X (p + 4)).2], C.2.1, C.2.2)))
  else if wd X p wEvent then (if C.2.1.length = 12 then ((p + 5, some (3, p)), C) else ((evP X (p + 5)).1, (C.1, C.2.1 ++ [(evP X (p + 5)).2], C.2.2)))
  else if wd X p wRule then (if C.2.2.length = 16 then ((p + 4, some (3, p)), C) else ((ruP X (p + 4)).1, (C.1, C.2.1, C.2.2 ++ [(ruP X (p + 4)).2])))
  else ((p, some (1, p)), C)
def chL (X : List Nat) : Nat → Nat → Cs → (Nat × Nat) ⊕ Cs
  | 0, _, C => .inr C
  | f + 1, a, C => match X[skp X a]? with
    | none => .inr C
    | some _ => match (wantP X 59 (lnP X C (skp X a)).1).2 with
      | some e => .inl e
      | none => chL X f (wantP X 59 (lnP X C (skp X a)).1).1 (lnP X C (skp X a)).2
theorem app_row {α : Type} {f : Nat → Int32} {L : List α} {y dd : α} {π : α → Nat} (hf : ∀ i, i < L.length → f i = nI (π (L.getD i dd))) : ∀ i, i < (L ++ [y]).length → va_up f L.length (nI (π y)) i = nI (π ((L ++ [y]).getD i dd)) := by
  intro i hi
  rw [List.length_append] at hi
  have hi : i < L.length + 1 := hi
  rw [va_upE]
  by_cases e : i = L.length
  · rw [if_pos e, e, List.getD_eq_getElem?_getD, List.getElem?_append_right (Nat.le_refl _), Nat.sub_self]; rfl
  · rw [if_neg e, hf i (by omega), List.getD_eq_getElem?_getD, List.getD_eq_getElem?_getD, List.getElem?_append_left (by omega)]
theorem chS_sI {h : pm_H} {c k : Nat} {g : Nat → Int32} (hs : chS h c) : chS (sI h k g) c := chS_eq (h := h) rfl rfl rfl hs
theorem rd_sI {h : pm_H} {t k : Nat} {X : List Nat} {z : Rz} {g : Nat → Int32} (h1 : k ≠ t) (h2 : k ≠ t + 1) (hr : rd h t X z) : rd (sI h k g) t X z := by
  obtain ⟨r0, r1, r2, r3, r4, r5, r6⟩ := hr
  refine ⟨r0, ?_, ?_, ?_, ?_, fun i hi => ?_, r6⟩
  · rw [hP1, va_up_ne _ _ (Ne.symm h1)]; exact r1
  · rw [hP1, va_up_ne _ _ (Ne.symm h1)]; exact r2
  · rw [hP1, va_up_ne _ _ (Ne.symm h1)]; exact r3
  · rw [hP1, va_up_ne _ _ (Ne.symm h1)]; exact r4
  · rw [hP1, va_up_ne _ _ (Ne.symm h2)]; exact r5 i hi
/-- the tape's numbers of reading and rows lo to hi changed -/
def frW (t lo hi : Nat) (h h' : pm_H) : Prop := hT h' = hT h ∧ hN h' = hN h ∧ hR h' = hR h ∧ hn h' = hn h ∧ hL h' = hL h ∧ (∀ k, k ≠ t → (k < lo ∨ hi ≤ k) → hI h' k = hI h k) ∧ ∀ j, j ≠ 2 → j ≠ 4 → j ≠ 5 → hI h' t j = hI h t j
theorem frW_R {t lo hi : Nat} {h h' : pm_H} (a : frR t h h') : frW t lo hi h h' := ⟨a.1, a.2.1, a.2.2.1, a.2.2.2.1, a.2.2.2.2.1, fun k q _ => a.2.2.2.2.2.1 k q, a.2.2.2.2.2.2⟩
theorem frW_trans {t lo hi : Nat} {h h1 h2 : pm_H} (a : frW t lo hi h h1) (b : frW t lo hi h1 h2) : frW t lo hi h h2 :=
  ⟨b.1.trans a.1, b.2.1.trans a.2.1, b.2.2.1.trans a.2.2.1, b.2.2.2.1.trans a.2.2.2.1, b.2.2.2.2.1.trans a.2.2.2.2.1, fun k q1 q2 => (b.2.2.2.2.2.1 k q1 q2).trans (a.2.2.2.2.2.1 k q1 q2), fun j q1 q2 q3 => (b.2.2.2.2.2.2 j q1 q2 q3).trans (a.2.2.2.2.2.2 j q1 q2 q3)⟩
theorem frW_sI {t lo hi k : Nat} {h : pm_H} {g : Nat → Int32} (h1 : lo ≤ k) (h2 : k < hi) (h3 : t < lo) : frW t lo hi h (sI h k g) :=
  ⟨rfl, rfl, rfl, rfl, rfl, fun j _ q => by rw [hP1, va_up_ne _ _ (by omega)], fun j _ _ _ => by rw [hP1, va_up_ne _ _ (by omega)]⟩
section CE
variable {h : pm_H} {t c : Nat} {X : List Nat} {z : Rz} {C : Cs} {Q : pm_Q}
theorem c204 (d : Nat) {p q : Nat} (hr : rd h t X (q, none)) (htc : t + 1 < c) (hs : chS h c) (hC : isCh h c C) (hO : chOK C) (hp : p ≤ 500)
    (hQ : ∀ h', rd h' t X (if C.1.length = 60 then (q, some (3, p)) else (edP X q).1) → chS h' c → isCh h' c (if C.1.length = 60 then C else (C.1 ++ [(edP X q).2], C.2.1, C.2.2)) → frW t c (c + 9) h h' → Q (.inl none) h') :
    pm_M PP (d + 4) 204 [.ref c, .ref t, .int (nI p)] h Q := by
  have hC0 := hC
  have hs0 := hs
  obtain ⟨a1, a2, a3, a4, a5, a6⟩ := hC
  obtain ⟨lE, lV, lR, _⟩ := hO
  have t0 := hr.1.1
  obtain ⟨s0, s1, s2, s3, s4, s5, s6, s7, s8, u1, u2, u3, u4, u5, u6, u7, u8, n1, n2, n3, n4, n5, n6, n7, n8⟩ := hs
  rw [e_204]
  by_cases cm : C.1.length = 60
  · rw [if_pos cm, if_pos cm] at hQ
    simp (disch := omega) only [u_204_0, B_204_0, nI1T, Nat.left_eq_add, Nat.add_eq_left, Nat.add_eq_zero_iff, and_false, false_and, if_false, if_true, opsN, opsC, pm_1, lg, ls1, ls2, lq, List.length_cons, List.length_nil, cN, cL, callE, retV, retN, pm_pop, pm_cat, List.map_cons, List.map_nil, List.sum_cons, List.sum_nil, Value.category, Option.toList, List.cons_append, List.nil_append, ↓reduceIte, reduceCtorEq, Nat.reduceAdd, Nat.reduceLT, Nat.reduceLeDiff, Nat.reduceSub, Nat.reduceEqDiff, Nat.zero_le, Nat.sub_zero, Nat.le_refl, true_and, and_true, not_true_eq_false, not_false_eq_true, true_or, or_true, lc_eq, lc_ne, lc_lt, lc_ge, lc_gt, lc_le, nI_add, lN_add, nI_leI, nI_ltI, nI_eq, nI_clamp, pk_lLT, pk_lLE, pk_lEQ, pk_sub, vp_inT, nz_eq, nz_lt, nz_ge, nz_gt, nz_le, lz_eq, lz_lt, lz_ge, hP1, hP2, hP3, hP4, hP5, hP6, hP7, hP8, hP9, hP10, hP11, hP12, hP13, hP14, hP15, hP16, hP17, hP18, hP19, hP20, s0, a1, a2, a3, cm, t0]
    refine c805 (d + 2) hr (by decide) (by decide) hp ?_
    intro h1 k1 f1
    simp (disch := omega) only [nI1T, Nat.left_eq_add, Nat.add_eq_left, Nat.add_eq_zero_iff, and_false, false_and, if_false, if_true, opsN, opsC, pm_1, lg, ls1, ls2, lq, List.length_cons, List.length_nil, cN, cL, callE, retV, retN, pm_pop, pm_cat, List.map_cons, List.map_nil, List.sum_cons, List.sum_nil, Value.category, Option.toList, List.cons_append, List.nil_append, ↓reduceIte, reduceCtorEq, Nat.reduceAdd, Nat.reduceLT, Nat.reduceLeDiff, Nat.reduceSub, Nat.reduceEqDiff, Nat.zero_le, Nat.sub_zero, Nat.le_refl, true_and, and_true, not_true_eq_false, not_false_eq_true, true_or, or_true, lc_eq, lc_ne, lc_lt, lc_ge, lc_gt, lc_le, nI_add, lN_add, nI_leI, nI_ltI, nI_eq, nI_clamp, pk_lLT, pk_lLE, pk_lEQ, pk_sub, vp_inT, nz_eq, nz_lt, nz_ge, nz_gt, nz_le, lz_eq, lz_lt, lz_ge, hP1, hP2, hP3, hP4, hP5, hP6, hP7, hP8, hP9, hP10, hP11, hP12, hP13, hP14, hP15, hP16, hP17, hP18, hP19, hP20]
    exact hQ h1 k1 (chS_eq f1.1 f1.2.1 (by rw [f1.2.2.1]) hs0) (isCh_eq (fun k q1 q2 => f1.2.2.2.2.2.1 k (by omega)) hC0) (frW_R f1)
  · rw [if_neg cm, if_neg cm] at hQ
    simp (disch := omega) only [u_204_0, B_204_0, u_204_16, B_204_16, nI1T, Nat.left_eq_add, Nat.add_eq_left, Nat.add_eq_zero_iff, and_false, false_and, if_false, if_true, opsN, opsC, pm_1, lg, ls1, ls2, lq, List.length_cons, List.length_nil, cN, cL, callE, retV, retN, pm_pop, pm_cat, List.map_cons, List.map_nil, List.sum_cons, List.sum_nil, Value.category, Option.toList, List.cons_append, List.nil_append, ↓reduceIte, reduceCtorEq, Nat.reduceAdd, Nat.reduceLT, Nat.reduceLeDiff, Nat.reduceSub, Nat.reduceEqDiff, Nat.zero_le, Nat.sub_zero, Nat.le_refl, true_and, and_true, not_true_eq_false, not_false_eq_true, true_or, or_true, lc_eq, lc_ne, lc_lt, lc_ge, lc_gt, lc_le, nI_add, lN_add, nI_leI, nI_ltI, nI_eq, nI_clamp, pk_lLT, pk_lLE, pk_lEQ, pk_sub, vp_inT, nz_eq, nz_lt, nz_ge, nz_gt, nz_le, lz_eq, lz_lt, lz_ge, hP1, hP2, hP3, hP4, hP5, hP6, hP7, hP8, hP9, hP10, hP11, hP12, hP13, hP14, hP15, hP16, hP17, hP18, hP19, hP20, s0, s1, s2, s3, s4, s5, s6, s7, s8, u1, u2, u3, u4, u5, u6, u7, u8, n1, n2, n3, n4, n5, n6, n7, n8, a1, a2, a3, cm, t0]
    refine c811 d hr (by decide) ?_
    intro h1 k1 f1
    have i1 : hI h1 c = hI h c := f1.2.2.2.2.2.1 c (by omega)
    have T1 : hT h1 = hT h := f1.1
    have N1 : hN h1 = hN h := f1.2.1
    have R1 : hR h1 = hR h := f1.2.2.1
    simp (disch := omega) only [nI1T, Nat.left_eq_add, Nat.add_eq_left, Nat.add_eq_zero_iff, and_false, false_and, if_false, if_true, opsN, opsC, pm_1, lg, ls1, ls2, lq, List.length_cons, List.length_nil, cN, cL, callE, retV, retN, pm_pop, pm_cat, List.map_cons, List.map_nil, List.sum_cons, List.sum_nil, Value.category, Option.toList, List.cons_append, List.nil_append, ↓reduceIte, reduceCtorEq, Nat.reduceAdd, Nat.reduceLT, Nat.reduceLeDiff, Nat.reduceSub, Nat.reduceEqDiff, Nat.zero_le, Nat.sub_zero, Nat.le_refl, true_and, and_true, not_true_eq_false, not_false_eq_true, true_or, or_true, lc_eq, lc_ne, lc_lt, lc_ge, lc_gt, lc_le, nI_add, lN_add, nI_leI, nI_ltI, nI_eq, nI_clamp, pk_lLT, pk_lLE, pk_lEQ, pk_sub, vp_inT, nz_eq, nz_lt, nz_ge, nz_gt, nz_le, lz_eq, lz_lt, lz_ge, hP1, hP2, hP3, hP4, hP5, hP6, hP7, hP8, hP9, hP10, hP11, hP12, hP13, hP14, hP15, hP16, hP17, hP18, hP19, hP20, s0, s1, s2, s3, s4, s5, s6, s7, s8, u1, u2, u3, u4, u5, u6, u7, u8, n1, n2, n3, n4, n5, n6, n7, n8, T1, N1, R1, i1, a1, a2, a3, t0, va_upE]
    refine c811 d (rd_sI (by omega) (by omega) k1) (by decide) ?_
    intro h2 k2 f2
    have i2 : hI h2 c = hI h c := by rw [f2.2.2.2.2.2.1 c (by omega), hP1, va_up_ne _ _ (by omega)]; exact i1
    have T2 : hT h2 = hT h := f2.1.trans T1
    have N2 : hN h2 = hN h := f2.2.1.trans N1
    have R2 : hR h2 = hR h := f2.2.2.1.trans R1
    simp (disch := omega) only [nI1T, Nat.left_eq_add, Nat.add_eq_left, Nat.add_eq_zero_iff, and_false, false_and, if_false, if_true, opsN, opsC, pm_1, lg, ls1, ls2, lq, List.length_cons, List.length_nil, cN, cL, callE, retV, retN, pm_pop, pm_cat, List.map_cons, List.map_nil, List.sum_cons, List.sum_nil, Value.category, Option.toList, List.cons_append, List.nil_append, ↓reduceIte, reduceCtorEq, Nat.reduceAdd, Nat.reduceLT, Nat.reduceLeDiff, Nat.reduceSub, Nat.reduceEqDiff, Nat.zero_le, Nat.sub_zero, Nat.le_refl, true_and, and_true, not_true_eq_false, not_false_eq_true, true_or, or_true, lc_eq, lc_ne, lc_lt, lc_ge, lc_gt, lc_le, nI_add, lN_add, nI_leI, nI_ltI, nI_eq, nI_clamp, pk_lLT, pk_lLE, pk_lEQ, pk_sub, vp_inT, nz_eq, nz_lt, nz_ge, nz_gt, nz_le, lz_eq, lz_lt, lz_ge, hP1, hP2, hP3, hP4, hP5, hP6, hP7, hP8, hP9, hP10, hP11, hP12, hP13, hP14, hP15, hP16, hP17, hP18, hP19, hP20, s0, s1, s2, s3, s4, s5, s6, s7, s8, u1, u2, u3, u4, u5, u6, u7, u8, n1, n2, n3, n4, n5, n6, n7, n8, T2, N2, R2, i2, a1, a2, a3, t0, va_upE]
    refine c811 d (rd_sI (by omega) (by omega) k2) (by decide) ?_
    intro h3 k3 f3
    have i3 : hI h3 c = hI h c := by rw [f3.2.2.2.2.2.1 c (by omega), hP1, va_up_ne _ _ (by omega)]; exact i2
    have T3 : hT h3 = hT h := f3.1.trans T2
    have N3 : hN h3 = hN h := f3.2.1.trans N2
    have R3 : hR h3 = hR h := f3.2.2.1.trans R2
    simp (disch := omega) only [nI1T, Nat.left_eq_add, Nat.add_eq_left, Nat.add_eq_zero_iff, and_false, false_and, if_false, if_true, opsN, opsC, pm_1, lg, ls1, ls2, lq, List.length_cons, List.length_nil, cN, cL, callE, retV, retN, pm_pop, pm_cat, List.map_cons, List.map_nil, List.sum_cons, List.sum_nil, Value.category, Option.toList, List.cons_append, List.nil_append, ↓reduceIte, reduceCtorEq, Nat.reduceAdd, Nat.reduceLT, Nat.reduceLeDiff, Nat.reduceSub, Nat.reduceEqDiff, Nat.zero_le, Nat.sub_zero, Nat.le_refl, true_and, and_true, not_true_eq_false, not_false_eq_true, true_or, or_true, lc_eq, lc_ne, lc_lt, lc_ge, lc_gt, lc_le, nI_add, lN_add, nI_leI, nI_ltI, nI_eq, nI_clamp, pk_lLT, pk_lLE, pk_lEQ, pk_sub, vp_inT, nz_eq, nz_lt, nz_ge, nz_gt, nz_le, lz_eq, lz_lt, lz_ge, hP1, hP2, hP3, hP4, hP5, hP6, hP7, hP8, hP9, hP10, hP11, hP12, hP13, hP14, hP15, hP16, hP17, hP18, hP19, hP20, s0, s1, s2, s3, s4, s5, s6, s7, s8, u1, u2, u3, u4, u5, u6, u7, u8, n1, n2, n3, n4, n5, n6, n7, n8, T3, N3, R3, i3, a1, a2, a3, t0, va_upE]
    refine hQ _ (rd_sI (by omega) (by omega) (rd_sI (by omega) (by omega) k3)) (chS_sI (chS_sI (chS_eq T3 N3 (by rw [R3]) hs0))) ?_ ?_
    · have hrow : ∀ j, j < 9 → j ≠ 0 → j ≠ 1 → j ≠ 2 → j ≠ 3 → hI h3 (c + j) = hI h (c + j) := fun j j1 j2 j4 j5 j6 => by
        rw [f3.2.2.2.2.2.1 _ (by omega), hP1, va_up_ne _ _ (by omega), f2.2.2.2.2.2.1 _ (by omega), hP1, va_up_ne _ _ (by omega), f1.2.2.2.2.2.1 _ (by omega)]
      have w1 : hI h3 (c + 1) = va_up (hI h (c + 1)) C.1.length (nI ((edP X q).2.1)) := by
        rw [f3.2.2.2.2.2.1 _ (by omega), hP1, va_up_ne _ _ (by omega), f2.2.2.2.2.2.1 _ (by omega), hP1, va_up_self, f1.2.2.2.2.2.1 _ (by omega)]; rfl
      have w2 : hI h3 (c + 2) = va_up (hI h (c + 2)) C.1.length (nI ((edP X q).2.2.1)) := by
        rw [f3.2.2.2.2.2.1 _ (by omega), hP1, va_up_self, f2.2.2.2.2.2.1 _ (by omega), hP1, va_up_ne _ _ (by omega), f1.2.2.2.2.2.1 _ (by omega)]; rfl
      have w3 : hI h3 (c + 3) = hI h (c + 3) := by
        rw [f3.2.2.2.2.2.1 _ (by omega), hP1, va_up_ne _ _ (by omega), f2.2.2.2.2.2.1 _ (by omega), hP1, va_up_ne _ _ (by omega), f1.2.2.2.2.2.1 _ (by omega)]
      generalize h3 = g at i3 hrow w1 w2 w3 ⊢
      refine ⟨?_, ?_, ?_, fun i hi => ?_, fun i hi => ?_, fun i hi => ?_⟩
      · rw [hP1, va_up_self, va_up_self]; show nI (C.1.length + 1) = nI (_ ++ [_]).length; rw [List.length_append]; rfl
      · rw [hP1, va_up_self, va_up_ne _ _ (by omega)]; exact a2
      · rw [hP1, va_up_self, va_up_ne _ _ (by omega)]; exact a3
      · refine ⟨?_, ?_, ?_⟩
        · rw [hP1, va_up_ne _ _ (by omega), hP1, va_up_ne _ _ (by omega), w1]
          exact app_row (π := fun e => e.1) (fun i hi => (a4 i hi).1) i hi
        · rw [hP1, va_up_ne _ _ (by omega), hP1, va_up_ne _ _ (by omega), w2]
          exact app_row (π := fun e => e.2.1) (fun i hi => (a4 i hi).2.1) i hi
        · rw [hP1, va_up_ne _ _ (by omega), hP1, va_up_self]; (try rw [w3])
          exact app_row (π := fun e => e.2.2) (fun i hi => (a4 i hi).2.2) i hi
      · rw [hP1, hP1, va_up_ne _ _ (show c + 4 ≠ c by omega), va_up_ne _ _ (show c + 4 ≠ c + 3 by omega), hrow 4 (by decide) (by decide) (by decide) (by decide) (by decide), va_up_ne _ _ (show c + 5 ≠ c by omega), va_up_ne _ _ (show c + 5 ≠ c + 3 by omega), hrow 5 (by decide) (by decide) (by decide) (by decide) (by decide)]; exact a5 i hi
      · rw [hP1, hP1, va_up_ne _ _ (show c + 6 ≠ c by omega), va_up_ne _ _ (show c + 6 ≠ c + 3 by omega), hrow 6 (by decide) (by decide) (by decide) (by decide) (by decide), va_up_ne _ _ (show c + 7 ≠ c by omega), va_up_ne _ _ (show c + 7 ≠ c + 3 by omega), hrow 7 (by decide) (by decide) (by decide) (by decide) (by decide), va_up_ne _ _ (show c + 8 ≠ c by omega), va_up_ne _ _ (show c + 8 ≠ c + 3 by omega), hrow 8 (by decide) (by decide) (by decide) (by decide) (by decide)]; exact a6 i hi
    · refine frW_trans (frW_R f1) ?_
      refine frW_trans (frW_sI (by omega) (by omega) (by omega)) (frW_trans (frW_R f2) ?_)
      refine frW_trans (frW_sI (by omega) (by omega) (by omega)) (frW_trans (frW_R f3) ?_)
      exact frW_trans (frW_sI (by omega) (by omega) (by omega)) (frW_sI (by omega) (by omega) (by omega))
theorem c205 (d : Nat) {p q : Nat} (hr : rd h t X (q, none)) (htc : t + 1 < c) (hs : chS h c) (hC : isCh h c C) (hO : chOK C) (hp : p ≤ 500)
    (hQ : ∀ h', rd h' t X (if C.2.1.length = 12 then (q, some (3, p)) else (evP X q).1) → chS h' c → isCh h' c (if C.2.1.length = 12 then C else (C.1, C.2.1 ++ [(evP X q).2], C.2.2)) → frW t c (c + 9) h h' → Q (.inl none) h') :
    pm_M PP (d + 4) 205 [.ref c, .ref t, .int (nI p)] h Q := by
  have hC0 := hC
  have hs0 := hs
  obtain ⟨a1, a2, a3, a4, a5, a6⟩ := hC
  obtain ⟨lE, lV, lR, _⟩ := hO
  have t0 := hr.1.1
  obtain ⟨s0, s1, s2, s3, s4, s5, s6, s7, s8, u1, u2, u3, u4, u5, u6, u7, u8, n1, n2, n3, n4, n5, n6, n7, n8⟩ := hs
  rw [e_205]
  by_cases cm : C.2.1.length = 12
  · rw [if_pos cm, if_pos cm] at hQ
    simp (disch := omega) only [u_205_0, B_205_0, nI1T, Nat.left_eq_add, Nat.add_eq_left, Nat.add_eq_zero_iff, and_false, false_and, if_false, if_true, opsN, opsC, pm_1, lg, ls1, ls2, lq, List.length_cons, List.length_nil, cN, cL, callE, retV, retN, pm_pop, pm_cat, List.map_cons, List.map_nil, List.sum_cons, List.sum_nil, Value.category, Option.toList, List.cons_append, List.nil_append, ↓reduceIte, reduceCtorEq, Nat.reduceAdd, Nat.reduceLT, Nat.reduceLeDiff, Nat.reduceSub, Nat.reduceEqDiff, Nat.zero_le, Nat.sub_zero, Nat.le_refl, true_and, and_true, not_true_eq_false, not_false_eq_true, true_or, or_true, lc_eq, lc_ne, lc_lt, lc_ge, lc_gt, lc_le, nI_add, lN_add, nI_leI, nI_ltI, nI_eq, nI_clamp, pk_lLT, pk_lLE, pk_lEQ, pk_sub, vp_inT, nz_eq, nz_lt, nz_ge, nz_gt, nz_le, lz_eq, lz_lt, lz_ge, hP1, hP2, hP3, hP4, hP5, hP6, hP7, hP8, hP9, hP10, hP11, hP12, hP13, hP14, hP15, hP16, hP17, hP18, hP19, hP20, s0, a1, a2, a3, cm, t0]
    refine c805 (d + 2) hr (by decide) (by decide) hp ?_
    intro h1 k1 f1
    simp (disch := omega) only [nI1T, Nat.left_eq_add, Nat.add_eq_left, Nat.add_eq_zero_iff, and_false, false_and, if_false, if_true, opsN, opsC, pm_1, lg, ls1, ls2, lq, List.length_cons, List.length_nil, cN, cL, callE, retV, retN, pm_pop, pm_cat, List.map_cons, List.map_nil, List.sum_cons, List.sum_nil, Value.category, Option.toList, List.cons_append, List.nil_append, ↓reduceIte, reduceCtorEq, Nat.reduceAdd, Nat.reduceLT, Nat.reduceLeDiff, Nat.reduceSub, Nat.reduceEqDiff, Nat.zero_le, Nat.sub_zero, Nat.le_refl, true_and, and_true, not_true_eq_false, not_false_eq_true, true_or, or_true, lc_eq, lc_ne, lc_lt, lc_ge, lc_gt, lc_le, nI_add, lN_add, nI_leI, nI_ltI, nI_eq, nI_clamp, pk_lLT, pk_lLE, pk_lEQ, pk_sub, vp_inT, nz_eq, nz_lt, nz_ge, nz_gt, nz_le, lz_eq, lz_lt, lz_ge, hP1, hP2, hP3, hP4, hP5, hP6, hP7, hP8, hP9, hP10, hP11, hP12, hP13, hP14, hP15, hP16, hP17, hP18, hP19, hP20]
    exact hQ h1 k1 (chS_eq f1.1 f1.2.1 (by rw [f1.2.2.1]) hs0) (isCh_eq (fun k q1 q2 => f1.2.2.2.2.2.1 k (by omega)) hC0) (frW_R f1)
  · rw [if_neg cm, if_neg cm] at hQ
    simp (disch := omega) only [u_205_0, B_205_0, u_205_16, B_205_16, nI1T, Nat.left_eq_add, Nat.add_eq_left, Nat.add_eq_zero_iff, and_false, false_and, if_false, if_true, opsN, opsC, pm_1, lg, ls1, ls2, lq, List.length_cons, List.length_nil, cN, cL, callE, retV, retN, pm_pop, pm_cat, List.map_cons, List.map_nil, List.sum_cons, List.sum_nil, Value.category, Option.toList, List.cons_append, List.nil_append, ↓reduceIte, reduceCtorEq, Nat.reduceAdd, Nat.reduceLT, Nat.reduceLeDiff, Nat.reduceSub, Nat.reduceEqDiff, Nat.zero_le, Nat.sub_zero, Nat.le_refl, true_and, and_true, not_true_eq_false, not_false_eq_true, true_or, or_true, lc_eq, lc_ne, lc_lt, lc_ge, lc_gt, lc_le, nI_add, lN_add, nI_leI, nI_ltI, nI_eq, nI_clamp, pk_lLT, pk_lLE, pk_lEQ, pk_sub, vp_inT, nz_eq, nz_lt, nz_ge, nz_gt, nz_le, lz_eq, lz_lt, lz_ge, hP1, hP2, hP3, hP4, hP5, hP6, hP7, hP8, hP9, hP10, hP11, hP12, hP13, hP14, hP15, hP16, hP17, hP18, hP19, hP20, s0, s1, s2, s3, s4, s5, s6, s7, s8, u1, u2, u3, u4, u5, u6, u7, u8, n1, n2, n3, n4, n5, n6, n7, n8, a1, a2, a3, cm, t0]
    refine c812 d hr ?_
    intro h1 k1 f1
    have i1 : hI h1 c = hI h c := f1.2.2.2.2.2.1 c (by omega)
    have T1 : hT h1 = hT h := f1.1
    have N1 : hN h1 = hN h := f1.2.1
    have R1 : hR h1 = hR h := f1.2.2.1
    simp (disch := omega) only [nI1T, Nat.left_eq_add, Nat.add_eq_left, Nat.add_eq_zero_iff, and_false, false_and, if_false, if_true, opsN, opsC, pm_1, lg, ls1, ls2, lq, List.length_cons, List.length_nil, cN, cL, callE, retV, retN, pm_pop, pm_cat, List.map_cons, List.map_nil, List.sum_cons, List.sum_nil, Value.category, Option.toList, List.cons_append, List.nil_append, ↓reduceIte, reduceCtorEq, Nat.reduceAdd, Nat.reduceLT, Nat.reduceLeDiff, Nat.reduceSub, Nat.reduceEqDiff, Nat.zero_le, Nat.sub_zero, Nat.le_refl, true_and, and_true, not_true_eq_false, not_false_eq_true, true_or, or_true, lc_eq, lc_ne, lc_lt, lc_ge, lc_gt, lc_le, nI_add, lN_add, nI_leI, nI_ltI, nI_eq, nI_clamp, pk_lLT, pk_lLE, pk_lEQ, pk_sub, vp_inT, nz_eq, nz_lt, nz_ge, nz_gt, nz_le, lz_eq, lz_lt, lz_ge, hP1, hP2, hP3, hP4, hP5, hP6, hP7, hP8, hP9, hP10, hP11, hP12, hP13, hP14, hP15, hP16, hP17, hP18, hP19, hP20, s0, s1, s2, s3, s4, s5, s6, s7, s8, u1, u2, u3, u4, u5, u6, u7, u8, n1, n2, n3, n4, n5, n6, n7, n8, T1, N1, R1, i1, a1, a2, a3, t0, va_upE]
    refine c811 d (rd_sI (by omega) (by omega) k1) (by decide) ?_
    intro h2 k2 f2
    have i2 : hI h2 c = hI h c := by rw [f2.2.2.2.2.2.1 c (by omega), hP1, va_up_ne _ _ (by omega)]; exact i1
    have T2 : hT h2 = hT h := f2.1.trans T1
    have N2 : hN h2 = hN h := f2.2.1.trans N1
    have R2 : hR h2 = hR h := f2.2.2.1.trans R1
    simp (disch := omega) only [nI1T, Nat.left_eq_add, Nat.add_eq_left, Nat.add_eq_zero_iff, and_false, false_and, if_false, if_true, opsN, opsC, pm_1, lg, ls1, ls2, lq, List.length_cons, List.length_nil, cN, cL, callE, retV, retN, pm_pop, pm_cat, List.map_cons, List.map_nil, List.sum_cons, List.sum_nil, Value.category, Option.toList, List.cons_append, List.nil_append, ↓reduceIte, reduceCtorEq, Nat.reduceAdd, Nat.reduceLT, Nat.reduceLeDiff, Nat.reduceSub, Nat.reduceEqDiff, Nat.zero_le, Nat.sub_zero, Nat.le_refl, true_and, and_true, not_true_eq_false, not_false_eq_true, true_or, or_true, lc_eq, lc_ne, lc_lt, lc_ge, lc_gt, lc_le, nI_add, lN_add, nI_leI, nI_ltI, nI_eq, nI_clamp, pk_lLT, pk_lLE, pk_lEQ, pk_sub, vp_inT, nz_eq, nz_lt, nz_ge, nz_gt, nz_le, lz_eq, lz_lt, lz_ge, hP1, hP2, hP3, hP4, hP5, hP6, hP7, hP8, hP9, hP10, hP11, hP12, hP13, hP14, hP15, hP16, hP17, hP18, hP19, hP20, s0, s1, s2, s3, s4, s5, s6, s7, s8, u1, u2, u3, u4, u5, u6, u7, u8, n1, n2, n3, n4, n5, n6, n7, n8, T2, N2, R2, i2, a1, a2, a3, t0, va_upE]
    refine hQ _ (rd_sI (by omega) (by omega) (rd_sI (by omega) (by omega) k2)) (chS_sI (chS_sI (chS_eq T2 N2 (by rw [R2]) hs0))) ?_ ?_
    · have hrow : ∀ j, j < 9 → j ≠ 0 → j ≠ 4 → j ≠ 5 → hI h2 (c + j) = hI h (c + j) := fun j j1 j2 j7 j8 => by
        rw [f2.2.2.2.2.2.1 _ (by omega), hP1, va_up_ne _ _ (by omega), f1.2.2.2.2.2.1 _ (by omega)]
      have w1 : hI h2 (c + 4) = va_up (hI h (c + 4)) C.2.1.length (nI ((evP X q).2.1)) := by
        rw [f2.2.2.2.2.2.1 _ (by omega), hP1, va_up_self, f1.2.2.2.2.2.1 _ (by omega)]; rfl
      have w2 : hI h2 (c + 5) = hI h (c + 5) := by
        rw [f2.2.2.2.2.2.1 _ (by omega), hP1, va_up_ne _ _ (by omega), f1.2.2.2.2.2.1 _ (by omega)]
      generalize h2 = g at i2 hrow w1 w2 ⊢
      refine ⟨?_, ?_, ?_, fun i hi => ?_, fun i hi => ?_, fun i hi => ?_⟩
      · rw [hP1, va_up_self, va_up_ne _ _ (by omega)]; exact a1
      · rw [hP1, va_up_self, va_up_self]; show nI (C.2.1.length + 1) = nI (_ ++ [_]).length; rw [List.length_append]; rfl
      · rw [hP1, va_up_self, va_up_ne _ _ (by omega)]; exact a3
      · rw [hP1, hP1, va_up_ne _ _ (show c + 1 ≠ c by omega), va_up_ne _ _ (show c + 1 ≠ c + 5 by omega), hrow 1 (by decide) (by decide) (by decide) (by decide), va_up_ne _ _ (show c + 2 ≠ c by omega), va_up_ne _ _ (show c + 2 ≠ c + 5 by omega), hrow 2 (by decide) (by decide) (by decide) (by decide), va_up_ne _ _ (show c + 3 ≠ c by omega), va_up_ne _ _ (show c + 3 ≠ c + 5 by omega), hrow 3 (by decide) (by decide) (by decide) (by decide)]; exact a4 i hi
      · refine ⟨?_, ?_⟩
        · rw [hP1, va_up_ne _ _ (by omega), hP1, va_up_ne _ _ (by omega), w1]
          exact app_row (π := fun e => e.1) (fun i hi => (a5 i hi).1) i hi
        · rw [hP1, va_up_ne _ _ (by omega), hP1, va_up_self]; (try rw [w2])
          exact app_row (π := fun e => e.2) (fun i hi => (a5 i hi).2) i hi
      · rw [hP1, hP1, va_up_ne _ _ (show c + 6 ≠ c by omega), va_up_ne _ _ (show c + 6 ≠ c + 5 by omega), hrow 6 (by decide) (by decide) (by decide) (by decide), va_up_ne _ _ (show c + 7 ≠ c by omega), va_up_ne _ _ (show c + 7 ≠ c + 5 by omega), hrow 7 (by decide) (by decide) (by decide) (by decide), va_up_ne _ _ (show c + 8 ≠ c by omega), va_up_ne _ _ (show c + 8 ≠ c + 5 by omega), hrow 8 (by decide) (by decide) (by decide) (by decide)]; exact a6 i hi
    · refine frW_trans (frW_R f1) ?_
      refine frW_trans (frW_sI (by omega) (by omega) (by omega)) (frW_trans (frW_R f2) ?_)
      exact frW_trans (frW_sI (by omega) (by omega) (by omega)) (frW_sI (by omega) (by omega) (by omega))
theorem c206 (d : Nat) {p q : Nat} (hr : rd h t X (q, none)) (htc : t + 1 < c) (hs : chS h c) (hC : isCh h c C) (hO : chOK C) (hp : p ≤ 500)
    (hQ : ∀ h', rd h' t X (if C.2.2.length = 16 then (q, some (3, p)) else (ruP X q).1) → chS h' c → isCh h' c (if C.2.2.length = 16 then C else (C.1, C.2.1, C.2.2 ++ [(ruP X q).2])) → frW t c (c + 9) h h' → Q (.inl none) h') :
    pm_M PP (d + 4) 206 [.ref c, .ref t, .int (nI p)] h Q := by
  have hC0 := hC
  have hs0 := hs
  obtain ⟨a1, a2, a3, a4, a5, a6⟩ := hC
  obtain ⟨lE, lV, lR, _⟩ := hO
  have t0 := hr.1.1
  obtain ⟨s0, s1, s2, s3, s4, s5, s6, s7, s8, u1, u2, u3, u4, u5, u6, u7, u8, n1, n2, n3, n4, n5, n6, n7, n8⟩ := hs
  rw [e_206]
  by_cases cm : C.2.2.length = 16
  · rw [if_pos cm, if_pos cm] at hQ
    simp (disch := omega) only [u_206_0, B_206_0, nI1T, Nat.left_eq_add, Nat.add_eq_left, Nat.add_eq_zero_iff, and_false, false_and, if_false, if_true, opsN, opsC, pm_1, lg, ls1, ls2, lq, List.length_cons, List.length_nil, cN, cL, callE, retV, retN, pm_pop, pm_cat, List.map_cons, List.map_nil, List.sum_cons, List.sum_nil, Value.category, Option.toList, List.cons_append, List.nil_append, ↓reduceIte, reduceCtorEq, Nat.reduceAdd, Nat.reduceLT, Nat.reduceLeDiff, Nat.reduceSub, Nat.reduceEqDiff, Nat.zero_le, Nat.sub_zero, Nat.le_refl, true_and, and_true, not_true_eq_false, not_false_eq_true, true_or, or_true, lc_eq, lc_ne, lc_lt, lc_ge, lc_gt, lc_le, nI_add, lN_add, nI_leI, nI_ltI, nI_eq, nI_clamp, pk_lLT, pk_lLE, pk_lEQ, pk_sub, vp_inT, nz_eq, nz_lt, nz_ge, nz_gt, nz_le, lz_eq, lz_lt, lz_ge, hP1, hP2, hP3, hP4, hP5, hP6, hP7, hP8, hP9, hP10, hP11, hP12, hP13, hP14, hP15, hP16, hP17, hP18, hP19, hP20, s0, a1, a2, a3, cm, t0]
    refine c805 (d + 2) hr (by decide) (by decide) hp ?_
    intro h1 k1 f1
    simp (disch := omega) only [nI1T, Nat.left_eq_add, Nat.add_eq_left, Nat.add_eq_zero_iff, and_false, false_and, if_false, if_true, opsN, opsC, pm_1, lg, ls1, ls2, lq, List.length_cons, List.length_nil, cN, cL, callE, retV, retN, pm_pop, pm_cat, List.map_cons, List.map_nil, List.sum_cons, List.sum_nil, Value.category, Option.toList, List.cons_append, List.nil_append, ↓reduceIte, reduceCtorEq, Nat.reduceAdd, Nat.reduceLT, Nat.reduceLeDiff, Nat.reduceSub, Nat.reduceEqDiff, Nat.zero_le, Nat.sub_zero, Nat.le_refl, true_and, and_true, not_true_eq_false, not_false_eq_true, true_or, or_true, lc_eq, lc_ne, lc_lt, lc_ge, lc_gt, lc_le, nI_add, lN_add, nI_leI, nI_ltI, nI_eq, nI_clamp, pk_lLT, pk_lLE, pk_lEQ, pk_sub, vp_inT, nz_eq, nz_lt, nz_ge, nz_gt, nz_le, lz_eq, lz_lt, lz_ge, hP1, hP2, hP3, hP4, hP5, hP6, hP7, hP8, hP9, hP10, hP11, hP12, hP13, hP14, hP15, hP16, hP17, hP18, hP19, hP20]
    exact hQ h1 k1 (chS_eq f1.1 f1.2.1 (by rw [f1.2.2.1]) hs0) (isCh_eq (fun k q1 q2 => f1.2.2.2.2.2.1 k (by omega)) hC0) (frW_R f1)
  · rw [if_neg cm, if_neg cm] at hQ
    simp (disch := omega) only [u_206_0, B_206_0, u_206_16, B_206_16, nI1T, Nat.left_eq_add, Nat.add_eq_left, Nat.add_eq_zero_iff, and_false, false_and, if_false, if_true, opsN, opsC, pm_1, lg, ls1, ls2, lq, List.length_cons, List.length_nil, cN, cL, callE, retV, retN, pm_pop, pm_cat, List.map_cons, List.map_nil, List.sum_cons, List.sum_nil, Value.category, Option.toList, List.cons_append, List.nil_append, ↓reduceIte, reduceCtorEq, Nat.reduceAdd, Nat.reduceLT, Nat.reduceLeDiff, Nat.reduceSub, Nat.reduceEqDiff, Nat.zero_le, Nat.sub_zero, Nat.le_refl, true_and, and_true, not_true_eq_false, not_false_eq_true, true_or, or_true, lc_eq, lc_ne, lc_lt, lc_ge, lc_gt, lc_le, nI_add, lN_add, nI_leI, nI_ltI, nI_eq, nI_clamp, pk_lLT, pk_lLE, pk_lEQ, pk_sub, vp_inT, nz_eq, nz_lt, nz_ge, nz_gt, nz_le, lz_eq, lz_lt, lz_ge, hP1, hP2, hP3, hP4, hP5, hP6, hP7, hP8, hP9, hP10, hP11, hP12, hP13, hP14, hP15, hP16, hP17, hP18, hP19, hP20, s0, s1, s2, s3, s4, s5, s6, s7, s8, u1, u2, u3, u4, u5, u6, u7, u8, n1, n2, n3, n4, n5, n6, n7, n8, a1, a2, a3, cm, t0]
    refine c812 d hr ?_
    intro h1 k1 f1
    have i1 : hI h1 c = hI h c := f1.2.2.2.2.2.1 c (by omega)
    have T1 : hT h1 = hT h := f1.1
    have N1 : hN h1 = hN h := f1.2.1
    have R1 : hR h1 = hR h := f1.2.2.1
    simp (disch := omega) only [nI1T, Nat.left_eq_add, Nat.add_eq_left, Nat.add_eq_zero_iff, and_false, false_and, if_false, if_true, opsN, opsC, pm_1, lg, ls1, ls2, lq, List.length_cons, List.length_nil, cN, cL, callE, retV, retN, pm_pop, pm_cat, List.map_cons, List.map_nil, List.sum_cons, List.sum_nil, Value.category, Option.toList, List.cons_append, List.nil_append, ↓reduceIte, reduceCtorEq, Nat.reduceAdd, Nat.reduceLT, Nat.reduceLeDiff, Nat.reduceSub, Nat.reduceEqDiff, Nat.zero_le, Nat.sub_zero, Nat.le_refl, true_and, and_true, not_true_eq_false, not_false_eq_true, true_or, or_true, lc_eq, lc_ne, lc_lt, lc_ge, lc_gt, lc_le, nI_add, lN_add, nI_leI, nI_ltI, nI_eq, nI_clamp, pk_lLT, pk_lLE, pk_lEQ, pk_sub, vp_inT, nz_eq, nz_lt, nz_ge, nz_gt, nz_le, lz_eq, lz_lt, lz_ge, hP1, hP2, hP3, hP4, hP5, hP6, hP7, hP8, hP9, hP10, hP11, hP12, hP13, hP14, hP15, hP16, hP17, hP18, hP19, hP20, s0, s1, s2, s3, s4, s5, s6, s7, s8, u1, u2, u3, u4, u5, u6, u7, u8, n1, n2, n3, n4, n5, n6, n7, n8, T1, N1, R1, i1, a1, a2, a3, t0, va_upE]
    refine c811 d (rd_sI (by omega) (by omega) k1) (by decide) ?_
    intro h2 k2 f2
    have i2 : hI h2 c = hI h c := by rw [f2.2.2.2.2.2.1 c (by omega), hP1, va_up_ne _ _ (by omega)]; exact i1
    have T2 : hT h2 = hT h := f2.1.trans T1
    have N2 : hN h2 = hN h := f2.2.1.trans N1
    have R2 : hR h2 = hR h := f2.2.2.1.trans R1
    simp (disch := omega) only [nI1T, Nat.left_eq_add, Nat.add_eq_left, Nat.add_eq_zero_iff, and_false, false_and, if_false, if_true, opsN, opsC, pm_1, lg, ls1, ls2, lq, List.length_cons, List.length_nil, cN, cL, callE, retV, retN, pm_pop, pm_cat, List.map_cons, List.map_nil, List.sum_cons, List.sum_nil, Value.category, Option.toList, List.cons_append, List.nil_append, ↓reduceIte, reduceCtorEq, Nat.reduceAdd, Nat.reduceLT, Nat.reduceLeDiff, Nat.reduceSub, Nat.reduceEqDiff, Nat.zero_le, Nat.sub_zero, Nat.le_refl, true_and, and_true, not_true_eq_false, not_false_eq_true, true_or, or_true, lc_eq, lc_ne, lc_lt, lc_ge, lc_gt, lc_le, nI_add, lN_add, nI_leI, nI_ltI, nI_eq, nI_clamp, pk_lLT, pk_lLE, pk_lEQ, pk_sub, vp_inT, nz_eq, nz_lt, nz_ge, nz_gt, nz_le, lz_eq, lz_lt, lz_ge, hP1, hP2, hP3, hP4, hP5, hP6, hP7, hP8, hP9, hP10, hP11, hP12, hP13, hP14, hP15, hP16, hP17, hP18, hP19, hP20, s0, s1, s2, s3, s4, s5, s6, s7, s8, u1, u2, u3, u4, u5, u6, u7, u8, n1, n2, n3, n4, n5, n6, n7, n8, T2, N2, R2, i2, a1, a2, a3, t0, va_upE]
    refine c812 d (rd_sI (by omega) (by omega) k2) ?_
    intro h3 k3 f3
    have i3 : hI h3 c = hI h c := by rw [f3.2.2.2.2.2.1 c (by omega), hP1, va_up_ne _ _ (by omega)]; exact i2
    have T3 : hT h3 = hT h := f3.1.trans T2
    have N3 : hN h3 = hN h := f3.2.1.trans N2
    have R3 : hR h3 = hR h := f3.2.2.1.trans R2
    simp (disch := omega) only [nI1T, Nat.left_eq_add, Nat.add_eq_left, Nat.add_eq_zero_iff, and_false, false_and, if_false, if_true, opsN, opsC, pm_1, lg, ls1, ls2, lq, List.length_cons, List.length_nil, cN, cL, callE, retV, retN, pm_pop, pm_cat, List.map_cons, List.map_nil, List.sum_cons, List.sum_nil, Value.category, Option.toList, List.cons_append, List.nil_append, ↓reduceIte, reduceCtorEq, Nat.reduceAdd, Nat.reduceLT, Nat.reduceLeDiff, Nat.reduceSub, Nat.reduceEqDiff, Nat.zero_le, Nat.sub_zero, Nat.le_refl, true_and, and_true, not_true_eq_false, not_false_eq_true, true_or, or_true, lc_eq, lc_ne, lc_lt, lc_ge, lc_gt, lc_le, nI_add, lN_add, nI_leI, nI_ltI, nI_eq, nI_clamp, pk_lLT, pk_lLE, pk_lEQ, pk_sub, vp_inT, nz_eq, nz_lt, nz_ge, nz_gt, nz_le, lz_eq, lz_lt, lz_ge, hP1, hP2, hP3, hP4, hP5, hP6, hP7, hP8, hP9, hP10, hP11, hP12, hP13, hP14, hP15, hP16, hP17, hP18, hP19, hP20, s0, s1, s2, s3, s4, s5, s6, s7, s8, u1, u2, u3, u4, u5, u6, u7, u8, n1, n2, n3, n4, n5, n6, n7, n8, T3, N3, R3, i3, a1, a2, a3, t0, va_upE]
    refine hQ _ (rd_sI (by omega) (by omega) (rd_sI (by omega) (by omega) k3)) (chS_sI (chS_sI (chS_eq T3 N3 (by rw [R3]) hs0))) ?_ ?_
    · have hrow : ∀ j, j < 9 → j ≠ 0 → j ≠ 6 → j ≠ 7 → j ≠ 8 → hI h3 (c + j) = hI h (c + j) := fun j j1 j2 j9 j10 j11 => by
        rw [f3.2.2.2.2.2.1 _ (by omega), hP1, va_up_ne _ _ (by omega), f2.2.2.2.2.2.1 _ (by omega), hP1, va_up_ne _ _ (by omega), f1.2.2.2.2.2.1 _ (by omega)]
      have w1 : hI h3 (c + 6) = va_up (hI h (c + 6)) C.2.2.length (nI ((ruP X q).2.1)) := by
        rw [f3.2.2.2.2.2.1 _ (by omega), hP1, va_up_ne _ _ (by omega), f2.2.2.2.2.2.1 _ (by omega), hP1, va_up_self, f1.2.2.2.2.2.1 _ (by omega)]; rfl
      have w2 : hI h3 (c + 7) = va_up (hI h (c + 7)) C.2.2.length (nI ((ruP X q).2.2.1)) := by
        rw [f3.2.2.2.2.2.1 _ (by omega), hP1, va_up_self, f2.2.2.2.2.2.1 _ (by omega), hP1, va_up_ne _ _ (by omega), f1.2.2.2.2.2.1 _ (by omega)]; rfl
      have w3 : hI h3 (c + 8) = hI h (c + 8) := by
        rw [f3.2.2.2.2.2.1 _ (by omega), hP1, va_up_ne _ _ (by omega), f2.2.2.2.2.2.1 _ (by omega), hP1, va_up_ne _ _ (by omega), f1.2.2.2.2.2.1 _ (by omega)]
      generalize h3 = g at i3 hrow w1 w2 w3 ⊢
      refine ⟨?_, ?_, ?_, fun i hi => ?_, fun i hi => ?_, fun i hi => ?_⟩
      · rw [hP1, va_up_self, va_up_ne _ _ (by omega)]; exact a1
      · rw [hP1, va_up_self, va_up_ne _ _ (by omega)]; exact a2
      · rw [hP1, va_up_self, va_up_self]; show nI (C.2.2.length + 1) = nI (_ ++ [_]).length; rw [List.length_append]; rfl
      · rw [hP1, hP1, va_up_ne _ _ (show c + 1 ≠ c by omega), va_up_ne _ _ (show c + 1 ≠ c + 8 by omega), hrow 1 (by decide) (by decide) (by decide) (by decide) (by decide), va_up_ne _ _ (show c + 2 ≠ c by omega), va_up_ne _ _ (show c + 2 ≠ c + 8 by omega), hrow 2 (by decide) (by decide) (by decide) (by decide) (by decide), va_up_ne _ _ (show c + 3 ≠ c by omega), va_up_ne _ _ (show c + 3 ≠ c + 8 by omega), hrow 3 (by decide) (by decide) (by decide) (by decide) (by decide)]; exact a4 i hi
      · rw [hP1, hP1, va_up_ne _ _ (show c + 4 ≠ c by omega), va_up_ne _ _ (show c + 4 ≠ c + 8 by omega), hrow 4 (by decide) (by decide) (by decide) (by decide) (by decide), va_up_ne _ _ (show c + 5 ≠ c by omega), va_up_ne _ _ (show c + 5 ≠ c + 8 by omega), hrow 5 (by decide) (by decide) (by decide) (by decide) (by decide)]; exact a5 i hi
      · refine ⟨?_, ?_, ?_⟩
        · rw [hP1, va_up_ne _ _ (by omega), hP1, va_up_ne _ _ (by omega), w1]
          exact app_row (π := fun e => e.1) (fun i hi => (a6 i hi).1) i hi
        · rw [hP1, va_up_ne _ _ (by omega), hP1, va_up_ne _ _ (by omega), w2]
          exact app_row (π := fun e => e.2.1) (fun i hi => (a6 i hi).2.1) i hi
        · rw [hP1, va_up_ne _ _ (by omega), hP1, va_up_self]; (try rw [w3])
          exact app_row (π := fun e => e.2.2) (fun i hi => (a6 i hi).2.2) i hi
    · refine frW_trans (frW_R f1) ?_
      refine frW_trans (frW_sI (by omega) (by omega) (by omega)) (frW_trans (frW_R f2) ?_)
      refine frW_trans (frW_sI (by omega) (by omega) (by omega)) (frW_trans (frW_R f3) ?_)
      exact frW_trans (frW_sI (by omega) (by omega) (by omega)) (frW_sI (by omega) (by omega) (by omega))
end CE
