/-! ===== the chart, read by the reference ===== -/
def mChR (h : pm_H) (m : Nat) (C : Cs) : Prop :=
  hI h m 30 = nI C.1.length ∧ hI h m 31 = nI C.2.1.length ∧ hI h m 32 = nI C.2.2.length ∧
  (∀ i, i < C.1.length → hI h (m + 721 + i) 0 = nI (C.1.getD i ed0).1 ∧ hI h (m + 721 + i) 1 = nI (C.1.getD i ed0).2.1 ∧ hI h (m + 721 + i) 2 = nI (C.1.getD i ed0).2.2) ∧
  (∀ i, i < C.2.1.length → hI h (m + 782 + i) 0 = nI (C.2.1.getD i ev0).1 ∧ hI h (m + 782 + i) 1 = nI (C.2.1.getD i ev0).2) ∧
  ∀ i, i < C.2.2.length → hI h (m + 795 + i) 0 = nI (C.2.2.getD i ed0).1 ∧ hI h (m + 795 + i) 1 = nI (C.2.2.getD i ed0).2.1 ∧ hI h (m + 795 + i) 2 = nI (C.2.2.getD i ed0).2.2
def frE (m r : Nat) (h h' : pm_H) : Prop := hT h' = hT h ∧ hN h' = hN h ∧ hR h' = hR h ∧ hn h' = hn h ∧ hL h' = hL h ∧ (∀ k, k ≠ m → k ≠ r → hI h' k = hI h k) ∧ ∀ j, j ≠ 4 → j ≠ 6 → j ≠ 7 → hI h' m j = hI h m j
theorem frE_V {m r : Nat} {h h' : pm_H} (a : frV m h h') : frE m r h h' := ⟨a.1, a.2.1, a.2.2.1, a.2.2.2.1, a.2.2.2.2.1, fun k q _ => a.2.2.2.2.2.1 k q, a.2.2.2.2.2.2⟩
theorem frE_trans {m r : Nat} {h h1 h2 : pm_H} (a : frE m r h h1) (b : frE m r h1 h2) : frE m r h h2 :=
  ⟨b.1.trans a.1, b.2.1.trans a.2.1, b.2.2.1.trans a.2.2.1, b.2.2.2.1.trans a.2.2.2.1, b.2.2.2.2.1.trans a.2.2.2.2.1, fun k q1 q2 => (b.2.2.2.2.2.1 k q1 q2).trans (a.2.2.2.2.2.1 k q1 q2), fun j q1 q2 q3 => (b.2.2.2.2.2.2 j q1 q2 q3).trans (a.2.2.2.2.2.2 j q1 q2 q3)⟩
theorem frE_sI {m r : Nat} {h : pm_H} {g : Nat → Int32} (hne : m ≠ r) : frE m r h (sI h r g) :=
  ⟨rfl, rfl, rfl, rfl, rfl, fun j _ q => by rw [hP1, va_up_ne _ _ q], fun j _ _ _ => by rw [hP1, va_up_ne _ _ hne]⟩
def frY (m : Nat) (h h' : pm_H) : Prop := hT h' = hT h ∧ hN h' = hN h ∧ hR h' = hR h ∧ hn h' = hn h ∧ hL h' = hL h ∧ (∀ k, k ≠ m → (k < m + 721 ∨ m + 811 ≤ k) → hI h' k = hI h k) ∧ ∀ j, j ≠ 4 → j ≠ 6 → j ≠ 7 → j ≠ 30 → j ≠ 31 → j ≠ 32 → hI h' m j = hI h m j
theorem frY_V {m : Nat} {h h' : pm_H} (a : frV m h h') : frY m h h' := ⟨a.1, a.2.1, a.2.2.1, a.2.2.2.1, a.2.2.2.2.1, fun k q _ => a.2.2.2.2.2.1 k q, fun j q1 q2 q3 _ _ _ => a.2.2.2.2.2.2 j q1 q2 q3⟩
theorem frY_E {m r : Nat} {h h' : pm_H} (h1 : m + 721 ≤ r) (h2 : r < m + 811) (a : frE m r h h') : frY m h h' := ⟨a.1, a.2.1, a.2.2.1, a.2.2.2.1, a.2.2.2.2.1, fun k q q2 => a.2.2.2.2.2.1 k q (by omega), fun j q1 q2 q3 _ _ _ => a.2.2.2.2.2.2 j q1 q2 q3⟩
theorem frY_trans {m : Nat} {h h1 h2 : pm_H} (a : frY m h h1) (b : frY m h1 h2) : frY m h h2 :=
  ⟨b.1.trans a.1, b.2.1.trans a.2.1, b.2.2.1.trans a.2.2.1, b.2.2.2.1.trans a.2.2.2.1, b.2.2.2.2.1.trans a.2.2.2.2.1, fun k q1 q2 => (b.2.2.2.2.2.1 k q1 q2).trans (a.2.2.2.2.2.1 k q1 q2), fun j q1 q2 q3 q4 q5 q6 => (b.2.2.2.2.2.2 j q1 q2 q3 q4 q5 q6).trans (a.2.2.2.2.2.2 j q1 q2 q3 q4 q5 q6)⟩
theorem frY_f {m j : Nat} {h : pm_H} {v : Int32} (hj : j = 30 ∨ j = 31 ∨ j = 32) : frY m h (sI h m (va_up (hI h m) j v)) :=
  ⟨rfl, rfl, rfl, rfl, rfl, fun k q _ => by rw [hP1, va_up_ne _ _ q], fun i q1 q2 q3 q4 q5 q6 => by rw [hP1, va_up_self, va_up_ne _ _ (by omega)]⟩
theorem mrd_sI {h : pm_H} {m k : Nat} {X : List Nat} {z : Rz} {g : Nat → Int32} (h1 : k ≠ m) (h2 : k ≠ m + 2) (hr : mrd h m X z) : mrd (sI h k g) m X z := by
  obtain ⟨r0, r1, r2, r3, r4, r5, r6⟩ := hr
  refine ⟨mS_sI r0, ?_, fun q => ?_, ?_, ?_, fun i hi => ?_, r6⟩
  · rw [hP1, va_up_ne _ _ (Ne.symm h1)]; exact r1
  · rw [hP1, va_up_ne _ _ (Ne.symm h1)]; exact r2 q
  · rw [hP1, va_up_ne _ _ (Ne.symm h1)]; exact r3
  · rw [hP1, va_up_ne _ _ (Ne.symm h1)]; exact r4
  · rw [hP1, va_up_ne _ _ (Ne.symm h2)]; exact r5 i hi
theorem mrd_f {h : pm_H} {m j : Nat} {X : List Nat} {z : Rz} {v : Int32} (h1 : j ≠ 3) (h2 : j ≠ 4) (h3 : j ≠ 6) (h4 : j ≠ 7) (hr : mrd h m X z) : mrd (sI h m (va_up (hI h m) j v)) m X z := by
  obtain ⟨r0, r1, r2, r3, r4, r5, r6⟩ := hr
  refine ⟨mS_sI r0, ?_, fun q => ?_, ?_, ?_, fun i hi => ?_, r6⟩
  · rw [hP1, va_up_self, va_up_ne _ _ (Ne.symm h1)]; exact r1
  · rw [hP1, va_up_self, va_up_ne _ _ (Ne.symm h2)]; exact r2 q
  · rw [hP1, va_up_self, va_up_ne _ _ (Ne.symm h3)]; exact r3
  · rw [hP1, va_up_self, va_up_ne _ _ (Ne.symm h4)]; exact r4
  · rw [hP1, va_up_ne _ _ (by omega)]; exact r5 i hi
theorem gD_ap {α : Type} {L : List α} {y dd : α} {j : Nat} (hj : j < L.length) : (L ++ [y]).getD j dd = L.getD j dd := by
  rw [List.getD_eq_getElem?_getD, List.getElem?_append_left hj, ← List.getD_eq_getElem?_getD]
theorem gD_la {α : Type} {L : List α} {y dd : α} : (L ++ [y]).getD L.length dd = y := by
  rw [List.getD_eq_getElem?_getD, List.getElem?_append_right (Nat.le_refl _), Nat.sub_self]; rfl
theorem mChR_V {h h' : pm_H} {m : Nat} {C : Cs} (f : frV m h h') (hC : mChR h m C) : mChR h' m C := by
  obtain ⟨a1, a2, a3, a4, a5, a6⟩ := hC
  obtain ⟨f1, f2, f3, f4, f5, f6, f7⟩ := f
  refine ⟨(f7 _ (by omega) (by omega) (by omega)).trans a1, (f7 _ (by omega) (by omega) (by omega)).trans a2, (f7 _ (by omega) (by omega) (by omega)).trans a3, fun i hi => ?_, fun i hi => ?_, fun i hi => ?_⟩
  · rw [f6 _ (by omega)]; exact a4 i hi
  · rw [f6 _ (by omega)]; exact a5 i hi
  · rw [f6 _ (by omega)]; exact a6 i hi

theorem asmE {h h5 : pm_H} {m : Nat} {v : Int32} {C : Cs} {e : Ed} (hO : chOK C) (hl : C.1.length < 60) (hC : mChR h m C) (f : frE m (m + 721 + C.1.length) h h5) (w0 : hI h5 (m + 721 + C.1.length) 0 = nI e.1) (w1 : hI h5 (m + 721 + C.1.length) 1 = nI e.2.1) (w2 : hI h5 (m + 721 + C.1.length) 2 = nI e.2.2) (hv : v = nI (C.1.length + 1)) : mChR (sI h5 m (va_up (hI h5 m) 30 v)) m (C.1 ++ [e], C.2.1, C.2.2) := by
  obtain ⟨lE, lV, lR, _⟩ := hO
  obtain ⟨a1, a2, a3, a4, a5, a6⟩ := hC
  obtain ⟨f1, f2, f3, f4, f5, f6, f7⟩ := f
  refine ⟨?_, ?_, ?_, fun i hi => ?_, fun i hi => ?_, fun i hi => ?_⟩
  · rw [hP1, va_up_self, va_up_self, hv]; show _ = nI (C.1 ++ [e]).length; rw [List.length_append]; rfl
  · rw [hP1, va_up_self, va_up_ne _ _ (by omega), f7 _ (by omega) (by omega) (by omega)]; exact a2
  · rw [hP1, va_up_self, va_up_ne _ _ (by omega), f7 _ (by omega) (by omega) (by omega)]; exact a3
  · have hi : i < (C.1 ++ [e]).length := hi
    rw [List.length_append] at hi
    have hi : i < C.1.length + 1 := hi
    rw [hP1, va_up_ne _ _ (by omega)]
    by_cases z : i = C.1.length
    · subst z
      show hI h5 (m + 721 + C.1.length) 0 = nI ((C.1 ++ [e]).getD C.1.length ed0).1 ∧ _
      rw [gD_la]
      exact ⟨w0, w1, w2⟩
    · show hI h5 (m + 721 + i) 0 = nI ((C.1 ++ [e]).getD i ed0).1 ∧ _
      rw [gD_ap (by omega), f6 _ (by omega) (by omega)]
      exact a4 i (by omega)
  · have hi : i < C.2.1.length := hi
    rw [hP1, va_up_ne _ _ (by omega), f6 _ (by omega) (by omega)]; exact a5 i hi
  · have hi : i < C.2.2.length := hi
    rw [hP1, va_up_ne _ _ (by omega), f6 _ (by omega) (by omega)]; exact a6 i hi
theorem asmV {h h5 : pm_H} {m : Nat} {v : Int32} {C : Cs} {e : Ev} (hO : chOK C) (hl : C.2.1.length < 12) (hC : mChR h m C) (f : frE m (m + 782 + C.2.1.length) h h5) (w0 : hI h5 (m + 782 + C.2.1.length) 0 = nI e.1) (w1 : hI h5 (m + 782 + C.2.1.length) 1 = nI e.2) (hv : v = nI (C.2.1.length + 1)) : mChR (sI h5 m (va_up (hI h5 m) 31 v)) m (C.1, C.2.1 ++ [e], C.2.2) := by
  obtain ⟨lE, lV, lR, _⟩ := hO
  obtain ⟨a1, a2, a3, a4, a5, a6⟩ := hC
  obtain ⟨f1, f2, f3, f4, f5, f6, f7⟩ := f
  refine ⟨?_, ?_, ?_, fun i hi => ?_, fun i hi => ?_, fun i hi => ?_⟩
  · rw [hP1, va_up_self, va_up_ne _ _ (by omega), f7 _ (by omega) (by omega) (by omega)]; exact a1
  · rw [hP1, va_up_self, va_up_self, hv]; show _ = nI (C.2.1 ++ [e]).length; rw [List.length_append]; rfl
  · rw [hP1, va_up_self, va_up_ne _ _ (by omega), f7 _ (by omega) (by omega) (by omega)]; exact a3
  · have hi : i < C.1.length := hi
    rw [hP1, va_up_ne _ _ (by omega), f6 _ (by omega) (by omega)]; exact a4 i hi
  · have hi : i < (C.2.1 ++ [e]).length := hi
    rw [List.length_append] at hi
    have hi : i < C.2.1.length + 1 := hi
    rw [hP1, va_up_ne _ _ (by omega)]
    by_cases z : i = C.2.1.length
    · subst z
      show hI h5 (m + 782 + C.2.1.length) 0 = nI ((C.2.1 ++ [e]).getD C.2.1.length ev0).1 ∧ _
      rw [gD_la]
      exact ⟨w0, w1⟩
    · show hI h5 (m + 782 + i) 0 = nI ((C.2.1 ++ [e]).getD i ev0).1 ∧ _
      rw [gD_ap (by omega), f6 _ (by omega) (by omega)]
      exact a5 i (by omega)
  · have hi : i < C.2.2.length := hi
    rw [hP1, va_up_ne _ _ (by omega), f6 _ (by omega) (by omega)]; exact a6 i hi
theorem asmR {h h5 : pm_H} {m : Nat} {v : Int32} {C : Cs} {e : Ed} (hO : chOK C) (hl : C.2.2.length < 16) (hC : mChR h m C) (f : frE m (m + 795 + C.2.2.length) h h5) (w0 : hI h5 (m + 795 + C.2.2.length) 0 = nI e.1) (w1 : hI h5 (m + 795 + C.2.2.length) 1 = nI e.2.1) (w2 : hI h5 (m + 795 + C.2.2.length) 2 = nI e.2.2) (hv : v = nI (C.2.2.length + 1)) : mChR (sI h5 m (va_up (hI h5 m) 32 v)) m (C.1, C.2.1, C.2.2 ++ [e]) := by
  obtain ⟨lE, lV, lR, _⟩ := hO
  obtain ⟨a1, a2, a3, a4, a5, a6⟩ := hC
  obtain ⟨f1, f2, f3, f4, f5, f6, f7⟩ := f
  refine ⟨?_, ?_, ?_, fun i hi => ?_, fun i hi => ?_, fun i hi => ?_⟩
  · rw [hP1, va_up_self, va_up_ne _ _ (by omega), f7 _ (by omega) (by omega) (by omega)]; exact a1
  · rw [hP1, va_up_self, va_up_ne _ _ (by omega), f7 _ (by omega) (by omega) (by omega)]; exact a2
  · rw [hP1, va_up_self, va_up_self, hv]; show _ = nI (C.2.2 ++ [e]).length; rw [List.length_append]; rfl
  · have hi : i < C.1.length := hi
    rw [hP1, va_up_ne _ _ (by omega), f6 _ (by omega) (by omega)]; exact a4 i hi
  · have hi : i < C.2.1.length := hi
    rw [hP1, va_up_ne _ _ (by omega), f6 _ (by omega) (by omega)]; exact a5 i hi
  · have hi : i < (C.2.2 ++ [e]).length := hi
    rw [List.length_append] at hi
    have hi : i < C.2.2.length + 1 := hi
    rw [hP1, va_up_ne _ _ (by omega)]
    by_cases z : i = C.2.2.length
    · subst z
      show hI h5 (m + 795 + C.2.2.length) 0 = nI ((C.2.2 ++ [e]).getD C.2.2.length ed0).1 ∧ _
      rw [gD_la]
      exact ⟨w0, w1, w2⟩
    · show hI h5 (m + 795 + i) 0 = nI ((C.2.2 ++ [e]).getD i ed0).1 ∧ _
      rw [gD_ap (by omega), f6 _ (by omega) (by omega)]
      exact a6 i (by omega)
section CM
variable {h : pm_H} {m : Nat} {X : List Nat} {C : Cs} {Q : pm_Q}
theorem num_none {most : Nat} {z : Rz} (hz : (numP X most z).1.2 = none) : z.2 = none := Classical.byContradiction fun q => q ((num_some q).symm.trans hz)
theorem let_none {z : Rz} (hz : (letP X z).1.2 = none) : z.2 = none := Classical.byContradiction fun q => q ((let_some q).symm.trans hz)
theorem want_none {s : Nat} {z : Rz} (hz : (wantP X s z).2 = none) : z.2 = none := Classical.byContradiction fun q => q ((want_some q).symm.trans hz)
theorem mrd_bad {z : Rz} {e : Nat × Nat} (hr : mrd h m X z) (he : z.2 = some e) : mrd h m X (wantP X 59 z) := by
  have hne : z.2 ≠ none := by rw [he]; exact fun q => by cases q
  have := mrd_some hr hne (a := (wantP X 59 z).1) (want_eq hr.2.2.2.2.2.2.2.2 hr.2.2.2.2.2.2.1 hr.2.2.2.2.2.2.2.1).1
  rw [← want_some (X := X) (s := 59) hne] at this
  exact this
theorem c1057 (d : Nat) {a : Nat} (hr : mrd h m X (a, none)) (hC : mChR h m C) (hO : chOK C)
    (hQ : ∀ h', mrd h' m X (wantP X 59 (lnP X C (skp X a)).1) → ((wantP X 59 (lnP X C (skp X a)).1).2 = none → mChR h' m (lnP X C (skp X a)).2) → frY m h h' → Q (.inl none) h') : pm_M PP (d + 4) 1057 [.ref m] h Q := by
  have hz : a ≤ X.length := hr.2.2.2.2.2.2.1
  have ht := hr.2.2.2.2.2.2.2.2
  have h5 := ht.1
  have hsk := skp_ok hz
  have hid := skp_id hz
  obtain ⟨lE, lV, lR, _⟩ := id hO
  rw [e_1057]
  simp (disch := omega) only [u_1057_0, B_1057_0, nI1T, Nat.left_eq_add, Nat.add_eq_left, Nat.add_eq_zero_iff, and_false, false_and, if_false, if_true, opsN, opsC, pm_1, lg, ls1, ls2, lq, List.length_cons, List.length_nil, cN, cL, callE, retV, retN, pm_pop, pm_cat, List.map_cons, List.map_nil, List.sum_cons, List.sum_nil, Value.category, Option.toList, List.cons_append, List.nil_append, ↓reduceIte, reduceCtorEq, Nat.reduceAdd, Nat.reduceLT, Nat.reduceLeDiff, Nat.reduceSub, Nat.reduceEqDiff, Nat.zero_le, Nat.sub_zero, Nat.le_refl, true_and, and_true, not_true_eq_false, not_false_eq_true, true_or, or_true, lc_eq, lc_ne, lc_lt, lc_ge, lc_gt, lc_le, nI_add, lN_add, nI_leI, nI_ltI, nI_eq, nI_clamp, pk_lLT, pk_lLE, pk_lEQ, pk_sub, vp_inT, nz_eq, nz_lt, nz_ge, nz_gt, nz_le, lz_eq, lz_lt, lz_ge, hP1, hP2, hP3, hP4, hP5, hP6, hP7, hP8, hP9, hP10, hP11, hP12, hP13, hP14, hP15, hP16, hP17, hP18, hP19, hP20, hr.1.1]
  refine c1042 (d + 1) hr rfl ?_
  intro h1 k1 f1
  have g1 : hI h1 m 4 = nI (skp X a) := k1.2.2.1 rfl
  have hC1 := mChR_V f1 hC
  have k1 : mrd h1 m X (skp X a, none) := k1
  generalize ep : skp X a = p at k1 g1 hsk hid hQ
  simp (disch := omega) only [nI1T, Nat.left_eq_add, Nat.add_eq_left, Nat.add_eq_zero_iff, and_false, false_and, if_false, if_true, opsN, opsC, pm_1, lg, ls1, ls2, lq, List.length_cons, List.length_nil, cN, cL, callE, retV, retN, pm_pop, pm_cat, List.map_cons, List.map_nil, List.sum_cons, List.sum_nil, Value.category, Option.toList, List.cons_append, List.nil_append, ↓reduceIte, reduceCtorEq, Nat.reduceAdd, Nat.reduceLT, Nat.reduceLeDiff, Nat.reduceSub, Nat.reduceEqDiff, Nat.zero_le, Nat.sub_zero, Nat.le_refl, true_and, and_true, not_true_eq_false, not_false_eq_true, true_or, or_true, lc_eq, lc_ne, lc_lt, lc_ge, lc_gt, lc_le, nI_add, lN_add, nI_leI, nI_ltI, nI_eq, nI_clamp, pk_lLT, pk_lLE, pk_lEQ, pk_sub, vp_inT, nz_eq, nz_lt, nz_ge, nz_gt, nz_le, lz_eq, lz_lt, lz_ge, hP1, hP2, hP3, hP4, hP5, hP6, hP7, hP8, hP9, hP10, hP11, hP12, hP13, hP14, hP15, hP16, hP17, hP18, hP19, hP20, k1.1.1, g1]
  refine c1048 d (o := 18) (w := wEdge) k1 rfl (by decide) (by decide) rfl (by decide) (by decide) ?_ ?_

  · intro w1 hh kk f2
    have ff := frV_trans f1 f2
    have w1 : wd X p wEdge = true := by rw [← hid]; assumption
    have kk : mrd hh m X (p + 4, none) := by rw [hid] at kk; exact kk
    have hCC := mChR_V ff hC
    obtain ⟨b1, b2, b3, _⟩ := id hCC
    by_cases cm : C.1.length = 60
    · have eL : lnP X C p = ((p + 4, some (3, p)), C) := by unfold lnP; rw [if_pos w1, if_pos cm]
      simp (disch := omega) only [nI1T, Nat.left_eq_add, Nat.add_eq_left, Nat.add_eq_zero_iff, and_false, false_and, if_false, if_true, opsN, opsC, pm_1, lg, ls1, ls2, lq, List.length_cons, List.length_nil, cN, cL, callE, retV, retN, pm_pop, pm_cat, List.map_cons, List.map_nil, List.sum_cons, List.sum_nil, Value.category, Option.toList, List.cons_append, List.nil_append, ↓reduceIte, reduceCtorEq, Nat.reduceAdd, Nat.reduceLT, Nat.reduceLeDiff, Nat.reduceSub, Nat.reduceEqDiff, Nat.zero_le, Nat.sub_zero, Nat.le_refl, true_and, and_true, not_true_eq_false, not_false_eq_true, true_or, or_true, lc_eq, lc_ne, lc_lt, lc_ge, lc_gt, lc_le, nI_add, lN_add, nI_leI, nI_ltI, nI_eq, nI_clamp, pk_lLT, pk_lLE, pk_lEQ, pk_sub, vp_inT, nz_eq, nz_lt, nz_ge, nz_gt, nz_le, lz_eq, lz_lt, lz_ge, hP1, hP2, hP3, hP4, hP5, hP6, hP7, hP8, hP9, hP10, hP11, hP12, hP13, hP14, hP15, hP16, hP17, hP18, hP19, hP20, kk.1.1, b1, b2, b3, cm]
      refine c1044 (d + 2) kk (by decide) (by decide) (by omega) ?_
      intro h3 l1 l2
      simp (disch := omega) only [nI1T, Nat.left_eq_add, Nat.add_eq_left, Nat.add_eq_zero_iff, and_false, false_and, if_false, if_true, opsN, opsC, pm_1, lg, ls1, ls2, lq, List.length_cons, List.length_nil, cN, cL, callE, retV, retN, pm_pop, pm_cat, List.map_cons, List.map_nil, List.sum_cons, List.sum_nil, Value.category, Option.toList, List.cons_append, List.nil_append, ↓reduceIte, reduceCtorEq, Nat.reduceAdd, Nat.reduceLT, Nat.reduceLeDiff, Nat.reduceSub, Nat.reduceEqDiff, Nat.zero_le, Nat.sub_zero, Nat.le_refl, true_and, and_true, not_true_eq_false, not_false_eq_true, true_or, or_true, lc_eq, lc_ne, lc_lt, lc_ge, lc_gt, lc_le, nI_add, lN_add, nI_leI, nI_ltI, nI_eq, nI_clamp, pk_lLT, pk_lLE, pk_lEQ, pk_sub, vp_inT, nz_eq, nz_lt, nz_ge, nz_gt, nz_le, lz_eq, lz_lt, lz_ge, hP1, hP2, hP3, hP4, hP5, hP6, hP7, hP8, hP9, hP10, hP11, hP12, hP13, hP14, hP15, hP16, hP17, hP18, hP19, hP20]
      rw [eL] at hQ
      exact hQ h3 (mrd_bad l1 rfl) (fun q => absurd (want_none q) (fun z => by cases z)) (frY_V (frV_trans ff l2))
    · have eL : lnP X C p = ((edP X (p + 4)).1, (C.1 ++ [(edP X (p + 4)).2], C.2.1, C.2.2)) := by unfold lnP; rw [if_pos w1, if_neg cm]
      rw [eL] at hQ
      have hs := kk.1
      simp (disch := omega) only [u_1057_36, B_1057_36, nI1T, Nat.left_eq_add, Nat.add_eq_left, Nat.add_eq_zero_iff, and_false, false_and, if_false, if_true, opsN, opsC, pm_1, lg, ls1, ls2, lq, List.length_cons, List.length_nil, cN, cL, callE, retV, retN, pm_pop, pm_cat, List.map_cons, List.map_nil, List.sum_cons, List.sum_nil, Value.category, Option.toList, List.cons_append, List.nil_append, ↓reduceIte, reduceCtorEq, Nat.reduceAdd, Nat.reduceLT, Nat.reduceLeDiff, Nat.reduceSub, Nat.reduceEqDiff, Nat.zero_le, Nat.sub_zero, Nat.le_refl, true_and, and_true, not_true_eq_false, not_false_eq_true, true_or, or_true, lc_eq, lc_ne, lc_lt, lc_ge, lc_gt, lc_le, nI_add, lN_add, nI_leI, nI_ltI, nI_eq, nI_clamp, pk_lLT, pk_lLE, pk_lEQ, pk_sub, vp_inT, nz_eq, nz_lt, nz_ge, nz_gt, nz_le, lz_eq, lz_lt, lz_ge, hP1, hP2, hP3, hP4, hP5, hP6, hP7, hP8, hP9, hP10, hP11, hP12, hP13, hP14, hP15, hP16, hP17, hP18, hP19, hP20, hs.1, m_g22 hs, m_t720 hs, m_n720 hs, m_r720 hs, m_rt720 hs, m_rn720 hs, b1, b2, b3, cm]
      refine c1049 d kk (by decide) ?_
      intro g1 v1 l1 e1 q1
      have F1 : frE m (m + 721 + C.1.length) hh g1 := frE_V q1
      have hs := l1.1
      have c10 : hI g1 m 30 = nI C.1.length := (F1.2.2.2.2.2.2 _ (by omega) (by omega) (by omega)).trans b1
      simp (disch := omega) only [u_1057_232, B_1057_232, nI1T, Nat.left_eq_add, Nat.add_eq_left, Nat.add_eq_zero_iff, and_false, false_and, if_false, if_true, opsN, opsC, pm_1, lg, ls1, ls2, lq, List.length_cons, List.length_nil, cN, cL, callE, retV, retN, pm_pop, pm_cat, List.map_cons, List.map_nil, List.sum_cons, List.sum_nil, Value.category, Option.toList, List.cons_append, List.nil_append, ↓reduceIte, reduceCtorEq, Nat.reduceAdd, Nat.reduceLT, Nat.reduceLeDiff, Nat.reduceSub, Nat.reduceEqDiff, Nat.zero_le, Nat.sub_zero, Nat.le_refl, true_and, and_true, not_true_eq_false, not_false_eq_true, true_or, or_true, lc_eq, lc_ne, lc_lt, lc_ge, lc_gt, lc_le, nI_add, lN_add, nI_leI, nI_ltI, nI_eq, nI_clamp, pk_lLT, pk_lLE, pk_lEQ, pk_sub, vp_inT, nz_eq, nz_lt, nz_ge, nz_gt, nz_le, lz_eq, lz_lt, lz_ge, hP1, hP2, hP3, hP4, hP5, hP6, hP7, hP8, hP9, hP10, hP11, hP12, hP13, hP14, hP15, hP16, hP17, hP18, hP19, hP20, hs.1, m_rt720 hs, m_rn720 hs, c10, va_upE]
      refine c1049 d (mrd_sI (by omega) (by omega) l1) (by decide) ?_
      intro g2 v2 l2 e2 q2
      have F2 : frE m (m + 721 + C.1.length) hh g2 := frE_trans F1 (frE_trans (frE_sI (by omega)) (frE_V q2))
      have x2_1 : hI g2 (m + 721 + C.1.length) 0 = nI v1 := by rw [q2.2.2.2.2.2.1 _ (by omega), hI_at, va_up_self]
      have hs := l2.1
      have c20 : hI g2 m 30 = nI C.1.length := (F2.2.2.2.2.2.2 _ (by omega) (by omega) (by omega)).trans b1
      simp (disch := omega) only [u_1057_232, B_1057_232, nI1T, Nat.left_eq_add, Nat.add_eq_left, Nat.add_eq_zero_iff, and_false, false_and, if_false, if_true, opsN, opsC, pm_1, lg, ls1, ls2, lq, List.length_cons, List.length_nil, cN, cL, callE, retV, retN, pm_pop, pm_cat, List.map_cons, List.map_nil, List.sum_cons, List.sum_nil, Value.category, Option.toList, List.cons_append, List.nil_append, ↓reduceIte, reduceCtorEq, Nat.reduceAdd, Nat.reduceLT, Nat.reduceLeDiff, Nat.reduceSub, Nat.reduceEqDiff, Nat.zero_le, Nat.sub_zero, Nat.le_refl, true_and, and_true, not_true_eq_false, not_false_eq_true, true_or, or_true, lc_eq, lc_ne, lc_lt, lc_ge, lc_gt, lc_le, nI_add, lN_add, nI_leI, nI_ltI, nI_eq, nI_clamp, pk_lLT, pk_lLE, pk_lEQ, pk_sub, vp_inT, nz_eq, nz_lt, nz_ge, nz_gt, nz_le, lz_eq, lz_lt, lz_ge, hP1, hP2, hP3, hP4, hP5, hP6, hP7, hP8, hP9, hP10, hP11, hP12, hP13, hP14, hP15, hP16, hP17, hP18, hP19, hP20, hs.1, m_rt720 hs, m_rn720 hs, c20, va_upE]
      refine c1049 d (mrd_sI (by omega) (by omega) l2) (by decide) ?_
      intro g3 v3 l3 e3 q3
      have F3 : frE m (m + 721 + C.1.length) hh g3 := frE_trans F2 (frE_trans (frE_sI (by omega)) (frE_V q3))
      have x3_1 : hI g3 (m + 721 + C.1.length) 0 = nI v1 := by rw [q3.2.2.2.2.2.1 _ (by omega), hI_at, va_up_ne _ _ (by decide)]; exact x2_1
      have x3_2 : hI g3 (m + 721 + C.1.length) 1 = nI v2 := by rw [q3.2.2.2.2.2.1 _ (by omega), hI_at, va_up_self]
      have hs := l3.1
      have c30 : hI g3 m 30 = nI C.1.length := (F3.2.2.2.2.2.2 _ (by omega) (by omega) (by omega)).trans b1
      simp (disch := omega) only [u_1057_232, B_1057_232, nI1T, Nat.left_eq_add, Nat.add_eq_left, Nat.add_eq_zero_iff, and_false, false_and, if_false, if_true, opsN, opsC, pm_1, lg, ls1, ls2, lq, List.length_cons, List.length_nil, cN, cL, callE, retV, retN, pm_pop, pm_cat, List.map_cons, List.map_nil, List.sum_cons, List.sum_nil, Value.category, Option.toList, List.cons_append, List.nil_append, ↓reduceIte, reduceCtorEq, Nat.reduceAdd, Nat.reduceLT, Nat.reduceLeDiff, Nat.reduceSub, Nat.reduceEqDiff, Nat.zero_le, Nat.sub_zero, Nat.le_refl, true_and, and_true, not_true_eq_false, not_false_eq_true, true_or, or_true, lc_eq, lc_ne, lc_lt, lc_ge, lc_gt, lc_le, nI_add, lN_add, nI_leI, nI_ltI, nI_eq, nI_clamp, pk_lLT, pk_lLE, pk_lEQ, pk_sub, vp_inT, nz_eq, nz_lt, nz_ge, nz_gt, nz_le, lz_eq, lz_lt, lz_ge, hP1, hP2, hP3, hP4, hP5, hP6, hP7, hP8, hP9, hP10, hP11, hP12, hP13, hP14, hP15, hP16, hP17, hP18, hP19, hP20, hs.1, m_rt720 hs, m_rn720 hs, c30, va_upE]
      refine c1051 d (mrd_f (by decide) (by decide) (by decide) (by decide) (mrd_sI (by omega) (by omega) l3)) (by decide) ?_
      intro h9 t1 t2
      simp (disch := omega) only [nI1T, Nat.left_eq_add, Nat.add_eq_left, Nat.add_eq_zero_iff, and_false, false_and, if_false, if_true, opsN, opsC, pm_1, lg, ls1, ls2, lq, List.length_cons, List.length_nil, cN, cL, callE, retV, retN, pm_pop, pm_cat, List.map_cons, List.map_nil, List.sum_cons, List.sum_nil, Value.category, Option.toList, List.cons_append, List.nil_append, ↓reduceIte, reduceCtorEq, Nat.reduceAdd, Nat.reduceLT, Nat.reduceLeDiff, Nat.reduceSub, Nat.reduceEqDiff, Nat.zero_le, Nat.sub_zero, Nat.le_refl, true_and, and_true, not_true_eq_false, not_false_eq_true, true_or, or_true, lc_eq, lc_ne, lc_lt, lc_ge, lc_gt, lc_le, nI_add, lN_add, nI_leI, nI_ltI, nI_eq, nI_clamp, pk_lLT, pk_lLE, pk_lEQ, pk_sub, vp_inT, nz_eq, nz_lt, nz_ge, nz_gt, nz_le, lz_eq, lz_lt, lz_ge, hP1, hP2, hP3, hP4, hP5, hP6, hP7, hP8, hP9, hP10, hP11, hP12, hP13, hP14, hP15, hP16, hP17, hP18, hP19, hP20]
      have FF : frE m (m + 721 + C.1.length) hh (sI g3 (m + 721 + C.1.length) (va_up (hI g3 (m + 721 + C.1.length)) 2 (nI v3))) := frE_trans F3 (frE_sI (by omega))
      refine hQ h9 t1 (fun hn => ?_) (frY_trans (frY_V ff) (frY_trans (frY_E (by omega) (by omega) FF) (frY_trans (frY_f (by omega)) (frY_V t2))))
      have z3 := want_none hn
      have z2 := num_none z3
      have z1 := num_none z2
      have e1 := e1 z1
      have e2 := e2 z2
      have e3 := e3 z3
      exact mChR_V t2 (asmE (e := (edP X (p + 4)).2) hO (by omega) hCC FF (by rw [hI_at, va_up_ne _ _ (by decide), x3_1, e1]; rfl) (by rw [hI_at, va_up_ne _ _ (by decide), x3_2, e2]; rfl) (by rw [hI_at, va_up_self, e3]; rfl) (by show hI (sI g3 (m + 721 + C.1.length) (va_up (hI g3 (m + 721 + C.1.length)) 2 (nI v3))) m 30 + nI 1 = _; rw [hP1, va_up_ne _ _ (by omega), c30, nI_add]))
  · intro w1 h2 k2 f2
    have w1 : ¬ wd X p wEdge = true := by rw [hid] at w1; rw [w1]; exact fun q => by cases q
    have k2 : mrd h2 m X (p, none) := by rw [hid] at k2; exact k2
    simp (disch := omega) only [u_1057_87, B_1057_87, nI1T, Nat.left_eq_add, Nat.add_eq_left, Nat.add_eq_zero_iff, and_false, false_and, if_false, if_true, opsN, opsC, pm_1, lg, ls1, ls2, lq, List.length_cons, List.length_nil, cN, cL, callE, retV, retN, pm_pop, pm_cat, List.map_cons, List.map_nil, List.sum_cons, List.sum_nil, Value.category, Option.toList, List.cons_append, List.nil_append, ↓reduceIte, reduceCtorEq, Nat.reduceAdd, Nat.reduceLT, Nat.reduceLeDiff, Nat.reduceSub, Nat.reduceEqDiff, Nat.zero_le, Nat.sub_zero, Nat.le_refl, true_and, and_true, not_true_eq_false, not_false_eq_true, true_or, or_true, lc_eq, lc_ne, lc_lt, lc_ge, lc_gt, lc_le, nI_add, lN_add, nI_leI, nI_ltI, nI_eq, nI_clamp, pk_lLT, pk_lLE, pk_lEQ, pk_sub, vp_inT, nz_eq, nz_lt, nz_ge, nz_gt, nz_le, lz_eq, lz_lt, lz_ge, hP1, hP2, hP3, hP4, hP5, hP6, hP7, hP8, hP9, hP10, hP11, hP12, hP13, hP14, hP15, hP16, hP17, hP18, hP19, hP20, k2.1.1]
    refine c1048 d (o := 19) (w := wEvent) k2 rfl (by decide) (by decide) rfl (by decide) (by decide) ?_ ?_
    · intro w2 hh kk f3
      have ff := frV_trans f1 (frV_trans f2 f3)
      have w2 : wd X p wEvent = true := by rw [← hid]; assumption
      have kk : mrd hh m X (p + 5, none) := by rw [hid] at kk; exact kk
      have hCC := mChR_V ff hC
      obtain ⟨b1, b2, b3, _⟩ := id hCC
      by_cases cm : C.2.1.length = 12
      · have eL : lnP X C p = ((p + 5, some (3, p)), C) := by unfold lnP; rw [if_neg w1, if_pos w2, if_pos cm]
        simp (disch := omega) only [nI1T, Nat.left_eq_add, Nat.add_eq_left, Nat.add_eq_zero_iff, and_false, false_and, if_false, if_true, opsN, opsC, pm_1, lg, ls1, ls2, lq, List.length_cons, List.length_nil, cN, cL, callE, retV, retN, pm_pop, pm_cat, List.map_cons, List.map_nil, List.sum_cons, List.sum_nil, Value.category, Option.toList, List.cons_append, List.nil_append, ↓reduceIte, reduceCtorEq, Nat.reduceAdd, Nat.reduceLT, Nat.reduceLeDiff, Nat.reduceSub, Nat.reduceEqDiff, Nat.zero_le, Nat.sub_zero, Nat.le_refl, true_and, and_true, not_true_eq_false, not_false_eq_true, true_or, or_true, lc_eq, lc_ne, lc_lt, lc_ge, lc_gt, lc_le, nI_add, lN_add, nI_leI, nI_ltI, nI_eq, nI_clamp, pk_lLT, pk_lLE, pk_lEQ, pk_sub, vp_inT, nz_eq, nz_lt, nz_ge, nz_gt, nz_le, lz_eq, lz_lt, lz_ge, hP1, hP2, hP3, hP4, hP5, hP6, hP7, hP8, hP9, hP10, hP11, hP12, hP13, hP14, hP15, hP16, hP17, hP18, hP19, hP20, kk.1.1, b1, b2, b3, cm]
        refine c1044 (d + 2) kk (by decide) (by decide) (by omega) ?_
        intro h3 l1 l2
        simp (disch := omega) only [nI1T, Nat.left_eq_add, Nat.add_eq_left, Nat.add_eq_zero_iff, and_false, false_and, if_false, if_true, opsN, opsC, pm_1, lg, ls1, ls2, lq, List.length_cons, List.length_nil, cN, cL, callE, retV, retN, pm_pop, pm_cat, List.map_cons, List.map_nil, List.sum_cons, List.sum_nil, Value.category, Option.toList, List.cons_append, List.nil_append, ↓reduceIte, reduceCtorEq, Nat.reduceAdd, Nat.reduceLT, Nat.reduceLeDiff, Nat.reduceSub, Nat.reduceEqDiff, Nat.zero_le, Nat.sub_zero, Nat.le_refl, true_and, and_true, not_true_eq_false, not_false_eq_true, true_or, or_true, lc_eq, lc_ne, lc_lt, lc_ge, lc_gt, lc_le, nI_add, lN_add, nI_leI, nI_ltI, nI_eq, nI_clamp, pk_lLT, pk_lLE, pk_lEQ, pk_sub, vp_inT, nz_eq, nz_lt, nz_ge, nz_gt, nz_le, lz_eq, lz_lt, lz_ge, hP1, hP2, hP3, hP4, hP5, hP6, hP7, hP8, hP9, hP10, hP11, hP12, hP13, hP14, hP15, hP16, hP17, hP18, hP19, hP20]
        rw [eL] at hQ
        exact hQ h3 (mrd_bad l1 rfl) (fun q => absurd (want_none q) (fun z => by cases z)) (frY_V (frV_trans ff l2))
      · have eL : lnP X C p = ((evP X (p + 5)).1, (C.1, C.2.1 ++ [(evP X (p + 5)).2], C.2.2)) := by unfold lnP; rw [if_neg w1, if_pos w2, if_neg cm]
        rw [eL] at hQ
        have hs := kk.1
        simp (disch := omega) only [u_1057_113, B_1057_113, nI1T, Nat.left_eq_add, Nat.add_eq_left, Nat.add_eq_zero_iff, and_false, false_and, if_false, if_true, opsN, opsC, pm_1, lg, ls1, ls2, lq, List.length_cons, List.length_nil, cN, cL, callE, retV, retN, pm_pop, pm_cat, List.map_cons, List.map_nil, List.sum_cons, List.sum_nil, Value.category, Option.toList, List.cons_append, List.nil_append, ↓reduceIte, reduceCtorEq, Nat.reduceAdd, Nat.reduceLT, Nat.reduceLeDiff, Nat.reduceSub, Nat.reduceEqDiff, Nat.zero_le, Nat.sub_zero, Nat.le_refl, true_and, and_true, not_true_eq_false, not_false_eq_true, true_or, or_true, lc_eq, lc_ne, lc_lt, lc_ge, lc_gt, lc_le, nI_add, lN_add, nI_leI, nI_ltI, nI_eq, nI_clamp, pk_lLT, pk_lLE, pk_lEQ, pk_sub, vp_inT, nz_eq, nz_lt, nz_ge, nz_gt, nz_le, lz_eq, lz_lt, lz_ge, hP1, hP2, hP3, hP4, hP5, hP6, hP7, hP8, hP9, hP10, hP11, hP12, hP13, hP14, hP15, hP16, hP17, hP18, hP19, hP20, hs.1, m_g23 hs, m_t781 hs, m_n781 hs, m_r781 hs, m_rt781 hs, m_rn781 hs, b1, b2, b3, cm]
        refine c1050 d kk ?_
        intro g1 v1 l1 e1 q1
        have F1 : frE m (m + 782 + C.2.1.length) hh g1 := frE_V q1
        have hs := l1.1
        have c10 : hI g1 m 31 = nI C.2.1.length := (F1.2.2.2.2.2.2 _ (by omega) (by omega) (by omega)).trans b2
        simp (disch := omega) only [u_1057_232, B_1057_232, nI1T, Nat.left_eq_add, Nat.add_eq_left, Nat.add_eq_zero_iff, and_false, false_and, if_false, if_true, opsN, opsC, pm_1, lg, ls1, ls2, lq, List.length_cons, List.length_nil, cN, cL, callE, retV, retN, pm_pop, pm_cat, List.map_cons, List.map_nil, List.sum_cons, List.sum_nil, Value.category, Option.toList, List.cons_append, List.nil_append, ↓reduceIte, reduceCtorEq, Nat.reduceAdd, Nat.reduceLT, Nat.reduceLeDiff, Nat.reduceSub, Nat.reduceEqDiff, Nat.zero_le, Nat.sub_zero, Nat.le_refl, true_and, and_true, not_true_eq_false, not_false_eq_true, true_or, or_true, lc_eq, lc_ne, lc_lt, lc_ge, lc_gt, lc_le, nI_add, lN_add, nI_leI, nI_ltI, nI_eq, nI_clamp, pk_lLT, pk_lLE, pk_lEQ, pk_sub, vp_inT, nz_eq, nz_lt, nz_ge, nz_gt, nz_le, lz_eq, lz_lt, lz_ge, hP1, hP2, hP3, hP4, hP5, hP6, hP7, hP8, hP9, hP10, hP11, hP12, hP13, hP14, hP15, hP16, hP17, hP18, hP19, hP20, hs.1, m_rt781 hs, m_rn781 hs, c10, va_upE]
        refine c1049 d (mrd_sI (by omega) (by omega) l1) (by decide) ?_
        intro g2 v2 l2 e2 q2
        have F2 : frE m (m + 782 + C.2.1.length) hh g2 := frE_trans F1 (frE_trans (frE_sI (by omega)) (frE_V q2))
        have x2_1 : hI g2 (m + 782 + C.2.1.length) 0 = nI v1 := by rw [q2.2.2.2.2.2.1 _ (by omega), hI_at, va_up_self]
        have hs := l2.1
        have c20 : hI g2 m 31 = nI C.2.1.length := (F2.2.2.2.2.2.2 _ (by omega) (by omega) (by omega)).trans b2
        simp (disch := omega) only [u_1057_232, B_1057_232, nI1T, Nat.left_eq_add, Nat.add_eq_left, Nat.add_eq_zero_iff, and_false, false_and, if_false, if_true, opsN, opsC, pm_1, lg, ls1, ls2, lq, List.length_cons, List.length_nil, cN, cL, callE, retV, retN, pm_pop, pm_cat, List.map_cons, List.map_nil, List.sum_cons, List.sum_nil, Value.category, Option.toList, List.cons_append, List.nil_append, ↓reduceIte, reduceCtorEq, Nat.reduceAdd, Nat.reduceLT, Nat.reduceLeDiff, Nat.reduceSub, Nat.reduceEqDiff, Nat.zero_le, Nat.sub_zero, Nat.le_refl, true_and, and_true, not_true_eq_false, not_false_eq_true, true_or, or_true, lc_eq, lc_ne, lc_lt, lc_ge, lc_gt, lc_le, nI_add, lN_add, nI_leI, nI_ltI, nI_eq, nI_clamp, pk_lLT, pk_lLE, pk_lEQ, pk_sub, vp_inT, nz_eq, nz_lt, nz_ge, nz_gt, nz_le, lz_eq, lz_lt, lz_ge, hP1, hP2, hP3, hP4, hP5, hP6, hP7, hP8, hP9, hP10, hP11, hP12, hP13, hP14, hP15, hP16, hP17, hP18, hP19, hP20, hs.1, m_rt781 hs, m_rn781 hs, c20, va_upE]
        refine c1051 d (mrd_f (by decide) (by decide) (by decide) (by decide) (mrd_sI (by omega) (by omega) l2)) (by decide) ?_
        intro h9 t1 t2
        simp (disch := omega) only [nI1T, Nat.left_eq_add, Nat.add_eq_left, Nat.add_eq_zero_iff, and_false, false_and, if_false, if_true, opsN, opsC, pm_1, lg, ls1, ls2, lq, List.length_cons, List.length_nil, cN, cL, callE, retV, retN, pm_pop, pm_cat, List.map_cons, List.map_nil, List.sum_cons, List.sum_nil, Value.category, Option.toList, List.cons_append, List.nil_append, ↓reduceIte, reduceCtorEq, Nat.reduceAdd, Nat.reduceLT, Nat.reduceLeDiff, Nat.reduceSub, Nat.reduceEqDiff, Nat.zero_le, Nat.sub_zero, Nat.le_refl, true_and, and_true, not_true_eq_false, not_false_eq_true, true_or, or_true, lc_eq, lc_ne, lc_lt, lc_ge, lc_gt, lc_le, nI_add, lN_add, nI_leI, nI_ltI, nI_eq, nI_clamp, pk_lLT, pk_lLE, pk_lEQ, pk_sub, vp_inT, nz_eq, nz_lt, nz_ge, nz_gt, nz_le, lz_eq, lz_lt, lz_ge, hP1, hP2, hP3, hP4, hP5, hP6, hP7, hP8, hP9, hP10, hP11, hP12, hP13, hP14, hP15, hP16, hP17, hP18, hP19, hP20]
        have FF : frE m (m + 782 + C.2.1.length) hh (sI g2 (m + 782 + C.2.1.length) (va_up (hI g2 (m + 782 + C.2.1.length)) 1 (nI v2))) := frE_trans F2 (frE_sI (by omega))
        refine hQ h9 t1 (fun hn => ?_) (frY_trans (frY_V ff) (frY_trans (frY_E (by omega) (by omega) FF) (frY_trans (frY_f (by omega)) (frY_V t2))))
        have z2 := want_none hn
        have z1 := num_none z2
        have e1 := e1 z1
        have e2 := e2 z2
        exact mChR_V t2 (asmV (e := (evP X (p + 5)).2) hO (by omega) hCC FF (by rw [hI_at, va_up_ne _ _ (by decide), x2_1, e1]; rfl) (by rw [hI_at, va_up_self, e2]; rfl) (by show hI (sI g2 (m + 782 + C.2.1.length) (va_up (hI g2 (m + 782 + C.2.1.length)) 1 (nI v2))) m 31 + nI 1 = _; rw [hP1, va_up_ne _ _ (by omega), c20, nI_add]))
    · intro w2 h3 k3 f3
      have w2 : ¬ wd X p wEvent = true := by rw [hid] at w2; rw [w2]; exact fun q => by cases q
      have k3 : mrd h3 m X (p, none) := by rw [hid] at k3; exact k3
      simp (disch := omega) only [u_1057_153, B_1057_153, nI1T, Nat.left_eq_add, Nat.add_eq_left, Nat.add_eq_zero_iff, and_false, false_and, if_false, if_true, opsN, opsC, pm_1, lg, ls1, ls2, lq, List.length_cons, List.length_nil, cN, cL, callE, retV, retN, pm_pop, pm_cat, List.map_cons, List.map_nil, List.sum_cons, List.sum_nil, Value.category, Option.toList, List.cons_append, List.nil_append, ↓reduceIte, reduceCtorEq, Nat.reduceAdd, Nat.reduceLT, Nat.reduceLeDiff, Nat.reduceSub, Nat.reduceEqDiff, Nat.zero_le, Nat.sub_zero, Nat.le_refl, true_and, and_true, not_true_eq_false, not_false_eq_true, true_or, or_true, lc_eq, lc_ne, lc_lt, lc_ge, lc_gt, lc_le, nI_add, lN_add, nI_leI, nI_ltI, nI_eq, nI_clamp, pk_lLT, pk_lLE, pk_lEQ, pk_sub, vp_inT, nz_eq, nz_lt, nz_ge, nz_gt, nz_le, lz_eq, lz_lt, lz_ge, hP1, hP2, hP3, hP4, hP5, hP6, hP7, hP8, hP9, hP10, hP11, hP12, hP13, hP14, hP15, hP16, hP17, hP18, hP19, hP20, k3.1.1]
      refine c1048 d (o := 20) (w := wRule) k3 rfl (by decide) (by decide) rfl (by decide) (by decide) ?_ ?_
      · intro w3 hh kk f4
        have ff := frV_trans f1 (frV_trans f2 (frV_trans f3 f4))
        have w3 : wd X p wRule = true := by rw [← hid]; assumption
        have kk : mrd hh m X (p + 4, none) := by rw [hid] at kk; exact kk
        have hCC := mChR_V ff hC
        obtain ⟨b1, b2, b3, _⟩ := id hCC
        by_cases cm : C.2.2.length = 16
        · have eL : lnP X C p = ((p + 4, some (3, p)), C) := by unfold lnP; rw [if_neg w1, if_neg w2, if_pos w3, if_pos cm]
          simp (disch := omega) only [nI1T, Nat.left_eq_add, Nat.add_eq_left, Nat.add_eq_zero_iff, and_false, false_and, if_false, if_true, opsN, opsC, pm_1, lg, ls1, ls2, lq, List.length_cons, List.length_nil, cN, cL, callE, retV, retN, pm_pop, pm_cat, List.map_cons, List.map_nil, List.sum_cons, List.sum_nil, Value.category, Option.toList, List.cons_append, List.nil_append, ↓reduceIte, reduceCtorEq, Nat.reduceAdd, Nat.reduceLT, Nat.reduceLeDiff, Nat.reduceSub, Nat.reduceEqDiff, Nat.zero_le, Nat.sub_zero, Nat.le_refl, true_and, and_true, not_true_eq_false, not_false_eq_true, true_or, or_true, lc_eq, lc_ne, lc_lt, lc_ge, lc_gt, lc_le, nI_add, lN_add, nI_leI, nI_ltI, nI_eq, nI_clamp, pk_lLT, pk_lLE, pk_lEQ, pk_sub, vp_inT, nz_eq, nz_lt, nz_ge, nz_gt, nz_le, lz_eq, lz_lt, lz_ge, hP1, hP2, hP3, hP4, hP5, hP6, hP7, hP8, hP9, hP10, hP11, hP12, hP13, hP14, hP15, hP16, hP17, hP18, hP19, hP20, kk.1.1, b1, b2, b3, cm]
          refine c1044 (d + 2) kk (by decide) (by decide) (by omega) ?_
          intro h3 l1 l2
          simp (disch := omega) only [nI1T, Nat.left_eq_add, Nat.add_eq_left, Nat.add_eq_zero_iff, and_false, false_and, if_false, if_true, opsN, opsC, pm_1, lg, ls1, ls2, lq, List.length_cons, List.length_nil, cN, cL, callE, retV, retN, pm_pop, pm_cat, List.map_cons, List.map_nil, List.sum_cons, List.sum_nil, Value.category, Option.toList, List.cons_append, List.nil_append, ↓reduceIte, reduceCtorEq, Nat.reduceAdd, Nat.reduceLT, Nat.reduceLeDiff, Nat.reduceSub, Nat.reduceEqDiff, Nat.zero_le, Nat.sub_zero, Nat.le_refl, true_and, and_true, not_true_eq_false, not_false_eq_true, true_or, or_true, lc_eq, lc_ne, lc_lt, lc_ge, lc_gt, lc_le, nI_add, lN_add, nI_leI, nI_ltI, nI_eq, nI_clamp, pk_lLT, pk_lLE, pk_lEQ, pk_sub, vp_inT, nz_eq, nz_lt, nz_ge, nz_gt, nz_le, lz_eq, lz_lt, lz_ge, hP1, hP2, hP3, hP4, hP5, hP6, hP7, hP8, hP9, hP10, hP11, hP12, hP13, hP14, hP15, hP16, hP17, hP18, hP19, hP20]
          rw [eL] at hQ
          exact hQ h3 (mrd_bad l1 rfl) (fun q => absurd (want_none q) (fun z => by cases z)) (frY_V (frV_trans ff l2))
        · have eL : lnP X C p = ((ruP X (p + 4)).1, (C.1, C.2.1, C.2.2 ++ [(ruP X (p + 4)).2])) := by unfold lnP; rw [if_neg w1, if_neg w2, if_pos w3, if_neg cm]
          rw [eL] at hQ
          have hs := kk.1
          simp (disch := omega) only [u_1057_179, B_1057_179, nI1T, Nat.left_eq_add, Nat.add_eq_left, Nat.add_eq_zero_iff, and_false, false_and, if_false, if_true, opsN, opsC, pm_1, lg, ls1, ls2, lq, List.length_cons, List.length_nil, cN, cL, callE, retV, retN, pm_pop, pm_cat, List.map_cons, List.map_nil, List.sum_cons, List.sum_nil, Value.category, Option.toList, List.cons_append, List.nil_append, ↓reduceIte, reduceCtorEq, Nat.reduceAdd, Nat.reduceLT, Nat.reduceLeDiff, Nat.reduceSub, Nat.reduceEqDiff, Nat.zero_le, Nat.sub_zero, Nat.le_refl, true_and, and_true, not_true_eq_false, not_false_eq_true, true_or, or_true, lc_eq, lc_ne, lc_lt, lc_ge, lc_gt, lc_le, nI_add, lN_add, nI_leI, nI_ltI, nI_eq, nI_clamp, pk_lLT, pk_lLE, pk_lEQ, pk_sub, vp_inT, nz_eq, nz_lt, nz_ge, nz_gt, nz_le, lz_eq, lz_lt, lz_ge, hP1, hP2, hP3, hP4, hP5, hP6, hP7, hP8, hP9, hP10, hP11, hP12, hP13, hP14, hP15, hP16, hP17, hP18, hP19, hP20, hs.1, m_g24 hs, m_t794 hs, m_n794 hs, m_r794 hs, m_rt794 hs, m_rn794 hs, b1, b2, b3, cm]
          refine c1050 d kk ?_
          intro g1 v1 l1 e1 q1
          have F1 : frE m (m + 795 + C.2.2.length) hh g1 := frE_V q1
          have hs := l1.1
          have c10 : hI g1 m 32 = nI C.2.2.length := (F1.2.2.2.2.2.2 _ (by omega) (by omega) (by omega)).trans b3
          simp (disch := omega) only [u_1057_232, B_1057_232, nI1T, Nat.left_eq_add, Nat.add_eq_left, Nat.add_eq_zero_iff, and_false, false_and, if_false, if_true, opsN, opsC, pm_1, lg, ls1, ls2, lq, List.length_cons, List.length_nil, cN, cL, callE, retV, retN, pm_pop, pm_cat, List.map_cons, List.map_nil, List.sum_cons, List.sum_nil, Value.category, Option.toList, List.cons_append, List.nil_append, ↓reduceIte, reduceCtorEq, Nat.reduceAdd, Nat.reduceLT, Nat.reduceLeDiff, Nat.reduceSub, Nat.reduceEqDiff, Nat.zero_le, Nat.sub_zero, Nat.le_refl, true_and, and_true, not_true_eq_false, not_false_eq_true, true_or, or_true, lc_eq, lc_ne, lc_lt, lc_ge, lc_gt, lc_le, nI_add, lN_add, nI_leI, nI_ltI, nI_eq, nI_clamp, pk_lLT, pk_lLE, pk_lEQ, pk_sub, vp_inT, nz_eq, nz_lt, nz_ge, nz_gt, nz_le, lz_eq, lz_lt, lz_ge, hP1, hP2, hP3, hP4, hP5, hP6, hP7, hP8, hP9, hP10, hP11, hP12, hP13, hP14, hP15, hP16, hP17, hP18, hP19, hP20, hs.1, m_rt794 hs, m_rn794 hs, c10, va_upE]
          refine c1049 d (mrd_sI (by omega) (by omega) l1) (by decide) ?_
          intro g2 v2 l2 e2 q2
          have F2 : frE m (m + 795 + C.2.2.length) hh g2 := frE_trans F1 (frE_trans (frE_sI (by omega)) (frE_V q2))
          have x2_1 : hI g2 (m + 795 + C.2.2.length) 0 = nI v1 := by rw [q2.2.2.2.2.2.1 _ (by omega), hI_at, va_up_self]
          have hs := l2.1
          have c20 : hI g2 m 32 = nI C.2.2.length := (F2.2.2.2.2.2.2 _ (by omega) (by omega) (by omega)).trans b3
          simp (disch := omega) only [u_1057_232, B_1057_232, nI1T, Nat.left_eq_add, Nat.add_eq_left, Nat.add_eq_zero_iff, and_false, false_and, if_false, if_true, opsN, opsC, pm_1, lg, ls1, ls2, lq, List.length_cons, List.length_nil, cN, cL, callE, retV, retN, pm_pop, pm_cat, List.map_cons, List.map_nil, List.sum_cons, List.sum_nil, Value.category, Option.toList, List.cons_append, List.nil_append, ↓reduceIte, reduceCtorEq, Nat.reduceAdd, Nat.reduceLT, Nat.reduceLeDiff, Nat.reduceSub, Nat.reduceEqDiff, Nat.zero_le, Nat.sub_zero, Nat.le_refl, true_and, and_true, not_true_eq_false, not_false_eq_true, true_or, or_true, lc_eq, lc_ne, lc_lt, lc_ge, lc_gt, lc_le, nI_add, lN_add, nI_leI, nI_ltI, nI_eq, nI_clamp, pk_lLT, pk_lLE, pk_lEQ, pk_sub, vp_inT, nz_eq, nz_lt, nz_ge, nz_gt, nz_le, lz_eq, lz_lt, lz_ge, hP1, hP2, hP3, hP4, hP5, hP6, hP7, hP8, hP9, hP10, hP11, hP12, hP13, hP14, hP15, hP16, hP17, hP18, hP19, hP20, hs.1, m_rt794 hs, m_rn794 hs, c20, va_upE]
          refine c1050 d (mrd_sI (by omega) (by omega) l2) ?_
          intro g3 v3 l3 e3 q3
          have F3 : frE m (m + 795 + C.2.2.length) hh g3 := frE_trans F2 (frE_trans (frE_sI (by omega)) (frE_V q3))
          have x3_1 : hI g3 (m + 795 + C.2.2.length) 0 = nI v1 := by rw [q3.2.2.2.2.2.1 _ (by omega), hI_at, va_up_ne _ _ (by decide)]; exact x2_1
          have x3_2 : hI g3 (m + 795 + C.2.2.length) 1 = nI v2 := by rw [q3.2.2.2.2.2.1 _ (by omega), hI_at, va_up_self]
          have hs := l3.1
          have c30 : hI g3 m 32 = nI C.2.2.length := (F3.2.2.2.2.2.2 _ (by omega) (by omega) (by omega)).trans b3
          simp (disch := omega) only [u_1057_232, B_1057_232, nI1T, Nat.left_eq_add, Nat.add_eq_left, Nat.add_eq_zero_iff, and_false, false_and, if_false, if_true, opsN, opsC, pm_1, lg, ls1, ls2, lq, List.length_cons, List.length_nil, cN, cL, callE, retV, retN, pm_pop, pm_cat, List.map_cons, List.map_nil, List.sum_cons, List.sum_nil, Value.category, Option.toList, List.cons_append, List.nil_append, ↓reduceIte, reduceCtorEq, Nat.reduceAdd, Nat.reduceLT, Nat.reduceLeDiff, Nat.reduceSub, Nat.reduceEqDiff, Nat.zero_le, Nat.sub_zero, Nat.le_refl, true_and, and_true, not_true_eq_false, not_false_eq_true, true_or, or_true, lc_eq, lc_ne, lc_lt, lc_ge, lc_gt, lc_le, nI_add, lN_add, nI_leI, nI_ltI, nI_eq, nI_clamp, pk_lLT, pk_lLE, pk_lEQ, pk_sub, vp_inT, nz_eq, nz_lt, nz_ge, nz_gt, nz_le, lz_eq, lz_lt, lz_ge, hP1, hP2, hP3, hP4, hP5, hP6, hP7, hP8, hP9, hP10, hP11, hP12, hP13, hP14, hP15, hP16, hP17, hP18, hP19, hP20, hs.1, m_rt794 hs, m_rn794 hs, c30, va_upE]
          refine c1051 d (mrd_f (by decide) (by decide) (by decide) (by decide) (mrd_sI (by omega) (by omega) l3)) (by decide) ?_
          intro h9 t1 t2
          simp (disch := omega) only [nI1T, Nat.left_eq_add, Nat.add_eq_left, Nat.add_eq_zero_iff, and_false, false_and, if_false, if_true, opsN, opsC, pm_1, lg, ls1, ls2, lq, List.length_cons, List.length_nil, cN, cL, callE, retV, retN, pm_pop, pm_cat, List.map_cons, List.map_nil, List.sum_cons, List.sum_nil, Value.category, Option.toList, List.cons_append, List.nil_append, ↓reduceIte, reduceCtorEq, Nat.reduceAdd, Nat.reduceLT, Nat.reduceLeDiff, Nat.reduceSub, Nat.reduceEqDiff, Nat.zero_le, Nat.sub_zero, Nat.le_refl, true_and, and_true, not_true_eq_false, not_false_eq_true, true_or, or_true, lc_eq, lc_ne, lc_lt, lc_ge, lc_gt, lc_le, nI_add, lN_add, nI_leI, nI_ltI, nI_eq, nI_clamp, pk_lLT, pk_lLE, pk_lEQ, pk_sub, vp_inT, nz_eq, nz_lt, nz_ge, nz_gt, nz_le, lz_eq, lz_lt, lz_ge, hP1, hP2, hP3, hP4, hP5, hP6, hP7, hP8, hP9, hP10, hP11, hP12, hP13, hP14, hP15, hP16, hP17, hP18, hP19, hP20]
          have FF : frE m (m + 795 + C.2.2.length) hh (sI g3 (m + 795 + C.2.2.length) (va_up (hI g3 (m + 795 + C.2.2.length)) 2 (nI v3))) := frE_trans F3 (frE_sI (by omega))
          refine hQ h9 t1 (fun hn => ?_) (frY_trans (frY_V ff) (frY_trans (frY_E (by omega) (by omega) FF) (frY_trans (frY_f (by omega)) (frY_V t2))))
          have z3 := want_none hn
          have z2 := let_none z3
          have z1 := num_none z2
          have e1 := e1 z1
          have e2 := e2 z2
          have e3 := e3 z3
          exact mChR_V t2 (asmR (e := (ruP X (p + 4)).2) hO (by omega) hCC FF (by rw [hI_at, va_up_ne _ _ (by decide), x3_1, e1]; rfl) (by rw [hI_at, va_up_ne _ _ (by decide), x3_2, e2]; rfl) (by rw [hI_at, va_up_self, e3]; rfl) (by show hI (sI g3 (m + 795 + C.2.2.length) (va_up (hI g3 (m + 795 + C.2.2.length)) 2 (nI v3))) m 32 + nI 1 = _; rw [hP1, va_up_ne _ _ (by omega), c30, nI_add]))
      · intro w3 h4 k4 f4
        have w3 : ¬ wd X p wRule = true := by rw [hid] at w3; rw [w3]; exact fun q => by cases q
        have k4 : mrd h4 m X (p, none) := by rw [hid] at k4; exact k4
        have eL : lnP X C p = ((p, some (1, p)), C) := by unfold lnP; rw [if_neg w1, if_neg w2, if_neg w3]
        rw [eL] at hQ
        simp (disch := omega) only [u_1057_226, B_1057_226, nI1T, Nat.left_eq_add, Nat.add_eq_left, Nat.add_eq_zero_iff, and_false, false_and, if_false, if_true, opsN, opsC, pm_1, lg, ls1, ls2, lq, List.length_cons, List.length_nil, cN, cL, callE, retV, retN, pm_pop, pm_cat, List.map_cons, List.map_nil, List.sum_cons, List.sum_nil, Value.category, Option.toList, List.cons_append, List.nil_append, ↓reduceIte, reduceCtorEq, Nat.reduceAdd, Nat.reduceLT, Nat.reduceLeDiff, Nat.reduceSub, Nat.reduceEqDiff, Nat.zero_le, Nat.sub_zero, Nat.le_refl, true_and, and_true, not_true_eq_false, not_false_eq_true, true_or, or_true, lc_eq, lc_ne, lc_lt, lc_ge, lc_gt, lc_le, nI_add, lN_add, nI_leI, nI_ltI, nI_eq, nI_clamp, pk_lLT, pk_lLE, pk_lEQ, pk_sub, vp_inT, nz_eq, nz_lt, nz_ge, nz_gt, nz_le, lz_eq, lz_lt, lz_ge, hP1, hP2, hP3, hP4, hP5, hP6, hP7, hP8, hP9, hP10, hP11, hP12, hP13, hP14, hP15, hP16, hP17, hP18, hP19, hP20, k4.1.1]
        refine c1044 (d + 2) k4 (by decide) (by decide) (by omega) ?_
        intro h6 l1 l2
        simp (disch := omega) only [u_1057_232, B_1057_232, nI1T, Nat.left_eq_add, Nat.add_eq_left, Nat.add_eq_zero_iff, and_false, false_and, if_false, if_true, opsN, opsC, pm_1, lg, ls1, ls2, lq, List.length_cons, List.length_nil, cN, cL, callE, retV, retN, pm_pop, pm_cat, List.map_cons, List.map_nil, List.sum_cons, List.sum_nil, Value.category, Option.toList, List.cons_append, List.nil_append, ↓reduceIte, reduceCtorEq, Nat.reduceAdd, Nat.reduceLT, Nat.reduceLeDiff, Nat.reduceSub, Nat.reduceEqDiff, Nat.zero_le, Nat.sub_zero, Nat.le_refl, true_and, and_true, not_true_eq_false, not_false_eq_true, true_or, or_true, lc_eq, lc_ne, lc_lt, lc_ge, lc_gt, lc_le, nI_add, lN_add, nI_leI, nI_ltI, nI_eq, nI_clamp, pk_lLT, pk_lLE, pk_lEQ, pk_sub, vp_inT, nz_eq, nz_lt, nz_ge, nz_gt, nz_le, lz_eq, lz_lt, lz_ge, hP1, hP2, hP3, hP4, hP5, hP6, hP7, hP8, hP9, hP10, hP11, hP12, hP13, hP14, hP15, hP16, hP17, hP18, hP19, hP20, l1.1.1]
        refine c1051 d l1 (by decide) ?_
        intro h7 n1 n2
        simp (disch := omega) only [nI1T, Nat.left_eq_add, Nat.add_eq_left, Nat.add_eq_zero_iff, and_false, false_and, if_false, if_true, opsN, opsC, pm_1, lg, ls1, ls2, lq, List.length_cons, List.length_nil, cN, cL, callE, retV, retN, pm_pop, pm_cat, List.map_cons, List.map_nil, List.sum_cons, List.sum_nil, Value.category, Option.toList, List.cons_append, List.nil_append, ↓reduceIte, reduceCtorEq, Nat.reduceAdd, Nat.reduceLT, Nat.reduceLeDiff, Nat.reduceSub, Nat.reduceEqDiff, Nat.zero_le, Nat.sub_zero, Nat.le_refl, true_and, and_true, not_true_eq_false, not_false_eq_true, true_or, or_true, lc_eq, lc_ne, lc_lt, lc_ge, lc_gt, lc_le, nI_add, lN_add, nI_leI, nI_ltI, nI_eq, nI_clamp, pk_lLT, pk_lLE, pk_lEQ, pk_sub, vp_inT, nz_eq, nz_lt, nz_ge, nz_gt, nz_le, lz_eq, lz_lt, lz_ge, hP1, hP2, hP3, hP4, hP5, hP6, hP7, hP8, hP9, hP10, hP11, hP12, hP13, hP14, hP15, hP16, hP17, hP18, hP19, hP20]
        exact hQ h7 n1 (fun q => absurd (want_none q) (fun z => by cases z)) (frY_V (frV_trans f1 (frV_trans f2 (frV_trans f3 (frV_trans f4 (frV_trans l2 n2))))))
end CM
