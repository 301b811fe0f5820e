/-! ===== the plan's loops, its steps, the whole plan: the class ===== -/
def stk (h : pm_H) (c : Nat) : Ks → Prop
  | [] => True
  | (n, o) :: K => hI h (c + 4) K.length = nI ((fullC K o).take 400).length ∧ hI h (c + 5) K.length = nI n ∧ n ≤ 50 ∧ stk h c K
def isPn (h : pm_H) (c : Nat) (cur : List St) (K : Ks) (W : Nat) : Prop := plS h c ∧ isS h c ((fullC K cur).take 400) ∧ hI h c 6 = nI W ∧ hI h c 7 = nI K.length ∧ K.length ≤ 3 ∧ stk h c K
theorem stk_eq {h h' : pm_H} {c : Nat} (h1 : hI h' (c + 4) = hI h (c + 4)) (h2 : hI h' (c + 5) = hI h (c + 5)) : ∀ {K : Ks}, stk h c K → stk h' c K
  | [], _ => trivial
  | (n, o) :: K, hk => by
    obtain ⟨a, b, e, f⟩ := hk
    exact ⟨by rw [h1]; exact a, by rw [h2]; exact b, e, stk_eq h1 h2 f⟩
/-- above the stack nothing counts -/
theorem stk_up {h h' : pm_H} {c N : Nat} (h1 : ∀ j, j < N → hI h' (c + 4) j = hI h (c + 4) j) (h2 : ∀ j, j < N → hI h' (c + 5) j = hI h (c + 5) j) : ∀ {K : Ks}, K.length ≤ N → stk h c K → stk h' c K
  | [], _, _ => trivial
  | (n, o) :: K, hl, hk => by
    obtain ⟨a, b, e, f⟩ := hk
    rw [List.length_cons] at hl
    exact ⟨by rw [h1 _ (by omega)]; exact a, by rw [h2 _ (by omega)]; exact b, e, stk_up h1 h2 (by omega) f⟩
theorem plS_sI {h : pm_H} {c k : Nat} {g : Nat → Int32} (hs : plS h c) : plS (sI h k g) c := plS_eq (h := h) rfl rfl rfl hs
theorem frW_S {t c : Nat} {h h' : pm_H} (htc : t + 1 < c) (a : frS c h h') : frW t c (c + 6) h h' := ⟨a.1, a.2.1, a.2.2.1, a.2.2.2.1, a.2.2.2.2.1, fun k _ q => a.2.2.2.2.2.1 k (by omega), fun j _ _ _ => by rw [a.2.2.2.2.2.1 t (by omega)]⟩
theorem isPn_R {h h' : pm_H} {t c W : Nat} {cur : List St} {K : Ks} (f : frR t h h') (htc : t + 1 < c) (hP : isPn h c cur K W) : isPn h' c cur K W := by
  obtain ⟨a1, a2, a3, a4, a5, a6⟩ := hP
  have e : ∀ k, c ≤ k → hI h' k = hI h k := fun k q => f.2.2.2.2.2.1 k (by omega)
  exact ⟨plS_eq f.1 f.2.1 (by rw [f.2.2.1]) a1, isS_eq (fun k q1 q2 => e k q1) a2, by rw [e c (by omega)]; exact a3, by rw [e c (by omega)]; exact a4, a5, stk_eq (e _ (by omega)) (e _ (by omega)) a6⟩
section PC3
variable {h : pm_H} {c t : Nat} {cur : List St} {K : Ks} {W : Nat} {X : List Nat} {Q : pm_Q}
theorem rpt_nil : ∀ n, rpt n [] = [] := fun n => by
  induction n with
  | zero => rfl
  | succ n ih => rw [rpt_s, ih]; rfl
/-- the line of copies -/
theorem l405 (d : Nat) {A Bd : List St} {N n : Nat} (hAB : A.length + Bd.length ≤ 400) (hn50 : n ≤ 50) (hN : N < 3) : ∀ (r j : Nat) (h : pm_H), r + j = n → 1 ≤ j → plS h c → isS h c ((A ++ rpt j Bd).take 400) → hI h c 7 = nI N → hI h (c + 5) N = nI n →
      (∀ h', isS h' c ((A ++ rpt n Bd).take 400) → frS c h h' → Q (.inl none) h') →
      pm_W PP (d + 1) 405 Q 0 0 54 [some (.ref c), some (.int (nI A.length)), some (.int (nI Bd.length)), some (.int (nI j))] [] h := by
  intro r
  induction r with
  | zero =>
    intro j h hj h1 hs hS1 f7 f5 hQ
    have e : j = n := by omega
    subst e
    have c1 : j ≤ j := Nat.le_refl _
    obtain ⟨s0, s1, s2, s3, s4, s5, u1, u2, u3, u4, u5, n1, n2, n3, n4, n5⟩ := hs
    rw [u_405_54]
    simp (disch := omega) only [B_405_54, u_405_83, B_405_83, nI1T, Nat.left_eq_add, Nat.add_eq_left, Nat.add_eq_zero_iff, and_false, false_and, if_false, if_true, opsN, opsC, pm_1, lg, ls1, ls2, lq, List.length_cons, List.length_nil, cN, cL, callE, retV, retN, pm_pop, pm_cat, List.map_cons, List.map_nil, List.sum_cons, List.sum_nil, Value.category, Option.toList, List.cons_append, List.nil_append, ↓reduceIte, reduceCtorEq, Nat.reduceAdd, Nat.reduceLT, Nat.reduceLeDiff, Nat.reduceSub, Nat.reduceEqDiff, Nat.zero_le, Nat.sub_zero, Nat.le_refl, true_and, and_true, not_true_eq_false, not_false_eq_true, true_or, or_true, lc_eq, lc_ne, lc_lt, lc_ge, lc_gt, lc_le, nI_add, lN_add, nI_leI, nI_ltI, nI_eq, nI_clamp, pk_lLT, pk_lLE, pk_lEQ, pk_sub, vp_inT, nz_eq, nz_lt, nz_ge, nz_gt, nz_le, lz_eq, lz_lt, lz_ge, hP1, hP2, hP3, hP4, hP5, hP6, hP7, hP8, hP9, hP10, hP11, hP12, hP13, hP14, hP15, hP16, hP17, hP18, hP19, hP20, s0, s5, u5, n5, f7, f5, c1]
    exact hQ h hS1 (frS_refl _ _)
  | succ r ih =>
    intro j h hj h1 hs hS1 f7 f5 hQ
    have hs0 := hs
    have c1 : ¬ n ≤ j := by omega
    obtain ⟨s0, s1, s2, s3, s4, s5, u1, u2, u3, u4, u5, n1, n2, n3, n4, n5⟩ := hs
    by_cases e0 : Bd.length = 0
    · have eB : Bd = [] := List.length_eq_zero_iff.mp e0
      rw [u_405_54]
      simp (disch := omega) only [B_405_54, u_405_83, B_405_83, nI1T, Nat.left_eq_add, Nat.add_eq_left, Nat.add_eq_zero_iff, and_false, false_and, if_false, if_true, opsN, opsC, pm_1, lg, ls1, ls2, lq, List.length_cons, List.length_nil, cN, cL, callE, retV, retN, pm_pop, pm_cat, List.map_cons, List.map_nil, List.sum_cons, List.sum_nil, Value.category, Option.toList, List.cons_append, List.nil_append, ↓reduceIte, reduceCtorEq, Nat.reduceAdd, Nat.reduceLT, Nat.reduceLeDiff, Nat.reduceSub, Nat.reduceEqDiff, Nat.zero_le, Nat.sub_zero, Nat.le_refl, true_and, and_true, not_true_eq_false, not_false_eq_true, true_or, or_true, lc_eq, lc_ne, lc_lt, lc_ge, lc_gt, lc_le, nI_add, lN_add, nI_leI, nI_ltI, nI_eq, nI_clamp, pk_lLT, pk_lLE, pk_lEQ, pk_sub, vp_inT, nz_eq, nz_lt, nz_ge, nz_gt, nz_le, lz_eq, lz_lt, lz_ge, hP1, hP2, hP3, hP4, hP5, hP6, hP7, hP8, hP9, hP10, hP11, hP12, hP13, hP14, hP15, hP16, hP17, hP18, hP19, hP20, s0, s5, u5, n5, f7, f5, c1, e0]
      refine hQ h ?_ (frS_refl _ _)
      rw [eB, rpt_nil] at hS1 ⊢
      exact hS1
    · rw [u_405_54]
      simp (disch := omega) only [B_405_54, nI1T, Nat.left_eq_add, Nat.add_eq_left, Nat.add_eq_zero_iff, and_false, false_and, if_false, if_true, opsN, opsC, pm_1, lg, ls1, ls2, lq, List.length_cons, List.length_nil, cN, cL, callE, retV, retN, pm_pop, pm_cat, List.map_cons, List.map_nil, List.sum_cons, List.sum_nil, Value.category, Option.toList, List.cons_append, List.nil_append, ↓reduceIte, reduceCtorEq, Nat.reduceAdd, Nat.reduceLT, Nat.reduceLeDiff, Nat.reduceSub, Nat.reduceEqDiff, Nat.zero_le, Nat.sub_zero, Nat.le_refl, true_and, and_true, not_true_eq_false, not_false_eq_true, true_or, or_true, lc_eq, lc_ne, lc_lt, lc_ge, lc_gt, lc_le, nI_add, lN_add, nI_leI, nI_ltI, nI_eq, nI_clamp, pk_lLT, pk_lLE, pk_lEQ, pk_sub, vp_inT, nz_eq, nz_lt, nz_ge, nz_gt, nz_le, lz_eq, lz_lt, lz_ge, hP1, hP2, hP3, hP4, hP5, hP6, hP7, hP8, hP9, hP10, hP11, hP12, hP13, hP14, hP15, hP16, hP17, hP18, hP19, hP20, s0, s5, u5, n5, f7, f5, c1, e0]
      have ej : rpt j Bd = Bd ++ rpt (j - 1) Bd := by rw [← rpt_s]; congr 1; omega
      have hl : A.length + Bd.length ≤ ((A ++ rpt j Bd).take 400).length := by
        rw [ej, List.length_take, List.length_append, List.length_append]; omega
      refine c406 d hs0 hS1 hl ?_
      intro h1' q1 q2
      simp (disch := omega) only [nI1T, Nat.left_eq_add, Nat.add_eq_left, Nat.add_eq_zero_iff, and_false, false_and, if_false, if_true, opsN, opsC, pm_1, lg, ls1, ls2, lq, List.length_cons, List.length_nil, cN, cL, callE, retV, retN, pm_pop, pm_cat, List.map_cons, List.map_nil, List.sum_cons, List.sum_nil, Value.category, Option.toList, List.cons_append, List.nil_append, ↓reduceIte, reduceCtorEq, Nat.reduceAdd, Nat.reduceLT, Nat.reduceLeDiff, Nat.reduceSub, Nat.reduceEqDiff, Nat.zero_le, Nat.sub_zero, Nat.le_refl, true_and, and_true, not_true_eq_false, not_false_eq_true, true_or, or_true, lc_eq, lc_ne, lc_lt, lc_ge, lc_gt, lc_le, nI_add, lN_add, nI_leI, nI_ltI, nI_eq, nI_clamp, pk_lLT, pk_lLE, pk_lEQ, pk_sub, vp_inT, nz_eq, nz_lt, nz_ge, nz_gt, nz_le, lz_eq, lz_lt, lz_ge, hP1, hP2, hP3, hP4, hP5, hP6, hP7, hP8, hP9, hP10, hP11, hP12, hP13, hP14, hP15, hP16, hP17, hP18, hP19, hP20]
      have ed : (((A ++ rpt j Bd).take 400).drop A.length).take Bd.length = Bd := by
        rw [ej, ← List.append_assoc, List.take_append, List.take_of_length_le (l := A ++ Bd) (by rw [List.length_append]; exact hAB), List.append_assoc, List.drop_left, List.take_left]
      rw [ed, tk_tk, List.append_assoc, ← rpt_e] at q1
      exact ih (j + 1) h1' (by omega) (by omega) (plS_eq q2.1 q2.2.1 (by rw [q2.2.2.1]) hs0) q1 (by rw [q2.2.2.2.2.2.2 7 (by decide)]; exact f7) (by rw [q2.2.2.2.2.2.1 _ (by omega)]; exact f5) (fun h' z1 z2 => hQ h' z1 (frS_trans q2 z2))
theorem c405 (d : Nat) {n : Nat} {o : List St} (hP : isPn h c cur ((n, o) :: K) W) (hQ : ∀ h', isPn h' c (o ++ rpt n cur) K W → fr c (c + 4) h h' → hL h' = hL h → Q (.inl none) h') : pm_M PP (d + 2) 405 [.ref c] h Q := by
  obtain ⟨hs, hS1, f6, f7, hl, k1, k2, k3, k4⟩ := hP
  have hs0 := hs
  obtain ⟨s0, s1, s2, s3, s4, s5, u1, u2, u3, u4, u5, n1, n2, n3, n4, n5⟩ := hs
  rw [List.length_cons] at hl f7
  have f5 := hS1.2.1
  have hl400 := hS1.1
  have eS : (fullC ((n, o) :: K) cur).take 400 = (fullC K o).take 400 ++ cur.take (400 - ((fullC K o).take 400).length) := by
    show (fullC K o ++ cur).take 400 = _
    rw [List.take_append, List.length_take]
    congr 2
    by_cases q : (fullC K o).length ≤ 400
    · rw [Nat.min_eq_right q]
    · rw [Nat.min_eq_left (by omega)]; omega
  rw [eS] at hS1 f5 hl400
  rw [List.length_append] at f5 hl400
  have ek : K.length + 1 - 1 = K.length := by omega
  have eb : ((fullC K o).take 400).length + (cur.take (400 - ((fullC K o).take 400).length)).length - ((fullC K o).take 400).length = (cur.take (400 - ((fullC K o).take 400).length)).length := by omega
  have fin := tk_rpt (N := 400) (L := fullC K o) (U := cur) n
  generalize (cur.take (400 - ((fullC K o).take 400).length)) = Bd at *
  have fin2 : ((fullC K (o ++ rpt n cur)).take 400) = ((fullC K o).take 400 ++ rpt n Bd).take 400 := by rw [fullC_app, fin]
  generalize (fullC K o).take 400 = A at *
  have post : ∀ h1, hT h1 = hT h → hN h1 = hN h → hR h1 = hR h → hn h1 = hn h → hL h1 = hL h → (∀ k, (k < c ∨ c + 4 ≤ k) → hI h1 k = hI h k) → hI h1 c 6 = nI W → hI h1 c 7 = nI K.length → isS h1 c ((A ++ rpt n Bd).take 400) → Q (.inl none) h1 := fun h1 a1 a2 a3 a4 a5 a6 a7 a8 a9 => by
    refine hQ h1 ⟨plS_eq a1 a2 (by rw [a3]) hs0, by rw [fin2]; exact a9, a7, a8, by omega, stk_eq (a6 _ (by omega)) (a6 _ (by omega)) k4⟩ ⟨a1, a2, a3, a4, fun k q => ⟨a6 k q, by rw [a5]⟩⟩ a5
  have c0 : 0 < K.length + 1 := by omega
  rw [e_405]
  by_cases e0 : n = 0
  · subst e0
    have c1 : (0 : Nat) ≤ 1 := by omega
    simp (disch := omega) only [u_405_0, B_405_0, u_405_8, B_405_8, u_405_52, B_405_52, nI1T, Nat.left_eq_add, Nat.add_eq_left, Nat.add_eq_zero_iff, and_false, false_and, if_false, if_true, opsN, opsC, pm_1, lg, ls1, ls2, lq, List.length_cons, List.length_nil, cN, cL, callE, retV, retN, pm_pop, pm_cat, List.map_cons, List.map_nil, List.sum_cons, List.sum_nil, Value.category, Option.toList, List.cons_append, List.nil_append, ↓reduceIte, reduceCtorEq, Nat.reduceAdd, Nat.reduceLT, Nat.reduceLeDiff, Nat.reduceSub, Nat.reduceEqDiff, Nat.zero_le, Nat.sub_zero, Nat.le_refl, true_and, and_true, not_true_eq_false, not_false_eq_true, true_or, or_true, lc_eq, lc_ne, lc_lt, lc_ge, lc_gt, lc_le, nI_add, lN_add, nI_leI, nI_ltI, nI_eq, nI_clamp, pk_lLT, pk_lLE, pk_lEQ, pk_sub, vp_inT, nz_eq, nz_lt, nz_ge, nz_gt, nz_le, lz_eq, lz_lt, lz_ge, hP1, hP2, hP3, hP4, hP5, hP6, hP7, hP8, hP9, hP10, hP11, hP12, hP13, hP14, hP15, hP16, hP17, hP18, hP19, hP20, s0, s4, s5, u4, u5, n4, n5, f7, c0, ek, k1, k2, f5, eb, va_upE]
    rw [u_405_54]
    simp (disch := omega) only [B_405_54, u_405_83, B_405_83, nI1T, Nat.left_eq_add, Nat.add_eq_left, Nat.add_eq_zero_iff, and_false, false_and, if_false, if_true, opsN, opsC, pm_1, lg, ls1, ls2, lq, List.length_cons, List.length_nil, cN, cL, callE, retV, retN, pm_pop, pm_cat, List.map_cons, List.map_nil, List.sum_cons, List.sum_nil, Value.category, Option.toList, List.cons_append, List.nil_append, ↓reduceIte, reduceCtorEq, Nat.reduceAdd, Nat.reduceLT, Nat.reduceLeDiff, Nat.reduceSub, Nat.reduceEqDiff, Nat.zero_le, Nat.sub_zero, Nat.le_refl, true_and, and_true, not_true_eq_false, not_false_eq_true, true_or, or_true, lc_eq, lc_ne, lc_lt, lc_ge, lc_gt, lc_le, nI_add, lN_add, nI_leI, nI_ltI, nI_eq, nI_clamp, pk_lLT, pk_lLE, pk_lEQ, pk_sub, vp_inT, nz_eq, nz_lt, nz_ge, nz_gt, nz_le, lz_eq, lz_lt, lz_ge, hP1, hP2, hP3, hP4, hP5, hP6, hP7, hP8, hP9, hP10, hP11, hP12, hP13, hP14, hP15, hP16, hP17, hP18, hP19, hP20, s0, s5, u5, n5, k2, c1, va_upE, sI_sI]
    refine post _ rfl rfl rfl rfl rfl (fun k q => ?_) ?_ ?_ ⟨?_, ?_, fun i hi => ?_⟩
    · rw [hP1, va_up_ne _ _ (by omega)]
    · rw [hI_at, va_up_ne _ _ (by decide), va_up_ne _ _ (by decide)]; exact f6
    · rw [hI_at, va_up_ne _ _ (by decide), va_up_self]
    · rw [List.length_take, List.length_append]; show min 400 (A.length + 0) ≤ 400; omega
    · rw [hI_at, va_up_self]
      show nI A.length = nI ((A ++ []).take 400).length
      rw [List.append_nil, List.length_take, Nat.min_eq_right (by omega)]
    · have hi : i < ((A ++ []).take 400).length := hi
      show _ ∧ _
      have e9 : (A ++ rpt 0 Bd).take 400 = A := by show (A ++ []).take 400 = A; rw [List.append_nil, List.take_of_length_le (by omega)]
      rw [e9]
      rw [List.append_nil, List.take_of_length_le (by omega)] at hi
      have := hS1.2.2 i (by rw [List.length_append]; omega)
      rw [getD_ap, if_pos hi] at this
      rw [hP1, va_up_ne _ _ (by omega), va_up_ne _ _ (by omega), va_up_ne _ _ (by omega)]
      exact this
  · simp (disch := omega) only [u_405_0, B_405_0, u_405_8, B_405_8, u_405_52, B_405_52, nI1T, Nat.left_eq_add, Nat.add_eq_left, Nat.add_eq_zero_iff, and_false, false_and, if_false, if_true, opsN, opsC, pm_1, lg, ls1, ls2, lq, List.length_cons, List.length_nil, cN, cL, callE, retV, retN, pm_pop, pm_cat, List.map_cons, List.map_nil, List.sum_cons, List.sum_nil, Value.category, Option.toList, List.cons_append, List.nil_append, ↓reduceIte, reduceCtorEq, Nat.reduceAdd, Nat.reduceLT, Nat.reduceLeDiff, Nat.reduceSub, Nat.reduceEqDiff, Nat.zero_le, Nat.sub_zero, Nat.le_refl, true_and, and_true, not_true_eq_false, not_false_eq_true, true_or, or_true, lc_eq, lc_ne, lc_lt, lc_ge, lc_gt, lc_le, nI_add, lN_add, nI_leI, nI_ltI, nI_eq, nI_clamp, pk_lLT, pk_lLE, pk_lEQ, pk_sub, vp_inT, nz_eq, nz_lt, nz_ge, nz_gt, nz_le, lz_eq, lz_lt, lz_ge, hP1, hP2, hP3, hP4, hP5, hP6, hP7, hP8, hP9, hP10, hP11, hP12, hP13, hP14, hP15, hP16, hP17, hP18, hP19, hP20, s0, s4, s5, u4, u5, n4, n5, f7, c0, ek, k1, k2, f5, eb, e0, va_upE]
    have hS2 : isS (sI h c (va_up (hI h c) 7 (nI K.length))) c ((A ++ rpt 1 Bd).take 400) := by
      have e9 : (A ++ rpt 1 Bd).take 400 = A ++ Bd := by
        rw [rpt_s]; show (A ++ (Bd ++ [])).take 400 = _
        rw [List.append_nil, List.take_of_length_le (by rw [List.length_append]; omega)]
      rw [e9]
      refine ⟨hS1.1, ?_, fun i hi => ?_⟩
      · rw [hI_at, va_up_ne _ _ (by decide)]; exact hS1.2.1
      · rw [hP1, va_up_ne _ _ (by omega), va_up_ne _ _ (by omega), va_up_ne _ _ (by omega)]; exact hS1.2.2 i hi
    refine l405 d (N := K.length) (n := n) (by omega) k3 (by omega) (n - 1) 1 _ (by omega) (by omega) (plS_sI hs0) hS2 (by rw [hI_at, va_up_self]) (by rw [hP1, va_up_ne _ _ (by omega)]; exact k2) ?_
    intro h1 q1 q2
    refine post h1 q2.1 q2.2.1 q2.2.2.1 q2.2.2.2.1 q2.2.2.2.2.1 (fun k q => (q2.2.2.2.2.2.1 k q).trans (by rw [hP1, va_up_ne _ _ (by omega)])) ?_ ?_ q1
    · rw [q2.2.2.2.2.2.2 6 (by decide), hI_at, va_up_ne _ _ (by decide)]; exact f6
    · rw [q2.2.2.2.2.2.2 7 (by decide), hI_at, va_up_self]
end PC3
