/-! ===== ways: the class goes ===== -/
theorem wTry_M {bits nd to far : Nat} {w : WT} : wM (wTry bits nd to far w) = wM w := by
  cases h0 : wI w to with
  | none => rw [wTry_none h0]; rfl
  | some i =>
    by_cases hl : far < qK (wQ w) i
    · rw [wTry_lt h0 hl]; rfl
    · rw [wTry_ge h0 hl]
theorem wFol_M {bits nd : Nat} : ∀ (E : List Ed) (w : WT), wM (wFol bits nd E w) = wM w
  | [], w => rfl
  | e :: r, w => by
    show wM (wFol bits nd r (wEd bits nd e w)) = _
    rw [wFol_M r]
    unfold wEd
    split
    · exact wTry_M
    · rfl
/-- the chart's edges, as the class holds them -/
def edR (h : pm_H) (c : Nat) (E : List Ed) : Prop := hI h c 8 = nI E.length ∧ ∀ i, i < E.length → hI h (c + 1) i = nI (E.getD i ed0).1 ∧ hI h (c + 2) i = nI (E.getD i ed0).2.1 ∧ hI h (c + 3) i = nI (E.getD i ed0).2.2
theorem edR_fr {h h' : pm_H} {x c : Nat} {E : List Ed} (f : fr (x + 64) (x + 82) h h') (hc : c + 9 ≤ x + 64) (a : edR h c E) : edR h' c E := by
  unfold edR
  rw [(f.2.2.2.2 c (by omega)).1, (f.2.2.2.2 (c + 1) (by omega)).1, (f.2.2.2.2 (c + 2) (by omega)).1, (f.2.2.2.2 (c + 3) (by omega)).1]; exact a
section RZ3
variable {h : pm_H} {x bits : Nat} {Q : pm_Q}
theorem clW_m {w : WT} {v : Int32} {n : Nat} (hc : clW h x bits w) : clW (sI h (x + 72) (va_up (hI h (x + 72)) 7 v)) x bits (wQ w, wI w, wO w, wB w, wR w, wL w, wN w, n) := by
  have f1 : fr (x + 72) (x + 73) h (sI h (x + 72) (va_up (hI h (x + 72)) 7 v)) := fr_sI (fr_refl _ _ _) (by omega) (by omega)
  obtain ⟨p1, p2, p3, p4, p5⟩ := hc
  refine ⟨seS_fr f1 p1, isB_fr f1 (by omega) p2, fun j hj => ?_, fun i hi => ?_, ?_⟩
  · have a := p3 j hj
    rw [hP1, va_up_ne _ _ (by omega), va_up_ne _ _ (by omega), va_up_ne _ _ (by omega), va_up_ne _ _ (by omega)]; exact a
  · rw [hP1, va_up_ne _ _ (by omega)]; exact p4 i hi
  · rw [hI_at, va_up_ne _ _ (by decide)]; exact p5
theorem l701 (d : Nat) {c : Nat} {E : List Ed} {v2 v3 : Int32} (hcx : x + 46 ≤ c) (hcx2 : c + 9 ≤ x + 64) (hE : ∀ e, e ∈ E → edB e) (h6 : E.length ≤ 60) : ∀ (n t T : Nat) (w : WT) (h : pm_H), n + t = 16 → chS h c → edR h c E → clW h x bits w → hI h (x + 72) 7 = nI (wM w) → wM w ≤ 16 → wOK bits T w →
      (∀ h', clW h' x bits (wGo bits E n w) → hI h' (x + 72) 7 = nI (wM (wGo bits E n w)) → fr (x + 64) (x + 82) h h' → Q (.inl none) h') →
      pm_W PP (d + 5) 701 Q 0 0 67 [some (.ref (x + 72)), some (.ref c), some (.int v2), some (.int v3), some (.int (nI t))] [] h := by
  intro n
  induction n with
  | zero =>
    intro t T w h ht hs hr hc h7 hm hw hQ
    have e : t = 16 := by omega
    subst e
    rw [u_701_67]
    simp (disch := omega) only [B_701_67, u_701_117, B_701_117, nI1T, Nat.left_eq_add, Nat.add_eq_left, Nat.add_eq_zero_iff, and_false, false_and, if_false, if_true, opsN, opsC, pm_1, lg, ls1, ls2, lq, List.length_cons, List.length_nil, cN, cL, callE, retV, retN, pm_pop, pm_cat, List.map_cons, List.map_nil, List.sum_cons, List.sum_nil, Value.category, Option.toList, List.cons_append, List.nil_append, ↓reduceIte, reduceCtorEq, Nat.reduceAdd, Nat.reduceLT, Nat.reduceLeDiff, Nat.reduceSub, Nat.reduceEqDiff, Nat.zero_le, Nat.sub_zero, Nat.le_refl, true_and, and_true, not_true_eq_false, not_false_eq_true, true_or, or_true, lc_eq, lc_ne, lc_lt, lc_ge, lc_gt, lc_le, nI_add, lN_add, nI_leI, nI_ltI, nI_eq, nI_clamp, pk_lLT, pk_lLE, pk_lEQ, pk_sub, vp_inT, nz_eq, nz_lt, nz_ge, nz_gt, nz_le, lz_eq, lz_lt, lz_ge, hP1, hP2, hP3, hP4, hP5, hP6, hP7, hP8, hP9, hP10, hP11, hP12, hP13, hP14, hP15, hP16, hP17, hP18, hP19, hP20]
    exact hQ h hc h7 (fr_refl _ _ _)
  | succ n ih =>
    intro t T w h ht hs hr hc h7 hm hw hQ
    have c1 : ¬ 16 ≤ t := by omega
    obtain ⟨⟨y0, y1, _⟩, p2, _⟩ := id hc
    have q1 := p2.1.1
    have f9 := p2.2.2.2.2.2.2.1
    have i11 := hw.1.2.2.2.2.2.2.2.2.2.2.1
    have i3 := hw.1.2.2.1
    rw [u_701_67]
    by_cases c2 : (qN (wQ w)).length = 0
    · have c3 : (qN (wQ w)).length ≤ 0 := by omega
      have eG : wGo bits E (n + 1) w = w := by show (if _ then w else _) = w; rw [if_pos c2]
      rw [eG] at hQ
      rw [c2] at f9
      simp (disch := omega) only [B_701_67, u_701_117, B_701_117, nI1T, Nat.left_eq_add, Nat.add_eq_left, Nat.add_eq_zero_iff, and_false, false_and, if_false, if_true, opsN, opsC, pm_1, lg, ls1, ls2, lq, List.length_cons, List.length_nil, cN, cL, callE, retV, retN, pm_pop, pm_cat, List.map_cons, List.map_nil, List.sum_cons, List.sum_nil, Value.category, Option.toList, List.cons_append, List.nil_append, ↓reduceIte, reduceCtorEq, Nat.reduceAdd, Nat.reduceLT, Nat.reduceLeDiff, Nat.reduceSub, Nat.reduceEqDiff, Nat.zero_le, Nat.sub_zero, Nat.le_refl, true_and, and_true, not_true_eq_false, not_false_eq_true, true_or, or_true, lc_eq, lc_ne, lc_lt, lc_ge, lc_gt, lc_le, nI_add, lN_add, nI_leI, nI_ltI, nI_eq, nI_clamp, pk_lLT, pk_lLE, pk_lEQ, pk_sub, vp_inT, nz_eq, nz_lt, nz_ge, nz_gt, nz_le, lz_eq, lz_lt, lz_ge, hP1, hP2, hP3, hP4, hP5, hP6, hP7, hP8, hP9, hP10, hP11, hP12, hP13, hP14, hP15, hP16, hP17, hP18, hP19, hP20, c1, y0, y1, q1, f9]
      exact hQ h hc h7 (fr_refl _ _ _)
    · have hne : qN (wQ w) ≠ [] := fun z => c2 (by rw [z]; rfl)
      have c3 : ¬ (qN (wQ w)).length ≤ 0 := by omega
      have eG : wGo bits E (n + 1) w = wGo bits E n (wTurn bits E w) := by show (if _ then w else _) = _; rw [if_neg c2]
      rw [eG] at hQ
      simp (disch := omega) only [B_701_67, nI1T, Nat.left_eq_add, Nat.add_eq_left, Nat.add_eq_zero_iff, and_false, false_and, if_false, if_true, opsN, opsC, pm_1, lg, ls1, ls2, lq, List.length_cons, List.length_nil, cN, cL, callE, retV, retN, pm_pop, pm_cat, List.map_cons, List.map_nil, List.sum_cons, List.sum_nil, Value.category, Option.toList, List.cons_append, List.nil_append, ↓reduceIte, reduceCtorEq, Nat.reduceAdd, Nat.reduceLT, Nat.reduceLeDiff, Nat.reduceSub, Nat.reduceEqDiff, Nat.zero_le, Nat.sub_zero, Nat.le_refl, true_and, and_true, not_true_eq_false, not_false_eq_true, true_or, or_true, lc_eq, lc_ne, lc_lt, lc_ge, lc_gt, lc_le, nI_add, lN_add, nI_leI, nI_ltI, nI_eq, nI_clamp, pk_lLT, pk_lLE, pk_lEQ, pk_sub, vp_inT, nz_eq, nz_lt, nz_ge, nz_gt, nz_le, lz_eq, lz_lt, lz_ge, hP1, hP2, hP3, hP4, hP5, hP6, hP7, hP8, hP9, hP10, hP11, hP12, hP13, hP14, hP15, hP16, hP17, hP18, hP19, hP20, c1, y0, y1, q1, f9, c2]
      refine c702 (d + 1) hc hw hne ?_
      intro h1 k1 k2 k3
      have y0 : hT h1 (x + 72) = 7 := k1.1.1
      simp (disch := omega) only [nI1T, Nat.left_eq_add, Nat.add_eq_left, Nat.add_eq_zero_iff, and_false, false_and, if_false, if_true, opsN, opsC, pm_1, lg, ls1, ls2, lq, List.length_cons, List.length_nil, cN, cL, callE, retV, retN, pm_pop, pm_cat, List.map_cons, List.map_nil, List.sum_cons, List.sum_nil, Value.category, Option.toList, List.cons_append, List.nil_append, ↓reduceIte, reduceCtorEq, Nat.reduceAdd, Nat.reduceLT, Nat.reduceLeDiff, Nat.reduceSub, Nat.reduceEqDiff, Nat.zero_le, Nat.sub_zero, Nat.le_refl, true_and, and_true, not_true_eq_false, not_false_eq_true, true_or, or_true, lc_eq, lc_ne, lc_lt, lc_ge, lc_gt, lc_le, nI_add, lN_add, nI_leI, nI_ltI, nI_eq, nI_clamp, pk_lLT, pk_lLE, pk_lEQ, pk_sub, vp_inT, nz_eq, nz_lt, nz_ge, nz_gt, nz_le, lz_eq, lz_lt, lz_ge, hP1, hP2, hP3, hP4, hP5, hP6, hP7, hP8, hP9, hP10, hP11, hP12, hP13, hP14, hP15, hP16, hP17, hP18, hP19, hP20, y0]
      rw [e_704]
      simp (disch := omega) only [u_704_0, B_704_0, nI1T, Nat.left_eq_add, Nat.add_eq_left, Nat.add_eq_zero_iff, and_false, false_and, if_false, if_true, opsN, opsC, pm_1, lg, ls1, ls2, lq, List.length_cons, List.length_nil, cN, cL, callE, retV, retN, pm_pop, pm_cat, List.map_cons, List.map_nil, List.sum_cons, List.sum_nil, Value.category, Option.toList, List.cons_append, List.nil_append, ↓reduceIte, reduceCtorEq, Nat.reduceAdd, Nat.reduceLT, Nat.reduceLeDiff, Nat.reduceSub, Nat.reduceEqDiff, Nat.zero_le, Nat.sub_zero, Nat.le_refl, true_and, and_true, not_true_eq_false, not_false_eq_true, true_or, or_true, lc_eq, lc_ne, lc_lt, lc_ge, lc_gt, lc_le, nI_add, lN_add, nI_leI, nI_ltI, nI_eq, nI_clamp, pk_lLT, pk_lLE, pk_lEQ, pk_sub, vp_inT, nz_eq, nz_lt, nz_ge, nz_gt, nz_le, lz_eq, lz_lt, lz_ge, hP1, hP2, hP3, hP4, hP5, hP6, hP7, hP8, hP9, hP10, hP11, hP12, hP13, hP14, hP15, hP16, hP17, hP18, hP19, hP20]
      refine l704 d (E := E) hcx hcx2 hE h6 E [] (T + 1) (wTake bits w) h1 _ rfl (chS_eq k2.1 k2.2.1 (by rw [k2.2.2.1]) hs) (edR_fr k2 hcx2 hr).1 (edR_fr k2 hcx2 hr).2 k1 (wFo_take hw hne) ?_
      intro h2 j1 j2 j3
      obtain ⟨⟨y0, y1, _⟩, p2, _⟩ := id j1
      have q1 := p2.1.1
      have f9 := p2.2.2.2.2.2.2.1
      have h7' : hI h2 (x + 72) 7 = nI (wM w) := by rw [j3, k3]; exact h7
      have tO := wOK_turn hw hne hE h6
      have i11 : (qN (wQ (wFol bits (wO w (qTop bits (wQ w))) E (wTake bits w)))).length ≤ 16 := Nat.le_trans tO.1.1.2.2.2.2.2.2.2.2.2.2.1 tO.1.1.2.2.1
      have wm : wM (wFol bits (wO w (qTop bits (wQ w))) E (wTake bits w)) = wM w := wFol_M _ _
      simp (disch := omega) only [nI1T, Nat.left_eq_add, Nat.add_eq_left, Nat.add_eq_zero_iff, and_false, false_and, if_false, if_true, opsN, opsC, pm_1, lg, ls1, ls2, lq, List.length_cons, List.length_nil, cN, cL, callE, retV, retN, pm_pop, pm_cat, List.map_cons, List.map_nil, List.sum_cons, List.sum_nil, Value.category, Option.toList, List.cons_append, List.nil_append, ↓reduceIte, reduceCtorEq, Nat.reduceAdd, Nat.reduceLT, Nat.reduceLeDiff, Nat.reduceSub, Nat.reduceEqDiff, Nat.zero_le, Nat.sub_zero, Nat.le_refl, true_and, and_true, not_true_eq_false, not_false_eq_true, true_or, or_true, lc_eq, lc_ne, lc_lt, lc_ge, lc_gt, lc_le, nI_add, lN_add, nI_leI, nI_ltI, nI_eq, nI_clamp, pk_lLT, pk_lLE, pk_lEQ, pk_sub, vp_inT, nz_eq, nz_lt, nz_ge, nz_gt, nz_le, lz_eq, lz_lt, lz_ge, hP1, hP2, hP3, hP4, hP5, hP6, hP7, hP8, hP9, hP10, hP11, hP12, hP13, hP14, hP15, hP16, hP17, hP18, hP19, hP20, y0, y1, q1, f9, h7', ite_nI]
      have em : (if wM w < (qN (wQ (wFol bits (wO w (qTop bits (wQ w))) E (wTake bits w)))).length then (qN (wQ (wFol bits (wO w (qTop bits (wQ w))) E (wTake bits w)))).length else wM w) = max (wM w) (qN (wQ (wFol bits (wO w (qTop bits (wQ w))) E (wTake bits w)))).length := by
        split <;> omega
      rw [em]
      have f3 : fr (x + 64) (x + 82) h (sI h2 (x + 72) (va_up (hI h2 (x + 72)) 7 (nI (max (wM w) (qN (wQ (wFol bits (wO w (qTop bits (wQ w))) E (wTake bits w)))).length)))) := fr_trans k2 (fr_trans j2 (fr_sI (fr_refl _ _ _) (by omega) (by omega)))
      have m2 : wM (wTurn bits E w) = max (wM w) (qN (wQ (wFol bits (wO w (qTop bits (wQ w))) E (wTake bits w)))).length := by
        show max (wM (wFol bits (wO w (qTop bits (wQ w))) E (wTake bits w))) _ = _
        rw [wm]
      have cl3 : clW (sI h2 (x + 72) (va_up (hI h2 (x + 72)) 7 (nI (max (wM w) (qN (wQ (wFol bits (wO w (qTop bits (wQ w))) E (wTake bits w)))).length)))) x bits (wTurn bits E w) := clW_m j1
      exact ih (t + 1) (T + 61) (wTurn bits E w) _ (by omega) (chS_eq f3.1 f3.2.1 (by rw [f3.2.2.1]) hs) (edR_fr f3 hcx2 hr) cl3 (by rw [m2, hI_at, va_up_self]) (by rw [m2]; omega) tO.1 (fun h4 l1 l2 l3 => hQ h4 l1 l2 (fr_trans f3 l3))
theorem c701 (d : Nat) {c nd : Nat} {E : List Ed} (hb1 : 1 ≤ bits) (hb4 : bits ≤ 4) (hnd : nd < 16) (hcx : x + 46 ≤ c) (hcx2 : c + 9 ≤ x + 64) (hE : ∀ e, e ∈ E → edB e) (h6 : E.length ≤ 60) (hs : chS h c) (hr : edR h c E) (hse : seS h x) (hbs : bS h (x + 64) 300)
      (hQ : ∀ h', clW h' x bits (wAll bits nd E) → hI h' (x + 72) 7 = nI (wM (wAll bits nd E)) → fr (x + 64) (x + 82) h h' → Q (.inl none) h') :
      pm_M PP (d + 6) 701 [.ref (x + 72), .ref c, .int (nI bits), .int (nI nd)] h Q := by
  obtain ⟨s0, s1, s2, s3, s4, s5, s6, t1, t2, t3, t4, t5, n1, n2, n3, n4, n5⟩ := id hse
  have q1 := hbs.1
  rw [e_701]
  simp (disch := omega) only [u_701_0, B_701_0, nI1T, Nat.left_eq_add, Nat.add_eq_left, Nat.add_eq_zero_iff, and_false, false_and, if_false, if_true, opsN, opsC, pm_1, lg, ls1, ls2, lq, List.length_cons, List.length_nil, cN, cL, callE, retV, retN, pm_pop, pm_cat, List.map_cons, List.map_nil, List.sum_cons, List.sum_nil, Value.category, Option.toList, List.cons_append, List.nil_append, ↓reduceIte, reduceCtorEq, Nat.reduceAdd, Nat.reduceLT, Nat.reduceLeDiff, Nat.reduceSub, Nat.reduceEqDiff, Nat.zero_le, Nat.sub_zero, Nat.le_refl, true_and, and_true, not_true_eq_false, not_false_eq_true, true_or, or_true, lc_eq, lc_ne, lc_lt, lc_ge, lc_gt, lc_le, nI_add, lN_add, nI_leI, nI_ltI, nI_eq, nI_clamp, pk_lLT, pk_lLE, pk_lEQ, pk_sub, vp_inT, nz_eq, nz_lt, nz_ge, nz_gt, nz_le, lz_eq, lz_lt, lz_ge, hP1, hP2, hP3, hP4, hP5, hP6, hP7, hP8, hP9, hP10, hP11, hP12, hP13, hP14, hP15, hP16, hP17, hP18, hP19, hP20, s0, s1, q1]
  refine c101 (d + 2) hbs hb4 (by decide) ?_
  intro h1 k1 k2 k3
  obtain ⟨s0, s1, s2, s3, s4, s5, s6, t1, t2, t3, t4, t5, n1, n2, n3, n4, n5⟩ := id (seS_fr k3 hse)
  simp (disch := omega) only [nI1T, Nat.left_eq_add, Nat.add_eq_left, Nat.add_eq_zero_iff, and_false, false_and, if_false, if_true, opsN, opsC, pm_1, lg, ls1, ls2, lq, List.length_cons, List.length_nil, cN, cL, callE, retV, retN, pm_pop, pm_cat, List.map_cons, List.map_nil, List.sum_cons, List.sum_nil, Value.category, Option.toList, List.cons_append, List.nil_append, ↓reduceIte, reduceCtorEq, Nat.reduceAdd, Nat.reduceLT, Nat.reduceLeDiff, Nat.reduceSub, Nat.reduceEqDiff, Nat.zero_le, Nat.sub_zero, Nat.le_refl, true_and, and_true, not_true_eq_false, not_false_eq_true, true_or, or_true, lc_eq, lc_ne, lc_lt, lc_ge, lc_gt, lc_le, nI_add, lN_add, nI_leI, nI_ltI, nI_eq, nI_clamp, pk_lLT, pk_lLE, pk_lEQ, pk_sub, vp_inT, nz_eq, nz_lt, nz_ge, nz_gt, nz_le, lz_eq, lz_lt, lz_ge, hP1, hP2, hP3, hP4, hP5, hP6, hP7, hP8, hP9, hP10, hP11, hP12, hP13, hP14, hP15, hP16, hP17, hP18, hP19, hP20, s0, s2]
  refine c3004 (d + 4) t1 n1 (by decide) ?_
  intro g1 g1a _
  simp (disch := omega) only [nI1T, Nat.left_eq_add, Nat.add_eq_left, Nat.add_eq_zero_iff, and_false, false_and, if_false, if_true, opsN, opsC, pm_1, lg, ls1, ls2, lq, List.length_cons, List.length_nil, cN, cL, callE, retV, retN, pm_pop, pm_cat, List.map_cons, List.map_nil, List.sum_cons, List.sum_nil, Value.category, Option.toList, List.cons_append, List.nil_append, ↓reduceIte, reduceCtorEq, Nat.reduceAdd, Nat.reduceLT, Nat.reduceLeDiff, Nat.reduceSub, Nat.reduceEqDiff, Nat.zero_le, Nat.sub_zero, Nat.le_refl, true_and, and_true, not_true_eq_false, not_false_eq_true, true_or, or_true, lc_eq, lc_ne, lc_lt, lc_ge, lc_gt, lc_le, nI_add, lN_add, nI_leI, nI_ltI, nI_eq, nI_clamp, pk_lLT, pk_lLE, pk_lEQ, pk_sub, vp_inT, nz_eq, nz_lt, nz_ge, nz_gt, nz_le, lz_eq, lz_lt, lz_ge, hP1, hP2, hP3, hP4, hP5, hP6, hP7, hP8, hP9, hP10, hP11, hP12, hP13, hP14, hP15, hP16, hP17, hP18, hP19, hP20, s0, s4]
  refine c3004 (d + 4) t3 n3 (by decide) ?_
  intro g2 g2a _
  simp (disch := omega) only [nI1T, Nat.left_eq_add, Nat.add_eq_left, Nat.add_eq_zero_iff, and_false, false_and, if_false, if_true, opsN, opsC, pm_1, lg, ls1, ls2, lq, List.length_cons, List.length_nil, cN, cL, callE, retV, retN, pm_pop, pm_cat, List.map_cons, List.map_nil, List.sum_cons, List.sum_nil, Value.category, Option.toList, List.cons_append, List.nil_append, ↓reduceIte, reduceCtorEq, Nat.reduceAdd, Nat.reduceLT, Nat.reduceLeDiff, Nat.reduceSub, Nat.reduceEqDiff, Nat.zero_le, Nat.sub_zero, Nat.le_refl, true_and, and_true, not_true_eq_false, not_false_eq_true, true_or, or_true, lc_eq, lc_ne, lc_lt, lc_ge, lc_gt, lc_le, nI_add, lN_add, nI_leI, nI_ltI, nI_eq, nI_clamp, pk_lLT, pk_lLE, pk_lEQ, pk_sub, vp_inT, nz_eq, nz_lt, nz_ge, nz_gt, nz_le, lz_eq, lz_lt, lz_ge, hP1, hP2, hP3, hP4, hP5, hP6, hP7, hP8, hP9, hP10, hP11, hP12, hP13, hP14, hP15, hP16, hP17, hP18, hP19, hP20, s0, s5]
  refine c3004 (d + 4) t4 n4 (by decide) ?_
  intro g3 g3a _
  simp (disch := omega) only [nI1T, Nat.left_eq_add, Nat.add_eq_left, Nat.add_eq_zero_iff, and_false, false_and, if_false, if_true, opsN, opsC, pm_1, lg, ls1, ls2, lq, List.length_cons, List.length_nil, cN, cL, callE, retV, retN, pm_pop, pm_cat, List.map_cons, List.map_nil, List.sum_cons, List.sum_nil, Value.category, Option.toList, List.cons_append, List.nil_append, ↓reduceIte, reduceCtorEq, Nat.reduceAdd, Nat.reduceLT, Nat.reduceLeDiff, Nat.reduceSub, Nat.reduceEqDiff, Nat.zero_le, Nat.sub_zero, Nat.le_refl, true_and, and_true, not_true_eq_false, not_false_eq_true, true_or, or_true, lc_eq, lc_ne, lc_lt, lc_ge, lc_gt, lc_le, nI_add, lN_add, nI_leI, nI_ltI, nI_eq, nI_clamp, pk_lLT, pk_lLE, pk_lEQ, pk_sub, vp_inT, nz_eq, nz_lt, nz_ge, nz_gt, nz_le, lz_eq, lz_lt, lz_ge, hP1, hP2, hP3, hP4, hP5, hP6, hP7, hP8, hP9, hP10, hP11, hP12, hP13, hP14, hP15, hP16, hP17, hP18, hP19, hP20, s0, s6]
  refine c3004 (d + 4) t5 n5 (by decide) ?_
  intro g4 g4a _
  have f1 : fr (x + 73) (x + 78) h1 (sI (sI (sI (sI h1 (x + 73) g1) (x + 75) g2) (x + 76) g3) (x + 77) g4) := fr_sI (fr_sI (fr_sI (fr_sI (fr_refl _ _ _) (by omega) (by omega)) (by omega) (by omega)) (by omega) (by omega)) (by omega) (by omega)
  have e1 : ∀ n, n < 16 → hI (sI (sI (sI (sI h1 (x + 73) g1) (x + 75) g2) (x + 76) g3) (x + 77) g4) (x + 73) n = -nI 1 ∧ hI (sI (sI (sI (sI h1 (x + 73) g1) (x + 75) g2) (x + 76) g3) (x + 77) g4) (x + 75) n = -nI 1 ∧ hI (sI (sI (sI (sI h1 (x + 73) g1) (x + 75) g2) (x + 76) g3) (x + 77) g4) (x + 76) n = -nI 1 ∧ hI (sI (sI (sI (sI h1 (x + 73) g1) (x + 75) g2) (x + 76) g3) (x + 77) g4) (x + 77) n = nI 0 := fun n hn => by
    refine ⟨?_, ?_, ?_, ?_⟩
    · rw [hP1, va_up_ne _ _ (by omega), hP1, va_up_ne _ _ (by omega), hP1, va_up_ne _ _ (by omega), hI_at]; exact g1a n hn
    · rw [hP1, va_up_ne _ _ (by omega), hP1, va_up_ne _ _ (by omega), hI_at]; exact g2a n hn
    · rw [hP1, va_up_ne _ _ (by omega), hI_at]; exact g3a n hn
    · rw [hI_at]; exact g4a n hn
  have b1 := isB_fr f1 (by omega) (k1 (fun _ => 0) (fun _ => 0) (fun _ => 0) (fun _ => 0))
  have hf : fr (x + 64) (x + 82) h (sI (sI (sI (sI h1 (x + 73) g1) (x + 75) g2) (x + 76) g3) (x + 77) g4) := fr_trans (fr_wide k3 (by omega) (by omega)) (fr_wide f1 (by omega) (by omega))
  generalize sI (sI (sI (sI h1 (x + 73) g1) (x + 75) g2) (x + 76) g3) (x + 77) g4 = h2 at *
  have hse2 := seS_fr hf hse
  obtain ⟨s0, s1, s2, s3, s4, s5, s6, t1, t2, t3, t4, t5, n1, n2, n3, n4, n5⟩ := id hse2
  simp (disch := omega) only [nI1T, Nat.left_eq_add, Nat.add_eq_left, Nat.add_eq_zero_iff, and_false, false_and, if_false, if_true, opsN, opsC, pm_1, lg, ls1, ls2, lq, List.length_cons, List.length_nil, cN, cL, callE, retV, retN, pm_pop, pm_cat, List.map_cons, List.map_nil, List.sum_cons, List.sum_nil, Value.category, Option.toList, List.cons_append, List.nil_append, ↓reduceIte, reduceCtorEq, Nat.reduceAdd, Nat.reduceLT, Nat.reduceLeDiff, Nat.reduceSub, Nat.reduceEqDiff, Nat.zero_le, Nat.sub_zero, Nat.le_refl, true_and, and_true, not_true_eq_false, not_false_eq_true, true_or, or_true, lc_eq, lc_ne, lc_lt, lc_ge, lc_gt, lc_le, nI_add, lN_add, nI_leI, nI_ltI, nI_eq, nI_clamp, pk_lLT, pk_lLE, pk_lEQ, pk_sub, vp_inT, nz_eq, nz_lt, nz_ge, nz_gt, nz_le, lz_eq, lz_lt, lz_ge, hP1, hP2, hP3, hP4, hP5, hP6, hP7, hP8, hP9, hP10, hP11, hP12, hP13, hP14, hP15, hP16, hP17, hP18, hP19, hP20, s0]
  have f2 : fr (x + 72) (x + 73) h2 (sI h2 (x + 72) (va_up (hI h2 (x + 72)) 6 (nI 0))) := fr_sI (fr_refl _ _ _) (by omega) (by omega)
  have c0 : clW (sI h2 (x + 72) (va_up (hI h2 (x + 72)) 6 (nI 0))) x bits w0 := by
    refine ⟨seS_fr f2 hse2, isB_fr f2 (by omega) b1, fun n hn => ?_, fun i hi => absurd hi (Nat.not_lt_zero _), ?_⟩
    · rw [hP1, va_up_ne _ _ (by omega), va_up_ne _ _ (by omega), va_up_ne _ _ (by omega), va_up_ne _ _ (by omega)]; exact e1 n hn
    · rw [hI_at, va_up_self]; rfl
  refine c703 (d + 2) (w := w0) c0 (w0_OK hb1 hb4) hnd rfl (Nat.le_refl _) (Nat.zero_le _) (Nat.zero_le _) ?_
  intro h3 j1 j2 j3
  obtain ⟨⟨y0, y1, _⟩, p2, _⟩ := id j1
  have q1 := p2.1.1
  have f9 : hI h3 (x + 64) 9 = nI 1 := p2.2.2.2.2.2.2.1
  simp (disch := omega) only [nI1T, Nat.left_eq_add, Nat.add_eq_left, Nat.add_eq_zero_iff, and_false, false_and, if_false, if_true, opsN, opsC, pm_1, lg, ls1, ls2, lq, List.length_cons, List.length_nil, cN, cL, callE, retV, retN, pm_pop, pm_cat, List.map_cons, List.map_nil, List.sum_cons, List.sum_nil, Value.category, Option.toList, List.cons_append, List.nil_append, ↓reduceIte, reduceCtorEq, Nat.reduceAdd, Nat.reduceLT, Nat.reduceLeDiff, Nat.reduceSub, Nat.reduceEqDiff, Nat.zero_le, Nat.sub_zero, Nat.le_refl, true_and, and_true, not_true_eq_false, not_false_eq_true, true_or, or_true, lc_eq, lc_ne, lc_lt, lc_ge, lc_gt, lc_le, nI_add, lN_add, nI_leI, nI_ltI, nI_eq, nI_clamp, pk_lLT, pk_lLE, pk_lEQ, pk_sub, vp_inT, nz_eq, nz_lt, nz_ge, nz_gt, nz_le, lz_eq, lz_lt, lz_ge, hP1, hP2, hP3, hP4, hP5, hP6, hP7, hP8, hP9, hP10, hP11, hP12, hP13, hP14, hP15, hP16, hP17, hP18, hP19, hP20, y0, y1, q1, f9]
  have f3 : fr (x + 64) (x + 82) h (sI h3 (x + 72) (va_up (hI h3 (x + 72)) 7 (nI 1))) := fr_trans hf (fr_trans (fr_wide f2 (by omega) (by omega)) (fr_trans j2 (fr_sI (fr_refl _ _ _) (by omega) (by omega))))
  have c4 : clW (sI h3 (x + 72) (va_up (hI h3 (x + 72)) 7 (nI 1))) x bits (wCome bits nd 0 w0) := clW_m j1
  exact l701 d hcx hcx2 hE h6 16 0 1 (wCome bits nd 0 w0) _ rfl (chS_eq f3.1 f3.2.1 (by rw [f3.2.2.1]) hs) (edR_fr f3 hcx2 hr) c4 (by rw [hI_at, va_up_self]; rfl) (by show 1 ≤ 16; decide) (wS_OK hb1 hb4 hnd) (fun h4 l1 l2 l3 => hQ h4 l1 l2 (fr_trans f3 l3))
end RZ3
