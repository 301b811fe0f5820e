/-! ===== THE LAW: a turn ===== -/
def LI (h : pm_H) (x L : Nat) (xs : Nat → Int32) (G : Gs) : Prop := CI h x G ∧ MI h (x + 82) G ∧ hT h (x + 905) = 101 ∧ hN h (x + 905) = 1 ∧ hT h 0 = 110 ∧ hN h 0 = L ∧ hI h 0 = xs
section LT
variable {h : pm_H} {x L i bc bs : Nat} {xs : Nat → Int32} {G : Gs} {Q : pm_Q}
/-- the class has done, the reference follows -/
theorem LI_2 {G' : Gs} {h1 h2 : pm_H} (hx0 : 0 < x) (hL0 : LI h x L xs G) (c : CI h1 x G') (f : frX x (x + 82) h h1) (mm : MI h2 (x + 82) G') (g : frX (x + 82) (x + 82 + 823) h1 h2) : LI h2 x L xs G' := by
  obtain ⟨_, _, a3, a4, a5, a6, a7⟩ := hL0
  refine ⟨CI_X g (by omega) c, mm, ?_, ?_, ?_, ?_, ?_⟩
  · rw [g.1, f.1]; exact a3
  · rw [g.2.1, f.2.1]; exact a4
  · rw [g.1, f.1]; exact a5
  · rw [g.2.1, f.2.1]; exact a6
  · rw [(g.2.2.2 0 (by omega)).1, (f.2.2.2 0 (by omega)).1]; exact a7
theorem frX_o {lo hi o : Nat} {h : pm_H} {g : Nat → Int64} (h1 : lo ≤ o) (h2 : o < hi) : frX lo hi h (sL h o g) :=
  ⟨rfl, rfl, rfl, fun k q => ⟨rfl, by rw [hP7, va_up_ne _ _ (by omega)], rfl⟩⟩
theorem LI_o {g : Nat → Int64} (hx0 : 0 < x) (a : LI h x L xs G) : LI (sL h (x + 905) g) x L xs G := by
  obtain ⟨a1, a2, a3, a4, a5, a6, a7⟩ := a
  have f : frX (x + 905) (x + 906) h (sL h (x + 905) g) := frX_o (by omega) (by omega)
  exact ⟨CI_X f (by omega) a1, MI_X f (by omega) a2, a3, a4, a5, a6, a7⟩
theorem q1001 (d : Nat) {m : Nat} (ht : hT h m = 10) : pm_M PP (d + 1) 1001 [.ref m] h Q = Q (.inl (some (.int (hI h m 0)))) h := by
  rw [e_1001]
  simp (disch := omega) only [u_1001_0, B_1001_0, nI1T, Nat.left_eq_add, Nat.add_eq_left, Nat.add_eq_zero_iff, and_false, false_and, if_false, if_true, opsN, opsC, pm_1, lg, ls1, ls2, lq, List.length_cons, List.length_nil, cN, cL, callE, retV, retN, pm_pop, pm_cat, List.map_cons, List.map_nil, List.sum_cons, List.sum_nil, Value.category, Option.toList, List.cons_append, List.nil_append, ↓reduceIte, reduceCtorEq, Nat.reduceAdd, Nat.reduceLT, Nat.reduceLeDiff, Nat.reduceSub, Nat.reduceEqDiff, Nat.zero_le, Nat.sub_zero, Nat.le_refl, true_and, and_true, not_true_eq_false, not_false_eq_true, true_or, or_true, lc_eq, lc_ne, lc_lt, lc_ge, lc_gt, lc_le, nI_add, lN_add, nI_leI, nI_ltI, nI_eq, nI_clamp, pk_lLT, pk_lLE, pk_lEQ, pk_sub, vp_inT, nz_eq, nz_lt, nz_ge, nz_gt, nz_le, lz_eq, lz_lt, lz_ge, hP1, hP2, hP3, hP4, hP5, hP6, hP7, hP8, hP9, hP10, hP11, hP12, hP13, hP14, hP15, hP16, hP17, hP18, hP19, hP20, ht]
theorem rd_s {k : Nat} (hi : i + 6 ≤ L) (hk : k < 6) : i + k < L := by omega
theorem tn_237 {l5 l6 l7 : Option Value} (hx0 : 0 < x) (hL0 : LI h x L xs G) (hi : i + 6 ≤ L) (hL31 : L < 2 ^ 30) (hbc : 4 ≤ bc) (hbs : 24 ≤ bs)
    (K : ∀ h' G' l5 l6 l7 bc' bs', LI h' x L xs G' → G'.2.2.1 ≤ G.2.2.1 + 300 → bc ≤ bc' + 4 → bs ≤ bs' + 24 → pm_W PP 401 2021 Q bc' bs' 1899 [some (.ref 0), some (.ref x), some (.ref (x + 82)), some (.ref (x + 905)), some (.int (nI i)), l5, l6, l7] [] h') :
    pm_W PP 401 2021 Q bc bs 237 [some (.ref 0), some (.ref x), some (.ref (x + 82)), some (.ref (x + 905)), some (.int (nI i)), l5, l6, l7] [] h := by
  obtain ⟨a1, a2, a3, a4, a5, a6, a7⟩ := id hL0
  have hx := a1.1.1.1
  have r1 : i + 1 < L := by omega
  simp (disch := omega) only [u_2021_237, B_2021_237, nI1T, Nat.left_eq_add, Nat.add_eq_left, Nat.add_eq_zero_iff, and_false, false_and, if_false, if_true, opsN, opsC, pm_1, lg, ls1, ls2, lq, List.length_cons, List.length_nil, cN, cL, callE, retV, retN, pm_pop, pm_cat, List.map_cons, List.map_nil, List.sum_cons, List.sum_nil, Value.category, Option.toList, List.cons_append, List.nil_append, ↓reduceIte, reduceCtorEq, Nat.reduceAdd, Nat.reduceLT, Nat.reduceLeDiff, Nat.reduceSub, Nat.reduceEqDiff, Nat.zero_le, Nat.sub_zero, Nat.le_refl, true_and, and_true, not_true_eq_false, not_false_eq_true, true_or, or_true, lc_eq, lc_ne, lc_lt, lc_ge, lc_gt, lc_le, nI_add, lN_add, nI_leI, nI_ltI, nI_eq, nI_clamp, pk_lLT, pk_lLE, pk_lEQ, pk_sub, vp_inT, nz_eq, nz_lt, nz_ge, nz_gt, nz_le, lz_eq, lz_lt, lz_ge, hP1, hP2, hP3, hP4, hP5, hP6, hP7, hP8, hP9, hP10, hP11, hP12, hP13, hP14, hP15, hP16, hP17, hP18, hP19, hP20, a5, a6, a7, r1]
  rcases P902 a1 a2 (xs (i + 1)) with ⟨r, hr, hw, hc, hm⟩ | ⟨v, G', hB, hc, hm⟩
  · refine ⟨by omega, by omega, wr_2000 _ hx hr hw hc ?_⟩
    intro h1 c f
    have b5 : hT h1 0 = 110 := by rw [f.1]; exact a5
    have b6 : hN h1 0 = L := by rw [f.2.1]; exact a6
    have b7 : hI h1 0 = xs := by rw [(f.2.2.2 0 (by omega)).1]; exact a7
    have mm := MI_X f (.inr (Nat.le_refl _)) a2
    have m10 := mm.1.1.1
    simp (disch := omega) only [nI1T, Nat.left_eq_add, Nat.add_eq_left, Nat.add_eq_zero_iff, and_false, false_and, if_false, if_true, opsN, opsC, pm_1, lg, ls1, ls2, lq, List.length_cons, List.length_nil, cN, cL, callE, retV, retN, pm_pop, pm_cat, List.map_cons, List.map_nil, List.sum_cons, List.sum_nil, Value.category, Option.toList, List.cons_append, List.nil_append, ↓reduceIte, reduceCtorEq, Nat.reduceAdd, Nat.reduceLT, Nat.reduceLeDiff, Nat.reduceSub, Nat.reduceEqDiff, Nat.zero_le, Nat.sub_zero, Nat.le_refl, true_and, and_true, not_true_eq_false, not_false_eq_true, true_or, or_true, lc_eq, lc_ne, lc_lt, lc_ge, lc_gt, lc_le, nI_add, lN_add, nI_leI, nI_ltI, nI_eq, nI_clamp, pk_lLT, pk_lLE, pk_lEQ, pk_sub, vp_inT, nz_eq, nz_lt, nz_ge, nz_gt, nz_le, lz_eq, lz_lt, lz_ge, hP1, hP2, hP3, hP4, hP5, hP6, hP7, hP8, hP9, hP10, hP11, hP12, hP13, hP14, hP15, hP16, hP17, hP18, hP19, hP20, b5, b6, b7, r1, m10]
    refine pm_M_succ _ _ _ _ _ _ (hm h1 _ mm ?_)
    intro h2 mm2 g t0
    have m10 := mm2.1.1.1
    have LI2 := LI_2 hx0 hL0 c f mm2 g
    simp (disch := omega) only [nI1T, Nat.left_eq_add, Nat.add_eq_left, Nat.add_eq_zero_iff, and_false, false_and, if_false, if_true, opsN, opsC, pm_1, lg, ls1, ls2, lq, List.length_cons, List.length_nil, cN, cL, callE, retV, retN, pm_pop, pm_cat, List.map_cons, List.map_nil, List.sum_cons, List.sum_nil, Value.category, Option.toList, List.cons_append, List.nil_append, ↓reduceIte, reduceCtorEq, Nat.reduceAdd, Nat.reduceLT, Nat.reduceLeDiff, Nat.reduceSub, Nat.reduceEqDiff, Nat.zero_le, Nat.sub_zero, Nat.le_refl, true_and, and_true, not_true_eq_false, not_false_eq_true, true_or, or_true, lc_eq, lc_ne, lc_lt, lc_ge, lc_gt, lc_le, nI_add, lN_add, nI_leI, nI_ltI, nI_eq, nI_clamp, pk_lLT, pk_lLE, pk_lEQ, pk_sub, vp_inT, nz_eq, nz_lt, nz_ge, nz_gt, nz_le, lz_eq, lz_lt, lz_ge, hP1, hP2, hP3, hP4, hP5, hP6, hP7, hP8, hP9, hP10, hP11, hP12, hP13, hP14, hP15, hP16, hP17, hP18, hP19, hP20, m10]
    rw [q1001 _ m10, t0]
    have wz : ¬ [0, 1, 0, 0].getD r 0 = 0 := by omega
    have wl4 : [0, 1, 0, 0].getD r 0 < 2 ^ 31 := by rcases (show r = 0 ∨ r = 1 ∨ r = 2 ∨ r = 3 by omega) with e | e | e | e <;> subst e <;> decide
    generalize [0, 1, 0, 0].getD r 0 = wn at *
    simp (disch := omega) only [u_2021_273, B_2021_273, u_2021_290, B_2021_290, nI1T, Nat.left_eq_add, Nat.add_eq_left, Nat.add_eq_zero_iff, and_false, false_and, if_false, if_true, opsN, opsC, pm_1, lg, ls1, ls2, lq, List.length_cons, List.length_nil, cN, cL, callE, retV, retN, pm_pop, pm_cat, List.map_cons, List.map_nil, List.sum_cons, List.sum_nil, Value.category, Option.toList, List.cons_append, List.nil_append, ↓reduceIte, reduceCtorEq, Nat.reduceAdd, Nat.reduceLT, Nat.reduceLeDiff, Nat.reduceSub, Nat.reduceEqDiff, Nat.zero_le, Nat.sub_zero, Nat.le_refl, true_and, and_true, not_true_eq_false, not_false_eq_true, true_or, or_true, lc_eq, lc_ne, lc_lt, lc_ge, lc_gt, lc_le, nI_add, lN_add, nI_leI, nI_ltI, nI_eq, nI_clamp, pk_lLT, pk_lLE, pk_lEQ, pk_sub, vp_inT, nz_eq, nz_lt, nz_ge, nz_gt, nz_le, lz_eq, lz_lt, lz_ge, hP1, hP2, hP3, hP4, hP5, hP6, hP7, hP8, hP9, hP10, hP11, hP12, hP13, hP14, hP15, hP16, hP17, hP18, hP19, hP20, wz]
    exact K h2 _ _ _ _ _ _ LI2 (Nat.le_add_right _ _) (by omega) (by omega)
  · refine ⟨by omega, by omega, wd_2000 _ hx a3 a4 hc ?_⟩
    intro h1 c f
    have fo : frX (x + 905) (x + 906) h1 (sL h1 (x + 905) (va_up (hL h1 (x + 905)) 0 v.toInt64)) := frX_o (by omega) (by omega)
    have b5 : hT h1 0 = 110 := by rw [f.1]; exact a5
    have b6 : hN h1 0 = L := by rw [f.2.1]; exact a6
    have b7 : hI h1 0 = xs := by rw [(f.2.2.2 0 (by omega)).1]; exact a7
    have mm := MI_X fo (by omega) (MI_X f (.inr (Nat.le_refl _)) a2)
    have c' := CI_X fo (by omega) c
    have m10 : hT h1 (x + 82) = 10 := mm.1.1.1
    have ov : hL (sL h1 (x + 905) (va_up (hL h1 (x + 905)) 0 v.toInt64)) (x + 905) 0 = v.toInt64 := by rw [hP7, va_up_self, va_up_self]
    simp (disch := omega) only [nI1T, Nat.left_eq_add, Nat.add_eq_left, Nat.add_eq_zero_iff, and_false, false_and, if_false, if_true, opsN, opsC, pm_1, lg, ls1, ls2, lq, List.length_cons, List.length_nil, cN, cL, callE, retV, retN, pm_pop, pm_cat, List.map_cons, List.map_nil, List.sum_cons, List.sum_nil, Value.category, Option.toList, List.cons_append, List.nil_append, ↓reduceIte, reduceCtorEq, Nat.reduceAdd, Nat.reduceLT, Nat.reduceLeDiff, Nat.reduceSub, Nat.reduceEqDiff, Nat.zero_le, Nat.sub_zero, Nat.le_refl, true_and, and_true, not_true_eq_false, not_false_eq_true, true_or, or_true, lc_eq, lc_ne, lc_lt, lc_ge, lc_gt, lc_le, nI_add, lN_add, nI_leI, nI_ltI, nI_eq, nI_clamp, pk_lLT, pk_lLE, pk_lEQ, pk_sub, vp_inT, nz_eq, nz_lt, nz_ge, nz_gt, nz_le, lz_eq, lz_lt, lz_ge, hP1, hP2, hP3, hP4, hP5, hP6, hP7, hP8, hP9, hP10, hP11, hP12, hP13, hP14, hP15, hP16, hP17, hP18, hP19, hP20, b5, b6, b7, r1, m10]
    refine pm_M_succ _ _ _ _ _ _ (hm _ _ mm ?_)
    intro h2 mm2 g t0
    have m10 := mm2.1.1.1
    have ov2 : hL h2 (x + 905) 0 = v.toInt64 := by rw [(g.2.2.2 (x + 905) (by omega)).2.1]; exact ov
    have o1 : hT h2 (x + 905) = 101 := by rw [g.1, fo.1, f.1]; exact a3
    have o2 : hN h2 (x + 905) = 1 := by rw [g.2.1, fo.2.1, f.2.1]; exact a4
    have LI2 : LI h2 x L xs G' := by
      refine ⟨CI_X g (by omega) c', mm2, o1, o2, ?_, ?_, ?_⟩
      · rw [g.1, fo.1, f.1]; exact a5
      · rw [g.2.1, fo.2.1, f.2.1]; exact a6
      · rw [(g.2.2.2 0 (by omega)).1, (fo.2.2.2 0 (by omega)).1, (f.2.2.2 0 (by omega)).1]; exact a7
    simp (disch := omega) only [nI1T, Nat.left_eq_add, Nat.add_eq_left, Nat.add_eq_zero_iff, and_false, false_and, if_false, if_true, opsN, opsC, pm_1, lg, ls1, ls2, lq, List.length_cons, List.length_nil, cN, cL, callE, retV, retN, pm_pop, pm_cat, List.map_cons, List.map_nil, List.sum_cons, List.sum_nil, Value.category, Option.toList, List.cons_append, List.nil_append, ↓reduceIte, reduceCtorEq, Nat.reduceAdd, Nat.reduceLT, Nat.reduceLeDiff, Nat.reduceSub, Nat.reduceEqDiff, Nat.zero_le, Nat.sub_zero, Nat.le_refl, true_and, and_true, not_true_eq_false, not_false_eq_true, true_or, or_true, lc_eq, lc_ne, lc_lt, lc_ge, lc_gt, lc_le, nI_add, lN_add, nI_leI, nI_ltI, nI_eq, nI_clamp, pk_lLT, pk_lLE, pk_lEQ, pk_sub, vp_inT, nz_eq, nz_lt, nz_ge, nz_gt, nz_le, lz_eq, lz_lt, lz_ge, hP1, hP2, hP3, hP4, hP5, hP6, hP7, hP8, hP9, hP10, hP11, hP12, hP13, hP14, hP15, hP16, hP17, hP18, hP19, hP20, m10]
    rw [q1001 _ m10, t0]
    simp (disch := omega) only [u_2021_273, B_2021_273, u_2021_290, B_2021_290, nI1T, Nat.left_eq_add, Nat.add_eq_left, Nat.add_eq_zero_iff, and_false, false_and, if_false, if_true, opsN, opsC, pm_1, lg, ls1, ls2, lq, List.length_cons, List.length_nil, cN, cL, callE, retV, retN, pm_pop, pm_cat, List.map_cons, List.map_nil, List.sum_cons, List.sum_nil, Value.category, Option.toList, List.cons_append, List.nil_append, ↓reduceIte, reduceCtorEq, Nat.reduceAdd, Nat.reduceLT, Nat.reduceLeDiff, Nat.reduceSub, Nat.reduceEqDiff, Nat.zero_le, Nat.sub_zero, Nat.le_refl, true_and, and_true, not_true_eq_false, not_false_eq_true, true_or, or_true, lc_eq, lc_ne, lc_lt, lc_ge, lc_gt, lc_le, nI_add, lN_add, nI_leI, nI_ltI, nI_eq, nI_clamp, pk_lLT, pk_lLE, pk_lEQ, pk_sub, vp_inT, nz_eq, nz_lt, nz_ge, nz_gt, nz_le, lz_eq, lz_lt, lz_ge, hP1, hP2, hP3, hP4, hP5, hP6, hP7, hP8, hP9, hP10, hP11, hP12, hP13, hP14, hP15, hP16, hP17, hP18, hP19, hP20, o1, o2, ov2]
    exact K h2 _ _ _ _ _ _ LI2 hB (by omega) (by omega)
end LT
