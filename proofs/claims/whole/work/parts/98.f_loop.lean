/-! ===== THE LAW: its loop; written by loop.py ===== -/
theorem and_31 (v : Int32) : ∃ k, k < 32 ∧ v &&& nI 31 = nI k := by
  refine ⟨v.toBitVec.toNat % 32, Nat.mod_lt _ (by decide), Int32.toBitVec_inj.mp (BitVec.eq_of_toNat_eq ?_)⟩
  rw [Int32.toBitVec_and, BitVec.toNat_and]
  show v.toBitVec.toNat &&& (BitVec.ofNat 32 31).toNat = (BitVec.ofNat 32 (v.toBitVec.toNat % 32)).toNat
  rw [BitVec.toNat_ofNat, BitVec.toNat_ofNat]
  have := Nat.and_two_pow_sub_one_eq_mod v.toBitVec.toNat 5
  have this : v.toBitVec.toNat &&& 31 = v.toBitVec.toNat % 32 := this
  show v.toBitVec.toNat &&& 31 = _
  rw [this]
  have l := v.toBitVec.isLt
  omega
theorem l_end {L i : Nat} (h : L < i + 6) (hL : L < 2 ^ 30) (hi : i < 2 ^ 30) : nI L - nI 6 < nI i := by
  rw [Int32.lt_iff_toInt_lt, pk_sub_toInt (by omega) (by decide), nI_toInt (by omega)]
  omega
section LO
variable {x L : Nat} {xs : Nat → Int32} {Q : pm_Q}
theorem l2021 (hx0 : 0 < x) (hL31 : L < 2 ^ 29) (hQ : ∀ h, Q (.inl (some (.int (nI 1)))) h) : ∀ (n i bc bs : Nat) (h : pm_H) (G : Gs) (l5 l6 l7 : Option Value), L < i + 6 * n + 6 → i ≤ L + 6 → LI h x L xs G → G.2.2.1 + 300 * n < 2 ^ 29 → 4 * n ≤ bc → 24 * n ≤ bs →
    pm_W PP 401 2021 Q bc bs 23 [some (.ref 0), some (.ref x), some (.ref (x + 82)), some (.ref (x + 905)), some (.int (nI i)), l5, l6, l7] [] h := by
  intro n
  induction n with
  | zero =>
    intro i bc bs h G l5 l6 l7 hn hi hL0 hB hc hs
    obtain ⟨a1, a2, a3, a4, a5, a6, a7⟩ := id hL0
    have c := l_end (L := L) (i := i) (by omega) (by omega) (by omega)
    rw [u_2021_23]
    by_cases q6 : 6 ≤ L
    · have c2 : L - 6 < i := by omega
      simp (disch := omega) only [B_2021_23, u_2021_1905, B_2021_1905, nI1T, Nat.left_eq_add, Nat.add_eq_left, Nat.add_eq_zero_iff, and_false, false_and, if_false, if_true, opsN, opsC, pm_1, lg, ls1, ls2, lq, List.length_cons, List.length_nil, cN, cL, callE, retV, retN, pm_pop, pm_cat, List.map_cons, List.map_nil, List.sum_cons, List.sum_nil, Value.category, Option.toList, List.cons_append, List.nil_append, ↓reduceIte, reduceCtorEq, Nat.reduceAdd, Nat.reduceLT, Nat.reduceLeDiff, Nat.reduceSub, Nat.reduceEqDiff, Nat.zero_le, Nat.sub_zero, Nat.le_refl, true_and, and_true, not_true_eq_false, not_false_eq_true, true_or, or_true, lc_eq, lc_ne, lc_lt, lc_ge, lc_gt, lc_le, nI_add, lN_add, nI_leI, nI_ltI, nI_eq, nI_clamp, pk_lLT, pk_lLE, pk_lEQ, pk_sub, vp_inT, nz_eq, nz_lt, nz_ge, nz_gt, nz_le, lz_eq, lz_lt, lz_ge, hP1, hP2, hP3, hP4, hP5, hP6, hP7, hP8, hP9, hP10, hP11, hP12, hP13, hP14, hP15, hP16, hP17, hP18, hP19, hP20, a5, a6, c2]
      exact hQ h
    · simp (disch := omega) only [B_2021_23, u_2021_1905, B_2021_1905, nI1T, Nat.left_eq_add, Nat.add_eq_left, Nat.add_eq_zero_iff, and_false, false_and, if_false, if_true, opsN, opsC, pm_1, lg, ls1, ls2, lq, List.length_cons, List.length_nil, cN, cL, callE, retV, retN, pm_pop, pm_cat, List.map_cons, List.map_nil, List.sum_cons, List.sum_nil, Value.category, Option.toList, List.cons_append, List.nil_append, ↓reduceIte, reduceCtorEq, Nat.reduceAdd, Nat.reduceLT, Nat.reduceLeDiff, Nat.reduceSub, Nat.reduceEqDiff, Nat.zero_le, Nat.sub_zero, Nat.le_refl, true_and, and_true, not_true_eq_false, not_false_eq_true, true_or, or_true, lc_eq, lc_ne, lc_lt, lc_ge, lc_gt, lc_le, nI_add, lN_add, nI_leI, nI_ltI, nI_eq, nI_clamp, pk_lLT, pk_lLE, pk_lEQ, pk_sub, vp_inT, nz_eq, nz_lt, nz_ge, nz_gt, nz_le, lz_eq, lz_lt, lz_ge, hP1, hP2, hP3, hP4, hP5, hP6, hP7, hP8, hP9, hP10, hP11, hP12, hP13, hP14, hP15, hP16, hP17, hP18, hP19, hP20, a5, a6, c]
      exact hQ h
  | succ n ih =>
    intro i bc bs h G l5 l6 l7 hn hi hL0 hB hc hs
    obtain ⟨a1, a2, a3, a4, a5, a6, a7⟩ := id hL0
    by_cases e : L < i + 6
    · have c := l_end e (by omega) (by omega)
      rw [u_2021_23]
      by_cases q6 : 6 ≤ L
      · have c2 : L - 6 < i := by omega
        simp (disch := omega) only [B_2021_23, u_2021_1905, B_2021_1905, nI1T, Nat.left_eq_add, Nat.add_eq_left, Nat.add_eq_zero_iff, and_false, false_and, if_false, if_true, opsN, opsC, pm_1, lg, ls1, ls2, lq, List.length_cons, List.length_nil, cN, cL, callE, retV, retN, pm_pop, pm_cat, List.map_cons, List.map_nil, List.sum_cons, List.sum_nil, Value.category, Option.toList, List.cons_append, List.nil_append, ↓reduceIte, reduceCtorEq, Nat.reduceAdd, Nat.reduceLT, Nat.reduceLeDiff, Nat.reduceSub, Nat.reduceEqDiff, Nat.zero_le, Nat.sub_zero, Nat.le_refl, true_and, and_true, not_true_eq_false, not_false_eq_true, true_or, or_true, lc_eq, lc_ne, lc_lt, lc_ge, lc_gt, lc_le, nI_add, lN_add, nI_leI, nI_ltI, nI_eq, nI_clamp, pk_lLT, pk_lLE, pk_lEQ, pk_sub, vp_inT, nz_eq, nz_lt, nz_ge, nz_gt, nz_le, lz_eq, lz_lt, lz_ge, hP1, hP2, hP3, hP4, hP5, hP6, hP7, hP8, hP9, hP10, hP11, hP12, hP13, hP14, hP15, hP16, hP17, hP18, hP19, hP20, a5, a6, c2]
        exact hQ h
      · simp (disch := omega) only [B_2021_23, u_2021_1905, B_2021_1905, nI1T, Nat.left_eq_add, Nat.add_eq_left, Nat.add_eq_zero_iff, and_false, false_and, if_false, if_true, opsN, opsC, pm_1, lg, ls1, ls2, lq, List.length_cons, List.length_nil, cN, cL, callE, retV, retN, pm_pop, pm_cat, List.map_cons, List.map_nil, List.sum_cons, List.sum_nil, Value.category, Option.toList, List.cons_append, List.nil_append, ↓reduceIte, reduceCtorEq, Nat.reduceAdd, Nat.reduceLT, Nat.reduceLeDiff, Nat.reduceSub, Nat.reduceEqDiff, Nat.zero_le, Nat.sub_zero, Nat.le_refl, true_and, and_true, not_true_eq_false, not_false_eq_true, true_or, or_true, lc_eq, lc_ne, lc_lt, lc_ge, lc_gt, lc_le, nI_add, lN_add, nI_leI, nI_ltI, nI_eq, nI_clamp, pk_lLT, pk_lLE, pk_lEQ, pk_sub, vp_inT, nz_eq, nz_lt, nz_ge, nz_gt, nz_le, lz_eq, lz_lt, lz_ge, hP1, hP2, hP3, hP4, hP5, hP6, hP7, hP8, hP9, hP10, hP11, hP12, hP13, hP14, hP15, hP16, hP17, hP18, hP19, hP20, a5, a6, c]
        exact hQ h
    · have hi6 : i + 6 ≤ L := by omega
      have c2 : ¬ L - 6 < i := by omega
      have r0 : i < L := by omega
      have hbc : 4 ≤ bc := by omega
      have hbs : 24 ≤ bs := by omega
      have hBB : G.2.2.1 < 2 ^ 29 := by omega
      have hL30 : L < 2 ^ 30 := by omega
      have K : ∀ (h' : pm_H) (G' : Gs) (l5 l6 l7 : Option Value) (bc' bs' : Nat), LI h' x L xs G' → G'.2.2.1 ≤ G.2.2.1 + 300 → bc ≤ bc' + 4 → bs ≤ bs' + 24 → pm_W PP 401 2021 Q bc' bs' 1899 [some (.ref 0), some (.ref x), some (.ref (x + 82)), some (.ref (x + 905)), some (.int (nI i)), l5, l6, l7] [] h' := fun h' G' l5 l6 l7 bc' bs' k1 k2 k3 k4 => by
        simp (disch := omega) only [u_2021_1899, B_2021_1899, nI1T, Nat.left_eq_add, Nat.add_eq_left, Nat.add_eq_zero_iff, and_false, false_and, if_false, if_true, opsN, opsC, pm_1, lg, ls1, ls2, lq, List.length_cons, List.length_nil, cN, cL, callE, retV, retN, pm_pop, pm_cat, List.map_cons, List.map_nil, List.sum_cons, List.sum_nil, Value.category, Option.toList, List.cons_append, List.nil_append, ↓reduceIte, reduceCtorEq, Nat.reduceAdd, Nat.reduceLT, Nat.reduceLeDiff, Nat.reduceSub, Nat.reduceEqDiff, Nat.zero_le, Nat.sub_zero, Nat.le_refl, true_and, and_true, not_true_eq_false, not_false_eq_true, true_or, or_true, lc_eq, lc_ne, lc_lt, lc_ge, lc_gt, lc_le, nI_add, lN_add, nI_leI, nI_ltI, nI_eq, nI_clamp, pk_lLT, pk_lLE, pk_lEQ, pk_sub, vp_inT, nz_eq, nz_lt, nz_ge, nz_gt, nz_le, lz_eq, lz_lt, lz_ge, hP1, hP2, hP3, hP4, hP5, hP6, hP7, hP8, hP9, hP10, hP11, hP12, hP13, hP14, hP15, hP16, hP17, hP18, hP19, hP20]
        exact ih (i + 6) bc' bs' h' G' l5 l6 l7 (by omega) (by omega) k1 (by omega) (by omega) (by omega)
      obtain ⟨k, hk, ek⟩ := and_31 (xs i)
      rw [u_2021_23]
      simp (disch := omega) only [B_2021_23, nI1T, Nat.left_eq_add, Nat.add_eq_left, Nat.add_eq_zero_iff, and_false, false_and, if_false, if_true, opsN, opsC, pm_1, lg, ls1, ls2, lq, List.length_cons, List.length_nil, cN, cL, callE, retV, retN, pm_pop, pm_cat, List.map_cons, List.map_nil, List.sum_cons, List.sum_nil, Value.category, Option.toList, List.cons_append, List.nil_append, ↓reduceIte, reduceCtorEq, Nat.reduceAdd, Nat.reduceLT, Nat.reduceLeDiff, Nat.reduceSub, Nat.reduceEqDiff, Nat.zero_le, Nat.sub_zero, Nat.le_refl, true_and, and_true, not_true_eq_false, not_false_eq_true, true_or, or_true, lc_eq, lc_ne, lc_lt, lc_ge, lc_gt, lc_le, nI_add, lN_add, nI_leI, nI_ltI, nI_eq, nI_clamp, pk_lLT, pk_lLE, pk_lEQ, pk_sub, vp_inT, nz_eq, nz_lt, nz_ge, nz_gt, nz_le, lz_eq, lz_lt, lz_ge, hP1, hP2, hP3, hP4, hP5, hP6, hP7, hP8, hP9, hP10, hP11, hP12, hP13, hP14, hP15, hP16, hP17, hP18, hP19, hP20, a5, a6, a7, c2, r0, ek]
      by_cases k26 : 26 < k
      · have et : (nI k).toInt = (k : Int) := nI_toInt (by omega)
        have c9 : (k : Int) < 0 ∨ (26 : Int) < (k : Int) := .inr (by omega)
        simp (disch := omega) only [et, c9, if_true]
        exact K h G l5 l6 l7 bc bs hL0 (Nat.le_add_right _ _) (by omega) (by omega)
      · rcases (show k = 0 ∨ k = 1 ∨ k = 2 ∨ k = 3 ∨ k = 4 ∨ k = 5 ∨ k = 6 ∨ k = 7 ∨ k = 8 ∨ k = 9 ∨ k = 10 ∨ k = 11 ∨ k = 12 ∨ k = 13 ∨ k = 14 ∨ k = 15 ∨ k = 16 ∨ k = 17 ∨ k = 18 ∨ k = 19 ∨ k = 20 ∨ k = 21 ∨ k = 22 ∨ k = 23 ∨ k = 24 ∨ k = 25 ∨ k = 26 by omega) with e | e | e | e | e | e | e | e | e | e | e | e | e | e | e | e | e | e | e | e | e | e | e | e | e | e | e <;> subst e
        · exact tn_164 hx0 hL0 hBB hi6 hL30 hbc hbs K
        · exact tn_237 hx0 hL0 hi6 hL30 hbc hbs K
        · exact tn_293 hx0 hL0 hBB hi6 hL30 hbc hbs K
        · exact tn_349 hx0 hL0 hBB hi6 hL30 hbc hbs K
        · exact tn_362 hx0 hL0 hBB hi6 hL30 hbc hbs K
        · exact tn_462 hx0 hL0 hBB hi6 hL30 hbc hbs K
        · exact tn_518 hx0 hL0 hBB hi6 hL30 hbc hbs K
        · exact tn_630 hx0 hL0 hBB hi6 hL30 hbc hbs K
        · exact tn_698 hx0 hL0 hBB hi6 hL30 hbc hbs K
        · exact tn_754 hx0 hL0 hBB hi6 hL30 hbc hbs K
        · exact tn_810 hx0 hL0 hBB hi6 hL30 hbc hbs K
        · exact tn_866 hx0 hL0 hBB hi6 hL30 hbc hbs K
        · exact tn_879 hx0 hL0 hBB hi6 hL30 hbc hbs K
        · exact tn_935 hx0 hL0 hBB hi6 hL30 hbc hbs K
        · exact tn_1002 hx0 hL0 hBB hi6 hL30 hbc hbs K
        · exact tn_1081 hx0 hL0 hBB hi6 hL30 hbc hbs K
        · exact tn_1149 hx0 hL0 hBB hi6 hL30 hbc hbs K
        · exact tn_1217 hx0 hL0 hBB hi6 hL30 hbc hbs K
        · exact tn_1284 hx0 hL0 hBB hi6 hL30 hbc hbs K
        · exact tn_1363 hx0 hL0 hBB hi6 hL30 hbc hbs K
        · exact tn_1376 hx0 hL0 hBB hi6 hL30 hbc hbs K
        · exact tn_1467 hx0 hL0 hBB hi6 hL30 hbc hbs K
        · exact tn_1546 hx0 hL0 hBB hi6 hL30 hbc hbs K
        · exact tn_1626 hx0 hL0 hBB hi6 hL30 hbc hbs K
        · exact tn_1737 hx0 hL0 hBB hi6 hL30 hbc hbs K
        · exact tn_1860 hx0 hL0 hBB hi6 hL30 hbc hbs K
        · exact tn_1874 hx0 hL0 hBB hi6 hL30 hbc hbs K
end LO
