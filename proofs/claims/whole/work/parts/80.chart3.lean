/-! ===== chart, as it is called: the class ===== -/
theorem isB_w {b cap bits limit : Nat} {A : Qs} {h h' : pm_H} (h1 : hT h' = hT h) (h2 : hN h' = hN h) (h3 : hR h' b = hR h b) (h4 : ∀ k, b ≤ k → k < b + 6 → hI h' k = hI h k ∧ hL h' k = hL h k) (hs : isB h b cap bits limit A) : isB h' b cap bits limit A := by
  have e0 := h4 b (by omega) (by omega)
  unfold isB at *
  refine ⟨bS_eq h1 h2 h3 hs.1, hs.2.1, ?_⟩
  rw [e0.1, e0.2, (h4 (b + 2) (by omega) (by omega)).2, (h4 (b + 3) (by omega) (by omega)).1, (h4 (b + 4) (by omega) (by omega)).1, (h4 (b + 5) (by omega) (by omega)).1]
  exact hs.2.2
theorem isH_w {a : Nat} {H : Hs} {h h' : pm_H} (h1 : hT h' = hT h) (h2 : hN h' = hN h) (h3 : ∀ k, a ≤ k → k < a + 13 → hR h' k = hR h k) (h4 : ∀ k, a ≤ k → k < a + 13 → hI h' k = hI h k ∧ hL h' k = hL h k) (hs : isH h a H) : isH h' a H := by
  refine ⟨?_, isB_w h1 h2 (h3 _ (by omega) (by omega)) (fun k q1 q2 => h4 k (by omega) (by omega)) hs.2.1, isB_w h1 h2 (h3 _ (by omega) (by omega)) (fun k q1 q2 => h4 k (by omega) (by omega)) hs.2.2⟩
  unfold hS
  rw [h1, h3 a (by omega) (by omega)]
  exact hs.1
theorem isC_w {x : Nat} {H : Hs} {P : List Hs} {h h' : pm_H} (h1 : hT h' = hT h) (h2 : hN h' = hN h) (h0 : hR h' x 0 = hR h x 0) (h01 : hR h' x 1 = hR h x 1) (h3 : ∀ k, x < k → k < x + 32 → hR h' k = hR h k) (h4 : ∀ k, x < k → k < x + 32 → hI h' k = hI h k ∧ hL h' k = hL h k)
    (hc : isC h x (x + 1) (x + 14) H P) : isC h' x (x + 1) (x + 14) H P := by
  obtain ⟨a1, a2, a3, a4, B, L, b1, b2, b3, b4, b5, b6, b7, b8⟩ := hc
  refine ⟨?_, a2, a3, a4, B, L, b1, b2, isH_w h1 h2 (fun k q1 q2 => h3 k (by omega) (by omega)) (fun k q1 q2 => h4 k (by omega) (by omega)) b3, b4, b5, ?_, ?_, isH_w h1 h2 (fun k q1 q2 => h3 k (by omega) (by omega)) (fun k q1 q2 => h4 k (by omega) (by omega)) b8⟩
  · unfold isX at *; rw [h1, h0, h01]; exact a1
  · unfold aS at *; rw [h1, h2, h3 (x + 14) (by omega) (by omega)]; exact b6
  · unfold aR at *
    rw [(h4 (x + 14) (by omega) (by omega)).1, (h4 (x + 14 + 14) (by omega) (by omega)).1, (h4 (x + 14 + 15) (by omega) (by omega)).1, (h4 (x + 14 + 16) (by omega) (by omega)).1, (h4 (x + 14 + 17) (by omega) (by omega)).2]
    exact b7
theorem txt_take {T : List Nat} {n : Nat} (ht : txt T) : txt (T.take n) := ⟨by rw [List.length_take]; have := ht.1; omega, fun b hb => ht.2 b (List.mem_of_mem_take hb)⟩
theorem take_len {T : List Nat} {n : Nat} (hn : n ≤ T.length) : (T.take n).length = n := by rw [List.length_take]; omega
theorem take_at {T : List Nat} {n i : Nat} (hi : i < n) : (T.take n).getD i 0 = T.getD i 0 := by
  rw [List.getD_eq_getElem?_getD, List.getD_eq_getElem?_getD, List.getElem?_take_of_lt hi]
def plF (f : Fl) : Option Nat := f.map fun e => e.2
theorem plF_iv (f : Fl) : iv (plF f) = flP f := by cases f <;> rfl
section CC
variable {h : pm_H} {x t : Nat} {X T : List Nat} {F : Option Nat} {G : Gs} {Q : pm_Q}
theorem c803 (d : Nat) {n : Nat} (hs : tpS h t) (hT1 : cTp h t T F) (hn : n ≤ T.length) (ht : txt T)
    (hQ : ∀ h', rd h' t (T.take n) (0, none) → frT t (fun j => 2 ≤ j ∧ j ≤ 5) h h' → Q (.inl none) h') : pm_M PP (d + 1) 803 [.ref t, .int (nI n)] h Q := by
  obtain ⟨s0, s1, s2, s3⟩ := hs
  obtain ⟨a1, a2, a3⟩ := hT1
  have h5 := ht.1
  have c : ¬ T.length < n := by omega
  have em : (if nI T.length < nI n then nI T.length else nI n) = nI n := if_neg (fun q => c ((nI_ltI (by omega) (by omega)).mp q))
  rw [e_803]
  simp (disch := omega) only [u_803_0, B_803_0, nI1T, Nat.left_eq_add, Nat.add_eq_left, Nat.add_eq_zero_iff, and_false, false_and, if_false, if_true, opsN, opsC, pm_1, lg, ls1, ls2, lq, List.length_cons, List.length_nil, cN, cL, callE, retV, retN, pm_pop, pm_cat, List.map_cons, List.map_nil, List.sum_cons, List.sum_nil, Value.category, Option.toList, List.cons_append, List.nil_append, ↓reduceIte, reduceCtorEq, Nat.reduceAdd, Nat.reduceLT, Nat.reduceLeDiff, Nat.reduceSub, Nat.reduceEqDiff, Nat.zero_le, Nat.sub_zero, Nat.le_refl, true_and, and_true, not_true_eq_false, not_false_eq_true, true_or, or_true, lc_eq, lc_ne, lc_lt, lc_ge, lc_gt, lc_le, nI_add, lN_add, nI_leI, nI_ltI, nI_eq, nI_clamp, pk_lLT, pk_lLE, pk_lEQ, pk_sub, vp_inT, nz_eq, nz_lt, nz_ge, nz_gt, nz_le, lz_eq, lz_lt, lz_ge, hP1, hP2, hP3, hP4, hP5, hP6, hP7, hP8, hP9, hP10, hP11, hP12, hP13, hP14, hP15, hP16, hP17, hP18, hP19, hP20, s0, va_upE, a1, c, sI_sI]
  refine hQ _ ⟨⟨s0, s1, s2, s3⟩, ?_, ?_, ?_, ?_, fun i hi => ?_, Nat.zero_le _, (fun e q => by cases q), txt_take ht⟩ ⟨rfl, rfl, rfl, rfl, rfl, fun k q1 q2 => ?_, fun j q => ?_⟩
  · rw [hI_at]; simp only [va_upE, Nat.reduceEqDiff, if_false, if_true]
  · rw [hI_at]; simp only [va_upE, Nat.reduceEqDiff, if_false, if_true, take_len hn]
  · rw [hI_at]; simp only [va_upE, Nat.reduceEqDiff, if_false, if_true]; rfl
  · rw [hI_at]; simp only [va_upE, Nat.reduceEqDiff, if_false, if_true]; rfl
  · rw [take_len hn] at hi
    rw [hP1, va_up_ne _ _ (by omega), take_at hi]; exact a3 i (by omega)
  · rw [hP1, va_up_ne _ _ q1]
  · have e2 : ¬ j = 2 := fun z => q (by omega)
    have e3 : ¬ j = 3 := fun z => q (by omega)
    have e4 : ¬ j = 4 := fun z => q (by omega)
    have e5 : ¬ j = 5 := fun z => q (by omega)
    rw [hI_at]; simp only [va_upE, e2, e3, e4, e5, if_false]
/-- the bounds of a text -/
theorem v_txt {v : Int32} {k : Nat} (hk : k ≤ 500) : (∃ n, n ≤ k ∧ v = nI n) ∨ (v < 0 ∨ nI k < v) := by
  rcases i32_in v (c := k + 1) (by omega) with ⟨i, hi, e⟩ | z
  · exact .inl ⟨i, by omega, e⟩
  · exact .inr (v_cas (by omega) z)
theorem c903a (d : Nat) {v : Int32} (hC : CI h x G) (hl : G.2.2.2.2.1.length ≤ 500) (hv : v < 0 ∨ nI G.2.2.2.2.1.length < v) (hQ : Q (.inr 1) (refH h x 12)) : pm_M PP (d + 2) 903 [.ref x, .int v] h Q := by
  have hs := hC.2.2.1
  have hx := hs.1
  have t1 := hs.2.1
  have t2 := hs.2.2.2.2.2.2.2.2.2.2.1.1
  have t3 := hC.2.2.2.1.1
  rw [e_903]
  by_cases c : v < 0
  · simp (disch := omega) only [u_903_0, B_903_0, u_903_27, B_903_27, u_903_28, B_903_28, nI1T, Nat.left_eq_add, Nat.add_eq_left, Nat.add_eq_zero_iff, and_false, false_and, if_false, if_true, opsN, opsC, pm_1, lg, ls1, ls2, lq, List.length_cons, List.length_nil, cN, cL, callE, retV, retN, pm_pop, pm_cat, List.map_cons, List.map_nil, List.sum_cons, List.sum_nil, Value.category, Option.toList, List.cons_append, List.nil_append, ↓reduceIte, reduceCtorEq, Nat.reduceAdd, Nat.reduceLT, Nat.reduceLeDiff, Nat.reduceSub, Nat.reduceEqDiff, Nat.zero_le, Nat.sub_zero, Nat.le_refl, true_and, and_true, not_true_eq_false, not_false_eq_true, true_or, or_true, lc_eq, lc_ne, lc_lt, lc_ge, lc_gt, lc_le, nI_add, lN_add, nI_leI, nI_ltI, nI_eq, nI_clamp, pk_lLT, pk_lLE, pk_lEQ, pk_sub, vp_inT, nz_eq, nz_lt, nz_ge, nz_gt, nz_le, lz_eq, lz_lt, lz_ge, hP1, hP2, hP3, hP4, hP5, hP6, hP7, hP8, hP9, hP10, hP11, hP12, hP13, hP14, hP15, hP16, hP17, hP18, hP19, hP20, hx, c]
    rw [n931f _ hx, retX]
    exact hQ
  · have c2 := hv.resolve_left c
    simp (disch := omega) only [u_903_0, B_903_0, u_903_27, B_903_27, u_903_28, B_903_28, nI1T, Nat.left_eq_add, Nat.add_eq_left, Nat.add_eq_zero_iff, and_false, false_and, if_false, if_true, opsN, opsC, pm_1, lg, ls1, ls2, lq, List.length_cons, List.length_nil, cN, cL, callE, retV, retN, pm_pop, pm_cat, List.map_cons, List.map_nil, List.sum_cons, List.sum_nil, Value.category, Option.toList, List.cons_append, List.nil_append, ↓reduceIte, reduceCtorEq, Nat.reduceAdd, Nat.reduceLT, Nat.reduceLeDiff, Nat.reduceSub, Nat.reduceEqDiff, Nat.zero_le, Nat.sub_zero, Nat.le_refl, true_and, and_true, not_true_eq_false, not_false_eq_true, true_or, or_true, lc_eq, lc_ne, lc_lt, lc_ge, lc_gt, lc_le, nI_add, lN_add, nI_leI, nI_ltI, nI_eq, nI_clamp, pk_lLT, pk_lLE, pk_lEQ, pk_sub, vp_inT, nz_eq, nz_lt, nz_ge, nz_gt, nz_le, lz_eq, lz_lt, lz_ge, hP1, hP2, hP3, hP4, hP5, hP6, hP7, hP8, hP9, hP10, hP11, hP12, hP13, hP14, hP15, hP16, hP17, hP18, hP19, hP20, hx, t1, t2, t3, c, c2]
    rw [n931f _ hx, retX]
    exact hQ
theorem c804 (d : Nat) (ht : hT h t = 8) (hQ : Q (.inl none) (sI h t (va_up (hI h t) 1 (nI 0)))) : pm_M PP (d + 1) 804 [.ref t] h Q := by
  rw [e_804]
  simp (disch := omega) only [u_804_0, B_804_0, nI1T, Nat.left_eq_add, Nat.add_eq_left, Nat.add_eq_zero_iff, and_false, false_and, if_false, if_true, opsN, opsC, pm_1, lg, ls1, ls2, lq, List.length_cons, List.length_nil, cN, cL, callE, retV, retN, pm_pop, pm_cat, List.map_cons, List.map_nil, List.sum_cons, List.sum_nil, Value.category, Option.toList, List.cons_append, List.nil_append, ↓reduceIte, reduceCtorEq, Nat.reduceAdd, Nat.reduceLT, Nat.reduceLeDiff, Nat.reduceSub, Nat.reduceEqDiff, Nat.zero_le, Nat.sub_zero, Nat.le_refl, true_and, and_true, not_true_eq_false, not_false_eq_true, true_or, or_true, lc_eq, lc_ne, lc_lt, lc_ge, lc_gt, lc_le, nI_add, lN_add, nI_leI, nI_ltI, nI_eq, nI_clamp, pk_lLT, pk_lLE, pk_lEQ, pk_sub, vp_inT, nz_eq, nz_lt, nz_ge, nz_gt, nz_le, lz_eq, lz_lt, lz_ge, hP1, hP2, hP3, hP4, hP5, hP6, hP7, hP8, hP9, hP10, hP11, hP12, hP13, hP14, hP15, hP16, hP17, hP18, hP19, hP20, ht]
  exact hQ
def chR (T : List Nat) (n : Nat) : (Nat × Nat) ⊕ Cs := chL (T.take n) 500 0 c0s
theorem c903 (d : Nat) {n : Nat} (hC : CI h x G) (ht : txt G.2.2.2.2.1) (hnn : n ≤ G.2.2.2.2.1.length)
    (hQe : ∀ e h', chR G.2.2.2.2.1 n = .inl e → CI h' x (G.1, G.2.1, G.2.2.1, G.2.2.2.1, [], some e.2, G.2.2.2.2.2.2.1, G.2.2.2.2.2.2.2) → frX x (x + 82) h h' → Q (.inl (some (.int (nI e.1 - nI 10)))) h')
    (hQ : ∀ C' h', chR G.2.2.2.2.1 n = .inr C' → CI h' x (G.1, G.2.1, G.2.2.1, G.2.2.2.1, [], none, G.2.2.2.2.2.2.1, C') → frX x (x + 82) h h' → Q (.inl (some (.int (nI (C'.1.length + C'.2.1.length + C'.2.2.length))))) h') :
    pm_M PP (d + 7) 903 [.ref x, .int (nI n)] h Q := by
  obtain ⟨hcc, hcr, hs, hct, hcp, c, s, hcs, r5, r6, hch⟩ := hC
  have hx := hs.1
  have t1 := hs.2.1
  have t2 := hs.2.2.2.2.2.2.2.2.2.2.1
  have t3 := hct.1
  have h5 := ht.1
  have k1 : ¬ G.2.2.2.2.1.length < n := by omega
  have k2 : ¬ 500 < n := by omega
  have hss : chS h s := by
    rcases hcs with ⟨_, e⟩ | ⟨_, e⟩ <;> rw [e]
    · exact hs.2.2.2.2.2.2.2.2.2.2.2.2.2.2
    · exact hs.2.2.2.2.2.2.2.2.2.2.2.2.2.1
  have hs0 : ¬ s = 0 := by omega
  have hc0 : ¬ c = 0 := by omega
  have ets := t2.1
  rw [e_903]
  simp (disch := omega) only [u_903_0, B_903_0, u_903_28, B_903_28, nI1T, Nat.left_eq_add, Nat.add_eq_left, Nat.add_eq_zero_iff, and_false, false_and, if_false, if_true, opsN, opsC, pm_1, lg, ls1, ls2, lq, List.length_cons, List.length_nil, cN, cL, callE, retV, retN, pm_pop, pm_cat, List.map_cons, List.map_nil, List.sum_cons, List.sum_nil, Value.category, Option.toList, List.cons_append, List.nil_append, ↓reduceIte, reduceCtorEq, Nat.reduceAdd, Nat.reduceLT, Nat.reduceLeDiff, Nat.reduceSub, Nat.reduceEqDiff, Nat.zero_le, Nat.sub_zero, Nat.le_refl, true_and, and_true, not_true_eq_false, not_false_eq_true, true_or, or_true, lc_eq, lc_ne, lc_lt, lc_ge, lc_gt, lc_le, nI_add, lN_add, nI_leI, nI_ltI, nI_eq, nI_clamp, pk_lLT, pk_lLE, pk_lEQ, pk_sub, vp_inT, nz_eq, nz_lt, nz_ge, nz_gt, nz_le, lz_eq, lz_lt, lz_ge, hP1, hP2, hP3, hP4, hP5, hP6, hP7, hP8, hP9, hP10, hP11, hP12, hP13, hP14, hP15, hP16, hP17, hP18, hP19, hP20, hx, t1, ets, t3, k1, k2]
  rw [n931t]
  simp (disch := omega) only [nI1T, Nat.left_eq_add, Nat.add_eq_left, Nat.add_eq_zero_iff, and_false, false_and, if_false, if_true, opsN, opsC, pm_1, lg, ls1, ls2, lq, List.length_cons, List.length_nil, cN, cL, callE, retV, retN, pm_pop, pm_cat, List.map_cons, List.map_nil, List.sum_cons, List.sum_nil, Value.category, Option.toList, List.cons_append, List.nil_append, ↓reduceIte, reduceCtorEq, Nat.reduceAdd, Nat.reduceLT, Nat.reduceLeDiff, Nat.reduceSub, Nat.reduceEqDiff, Nat.zero_le, Nat.sub_zero, Nat.le_refl, true_and, and_true, not_true_eq_false, not_false_eq_true, true_or, or_true, lc_eq, lc_ne, lc_lt, lc_ge, lc_gt, lc_le, nI_add, lN_add, nI_leI, nI_ltI, nI_eq, nI_clamp, pk_lLT, pk_lLE, pk_lEQ, pk_sub, vp_inT, nz_eq, nz_lt, nz_ge, nz_gt, nz_le, lz_eq, lz_lt, lz_ge, hP1, hP2, hP3, hP4, hP5, hP6, hP7, hP8, hP9, hP10, hP11, hP12, hP13, hP14, hP15, hP16, hP17, hP18, hP19, hP20, hx, t1, ets]
  refine c803 (d + 5) t2 hct hnn ht ?_
  intro h1 l1 f1
  have g1 : hT h1 x = 9 := by rw [f1.1]; exact hx
  have g2 : hR h1 x 2 = x + 32 := by rw [f1.2.2.1]; exact t1
  have g6 : hR h1 x 6 = s := by rw [f1.2.2.1]; exact r6
  have hs1 : chS h1 s := chS_eq f1.1 f1.2.1 (by rw [f1.2.2.1]) hss
  simp (disch := omega) only [nI1T, Nat.left_eq_add, Nat.add_eq_left, Nat.add_eq_zero_iff, and_false, false_and, if_false, if_true, opsN, opsC, pm_1, lg, ls1, ls2, lq, List.length_cons, List.length_nil, cN, cL, callE, retV, retN, pm_pop, pm_cat, List.map_cons, List.map_nil, List.sum_cons, List.sum_nil, Value.category, Option.toList, List.cons_append, List.nil_append, ↓reduceIte, reduceCtorEq, Nat.reduceAdd, Nat.reduceLT, Nat.reduceLeDiff, Nat.reduceSub, Nat.reduceEqDiff, Nat.zero_le, Nat.sub_zero, Nat.le_refl, true_and, and_true, not_true_eq_false, not_false_eq_true, true_or, or_true, lc_eq, lc_ne, lc_lt, lc_ge, lc_gt, lc_le, nI_add, lN_add, nI_leI, nI_ltI, nI_eq, nI_clamp, pk_lLT, pk_lLE, pk_lEQ, pk_sub, vp_inT, nz_eq, nz_lt, nz_ge, nz_gt, nz_le, lz_eq, lz_lt, lz_ge, hP1, hP2, hP3, hP4, hP5, hP6, hP7, hP8, hP9, hP10, hP11, hP12, hP13, hP14, hP15, hP16, hP17, hP18, hP19, hP20, g1, g2, g6, hs0, hs1.1]
  refine c202 d (by omega) l1 hs1 ?_
  intro h2 a2 n1 n2 n3 f2
  have g1 : hT h2 x = 9 := by rw [f2.1]; exact g1
  have g2 : hR h2 x 2 = x + 32 := by rw [f2.2.2.1]; exact g2
  simp (disch := omega) only [nI1T, Nat.left_eq_add, Nat.add_eq_left, Nat.add_eq_zero_iff, and_false, false_and, if_false, if_true, opsN, opsC, pm_1, lg, ls1, ls2, lq, List.length_cons, List.length_nil, cN, cL, callE, retV, retN, pm_pop, pm_cat, List.map_cons, List.map_nil, List.sum_cons, List.sum_nil, Value.category, Option.toList, List.cons_append, List.nil_append, ↓reduceIte, reduceCtorEq, Nat.reduceAdd, Nat.reduceLT, Nat.reduceLeDiff, Nat.reduceSub, Nat.reduceEqDiff, Nat.zero_le, Nat.sub_zero, Nat.le_refl, true_and, and_true, not_true_eq_false, not_false_eq_true, true_or, or_true, lc_eq, lc_ne, lc_lt, lc_ge, lc_gt, lc_le, nI_add, lN_add, nI_leI, nI_ltI, nI_eq, nI_clamp, pk_lLT, pk_lLE, pk_lEQ, pk_sub, vp_inT, nz_eq, nz_lt, nz_ge, nz_gt, nz_le, lz_eq, lz_lt, lz_ge, hP1, hP2, hP3, hP4, hP5, hP6, hP7, hP8, hP9, hP10, hP11, hP12, hP13, hP14, hP15, hP16, hP17, hP18, hP19, hP20, g1, g2, n1.1.1]
  refine c804 (d + 5) n1.1.1 ?_
  have g4 : hI h2 (x + 32) 4 = flC (resF (chL (G.2.2.2.2.1.take n) 500 0 c0s)) := n1.2.2.2.1
  have g5 : hI h2 (x + 32) 5 = flP (resF (chL (G.2.2.2.2.1.take n) 500 0 c0s)) := n1.2.2.2.2.1
  have fT : hT h2 = hT h := f2.1.trans f1.1
  have fN : hN h2 = hN h := f2.2.1.trans f1.2.1
  have fR : hR h2 = hR h := f2.2.2.1.trans f1.2.2.1
  have fn : hn h2 = hn h := f2.2.2.2.1.trans f1.2.2.2.1
  have fL : hL h2 = hL h := f2.2.2.2.2.1.trans f1.2.2.2.2.1
  have fI : ∀ k, k ≠ x + 32 → (k < s ∨ s + 9 ≤ k) → k ≠ x + 33 → hI h2 k = hI h k := fun k q1 q2 q3 => (f2.2.2.2.2.2.1 k q1 q2).trans (f1.2.2.2.2.2.1 k q1 q3)
  have hce : chR G.2.2.2.2.1 n = chL (G.2.2.2.2.1.take n) 500 0 c0s := rfl
  cases er : chL (G.2.2.2.2.1.take n) 500 0 c0s with
  | inl e =>
    have hok := n1.2.2.2.2.2.2.2.1 e (by rw [er]; rfl)
    rw [er] at g4 g5
    have g4 : hI h2 (x + 32) 4 = nI e.1 := g4
    have e0 : ¬ e.1 = 0 := by omega
    simp (disch := omega) only [nI1T, Nat.left_eq_add, Nat.add_eq_left, Nat.add_eq_zero_iff, and_false, false_and, if_false, if_true, opsN, opsC, pm_1, lg, ls1, ls2, lq, List.length_cons, List.length_nil, cN, cL, callE, retV, retN, pm_pop, pm_cat, List.map_cons, List.map_nil, List.sum_cons, List.sum_nil, Value.category, Option.toList, List.cons_append, List.nil_append, ↓reduceIte, reduceCtorEq, Nat.reduceAdd, Nat.reduceLT, Nat.reduceLeDiff, Nat.reduceSub, Nat.reduceEqDiff, Nat.zero_le, Nat.sub_zero, Nat.le_refl, true_and, and_true, not_true_eq_false, not_false_eq_true, true_or, or_true, lc_eq, lc_ne, lc_lt, lc_ge, lc_gt, lc_le, nI_add, lN_add, nI_leI, nI_ltI, nI_eq, nI_clamp, pk_lLT, pk_lLE, pk_lEQ, pk_sub, vp_inT, nz_eq, nz_lt, nz_ge, nz_gt, nz_le, lz_eq, lz_lt, lz_ge, hP1, hP2, hP3, hP4, hP5, hP6, hP7, hP8, hP9, hP10, hP11, hP12, hP13, hP14, hP15, hP16, hP17, hP18, hP19, hP20, g1, g2, n1.1.1, g4, va_upE, e0]
    have eI : ∀ k, k ≠ x + 32 → hI (sI h2 (x + 32) (va_up (hI h2 (x + 32)) 1 (nI 0))) k = hI h2 k := fun k q => by rw [hP1, va_up_ne _ _ q]
    refine hQe e _ (by rw [hce, er]) ⟨isC_w fT fN (by rw [hP3, fR]) (by rw [hP3, fR]) (fun k _ _ => by rw [hP3, fR]) (fun k q1 q2 => ⟨by rw [eI k (by omega), fI k (by omega) (by omega) (by omega)], by rw [hP2, fL]⟩) hcc, fun r hr => ?_, xS_eq fT fN (fun j _ => by rw [hP3, fR]) (fun k _ _ => by rw [hP3, fR]) hs, ⟨?_, ?_, fun i hi => absurd hi (Nat.not_lt_zero _)⟩, cPl_eq (by rw [hP3, fR]) (by rw [hP3, fR]) (fun k q1 q2 => by rw [eI k (by omega), fI k (by omega) (by omega) (by omega)]) hcp, ⟨c, s, hcs, by rw [hP3, fR]; exact r5, by rw [hP3, fR]; exact r6, isCh_eq (fun k q1 q2 => by rw [eI k (by omega), fI k (by omega) (by omega) (by omega)]) hch⟩⟩ ⟨fT, fN, fn, fun k q => ⟨by rw [eI k (by omega), fI k (by omega) (by omega) (by omega)], by rw [hP2, fL], by rw [hP3, fR]⟩⟩
    · rw [eI x (by omega), fI x (by omega) (by omega) (by omega)]; exact hcr r hr
    · rw [hI_at, va_up_self]; rfl
    · rw [hI_at, va_up_ne _ _ (by decide), g5]; rfl
  | inr C' =>
    rw [er] at g4 g5
    have g4 : hI h2 (x + 32) 4 = nI 0 := g4
    have hC' := n3 C' er
    have q5 : hR h2 x 5 = c := by rw [fR]; exact r5
    have q6 : hR h2 x 6 = s := by rw [fR]; exact r6
    have s0 := n2.1
    simp (disch := omega) only [u_903_78, B_903_78, nI1T, Nat.left_eq_add, Nat.add_eq_left, Nat.add_eq_zero_iff, and_false, false_and, if_false, if_true, opsN, opsC, pm_1, lg, ls1, ls2, lq, List.length_cons, List.length_nil, cN, cL, callE, retV, retN, pm_pop, pm_cat, List.map_cons, List.map_nil, List.sum_cons, List.sum_nil, Value.category, Option.toList, List.cons_append, List.nil_append, ↓reduceIte, reduceCtorEq, Nat.reduceAdd, Nat.reduceLT, Nat.reduceLeDiff, Nat.reduceSub, Nat.reduceEqDiff, Nat.zero_le, Nat.sub_zero, Nat.le_refl, true_and, and_true, not_true_eq_false, not_false_eq_true, true_or, or_true, lc_eq, lc_ne, lc_lt, lc_ge, lc_gt, lc_le, nI_add, lN_add, nI_leI, nI_ltI, nI_eq, nI_clamp, pk_lLT, pk_lLE, pk_lEQ, pk_sub, vp_inT, nz_eq, nz_lt, nz_ge, nz_gt, nz_le, lz_eq, lz_lt, lz_ge, hP1, hP2, hP3, hP4, hP5, hP6, hP7, hP8, hP9, hP10, hP11, hP12, hP13, hP14, hP15, hP16, hP17, hP18, hP19, hP20, g1, g2, n1.1.1, g4, q5, q6, hs0, hc0, va_upE, s0]
    rw [e_201]
    obtain ⟨m1, m2, m3, m4, m5, m6⟩ := hC'
    have es : (s = x + 32) = False := eq_false (by omega)
    simp (disch := omega) only [u_201_0, B_201_0, nI1T, Nat.left_eq_add, Nat.add_eq_left, Nat.add_eq_zero_iff, and_false, false_and, if_false, if_true, opsN, opsC, pm_1, lg, ls1, ls2, lq, List.length_cons, List.length_nil, cN, cL, callE, retV, retN, pm_pop, pm_cat, List.map_cons, List.map_nil, List.sum_cons, List.sum_nil, Value.category, Option.toList, List.cons_append, List.nil_append, ↓reduceIte, reduceCtorEq, Nat.reduceAdd, Nat.reduceLT, Nat.reduceLeDiff, Nat.reduceSub, Nat.reduceEqDiff, Nat.zero_le, Nat.sub_zero, Nat.le_refl, true_and, and_true, not_true_eq_false, not_false_eq_true, true_or, or_true, lc_eq, lc_ne, lc_lt, lc_ge, lc_gt, lc_le, nI_add, lN_add, nI_leI, nI_ltI, nI_eq, nI_clamp, pk_lLT, pk_lLE, pk_lEQ, pk_sub, vp_inT, nz_eq, nz_lt, nz_ge, nz_gt, nz_le, lz_eq, lz_lt, lz_ge, hP1, hP2, hP3, hP4, hP5, hP6, hP7, hP8, hP9, hP10, hP11, hP12, hP13, hP14, hP15, hP16, hP17, hP18, hP19, hP20, s0, va_upE, es, m1, m2, m3]
    have eI : ∀ k, k ≠ x + 32 → hI (sI h2 (x + 32) (va_up (hI h2 (x + 32)) 1 (nI 0))) k = hI h2 k := fun k q => by rw [hP1, va_up_ne _ _ q]
    refine hQ C' _ (by rw [hce, er]) ⟨isC_w fT fN ?_ ?_ (fun k q1 q2 => ?_) (fun k q1 q2 => ⟨?_, ?_⟩) hcc, fun r hr => ?_, xS_eq fT fN (fun j q => ?_) (fun k q1 q2 => ?_) hs, ⟨?_, ?_, fun i hi => absurd hi (Nat.not_lt_zero _)⟩, cPl_eq ?_ ?_ (fun k q1 q2 => ?_) hcp, ⟨s, c, by omega, ?_, ?_, ?_⟩⟩ ⟨fT, fN, fn, fun k q => ⟨?_, ?_, ?_⟩⟩
    · rw [hP18, va_up_self, va_up_ne _ _ (by decide), va_up_ne _ _ (by decide)]; rw [fR]
    · rw [hP18, va_up_self, va_up_ne _ _ (by decide), va_up_ne _ _ (by decide)]; rw [fR]
    · rw [hP18, va_up_ne _ _ (by omega), hP18, va_up_ne _ _ (by omega), hP3, fR]
    · exact (eI k (by omega)).trans (fI k (by omega) (by omega) (by omega))
    · show hL h2 k = _; rw [fL]
    · exact ((congrFun (eI x (by omega)) _).trans (congrFun (fI x (by omega) (by omega) (by omega)) _)).trans (hcr r hr)
    · rw [hP18, va_up_self, va_up_ne _ _ (by omega), va_up_ne _ _ (by omega)]; rw [fR]
    · rw [hP18, va_up_ne _ _ (by omega), hP18, va_up_ne _ _ (by omega), hP3, fR]
    · show hI (sI h2 (x + 32) _) (x + 32) 1 = _; rw [hI_at, va_up_self]; rfl
    · show hI (sI h2 (x + 32) _) (x + 32) 5 = _; rw [hI_at, va_up_ne _ _ (by decide), g5]; rfl
    · rw [hP18, va_up_self, va_up_ne _ _ (by decide), va_up_ne _ _ (by decide)]; rw [fR]
    · rw [hP18, va_up_self, va_up_ne _ _ (by decide), va_up_ne _ _ (by decide)]; rw [fR]
    · exact (eI k (by omega)).trans (fI k (by omega) (by omega) (by omega))
    · rw [hP18, va_up_self, va_up_ne _ _ (by decide), va_up_self]
    · rw [hP18, va_up_self, va_up_self]
    · exact isCh_eq (h := h2) (fun k q1 q2 => eI k (by omega)) ⟨m1, m2, m3, m4, m5, m6⟩
    · exact (eI k (by omega)).trans (fI k (by omega) (by omega) (by omega))
    · show hL h2 k = _; rw [fL]
    · rw [hP18, va_up_ne _ _ (by omega), hP18, va_up_ne _ _ (by omega), hP3, fR]
end CC
