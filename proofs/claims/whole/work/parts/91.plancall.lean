/-! ===== plan, as it is called ===== -/
def plR (T : List Nat) (n : Nat) : (Nat × Nat) ⊕ Ps := CL (T.take n) 300 0 [] [] 0
section PQ
variable {h : pm_H} {x m t : Nat} {X T : List Nat} {F : Option Nat} {G : Gs} {Q : pm_Q}
theorem c902a (d : Nat) {v : Int32} (hC : CI h x G) (hl : G.2.2.2.2.1.length ≤ 500) (hv : v < 0 ∨ nI (min G.2.2.2.2.1.length 300) < v) (hQ : Q (.inr 1) (refH h x 12)) : pm_M PP (d + 2) 902 [.ref x, .int v] h Q := by
  have hs := hC.2.2.1
  have hx := hs.1
  have t1 := hs.2.1
  have t2 := hs.2.2.2.2.2.2.2.2.2.2.1.1
  have t3 := hC.2.2.2.1.1
  rw [e_902]
  by_cases c : v < 0
  · simp (disch := omega) only [u_902_0, B_902_0, u_902_27, B_902_27, u_902_28, B_902_28, nI1T, Nat.left_eq_add, Nat.add_eq_left, Nat.add_eq_zero_iff, and_false, false_and, if_false, if_true, opsN, opsC, pm_1, lg, ls1, ls2, lq, List.length_cons, List.length_nil, cN, cL, callE, retV, retN, pm_pop, pm_cat, List.map_cons, List.map_nil, List.sum_cons, List.sum_nil, Value.category, Option.toList, List.cons_append, List.nil_append, ↓reduceIte, reduceCtorEq, Nat.reduceAdd, Nat.reduceLT, Nat.reduceLeDiff, Nat.reduceSub, Nat.reduceEqDiff, Nat.zero_le, Nat.sub_zero, Nat.le_refl, true_and, and_true, not_true_eq_false, not_false_eq_true, true_or, or_true, lc_eq, lc_ne, lc_lt, lc_ge, lc_gt, lc_le, nI_add, lN_add, nI_leI, nI_ltI, nI_eq, nI_clamp, pk_lLT, pk_lLE, pk_lEQ, pk_sub, vp_inT, nz_eq, nz_lt, nz_ge, nz_gt, nz_le, lz_eq, lz_lt, lz_ge, hP1, hP2, hP3, hP4, hP5, hP6, hP7, hP8, hP9, hP10, hP11, hP12, hP13, hP14, hP15, hP16, hP17, hP18, hP19, hP20, hx, c]
    rw [n931f _ hx, retX]
    exact hQ
  · have c2 := hv.resolve_left c
    by_cases c3 : nI G.2.2.2.2.1.length < v
    · simp (disch := omega) only [u_902_0, B_902_0, u_902_27, B_902_27, u_902_28, B_902_28, nI1T, Nat.left_eq_add, Nat.add_eq_left, Nat.add_eq_zero_iff, and_false, false_and, if_false, if_true, opsN, opsC, pm_1, lg, ls1, ls2, lq, List.length_cons, List.length_nil, cN, cL, callE, retV, retN, pm_pop, pm_cat, List.map_cons, List.map_nil, List.sum_cons, List.sum_nil, Value.category, Option.toList, List.cons_append, List.nil_append, ↓reduceIte, reduceCtorEq, Nat.reduceAdd, Nat.reduceLT, Nat.reduceLeDiff, Nat.reduceSub, Nat.reduceEqDiff, Nat.zero_le, Nat.sub_zero, Nat.le_refl, true_and, and_true, not_true_eq_false, not_false_eq_true, true_or, or_true, lc_eq, lc_ne, lc_lt, lc_ge, lc_gt, lc_le, nI_add, lN_add, nI_leI, nI_ltI, nI_eq, nI_clamp, pk_lLT, pk_lLE, pk_lEQ, pk_sub, vp_inT, nz_eq, nz_lt, nz_ge, nz_gt, nz_le, lz_eq, lz_lt, lz_ge, hP1, hP2, hP3, hP4, hP5, hP6, hP7, hP8, hP9, hP10, hP11, hP12, hP13, hP14, hP15, hP16, hP17, hP18, hP19, hP20, hx, t1, t2, t3, c, c3]
      rw [n931f _ hx, retX]
      exact hQ
    · have c4 : nI 300 < v := by
        by_cases z : G.2.2.2.2.1.length ≤ 300
        · rw [Nat.min_eq_left z] at c2; exact absurd c2 c3
        · rw [Nat.min_eq_right (by omega)] at c2; exact c2
      simp (disch := omega) only [u_902_0, B_902_0, u_902_27, B_902_27, u_902_28, B_902_28, nI1T, Nat.left_eq_add, Nat.add_eq_left, Nat.add_eq_zero_iff, and_false, false_and, if_false, if_true, opsN, opsC, pm_1, lg, ls1, ls2, lq, List.length_cons, List.length_nil, cN, cL, callE, retV, retN, pm_pop, pm_cat, List.map_cons, List.map_nil, List.sum_cons, List.sum_nil, Value.category, Option.toList, List.cons_append, List.nil_append, ↓reduceIte, reduceCtorEq, Nat.reduceAdd, Nat.reduceLT, Nat.reduceLeDiff, Nat.reduceSub, Nat.reduceEqDiff, Nat.zero_le, Nat.sub_zero, Nat.le_refl, true_and, and_true, not_true_eq_false, not_false_eq_true, true_or, or_true, lc_eq, lc_ne, lc_lt, lc_ge, lc_gt, lc_le, nI_add, lN_add, nI_leI, nI_ltI, nI_eq, nI_clamp, pk_lLT, pk_lLE, pk_lEQ, pk_sub, vp_inT, nz_eq, nz_lt, nz_ge, nz_gt, nz_le, lz_eq, lz_lt, lz_ge, hP1, hP2, hP3, hP4, hP5, hP6, hP7, hP8, hP9, hP10, hP11, hP12, hP13, hP14, hP15, hP16, hP17, hP18, hP19, hP20, hx, t1, t2, t3, c, c3, c4]
      rw [n931f _ hx, retX]
      exact hQ
theorem c902 (d : Nat) {n : Nat} (hC : CI h x G) (ht : txt G.2.2.2.2.1) (hnn : n ≤ G.2.2.2.2.1.length) (hn3 : n ≤ 300)
    (hQe : ∀ e h', plR G.2.2.2.2.1 n = .inl e → CI h' x (G.1, G.2.1, G.2.2.1, G.2.2.2.1, [], some e.2, G.2.2.2.2.2.2.1, G.2.2.2.2.2.2.2) → frX x (x + 82) h h' → Q (.inl (some (.int (nI e.1 - nI 10)))) h')
    (hQ : ∀ L h', plR G.2.2.2.2.1 n = .inr L → CI h' x (G.1, G.2.1, G.2.2.1, G.2.2.2.1, [], none, L, G.2.2.2.2.2.2.2) → frX x (x + 82) h h' → Q (.inl (some (.int (nI L.2)))) h') :
    pm_M PP (d + 7) 902 [.ref x, .int (nI n)] h Q := by
  obtain ⟨hcc, hcr, hs, hct, ⟨c, s, hcs, r5, r6, hp6, hpS⟩, hch⟩ := hC
  have hx := hs.1
  have t1 := hs.2.1
  have t2 := hs.2.2.2.2.2.2.2.2.2.2.1
  have t3 := hct.1
  have h5 := ht.1
  have k1 : ¬ G.2.2.2.2.1.length < n := by omega
  have k2 : ¬ 300 < n := by omega
  have hss : plS h s := by
    rcases hcs with ⟨_, e⟩ | ⟨_, e⟩ <;> rw [e]
    · exact hs.2.2.2.2.2.2.2.2.2.2.2.2.1
    · exact hs.2.2.2.2.2.2.2.2.2.2.2.1
  have hs0 : ¬ s = 0 := by omega
  have hc0 : ¬ c = 0 := by omega
  have ets := t2.1
  rw [e_902]
  simp (disch := omega) only [u_902_0, B_902_0, u_902_28, B_902_28, nI1T, Nat.left_eq_add, Nat.add_eq_left, Nat.add_eq_zero_iff, and_false, false_and, if_false, if_true, opsN, opsC, pm_1, lg, ls1, ls2, lq, List.length_cons, List.length_nil, cN, cL, callE, retV, retN, pm_pop, pm_cat, List.map_cons, List.map_nil, List.sum_cons, List.sum_nil, Value.category, Option.toList, List.cons_append, List.nil_append, ↓reduceIte, reduceCtorEq, Nat.reduceAdd, Nat.reduceLT, Nat.reduceLeDiff, Nat.reduceSub, Nat.reduceEqDiff, Nat.zero_le, Nat.sub_zero, Nat.le_refl, true_and, and_true, not_true_eq_false, not_false_eq_true, true_or, or_true, lc_eq, lc_ne, lc_lt, lc_ge, lc_gt, lc_le, nI_add, lN_add, nI_leI, nI_ltI, nI_eq, nI_clamp, pk_lLT, pk_lLE, pk_lEQ, pk_sub, vp_inT, nz_eq, nz_lt, nz_ge, nz_gt, nz_le, lz_eq, lz_lt, lz_ge, hP1, hP2, hP3, hP4, hP5, hP6, hP7, hP8, hP9, hP10, hP11, hP12, hP13, hP14, hP15, hP16, hP17, hP18, hP19, hP20, hx, t1, ets, t3, k1, k2]
  rw [n931t]
  simp (disch := omega) only [nI1T, Nat.left_eq_add, Nat.add_eq_left, Nat.add_eq_zero_iff, and_false, false_and, if_false, if_true, opsN, opsC, pm_1, lg, ls1, ls2, lq, List.length_cons, List.length_nil, cN, cL, callE, retV, retN, pm_pop, pm_cat, List.map_cons, List.map_nil, List.sum_cons, List.sum_nil, Value.category, Option.toList, List.cons_append, List.nil_append, ↓reduceIte, reduceCtorEq, Nat.reduceAdd, Nat.reduceLT, Nat.reduceLeDiff, Nat.reduceSub, Nat.reduceEqDiff, Nat.zero_le, Nat.sub_zero, Nat.le_refl, true_and, and_true, not_true_eq_false, not_false_eq_true, true_or, or_true, lc_eq, lc_ne, lc_lt, lc_ge, lc_gt, lc_le, nI_add, lN_add, nI_leI, nI_ltI, nI_eq, nI_clamp, pk_lLT, pk_lLE, pk_lEQ, pk_sub, vp_inT, nz_eq, nz_lt, nz_ge, nz_gt, nz_le, lz_eq, lz_lt, lz_ge, hP1, hP2, hP3, hP4, hP5, hP6, hP7, hP8, hP9, hP10, hP11, hP12, hP13, hP14, hP15, hP16, hP17, hP18, hP19, hP20, hx, t1, ets]
  refine c803 (d + 5) t2 hct hnn ht ?_
  intro h1 l1 f1
  have g1 : hT h1 x = 9 := by rw [f1.1]; exact hx
  have g2 : hR h1 x 2 = x + 32 := by rw [f1.2.2.1]; exact t1
  have g6 : hR h1 x 4 = s := by rw [f1.2.2.1]; exact r6
  have hs1 : plS h1 s := plS_eq f1.1 f1.2.1 (by rw [f1.2.2.1]) hss
  simp (disch := omega) only [nI1T, Nat.left_eq_add, Nat.add_eq_left, Nat.add_eq_zero_iff, and_false, false_and, if_false, if_true, opsN, opsC, pm_1, lg, ls1, ls2, lq, List.length_cons, List.length_nil, cN, cL, callE, retV, retN, pm_pop, pm_cat, List.map_cons, List.map_nil, List.sum_cons, List.sum_nil, Value.category, Option.toList, List.cons_append, List.nil_append, ↓reduceIte, reduceCtorEq, Nat.reduceAdd, Nat.reduceLT, Nat.reduceLeDiff, Nat.reduceSub, Nat.reduceEqDiff, Nat.zero_le, Nat.sub_zero, Nat.le_refl, true_and, and_true, not_true_eq_false, not_false_eq_true, true_or, or_true, lc_eq, lc_ne, lc_lt, lc_ge, lc_gt, lc_le, nI_add, lN_add, nI_leI, nI_ltI, nI_eq, nI_clamp, pk_lLT, pk_lLE, pk_lEQ, pk_sub, vp_inT, nz_eq, nz_lt, nz_ge, nz_gt, nz_le, lz_eq, lz_lt, lz_ge, hP1, hP2, hP3, hP4, hP5, hP6, hP7, hP8, hP9, hP10, hP11, hP12, hP13, hP14, hP15, hP16, hP17, hP18, hP19, hP20, g1, g2, g6, hs0, hs1.1]
  refine c401 d (by omega) l1 hs1 ?_
  intro h2 a2 n1 n2 n3 f2
  have g1 : hT h2 x = 9 := by rw [f2.1]; exact g1
  have g2 : hR h2 x 2 = x + 32 := by rw [f2.2.2.1]; exact g2
  simp (disch := omega) only [nI1T, Nat.left_eq_add, Nat.add_eq_left, Nat.add_eq_zero_iff, and_false, false_and, if_false, if_true, opsN, opsC, pm_1, lg, ls1, ls2, lq, List.length_cons, List.length_nil, cN, cL, callE, retV, retN, pm_pop, pm_cat, List.map_cons, List.map_nil, List.sum_cons, List.sum_nil, Value.category, Option.toList, List.cons_append, List.nil_append, ↓reduceIte, reduceCtorEq, Nat.reduceAdd, Nat.reduceLT, Nat.reduceLeDiff, Nat.reduceSub, Nat.reduceEqDiff, Nat.zero_le, Nat.sub_zero, Nat.le_refl, true_and, and_true, not_true_eq_false, not_false_eq_true, true_or, or_true, lc_eq, lc_ne, lc_lt, lc_ge, lc_gt, lc_le, nI_add, lN_add, nI_leI, nI_ltI, nI_eq, nI_clamp, pk_lLT, pk_lLE, pk_lEQ, pk_sub, vp_inT, nz_eq, nz_lt, nz_ge, nz_gt, nz_le, lz_eq, lz_lt, lz_ge, hP1, hP2, hP3, hP4, hP5, hP6, hP7, hP8, hP9, hP10, hP11, hP12, hP13, hP14, hP15, hP16, hP17, hP18, hP19, hP20, g1, g2, n1.1.1]
  refine c804 (d + 5) n1.1.1 ?_
  have g4 : hI h2 (x + 32) 4 = flC (resF (CL (G.2.2.2.2.1.take n) 300 0 [] [] 0)) := n1.2.2.2.1
  have g5 : hI h2 (x + 32) 5 = flP (resF (CL (G.2.2.2.2.1.take n) 300 0 [] [] 0)) := n1.2.2.2.2.1
  have fT : hT h2 = hT h := f2.1.trans f1.1
  have fN : hN h2 = hN h := f2.2.1.trans f1.2.1
  have fR : hR h2 = hR h := f2.2.2.1.trans f1.2.2.1
  have fn : hn h2 = hn h := f2.2.2.2.1.trans f1.2.2.2.1
  have fL : hL h2 = hL h := f2.2.2.2.2.1.trans f1.2.2.2.2.1
  have fI : ∀ k, k ≠ x + 32 → (k < s ∨ s + 6 ≤ k) → k ≠ x + 33 → hI h2 k = hI h k := fun k q1 q2 q3 => (f2.2.2.2.2.2.1 k q1 q2).trans (f1.2.2.2.2.2.1 k q1 q3)
  have hce : plR G.2.2.2.2.1 n = CL (G.2.2.2.2.1.take n) 300 0 [] [] 0 := rfl
  cases er : CL (G.2.2.2.2.1.take n) 300 0 [] [] 0 with
  | inl e =>
    have hok := n1.2.2.2.2.2.2.2.1 e (by rw [er]; rfl)
    rw [er] at g4 g5
    have g4 : hI h2 (x + 32) 4 = nI e.1 := g4
    have e0 : ¬ e.1 = 0 := by omega
    simp (disch := omega) only [nI1T, Nat.left_eq_add, Nat.add_eq_left, Nat.add_eq_zero_iff, and_false, false_and, if_false, if_true, opsN, opsC, pm_1, lg, ls1, ls2, lq, List.length_cons, List.length_nil, cN, cL, callE, retV, retN, pm_pop, pm_cat, List.map_cons, List.map_nil, List.sum_cons, List.sum_nil, Value.category, Option.toList, List.cons_append, List.nil_append, ↓reduceIte, reduceCtorEq, Nat.reduceAdd, Nat.reduceLT, Nat.reduceLeDiff, Nat.reduceSub, Nat.reduceEqDiff, Nat.zero_le, Nat.sub_zero, Nat.le_refl, true_and, and_true, not_true_eq_false, not_false_eq_true, true_or, or_true, lc_eq, lc_ne, lc_lt, lc_ge, lc_gt, lc_le, nI_add, lN_add, nI_leI, nI_ltI, nI_eq, nI_clamp, pk_lLT, pk_lLE, pk_lEQ, pk_sub, vp_inT, nz_eq, nz_lt, nz_ge, nz_gt, nz_le, lz_eq, lz_lt, lz_ge, hP1, hP2, hP3, hP4, hP5, hP6, hP7, hP8, hP9, hP10, hP11, hP12, hP13, hP14, hP15, hP16, hP17, hP18, hP19, hP20, g1, g2, n1.1.1, g4, va_upE, e0]
    have eI : ∀ k, k ≠ x + 32 → hI (sI h2 (x + 32) (va_up (hI h2 (x + 32)) 1 (nI 0))) k = hI h2 k := fun k q => by rw [hP1, va_up_ne _ _ q]
    refine hQe e _ (by rw [hce, er]) ⟨isC_w fT fN (by rw [hP3, fR]) (by rw [hP3, fR]) (fun k _ _ => by rw [hP3, fR]) (fun k q1 q2 => ⟨by rw [eI k (by omega), fI k (by omega) (by omega) (by omega)], by rw [hP2, fL]⟩) hcc, fun r hr => ?_, xS_eq fT fN (fun j _ => by rw [hP3, fR]) (fun k _ _ => by rw [hP3, fR]) hs, ⟨?_, ?_, fun i hi => absurd hi (Nat.not_lt_zero _)⟩, ⟨c, s, hcs, by rw [hP3, fR]; exact r5, by rw [hP3, fR]; exact r6, by rw [eI c (by omega), fI c (by omega) (by omega) (by omega)]; exact hp6, isS_eq (fun k q1 q2 => by rw [eI k (by omega), fI k (by omega) (by omega) (by omega)]) hpS⟩, cCh_eq (by rw [hP3, fR]) (by rw [hP3, fR]) (fun k q1 q2 => by rw [eI k (by omega), fI k (by omega) (by omega) (by omega)]) hch⟩ ⟨fT, fN, fn, fun k q => ⟨by rw [eI k (by omega), fI k (by omega) (by omega) (by omega)], by rw [hP2, fL], by rw [hP3, fR]⟩⟩
    · rw [eI x (by omega), fI x (by omega) (by omega) (by omega)]; exact hcr r hr
    · rw [hI_at, va_up_self]; rfl
    · rw [hI_at, va_up_ne _ _ (by decide), g5]; rfl
  | inr L =>
    rw [er] at g4 g5
    have g4 : hI h2 (x + 32) 4 = nI 0 := g4
    obtain ⟨m1, m2⟩ := n3 L er
    have q5 : hR h2 x 3 = c := by rw [fR]; exact r5
    have q6 : hR h2 x 4 = s := by rw [fR]; exact r6
    have s0 := n2.1
    have es : (s = x + 32) = False := eq_false (by omega)
    simp (disch := omega) only [u_902_78, B_902_78, nI1T, Nat.left_eq_add, Nat.add_eq_left, Nat.add_eq_zero_iff, and_false, false_and, if_false, if_true, opsN, opsC, pm_1, lg, ls1, ls2, lq, List.length_cons, List.length_nil, cN, cL, callE, retV, retN, pm_pop, pm_cat, List.map_cons, List.map_nil, List.sum_cons, List.sum_nil, Value.category, Option.toList, List.cons_append, List.nil_append, ↓reduceIte, reduceCtorEq, Nat.reduceAdd, Nat.reduceLT, Nat.reduceLeDiff, Nat.reduceSub, Nat.reduceEqDiff, Nat.zero_le, Nat.sub_zero, Nat.le_refl, true_and, and_true, not_true_eq_false, not_false_eq_true, true_or, or_true, lc_eq, lc_ne, lc_lt, lc_ge, lc_gt, lc_le, nI_add, lN_add, nI_leI, nI_ltI, nI_eq, nI_clamp, pk_lLT, pk_lLE, pk_lEQ, pk_sub, vp_inT, nz_eq, nz_lt, nz_ge, nz_gt, nz_le, lz_eq, lz_lt, lz_ge, hP1, hP2, hP3, hP4, hP5, hP6, hP7, hP8, hP9, hP10, hP11, hP12, hP13, hP14, hP15, hP16, hP17, hP18, hP19, hP20, g1, g2, n1.1.1, g4, q5, q6, hs0, hc0, va_upE, s0, es, m2]
    have eI : ∀ k, k ≠ x + 32 → hI (sI h2 (x + 32) (va_up (hI h2 (x + 32)) 1 (nI 0))) k = hI h2 k := fun k q => by rw [hP1, va_up_ne _ _ q]
    refine hQ L _ (by rw [hce, er]) ⟨isC_w fT fN ?_ ?_ (fun k q1 q2 => ?_) (fun k q1 q2 => ⟨?_, ?_⟩) hcc, fun r hr => ?_, xS_eq fT fN (fun j q => ?_) (fun k q1 q2 => ?_) hs, ⟨?_, ?_, fun i hi => absurd hi (Nat.not_lt_zero _)⟩, ⟨s, c, by omega, ?_, ?_, ?_, ?_⟩, cCh_eq ?_ ?_ (fun k q1 q2 => ?_) hch⟩ ⟨fT, fN, fn, fun k q => ⟨?_, ?_, ?_⟩⟩
    · rw [hP18, va_up_self, va_up_ne _ _ (by decide), va_up_ne _ _ (by decide)]; rw [fR]
    · rw [hP18, va_up_self, va_up_ne _ _ (by decide), va_up_ne _ _ (by decide)]; rw [fR]
    · rw [hP18, va_up_ne _ _ (by omega), hP18, va_up_ne _ _ (by omega), hP3, fR]
    · exact (eI k (by omega)).trans (fI k (by omega) (by omega) (by omega))
    · show hL h2 k = _; rw [fL]
    · exact ((congrFun (eI x (by omega)) _).trans (congrFun (fI x (by omega) (by omega) (by omega)) _)).trans (hcr r hr)
    · rw [hP18, va_up_self, va_up_ne _ _ (by omega), va_up_ne _ _ (by omega)]; rw [fR]
    · rw [hP18, va_up_ne _ _ (by omega), hP18, va_up_ne _ _ (by omega), hP3, fR]
    · show hI (sI h2 (x + 32) _) (x + 32) 1 = _; rw [hI_at, va_up_self]; rfl
    · show hI (sI h2 (x + 32) _) (x + 32) 5 = _; rw [hI_at, va_up_ne _ _ (by decide), g5]; rfl
    · rw [hP18, va_up_self, va_up_ne _ _ (by decide), va_up_self]
    · rw [hP18, va_up_self, va_up_self]
    · exact (congrFun (eI s (by omega)) _).trans m2
    · exact isS_eq (h := h2) (fun k q1 q2 => eI k (by omega)) m1
    · rw [hP18, va_up_self, va_up_ne _ _ (by decide), va_up_ne _ _ (by decide)]; rw [fR]
    · rw [hP18, va_up_self, va_up_ne _ _ (by decide), va_up_ne _ _ (by decide)]; rw [fR]
    · exact (eI k (by omega)).trans (fI k (by omega) (by omega) (by omega))
    · exact (eI k (by omega)).trans (fI k (by omega) (by omega) (by omega))
    · show hL h2 k = _; rw [fL]
    · rw [hP18, va_up_ne _ _ (by omega), hP18, va_up_ne _ _ (by omega), hP3, fR]
theorem SG_stB {R : Nat → Pw} {i t : Nat} {U : List St} (h : SG R i t U) : ∀ s, s ∈ U → stB s := by
  refine h (fun _ _ U => ∀ s, s ∈ U → stB s) (fun i s hs => absurd hs List.not_mem_nil) (fun i t U q1 q2 q3 s hs => ?_) (fun i e t U V q1 q2 q3 q4 q5 s hs => ?_)
  · rcases List.mem_cons.mp hs with z | z
    · rw [z]; exact q2
    · exact q3 s z
  · rcases List.mem_append.mp hs with z | z
    · obtain ⟨l, hl, hs'⟩ := List.mem_flatten.mp z
      rw [List.eq_of_mem_replicate hl] at hs'
      exact q4 s hs'
    · exact q5 s z
theorem r1056a (d : Nat) {v : Int32} (hM : MI h m G) (hv : v < 0 ∨ nI (min G.2.2.2.2.1.length 300) < v) (hQ : Q (.inl (some (.int (nI 0)))) (rfM (thr h m) m 1 1)) : pm_M PP (d + 4) 1056 [.ref m, .int v] h Q := by
  have hM9 := (MI_thr hM).1
  obtain ⟨h9, e0, et, hs9, hz⟩ := thr_ex hM.1.1
  rw [et] at hQ hM9
  have hs := hM.1.1
  have t3 := hM9.2.2.1.1.1
  have hl5 := hM.2.2.2.1
  have el : (nI G.2.2.2.2.1.length).toInt64 = lN G.2.2.2.2.1.length := nI_l (by omega)
  have fin : pm_W PP (d + 3) 1056 Q 0 0 27 [some (.ref m), some (.int v), none] [.ref m] h9 := by
    simp (disch := omega) only [u_1056_27, B_1056_27, u_1056_32, B_1056_32, nI1T, Nat.left_eq_add, Nat.add_eq_left, Nat.add_eq_zero_iff, and_false, false_and, if_false, if_true, opsN, opsC, pm_1, lg, ls1, ls2, lq, List.length_cons, List.length_nil, cN, cL, callE, retV, retN, pm_pop, pm_cat, List.map_cons, List.map_nil, List.sum_cons, List.sum_nil, Value.category, Option.toList, List.cons_append, List.nil_append, ↓reduceIte, reduceCtorEq, Nat.reduceAdd, Nat.reduceLT, Nat.reduceLeDiff, Nat.reduceSub, Nat.reduceEqDiff, Nat.zero_le, Nat.sub_zero, Nat.le_refl, true_and, and_true, not_true_eq_false, not_false_eq_true, true_or, or_true, lc_eq, lc_ne, lc_lt, lc_ge, lc_gt, lc_le, nI_add, lN_add, nI_leI, nI_ltI, nI_eq, nI_clamp, pk_lLT, pk_lLE, pk_lEQ, pk_sub, vp_inT, nz_eq, nz_lt, nz_ge, nz_gt, nz_le, lz_eq, lz_lt, lz_ge, hP1, hP2, hP3, hP4, hP5, hP6, hP7, hP8, hP9, hP10, hP11, hP12, hP13, hP14, hP15, hP16, hP17, hP18, hP19, hP20, hs9.1]
    rw [bad1 _ hs9 hz (by decide) (by decide) (by decide)]
    simp (disch := omega) only [nI1T, Nat.left_eq_add, Nat.add_eq_left, Nat.add_eq_zero_iff, and_false, false_and, if_false, if_true, opsN, opsC, pm_1, lg, ls1, ls2, lq, List.length_cons, List.length_nil, cN, cL, callE, retV, retN, pm_pop, pm_cat, List.map_cons, List.map_nil, List.sum_cons, List.sum_nil, Value.category, Option.toList, List.cons_append, List.nil_append, ↓reduceIte, reduceCtorEq, Nat.reduceAdd, Nat.reduceLT, Nat.reduceLeDiff, Nat.reduceSub, Nat.reduceEqDiff, Nat.zero_le, Nat.sub_zero, Nat.le_refl, true_and, and_true, not_true_eq_false, not_false_eq_true, true_or, or_true, lc_eq, lc_ne, lc_lt, lc_ge, lc_gt, lc_le, nI_add, lN_add, nI_leI, nI_ltI, nI_eq, nI_clamp, pk_lLT, pk_lLE, pk_lEQ, pk_sub, vp_inT, nz_eq, nz_lt, nz_ge, nz_gt, nz_le, lz_eq, lz_lt, lz_ge, hP1, hP2, hP3, hP4, hP5, hP6, hP7, hP8, hP9, hP10, hP11, hP12, hP13, hP14, hP15, hP16, hP17, hP18, hP19, hP20]
    exact hQ
  rw [e_1056]
  simp (disch := omega) only [u_1056_0, B_1056_0, nI1T, Nat.left_eq_add, Nat.add_eq_left, Nat.add_eq_zero_iff, and_false, false_and, if_false, if_true, opsN, opsC, pm_1, lg, ls1, ls2, lq, List.length_cons, List.length_nil, cN, cL, callE, retV, retN, pm_pop, pm_cat, List.map_cons, List.map_nil, List.sum_cons, List.sum_nil, Value.category, Option.toList, List.cons_append, List.nil_append, ↓reduceIte, reduceCtorEq, Nat.reduceAdd, Nat.reduceLT, Nat.reduceLeDiff, Nat.reduceSub, Nat.reduceEqDiff, Nat.zero_le, Nat.sub_zero, Nat.le_refl, true_and, and_true, not_true_eq_false, not_false_eq_true, true_or, or_true, lc_eq, lc_ne, lc_lt, lc_ge, lc_gt, lc_le, nI_add, lN_add, nI_leI, nI_ltI, nI_eq, nI_clamp, pk_lLT, pk_lLE, pk_lEQ, pk_sub, vp_inT, nz_eq, nz_lt, nz_ge, nz_gt, nz_le, lz_eq, lz_lt, lz_ge, hP1, hP2, hP3, hP4, hP5, hP6, hP7, hP8, hP9, hP10, hP11, hP12, hP13, hP14, hP15, hP16, hP17, hP18, hP19, hP20, hs.1, e0, hs9.1, t3, el]
  by_cases c : v < 0 ∨ nI G.2.2.2.2.1.length < v
  · rw [m1003f _ (v_out (by omega) c)]
    simp (disch := omega) only [nI1T, Nat.left_eq_add, Nat.add_eq_left, Nat.add_eq_zero_iff, and_false, false_and, if_false, if_true, opsN, opsC, pm_1, lg, ls1, ls2, lq, List.length_cons, List.length_nil, cN, cL, callE, retV, retN, pm_pop, pm_cat, List.map_cons, List.map_nil, List.sum_cons, List.sum_nil, Value.category, Option.toList, List.cons_append, List.nil_append, ↓reduceIte, reduceCtorEq, Nat.reduceAdd, Nat.reduceLT, Nat.reduceLeDiff, Nat.reduceSub, Nat.reduceEqDiff, Nat.zero_le, Nat.sub_zero, Nat.le_refl, true_and, and_true, not_true_eq_false, not_false_eq_true, true_or, or_true, lc_eq, lc_ne, lc_lt, lc_ge, lc_gt, lc_le, nI_add, lN_add, nI_leI, nI_ltI, nI_eq, nI_clamp, pk_lLT, pk_lLE, pk_lEQ, pk_sub, vp_inT, nz_eq, nz_lt, nz_ge, nz_gt, nz_le, lz_eq, lz_lt, lz_ge, hP1, hP2, hP3, hP4, hP5, hP6, hP7, hP8, hP9, hP10, hP11, hP12, hP13, hP14, hP15, hP16, hP17, hP18, hP19, hP20]
    exact fin
  · have c1 : ¬ v < 0 := fun q => c (.inl q)
    have c2 : ¬ nI G.2.2.2.2.1.length < v := fun q => c (.inr q)
    have c3 : nI 300 < v := by
      have h3 := hv.resolve_left c1
      by_cases z : G.2.2.2.2.1.length ≤ 300
      · rw [Nat.min_eq_left z] at h3; exact absurd h3 c2
      · rw [Nat.min_eq_right (by omega)] at h3; exact h3
    obtain ⟨n, hn', e⟩ := i32_nn c1
    subst e
    have hn2 : 300 < n := (nI_ltI (by decide) hn').mp c3
    have hn3 : ¬ n ≤ 300 := by omega
    have c4 : ¬ G.2.2.2.2.1.length < n := fun q => c2 ((nI_ltI (by omega) hn').mpr q)
    have en : (nI n).toInt64 = lN n := nI_l hn'
    rw [en, m1003t _ (v_in (i := n) (c := G.2.2.2.2.1.length) (by omega) (by omega)).1 (v_in (i := n) (c := G.2.2.2.2.1.length) (by omega) (by omega)).2]
    simp (disch := omega) only [nI1T, Nat.left_eq_add, Nat.add_eq_left, Nat.add_eq_zero_iff, and_false, false_and, if_false, if_true, opsN, opsC, pm_1, lg, ls1, ls2, lq, List.length_cons, List.length_nil, cN, cL, callE, retV, retN, pm_pop, pm_cat, List.map_cons, List.map_nil, List.sum_cons, List.sum_nil, Value.category, Option.toList, List.cons_append, List.nil_append, ↓reduceIte, reduceCtorEq, Nat.reduceAdd, Nat.reduceLT, Nat.reduceLeDiff, Nat.reduceSub, Nat.reduceEqDiff, Nat.zero_le, Nat.sub_zero, Nat.le_refl, true_and, and_true, not_true_eq_false, not_false_eq_true, true_or, or_true, lc_eq, lc_ne, lc_lt, lc_ge, lc_gt, lc_le, nI_add, lN_add, nI_leI, nI_ltI, nI_eq, nI_clamp, pk_lLT, pk_lLE, pk_lEQ, pk_sub, vp_inT, nz_eq, nz_lt, nz_ge, nz_gt, nz_le, lz_eq, lz_lt, lz_ge, hP1, hP2, hP3, hP4, hP5, hP6, hP7, hP8, hP9, hP10, hP11, hP12, hP13, hP14, hP15, hP16, hP17, hP18, hP19, hP20, hn3]
    exact fin
/-- the rows copied -/
theorem l1056 (d : Nat) {w : Nat} {R : Nat → Pw} {v1 : Int32} (hw : w ≤ 300) : ∀ (n k : Nat) (h : pm_H), n + k = w → mS h m → hI h m 25 = nI w → (∀ i, i < w → rwIs h (m + 329 + i) (R i)) → (∀ i, i < k → rwIs h (m + 28 + i) (R i)) →
      (∀ h', (∀ i, i < w → rwIs h' (m + 28 + i) (R i)) → fr (m + 28) (m + 328) h h' → hL h' = hL h → Q (.inl (some (.int (nI w)))) h') →
      pm_W PP (d + 1) 1056 Q 0 0 108 [some (.ref m), some (.int v1), some (.int (nI k))] [] h := by
  intro n
  induction n with
  | zero =>
    intro k h hk hs f0 hS hD hQ
    have e : k = w := by omega
    subst e
    have c1 : k ≤ k := Nat.le_refl _
    rw [u_1056_108]
    simp (disch := omega) only [B_1056_108, u_1056_163, B_1056_163, nI1T, Nat.left_eq_add, Nat.add_eq_left, Nat.add_eq_zero_iff, and_false, false_and, if_false, if_true, opsN, opsC, pm_1, lg, ls1, ls2, lq, List.length_cons, List.length_nil, cN, cL, callE, retV, retN, pm_pop, pm_cat, List.map_cons, List.map_nil, List.sum_cons, List.sum_nil, Value.category, Option.toList, List.cons_append, List.nil_append, ↓reduceIte, reduceCtorEq, Nat.reduceAdd, Nat.reduceLT, Nat.reduceLeDiff, Nat.reduceSub, Nat.reduceEqDiff, Nat.zero_le, Nat.sub_zero, Nat.le_refl, true_and, and_true, not_true_eq_false, not_false_eq_true, true_or, or_true, lc_eq, lc_ne, lc_lt, lc_ge, lc_gt, lc_le, nI_add, lN_add, nI_leI, nI_ltI, nI_eq, nI_clamp, pk_lLT, pk_lLE, pk_lEQ, pk_sub, vp_inT, nz_eq, nz_lt, nz_ge, nz_gt, nz_le, lz_eq, lz_lt, lz_ge, hP1, hP2, hP3, hP4, hP5, hP6, hP7, hP8, hP9, hP10, hP11, hP12, hP13, hP14, hP15, hP16, hP17, hP18, hP19, hP20, hs.1, f0, c1]
    exact hQ h hD (fr_refl _ _ _) rfl
  | succ n ih =>
    intro k h hk hs f0 hS hD hQ
    have c1 : ¬ w ≤ k := by omega
    obtain ⟨a0, a1, a2, a3⟩ := hS k (by omega)
    rw [u_1056_108]
    simp (disch := omega) only [B_1056_108, nI1T, Nat.left_eq_add, Nat.add_eq_left, Nat.add_eq_zero_iff, and_false, false_and, if_false, if_true, opsN, opsC, pm_1, lg, ls1, ls2, lq, List.length_cons, List.length_nil, cN, cL, callE, retV, retN, pm_pop, pm_cat, List.map_cons, List.map_nil, List.sum_cons, List.sum_nil, Value.category, Option.toList, List.cons_append, List.nil_append, ↓reduceIte, reduceCtorEq, Nat.reduceAdd, Nat.reduceLT, Nat.reduceLeDiff, Nat.reduceSub, Nat.reduceEqDiff, Nat.zero_le, Nat.sub_zero, Nat.le_refl, true_and, and_true, not_true_eq_false, not_false_eq_true, true_or, or_true, lc_eq, lc_ne, lc_lt, lc_ge, lc_gt, lc_le, nI_add, lN_add, nI_leI, nI_ltI, nI_eq, nI_clamp, pk_lLT, pk_lLE, pk_lEQ, pk_sub, vp_inT, nz_eq, nz_lt, nz_ge, nz_gt, nz_le, lz_eq, lz_lt, lz_ge, hP1, hP2, hP3, hP4, hP5, hP6, hP7, hP8, hP9, hP10, hP11, hP12, hP13, hP14, hP15, hP16, hP17, hP18, hP19, hP20, f0, c1, hs.1, m_g17 hs, m_t27 hs, m_n27 hs, m_r27 hs, m_rt27 hs, m_rn27 hs, m_g18 hs, m_t328 hs, m_n328 hs, m_r328 hs, m_rt328 hs, m_rn328 hs, a0, a1, a2, a3]
    rw [q1052 _ (m_rt27 hs k (by omega)) (m_rn27 hs k (by omega))]
    simp (disch := omega) only [nI1T, Nat.left_eq_add, Nat.add_eq_left, Nat.add_eq_zero_iff, and_false, false_and, if_false, if_true, opsN, opsC, pm_1, lg, ls1, ls2, lq, List.length_cons, List.length_nil, cN, cL, callE, retV, retN, pm_pop, pm_cat, List.map_cons, List.map_nil, List.sum_cons, List.sum_nil, Value.category, Option.toList, List.cons_append, List.nil_append, ↓reduceIte, reduceCtorEq, Nat.reduceAdd, Nat.reduceLT, Nat.reduceLeDiff, Nat.reduceSub, Nat.reduceEqDiff, Nat.zero_le, Nat.sub_zero, Nat.le_refl, true_and, and_true, not_true_eq_false, not_false_eq_true, true_or, or_true, lc_eq, lc_ne, lc_lt, lc_ge, lc_gt, lc_le, nI_add, lN_add, nI_leI, nI_ltI, nI_eq, nI_clamp, pk_lLT, pk_lLE, pk_lEQ, pk_sub, vp_inT, nz_eq, nz_lt, nz_ge, nz_gt, nz_le, lz_eq, lz_lt, lz_ge, hP1, hP2, hP3, hP4, hP5, hP6, hP7, hP8, hP9, hP10, hP11, hP12, hP13, hP14, hP15, hP16, hP17, hP18, hP19, hP20]
    refine ih (k + 1) _ (by omega) (mS_sI hs) ?_ (fun i hi => ?_) (fun i hi => ?_) (fun h' q1 q2 q3 => hQ h' q1 (fr_trans (fr_sI (fr_refl _ _ _) (by omega) (by omega)) q2) q3)
    · show hI (sI h _ _) m 25 = _; rw [hP1, va_up_ne _ _ (by omega)]; exact f0
    · have := hS i hi
      unfold rwIs at *
      show hI (sI h _ _) (m + 329 + i) 0 = _ ∧ hI (sI h _ _) (m + 329 + i) 1 = _ ∧ hI (sI h _ _) (m + 329 + i) 2 = _ ∧ hI (sI h _ _) (m + 329 + i) 3 = _
      rw [hP1, va_up_ne _ _ (by omega)]; exact this
    · by_cases z : i = k
      · subst z; exact wrR_is
      · have := hD i (by omega)
        unfold rwIs at *
        show hI (sI h _ _) (m + 28 + i) 0 = _ ∧ hI (sI h _ _) (m + 28 + i) 1 = _ ∧ hI (sI h _ _) (m + 28 + i) 2 = _ ∧ hI (sI h _ _) (m + 28 + i) 3 = _
        rw [hP1, va_up_ne _ _ (by omega)]; exact this
theorem c1056 (d : Nat) {n : Nat} (hM : MI h m G) (hnn : n ≤ G.2.2.2.2.1.length) (hn3 : n ≤ 300)
    (hQe : ∀ e h', plR G.2.2.2.2.1 n = .inl e → MI h' m (G.1, G.2.1, G.2.2.1, G.2.2.2.1, [], some e.2, G.2.2.2.2.2.2.1, G.2.2.2.2.2.2.2) → frX m (m + 823) h h' → hI h' m 0 = nI 0 → Q (.inl (some (.int (nI e.1 - nI 10)))) h')
    (hQ : ∀ L h', plR G.2.2.2.2.1 n = .inr L → MI h' m (G.1, G.2.1, G.2.2.1, G.2.2.2.1, [], none, L, G.2.2.2.2.2.2.2) → frX m (m + 823) h h' → hI h' m 0 = nI 0 → Q (.inl (some (.int (nI L.2)))) h') :
    pm_M PP (d + 13) 1056 [.ref m, .int (nI n)] h Q := by
  have h3 := MI_thr hM
  obtain ⟨h9, e0, et, hs9, hz⟩ := thr_ex hM.1.1
  rw [et] at h3
  obtain ⟨hM9, _, hX9⟩ := h3
  have hs := hM.1.1
  have ok := hM.2.2.2
  have hl5 := ok.1
  have htx : txt G.2.2.2.2.1 := ⟨ok.1, ok.2.1⟩
  have t3 := hM9.2.2.1.1.1
  have el : (nI G.2.2.2.2.1.length).toInt64 = lN G.2.2.2.2.1.length := nI_l (by omega)
  have en : (nI n).toInt64 = lN n := nI_l (by omega)
  have hin := v_in (i := n) (c := G.2.2.2.2.1.length) (by omega) hnn
  have hXl : (G.2.2.2.2.1.take n).length = n := take_len hnn
  have htX : txt (G.2.2.2.2.1.take n) := txt_take htx
  rw [e_1056]
  simp (disch := omega) only [u_1056_0, B_1056_0, nI1T, Nat.left_eq_add, Nat.add_eq_left, Nat.add_eq_zero_iff, and_false, false_and, if_false, if_true, opsN, opsC, pm_1, lg, ls1, ls2, lq, List.length_cons, List.length_nil, cN, cL, callE, retV, retN, pm_pop, pm_cat, List.map_cons, List.map_nil, List.sum_cons, List.sum_nil, Value.category, Option.toList, List.cons_append, List.nil_append, ↓reduceIte, reduceCtorEq, Nat.reduceAdd, Nat.reduceLT, Nat.reduceLeDiff, Nat.reduceSub, Nat.reduceEqDiff, Nat.zero_le, Nat.sub_zero, Nat.le_refl, true_and, and_true, not_true_eq_false, not_false_eq_true, true_or, or_true, lc_eq, lc_ne, lc_lt, lc_ge, lc_gt, lc_le, nI_add, lN_add, nI_leI, nI_ltI, nI_eq, nI_clamp, pk_lLT, pk_lLE, pk_lEQ, pk_sub, vp_inT, nz_eq, nz_lt, nz_ge, nz_gt, nz_le, lz_eq, lz_lt, lz_ge, hP1, hP2, hP3, hP4, hP5, hP6, hP7, hP8, hP9, hP10, hP11, hP12, hP13, hP14, hP15, hP16, hP17, hP18, hP19, hP20, hs.1, e0, hs9.1, t3, el, en]
  rw [m1003t _ hin.1 hin.2]
  simp (disch := omega) only [u_1056_31, B_1056_31, u_1056_32, B_1056_32, nI1T, Nat.left_eq_add, Nat.add_eq_left, Nat.add_eq_zero_iff, and_false, false_and, if_false, if_true, opsN, opsC, pm_1, lg, ls1, ls2, lq, List.length_cons, List.length_nil, cN, cL, callE, retV, retN, pm_pop, pm_cat, List.map_cons, List.map_nil, List.sum_cons, List.sum_nil, Value.category, Option.toList, List.cons_append, List.nil_append, ↓reduceIte, reduceCtorEq, Nat.reduceAdd, Nat.reduceLT, Nat.reduceLeDiff, Nat.reduceSub, Nat.reduceEqDiff, Nat.zero_le, Nat.sub_zero, Nat.le_refl, true_and, and_true, not_true_eq_false, not_false_eq_true, true_or, or_true, lc_eq, lc_ne, lc_lt, lc_ge, lc_gt, lc_le, nI_add, lN_add, nI_leI, nI_ltI, nI_eq, nI_clamp, pk_lLT, pk_lLE, pk_lEQ, pk_sub, vp_inT, nz_eq, nz_lt, nz_ge, nz_gt, nz_le, lz_eq, lz_lt, lz_ge, hP1, hP2, hP3, hP4, hP5, hP6, hP7, hP8, hP9, hP10, hP11, hP12, hP13, hP14, hP15, hP16, hP17, hP18, hP19, hP20, hs9.1, hn3]
  rw [bad0 _ hs9 hz]
  simp (disch := omega) only [u_1056_42, B_1056_42, nI1T, Nat.left_eq_add, Nat.add_eq_left, Nat.add_eq_zero_iff, and_false, false_and, if_false, if_true, opsN, opsC, pm_1, lg, ls1, ls2, lq, List.length_cons, List.length_nil, cN, cL, callE, retV, retN, pm_pop, pm_cat, List.map_cons, List.map_nil, List.sum_cons, List.sum_nil, Value.category, Option.toList, List.cons_append, List.nil_append, ↓reduceIte, reduceCtorEq, Nat.reduceAdd, Nat.reduceLT, Nat.reduceLeDiff, Nat.reduceSub, Nat.reduceEqDiff, Nat.zero_le, Nat.sub_zero, Nat.le_refl, true_and, and_true, not_true_eq_false, not_false_eq_true, true_or, or_true, lc_eq, lc_ne, lc_lt, lc_ge, lc_gt, lc_le, nI_add, lN_add, nI_leI, nI_ltI, nI_eq, nI_clamp, pk_lLT, pk_lLE, pk_lEQ, pk_sub, vp_inT, nz_eq, nz_lt, nz_ge, nz_gt, nz_le, lz_eq, lz_lt, lz_ge, hP1, hP2, hP3, hP4, hP5, hP6, hP7, hP8, hP9, hP10, hP11, hP12, hP13, hP14, hP15, hP16, hP17, hP18, hP19, hP20, hs9.1]
  refine c1055 (d + 11) hs9 hM9.2.2.1.1 hnn htx ?_
  intro h1 k1 k2 k3 k4 k5 f1
  simp (disch := omega) only [nI1T, Nat.left_eq_add, Nat.add_eq_left, Nat.add_eq_zero_iff, and_false, false_and, if_false, if_true, opsN, opsC, pm_1, lg, ls1, ls2, lq, List.length_cons, List.length_nil, cN, cL, callE, retV, retN, pm_pop, pm_cat, List.map_cons, List.map_nil, List.sum_cons, List.sum_nil, Value.category, Option.toList, List.cons_append, List.nil_append, ↓reduceIte, reduceCtorEq, Nat.reduceAdd, Nat.reduceLT, Nat.reduceLeDiff, Nat.reduceSub, Nat.reduceEqDiff, Nat.zero_le, Nat.sub_zero, Nat.le_refl, true_and, and_true, not_true_eq_false, not_false_eq_true, true_or, or_true, lc_eq, lc_ne, lc_lt, lc_ge, lc_gt, lc_le, nI_add, lN_add, nI_leI, nI_ltI, nI_eq, nI_clamp, pk_lLT, pk_lLE, pk_lEQ, pk_sub, vp_inT, nz_eq, nz_lt, nz_ge, nz_gt, nz_le, lz_eq, lz_lt, lz_ge, hP1, hP2, hP3, hP4, hP5, hP6, hP7, hP8, hP9, hP10, hP11, hP12, hP13, hP14, hP15, hP16, hP17, hP18, hP19, hP20, k1.1.1]
  have hce : plR G.2.2.2.2.1 n = CO (G.2.2.2.2.1.take n) 0 [] [] 0 := by
    unfold plR CO
    exact CL_f htX _ _ _ _ _ _ (Nat.zero_le _) (by rw [hXl]; omega) (Nat.le_refl _)
  generalize G.2.2.2.2.1.take n = X at k1 hXl htX hce
  refine a53_0 d (by omega) h1 _ 0 0 k1 k4 k5 (Nat.le_refl _) ?_
  intro h2 hO
  obtain ⟨f2, hO⟩ := hO
  obtain ⟨o1, o2, o3, o4, o5, o6, o7⟩ := f1
  obtain ⟨y1, y2, y3, y4, y5, y6, y7⟩ := f2
  -- what holds of a heap behind the reading
  have lastE : ∀ (h4 : pm_H) (a : Nat) (e : Nat × Nat), plR G.2.2.2.2.1 n = .inl e → mrd h4 m X (a, some e) → hT h4 = hT h9 → hN h4 = hN h9 → hR h4 = hR h9 → hn h4 = hn h9 → hL h4 = hL h9 → (∀ k, k ≠ m → (k < m + 329 ∨ m + 629 ≤ k) → hI h4 k = hI h9 k) → (∀ j, (j < 2 ∨ j = 5 ∨ (8 ≤ j ∧ j < 29)) → hI h4 m j = hI h9 m j) → hI h4 m 2 = nI 0 → pm_W PP (d + 12) 1056 Q 0 0 75 [some (.ref m), some (.int (nI n)), none] [] h4 := fun h4 a e er l1 fT fN fR fn fL fI fF f2' => by
    have hok := l1.2.2.2.2.2.2.2.1 e rfl
    have g6 : hI h4 m 6 = nI e.1 := l1.2.2.2.1
    have g7 : hI h4 m 7 = nI e.2 := l1.2.2.2.2.1
    have l1' := mrd_f (j := 5) (v := nI e.2) (by decide) (by decide) (by decide) (by decide) l1
    simp (disch := omega) only [u_1056_75, B_1056_75, nI1T, Nat.left_eq_add, Nat.add_eq_left, Nat.add_eq_zero_iff, and_false, false_and, if_false, if_true, opsN, opsC, pm_1, lg, ls1, ls2, lq, List.length_cons, List.length_nil, cN, cL, callE, retV, retN, pm_pop, pm_cat, List.map_cons, List.map_nil, List.sum_cons, List.sum_nil, Value.category, Option.toList, List.cons_append, List.nil_append, ↓reduceIte, reduceCtorEq, Nat.reduceAdd, Nat.reduceLT, Nat.reduceLeDiff, Nat.reduceSub, Nat.reduceEqDiff, Nat.zero_le, Nat.sub_zero, Nat.le_refl, true_and, and_true, not_true_eq_false, not_false_eq_true, true_or, or_true, lc_eq, lc_ne, lc_lt, lc_ge, lc_gt, lc_le, nI_add, lN_add, nI_leI, nI_ltI, nI_eq, nI_clamp, pk_lLT, pk_lLE, pk_lEQ, pk_sub, vp_inT, nz_eq, nz_lt, nz_ge, nz_gt, nz_le, lz_eq, lz_lt, lz_ge, hP1, hP2, hP3, hP4, hP5, hP6, hP7, hP8, hP9, hP10, hP11, hP12, hP13, hP14, hP15, hP16, hP17, hP18, hP19, hP20, l1.1.1, g7]
    have g6' : hI (sI h4 m (va_up (hI h4 m) 5 (nI e.2))) m 6 = nI e.1 := by rw [hI_at, va_up_ne _ _ (by decide)]; exact g6
    have gF : ∀ j, j ≠ 5 → hI (sI h4 m (va_up (hI h4 m) 5 (nI e.2))) m j = hI h4 m j := fun j q => by rw [hI_at, va_up_ne _ _ q]
    have g5 : hI (sI h4 m (va_up (hI h4 m) 5 (nI e.2))) m 5 = nI e.2 := by rw [hI_at, va_up_self]
    have gI : ∀ k, k ≠ m → hI (sI h4 m (va_up (hI h4 m) 5 (nI e.2))) k = hI h4 k := fun k q => by rw [hP1, va_up_ne _ _ q]
    have sT : hT (sI h4 m (va_up (hI h4 m) 5 (nI e.2))) = hT h9 := fT
    have sN : hN (sI h4 m (va_up (hI h4 m) 5 (nI e.2))) = hN h9 := fN
    have sR' : hR (sI h4 m (va_up (hI h4 m) 5 (nI e.2))) = hR h9 := fR
    have sn : hn (sI h4 m (va_up (hI h4 m) 5 (nI e.2))) = hn h9 := fn
    have sL' : hL (sI h4 m (va_up (hI h4 m) 5 (nI e.2))) = hL h9 := fL
    generalize sI h4 m (va_up (hI h4 m) 5 (nI e.2)) = h5 at l1' g6' gF g5 gI sT sN sR' sn sL' ⊢
    rw [q1043f _ l1' (fun q => by cases q)]
    simp (disch := omega) only [nI1T, Nat.left_eq_add, Nat.add_eq_left, Nat.add_eq_zero_iff, and_false, false_and, if_false, if_true, opsN, opsC, pm_1, lg, ls1, ls2, lq, List.length_cons, List.length_nil, cN, cL, callE, retV, retN, pm_pop, pm_cat, List.map_cons, List.map_nil, List.sum_cons, List.sum_nil, Value.category, Option.toList, List.cons_append, List.nil_append, ↓reduceIte, reduceCtorEq, Nat.reduceAdd, Nat.reduceLT, Nat.reduceLeDiff, Nat.reduceSub, Nat.reduceEqDiff, Nat.zero_le, Nat.sub_zero, Nat.le_refl, true_and, and_true, not_true_eq_false, not_false_eq_true, true_or, or_true, lc_eq, lc_ne, lc_lt, lc_ge, lc_gt, lc_le, nI_add, lN_add, nI_leI, nI_ltI, nI_eq, nI_clamp, pk_lLT, pk_lLE, pk_lEQ, pk_sub, vp_inT, nz_eq, nz_lt, nz_ge, nz_gt, nz_le, lz_eq, lz_lt, lz_ge, hP1, hP2, hP3, hP4, hP5, hP6, hP7, hP8, hP9, hP10, hP11, hP12, hP13, hP14, hP15, hP16, hP17, hP18, hP19, hP20, l1'.1.1, g6']
    exact hQe e _ er (MI_txt hM9 sT sN sR' sL' (fun k q1 q2 => (gI k q1).trans (fI k q1 (by omega))) ((gF _ (by decide)).trans (fF _ (by omega))) ((gF _ (by decide)).trans (fF _ (by omega))) ⟨⟨(gF _ (by decide)).trans f2', g5, fun i hi => absurd hi (Nat.not_lt_zero _)⟩, mPl_eq ok.2.2.2.1 ((gF _ (by decide)).trans (fF _ (by omega))) (fun k q1 q2 => (gI k (by omega)).trans (fI k (by omega) (by omega))) hM9.2.2.1.2.1, mCh_eq ok.2.2.2.2.2 ((gF _ (by decide)).trans (fF _ (by omega))) ((gF _ (by decide)).trans (fF _ (by omega))) ((gF _ (by decide)).trans (fF _ (by omega))) (fun k q1 q2 => (gI k (by omega)).trans (fI k (by omega) (by omega))) hM9.2.2.1.2.2⟩ ⟨Nat.zero_le _, fun b hb => absurd hb List.not_mem_nil, fun p q => by injection q with q; rw [← q]; exact hok.2.2, ok.2.2.2⟩) (frX_trans hX9 ⟨sT, sN, sn, fun k q => ⟨(gI k (by omega)).trans (fI k (by omega) (by omega)), by rw [sL'], by rw [sR']⟩⟩) (((gF _ (by decide)).trans (fF _ (by omega))).trans hz)
  have fT : hT h2 = hT h9 := y1.trans o1
  have fN : hN h2 = hN h9 := y2.trans o2
  have fR : hR h2 = hR h9 := y3.trans o3
  have fn : hn h2 = hn h9 := y4.trans o4
  have fL : hL h2 = hL h9 := y5.trans o5
  have fI : ∀ k, k ≠ m → (k < m + 329 ∨ m + 629 ≤ k) → hI h2 k = hI h9 k := fun k q1 q2 => (y6 k q1 (by omega)).trans (o6 k q1)
  have fF : ∀ j, (j < 2 ∨ j = 5 ∨ (8 ≤ j ∧ j < 29)) → hI h2 m j = hI h9 m j := fun j q => (y7 j (by omega) (by omega) (by omega) (by omega) (by omega)).trans (o7 j (by omega))
  have f2' : hI h2 m 2 = nI 0 := (y7 2 (by omega) (by omega) (by omega) (by omega) (by omega)).trans k3
  rcases hO with ⟨e, a', q1, q2⟩ | ⟨a', U, w, R, l1, l2, l3, l4, l5, l6, l7, l8, l9⟩
  · simp (disch := omega) only [nI1T, Nat.left_eq_add, Nat.add_eq_left, Nat.add_eq_zero_iff, and_false, false_and, if_false, if_true, opsN, opsC, pm_1, lg, ls1, ls2, lq, List.length_cons, List.length_nil, cN, cL, callE, retV, retN, pm_pop, pm_cat, List.map_cons, List.map_nil, List.sum_cons, List.sum_nil, Value.category, Option.toList, List.cons_append, List.nil_append, ↓reduceIte, reduceCtorEq, Nat.reduceAdd, Nat.reduceLT, Nat.reduceLeDiff, Nat.reduceSub, Nat.reduceEqDiff, Nat.zero_le, Nat.sub_zero, Nat.le_refl, true_and, and_true, not_true_eq_false, not_false_eq_true, true_or, or_true, lc_eq, lc_ne, lc_lt, lc_ge, lc_gt, lc_le, nI_add, lN_add, nI_leI, nI_ltI, nI_eq, nI_clamp, pk_lLT, pk_lLE, pk_lEQ, pk_sub, vp_inT, nz_eq, nz_lt, nz_ge, nz_gt, nz_le, lz_eq, lz_lt, lz_ge, hP1, hP2, hP3, hP4, hP5, hP6, hP7, hP8, hP9, hP10, hP11, hP12, hP13, hP14, hP15, hP16, hP17, hP18, hP19, hP20, q1.1.1]
    rw [q1043f _ q1 (fun q => by cases q)]
    simp (disch := omega) only [nI1T, Nat.left_eq_add, Nat.add_eq_left, Nat.add_eq_zero_iff, and_false, false_and, if_false, if_true, opsN, opsC, pm_1, lg, ls1, ls2, lq, List.length_cons, List.length_nil, cN, cL, callE, retV, retN, pm_pop, pm_cat, List.map_cons, List.map_nil, List.sum_cons, List.sum_nil, Value.category, Option.toList, List.cons_append, List.nil_append, ↓reduceIte, reduceCtorEq, Nat.reduceAdd, Nat.reduceLT, Nat.reduceLeDiff, Nat.reduceSub, Nat.reduceEqDiff, Nat.zero_le, Nat.sub_zero, Nat.le_refl, true_and, and_true, not_true_eq_false, not_false_eq_true, true_or, or_true, lc_eq, lc_ne, lc_lt, lc_ge, lc_gt, lc_le, nI_add, lN_add, nI_leI, nI_ltI, nI_eq, nI_clamp, pk_lLT, pk_lLE, pk_lEQ, pk_sub, vp_inT, nz_eq, nz_lt, nz_ge, nz_gt, nz_le, lz_eq, lz_lt, lz_ge, hP1, hP2, hP3, hP4, hP5, hP6, hP7, hP8, hP9, hP10, hP11, hP12, hP13, hP14, hP15, hP16, hP17, hP18, hP19, hP20]
    exact lastE h2 a' e (by rw [hce, q2 _ _ _ rfl]) q1 fT fN fR fn fL fI fF f2'
  · have ha' : a' ≤ X.length := l3.2.2.2.2.2.2.1
    have l9 := l9 [] [] 0 rfl
    rw [Nat.zero_add] at l4 l6 l7 l8
    rw [List.nil_append, Nat.zero_add] at l9
    simp (disch := omega) only [nI1T, Nat.left_eq_add, Nat.add_eq_left, Nat.add_eq_zero_iff, and_false, false_and, if_false, if_true, opsN, opsC, pm_1, lg, ls1, ls2, lq, List.length_cons, List.length_nil, cN, cL, callE, retV, retN, pm_pop, pm_cat, List.map_cons, List.map_nil, List.sum_cons, List.sum_nil, Value.category, Option.toList, List.cons_append, List.nil_append, ↓reduceIte, reduceCtorEq, Nat.reduceAdd, Nat.reduceLT, Nat.reduceLeDiff, Nat.reduceSub, Nat.reduceEqDiff, Nat.zero_le, Nat.sub_zero, Nat.le_refl, true_and, and_true, not_true_eq_false, not_false_eq_true, true_or, or_true, lc_eq, lc_ne, lc_lt, lc_ge, lc_gt, lc_le, nI_add, lN_add, nI_leI, nI_ltI, nI_eq, nI_clamp, pk_lLT, pk_lLE, pk_lEQ, pk_sub, vp_inT, nz_eq, nz_lt, nz_ge, nz_gt, nz_le, lz_eq, lz_lt, lz_ge, hP1, hP2, hP3, hP4, hP5, hP6, hP7, hP8, hP9, hP10, hP11, hP12, hP13, hP14, hP15, hP16, hP17, hP18, hP19, hP20, l3.1.1]
    rw [q1043t _ l3 rfl]
    simp (disch := omega) only [nI1T, Nat.left_eq_add, Nat.add_eq_left, Nat.add_eq_zero_iff, and_false, false_and, if_false, if_true, opsN, opsC, pm_1, lg, ls1, ls2, lq, List.length_cons, List.length_nil, cN, cL, callE, retV, retN, pm_pop, pm_cat, List.map_cons, List.map_nil, List.sum_cons, List.sum_nil, Value.category, Option.toList, List.cons_append, List.nil_append, ↓reduceIte, reduceCtorEq, Nat.reduceAdd, Nat.reduceLT, Nat.reduceLeDiff, Nat.reduceSub, Nat.reduceEqDiff, Nat.zero_le, Nat.sub_zero, Nat.le_refl, true_and, and_true, not_true_eq_false, not_false_eq_true, true_or, or_true, lc_eq, lc_ne, lc_lt, lc_ge, lc_gt, lc_le, nI_add, lN_add, nI_leI, nI_ltI, nI_eq, nI_clamp, pk_lLT, pk_lLE, pk_lEQ, pk_sub, vp_inT, nz_eq, nz_lt, nz_ge, nz_gt, nz_le, lz_eq, lz_lt, lz_ge, hP1, hP2, hP3, hP4, hP5, hP6, hP7, hP8, hP9, hP10, hP11, hP12, hP13, hP14, hP15, hP16, hP17, hP18, hP19, hP20, l3.1.1]
    refine c1042 (d + 10) l3 rfl ?_
    intro h4 r4 f4
    have r4 : mrd h4 m X (a', none) := by rw [← l2.1]; exact r4
    have g4 : hI h4 m 4 = nI a' := r4.2.2.1 rfl
    have vT : hT h4 = hT h9 := f4.1.trans fT
    have vN : hN h4 = hN h9 := f4.2.1.trans fN
    have vR : hR h4 = hR h9 := f4.2.2.1.trans fR
    have vn : hn h4 = hn h9 := f4.2.2.2.1.trans fn
    have vL : hL h4 = hL h9 := f4.2.2.2.2.1.trans fL
    have vI : ∀ k, k ≠ m → (k < m + 329 ∨ m + 629 ≤ k) → hI h4 k = hI h9 k := fun k q1 q2 => (f4.2.2.2.2.2.1 k q1).trans (fI k q1 q2)
    have vF : ∀ j, (j < 2 ∨ j = 5 ∨ (8 ≤ j ∧ j < 29)) → hI h4 m j = hI h9 m j := fun j q => (f4.2.2.2.2.2.2 j (by omega) (by omega) (by omega)).trans (fF j q)
    have v2 : hI h4 m 2 = nI 0 := (f4.2.2.2.2.2.2 2 (by omega) (by omega) (by omega)).trans f2'
    have v29 : hI h4 m 29 = nI w := (f4.2.2.2.2.2.2 29 (by omega) (by omega) (by omega)).trans l4
    have esk : X[skp X (a', (none : Fl)).1]? = X[a']? := by show X[skp X a']? = _; rw [l2.1]
    rw [esk]
    cases e : X[a']? with
    | some b =>
      have hb := at_b htX b e
      have e1 : (nI b = -nI 1) = False := eq_false fun q => by
        have := congrArg Int32.toInt q
        rw [nI_toInt hb] at this
        have e9 : (-nI 1 : Int32).toInt = -1 := by decide
        omega
      have hal : a' ≤ 500 := by have := htX.1; omega
      simp (disch := omega) only [nI1T, Nat.left_eq_add, Nat.add_eq_left, Nat.add_eq_zero_iff, and_false, false_and, if_false, if_true, opsN, opsC, pm_1, lg, ls1, ls2, lq, List.length_cons, List.length_nil, cN, cL, callE, retV, retN, pm_pop, pm_cat, List.map_cons, List.map_nil, List.sum_cons, List.sum_nil, Value.category, Option.toList, List.cons_append, List.nil_append, ↓reduceIte, reduceCtorEq, Nat.reduceAdd, Nat.reduceLT, Nat.reduceLeDiff, Nat.reduceSub, Nat.reduceEqDiff, Nat.zero_le, Nat.sub_zero, Nat.le_refl, true_and, and_true, not_true_eq_false, not_false_eq_true, true_or, or_true, lc_eq, lc_ne, lc_lt, lc_ge, lc_gt, lc_le, nI_add, lN_add, nI_leI, nI_ltI, nI_eq, nI_clamp, pk_lLT, pk_lLE, pk_lEQ, pk_sub, vp_inT, nz_eq, nz_lt, nz_ge, nz_gt, nz_le, lz_eq, lz_lt, lz_ge, hP1, hP2, hP3, hP4, hP5, hP6, hP7, hP8, hP9, hP10, hP11, hP12, hP13, hP14, hP15, hP16, hP17, hP18, hP19, hP20, iv_so, e1, r4.1.1, g4]
      refine c1044 (d + 11) r4 (by decide) (by decide) hal ?_
      intro h5 r5 f5
      simp (disch := omega) only [nI1T, Nat.left_eq_add, Nat.add_eq_left, Nat.add_eq_zero_iff, and_false, false_and, if_false, if_true, opsN, opsC, pm_1, lg, ls1, ls2, lq, List.length_cons, List.length_nil, cN, cL, callE, retV, retN, pm_pop, pm_cat, List.map_cons, List.map_nil, List.sum_cons, List.sum_nil, Value.category, Option.toList, List.cons_append, List.nil_append, ↓reduceIte, reduceCtorEq, Nat.reduceAdd, Nat.reduceLT, Nat.reduceLeDiff, Nat.reduceSub, Nat.reduceEqDiff, Nat.zero_le, Nat.sub_zero, Nat.le_refl, true_and, and_true, not_true_eq_false, not_false_eq_true, true_or, or_true, lc_eq, lc_ne, lc_lt, lc_ge, lc_gt, lc_le, nI_add, lN_add, nI_leI, nI_ltI, nI_eq, nI_clamp, pk_lLT, pk_lLE, pk_lEQ, pk_sub, vp_inT, nz_eq, nz_lt, nz_ge, nz_gt, nz_le, lz_eq, lz_lt, lz_ge, hP1, hP2, hP3, hP4, hP5, hP6, hP7, hP8, hP9, hP10, hP11, hP12, hP13, hP14, hP15, hP16, hP17, hP18, hP19, hP20]
      refine lastE h5 a' (1, a') ?_ r5 (f5.1.trans vT) (f5.2.1.trans vN) (f5.2.2.1.trans vR) (f5.2.2.2.1.trans vn) (f5.2.2.2.2.1.trans vL) (fun k q1 q2 => (f5.2.2.2.2.2.1 k q1).trans (vI k q1 q2)) (fun j q => (f5.2.2.2.2.2.2 j (by omega) (by omega) (by omega)).trans (vF j q)) ((f5.2.2.2.2.2.2 2 (by omega) (by omega) (by omega)).trans v2)
      rw [hce, l9, CO_step htX ha' (by rw [l2.1]; exact e) (fun q => absurd q.1 (Nat.not_lt_zero _)) (by rw [l2.1]; exact ns_wd l2.2 (by decide) (by decide) (by decide)), l2.1, ns_stp l2.2, CLr_s (want_some (fun q => by cases q))]
    | none =>
      have er : plR G.2.2.2.2.1 n = .inr (U, w) := by
        rw [hce, l9, CO_end htX ha' (by rw [l2.1]; exact e)]; rfl
      have g7 : hI h4 m 7 = -nI 1 := r4.2.2.2.2.1
      have r4' := mrd_f (j := 5) (v := -nI 1) (by decide) (by decide) (by decide) (by decide) r4
      simp (disch := omega) only [u_1056_75, B_1056_75, nI1T, Nat.left_eq_add, Nat.add_eq_left, Nat.add_eq_zero_iff, and_false, false_and, if_false, if_true, opsN, opsC, pm_1, lg, ls1, ls2, lq, List.length_cons, List.length_nil, cN, cL, callE, retV, retN, pm_pop, pm_cat, List.map_cons, List.map_nil, List.sum_cons, List.sum_nil, Value.category, Option.toList, List.cons_append, List.nil_append, ↓reduceIte, reduceCtorEq, Nat.reduceAdd, Nat.reduceLT, Nat.reduceLeDiff, Nat.reduceSub, Nat.reduceEqDiff, Nat.zero_le, Nat.sub_zero, Nat.le_refl, true_and, and_true, not_true_eq_false, not_false_eq_true, true_or, or_true, lc_eq, lc_ne, lc_lt, lc_ge, lc_gt, lc_le, nI_add, lN_add, nI_leI, nI_ltI, nI_eq, nI_clamp, pk_lLT, pk_lLE, pk_lEQ, pk_sub, vp_inT, nz_eq, nz_lt, nz_ge, nz_gt, nz_le, lz_eq, lz_lt, lz_ge, hP1, hP2, hP3, hP4, hP5, hP6, hP7, hP8, hP9, hP10, hP11, hP12, hP13, hP14, hP15, hP16, hP17, hP18, hP19, hP20, iv, r4.1.1, g7]
      rw [q1043t _ r4' rfl]
      simp (disch := omega) only [u_1056_98, B_1056_98, nI1T, Nat.left_eq_add, Nat.add_eq_left, Nat.add_eq_zero_iff, and_false, false_and, if_false, if_true, opsN, opsC, pm_1, lg, ls1, ls2, lq, List.length_cons, List.length_nil, cN, cL, callE, retV, retN, pm_pop, pm_cat, List.map_cons, List.map_nil, List.sum_cons, List.sum_nil, Value.category, Option.toList, List.cons_append, List.nil_append, ↓reduceIte, reduceCtorEq, Nat.reduceAdd, Nat.reduceLT, Nat.reduceLeDiff, Nat.reduceSub, Nat.reduceEqDiff, Nat.zero_le, Nat.sub_zero, Nat.le_refl, true_and, and_true, not_true_eq_false, not_false_eq_true, true_or, or_true, lc_eq, lc_ne, lc_lt, lc_ge, lc_gt, lc_le, nI_add, lN_add, nI_leI, nI_ltI, nI_eq, nI_clamp, pk_lLT, pk_lLE, pk_lEQ, pk_sub, vp_inT, nz_eq, nz_lt, nz_ge, nz_gt, nz_le, lz_eq, lz_lt, lz_ge, hP1, hP2, hP3, hP4, hP5, hP6, hP7, hP8, hP9, hP10, hP11, hP12, hP13, hP14, hP15, hP16, hP17, hP18, hP19, hP20, r4.1.1, va_upE, sI_sI, v29]
      obtain ⟨g, hg, hg5, hg25, hgo⟩ : ∃ g, g = va_up (va_up (hI h4 m) 5 (-nI 1)) 25 (nI w) ∧ g 5 = -nI 1 ∧ g 25 = nI w ∧ ∀ j, j ≠ 5 → j ≠ 25 → g j = hI h4 m j :=
        ⟨_, rfl, by simp only [va_upE, Nat.reduceEqDiff, if_true, if_false], by simp only [va_upE, Nat.reduceEqDiff, if_true, if_false], fun j q1 q2 => by rw [va_up_ne _ _ q2, va_up_ne _ _ q1]⟩
      rw [← hg]
      clear hg
      have e4 : ∀ k, k ≠ m → hI (sI h4 m g) k = hI h4 k := fun k q => by rw [hP1, va_up_ne _ _ q]
      have e4m : hI (sI h4 m g) m = g := hI_at _ _ _
      have hs4 : mS (sI h4 m g) m := mS_sI r4.1
      have sT : hT (sI h4 m g) = hT h9 := vT
      have sN : hN (sI h4 m g) = hN h9 := vN
      have sR' : hR (sI h4 m g) = hR h9 := vR
      have sn : hn (sI h4 m g) = hn h9 := vn
      have sL' : hL (sI h4 m g) = hL h9 := vL
      generalize sI h4 m g = h5 at e4 e4m hs4 sT sN sR' sn sL' ⊢
      have hX3 : X.length ≤ 300 := by omega
      have hw3 : w ≤ 300 := by omega
      refine l1056 (d + 11) (R := R) hw3 w 0 h5 (by omega) hs4 (by rw [e4m]; exact hg25) (fun i hi => ?_) (fun i hi => absurd hi (Nat.not_lt_zero _)) ?_
      · have := (l8 i (Nat.zero_le _) hi).1
        unfold rwIs at *
        rw [e4 _ (by omega), f4.2.2.2.2.2.1 _ (by omega)]; exact this
      · intro h6 r6 s6 L6
        have em : hI h6 m = g := by rw [(s6.2.2.2.2 m (by omega)).1, e4m]
        have eI : ∀ k, k ≠ m → (k < m + 28 ∨ m + 629 ≤ k) → hI h6 k = hI h9 k := fun k q1 q2 => by rw [(s6.2.2.2.2 k (by omega)).1, e4 _ q1, vI _ q1 (by omega)]
        have tT : hT h6 = hT h9 := s6.1.trans sT
        have tN : hN h6 = hN h9 := s6.2.1.trans sN
        have tR : hR h6 = hR h9 := s6.2.2.1.trans sR'
        have tn : hn h6 = hn h9 := s6.2.2.2.1.trans sn
        have tL : hL h6 = hL h9 := L6.trans sL'
        refine hQ (U, w) h6 er (MI_txt hM9 tT tN tR tL (fun k q1 q2 => eI k q1 (by omega)) (by rw [em, hgo _ (by decide) (by decide)]; exact vF _ (by omega)) (by rw [em, hgo _ (by decide) (by decide)]; exact vF _ (by omega)) ⟨⟨by rw [em, hgo _ (by decide) (by decide)]; exact v2, by rw [em]; exact hg5, fun i hi => absurd hi (Nat.not_lt_zero _)⟩, ⟨by rw [em]; exact hg25, R, l7, fun i hi => ⟨r6 i hi, (l8 i (Nat.zero_le _) hi).2⟩⟩, mCh_eq ok.2.2.2.2.2 (by rw [em, hgo _ (by decide) (by decide)]; exact vF _ (by omega)) (by rw [em, hgo _ (by decide) (by decide)]; exact vF _ (by omega)) (by rw [em, hgo _ (by decide) (by decide)]; exact vF _ (by omega)) (fun k q1 q2 => eI k (by omega) (by omega)) hM9.2.2.1.2.2⟩ ⟨Nat.zero_le _, fun b hb => absurd hb List.not_mem_nil, fun p q => (by cases q), hw3, SG_stB l7, ok.2.2.2.2.2⟩) (frX_trans hX9 ⟨tT, tN, tn, fun k q => ⟨eI k (by omega) (by omega), by rw [tL], by rw [tR]⟩⟩) ?_
        rw [em, hgo _ (by decide) (by decide), vF _ (by omega)]; exact hz
/-- plan -/
theorem P902 (hC : CI h x G) (hM : MI h m G) (v : Int32) : pairI x m 902 1056 [.int v] [0, 1, 0, 0] G h := by
  have ok := hM.2.2.2
  have hl5 := ok.1
  have htx : txt G.2.2.2.2.1 := ⟨ok.1, ok.2.1⟩
  rcases v_txt (v := v) (k := min G.2.2.2.2.1.length 300) (by omega) with ⟨n, hnn, e⟩ | z
  · subst e
    have h1 : n ≤ G.2.2.2.2.1.length := by omega
    have h2 : n ≤ 300 := by omega
    cases er : plR G.2.2.2.2.1 n with
    | inl e =>
      refine .inr ⟨nI e.1 - nI 10, (G.1, G.2.1, G.2.2.1, G.2.2.2.1, [], some e.2, G.2.2.2.2.2.2.1, G.2.2.2.2.2.2.2), Nat.le_add_right _ _, fun Q hQ => c902 393 hC htx h1 h2 (fun e' h' q1 q2 q3 => ?_) (fun C' h' q1 => ?_), fun h9 Q hM1 hQ => c1056 387 hM1 h1 h2 (fun e' h' q1 q2 q3 q4 => ?_) (fun C' h' q1 => ?_)⟩
      · rw [er] at q1; cases q1; exact hQ h' q2 q3
      · rw [er] at q1; cases q1
      · rw [er] at q1; cases q1; exact hQ h' q2 q3 q4
      · rw [er] at q1; cases q1
    | inr L =>
      refine .inr ⟨nI L.2, (G.1, G.2.1, G.2.2.1, G.2.2.2.1, [], none, L, G.2.2.2.2.2.2.2), Nat.le_add_right _ _, fun Q hQ => c902 393 hC htx h1 h2 (fun e' h' q1 => ?_) (fun C'' h' q1 q2 q3 => ?_), fun h9 Q hM1 hQ => c1056 387 hM1 h1 h2 (fun e' h' q1 => ?_) (fun C'' h' q1 q2 q3 q4 => ?_)⟩
      · rw [er] at q1; cases q1
      · rw [er] at q1; cases q1; exact hQ h' q2 q3
      · rw [er] at q1; cases q1
      · rw [er] at q1; cases q1; exact hQ h' q2 q3 q4
  · exact .inl ⟨1, by decide, by decide, fun Q hQ => c902a 398 hC hl5 z (hQ _ (CI_ref (by decide) hC) frX_ref),
            fun h9 Q hM1 hQ => r1056a 396 hM1 z (by have := MI_ref (w := 1) (r := 1) (by decide) hM1; exact hQ _ this.1 this.2.2 this.2.1)⟩
end PQ
