/-! ===== dealOut, takeNext ===== -/
def dltU (bits m : Nat) (K : Nat → Nat) : List Nat → (Nat → Bool) → (Nat → Bool)
  | [], U => U
  | x :: r, U => dltU bits m K r (va_up U (bk bits m (K x)) true)
theorem l116 (d : Nat) {b cap bits limit m C : Nat} {K S : Nat → Nat} {R : List Nat} (h1 : 1 ≤ bits) (h4 : bits ≤ 4) (hm : m < 2 ^ 40) (hC : C ≤ limit) (hlc : limit ≤ cap) (hcap : cap ≤ 300) :
    ∀ (suf : List Nat) (M W : Nat → Nat) (L : List Nat) (h : pm_H) (x3 : Option Value) (Q : pm_Q), isB h b cap bits limit (m, C, K, M, W, S, L ++ (suf ++ R)) → (suf ++ L).Nodup → L.Pairwise (fun x y => W x ≤ W y) →
      (∀ x, x ∈ suf ++ L → x < C ∧ S x = 0 ∧ K x < 2 ^ 40) → (∀ x, x ∈ L → W x < 160) → (L ++ (suf ++ R)).length ≤ C →
      (∀ h', isB h' b cap bits limit (m, C, K, (dlt bits m K suf M W L).1, (dlt bits m K suf M W L).2.1, S, (dlt bits m K suf M W L).2.2 ++ R) → (∀ U, isF h b U → isF h' b (dltU bits m K suf U)) → fr b (b + 6) h h' → Q (.inl none) h') →
      pm_W PP (d + 1) 116 Q 0 0 26 [some (.ref b), some (.int (nI (L.length + suf.length))), some (.int (nI L.length)), x3] [] h := by
  intro suf
  induction suf with
  | nil =>
    intro M W L h x3 Q hB hnd hs hx hW hlen hQ
    have hll : L.length ≤ (L ++ ([] ++ R)).length := by rw [List.length_append]; omega
    have e0 : L.length + ([] : List Nat).length = L.length := rfl
    have e1 : L.length ≤ L.length := Nat.le_refl _
    rw [u_116_26, e0]
    simp (disch := omega) only [B_116_26, u_116_70, B_116_70, nI1T, Nat.left_eq_add, Nat.add_eq_left, Nat.add_eq_zero_iff, and_false, false_and, if_false, if_true, opsN, opsC, pm_1, lg, ls1, ls2, lq, List.length_cons, List.length_nil, cN, cL, callE, retV, retN, pm_pop, pm_cat, List.map_cons, List.map_nil, List.sum_cons, List.sum_nil, Value.category, Option.toList, List.cons_append, List.nil_append, reduceIte, reduceCtorEq, Nat.reduceAdd, Nat.reduceLT, Nat.reduceLeDiff, Nat.reduceSub, Nat.reduceEqDiff, Nat.zero_le, Nat.sub_zero, Nat.le_refl, true_and, and_true, not_true_eq_false, not_false_eq_true, true_or, or_true, lc_eq, lc_ne, lc_lt, lc_ge, lc_gt, lc_le, nI_add, lN_add, nI_leI, nI_ltI, nI_eq, nI_clamp, pk_lLT, pk_lLE, pk_lEQ, pk_sub, vp_inT, nz_eq, nz_lt, nz_ge, nz_gt, nz_le, lz_eq, lz_lt, lz_ge, hP1, hP2, hP3, hP4, hP5, hP6, hP7, hP8, hP9, hP10, hP11, hP12, hP13, hP14, hP15, hP16, hP17, hP18, hP19, hP20, e1]
    exact hQ h hB (fun U hU => hU) (fr_refl _ _ _)
  | cons y r ih =>
    intro M W L h x3 Q hB hnd hs hx hW hlen hQ
    have hsB := hB.1
    have hB0 := hB
    obtain ⟨⟨s0, s1, s2, s3, s4, s5, s6, s7, s8, s9, s10, s11, s12, s13, s14, s15, s16⟩, f4, f5, f6, f7, f8, f9, rK, rW, rM, rN⟩ := hB
    have hll : (L ++ (y :: r ++ R)).length = L.length + (r.length + 1 + R.length) := by rw [List.length_append, List.length_append, List.length_cons]
    have hy := rN L.length (by show L.length < (L ++ (y :: r ++ R)).length; omega)
    have hy' : hI h (b + 5) L.length = nI y := by rw [hy]; exact congrArg nI (getD_mid L y (r ++ R))
    obtain ⟨y1, y2, y3⟩ := hx y (List.mem_append_left _ (List.mem_cons_self ..))
    have hmy : hI h (b + 4) y = nI (M y) := rM y y1
    have hky : hL h (b + 2) y = lN (K y) := rK y y1
    have c1 : ¬ L.length + (r.length + 1) ≤ L.length := by omega
    have hbb : bk bits m (K y) < 160 := bk_bound (by omega) h4 y3 hm
    rw [u_116_26, List.length_cons]
    simp (disch := omega) only [B_116_26, nI1T, Nat.left_eq_add, Nat.add_eq_left, Nat.add_eq_zero_iff, and_false, false_and, if_false, if_true, opsN, opsC, pm_1, lg, ls1, ls2, lq, List.length_cons, List.length_nil, cN, cL, callE, retV, retN, pm_pop, pm_cat, List.map_cons, List.map_nil, List.sum_cons, List.sum_nil, Value.category, Option.toList, List.cons_append, List.nil_append, reduceIte, reduceCtorEq, Nat.reduceAdd, Nat.reduceLT, Nat.reduceLeDiff, Nat.reduceSub, Nat.reduceEqDiff, Nat.zero_le, Nat.sub_zero, Nat.le_refl, true_and, and_true, not_true_eq_false, not_false_eq_true, true_or, or_true, lc_eq, lc_ne, lc_lt, lc_ge, lc_gt, lc_le, nI_add, lN_add, nI_leI, nI_ltI, nI_eq, nI_clamp, pk_lLT, pk_lLE, pk_lEQ, pk_sub, vp_inT, nz_eq, nz_lt, nz_ge, nz_gt, nz_le, lz_eq, lz_lt, lz_ge, hP1, hP2, hP3, hP4, hP5, hP6, hP7, hP8, hP9, hP10, hP11, hP12, hP13, hP14, hP15, hP16, hP17, hP18, hP19, hP20, s0, s1, s2, s3, s4, s5, s6, s7, s8, s9, s10, s11, s12, s13, s14, s15, f5, f6, f8, va_upE, c1, hy', hmy, hky]
    have hB1 := mv_isB (i := y) (m := M y + 1) hB0
    refine c114 d (b := b) (last := m) (bits := bits) (cap := cap) hB1.1 ?_ ?_ h1 h4 y3 hm ?_
    · exact hB1.2.2.2.2.1
    · exact hB1.2.2.2.1
    simp (disch := omega) only [nI1T, Nat.left_eq_add, Nat.add_eq_left, Nat.add_eq_zero_iff, and_false, false_and, if_false, if_true, opsN, opsC, pm_1, lg, ls1, ls2, lq, List.length_cons, List.length_nil, cN, cL, callE, retV, retN, pm_pop, pm_cat, List.map_cons, List.map_nil, List.sum_cons, List.sum_nil, Value.category, Option.toList, List.cons_append, List.nil_append, reduceIte, reduceCtorEq, Nat.reduceAdd, Nat.reduceLT, Nat.reduceLeDiff, Nat.reduceSub, Nat.reduceEqDiff, Nat.zero_le, Nat.sub_zero, Nat.le_refl, true_and, and_true, not_true_eq_false, not_false_eq_true, true_or, or_true, lc_eq, lc_ne, lc_lt, lc_ge, lc_gt, lc_le, nI_add, lN_add, nI_leI, nI_ltI, nI_eq, nI_clamp, pk_lLT, pk_lLE, pk_lEQ, pk_sub, vp_inT, nz_eq, nz_lt, nz_ge, nz_gt, nz_le, lz_eq, lz_lt, lz_ge, hP1, hP2, hP3, hP4, hP5, hP6, hP7, hP8, hP9, hP10, hP11, hP12, hP13, hP14, hP15, hP16, hP17, hP18, hP19, hP20, s0, s1, s2, s3, s4, s5, s6, s7, s8, s9, s10, s11, s12, s13, s14, s15, va_upE]
    have hrow := hB1.2.2.2.2.2.2.2.2.1
    have hlin := hB1.2.2.2.2.2.2.2.2.2.2
    refine c115 d (b := b) (cap := cap) (L := L) (W := W) hB1.1 (by omega) (by omega) hbb ?_ hs ?_ ?_
    · intro x hxL
      obtain ⟨u1, u2, u3⟩ := hx x (List.mem_append_right _ hxL)
      refine ⟨by omega, hW x hxL, ?_⟩
      rw [hrow x u1]
      exact wv_0 u2
    · intro j hj
      rw [hlin j (by show j < (L ++ (y :: r ++ R)).length; omega)]
      show nI ((L ++ (y :: r ++ R)).getD j 0) = _
      rw [List.getD_eq_getElem?_getD, List.getElem?_append_left hj, ← List.getD_eq_getElem?_getD]
    · intro ln fl hl1 hl2 hfl
      have hnd1 := List.nodup_cons.mp hnd
      have hyr : y ∉ r := fun q => hnd1.1 (List.mem_append_left _ q)
      have hyL : y ∉ L := fun q => hnd1.1 (List.mem_append_right _ q)
      have hn2 := List.nodup_append.mp hnd1.2
      -- the state behind this item
      have hB2 : isB (setH (sI h (b + 4) (va_up (hI h (b + 4)) y (nI (M y + 1)))) b y (bk bits m (K y)) ln fl) b cap bits limit (m, C, K, va_up M y (M y + 1), va_up W y (bk bits m (K y)), S, insB W (bk bits m (K y)) y L ++ (r ++ R)) := by
        refine ⟨hsB, f4, ?_, ?_, ?_, ?_, ?_, ?_, ?_, ?_, ?_⟩
        · simp only [setH, hP1, hP2, hP3, hP4, hP5, hP6, hP7, hP8, hP9, hP10, hP11, hP12, hP13, hP14, hP15, hP16, hP17, hP18, hP19, hP20, va_upE, Nat.left_eq_add, Nat.add_eq_left, Nat.add_eq_zero_iff, Nat.reduceEqDiff, Nat.reduceAdd, reduceIte, and_false, false_and, if_false, if_true, reduceCtorEq, f5]
        · simp only [setH, hP1, hP2, hP3, hP4, hP5, hP6, hP7, hP8, hP9, hP10, hP11, hP12, hP13, hP14, hP15, hP16, hP17, hP18, hP19, hP20, va_upE, Nat.left_eq_add, Nat.add_eq_left, Nat.add_eq_zero_iff, Nat.reduceEqDiff, Nat.reduceAdd, reduceIte, and_false, false_and, if_false, if_true, reduceCtorEq, f6]
        · simp only [setH, hP1, hP2, hP3, hP4, hP5, hP6, hP7, hP8, hP9, hP10, hP11, hP12, hP13, hP14, hP15, hP16, hP17, hP18, hP19, hP20, va_upE, Nat.left_eq_add, Nat.add_eq_left, Nat.add_eq_zero_iff, Nat.reduceEqDiff, Nat.reduceAdd, reduceIte, and_false, false_and, if_false, if_true, reduceCtorEq, f7]; rfl
        · simp only [setH, hP1, hP2, hP3, hP4, hP5, hP6, hP7, hP8, hP9, hP10, hP11, hP12, hP13, hP14, hP15, hP16, hP17, hP18, hP19, hP20, va_upE, Nat.left_eq_add, Nat.add_eq_left, Nat.add_eq_zero_iff, Nat.reduceEqDiff, Nat.reduceAdd, reduceIte, and_false, false_and, if_false, if_true, reduceCtorEq, f8]; rfl
        · simp only [setH, hP1, hP2, hP3, hP4, hP5, hP6, hP7, hP8, hP9, hP10, hP11, hP12, hP13, hP14, hP15, hP16, hP17, hP18, hP19, hP20, va_upE, Nat.left_eq_add, Nat.add_eq_left, Nat.add_eq_zero_iff, Nat.reduceEqDiff, Nat.reduceAdd, reduceIte, and_false, false_and, if_false, if_true, reduceCtorEq, f9]
          show nI (L ++ (y :: r ++ R)).length = nI (insB W (bk bits m (K y)) y L ++ (r ++ R)).length
          rw [hll, List.length_append, insB_len, List.length_append]
          congr 1; omega
        · intro i hi; simp only [setH, hP1, hP2, hP3, hP4, hP5, hP6, hP7, hP8, hP9, hP10, hP11, hP12, hP13, hP14, hP15, hP16, hP17, hP18, hP19, hP20, va_upE, Nat.left_eq_add, Nat.add_eq_left, Nat.add_eq_zero_iff, Nat.reduceEqDiff, Nat.reduceAdd, reduceIte, and_false, false_and, if_false, if_true, reduceCtorEq]; exact rK i hi
        · intro j hj
          simp only [setH, hP1, hP2, hP3, hP4, hP5, hP6, hP7, hP8, hP9, hP10, hP11, hP12, hP13, hP14, hP15, hP16, hP17, hP18, hP19, hP20, va_upE, Nat.left_eq_add, Nat.add_eq_left, Nat.add_eq_zero_iff, Nat.reduceEqDiff, Nat.reduceAdd, reduceIte, and_false, false_and, if_false, if_true, reduceCtorEq]
          show _ = wv (S j) (va_up W y (bk bits m (K y)) j)
          rw [va_upE]
          split
          · rename_i e; rw [e, wv_0 y2]
          · exact rW j hj
        · intro j hj
          simp only [setH, hP1, hP2, hP3, hP4, hP5, hP6, hP7, hP8, hP9, hP10, hP11, hP12, hP13, hP14, hP15, hP16, hP17, hP18, hP19, hP20, va_upE, Nat.left_eq_add, Nat.add_eq_left, Nat.add_eq_zero_iff, Nat.reduceEqDiff, Nat.reduceAdd, reduceIte, and_false, false_and, if_false, if_true, reduceCtorEq]
          show _ = nI (va_up M y (M y + 1) j)
          rw [va_upE]
          split
          · rfl
          · exact rM j hj
        · intro j hj
          simp only [setH, hP1, hP2, hP3, hP4, hP5, hP6, hP7, hP8, hP9, hP10, hP11, hP12, hP13, hP14, hP15, hP16, hP17, hP18, hP19, hP20, va_upE, Nat.left_eq_add, Nat.add_eq_left, Nat.add_eq_zero_iff, Nat.reduceEqDiff, Nat.reduceAdd, reduceIte, and_false, false_and, if_false, if_true, reduceCtorEq]
          show _ = nI ((insB W (bk bits m (K y)) y L ++ (r ++ R)).getD j 0)
          have hj2 : j < L.length + 1 + (r.length + R.length) := by
            have : j < (insB W (bk bits m (K y)) y L ++ (r ++ R)).length := hj
            rw [List.length_append, insB_len, List.length_append] at this; exact this
          by_cases c : j ≤ L.length
          · rw [hl1 j c]
            simp only [List.getD_eq_getElem?_getD]
            rw [List.getElem?_append_left (by rw [insB_len]; omega)]
          · rw [hl2 j (by omega)]
            simp only [hP1, hP2, hP3, hP4, hP5, hP6, hP7, hP8, hP9, hP10, hP11, hP12, hP13, hP14, hP15, hP16, hP17, hP18, hP19, hP20, va_upE, Nat.left_eq_add, Nat.add_eq_left, Nat.add_eq_zero_iff, Nat.reduceEqDiff, Nat.reduceAdd, reduceIte, and_false, false_and, if_false, if_true, reduceCtorEq]
            rw [rN j (by show j < (L ++ (y :: r ++ R)).length; omega)]
            show nI ((L ++ (y :: r ++ R)).getD j 0) = _
            simp only [List.getD_eq_getElem?_getD]
            have q1 : (L ++ (y :: r ++ R))[j]? = (r ++ R)[j - (L.length + 1)]? := by
              rw [List.getElem?_append_right (by omega), show j - L.length = (j - (L.length + 1)) + 1 by omega, List.cons_append, List.getElem?_cons_succ]
            have q2 : (insB W (bk bits m (K y)) y L ++ (r ++ R))[j]? = (r ++ R)[j - (L.length + 1)]? := by
              rw [List.getElem?_append_right (by rw [insB_len]; omega), insB_len]
            rw [q1, q2]
      have hfr : fr b (b + 6) h (setH (sI h (b + 4) (va_up (hI h (b + 4)) y (nI (M y + 1)))) b y (bk bits m (K y)) ln fl) :=
        fr_sL (fr_sI (fr_sI (fr_sI (fr_refl _ _ _) (by omega) (by omega)) (by omega) (by omega)) (by omega) (by omega)) (by omega) (by omega)
      have hFF : ∀ U, isF h b U → isF (setH (sI h (b + 4) (va_up (hI h (b + 4)) y (nI (M y + 1)))) b y (bk bits m (K y)) ln fl) b (va_up U (bk bits m (K y)) true) := by
        intro U hU
        have := hfl U (fun k hk => by simp only [hP1, hP2, hP3, hP4, hP5, hP6, hP7, hP8, hP9, hP10, hP11, hP12, hP13, hP14, hP15, hP16, hP17, hP18, hP19, hP20, va_upE, Nat.left_eq_add, Nat.add_eq_left, Nat.add_eq_zero_iff, Nat.reduceEqDiff, Nat.reduceAdd, reduceIte, and_false, false_and, if_false, if_true, reduceCtorEq]; exact hU k hk)
        intro k hk
        simp only [setH, hP1, hP2, hP3, hP4, hP5, hP6, hP7, hP8, hP9, hP10, hP11, hP12, hP13, hP14, hP15, hP16, hP17, hP18, hP19, hP20, va_upE, Nat.left_eq_add, Nat.add_eq_left, Nat.add_eq_zero_iff, Nat.reduceEqDiff, Nat.reduceAdd, reduceIte, and_false, false_and, if_false, if_true, reduceCtorEq]
        exact this k hk
      have step := ih (va_up M y (M y + 1)) (va_up W y (bk bits m (K y))) (insB W (bk bits m (K y)) y L) _ (some (.int (nI y))) Q hB2 (by
          refine List.nodup_append.mpr ⟨hn2.1, nodup_insB hn2.2.1 hyL, fun a ha c hc e => ?_⟩
          rcases mem_insB.mp hc with q | q
          · exact hyr (by rw [← q, ← e]; exact ha)
          · exact hn2.2.2 a ha c q e) (sorted_insB hs hyL) (by
          intro x hx2
          rcases List.mem_append.mp hx2 with q | q
          · exact hx x (List.mem_append_left _ (List.mem_cons_of_mem _ q))
          · rcases mem_insB.mp q with z | z
            · rw [z]; exact ⟨y1, y2, y3⟩
            · exact hx x (List.mem_append_right _ z)) (by
          intro x hx2
          rw [va_upE]
          split
          · exact hbb
          · rename_i ne
            exact hW x ((mem_insB.mp hx2).resolve_left ne)) (by
          rw [List.length_append, insB_len, List.length_append]; omega) (by
          intro h' hB' hU' hf'
          exact hQ h' hB' (fun U hU => hU' _ (hFF U hU)) (fr_trans hfr hf'))
      rw [insB_len] at step
      have e1 : L.length + 1 + r.length = L.length + (r.length + 1) := by omega
      rw [e1] at step
      simp (disch := omega) only [nI1T, Nat.left_eq_add, Nat.add_eq_left, Nat.add_eq_zero_iff, and_false, false_and, if_false, if_true, opsN, opsC, pm_1, lg, ls1, ls2, lq, List.length_cons, List.length_nil, cN, cL, callE, retV, retN, pm_pop, pm_cat, List.map_cons, List.map_nil, List.sum_cons, List.sum_nil, Value.category, Option.toList, List.cons_append, List.nil_append, reduceIte, reduceCtorEq, Nat.reduceAdd, Nat.reduceLT, Nat.reduceLeDiff, Nat.reduceSub, Nat.reduceEqDiff, Nat.zero_le, Nat.sub_zero, Nat.le_refl, true_and, and_true, not_true_eq_false, not_false_eq_true, true_or, or_true, lc_eq, lc_ne, lc_lt, lc_ge, lc_gt, lc_le, nI_add, lN_add, nI_leI, nI_ltI, nI_eq, nI_clamp, pk_lLT, pk_lLE, pk_lEQ, pk_sub, vp_inT, nz_eq, nz_lt, nz_ge, nz_gt, nz_le, lz_eq, lz_lt, lz_ge, hP1, hP2, hP3, hP4, hP5, hP6, hP7, hP8, hP9, hP10, hP11, hP12, hP13, hP14, hP15, hP16, hP17, hP18, hP19, hP20]
      exact step
theorem cnt_all {W : Nat → Nat} {w : Nat} (hw : w < 160) : ∀ {L : List Nat}, (∀ x, x ∈ L → W x = w) → cntB W (nI w) L = L.length
  | [], _ => rfl
  | y :: r, h => by
    show (if nI (W y) = nI w then 1 else 0) + cntB W (nI w) r = r.length + 1
    rw [if_pos (by rw [h y (List.mem_cons_self ..)]), cnt_all hw (fun x hx => h x (List.mem_cons_of_mem _ hx)), Nat.add_comm]
theorem cnt_app {W : Nat → Nat} {x : Int32} : ∀ (L R : List Nat), cntB W x (L ++ R) = cntB W x L + cntB W x R
  | [], R => (Nat.zero_add _).symm
  | y :: r, R => by
    show (if nI (W y) = x then 1 else 0) + cntB W x (r ++ R) = (if nI (W y) = x then 1 else 0) + cntB W x r + cntB W x R
    rw [cnt_app r R, Nat.add_assoc]
theorem c116 (d : Nat) {h : pm_H} {b cap bits limit : Nat} {A : Qs} {Q : pm_Q} (hB : isB h b cap bits limit A) (hI : qI bits limit A) (hne : qN A ≠ []) (h0 : 0 < hdB A)
    (hQ : ∀ h', isB h' b cap bits limit (qDeal bits A) → (∀ U, isF h b U → isF h' b (dltU bits (minK (qK A) (hdD A)) (qK A) (hdD A) U)) → fr b (b + 6) h h' → Q (.inl none) h') : pm_M PP (d + 2) 116 [.ref b] h Q := by
  have hs := hB.1
  have hB0 := hB
  have hI0 := hI
  have hq := qI_line hI
  have hR := hdR_W hI
  obtain ⟨d1, d2, d3, d4, x0, d5, d6⟩ := deal_facts hI hne h0
  obtain ⟨⟨s0, s1, s2, s3, s4, s5, s6, s7, s8, s9, s10, s11, s12, s13, s14, s15, s16⟩, f4, f5, f6, f7, f8, f9, rK, rW, rM, rN⟩ := hB
  obtain ⟨i1, i2, i3, i4, i5, i6, i7, i8, i9, i10, i11, i12⟩ := hI
  obtain ⟨x, r, hx⟩ : ∃ x r, qN A = x :: r := by
    cases e : qN A with
    | nil => exact absurd e hne
    | cons x r => exact ⟨x, r, rfl⟩
  obtain ⟨x1, x2, x3⟩ := hq x (by rw [hx]; exact List.mem_cons_self ..)
  have c3 : 0 < (qN A).length := by rw [hx]; exact Nat.zero_lt_succ _
  have hl0 := rN 0 c3
  have e0 : (qN A).getD 0 0 = x := by rw [hx]; rfl
  rw [e0] at hl0
  have hw := rW x x1
  rw [wv_0 x2] at hw
  have hb0 : hdB A = qW A x := by unfold hdB; rw [hx]; rfl
  have hD : ∀ x, x ∈ hdD A → x ∈ qN A := fun x hx => by rw [← hd_split A]; exact List.mem_append_left _ hx
  have hRm : ∀ x, x ∈ hdR A → x ∈ qN A := fun x hx => by rw [← hd_split A]; exact List.mem_append_right _ hx
  have hcnt : cntB (qW A) (nI (qW A x)) (qN A) = (hdD A).length := by
    have e : cntB (qW A) (nI (qW A x)) (hdR A) = 0 := cntB_0 (fun z hz => ⟨(hq z (hRm z hz)).2.2, nI_lt (by rw [← hb0]; exact hR z hz) (by have := (hq z (hRm z hz)).2.2; omega)⟩)
    rw [← hd_split A, cnt_app, e, Nat.add_zero]
    exact cnt_all x3 (fun z hz => by rw [hdD_W z hz, hb0])
  have hnd := i7
  rw [← hd_split A] at hnd
  have hnd2 := List.nodup_append.mp hnd
  rw [e_116]
  simp (disch := omega) only [u_116_0, B_116_0, nI1T, Nat.left_eq_add, Nat.add_eq_left, Nat.add_eq_zero_iff, and_false, false_and, if_false, if_true, opsN, opsC, pm_1, lg, ls1, ls2, lq, List.length_cons, List.length_nil, cN, cL, callE, retV, retN, pm_pop, pm_cat, List.map_cons, List.map_nil, List.sum_cons, List.sum_nil, Value.category, Option.toList, List.cons_append, List.nil_append, reduceIte, reduceCtorEq, Nat.reduceAdd, Nat.reduceLT, Nat.reduceLeDiff, Nat.reduceSub, Nat.reduceEqDiff, Nat.zero_le, Nat.sub_zero, Nat.le_refl, true_and, and_true, not_true_eq_false, not_false_eq_true, true_or, or_true, lc_eq, lc_ne, lc_lt, lc_ge, lc_gt, lc_le, nI_add, lN_add, nI_leI, nI_ltI, nI_eq, nI_clamp, pk_lLT, pk_lLE, pk_lEQ, pk_sub, vp_inT, nz_eq, nz_lt, nz_ge, nz_gt, nz_le, lz_eq, lz_lt, lz_ge, hP1, hP2, hP3, hP4, hP5, hP6, hP7, hP8, hP9, hP10, hP11, hP12, hP13, hP14, hP15, hP16, hP17, hP18, hP19, hP20, s0, s1, s2, s3, s4, s5, s6, s7, s8, s9, s10, s11, s12, s13, s14, s15, f5, f6, f7, f8, f9, hl0, hw]
  refine c121 d hB0 hI0 ?_
  rw [hcnt]
  simp (disch := omega) only [nI1T, Nat.left_eq_add, Nat.add_eq_left, Nat.add_eq_zero_iff, and_false, false_and, if_false, if_true, opsN, opsC, pm_1, lg, ls1, ls2, lq, List.length_cons, List.length_nil, cN, cL, callE, retV, retN, pm_pop, pm_cat, List.map_cons, List.map_nil, List.sum_cons, List.sum_nil, Value.category, Option.toList, List.cons_append, List.nil_append, reduceIte, reduceCtorEq, Nat.reduceAdd, Nat.reduceLT, Nat.reduceLeDiff, Nat.reduceSub, Nat.reduceEqDiff, Nat.zero_le, Nat.sub_zero, Nat.le_refl, true_and, and_true, not_true_eq_false, not_false_eq_true, true_or, or_true, lc_eq, lc_ne, lc_lt, lc_ge, lc_gt, lc_le, nI_add, lN_add, nI_leI, nI_ltI, nI_eq, nI_clamp, pk_lLT, pk_lLE, pk_lEQ, pk_sub, vp_inT, nz_eq, nz_lt, nz_ge, nz_gt, nz_le, lz_eq, lz_lt, lz_ge, hP1, hP2, hP3, hP4, hP5, hP6, hP7, hP8, hP9, hP10, hP11, hP12, hP13, hP14, hP15, hP16, hP17, hP18, hP19, hP20, s0, s1, s2, s3, s4, s5, s6, s7, s8, s9, s10, s11, s12, s13, s14, s15, f5, f6, f7, f8, f9]
  refine c122 d hB0 hI0 hne ?_
  simp (disch := omega) only [nI1T, Nat.left_eq_add, Nat.add_eq_left, Nat.add_eq_zero_iff, and_false, false_and, if_false, if_true, opsN, opsC, pm_1, lg, ls1, ls2, lq, List.length_cons, List.length_nil, cN, cL, callE, retV, retN, pm_pop, pm_cat, List.map_cons, List.map_nil, List.sum_cons, List.sum_nil, Value.category, Option.toList, List.cons_append, List.nil_append, reduceIte, reduceCtorEq, Nat.reduceAdd, Nat.reduceLT, Nat.reduceLeDiff, Nat.reduceSub, Nat.reduceEqDiff, Nat.zero_le, Nat.sub_zero, Nat.le_refl, true_and, and_true, not_true_eq_false, not_false_eq_true, true_or, or_true, lc_eq, lc_ne, lc_lt, lc_ge, lc_gt, lc_le, nI_add, lN_add, nI_leI, nI_ltI, nI_eq, nI_clamp, pk_lLT, pk_lLE, pk_lEQ, pk_sub, vp_inT, nz_eq, nz_lt, nz_ge, nz_gt, nz_le, lz_eq, lz_lt, lz_ge, hP1, hP2, hP3, hP4, hP5, hP6, hP7, hP8, hP9, hP10, hP11, hP12, hP13, hP14, hP15, hP16, hP17, hP18, hP19, hP20, s0, s1, s2, s3, s4, s5, s6, s7, s8, s9, s10, s11, s12, s13, s14, s15, f5, f6, f7, f8, f9]
  have hB1 : isB (sL h b (va_up (hL h b) 7 (lN (minK (qK A) (hdD A))))) b cap bits limit (minK (qK A) (hdD A), qC A, qK A, qM A, qW A, qS A, [] ++ (hdD A ++ hdR A)) := by
    rw [hd_split]
    refine ⟨hs, f4, ?_, ?_, ?_, ?_, ?_, ?_, ?_, ?_, ?_⟩
    · simp only [hP1, hP2, hP3, hP4, hP5, hP6, hP7, hP8, hP9, hP10, hP11, hP12, hP13, hP14, hP15, hP16, hP17, hP18, hP19, hP20, va_upE, Nat.left_eq_add, Nat.add_eq_left, Nat.add_eq_zero_iff, Nat.reduceEqDiff, Nat.reduceAdd, reduceIte, and_false, false_and, if_false, if_true, reduceCtorEq, f5]
    · simp only [hP1, hP2, hP3, hP4, hP5, hP6, hP7, hP8, hP9, hP10, hP11, hP12, hP13, hP14, hP15, hP16, hP17, hP18, hP19, hP20, va_upE, Nat.left_eq_add, Nat.add_eq_left, Nat.add_eq_zero_iff, Nat.reduceEqDiff, Nat.reduceAdd, reduceIte, and_false, false_and, if_false, if_true, reduceCtorEq, f6]
    · simp only [hP1, hP2, hP3, hP4, hP5, hP6, hP7, hP8, hP9, hP10, hP11, hP12, hP13, hP14, hP15, hP16, hP17, hP18, hP19, hP20, va_upE, Nat.left_eq_add, Nat.add_eq_left, Nat.add_eq_zero_iff, Nat.reduceEqDiff, Nat.reduceAdd, reduceIte, and_false, false_and, if_false, if_true, reduceCtorEq]; rfl
    · simp only [hP1, hP2, hP3, hP4, hP5, hP6, hP7, hP8, hP9, hP10, hP11, hP12, hP13, hP14, hP15, hP16, hP17, hP18, hP19, hP20, va_upE, Nat.left_eq_add, Nat.add_eq_left, Nat.add_eq_zero_iff, Nat.reduceEqDiff, Nat.reduceAdd, reduceIte, and_false, false_and, if_false, if_true, reduceCtorEq, f8]; rfl
    · simp only [hP1, hP2, hP3, hP4, hP5, hP6, hP7, hP8, hP9, hP10, hP11, hP12, hP13, hP14, hP15, hP16, hP17, hP18, hP19, hP20, va_upE, Nat.left_eq_add, Nat.add_eq_left, Nat.add_eq_zero_iff, Nat.reduceEqDiff, Nat.reduceAdd, reduceIte, and_false, false_and, if_false, if_true, reduceCtorEq, f9]; rfl
    · intro i hi; simp only [hP1, hP2, hP3, hP4, hP5, hP6, hP7, hP8, hP9, hP10, hP11, hP12, hP13, hP14, hP15, hP16, hP17, hP18, hP19, hP20, va_upE, Nat.left_eq_add, Nat.add_eq_left, Nat.add_eq_zero_iff, Nat.reduceEqDiff, Nat.reduceAdd, reduceIte, and_false, false_and, if_false, if_true, reduceCtorEq]; exact rK i hi
    · intro i hi; simp only [hP1, hP2, hP3, hP4, hP5, hP6, hP7, hP8, hP9, hP10, hP11, hP12, hP13, hP14, hP15, hP16, hP17, hP18, hP19, hP20, va_upE, Nat.left_eq_add, Nat.add_eq_left, Nat.add_eq_zero_iff, Nat.reduceEqDiff, Nat.reduceAdd, reduceIte, and_false, false_and, if_false, if_true, reduceCtorEq]; exact rW i hi
    · intro i hi; simp only [hP1, hP2, hP3, hP4, hP5, hP6, hP7, hP8, hP9, hP10, hP11, hP12, hP13, hP14, hP15, hP16, hP17, hP18, hP19, hP20, va_upE, Nat.left_eq_add, Nat.add_eq_left, Nat.add_eq_zero_iff, Nat.reduceEqDiff, Nat.reduceAdd, reduceIte, and_false, false_and, if_false, if_true, reduceCtorEq]; exact rM i hi
    · intro i hi; simp only [hP1, hP2, hP3, hP4, hP5, hP6, hP7, hP8, hP9, hP10, hP11, hP12, hP13, hP14, hP15, hP16, hP17, hP18, hP19, hP20, va_upE, Nat.left_eq_add, Nat.add_eq_left, Nat.add_eq_zero_iff, Nat.reduceEqDiff, Nat.reduceAdd, reduceIte, and_false, false_and, if_false, if_true, reduceCtorEq]; exact rN i hi
  have := l116 d i1 i2 d2 i3 f4 s16 (hdD A) (qM A) (qW A) [] _ none Q hB1 (by rw [List.append_nil]; exact hnd2.1) List.Pairwise.nil (by
    intro z hz
    rw [List.append_nil] at hz
    have a := hq z (hD z hz)
    exact ⟨a.1, a.2.1, i6 z a.1⟩) (fun z hz => absurd hz List.not_mem_nil) (by
    show (hdD A ++ hdR A).length ≤ qC A
    rw [hd_split]; exact i11) (by
    intro h' hB' hU' hf'
    refine hQ h' hB' (fun U hU => hU' U ?_) (fr_trans (fr_sL (fr_refl _ _ _) (by omega) (by omega)) hf')
    intro k hk
    simp only [hP1, hP2, hP3, hP4, hP5, hP6, hP7, hP8, hP9, hP10, hP11, hP12, hP13, hP14, hP15, hP16, hP17, hP18, hP19, hP20, va_upE, Nat.left_eq_add, Nat.add_eq_left, Nat.add_eq_zero_iff, Nat.reduceEqDiff, Nat.reduceAdd, reduceIte, and_false, false_and, if_false, if_true, reduceCtorEq]
    exact hU k hk)
  rw [List.length_nil, Nat.zero_add] at this
  exact this
def rdyU (bits : Nat) (A : Qs) (U : Nat → Bool) : Nat → Bool := if hdB A = 0 then U else dltU bits (minK (qK A) (hdD A)) (qK A) (hdD A) U
theorem c110e (d : Nat) {h : pm_H} {b cap bits limit : Nat} {A : Qs} {Q : pm_Q} (hB : isB h b cap bits limit A) (hne : qN A = []) (hQ : Q (.inl (some (.int (-nI 1)))) h) : pm_M PP (d + 1) 110 [.ref b] h Q := by
  obtain ⟨⟨s0, s1, s2, s3, s4, s5, s6, s7, s8, s9, s10, s11, s12, s13, s14, s15, s16⟩, f4, f5, f6, f7, f8, f9, rK, rW, rM, rN⟩ := hB
  have c0 : (qN A).length = 0 := by rw [hne]; rfl
  rw [c0] at f9
  rw [e_110]
  simp (disch := omega) only [u_110_0, B_110_0, nI1T, Nat.left_eq_add, Nat.add_eq_left, Nat.add_eq_zero_iff, and_false, false_and, if_false, if_true, opsN, opsC, pm_1, lg, ls1, ls2, lq, List.length_cons, List.length_nil, cN, cL, callE, retV, retN, pm_pop, pm_cat, List.map_cons, List.map_nil, List.sum_cons, List.sum_nil, Value.category, Option.toList, List.cons_append, List.nil_append, reduceIte, reduceCtorEq, Nat.reduceAdd, Nat.reduceLT, Nat.reduceLeDiff, Nat.reduceSub, Nat.reduceEqDiff, Nat.zero_le, Nat.sub_zero, Nat.le_refl, true_and, and_true, not_true_eq_false, not_false_eq_true, true_or, or_true, lc_eq, lc_ne, lc_lt, lc_ge, lc_gt, lc_le, nI_add, lN_add, nI_leI, nI_ltI, nI_eq, nI_clamp, pk_lLT, pk_lLE, pk_lEQ, pk_sub, vp_inT, nz_eq, nz_lt, nz_ge, nz_gt, nz_le, lz_eq, lz_lt, lz_ge, hP1, hP2, hP3, hP4, hP5, hP6, hP7, hP8, hP9, hP10, hP11, hP12, hP13, hP14, hP15, hP16, hP17, hP18, hP19, hP20, s0, s1, s2, s3, s4, s5, s6, s7, s8, s9, s10, s11, s12, s13, s14, s15, f5, f6, f7, f8, f9, hQ]
theorem x110 (d : Nat) {h h0 : pm_H} {b cap bits limit : Nat} {A : Qs} {Q : pm_Q} {x1 : Option Value} (hB : isB h b cap bits limit A) (hI : qI bits limit A) (hne : qN A ≠ [])
    (hQ : ∀ h', isB h' b cap bits limit (qL A, qC A, qK A, qM A, qW A, va_up (qS A) ((qN A).headD 0) 1, (qN A).tail) → (∀ U, isF h b U → isF h' b U) → fr b (b + 6) h h' → Q (.inl (some (.int (nI ((qN A).headD 0))))) h') :
    pm_W PP (d + 1) 110 Q 0 0 27 [some (.ref b), x1] [] h := by
  have hs := hB.1
  have hB0 := hB
  have hq := qI_line hI
  obtain ⟨⟨s0, s1, s2, s3, s4, s5, s6, s7, s8, s9, s10, s11, s12, s13, s14, s15, s16⟩, f4, f5, f6, f7, f8, f9, rK, rW, rM, rN⟩ := hB
  obtain ⟨i1, i2, i3, i4, i5, i6, i7, i8, i9, i10, i11, i12⟩ := hI
  obtain ⟨x, r, hx⟩ : ∃ x r, qN A = x :: r := by
    cases e : qN A with
    | nil => exact absurd e hne
    | cons x r => exact ⟨x, r, rfl⟩
  obtain ⟨y1, y2, y3⟩ := hq x (by rw [hx]; exact List.mem_cons_self ..)
  have c3 : 0 < (qN A).length := by rw [hx]; exact Nat.zero_lt_succ _
  have hl0 := rN 0 c3
  have e0 : (qN A).getD 0 0 = x := by rw [hx]; rfl
  rw [e0] at hl0
  simp (disch := omega) only [u_110_27, B_110_27, nI1T, Nat.left_eq_add, Nat.add_eq_left, Nat.add_eq_zero_iff, and_false, false_and, if_false, if_true, opsN, opsC, pm_1, lg, ls1, ls2, lq, List.length_cons, List.length_nil, cN, cL, callE, retV, retN, pm_pop, pm_cat, List.map_cons, List.map_nil, List.sum_cons, List.sum_nil, Value.category, Option.toList, List.cons_append, List.nil_append, reduceIte, reduceCtorEq, Nat.reduceAdd, Nat.reduceLT, Nat.reduceLeDiff, Nat.reduceSub, Nat.reduceEqDiff, Nat.zero_le, Nat.sub_zero, Nat.le_refl, true_and, and_true, not_true_eq_false, not_false_eq_true, true_or, or_true, lc_eq, lc_ne, lc_lt, lc_ge, lc_gt, lc_le, nI_add, lN_add, nI_leI, nI_ltI, nI_eq, nI_clamp, pk_lLT, pk_lLE, pk_lEQ, pk_sub, vp_inT, nz_eq, nz_lt, nz_ge, nz_gt, nz_le, lz_eq, lz_lt, lz_ge, hP1, hP2, hP3, hP4, hP5, hP6, hP7, hP8, hP9, hP10, hP11, hP12, hP13, hP14, hP15, hP16, hP17, hP18, hP19, hP20, s0, s1, s2, s3, s4, s5, s6, s7, s8, s9, s10, s11, s12, s13, s14, s15, f5, f6, f7, f8, f9, hl0]
  refine c117 d (j := 0) hs f9 (by omega) c3 ?_
  have hB2 := lv_isB (pre := []) hB0 hx
  simp (disch := omega) only [nI1T, Nat.left_eq_add, Nat.add_eq_left, Nat.add_eq_zero_iff, and_false, false_and, if_false, if_true, opsN, opsC, pm_1, lg, ls1, ls2, lq, List.length_cons, List.length_nil, cN, cL, callE, retV, retN, pm_pop, pm_cat, List.map_cons, List.map_nil, List.sum_cons, List.sum_nil, Value.category, Option.toList, List.cons_append, List.nil_append, reduceIte, reduceCtorEq, Nat.reduceAdd, Nat.reduceLT, Nat.reduceLeDiff, Nat.reduceSub, Nat.reduceEqDiff, Nat.zero_le, Nat.sub_zero, Nat.le_refl, true_and, and_true, not_true_eq_false, not_false_eq_true, true_or, or_true, lc_eq, lc_ne, lc_lt, lc_ge, lc_gt, lc_le, nI_add, lN_add, nI_leI, nI_ltI, nI_eq, nI_clamp, pk_lLT, pk_lLE, pk_lEQ, pk_sub, vp_inT, nz_eq, nz_lt, nz_ge, nz_gt, nz_le, lz_eq, lz_lt, lz_ge, hP1, hP2, hP3, hP4, hP5, hP6, hP7, hP8, hP9, hP10, hP11, hP12, hP13, hP14, hP15, hP16, hP17, hP18, hP19, hP20]
  obtain ⟨⟨t0, t1, t2, t3, t4, t5, t6, t7, t8, t9, t10, t11, t12, t13, t14, t15, t16⟩, k4, k5, k6, k7, k8, k9, _⟩ := id hB2
  simp only [List.length_nil] at t0 t1 t2 t3 t4 t5 t6 t7 t8 t9 t10 t11 t12 t13 t14 t15
  simp (disch := omega) only [nI1T, Nat.left_eq_add, Nat.add_eq_left, Nat.add_eq_zero_iff, and_false, false_and, if_false, if_true, opsN, opsC, pm_1, lg, ls1, ls2, lq, List.length_cons, List.length_nil, cN, cL, callE, retV, retN, pm_pop, pm_cat, List.map_cons, List.map_nil, List.sum_cons, List.sum_nil, Value.category, Option.toList, List.cons_append, List.nil_append, reduceIte, reduceCtorEq, Nat.reduceAdd, Nat.reduceLT, Nat.reduceLeDiff, Nat.reduceSub, Nat.reduceEqDiff, Nat.zero_le, Nat.sub_zero, Nat.le_refl, true_and, and_true, not_true_eq_false, not_false_eq_true, true_or, or_true, lc_eq, lc_ne, lc_lt, lc_ge, lc_gt, lc_le, nI_add, lN_add, nI_leI, nI_ltI, nI_eq, nI_clamp, pk_lLT, pk_lLE, pk_lEQ, pk_sub, vp_inT, nz_eq, nz_lt, nz_ge, nz_gt, nz_le, lz_eq, lz_lt, lz_ge, hP1, hP2, hP3, hP4, hP5, hP6, hP7, hP8, hP9, hP10, hP11, hP12, hP13, hP14, hP15, hP16, hP17, hP18, hP19, hP20, t0, t1, t2, t3, t4, t5, t6, t7, t8, t9, t10, t11, t12, t13, t14, t15, va_upE]
  have e1 : (qN A).headD 0 = x := by rw [hx]; rfl
  have e2 : (qN A).tail = r := by rw [hx]; rfl
  rw [e1, e2] at hQ
  refine hQ _ ?_ (fun U hU => hU) (fr_sI lv_fr (by omega) (by omega))
  exact st_isB (i := x) (s := 1) hB2 (.inl rfl)
theorem c110t (d : Nat) {h : pm_H} {b cap bits limit : Nat} {A : Qs} {Q : pm_Q} (hB : isB h b cap bits limit A) (hI : qI bits limit A) (hne : qN A ≠ [])
    (hQ : ∀ h', isB h' b cap bits limit (qTake bits A) → (∀ U, isF h b U → isF h' b (rdyU bits A U)) → fr b (b + 6) h h' → Q (.inl (some (.int (nI (qTop bits A))))) h') : pm_M PP (d + 3) 110 [.ref b] h Q := by
  have hs := hB.1
  have hB0 := hB
  have hI0 := hI
  have hq := qI_line hI
  obtain ⟨z1, z2, z3, z4, z5, z6⟩ := rdy_spec hI hne
  obtain ⟨⟨s0, s1, s2, s3, s4, s5, s6, s7, s8, s9, s10, s11, s12, s13, s14, s15, s16⟩, f4, f5, f6, f7, f8, f9, rK, rW, rM, rN⟩ := hB
  obtain ⟨i1, i2, i3, i4, i5, i6, i7, i8, i9, i10, i11, i12⟩ := hI
  obtain ⟨x, r, hx⟩ : ∃ x r, qN A = x :: r := by
    cases e : qN A with
    | nil => exact absurd e hne
    | cons x r => exact ⟨x, r, rfl⟩
  obtain ⟨y1, y2, y3⟩ := hq x (by rw [hx]; exact List.mem_cons_self ..)
  have c3 : 0 < (qN A).length := by rw [hx]; exact Nat.zero_lt_succ _
  have c0 : ¬ (qN A).length = 0 := by omega
  have hl0 := rN 0 c3
  have e0 : (qN A).getD 0 0 = x := by rw [hx]; rfl
  rw [e0] at hl0
  have hw := rW x y1
  rw [wv_0 y2] at hw
  have hb0 : hdB A = qW A x := by unfold hdB; rw [hx]; rfl
  rw [e_110]
  by_cases e : qW A x = 0
  · simp (disch := omega) only [u_110_0, B_110_0, u_110_9, B_110_9, nI1T, Nat.left_eq_add, Nat.add_eq_left, Nat.add_eq_zero_iff, and_false, false_and, if_false, if_true, opsN, opsC, pm_1, lg, ls1, ls2, lq, List.length_cons, List.length_nil, cN, cL, callE, retV, retN, pm_pop, pm_cat, List.map_cons, List.map_nil, List.sum_cons, List.sum_nil, Value.category, Option.toList, List.cons_append, List.nil_append, reduceIte, reduceCtorEq, Nat.reduceAdd, Nat.reduceLT, Nat.reduceLeDiff, Nat.reduceSub, Nat.reduceEqDiff, Nat.zero_le, Nat.sub_zero, Nat.le_refl, true_and, and_true, not_true_eq_false, not_false_eq_true, true_or, or_true, lc_eq, lc_ne, lc_lt, lc_ge, lc_gt, lc_le, nI_add, lN_add, nI_leI, nI_ltI, nI_eq, nI_clamp, pk_lLT, pk_lLE, pk_lEQ, pk_sub, vp_inT, nz_eq, nz_lt, nz_ge, nz_gt, nz_le, lz_eq, lz_lt, lz_ge, hP1, hP2, hP3, hP4, hP5, hP6, hP7, hP8, hP9, hP10, hP11, hP12, hP13, hP14, hP15, hP16, hP17, hP18, hP19, hP20, s0, s1, s2, s3, s4, s5, s6, s7, s8, s9, s10, s11, s12, s13, s14, s15, f5, f6, f7, f8, f9, c0, hl0, hw, e]
    have er : qRdy bits A = A := by unfold qRdy; rw [if_pos (by rw [hb0]; exact e)]
    refine x110 (d + 1) (h0 := h) hB0 hI0 hne ?_
    intro h' hB' hU' hf'
    have := hQ h' (by unfold qTake; rw [er]; exact hB') (fun U hU => by unfold rdyU; rw [if_pos (by rw [hb0]; exact e)]; exact hU' U hU) hf'
    unfold qTop at this
    rw [er] at this
    exact this
  · simp (disch := omega) only [u_110_0, B_110_0, u_110_9, B_110_9, nI1T, Nat.left_eq_add, Nat.add_eq_left, Nat.add_eq_zero_iff, and_false, false_and, if_false, if_true, opsN, opsC, pm_1, lg, ls1, ls2, lq, List.length_cons, List.length_nil, cN, cL, callE, retV, retN, pm_pop, pm_cat, List.map_cons, List.map_nil, List.sum_cons, List.sum_nil, Value.category, Option.toList, List.cons_append, List.nil_append, reduceIte, reduceCtorEq, Nat.reduceAdd, Nat.reduceLT, Nat.reduceLeDiff, Nat.reduceSub, Nat.reduceEqDiff, Nat.zero_le, Nat.sub_zero, Nat.le_refl, true_and, and_true, not_true_eq_false, not_false_eq_true, true_or, or_true, lc_eq, lc_ne, lc_lt, lc_ge, lc_gt, lc_le, nI_add, lN_add, nI_leI, nI_ltI, nI_eq, nI_clamp, pk_lLT, pk_lLE, pk_lEQ, pk_sub, vp_inT, nz_eq, nz_lt, nz_ge, nz_gt, nz_le, lz_eq, lz_lt, lz_ge, hP1, hP2, hP3, hP4, hP5, hP6, hP7, hP8, hP9, hP10, hP11, hP12, hP13, hP14, hP15, hP16, hP17, hP18, hP19, hP20, s0, s1, s2, s3, s4, s5, s6, s7, s8, s9, s10, s11, s12, s13, s14, s15, f5, f6, f7, f8, f9, c0, hl0, hw, e]
    have hne0 : ¬ hdB A = 0 := by rw [hb0]; exact e
    have er : qRdy bits A = qDeal bits A := by unfold qRdy; rw [if_neg hne0]
    refine c116 d hB0 hI0 hne (by omega) ?_
    intro h1 hB1 hU1 hf1
    simp (disch := omega) only [nI1T, Nat.left_eq_add, Nat.add_eq_left, Nat.add_eq_zero_iff, and_false, false_and, if_false, if_true, opsN, opsC, pm_1, lg, ls1, ls2, lq, List.length_cons, List.length_nil, cN, cL, callE, retV, retN, pm_pop, pm_cat, List.map_cons, List.map_nil, List.sum_cons, List.sum_nil, Value.category, Option.toList, List.cons_append, List.nil_append, reduceIte, reduceCtorEq, Nat.reduceAdd, Nat.reduceLT, Nat.reduceLeDiff, Nat.reduceSub, Nat.reduceEqDiff, Nat.zero_le, Nat.sub_zero, Nat.le_refl, true_and, and_true, not_true_eq_false, not_false_eq_true, true_or, or_true, lc_eq, lc_ne, lc_lt, lc_ge, lc_gt, lc_le, nI_add, lN_add, nI_leI, nI_ltI, nI_eq, nI_clamp, pk_lLT, pk_lLE, pk_lEQ, pk_sub, vp_inT, nz_eq, nz_lt, nz_ge, nz_gt, nz_le, lz_eq, lz_lt, lz_ge, hP1, hP2, hP3, hP4, hP5, hP6, hP7, hP8, hP9, hP10, hP11, hP12, hP13, hP14, hP15, hP16, hP17, hP18, hP19, hP20]
    rw [er] at z1 z3
    refine x110 (d + 1) (h0 := h) hB1 z1 z3 ?_
    intro h' hB' hU' hf'
    have := hQ h' (by unfold qTake; rw [er]; exact hB') (fun U hU => by unfold rdyU; rw [if_neg hne0]; exact hU' _ (hU1 U hU)) (fr_trans hf1 hf')
    unfold qTop at this
    rw [er] at this
    exact this
