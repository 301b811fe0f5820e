/-! ===== feed ===== -/
/-- byte j of a number, the highest first -/
def bt (v : Int32) (s : Nat) : Nat := v.toBitVec.toNat / 2 ^ s % 256
theorem bt_lt (v : Int32) (s : Nat) : bt v s < 256 := Nat.mod_lt _ (by decide)
theorem i8_nat (x : Int32) : x.toInt8.toBitVec.toNat = x.toBitVec.toNat % 256 := by
  show (x.toBitVec.signExtend 8).toNat = _
  rw [BitVec.signExtend_eq_setWidth_of_le _ (by decide), BitVec.toNat_setWidth]
theorem i8_eq {x y : Int32} (h : x.toBitVec.toNat % 256 = y.toBitVec.toNat % 256) : x.toInt8 = y.toInt8 := by
  apply Int8.toBitVec_inj.mp
  apply BitVec.eq_of_toNat_eq
  rw [i8_nat, i8_nat, h]
theorem nI_nat {n : Nat} (h : n < 2 ^ 32) : (nI n).toBitVec.toNat = n := by
  show (BitVec.ofNat 32 n).toNat = n
  rw [BitVec.toNat_ofNat, Nat.mod_eq_of_lt h]
theorem ush_c : ∀ s, s < 32 → (((nI s).toUInt32 &&& Int32.toUInt32 31).toBitVec % 32).toNat = s := by decide +kernel
theorem shr_c : ∀ s, s < 32 → ((nI s &&& 31).toBitVec.smod 32).toNat = s := by decide +kernel
/-- as the class writes it -/
theorem bt_c (v : Int32) {s : Nat} (hs : s < 32) : (v.toUInt32 >>> ((nI s).toUInt32 &&& Int32.toUInt32 31)).toInt32.toInt8.toInt32.toInt8.toInt32 = bI (bt v s) := by
  have e : (v.toUInt32 >>> ((nI s).toUInt32 &&& Int32.toUInt32 31)).toInt32.toInt8 = (nI (bt v s)).toInt8 := by
    apply i8_eq
    rw [pk_ushr v (nI s) s (ush_c s hs), nI_nat (by have := bt_lt v s; omega)]
    unfold bt
    rw [Nat.mod_mod]
  unfold bI
  rw [e, Int8.toInt8_toInt32]
/-- as the reference writes it -/
theorem bt_m (v : Int32) {s : Nat} (hs : s = 0 ∨ s = 8 ∨ s = 16 ∨ s = 24) : (v >>> (nI s &&& 31)) &&& nI 255 = nI (bt v s) := by
  rw [pk_and _ 8 (by decide)]
  congr 1
  have h1 := pk_shr v (nI s &&& 31) s (shr_c s (by omega))
  have h2 : (v >>> (nI s &&& 31)).toInt = (v >>> (nI s &&& 31)).toBitVec.toInt := rfl
  have h3 : v.toInt = v.toBitVec.toInt := rfl
  rw [h2, h3, Int.shiftRight_eq_div_pow, BitVec.toInt_eq_toNat_cond, BitVec.toInt_eq_toNat_cond] at h1
  have b1 := (v >>> (nI s &&& 31)).toBitVec.isLt
  have b2 := v.toBitVec.isLt
  unfold bt
  rcases hs with e | e | e | e <;> subst e
  · split at h1 <;> split at h1 <;> omega
  · split at h1 <;> split at h1 <;> omega
  · split at h1 <;> split at h1 <;> omega
  · split at h1 <;> split at h1 <;> omega
theorem getD_apN {L : List Nat} {y j : Nat} (hj : j < L.length) : (L ++ [y]).getD j 0 = L.getD j 0 := by
  rw [List.getD_eq_getElem?_getD, List.getElem?_append_left hj, ← List.getD_eq_getElem?_getD]
theorem getD_laN {L : List Nat} {y : Nat} : (L ++ [y]).getD L.length 0 = y := by
  rw [List.getD_eq_getElem?_getD, List.getElem?_append_right (Nat.le_refl _), Nat.sub_self]; rfl
/-- only the tape's own rows changed, and of its numbers only those named -/
def frT (t : Nat) (F : Nat → Prop) (h h' : pm_H) : Prop := hT h' = hT h ∧ hN h' = hN h ∧ hR h' = hR h ∧ hn h' = hn h ∧ hL h' = hL h ∧ (∀ k, k ≠ t → k ≠ t + 1 → hI h' k = hI h k) ∧ ∀ j, ¬ F j → hI h' t j = hI h t j
theorem frT_trans {t : Nat} {F : Nat → Prop} {h h1 h2 : pm_H} (a : frT t F h h1) (b : frT t F h1 h2) : frT t F h h2 :=
  ⟨b.1.trans a.1, b.2.1.trans a.2.1, b.2.2.1.trans a.2.2.1, b.2.2.2.1.trans a.2.2.2.1, b.2.2.2.2.1.trans a.2.2.2.2.1, fun k q1 q2 => (b.2.2.2.2.2.1 k q1 q2).trans (a.2.2.2.2.2.1 k q1 q2), fun j q => (b.2.2.2.2.2.2 j q).trans (a.2.2.2.2.2.2 j q)⟩
theorem x802 (d : Nat) {h : pm_H} {t s : Nat} {T : List Nat} {F : Option Nat} {v s' : Int32} {Q : pm_Q} (hs : tpS h t) (hT1 : cTp h t T F) (hl : T.length < 500) (hs1 : s < 32) (hs2 : nI s + -nI 8 = s')
    (hQ : ∀ h', tpS h' t → cTp h' t (T ++ [bt v s]) F → frT t (fun j => j = 1) h h' → pm_W PP d 802 Q 0 0 3 [some (.ref t), some (.int v), some (.int s')] [] h') :
    pm_W PP d 802 Q 0 0 3 [some (.ref t), some (.int v), some (.int (nI s))] [] h := by
  obtain ⟨s0, s1, s2, s3⟩ := hs
  obtain ⟨a1, a2, a3⟩ := hT1
  have c : ¬ 500 ≤ T.length := by omega
  rw [u_802_3]
  simp (disch := omega) only [B_802_3, nI1T, Nat.left_eq_add, Nat.add_eq_left, Nat.add_eq_zero_iff, and_false, false_and, if_false, if_true, opsN, opsC, pm_1, lg, ls1, ls2, lq, List.length_cons, List.length_nil, cN, cL, callE, retV, retN, pm_pop, pm_cat, List.map_cons, List.map_nil, List.sum_cons, List.sum_nil, Value.category, Option.toList, List.cons_append, List.nil_append, ↓reduceIte, reduceCtorEq, Nat.reduceAdd, Nat.reduceLT, Nat.reduceLeDiff, Nat.reduceSub, Nat.reduceEqDiff, Nat.zero_le, Nat.sub_zero, Nat.le_refl, true_and, and_true, not_true_eq_false, not_false_eq_true, true_or, or_true, lc_eq, lc_ne, lc_lt, lc_ge, lc_gt, lc_le, nI_add, lN_add, nI_leI, nI_ltI, nI_eq, nI_clamp, pk_lLT, pk_lLE, pk_lEQ, pk_sub, vp_inT, nz_eq, nz_lt, nz_ge, nz_gt, nz_le, lz_eq, lz_lt, lz_ge, hP1, hP2, hP3, hP4, hP5, hP6, hP7, hP8, hP9, hP10, hP11, hP12, hP13, hP14, hP15, hP16, hP17, hP18, hP19, hP20, s0, s1, s2, s3, a1, c, hs2, bt_c v hs1, va_upE]
  refine hQ _ ⟨s0, s1, s2, s3⟩ ⟨?_, ?_, fun i hi => ?_⟩ ⟨rfl, rfl, rfl, rfl, rfl, fun k q1 q2 => ?_, fun j q => ?_⟩
  · rw [hP1, va_up_self, va_up_self, List.length_append]; rfl
  · rw [hP1, va_up_self, va_up_ne _ _ (by omega)]; exact a2
  · rw [List.length_append] at hi
    have hi : i < T.length + 1 := hi
    rw [hP1, va_up_ne _ _ (by omega), hP1, va_up_self, va_upE]
    by_cases e : i = T.length
    · rw [if_pos e, e, getD_laN]
    · rw [if_neg e, getD_apN (by omega)]; exact a3 i (by omega)
  · rw [hP1, va_up_ne _ _ q1, hP1, va_up_ne _ _ q2]
  · rw [hP1, va_up_self, va_up_ne _ _ q]
def bts (v : Int32) : List Nat := [bt v 24, bt v 16, bt v 8, bt v 0]
theorem c802 (d : Nat) {h : pm_H} {t : Nat} {T : List Nat} {F : Option Nat} {v : Int32} {Q : pm_Q} (hs : tpS h t) (hT1 : cTp h t T F) (hl : T.length + 4 ≤ 500)
    (hQ : ∀ h', tpS h' t → cTp h' t (T ++ bts v) F → frT t (fun j => j = 1) h h' → Q (.inl (some (.int (nI (T.length + 4))))) h') : pm_M PP (d + 1) 802 [.ref t, .int v] h Q := by
  rw [e_802]
  simp (disch := omega) only [u_802_0, B_802_0, nI1T, Nat.left_eq_add, Nat.add_eq_left, Nat.add_eq_zero_iff, and_false, false_and, if_false, if_true, opsN, opsC, pm_1, lg, ls1, ls2, lq, List.length_cons, List.length_nil, cN, cL, callE, retV, retN, pm_pop, pm_cat, List.map_cons, List.map_nil, List.sum_cons, List.sum_nil, Value.category, Option.toList, List.cons_append, List.nil_append, ↓reduceIte, reduceCtorEq, Nat.reduceAdd, Nat.reduceLT, Nat.reduceLeDiff, Nat.reduceSub, Nat.reduceEqDiff, Nat.zero_le, Nat.sub_zero, Nat.le_refl, true_and, and_true, not_true_eq_false, not_false_eq_true, true_or, or_true, lc_eq, lc_ne, lc_lt, lc_ge, lc_gt, lc_le, nI_add, lN_add, nI_leI, nI_ltI, nI_eq, nI_clamp, pk_lLT, pk_lLE, pk_lEQ, pk_sub, vp_inT, nz_eq, nz_lt, nz_ge, nz_gt, nz_le, lz_eq, lz_lt, lz_ge, hP1, hP2, hP3, hP4, hP5, hP6, hP7, hP8, hP9, hP10, hP11, hP12, hP13, hP14, hP15, hP16, hP17, hP18, hP19, hP20]
  refine x802 d (s := 24) (s' := nI 16) hs hT1 (by omega) (by decide) (by decide) ?_
  intro h1 k1 k2 k3
  refine x802 d (s := 16) (s' := nI 8) k1 k2 (by rw [List.length_append]; show T.length + 1 < 500; omega) (by decide) (by decide) ?_
  intro h2 l1 l2 l3
  refine x802 d (s := 8) (s' := nI 0) l1 l2 (by rw [List.length_append, List.length_append]; show T.length + 1 + 1 < 500; omega) (by decide) (by decide) ?_
  intro h3 m1 m2 m3
  refine x802 d (s := 0) (s' := -nI 8) m1 m2 (by rw [List.length_append, List.length_append, List.length_append]; show T.length + 1 + 1 + 1 < 500; omega) (by decide) (by decide) ?_
  intro h4 n1 n2 n3
  have e : T ++ [bt v 24] ++ [bt v 16] ++ [bt v 8] ++ [bt v 0] = T ++ bts v := by simp [bts]
  rw [e] at n2
  have e1 := n2.1
  have el : (T ++ bts v).length = T.length + 4 := by rw [List.length_append]; rfl
  rw [el] at e1
  have c : (-nI 8 < (0 : Int32)) = True := by decide
  rw [u_802_3]
  simp (disch := omega) only [B_802_3, u_802_46, B_802_46, nI1T, Nat.left_eq_add, Nat.add_eq_left, Nat.add_eq_zero_iff, and_false, false_and, if_false, if_true, opsN, opsC, pm_1, lg, ls1, ls2, lq, List.length_cons, List.length_nil, cN, cL, callE, retV, retN, pm_pop, pm_cat, List.map_cons, List.map_nil, List.sum_cons, List.sum_nil, Value.category, Option.toList, List.cons_append, List.nil_append, ↓reduceIte, reduceCtorEq, Nat.reduceAdd, Nat.reduceLT, Nat.reduceLeDiff, Nat.reduceSub, Nat.reduceEqDiff, Nat.zero_le, Nat.sub_zero, Nat.le_refl, true_and, and_true, not_true_eq_false, not_false_eq_true, true_or, or_true, lc_eq, lc_ne, lc_lt, lc_ge, lc_gt, lc_le, nI_add, lN_add, nI_leI, nI_ltI, nI_eq, nI_clamp, pk_lLT, pk_lLE, pk_lEQ, pk_sub, vp_inT, nz_eq, nz_lt, nz_ge, nz_gt, nz_le, lz_eq, lz_lt, lz_ge, hP1, hP2, hP3, hP4, hP5, hP6, hP7, hP8, hP9, hP10, hP11, hP12, hP13, hP14, hP15, hP16, hP17, hP18, hP19, hP20, c, n1.1, e1]
  exact hQ h4 n1 n2 (frT_trans k3 (frT_trans l3 (frT_trans m3 n3)))
def fdB (a b c d e : Int32) : List Nat := bts a ++ bts b ++ bts c ++ bts d ++ bts e
section FD
variable {h : pm_H} {x m : Nat} {G : Gs} {Q : pm_Q}
theorem c901e (dd : Nat) {a b c d e : Int32} (hC : CI h x G) (hl : ¬ G.2.2.2.2.1.length + 20 ≤ 500) (hl5 : G.2.2.2.2.1.length ≤ 500) (hQ : Q (.inl (some (.int (-nI 1)))) h) : pm_M PP (dd + 2) 901 [.ref x, .int a, .int b, .int c, .int d, .int e] h Q := by
  have hs := hC.2.2.1
  have t1 := hs.2.1
  have t2 := hs.2.2.2.2.2.2.2.2.2.2.1
  have t3 := hC.2.2.2.1.1
  have hx := hs.1
  have c1 : 500 < G.2.2.2.2.1.length + 20 := by omega
  rw [e_901]
  simp (disch := omega) only [u_901_0, B_901_0, nI1T, Nat.left_eq_add, Nat.add_eq_left, Nat.add_eq_zero_iff, and_false, false_and, if_false, if_true, opsN, opsC, pm_1, lg, ls1, ls2, lq, List.length_cons, List.length_nil, cN, cL, callE, retV, retN, pm_pop, pm_cat, List.map_cons, List.map_nil, List.sum_cons, List.sum_nil, Value.category, Option.toList, List.cons_append, List.nil_append, ↓reduceIte, reduceCtorEq, Nat.reduceAdd, Nat.reduceLT, Nat.reduceLeDiff, Nat.reduceSub, Nat.reduceEqDiff, Nat.zero_le, Nat.sub_zero, Nat.le_refl, true_and, and_true, not_true_eq_false, not_false_eq_true, true_or, or_true, lc_eq, lc_ne, lc_lt, lc_ge, lc_gt, lc_le, nI_add, lN_add, nI_leI, nI_ltI, nI_eq, nI_clamp, pk_lLT, pk_lLE, pk_lEQ, pk_sub, vp_inT, nz_eq, nz_lt, nz_ge, nz_gt, nz_le, lz_eq, lz_lt, lz_ge, hP1, hP2, hP3, hP4, hP5, hP6, hP7, hP8, hP9, hP10, hP11, hP12, hP13, hP14, hP15, hP16, hP17, hP18, hP19, hP20, hx, t1, t2.1]
  rw [e_801]
  simp (disch := omega) only [u_801_0, B_801_0, u_801_17, B_801_17, u_801_18, B_801_18, nI1T, Nat.left_eq_add, Nat.add_eq_left, Nat.add_eq_zero_iff, and_false, false_and, if_false, if_true, opsN, opsC, pm_1, lg, ls1, ls2, lq, List.length_cons, List.length_nil, cN, cL, callE, retV, retN, pm_pop, pm_cat, List.map_cons, List.map_nil, List.sum_cons, List.sum_nil, Value.category, Option.toList, List.cons_append, List.nil_append, ↓reduceIte, reduceCtorEq, Nat.reduceAdd, Nat.reduceLT, Nat.reduceLeDiff, Nat.reduceSub, Nat.reduceEqDiff, Nat.zero_le, Nat.sub_zero, Nat.le_refl, true_and, and_true, not_true_eq_false, not_false_eq_true, true_or, or_true, lc_eq, lc_ne, lc_lt, lc_ge, lc_gt, lc_le, nI_add, lN_add, nI_leI, nI_ltI, nI_eq, nI_clamp, pk_lLT, pk_lLE, pk_lEQ, pk_sub, vp_inT, nz_eq, nz_lt, nz_ge, nz_gt, nz_le, lz_eq, lz_lt, lz_ge, hP1, hP2, hP3, hP4, hP5, hP6, hP7, hP8, hP9, hP10, hP11, hP12, hP13, hP14, hP15, hP16, hP17, hP18, hP19, hP20, t2.1, t3, c1]
  exact hQ
theorem c901 (dd : Nat) {a b c d e : Int32} (hC : CI h x G) (hl : G.2.2.2.2.1.length + 20 ≤ 500)
    (hQ : ∀ h', tpS h' (x + 32) → cTp h' (x + 32) (G.2.2.2.2.1 ++ fdB a b c d e) G.2.2.2.2.2.1 → frT (x + 32) (fun j => j = 1) h h' → Q (.inl (some (.int (nI (G.2.2.2.2.1.length + 20))))) h') : pm_M PP (dd + 2) 901 [.ref x, .int a, .int b, .int c, .int d, .int e] h Q := by
  have hs := hC.2.2.1
  have t1 := hs.2.1
  have t2 := hs.2.2.2.2.2.2.2.2.2.2.1
  have hT3 := hC.2.2.2.1
  have t3 := hT3.1
  have hx := hs.1
  have c1 : ¬ 500 < G.2.2.2.2.1.length + 20 := by omega
  rw [e_901]
  simp (disch := omega) only [u_901_0, B_901_0, nI1T, Nat.left_eq_add, Nat.add_eq_left, Nat.add_eq_zero_iff, and_false, false_and, if_false, if_true, opsN, opsC, pm_1, lg, ls1, ls2, lq, List.length_cons, List.length_nil, cN, cL, callE, retV, retN, pm_pop, pm_cat, List.map_cons, List.map_nil, List.sum_cons, List.sum_nil, Value.category, Option.toList, List.cons_append, List.nil_append, ↓reduceIte, reduceCtorEq, Nat.reduceAdd, Nat.reduceLT, Nat.reduceLeDiff, Nat.reduceSub, Nat.reduceEqDiff, Nat.zero_le, Nat.sub_zero, Nat.le_refl, true_and, and_true, not_true_eq_false, not_false_eq_true, true_or, or_true, lc_eq, lc_ne, lc_lt, lc_ge, lc_gt, lc_le, nI_add, lN_add, nI_leI, nI_ltI, nI_eq, nI_clamp, pk_lLT, pk_lLE, pk_lEQ, pk_sub, vp_inT, nz_eq, nz_lt, nz_ge, nz_gt, nz_le, lz_eq, lz_lt, lz_ge, hP1, hP2, hP3, hP4, hP5, hP6, hP7, hP8, hP9, hP10, hP11, hP12, hP13, hP14, hP15, hP16, hP17, hP18, hP19, hP20, hx, t1, t2.1]
  rw [e_801]
  simp (disch := omega) only [u_801_0, B_801_0, u_801_18, B_801_18, u_901_12, B_901_12, nI1T, Nat.left_eq_add, Nat.add_eq_left, Nat.add_eq_zero_iff, and_false, false_and, if_false, if_true, opsN, opsC, pm_1, lg, ls1, ls2, lq, List.length_cons, List.length_nil, cN, cL, callE, retV, retN, pm_pop, pm_cat, List.map_cons, List.map_nil, List.sum_cons, List.sum_nil, Value.category, Option.toList, List.cons_append, List.nil_append, ↓reduceIte, reduceCtorEq, Nat.reduceAdd, Nat.reduceLT, Nat.reduceLeDiff, Nat.reduceSub, Nat.reduceEqDiff, Nat.zero_le, Nat.sub_zero, Nat.le_refl, true_and, and_true, not_true_eq_false, not_false_eq_true, true_or, or_true, lc_eq, lc_ne, lc_lt, lc_ge, lc_gt, lc_le, nI_add, lN_add, nI_leI, nI_ltI, nI_eq, nI_clamp, pk_lLT, pk_lLE, pk_lEQ, pk_sub, vp_inT, nz_eq, nz_lt, nz_ge, nz_gt, nz_le, lz_eq, lz_lt, lz_ge, hP1, hP2, hP3, hP4, hP5, hP6, hP7, hP8, hP9, hP10, hP11, hP12, hP13, hP14, hP15, hP16, hP17, hP18, hP19, hP20, t2.1, t3, c1, hx, t1]
  refine c802 dd t2 hT3 (by omega) ?_
  intro h1 k1 k2 k3
  have g1 : hT h1 x = 9 := by rw [k3.1]; exact hx
  have g2 : hR h1 x 2 = x + 32 := by rw [k3.2.2.1]; exact t1
  simp (disch := omega) only [nI1T, Nat.left_eq_add, Nat.add_eq_left, Nat.add_eq_zero_iff, and_false, false_and, if_false, if_true, opsN, opsC, pm_1, lg, ls1, ls2, lq, List.length_cons, List.length_nil, cN, cL, callE, retV, retN, pm_pop, pm_cat, List.map_cons, List.map_nil, List.sum_cons, List.sum_nil, Value.category, Option.toList, List.cons_append, List.nil_append, ↓reduceIte, reduceCtorEq, Nat.reduceAdd, Nat.reduceLT, Nat.reduceLeDiff, Nat.reduceSub, Nat.reduceEqDiff, Nat.zero_le, Nat.sub_zero, Nat.le_refl, true_and, and_true, not_true_eq_false, not_false_eq_true, true_or, or_true, lc_eq, lc_ne, lc_lt, lc_ge, lc_gt, lc_le, nI_add, lN_add, nI_leI, nI_ltI, nI_eq, nI_clamp, pk_lLT, pk_lLE, pk_lEQ, pk_sub, vp_inT, nz_eq, nz_lt, nz_ge, nz_gt, nz_le, lz_eq, lz_lt, lz_ge, hP1, hP2, hP3, hP4, hP5, hP6, hP7, hP8, hP9, hP10, hP11, hP12, hP13, hP14, hP15, hP16, hP17, hP18, hP19, hP20, g1, g2, k1.1]
  have el1 : (G.2.2.2.2.1 ++ bts a).length = G.2.2.2.2.1.length + 4 := by rw [List.length_append]; rfl
  refine c802 dd k1 k2 (by omega) ?_
  intro h2 l1 l2 l3
  have g1 : hT h2 x = 9 := by rw [l3.1]; exact g1
  have g2 : hR h2 x 2 = x + 32 := by rw [l3.2.2.1]; exact g2
  simp (disch := omega) only [nI1T, Nat.left_eq_add, Nat.add_eq_left, Nat.add_eq_zero_iff, and_false, false_and, if_false, if_true, opsN, opsC, pm_1, lg, ls1, ls2, lq, List.length_cons, List.length_nil, cN, cL, callE, retV, retN, pm_pop, pm_cat, List.map_cons, List.map_nil, List.sum_cons, List.sum_nil, Value.category, Option.toList, List.cons_append, List.nil_append, ↓reduceIte, reduceCtorEq, Nat.reduceAdd, Nat.reduceLT, Nat.reduceLeDiff, Nat.reduceSub, Nat.reduceEqDiff, Nat.zero_le, Nat.sub_zero, Nat.le_refl, true_and, and_true, not_true_eq_false, not_false_eq_true, true_or, or_true, lc_eq, lc_ne, lc_lt, lc_ge, lc_gt, lc_le, nI_add, lN_add, nI_leI, nI_ltI, nI_eq, nI_clamp, pk_lLT, pk_lLE, pk_lEQ, pk_sub, vp_inT, nz_eq, nz_lt, nz_ge, nz_gt, nz_le, lz_eq, lz_lt, lz_ge, hP1, hP2, hP3, hP4, hP5, hP6, hP7, hP8, hP9, hP10, hP11, hP12, hP13, hP14, hP15, hP16, hP17, hP18, hP19, hP20, g1, g2, l1.1]
  have el2 : (G.2.2.2.2.1 ++ bts a ++ bts b).length = G.2.2.2.2.1.length + 8 := by rw [List.length_append, el1]; rfl
  refine c802 dd l1 l2 (by omega) ?_
  intro h3 m1 m2 m3
  have g1 : hT h3 x = 9 := by rw [m3.1]; exact g1
  have g2 : hR h3 x 2 = x + 32 := by rw [m3.2.2.1]; exact g2
  simp (disch := omega) only [nI1T, Nat.left_eq_add, Nat.add_eq_left, Nat.add_eq_zero_iff, and_false, false_and, if_false, if_true, opsN, opsC, pm_1, lg, ls1, ls2, lq, List.length_cons, List.length_nil, cN, cL, callE, retV, retN, pm_pop, pm_cat, List.map_cons, List.map_nil, List.sum_cons, List.sum_nil, Value.category, Option.toList, List.cons_append, List.nil_append, ↓reduceIte, reduceCtorEq, Nat.reduceAdd, Nat.reduceLT, Nat.reduceLeDiff, Nat.reduceSub, Nat.reduceEqDiff, Nat.zero_le, Nat.sub_zero, Nat.le_refl, true_and, and_true, not_true_eq_false, not_false_eq_true, true_or, or_true, lc_eq, lc_ne, lc_lt, lc_ge, lc_gt, lc_le, nI_add, lN_add, nI_leI, nI_ltI, nI_eq, nI_clamp, pk_lLT, pk_lLE, pk_lEQ, pk_sub, vp_inT, nz_eq, nz_lt, nz_ge, nz_gt, nz_le, lz_eq, lz_lt, lz_ge, hP1, hP2, hP3, hP4, hP5, hP6, hP7, hP8, hP9, hP10, hP11, hP12, hP13, hP14, hP15, hP16, hP17, hP18, hP19, hP20, g1, g2, m1.1]
  have el3 : (G.2.2.2.2.1 ++ bts a ++ bts b ++ bts c).length = G.2.2.2.2.1.length + 12 := by rw [List.length_append, el2]; rfl
  refine c802 dd m1 m2 (by omega) ?_
  intro h4 n1 n2 n3
  have g1 : hT h4 x = 9 := by rw [n3.1]; exact g1
  have g2 : hR h4 x 2 = x + 32 := by rw [n3.2.2.1]; exact g2
  simp (disch := omega) only [nI1T, Nat.left_eq_add, Nat.add_eq_left, Nat.add_eq_zero_iff, and_false, false_and, if_false, if_true, opsN, opsC, pm_1, lg, ls1, ls2, lq, List.length_cons, List.length_nil, cN, cL, callE, retV, retN, pm_pop, pm_cat, List.map_cons, List.map_nil, List.sum_cons, List.sum_nil, Value.category, Option.toList, List.cons_append, List.nil_append, ↓reduceIte, reduceCtorEq, Nat.reduceAdd, Nat.reduceLT, Nat.reduceLeDiff, Nat.reduceSub, Nat.reduceEqDiff, Nat.zero_le, Nat.sub_zero, Nat.le_refl, true_and, and_true, not_true_eq_false, not_false_eq_true, true_or, or_true, lc_eq, lc_ne, lc_lt, lc_ge, lc_gt, lc_le, nI_add, lN_add, nI_leI, nI_ltI, nI_eq, nI_clamp, pk_lLT, pk_lLE, pk_lEQ, pk_sub, vp_inT, nz_eq, nz_lt, nz_ge, nz_gt, nz_le, lz_eq, lz_lt, lz_ge, hP1, hP2, hP3, hP4, hP5, hP6, hP7, hP8, hP9, hP10, hP11, hP12, hP13, hP14, hP15, hP16, hP17, hP18, hP19, hP20, g1, g2, n1.1]
  have el4 : (G.2.2.2.2.1 ++ bts a ++ bts b ++ bts c ++ bts d).length = G.2.2.2.2.1.length + 16 := by rw [List.length_append, el3]; rfl
  refine c802 dd n1 n2 (by omega) ?_
  intro h5 p1 p2 p3
  simp (disch := omega) only [nI1T, Nat.left_eq_add, Nat.add_eq_left, Nat.add_eq_zero_iff, and_false, false_and, if_false, if_true, opsN, opsC, pm_1, lg, ls1, ls2, lq, List.length_cons, List.length_nil, cN, cL, callE, retV, retN, pm_pop, pm_cat, List.map_cons, List.map_nil, List.sum_cons, List.sum_nil, Value.category, Option.toList, List.cons_append, List.nil_append, ↓reduceIte, reduceCtorEq, Nat.reduceAdd, Nat.reduceLT, Nat.reduceLeDiff, Nat.reduceSub, Nat.reduceEqDiff, Nat.zero_le, Nat.sub_zero, Nat.le_refl, true_and, and_true, not_true_eq_false, not_false_eq_true, true_or, or_true, lc_eq, lc_ne, lc_lt, lc_ge, lc_gt, lc_le, nI_add, lN_add, nI_leI, nI_ltI, nI_eq, nI_clamp, pk_lLT, pk_lLE, pk_lEQ, pk_sub, vp_inT, nz_eq, nz_lt, nz_ge, nz_gt, nz_le, lz_eq, lz_lt, lz_ge, hP1, hP2, hP3, hP4, hP5, hP6, hP7, hP8, hP9, hP10, hP11, hP12, hP13, hP14, hP15, hP16, hP17, hP18, hP19, hP20]
  have e9 : G.2.2.2.2.1 ++ bts a ++ bts b ++ bts c ++ bts d ++ bts e = G.2.2.2.2.1 ++ fdB a b c d e := by simp [fdB]
  rw [e9] at p2
  rw [el4]
  exact hQ h5 p1 p2 (frT_trans k3 (frT_trans l3 (frT_trans m3 (frT_trans n3 p3))))
/-! the reference -/
theorem c1005e (dd : Nat) {a b c d e : Int32} (hM : MI h m G) (hl : ¬ G.2.2.2.2.1.length + 20 ≤ 500) (hQ : Q (.inl (some (.int (-nI 1)))) (thr h m)) : pm_M PP (dd + 1) 1005 [.ref m, .int a, .int b, .int c, .int d, .int e] h Q := by
  have hM9 := (MI_thr hM).1
  obtain ⟨h9, e0, et, hs9, hz⟩ := thr_ex hM.1.1
  rw [et] at hQ hM9
  have hs := hM.1.1
  have t3 := hM9.2.2.1.1.1
  have hl5 := hM.2.2.2.1
  rw [e_1005]
  simp (disch := omega) only [u_1005_0, B_1005_0, nI1T, Nat.left_eq_add, Nat.add_eq_left, Nat.add_eq_zero_iff, and_false, false_and, if_false, if_true, opsN, opsC, pm_1, lg, ls1, ls2, lq, List.length_cons, List.length_nil, cN, cL, callE, retV, retN, pm_pop, pm_cat, List.map_cons, List.map_nil, List.sum_cons, List.sum_nil, Value.category, Option.toList, List.cons_append, List.nil_append, ↓reduceIte, reduceCtorEq, Nat.reduceAdd, Nat.reduceLT, Nat.reduceLeDiff, Nat.reduceSub, Nat.reduceEqDiff, Nat.zero_le, Nat.sub_zero, Nat.le_refl, true_and, and_true, not_true_eq_false, not_false_eq_true, true_or, or_true, lc_eq, lc_ne, lc_lt, lc_ge, lc_gt, lc_le, nI_add, lN_add, nI_leI, nI_ltI, nI_eq, nI_clamp, pk_lLT, pk_lLE, pk_lEQ, pk_sub, vp_inT, nz_eq, nz_lt, nz_ge, nz_gt, nz_le, lz_eq, lz_lt, lz_ge, hP1, hP2, hP3, hP4, hP5, hP6, hP7, hP8, hP9, hP10, hP11, hP12, hP13, hP14, hP15, hP16, hP17, hP18, hP19, hP20, hs.1, e0, hs9.1, t3, hl]
  exact hQ
def fdV (a b c d e : Int32) (k : Nat) : Int32 := if k < 4 then a else if k < 8 then b else if k < 12 then c else if k < 16 then d else e
def frF (m : Nat) (h h' : pm_H) : Prop := hT h' = hT h ∧ hN h' = hN h ∧ hR h' = hR h ∧ hn h' = hn h ∧ hL h' = hL h ∧ (∀ k, k ≠ m → k ≠ m + 2 → hI h' k = hI h k) ∧ ∀ j, j ≠ 2 → hI h' m j = hI h m j
theorem frF_trans {m : Nat} {h h1 h2 : pm_H} (a : frF m h h1) (b : frF m h1 h2) : frF m h h2 :=
  ⟨b.1.trans a.1, b.2.1.trans a.2.1, b.2.2.1.trans a.2.2.1, b.2.2.2.1.trans a.2.2.2.1, b.2.2.2.2.1.trans a.2.2.2.2.1, fun k q1 q2 => (b.2.2.2.2.2.1 k q1 q2).trans (a.2.2.2.2.2.1 k q1 q2), fun j q => (b.2.2.2.2.2.2 j q).trans (a.2.2.2.2.2.2 j q)⟩
theorem x1005 (dd : Nat) {h : pm_H} {T : List Nat} {F : Option Nat} {Q : pm_Q} {a b c d e v : Int32} {k : Nat} {x7 : Option Value} (hs : mS h m) (hT1 : mTp h m T F) (hl : T.length < 500) (hk : k < 20)
    (hQ : ∀ h', mS h' m → mTp h' m (T ++ [bt v (24 - 8 * (k % 4))]) F → frF m h h' → pm_W PP dd 1005 Q 0 0 23 [some (.ref m), some (.int a), some (.int b), some (.int c), some (.int d), some (.int e), some (.int (nI (k + 1))), some (.int v)] [] h') :
    pm_W PP dd 1005 Q 0 0 76 [some (.ref m), some (.int a), some (.int b), some (.int c), some (.int d), some (.int e), some (.int (nI k)), x7] [.int v] h := by
  obtain ⟨a1, a2, a3⟩ := hT1
  have r1 : nI k - nI k / nI 4 * nI 4 = nI (k % 4) := pk_rem (by omega) (by omega) (by omega)
  have r2 : nI 24 - nI (8 * (k % 4)) = nI (24 - 8 * (k % 4)) := pk_sub (by omega)
  have r3 := bt_m v (s := 24 - 8 * (k % 4)) (by omega)
  simp (disch := omega) only [u_1005_76, B_1005_76, nI1T, Nat.left_eq_add, Nat.add_eq_left, Nat.add_eq_zero_iff, and_false, false_and, if_false, if_true, opsN, opsC, pm_1, lg, ls1, ls2, lq, List.length_cons, List.length_nil, cN, cL, callE, retV, retN, pm_pop, pm_cat, List.map_cons, List.map_nil, List.sum_cons, List.sum_nil, Value.category, Option.toList, List.cons_append, List.nil_append, ↓reduceIte, reduceCtorEq, Nat.reduceAdd, Nat.reduceLT, Nat.reduceLeDiff, Nat.reduceSub, Nat.reduceEqDiff, Nat.zero_le, Nat.sub_zero, Nat.le_refl, true_and, and_true, not_true_eq_false, not_false_eq_true, true_or, or_true, lc_eq, lc_ne, lc_lt, lc_ge, lc_gt, lc_le, nI_add, lN_add, nI_leI, nI_ltI, nI_eq, nI_clamp, pk_lLT, pk_lLE, pk_lEQ, pk_sub, vp_inT, nz_eq, nz_lt, nz_ge, nz_gt, nz_le, lz_eq, lz_lt, lz_ge, hP1, hP2, hP3, hP4, hP5, hP6, hP7, hP8, hP9, hP10, hP11, hP12, hP13, hP14, hP15, hP16, hP17, hP18, hP19, hP20, hs.1, m_g8 hs, m_t2 hs, m_n2 hs, a1, r1, pk_mul, r2, r3, va_upE]
  refine hQ _ (mS_sI (mS_sI hs)) ⟨?_, ?_, fun i hi => ?_⟩ ⟨rfl, rfl, rfl, rfl, rfl, fun k q1 q2 => ?_, fun j q => ?_⟩
  · rw [hP1, va_up_self, va_up_self, List.length_append]; rfl
  · rw [hP1, va_up_self, va_up_ne _ _ (by omega)]; exact a2
  · rw [List.length_append] at hi
    have hi : i < T.length + 1 := hi
    rw [hP1, va_up_ne _ _ (by omega), hP1, va_up_self, va_upE]
    by_cases e : i = T.length
    · rw [if_pos e, e, getD_laN]
    · rw [if_neg e, getD_apN (by omega)]; exact a3 i (by omega)
  · rw [hP1, va_up_ne _ _ q1, hP1, va_up_ne _ _ q2]
  · rw [hP1, va_up_self, va_up_ne _ _ q]
theorem l1005 (dd : Nat) {T0 : List Nat} {F : Option Nat} {Q : pm_Q} {a b c d e : Int32} (hl : T0.length + 20 ≤ 500) :
    ∀ (n k : Nat) (h : pm_H) (x7 : Option Value), n + k = 20 → mS h m → mTp h m (T0 ++ (List.range k).map (fun j => bt (fdV a b c d e j) (24 - 8 * (j % 4)))) F →
      (∀ h', mS h' m → mTp h' m (T0 ++ (List.range 20).map (fun j => bt (fdV a b c d e j) (24 - 8 * (j % 4)))) F → frF m h h' → Q (.inl (some (.int (nI (T0.length + 20))))) h') →
      pm_W PP dd 1005 Q 0 0 23 [some (.ref m), some (.int a), some (.int b), some (.int c), some (.int d), some (.int e), some (.int (nI k)), x7] [] h := by
  intro n
  induction n with
  | zero =>
    intro k h x7 hk hs hT1 hQ
    have e : k = 20 := by omega
    subst e
    have f := hT1.1
    rw [List.length_append, List.length_map, List.length_range] at f
    rw [u_1005_23]
    simp (disch := omega) only [B_1005_23, u_1005_120, B_1005_120, nI1T, Nat.left_eq_add, Nat.add_eq_left, Nat.add_eq_zero_iff, and_false, false_and, if_false, if_true, opsN, opsC, pm_1, lg, ls1, ls2, lq, List.length_cons, List.length_nil, cN, cL, callE, retV, retN, pm_pop, pm_cat, List.map_cons, List.map_nil, List.sum_cons, List.sum_nil, Value.category, Option.toList, List.cons_append, List.nil_append, ↓reduceIte, reduceCtorEq, Nat.reduceAdd, Nat.reduceLT, Nat.reduceLeDiff, Nat.reduceSub, Nat.reduceEqDiff, Nat.zero_le, Nat.sub_zero, Nat.le_refl, true_and, and_true, not_true_eq_false, not_false_eq_true, true_or, or_true, lc_eq, lc_ne, lc_lt, lc_ge, lc_gt, lc_le, nI_add, lN_add, nI_leI, nI_ltI, nI_eq, nI_clamp, pk_lLT, pk_lLE, pk_lEQ, pk_sub, vp_inT, nz_eq, nz_lt, nz_ge, nz_gt, nz_le, lz_eq, lz_lt, lz_ge, hP1, hP2, hP3, hP4, hP5, hP6, hP7, hP8, hP9, hP10, hP11, hP12, hP13, hP14, hP15, hP16, hP17, hP18, hP19, hP20, hs.1, f]
    exact hQ h hs hT1 ⟨rfl, rfl, rfl, rfl, rfl, fun _ _ _ => rfl, fun _ _ => rfl⟩
  | succ n ih =>
    intro k h x7 hk hs hT1 hQ
    have ck : ¬ 20 ≤ k := by omega
    have hll : (T0 ++ (List.range k).map (fun j => bt (fdV a b c d e j) (24 - 8 * (j % 4)))).length < 500 := by rw [List.length_append, List.length_map, List.length_range]; omega
    have fin : ∀ v, v = fdV a b c d e k → pm_W PP dd 1005 Q 0 0 76 [some (.ref m), some (.int a), some (.int b), some (.int c), some (.int d), some (.int e), some (.int (nI k)), x7] [.int v] h := fun v hv => by
      refine x1005 dd hs hT1 hll (by omega) ?_
      intro h' q1 q2 q3
      refine ih (k + 1) h' _ (by omega) q1 ?_ (fun h2 r1 r2 r3 => hQ h2 r1 r2 (frF_trans q3 r3))
      rw [List.range_succ, List.map_append, ← List.append_assoc]
      rw [hv] at q2
      exact q2
    rw [u_1005_23]
    by_cases c4 : 4 ≤ k
    · by_cases c8 : 8 ≤ k
      · by_cases c12 : 12 ≤ k
        · by_cases c16 : 16 ≤ k
          · simp (disch := omega) only [B_1005_23, u_1005_40, B_1005_40, u_1005_51, B_1005_51, u_1005_62, B_1005_62, u_1005_74, B_1005_74, nI1T, Nat.left_eq_add, Nat.add_eq_left, Nat.add_eq_zero_iff, and_false, false_and, if_false, if_true, opsN, opsC, pm_1, lg, ls1, ls2, lq, List.length_cons, List.length_nil, cN, cL, callE, retV, retN, pm_pop, pm_cat, List.map_cons, List.map_nil, List.sum_cons, List.sum_nil, Value.category, Option.toList, List.cons_append, List.nil_append, ↓reduceIte, reduceCtorEq, Nat.reduceAdd, Nat.reduceLT, Nat.reduceLeDiff, Nat.reduceSub, Nat.reduceEqDiff, Nat.zero_le, Nat.sub_zero, Nat.le_refl, true_and, and_true, not_true_eq_false, not_false_eq_true, true_or, or_true, lc_eq, lc_ne, lc_lt, lc_ge, lc_gt, lc_le, nI_add, lN_add, nI_leI, nI_ltI, nI_eq, nI_clamp, pk_lLT, pk_lLE, pk_lEQ, pk_sub, vp_inT, nz_eq, nz_lt, nz_ge, nz_gt, nz_le, lz_eq, lz_lt, lz_ge, hP1, hP2, hP3, hP4, hP5, hP6, hP7, hP8, hP9, hP10, hP11, hP12, hP13, hP14, hP15, hP16, hP17, hP18, hP19, hP20, ck, c4, c8, c12, c16]
            exact fin _ (by unfold fdV; rw [if_neg (by omega), if_neg (by omega), if_neg (by omega), if_neg (by omega)])
          · simp (disch := omega) only [B_1005_23, u_1005_40, B_1005_40, u_1005_51, B_1005_51, u_1005_62, B_1005_62, nI1T, Nat.left_eq_add, Nat.add_eq_left, Nat.add_eq_zero_iff, and_false, false_and, if_false, if_true, opsN, opsC, pm_1, lg, ls1, ls2, lq, List.length_cons, List.length_nil, cN, cL, callE, retV, retN, pm_pop, pm_cat, List.map_cons, List.map_nil, List.sum_cons, List.sum_nil, Value.category, Option.toList, List.cons_append, List.nil_append, ↓reduceIte, reduceCtorEq, Nat.reduceAdd, Nat.reduceLT, Nat.reduceLeDiff, Nat.reduceSub, Nat.reduceEqDiff, Nat.zero_le, Nat.sub_zero, Nat.le_refl, true_and, and_true, not_true_eq_false, not_false_eq_true, true_or, or_true, lc_eq, lc_ne, lc_lt, lc_ge, lc_gt, lc_le, nI_add, lN_add, nI_leI, nI_ltI, nI_eq, nI_clamp, pk_lLT, pk_lLE, pk_lEQ, pk_sub, vp_inT, nz_eq, nz_lt, nz_ge, nz_gt, nz_le, lz_eq, lz_lt, lz_ge, hP1, hP2, hP3, hP4, hP5, hP6, hP7, hP8, hP9, hP10, hP11, hP12, hP13, hP14, hP15, hP16, hP17, hP18, hP19, hP20, ck, c4, c8, c12, c16]
            exact fin _ (by unfold fdV; rw [if_neg (by omega), if_neg (by omega), if_neg (by omega), if_pos (by omega)])
        · simp (disch := omega) only [B_1005_23, u_1005_40, B_1005_40, u_1005_51, B_1005_51, nI1T, Nat.left_eq_add, Nat.add_eq_left, Nat.add_eq_zero_iff, and_false, false_and, if_false, if_true, opsN, opsC, pm_1, lg, ls1, ls2, lq, List.length_cons, List.length_nil, cN, cL, callE, retV, retN, pm_pop, pm_cat, List.map_cons, List.map_nil, List.sum_cons, List.sum_nil, Value.category, Option.toList, List.cons_append, List.nil_append, ↓reduceIte, reduceCtorEq, Nat.reduceAdd, Nat.reduceLT, Nat.reduceLeDiff, Nat.reduceSub, Nat.reduceEqDiff, Nat.zero_le, Nat.sub_zero, Nat.le_refl, true_and, and_true, not_true_eq_false, not_false_eq_true, true_or, or_true, lc_eq, lc_ne, lc_lt, lc_ge, lc_gt, lc_le, nI_add, lN_add, nI_leI, nI_ltI, nI_eq, nI_clamp, pk_lLT, pk_lLE, pk_lEQ, pk_sub, vp_inT, nz_eq, nz_lt, nz_ge, nz_gt, nz_le, lz_eq, lz_lt, lz_ge, hP1, hP2, hP3, hP4, hP5, hP6, hP7, hP8, hP9, hP10, hP11, hP12, hP13, hP14, hP15, hP16, hP17, hP18, hP19, hP20, ck, c4, c8, c12]
          exact fin _ (by unfold fdV; rw [if_neg (by omega), if_neg (by omega), if_pos (by omega)])
      · simp (disch := omega) only [B_1005_23, u_1005_40, B_1005_40, nI1T, Nat.left_eq_add, Nat.add_eq_left, Nat.add_eq_zero_iff, and_false, false_and, if_false, if_true, opsN, opsC, pm_1, lg, ls1, ls2, lq, List.length_cons, List.length_nil, cN, cL, callE, retV, retN, pm_pop, pm_cat, List.map_cons, List.map_nil, List.sum_cons, List.sum_nil, Value.category, Option.toList, List.cons_append, List.nil_append, ↓reduceIte, reduceCtorEq, Nat.reduceAdd, Nat.reduceLT, Nat.reduceLeDiff, Nat.reduceSub, Nat.reduceEqDiff, Nat.zero_le, Nat.sub_zero, Nat.le_refl, true_and, and_true, not_true_eq_false, not_false_eq_true, true_or, or_true, lc_eq, lc_ne, lc_lt, lc_ge, lc_gt, lc_le, nI_add, lN_add, nI_leI, nI_ltI, nI_eq, nI_clamp, pk_lLT, pk_lLE, pk_lEQ, pk_sub, vp_inT, nz_eq, nz_lt, nz_ge, nz_gt, nz_le, lz_eq, lz_lt, lz_ge, hP1, hP2, hP3, hP4, hP5, hP6, hP7, hP8, hP9, hP10, hP11, hP12, hP13, hP14, hP15, hP16, hP17, hP18, hP19, hP20, ck, c4, c8]
        exact fin _ (by unfold fdV; rw [if_neg (by omega), if_pos (by omega)])
    · simp (disch := omega) only [B_1005_23, nI1T, Nat.left_eq_add, Nat.add_eq_left, Nat.add_eq_zero_iff, and_false, false_and, if_false, if_true, opsN, opsC, pm_1, lg, ls1, ls2, lq, List.length_cons, List.length_nil, cN, cL, callE, retV, retN, pm_pop, pm_cat, List.map_cons, List.map_nil, List.sum_cons, List.sum_nil, Value.category, Option.toList, List.cons_append, List.nil_append, ↓reduceIte, reduceCtorEq, Nat.reduceAdd, Nat.reduceLT, Nat.reduceLeDiff, Nat.reduceSub, Nat.reduceEqDiff, Nat.zero_le, Nat.sub_zero, Nat.le_refl, true_and, and_true, not_true_eq_false, not_false_eq_true, true_or, or_true, lc_eq, lc_ne, lc_lt, lc_ge, lc_gt, lc_le, nI_add, lN_add, nI_leI, nI_ltI, nI_eq, nI_clamp, pk_lLT, pk_lLE, pk_lEQ, pk_sub, vp_inT, nz_eq, nz_lt, nz_ge, nz_gt, nz_le, lz_eq, lz_lt, lz_ge, hP1, hP2, hP3, hP4, hP5, hP6, hP7, hP8, hP9, hP10, hP11, hP12, hP13, hP14, hP15, hP16, hP17, hP18, hP19, hP20, ck, c4]
      exact fin _ (by unfold fdV; rw [if_pos (by omega)])
theorem fd_eq (a b c d e : Int32) : (List.range 20).map (fun j => bt (fdV a b c d e j) (24 - 8 * (j % 4))) = fdB a b c d e := rfl
theorem fd_len (a b c d e : Int32) : (fdB a b c d e).length = 20 := rfl
theorem fd_lt {a b c d e : Int32} : ∀ y, y ∈ fdB a b c d e → y < 256 := by
  rw [← fd_eq]
  intro y hy
  obtain ⟨j, _, e⟩ := List.mem_map.mp hy
  rw [← e]; exact bt_lt _ _
/-- feed -/
theorem P901 (hC : CI h x G) (hM : MI h m G) (a b c d e : Int32) : ∃ v G', done x m 901 1005 [.int a, .int b, .int c, .int d, .int e] (.int v) G G' h := by
  obtain ⟨H, P, B, R, T, F, L, C⟩ := G
  have hl5 : T.length ≤ 500 := hM.2.2.2.1
  by_cases hl : T.length + 20 ≤ 500
  · refine ⟨nI (T.length + 20), (H, P, B, R, T ++ fdB a b c d e, F, L, C), Nat.le_add_right _ _, fun Q hQ => c901 398 hC hl ?_, fun h1 Q hM1 hQ => ?_⟩
    · intro h' k1 k2 k3
      obtain ⟨g1, g2, g3, g4, g5, g6, g7⟩ := k3
      have f : fr (x + 32) (x + 34) h h' := ⟨g1, g2, g3, g4, fun k q => ⟨g6 k (by omega) (by omega), by rw [g5]⟩⟩
      refine hQ h' ⟨isC_fr f (by omega) hC.1, fun s hs => ?_, xS_eq g1 g2 (fun _ _ => by rw [g3]) (fun _ _ _ => by rw [g3]) hC.2.2.1, k2, cPl_eq (by rw [g3]) (by rw [g3]) (fun k q1 q2 => g6 k (by omega) (by omega)) hC.2.2.2.2.1, cCh_eq (by rw [g3]) (by rw [g3]) (fun k q1 q2 => g6 k (by omega) (by omega)) hC.2.2.2.2.2⟩ (frX_fr f (by omega) (by omega))
      rw [g6 x (by omega) (by omega)]; exact hC.2.1 s hs
    · have h3 := MI_thr hM1
      obtain ⟨h0, e0, et, hs9, hz⟩ := thr_ex hM1.1.1
      rw [et] at h3
      have t3 : hI h0 m 2 = nI T.length := h3.1.2.2.1.1.1
      show pm_M PP (399 + 1) 1005 _ h1 Q
      rw [e_1005]
      simp (disch := omega) only [u_1005_0, B_1005_0, u_1005_20, B_1005_20, nI1T, Nat.left_eq_add, Nat.add_eq_left, Nat.add_eq_zero_iff, and_false, false_and, if_false, if_true, opsN, opsC, pm_1, lg, ls1, ls2, lq, List.length_cons, List.length_nil, cN, cL, callE, retV, retN, pm_pop, pm_cat, List.map_cons, List.map_nil, List.sum_cons, List.sum_nil, Value.category, Option.toList, List.cons_append, List.nil_append, ↓reduceIte, reduceCtorEq, Nat.reduceAdd, Nat.reduceLT, Nat.reduceLeDiff, Nat.reduceSub, Nat.reduceEqDiff, Nat.zero_le, Nat.sub_zero, Nat.le_refl, true_and, and_true, not_true_eq_false, not_false_eq_true, true_or, or_true, lc_eq, lc_ne, lc_lt, lc_ge, lc_gt, lc_le, nI_add, lN_add, nI_leI, nI_ltI, nI_eq, nI_clamp, pk_lLT, pk_lLE, pk_lEQ, pk_sub, vp_inT, nz_eq, nz_lt, nz_ge, nz_gt, nz_le, lz_eq, lz_lt, lz_ge, hP1, hP2, hP3, hP4, hP5, hP6, hP7, hP8, hP9, hP10, hP11, hP12, hP13, hP14, hP15, hP16, hP17, hP18, hP19, hP20, hM1.1.1.1, e0, hs9.1, t3, hl]
      refine l1005 399 (T0 := T) (F := F) hl 20 0 h0 none rfl hs9 (by show mTp h0 m (T ++ []) F; rw [List.append_nil]; exact h3.1.2.2.1.1) ?_
      intro h' q1 q2 q3
      rw [fd_eq] at q2
      obtain ⟨g1, g2, g3, g4, g5, g6, g7⟩ := q3
      obtain ⟨⟨b1, b2, b3, b4, b5, b6, b7, b8, b9⟩, bR, ⟨bT, bL, bC1, bC2, bC3, bC4, bC5, bC6⟩, t1, t2, t3, t4, t5, u1, u2, u3, u4⟩ := h3.1
      refine hQ h' ⟨⟨q1, (g7 _ (by omega)).trans b2, b3, mQ_eq g1 g2 (by rw [g5]) b4, mQ_eq g1 g2 (by rw [g5]) b5, b6, (g7 _ (by omega)).trans b7, b8, fun i hi => mRow_eq g1 g2 (by rw [g5]) (by rw [g5]) (by rw [g6 _ (by omega) (by omega)]) (b9 i hi)⟩, fun s hs => ?_, ⟨q2, ⟨(g7 _ (by omega)).trans bL.1, bL.2.choose, bL.2.choose_spec.1, fun i hi => ?_⟩, (g7 _ (by omega)).trans bC1, (g7 _ (by omega)).trans bC2, (g7 _ (by omega)).trans bC3, fun i hi => ?_, fun i hi => ?_, fun i hi => ?_⟩, ?_, ?_, t3, t4, t5, u1, u2, u3, u4⟩ (frX_trans h3.2.2 ⟨g1, g2, g4, fun k q => ⟨g6 k (by omega) (by omega), by rw [g5], by rw [g3]⟩⟩) ((g7 _ (by omega)).trans hz)
      · rw [g6 _ (by omega) (by omega)]; exact bR s hs
      · have hi : i < L.2 := hi
        unfold rwIs; rw [g6 _ (by omega) (by omega)]; exact bL.2.choose_spec.2 i hi
      · rw [g6 _ (by omega) (by omega)]; exact bC4 i hi
      · rw [g6 _ (by omega) (by omega)]; exact bC5 i hi
      · rw [g6 _ (by omega) (by omega)]; exact bC6 i hi
      · show (T ++ fdB a b c d e).length ≤ 500; rw [List.length_append, fd_len]; exact hl
      · intro y hy
        rcases List.mem_append.mp hy with z | z
        · exact t2 y z
        · exact fd_lt y z
  · exact ⟨-nI 1, (H, P, B, R, T, F, L, C), Nat.le_add_right _ _, fun Q hQ => c901e 398 hC hl hl5 (hQ _ hC (frX_refl _ _ _)), fun h1 Q hM1 hQ => c1005e 399 hM1 hl (by have := MI_thr hM1; exact hQ _ this.1 this.2.2 this.2.1)⟩
end FD
