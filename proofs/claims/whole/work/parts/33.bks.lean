theorem l114 (d : Nat) {h : pm_H} {b cap bits key x : Nat} {Q : pm_Q} (hs : bS h b cap) (hb : hI h b 6 = nI bits) (h1 : 1 ≤ bits) (h4 : bits ≤ 4) (hk : key < 2 ^ 40) (hx : x < 2 ^ 40) :
    ∀ (n p : Nat), 40 ≤ n + p → p < 40 → ¬ x / 2 ^ (bits * p) = 0 → (∀ q, ¬ x / 2 ^ (bits * q) = 0 → x / 2 ^ (bits * (q + 1)) = 0 → bits * q < 40 → Q (.inl (some (.int (nI (q * (2 ^ bits - 1) + key / 2 ^ (bits * q) % 2 ^ bits))))) h) →
    pm_W PP d 114 Q 0 0 26 [some (.ref b), some (.long (lN key)), none, some (.int (nI p)), some (.long (lN (x / 2 ^ (bits * (p + 1))))), none] [] h := by
  intro n
  obtain ⟨s0, s1, s2, s3, s4, s5, s6, s7, s8, s9, s10, s11, s12, s13, s14, s15, s16⟩ := hs
  induction n with
  | zero => intro p hp hp2; omega
  | succ n ih =>
    intro p hp hp2 hne hQ
    have hxl : x / 2 ^ (bits * (p + 1)) ≤ x := Nat.div_le_self _ _
    have hbp : bits * p < 40 := by
      refine Classical.byContradiction fun q => hne (Nat.div_eq_of_lt (Nat.lt_of_lt_of_le hx (Nat.pow_le_pow_right (by decide) (by omega))))
    rw [u_114_26]
    simp (disch := omega) only [B_114_26, nI1T, Nat.left_eq_add, Nat.add_eq_left, Nat.add_eq_zero_iff, and_false, false_and, if_false, if_true, opsN, opsC, pm_1, lg, ls1, ls2, lq, List.length_cons, List.length_nil, cN, cL, callE, retV, retN, pm_pop, pm_cat, List.map_cons, List.map_nil, List.sum_cons, List.sum_nil, Value.category, Option.toList, List.cons_append, List.nil_append, reduceIte, reduceCtorEq, Nat.reduceAdd, Nat.reduceLT, Nat.reduceLeDiff, Nat.reduceSub, Nat.reduceEqDiff, Nat.zero_le, Nat.sub_zero, Nat.le_refl, true_and, and_true, not_true_eq_false, not_false_eq_true, true_or, or_true, lc_eq, lc_ne, lc_lt, lc_ge, lc_gt, lc_le, nI_add, lN_add, nI_leI, nI_ltI, nI_eq, nI_clamp, pk_lLT, pk_lLE, pk_lEQ, pk_sub, vp_inT, nz_eq, nz_lt, nz_ge, nz_gt, nz_le, lz_eq, lz_lt, lz_ge, hP1, hP2, hP3, hP4, hP5, hP6, hP7, hP8, hP9, hP10, hP11, hP12, hP13, hP14, hP15, hP16, hP17, hP18, hP19, hP20, s0, hb]
    by_cases hz : x / 2 ^ (bits * (p + 1)) = 0
    · simp (disch := omega) only [u_114_54, B_114_54, nI1T, Nat.left_eq_add, Nat.add_eq_left, Nat.add_eq_zero_iff, and_false, false_and, if_false, if_true, opsN, opsC, pm_1, lg, ls1, ls2, lq, List.length_cons, List.length_nil, cN, cL, callE, retV, retN, pm_pop, pm_cat, List.map_cons, List.map_nil, List.sum_cons, List.sum_nil, Value.category, Option.toList, List.cons_append, List.nil_append, reduceIte, reduceCtorEq, Nat.reduceAdd, Nat.reduceLT, Nat.reduceLeDiff, Nat.reduceSub, Nat.reduceEqDiff, Nat.zero_le, Nat.sub_zero, Nat.le_refl, true_and, and_true, not_true_eq_false, not_false_eq_true, true_or, or_true, lc_eq, lc_ne, lc_lt, lc_ge, lc_gt, lc_le, nI_add, lN_add, nI_leI, nI_ltI, nI_eq, nI_clamp, pk_lLT, pk_lLE, pk_lEQ, pk_sub, vp_inT, nz_eq, nz_lt, nz_ge, nz_gt, nz_le, lz_eq, lz_lt, lz_ge, hP1, hP2, hP3, hP4, hP5, hP6, hP7, hP8, hP9, hP10, hP11, hP12, hP13, hP14, hP15, hP16, hP17, hP18, hP19, hP20, s0, hb, hz, ln_ushr, sh_b, pk_mul]
      have e : p * bits < 64 := by rw [Nat.mul_comm]; omega
      have hkl : key / 2 ^ (p * bits) ≤ key := Nat.div_le_self _ _
      rw [ln_ushr (by omega) e, pk_sub (Nat.two_pow_pos bits), lN_i, and_b _ bits (by omega), pk_mul, nI_add]
      have := hQ p hne hz hbp
      rw [Nat.mul_comm bits p] at this
      exact this
    · have hp3 : p < 39 := by
        refine Classical.byContradiction fun q => hz (Nat.div_eq_of_lt (Nat.lt_of_lt_of_le hx (Nat.pow_le_pow_right (by decide) ?_)))
        have : 1 * (p + 1) ≤ bits * (p + 1) := Nat.mul_le_mul_right _ h1
        omega
      have hp4 : ¬ 40 ≤ p := by omega
      simp (disch := omega) only [nI1T, Nat.left_eq_add, Nat.add_eq_left, Nat.add_eq_zero_iff, and_false, false_and, if_false, if_true, opsN, opsC, pm_1, lg, ls1, ls2, lq, List.length_cons, List.length_nil, cN, cL, callE, retV, retN, pm_pop, pm_cat, List.map_cons, List.map_nil, List.sum_cons, List.sum_nil, Value.category, Option.toList, List.cons_append, List.nil_append, reduceIte, reduceCtorEq, Nat.reduceAdd, Nat.reduceLT, Nat.reduceLeDiff, Nat.reduceSub, Nat.reduceEqDiff, Nat.zero_le, Nat.sub_zero, Nat.le_refl, true_and, and_true, not_true_eq_false, not_false_eq_true, true_or, or_true, lc_eq, lc_ne, lc_lt, lc_ge, lc_gt, lc_le, nI_add, lN_add, nI_leI, nI_ltI, nI_eq, nI_clamp, pk_lLT, pk_lLE, pk_lEQ, pk_sub, vp_inT, nz_eq, nz_lt, nz_ge, nz_gt, nz_le, lz_eq, lz_lt, lz_ge, hP1, hP2, hP3, hP4, hP5, hP6, hP7, hP8, hP9, hP10, hP11, hP12, hP13, hP14, hP15, hP16, hP17, hP18, hP19, hP20, hz, hp4, s0, hb, ln_ushr]
      have := ih (p + 1) (by omega) (by omega) hz hQ
      rw [dv_s bits x (p + 1)] at this
      exact this
theorem c114 (d : Nat) {h : pm_H} {b cap bits last key : Nat} {Q : pm_Q} (hs : bS h b cap) (hl : hL h b 7 = lN last) (hb : hI h b 6 = nI bits) (h1 : 1 ≤ bits) (h4 : bits ≤ 4) (hk : key < 2 ^ 40) (hla : last < 2 ^ 40)
    (hQ : Q (.inl (some (.int (nI (bk bits last key))))) h) : pm_M PP (d + 1) 114 [.ref b, .long (lN key)] h Q := by
  have s0 : hT h b = 1 := hs.1
  rw [e_114]
  by_cases e : key = last
  · subst e
    rw [bk_self] at hQ
    simp (disch := omega) only [u_114_0, B_114_0, nI1T, Nat.left_eq_add, Nat.add_eq_left, Nat.add_eq_zero_iff, and_false, false_and, if_false, if_true, opsN, opsC, pm_1, lg, ls1, ls2, lq, List.length_cons, List.length_nil, cN, cL, callE, retV, retN, pm_pop, pm_cat, List.map_cons, List.map_nil, List.sum_cons, List.sum_nil, Value.category, Option.toList, List.cons_append, List.nil_append, reduceIte, reduceCtorEq, Nat.reduceAdd, Nat.reduceLT, Nat.reduceLeDiff, Nat.reduceSub, Nat.reduceEqDiff, Nat.zero_le, Nat.sub_zero, Nat.le_refl, true_and, and_true, not_true_eq_false, not_false_eq_true, true_or, or_true, lc_eq, lc_ne, lc_lt, lc_ge, lc_gt, lc_le, nI_add, lN_add, nI_leI, nI_ltI, nI_eq, nI_clamp, pk_lLT, pk_lLE, pk_lEQ, pk_sub, vp_inT, nz_eq, nz_lt, nz_ge, nz_gt, nz_le, lz_eq, lz_lt, lz_ge, hP1, hP2, hP3, hP4, hP5, hP6, hP7, hP8, hP9, hP10, hP11, hP12, hP13, hP14, hP15, hP16, hP17, hP18, hP19, hP20, s0, hl, hQ]
  · have hx : key ^^^ last < 2 ^ 40 := Nat.xor_lt_two_pow hk hla
    simp (disch := omega) only [u_114_0, B_114_0, u_114_11, B_114_11, nI1T, Nat.left_eq_add, Nat.add_eq_left, Nat.add_eq_zero_iff, and_false, false_and, if_false, if_true, opsN, opsC, pm_1, lg, ls1, ls2, lq, List.length_cons, List.length_nil, cN, cL, callE, retV, retN, pm_pop, pm_cat, List.map_cons, List.map_nil, List.sum_cons, List.sum_nil, Value.category, Option.toList, List.cons_append, List.nil_append, reduceIte, reduceCtorEq, Nat.reduceAdd, Nat.reduceLT, Nat.reduceLeDiff, Nat.reduceSub, Nat.reduceEqDiff, Nat.zero_le, Nat.sub_zero, Nat.le_refl, true_and, and_true, not_true_eq_false, not_false_eq_true, true_or, or_true, lc_eq, lc_ne, lc_lt, lc_ge, lc_gt, lc_le, nI_add, lN_add, nI_leI, nI_ltI, nI_eq, nI_clamp, pk_lLT, pk_lLE, pk_lEQ, pk_sub, vp_inT, nz_eq, nz_lt, nz_ge, nz_gt, nz_le, lz_eq, lz_lt, lz_ge, hP1, hP2, hP3, hP4, hP5, hP6, hP7, hP8, hP9, hP10, hP11, hP12, hP13, hP14, hP15, hP16, hP17, hP18, hP19, hP20, s0, hl, e, hb, ln_xor]
    rw [ln_ushr (by omega) (by omega)]
    have z := l114 d hs hb h1 h4 hk hx 40 0 (by omega) (by omega) (Q := Q) (by
      rw [Nat.mul_zero, Nat.pow_zero, Nat.div_one]
      exact fun q => e (xor_z.mp q))
    rw [Nat.zero_add, Nat.mul_one] at z
    refine z fun q h1 h2 _ => ?_
    have hp : bkP bits last key q := by
      refine ⟨(xor_lt _ _ _).mp ?_, fun r => h1 ?_⟩
      · exact (Nat.div_eq_zero_iff_lt (Nat.two_pow_pos _)).mp h2
      · exact (Nat.div_eq_zero_iff_lt (Nat.two_pow_pos _)).mpr ((xor_lt _ _ _).mpr r)
    rw [bk_eq (by omega) hp] at hQ
    exact hQ
/-- what is seen of a queue's row -/
theorem wv_0 {s w : Nat} (h : s = 0) : wv s w = nI w := by unfold wv; rw [if_pos h]
theorem wv_n {s w : Nat} (h : ¬ s = 0) : (0 ≤ wv s w) = False := by
  unfold wv
  rw [if_neg h]
  split <;> exact eq_false (by decide)
theorem wv_lt {s w : Nat} (h : ¬ s = 0) : (wv s w < 0) = True := by
  unfold wv
  rw [if_neg h]
  split <;> exact eq_true (by decide)
theorem c104t (d : Nat) {h : pm_H} {b cap bits limit i : Nat} {A : Qs} {Q : pm_Q} (hB : isB h b cap bits limit A) (hC : qC A ≤ 300) (hi : i < qC A) (hQ : Q (.inl (some (.int (nI 1)))) h) : pm_M PP (d + 1) 104 [.ref b, .int (nI i)] h Q := by
  obtain ⟨⟨s0, s1, s2, s3, s4, s5, s6, s7, s8, s9, s10, s11, s12, s13, s14, s15, s16⟩, f4, f5, f6, f7, f8, f9, rK, rW, rM, rN⟩ := hB
  have hi2 : ¬ qC A ≤ i := by omega
  rw [e_104]
  simp (disch := omega) only [u_104_0, B_104_0, u_104_16, B_104_16, u_104_17, B_104_17, nI1T, Nat.left_eq_add, Nat.add_eq_left, Nat.add_eq_zero_iff, and_false, false_and, if_false, if_true, opsN, opsC, pm_1, lg, ls1, ls2, lq, List.length_cons, List.length_nil, cN, cL, callE, retV, retN, pm_pop, pm_cat, List.map_cons, List.map_nil, List.sum_cons, List.sum_nil, Value.category, Option.toList, List.cons_append, List.nil_append, reduceIte, reduceCtorEq, Nat.reduceAdd, Nat.reduceLT, Nat.reduceLeDiff, Nat.reduceSub, Nat.reduceEqDiff, Nat.zero_le, Nat.sub_zero, Nat.le_refl, true_and, and_true, not_true_eq_false, not_false_eq_true, true_or, or_true, lc_eq, lc_ne, lc_lt, lc_ge, lc_gt, lc_le, nI_add, lN_add, nI_leI, nI_ltI, nI_eq, nI_clamp, pk_lLT, pk_lLE, pk_lEQ, pk_sub, vp_inT, nz_eq, nz_lt, nz_ge, nz_gt, nz_le, lz_eq, lz_lt, lz_ge, hP1, hP2, hP3, hP4, hP5, hP6, hP7, hP8, hP9, hP10, hP11, hP12, hP13, hP14, hP15, hP16, hP17, hP18, hP19, hP20, s0, f8, hi2, hQ]
theorem c104f (d : Nat) {h : pm_H} {b cap bits limit : Nat} {x : Int32} {A : Qs} {Q : pm_Q} (hB : isB h b cap bits limit A) (hi : x < 0 ∨ nI (qC A) ≤ x) (hQ : Q (.inl (some (.int (nI 0)))) h) : pm_M PP (d + 1) 104 [.ref b, .int x] h Q := by
  obtain ⟨⟨s0, s1, s2, s3, s4, s5, s6, s7, s8, s9, s10, s11, s12, s13, s14, s15, s16⟩, f4, f5, f6, f7, f8, f9, rK, rW, rM, rN⟩ := hB
  rw [e_104]
  by_cases hx : x < 0
  · simp (disch := omega) only [u_104_0, B_104_0, u_104_16, B_104_16, u_104_17, B_104_17, nI1T, Nat.left_eq_add, Nat.add_eq_left, Nat.add_eq_zero_iff, and_false, false_and, if_false, if_true, opsN, opsC, pm_1, lg, ls1, ls2, lq, List.length_cons, List.length_nil, cN, cL, callE, retV, retN, pm_pop, pm_cat, List.map_cons, List.map_nil, List.sum_cons, List.sum_nil, Value.category, Option.toList, List.cons_append, List.nil_append, reduceIte, reduceCtorEq, Nat.reduceAdd, Nat.reduceLT, Nat.reduceLeDiff, Nat.reduceSub, Nat.reduceEqDiff, Nat.zero_le, Nat.sub_zero, Nat.le_refl, true_and, and_true, not_true_eq_false, not_false_eq_true, true_or, or_true, lc_eq, lc_ne, lc_lt, lc_ge, lc_gt, lc_le, nI_add, lN_add, nI_leI, nI_ltI, nI_eq, nI_clamp, pk_lLT, pk_lLE, pk_lEQ, pk_sub, vp_inT, nz_eq, nz_lt, nz_ge, nz_gt, nz_le, lz_eq, lz_lt, lz_ge, hP1, hP2, hP3, hP4, hP5, hP6, hP7, hP8, hP9, hP10, hP11, hP12, hP13, hP14, hP15, hP16, hP17, hP18, hP19, hP20, s0, f8, hx, hQ]
  · have h2 := hi.resolve_left hx
    simp (disch := omega) only [u_104_0, B_104_0, u_104_16, B_104_16, u_104_17, B_104_17, nI1T, Nat.left_eq_add, Nat.add_eq_left, Nat.add_eq_zero_iff, and_false, false_and, if_false, if_true, opsN, opsC, pm_1, lg, ls1, ls2, lq, List.length_cons, List.length_nil, cN, cL, callE, retV, retN, pm_pop, pm_cat, List.map_cons, List.map_nil, List.sum_cons, List.sum_nil, Value.category, Option.toList, List.cons_append, List.nil_append, reduceIte, reduceCtorEq, Nat.reduceAdd, Nat.reduceLT, Nat.reduceLeDiff, Nat.reduceSub, Nat.reduceEqDiff, Nat.zero_le, Nat.sub_zero, Nat.le_refl, true_and, and_true, not_true_eq_false, not_false_eq_true, true_or, or_true, lc_eq, lc_ne, lc_lt, lc_ge, lc_gt, lc_le, nI_add, lN_add, nI_leI, nI_ltI, nI_eq, nI_clamp, pk_lLT, pk_lLE, pk_lEQ, pk_sub, vp_inT, nz_eq, nz_lt, nz_ge, nz_gt, nz_le, lz_eq, lz_lt, lz_ge, hP1, hP2, hP3, hP4, hP5, hP6, hP7, hP8, hP9, hP10, hP11, hP12, hP13, hP14, hP15, hP16, hP17, hP18, hP19, hP20, s0, f8, hx, h2, hQ]
theorem c105t (d : Nat) {h : pm_H} {b cap bits limit i : Nat} {A : Qs} {Q : pm_Q} (hB : isB h b cap bits limit A) (hI : qI bits limit A) (hi : i < qC A) (hw : qS A i = 0) (hQ : Q (.inl (some (.int (nI 1)))) h) : pm_M PP (d + 1) 105 [.ref b, .int (nI i)] h Q := by
  obtain ⟨⟨s0, s1, s2, s3, s4, s5, s6, s7, s8, s9, s10, s11, s12, s13, s14, s15, s16⟩, f4, f5, f6, f7, f8, f9, rK, rW, rM, rN⟩ := hB
  obtain ⟨i1, i2, i3, i4, i5, i6, i7, i8, i9, i10, i11, i12⟩ := hI
  have hi2 : ¬ qC A ≤ i := by omega
  have hb : qW A i < 160 := by
    have := i10 i ((i8 i).mpr ⟨hi, hw⟩)
    rw [this.1]
    exact bk_bound (by omega) i2 (i6 i hi) i5
  rw [e_105]
  simp (disch := omega) only [u_105_0, B_105_0, u_105_25, B_105_25, u_105_26, B_105_26, nI1T, Nat.left_eq_add, Nat.add_eq_left, Nat.add_eq_zero_iff, and_false, false_and, if_false, if_true, opsN, opsC, pm_1, lg, ls1, ls2, lq, List.length_cons, List.length_nil, cN, cL, callE, retV, retN, pm_pop, pm_cat, List.map_cons, List.map_nil, List.sum_cons, List.sum_nil, Value.category, Option.toList, List.cons_append, List.nil_append, reduceIte, reduceCtorEq, Nat.reduceAdd, Nat.reduceLT, Nat.reduceLeDiff, Nat.reduceSub, Nat.reduceEqDiff, Nat.zero_le, Nat.sub_zero, Nat.le_refl, true_and, and_true, not_true_eq_false, not_false_eq_true, true_or, or_true, lc_eq, lc_ne, lc_lt, lc_ge, lc_gt, lc_le, nI_add, lN_add, nI_leI, nI_ltI, nI_eq, nI_clamp, pk_lLT, pk_lLE, pk_lEQ, pk_sub, vp_inT, nz_eq, nz_lt, nz_ge, nz_gt, nz_le, lz_eq, lz_lt, lz_ge, hP1, hP2, hP3, hP4, hP5, hP6, hP7, hP8, hP9, hP10, hP11, hP12, hP13, hP14, hP15, hP16, hP17, hP18, hP19, hP20, s0, s1, s2, s3, s4, s5, s6, s7, s8, s9, s10, s11, s12, s13, s14, s15, f5, f6, f7, f8, f9, rW, hi2, wv_0 hw, hQ]
theorem c105f (d : Nat) {h : pm_H} {b cap bits limit i : Nat} {A : Qs} {Q : pm_Q} (hB : isB h b cap bits limit A) (hI : qI bits limit A) (hi : i < qC A) (hw : ¬ qS A i = 0) (hQ : Q (.inl (some (.int (nI 0)))) h) : pm_M PP (d + 1) 105 [.ref b, .int (nI i)] h Q := by
  obtain ⟨⟨s0, s1, s2, s3, s4, s5, s6, s7, s8, s9, s10, s11, s12, s13, s14, s15, s16⟩, f4, f5, f6, f7, f8, f9, rK, rW, rM, rN⟩ := hB
  obtain ⟨i1, i2, i3, i4, i5, i6, i7, i8, i9, i10, i11, i12⟩ := hI
  have hi2 : ¬ qC A ≤ i := by omega
  rw [e_105]
  simp (disch := omega) only [u_105_0, B_105_0, u_105_25, B_105_25, u_105_26, B_105_26, nI1T, Nat.left_eq_add, Nat.add_eq_left, Nat.add_eq_zero_iff, and_false, false_and, if_false, if_true, opsN, opsC, pm_1, lg, ls1, ls2, lq, List.length_cons, List.length_nil, cN, cL, callE, retV, retN, pm_pop, pm_cat, List.map_cons, List.map_nil, List.sum_cons, List.sum_nil, Value.category, Option.toList, List.cons_append, List.nil_append, reduceIte, reduceCtorEq, Nat.reduceAdd, Nat.reduceLT, Nat.reduceLeDiff, Nat.reduceSub, Nat.reduceEqDiff, Nat.zero_le, Nat.sub_zero, Nat.le_refl, true_and, and_true, not_true_eq_false, not_false_eq_true, true_or, or_true, lc_eq, lc_ne, lc_lt, lc_ge, lc_gt, lc_le, nI_add, lN_add, nI_leI, nI_ltI, nI_eq, nI_clamp, pk_lLT, pk_lLE, pk_lEQ, pk_sub, vp_inT, nz_eq, nz_lt, nz_ge, nz_gt, nz_le, lz_eq, lz_lt, lz_ge, hP1, hP2, hP3, hP4, hP5, hP6, hP7, hP8, hP9, hP10, hP11, hP12, hP13, hP14, hP15, hP16, hP17, hP18, hP19, hP20, s0, s1, s2, s3, s4, s5, s6, s7, s8, s9, s10, s11, s12, s13, s14, s15, f5, f6, f7, f8, f9, rW, hi2, wv_lt hw, hQ]
theorem c105n (d : Nat) {h : pm_H} {b cap bits limit : Nat} {x : Int32} {A : Qs} {Q : pm_Q} (hB : isB h b cap bits limit A) (hi : x < 0 ∨ nI (qC A) ≤ x) (hQ : Q (.inl (some (.int (nI 0)))) h) : pm_M PP (d + 1) 105 [.ref b, .int x] h Q := by
  obtain ⟨⟨s0, s1, s2, s3, s4, s5, s6, s7, s8, s9, s10, s11, s12, s13, s14, s15, s16⟩, f4, f5, f6, f7, f8, f9, rK, rW, rM, rN⟩ := hB
  rw [e_105]
  by_cases hx : x < 0
  · simp (disch := omega) only [u_105_0, B_105_0, u_105_25, B_105_25, u_105_26, B_105_26, nI1T, Nat.left_eq_add, Nat.add_eq_left, Nat.add_eq_zero_iff, and_false, false_and, if_false, if_true, opsN, opsC, pm_1, lg, ls1, ls2, lq, List.length_cons, List.length_nil, cN, cL, callE, retV, retN, pm_pop, pm_cat, List.map_cons, List.map_nil, List.sum_cons, List.sum_nil, Value.category, Option.toList, List.cons_append, List.nil_append, reduceIte, reduceCtorEq, Nat.reduceAdd, Nat.reduceLT, Nat.reduceLeDiff, Nat.reduceSub, Nat.reduceEqDiff, Nat.zero_le, Nat.sub_zero, Nat.le_refl, true_and, and_true, not_true_eq_false, not_false_eq_true, true_or, or_true, lc_eq, lc_ne, lc_lt, lc_ge, lc_gt, lc_le, nI_add, lN_add, nI_leI, nI_ltI, nI_eq, nI_clamp, pk_lLT, pk_lLE, pk_lEQ, pk_sub, vp_inT, nz_eq, nz_lt, nz_ge, nz_gt, nz_le, lz_eq, lz_lt, lz_ge, hP1, hP2, hP3, hP4, hP5, hP6, hP7, hP8, hP9, hP10, hP11, hP12, hP13, hP14, hP15, hP16, hP17, hP18, hP19, hP20, s0, f8, hx, hQ]
  · have h2 := hi.resolve_left hx
    simp (disch := omega) only [u_105_0, B_105_0, u_105_25, B_105_25, u_105_26, B_105_26, nI1T, Nat.left_eq_add, Nat.add_eq_left, Nat.add_eq_zero_iff, and_false, false_and, if_false, if_true, opsN, opsC, pm_1, lg, ls1, ls2, lq, List.length_cons, List.length_nil, cN, cL, callE, retV, retN, pm_pop, pm_cat, List.map_cons, List.map_nil, List.sum_cons, List.sum_nil, Value.category, Option.toList, List.cons_append, List.nil_append, reduceIte, reduceCtorEq, Nat.reduceAdd, Nat.reduceLT, Nat.reduceLeDiff, Nat.reduceSub, Nat.reduceEqDiff, Nat.zero_le, Nat.sub_zero, Nat.le_refl, true_and, and_true, not_true_eq_false, not_false_eq_true, true_or, or_true, lc_eq, lc_ne, lc_lt, lc_ge, lc_gt, lc_le, nI_add, lN_add, nI_leI, nI_ltI, nI_eq, nI_clamp, pk_lLT, pk_lLE, pk_lEQ, pk_sub, vp_inT, nz_eq, nz_lt, nz_ge, nz_gt, nz_le, lz_eq, lz_lt, lz_ge, hP1, hP2, hP3, hP4, hP5, hP6, hP7, hP8, hP9, hP10, hP11, hP12, hP13, hP14, hP15, hP16, hP17, hP18, hP19, hP20, s0, f8, hx, h2, hQ]
theorem c106t (d : Nat) {h : pm_H} {b cap bits limit key : Nat} {A : Qs} {Q : pm_Q} (hB : isB h b cap bits limit A) (hI : qI bits limit A) (hk : key < 2 ^ 40) (h1 : qL A ≤ key) (h2 : qC A < limit) (hQ : Q (.inl (some (.int (nI 1)))) h) : pm_M PP (d + 1) 106 [.ref b, .long (lN key)] h Q := by
  obtain ⟨⟨s0, s1, s2, s3, s4, s5, s6, s7, s8, s9, s10, s11, s12, s13, s14, s15, s16⟩, f4, f5, f6, f7, f8, f9, rK, rW, rM, rN⟩ := hB
  obtain ⟨i1, i2, i3, i4, i5, i6, i7, i8, i9, i10, i11, i12⟩ := hI
  have a1 : ¬ key < qL A := by omega
  have a2 : ¬ limit ≤ qC A := by omega
  have a3 : ¬ 1099511627775 < key := by omega
  rw [e_106]
  simp (disch := omega) only [u_106_0, B_106_0, u_106_32, B_106_32, u_106_33, B_106_33, nI1T, Nat.left_eq_add, Nat.add_eq_left, Nat.add_eq_zero_iff, and_false, false_and, if_false, if_true, opsN, opsC, pm_1, lg, ls1, ls2, lq, List.length_cons, List.length_nil, cN, cL, callE, retV, retN, pm_pop, pm_cat, List.map_cons, List.map_nil, List.sum_cons, List.sum_nil, Value.category, Option.toList, List.cons_append, List.nil_append, reduceIte, reduceCtorEq, Nat.reduceAdd, Nat.reduceLT, Nat.reduceLeDiff, Nat.reduceSub, Nat.reduceEqDiff, Nat.zero_le, Nat.sub_zero, Nat.le_refl, true_and, and_true, not_true_eq_false, not_false_eq_true, true_or, or_true, lc_eq, lc_ne, lc_lt, lc_ge, lc_gt, lc_le, nI_add, lN_add, nI_leI, nI_ltI, nI_eq, nI_clamp, pk_lLT, pk_lLE, pk_lEQ, pk_sub, vp_inT, nz_eq, nz_lt, nz_ge, nz_gt, nz_le, lz_eq, lz_lt, lz_ge, hP1, hP2, hP3, hP4, hP5, hP6, hP7, hP8, hP9, hP10, hP11, hP12, hP13, hP14, hP15, hP16, hP17, hP18, hP19, hP20, s0, s1, s2, s3, s4, s5, s6, s7, s8, s9, s10, s11, s12, s13, s14, s15, f5, f6, f7, f8, f9, a1, a2, a3, hQ]
theorem c106f (d : Nat) {h : pm_H} {b cap bits limit key : Nat} {A : Qs} {Q : pm_Q} (hB : isB h b cap bits limit A) (hI : qI bits limit A) (hk : key < 2 ^ 40) (h1 : ¬ (qL A ≤ key ∧ qC A < limit)) (hQ : Q (.inl (some (.int (nI 0)))) h) : pm_M PP (d + 1) 106 [.ref b, .long (lN key)] h Q := by
  obtain ⟨⟨s0, s1, s2, s3, s4, s5, s6, s7, s8, s9, s10, s11, s12, s13, s14, s15, s16⟩, f4, f5, f6, f7, f8, f9, rK, rW, rM, rN⟩ := hB
  obtain ⟨i1, i2, i3, i4, i5, i6, i7, i8, i9, i10, i11, i12⟩ := hI
  have a3 : ¬ 1099511627775 < key := by omega
  rw [e_106]
  by_cases a1 : key < qL A
  · simp (disch := omega) only [u_106_0, B_106_0, u_106_32, B_106_32, u_106_33, B_106_33, nI1T, Nat.left_eq_add, Nat.add_eq_left, Nat.add_eq_zero_iff, and_false, false_and, if_false, if_true, opsN, opsC, pm_1, lg, ls1, ls2, lq, List.length_cons, List.length_nil, cN, cL, callE, retV, retN, pm_pop, pm_cat, List.map_cons, List.map_nil, List.sum_cons, List.sum_nil, Value.category, Option.toList, List.cons_append, List.nil_append, reduceIte, reduceCtorEq, Nat.reduceAdd, Nat.reduceLT, Nat.reduceLeDiff, Nat.reduceSub, Nat.reduceEqDiff, Nat.zero_le, Nat.sub_zero, Nat.le_refl, true_and, and_true, not_true_eq_false, not_false_eq_true, true_or, or_true, lc_eq, lc_ne, lc_lt, lc_ge, lc_gt, lc_le, nI_add, lN_add, nI_leI, nI_ltI, nI_eq, nI_clamp, pk_lLT, pk_lLE, pk_lEQ, pk_sub, vp_inT, nz_eq, nz_lt, nz_ge, nz_gt, nz_le, lz_eq, lz_lt, lz_ge, hP1, hP2, hP3, hP4, hP5, hP6, hP7, hP8, hP9, hP10, hP11, hP12, hP13, hP14, hP15, hP16, hP17, hP18, hP19, hP20, s0, s1, s2, s3, s4, s5, s6, s7, s8, s9, s10, s11, s12, s13, s14, s15, f5, f6, f7, f8, f9, a1, hQ]
  · have a2 : limit ≤ qC A := by omega
    simp (disch := omega) only [u_106_0, B_106_0, u_106_32, B_106_32, u_106_33, B_106_33, nI1T, Nat.left_eq_add, Nat.add_eq_left, Nat.add_eq_zero_iff, and_false, false_and, if_false, if_true, opsN, opsC, pm_1, lg, ls1, ls2, lq, List.length_cons, List.length_nil, cN, cL, callE, retV, retN, pm_pop, pm_cat, List.map_cons, List.map_nil, List.sum_cons, List.sum_nil, Value.category, Option.toList, List.cons_append, List.nil_append, reduceIte, reduceCtorEq, Nat.reduceAdd, Nat.reduceLT, Nat.reduceLeDiff, Nat.reduceSub, Nat.reduceEqDiff, Nat.zero_le, Nat.sub_zero, Nat.le_refl, true_and, and_true, not_true_eq_false, not_false_eq_true, true_or, or_true, lc_eq, lc_ne, lc_lt, lc_ge, lc_gt, lc_le, nI_add, lN_add, nI_leI, nI_ltI, nI_eq, nI_clamp, pk_lLT, pk_lLE, pk_lEQ, pk_sub, vp_inT, nz_eq, nz_lt, nz_ge, nz_gt, nz_le, lz_eq, lz_lt, lz_ge, hP1, hP2, hP3, hP4, hP5, hP6, hP7, hP8, hP9, hP10, hP11, hP12, hP13, hP14, hP15, hP16, hP17, hP18, hP19, hP20, s0, s1, s2, s3, s4, s5, s6, s7, s8, s9, s10, s11, s12, s13, s14, s15, f5, f6, f7, f8, f9, a1, a2, a3, hQ]
