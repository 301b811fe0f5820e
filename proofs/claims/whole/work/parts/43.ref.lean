/-! ===== THE REFERENCE'S QUEUE: one row of long numbers ===== -/
theorem ln_sm : ∀ k, k < 64 → ((lN k).toBitVec.smod 64).toNat = k := by decide +kernel
theorem ln_shr {n k : Nat} (hn : n < 2 ^ 62) (hk : k < 64) : lN n >>> ((nI k).toInt64 &&& 63) = lN (n / 2 ^ k) := by
  rw [ln_c k hk]
  have hd : n / 2 ^ k ≤ n := Nat.div_le_self _ _
  apply Int64.toInt_inj.mp
  have e : (lN n >>> lN k).toInt = (lN n).toInt >>> ((lN k).toBitVec.smod 64).toNat := BitVec.toInt_sshiftRight ..
  rw [e, ln_sm k hk, Int.shiftRight_eq_div_pow, pk_lT (by omega), pk_lT (by omega)]
  rfl
theorem ln_and {a b : Nat} (ha : a < 2 ^ 63) (hb : b < 2 ^ 63) : lN a &&& lN b = lN (a &&& b) := by
  apply ln_inj
  rw [Int64.toBitVec_and, ln_tb, ln_tb, ln_tb]
  apply BitVec.eq_of_toNat_eq
  have := Nat.and_lt_two_pow a (show b < 2 ^ 64 by omega)
  rw [BitVec.toNat_and, BitVec.toNat_ofNat, BitVec.toNat_ofNat, BitVec.toNat_ofNat, Nat.mod_eq_of_lt (show a < 2 ^ 64 by omega), Nat.mod_eq_of_lt (show b < 2 ^ 64 by omega), Nat.mod_eq_of_lt this]
theorem ln_and1 {a : Nat} (ha : a < 2 ^ 63) : lN a &&& lN 1 = lN (a % 2) := by
  rw [ln_and ha (by decide)]
  congr 1
  exact Nat.and_one_is_mod a
theorem ln_shl1 : ∀ b, b < 5 → lN 1 <<< ((nI b).toInt64 &&& 63) = lN (2 ^ b) := by decide +kernel
theorem ln_msk {a b : Nat} (ha : a < 2 ^ 63) (hb : b < 5) : lN a &&& lN (2 ^ b - 1) = lN (a % 2 ^ b) := by
  have : 2 ^ b < 2 ^ 63 := Nat.pow_lt_pow_right (by decide) (by omega)
  rw [ln_and ha (by omega), Nat.and_two_pow_sub_one_eq_mod]

theorem x1010 (d : Nat) {h : pm_H} {bits last key n : Nat} {Q : pm_Q} (h1 : 1 ≤ bits) (h4 : bits ≤ 4) (hk : key < 2 ^ 40) (hn : n < 64) (hc : n / bits * bits < 64) (hdg : 0 < key / 2 ^ (n / bits * bits) % 2 ^ bits)
    (hQ : Q (.inl (some (.int (nI (n / bits * (2 ^ bits - 1) + key / 2 ^ (n / bits * bits) % 2 ^ bits))))) h) :
    pm_W PP d 1010 Q 0 0 31 [some (.long (lN last)), none, some (.long (lN key)), none, some (.int (nI bits)), some (.int (nI n)), none, none] [] h := by
  have hz : ¬ bits = 0 := by omega
  have hpl : n / bits ≤ n := Nat.div_le_self _ _
  have hkd : key / 2 ^ (n / bits * bits) ≤ key := Nat.div_le_self _ _
  have h2 : 0 < 2 ^ bits := Nat.two_pow_pos bits
  have a1 : nI n / nI bits = nI (n / bits) := pk_div (by omega) (by omega) (by omega)
  have a2 := ln_shr (n := key) (k := n / bits * bits) (by omega) hc
  have a3 := ln_shl1 bits (by omega)
  have a4 := sh_b bits (by omega)
  have a5 := ln_msk (a := key / 2 ^ (n / bits * bits)) (b := bits) (by omega) (by omega)
  have a6 : lN (2 ^ bits) - lN 1 = lN (2 ^ bits - 1) := lN_sub (by omega)
  have a7 : nI (2 ^ bits) - nI 1 = nI (2 ^ bits - 1) := pk_sub (by omega)
  have e2 : 1 + n / bits * (2 ^ bits - 1) + key / 2 ^ (n / bits * bits) % 2 ^ bits - 1 = n / bits * (2 ^ bits - 1) + key / 2 ^ (n / bits * bits) % 2 ^ bits := by omega
  have a8 : nI (1 + n / bits * (2 ^ bits - 1) + key / 2 ^ (n / bits * bits) % 2 ^ bits) - nI 1 = nI (n / bits * (2 ^ bits - 1) + key / 2 ^ (n / bits * bits) % 2 ^ bits) := by rw [pk_sub (by omega), e2]
  simp (disch := omega) only [u_1010_31, B_1010_31, nI1T, Nat.left_eq_add, Nat.add_eq_left, Nat.add_eq_zero_iff, and_false, false_and, if_false, if_true, opsN, opsC, pm_1, lg, ls1, ls2, lq, List.length_cons, List.length_nil, cN, cL, callE, retV, retN, pm_pop, pm_cat, List.map_cons, List.map_nil, List.sum_cons, List.sum_nil, Value.category, Option.toList, List.cons_append, List.nil_append, reduceIte, reduceCtorEq, Nat.reduceAdd, Nat.reduceLT, Nat.reduceLeDiff, Nat.reduceSub, Nat.reduceEqDiff, Nat.zero_le, Nat.sub_zero, Nat.le_refl, true_and, and_true, not_true_eq_false, not_false_eq_true, true_or, or_true, lc_eq, lc_ne, lc_lt, lc_ge, lc_gt, lc_le, nI_add, lN_add, nI_leI, nI_ltI, nI_eq, nI_clamp, pk_lLT, pk_lLE, pk_lEQ, pk_sub, vp_inT, nz_eq, nz_lt, nz_ge, nz_gt, nz_le, lz_eq, lz_lt, lz_ge, hP1, hP2, hP3, hP4, hP5, hP6, hP7, hP8, hP9, hP10, hP11, hP12, hP13, hP14, hP15, hP16, hP17, hP18, hP19, hP20, hz, a1, pk_mul, a2, a3, a6, a5, lN_i, a4, a7, a8]
  exact hQ
theorem l1010 (d : Nat) {h : pm_H} {bits last key : Nat} {Q : pm_Q} (h1 : 1 ≤ bits) (h4 : bits ≤ 4) (hk : key < 2 ^ 40) (hl : last < 2 ^ 40) (hle : last ≤ key) (hne : key ≠ last) (hQ : Q (.inl (some (.int (nI (bk bits last key))))) h) :
    ∀ n, n < 64 → last ^^^ key < 2 ^ (n + 1) → pm_W PP d 1010 Q 0 0 12 [some (.long (lN last)), none, some (.long (lN key)), none, some (.int (nI bits)), some (.int (nI n)), none, none] [] h := by
  have hx : last ^^^ key < 2 ^ 40 := Nat.xor_lt_two_pow hl hk
  have hx0 : last ^^^ key ≠ 0 := fun q => hne (xor_z.mp q).symm
  intro n
  induction n with
  | zero =>
    intro _ hlt
    have e : (last ^^^ key) / 2 ^ 0 = 1 := by rw [Nat.pow_zero, Nat.div_one]; omega
    have hp : bkP bits last key (0 / bits) := by
      rw [Nat.zero_div]
      refine ⟨(xor_lt _ _ _).mp ?_, fun q => ?_⟩
      · rw [Nat.xor_comm]
        refine Nat.lt_of_lt_of_le hlt (Nat.pow_le_pow_right (by decide) (by omega))
      · rw [Nat.mul_zero, Nat.pow_zero, Nat.div_one, Nat.div_one] at q; exact hne q
    have hb := bk_eq (by omega) hp
    have hdg := bk_digit hp hle
    have h40 := bk_p40 hk hl hp
    rw [Nat.mul_comm bits] at hdg hb h40
    rw [hb] at hQ
    rw [u_1010_12]
    simp (disch := omega) only [B_1010_12, nI1T, Nat.left_eq_add, Nat.add_eq_left, Nat.add_eq_zero_iff, and_false, false_and, if_false, if_true, opsN, opsC, pm_1, lg, ls1, ls2, lq, List.length_cons, List.length_nil, cN, cL, callE, retV, retN, pm_pop, pm_cat, List.map_cons, List.map_nil, List.sum_cons, List.sum_nil, Value.category, Option.toList, List.cons_append, List.nil_append, reduceIte, reduceCtorEq, Nat.reduceAdd, Nat.reduceLT, Nat.reduceLeDiff, Nat.reduceSub, Nat.reduceEqDiff, Nat.zero_le, Nat.sub_zero, Nat.le_refl, true_and, and_true, not_true_eq_false, not_false_eq_true, true_or, or_true, lc_eq, lc_ne, lc_lt, lc_ge, lc_gt, lc_le, nI_add, lN_add, nI_leI, nI_ltI, nI_eq, nI_clamp, pk_lLT, pk_lLE, pk_lEQ, pk_sub, vp_inT, nz_eq, nz_lt, nz_ge, nz_gt, nz_le, lz_eq, lz_lt, lz_ge, hP1, hP2, hP3, hP4, hP5, hP6, hP7, hP8, hP9, hP10, hP11, hP12, hP13, hP14, hP15, hP16, hP17, hP18, hP19, hP20, ln_xor, ln_shr, e, ln_and1]
    exact x1010 d h1 h4 hk (by omega) (by omega) (by omega) hQ
  | succ n ih =>
    intro hn hlt
    have hd2 : (last ^^^ key) / 2 ^ (n + 1) < 2 := by
      rw [Nat.div_lt_iff_lt_mul (Nat.two_pow_pos _), Nat.mul_comm, ← Nat.pow_succ]; exact hlt
    by_cases c : last ^^^ key < 2 ^ (n + 1)
    · have e : (last ^^^ key) / 2 ^ (n + 1) = 0 := Nat.div_eq_of_lt c
      rw [u_1010_12]
      have em : nI (n + 1) + -nI 1 = nI n := pk_m1 n
      simp (disch := omega) only [B_1010_12, nI1T, Nat.left_eq_add, Nat.add_eq_left, Nat.add_eq_zero_iff, and_false, false_and, if_false, if_true, opsN, opsC, pm_1, lg, ls1, ls2, lq, List.length_cons, List.length_nil, cN, cL, callE, retV, retN, pm_pop, pm_cat, List.map_cons, List.map_nil, List.sum_cons, List.sum_nil, Value.category, Option.toList, List.cons_append, List.nil_append, reduceIte, reduceCtorEq, Nat.reduceAdd, Nat.reduceLT, Nat.reduceLeDiff, Nat.reduceSub, Nat.reduceEqDiff, Nat.zero_le, Nat.sub_zero, Nat.le_refl, true_and, and_true, not_true_eq_false, not_false_eq_true, true_or, or_true, lc_eq, lc_ne, lc_lt, lc_ge, lc_gt, lc_le, nI_add, lN_add, nI_leI, nI_ltI, nI_eq, nI_clamp, pk_lLT, pk_lLE, pk_lEQ, pk_sub, vp_inT, nz_eq, nz_lt, nz_ge, nz_gt, nz_le, lz_eq, lz_lt, lz_ge, hP1, hP2, hP3, hP4, hP5, hP6, hP7, hP8, hP9, hP10, hP11, hP12, hP13, hP14, hP15, hP16, hP17, hP18, hP19, hP20, ln_xor, ln_shr, e, ln_and1, Nat.zero_mod, em]
      exact ih (by omega) c
    · have e : (last ^^^ key) / 2 ^ (n + 1) = 1 := by
        have : 0 < (last ^^^ key) / 2 ^ (n + 1) := Nat.div_pos (by omega) (Nat.two_pow_pos _)
        omega
      have hp : bkP bits last key ((n + 1) / bits) := by
        refine ⟨(xor_lt _ _ _).mp ?_, fun q => ?_⟩
        · rw [Nat.xor_comm]
          refine Nat.lt_of_lt_of_le hlt (Nat.pow_le_pow_right (by decide) ?_)
          exact Nat.lt_mul_div_succ (n + 1) h1
        · have := (xor_lt _ _ _).mpr q
          rw [Nat.xor_comm] at this
          have h2 : 2 ^ (bits * ((n + 1) / bits)) ≤ 2 ^ (n + 1) := Nat.pow_le_pow_right (by decide) (Nat.mul_div_le _ _)
          omega
      have hb := bk_eq (by omega) hp
      have hdg := bk_digit hp hle
      have h40 := bk_p40 hk hl hp
      rw [Nat.mul_comm bits] at hdg hb h40
      rw [hb] at hQ
      rw [u_1010_12]
      simp (disch := omega) only [B_1010_12, nI1T, Nat.left_eq_add, Nat.add_eq_left, Nat.add_eq_zero_iff, and_false, false_and, if_false, if_true, opsN, opsC, pm_1, lg, ls1, ls2, lq, List.length_cons, List.length_nil, cN, cL, callE, retV, retN, pm_pop, pm_cat, List.map_cons, List.map_nil, List.sum_cons, List.sum_nil, Value.category, Option.toList, List.cons_append, List.nil_append, reduceIte, reduceCtorEq, Nat.reduceAdd, Nat.reduceLT, Nat.reduceLeDiff, Nat.reduceSub, Nat.reduceEqDiff, Nat.zero_le, Nat.sub_zero, Nat.le_refl, true_and, and_true, not_true_eq_false, not_false_eq_true, true_or, or_true, lc_eq, lc_ne, lc_lt, lc_ge, lc_gt, lc_le, nI_add, lN_add, nI_leI, nI_ltI, nI_eq, nI_clamp, pk_lLT, pk_lLE, pk_lEQ, pk_sub, vp_inT, nz_eq, nz_lt, nz_ge, nz_gt, nz_le, lz_eq, lz_lt, lz_ge, hP1, hP2, hP3, hP4, hP5, hP6, hP7, hP8, hP9, hP10, hP11, hP12, hP13, hP14, hP15, hP16, hP17, hP18, hP19, hP20, ln_xor, ln_shr, e, ln_and1]
      exact x1010 d h1 h4 hk hn (by omega) (by omega) hQ
theorem c1010 (d : Nat) {h : pm_H} {bits last key : Nat} {Q : pm_Q} (h1 : 1 ≤ bits) (h4 : bits ≤ 4) (hk : key < 2 ^ 40) (hl : last < 2 ^ 40) (hle : last ≤ key) (hQ : Q (.inl (some (.int (nI (bk bits last key))))) h) :
    pm_M PP (d + 1) 1010 [.long (lN last), .long (lN key), .int (nI bits)] h Q := by
  rw [e_1010]
  by_cases e : last = key
  · subst e
    rw [bk_self] at hQ
    simp (disch := omega) only [u_1010_0, B_1010_0, nI1T, Nat.left_eq_add, Nat.add_eq_left, Nat.add_eq_zero_iff, and_false, false_and, if_false, if_true, opsN, opsC, pm_1, lg, ls1, ls2, lq, List.length_cons, List.length_nil, cN, cL, callE, retV, retN, pm_pop, pm_cat, List.map_cons, List.map_nil, List.sum_cons, List.sum_nil, Value.category, Option.toList, List.cons_append, List.nil_append, reduceIte, reduceCtorEq, Nat.reduceAdd, Nat.reduceLT, Nat.reduceLeDiff, Nat.reduceSub, Nat.reduceEqDiff, Nat.zero_le, Nat.sub_zero, Nat.le_refl, true_and, and_true, not_true_eq_false, not_false_eq_true, true_or, or_true, lc_eq, lc_ne, lc_lt, lc_ge, lc_gt, lc_le, nI_add, lN_add, nI_leI, nI_ltI, nI_eq, nI_clamp, pk_lLT, pk_lLE, pk_lEQ, pk_sub, vp_inT, nz_eq, nz_lt, nz_ge, nz_gt, nz_le, lz_eq, lz_lt, lz_ge, hP1, hP2, hP3, hP4, hP5, hP6, hP7, hP8, hP9, hP10, hP11, hP12, hP13, hP14, hP15, hP16, hP17, hP18, hP19, hP20, hQ]
  · simp (disch := omega) only [u_1010_0, B_1010_0, u_1010_8, B_1010_8, nI1T, Nat.left_eq_add, Nat.add_eq_left, Nat.add_eq_zero_iff, and_false, false_and, if_false, if_true, opsN, opsC, pm_1, lg, ls1, ls2, lq, List.length_cons, List.length_nil, cN, cL, callE, retV, retN, pm_pop, pm_cat, List.map_cons, List.map_nil, List.sum_cons, List.sum_nil, Value.category, Option.toList, List.cons_append, List.nil_append, reduceIte, reduceCtorEq, Nat.reduceAdd, Nat.reduceLT, Nat.reduceLeDiff, Nat.reduceSub, Nat.reduceEqDiff, Nat.zero_le, Nat.sub_zero, Nat.le_refl, true_and, and_true, not_true_eq_false, not_false_eq_true, true_or, or_true, lc_eq, lc_ne, lc_lt, lc_ge, lc_gt, lc_le, nI_add, lN_add, nI_leI, nI_ltI, nI_eq, nI_clamp, pk_lLT, pk_lLE, pk_lEQ, pk_sub, vp_inT, nz_eq, nz_lt, nz_ge, nz_gt, nz_le, lz_eq, lz_lt, lz_ge, hP1, hP2, hP3, hP4, hP5, hP6, hP7, hP8, hP9, hP10, hP11, hP12, hP13, hP14, hP15, hP16, hP17, hP18, hP19, hP20, e]
    have hx : last ^^^ key < 2 ^ 40 := Nat.xor_lt_two_pow hl hk
    exact l1010 d h1 h4 hk hl hle (fun q => e q.symm) hQ 63 (by omega) (Nat.lt_of_lt_of_le hx (Nat.pow_le_pow_right (by decide) (by omega)))
/-! reading and writing a row -/
theorem q_came (d : Nat) {h : pm_H} {q : Nat} {Q : pm_Q} (ht : hT h q = 101) (hn : hN h q = 1503) : pm_M PP (d + 1) 1006 [.ref q] h Q = Q (.inl (some (.int (hL h q 1).toInt32))) h := by
  rw [e_1006]
  simp (disch := omega) only [u_1006_0, B_1006_0, nI1T, Nat.left_eq_add, Nat.add_eq_left, Nat.add_eq_zero_iff, and_false, false_and, if_false, if_true, opsN, opsC, pm_1, lg, ls1, ls2, lq, List.length_cons, List.length_nil, cN, cL, callE, retV, retN, pm_pop, pm_cat, List.map_cons, List.map_nil, List.sum_cons, List.sum_nil, Value.category, Option.toList, List.cons_append, List.nil_append, reduceIte, reduceCtorEq, Nat.reduceAdd, Nat.reduceLT, Nat.reduceLeDiff, Nat.reduceSub, Nat.reduceEqDiff, Nat.zero_le, Nat.sub_zero, Nat.le_refl, true_and, and_true, not_true_eq_false, not_false_eq_true, true_or, or_true, lc_eq, lc_ne, lc_lt, lc_ge, lc_gt, lc_le, nI_add, lN_add, nI_leI, nI_ltI, nI_eq, nI_clamp, pk_lLT, pk_lLE, pk_lEQ, pk_sub, vp_inT, nz_eq, nz_lt, nz_ge, nz_gt, nz_le, lz_eq, lz_lt, lz_ge, hP1, hP2, hP3, hP4, hP5, hP6, hP7, hP8, hP9, hP10, hP11, hP12, hP13, hP14, hP15, hP16, hP17, hP18, hP19, hP20, ht, hn]
theorem q_of (d : Nat) {h : pm_H} {q i w : Nat} {Q : pm_Q} (ht : hT h q = 101) (hn : hN h q = 1503) (hi : i < 300) (hw : w < 5) : pm_M PP (d + 1) 1007 [.ref q, .int (nI i), .int (nI w)] h Q = Q (.inl (some (.long (hL h q (3 + 5 * i + w))))) h := by
  rw [e_1007]
  simp (disch := omega) only [u_1007_0, B_1007_0, nI1T, Nat.left_eq_add, Nat.add_eq_left, Nat.add_eq_zero_iff, and_false, false_and, if_false, if_true, opsN, opsC, pm_1, lg, ls1, ls2, lq, List.length_cons, List.length_nil, cN, cL, callE, retV, retN, pm_pop, pm_cat, List.map_cons, List.map_nil, List.sum_cons, List.sum_nil, Value.category, Option.toList, List.cons_append, List.nil_append, reduceIte, reduceCtorEq, Nat.reduceAdd, Nat.reduceLT, Nat.reduceLeDiff, Nat.reduceSub, Nat.reduceEqDiff, Nat.zero_le, Nat.sub_zero, Nat.le_refl, true_and, and_true, not_true_eq_false, not_false_eq_true, true_or, or_true, lc_eq, lc_ne, lc_lt, lc_ge, lc_gt, lc_le, nI_add, lN_add, nI_leI, nI_ltI, nI_eq, nI_clamp, pk_lLT, pk_lLE, pk_lEQ, pk_sub, vp_inT, nz_eq, nz_lt, nz_ge, nz_gt, nz_le, lz_eq, lz_lt, lz_ge, hP1, hP2, hP3, hP4, hP5, hP6, hP7, hP8, hP9, hP10, hP11, hP12, hP13, hP14, hP15, hP16, hP17, hP18, hP19, hP20, ht, hn, pk_mul]
theorem q_sets (d : Nat) {h : pm_H} {q i w : Nat} {v : Int64} {Q : pm_Q} (ht : hT h q = 101) (hn : hN h q = 1503) (hi : i < 300) (hw : w < 5) : pm_M PP (d + 1) 1008 [.ref q, .int (nI i), .int (nI w), .long v] h Q = Q (.inl none) (sL h q (va_up (hL h q) (3 + 5 * i + w) v)) := by
  rw [e_1008]
  simp (disch := omega) only [u_1008_0, B_1008_0, nI1T, Nat.left_eq_add, Nat.add_eq_left, Nat.add_eq_zero_iff, and_false, false_and, if_false, if_true, opsN, opsC, pm_1, lg, ls1, ls2, lq, List.length_cons, List.length_nil, cN, cL, callE, retV, retN, pm_pop, pm_cat, List.map_cons, List.map_nil, List.sum_cons, List.sum_nil, Value.category, Option.toList, List.cons_append, List.nil_append, reduceIte, reduceCtorEq, Nat.reduceAdd, Nat.reduceLT, Nat.reduceLeDiff, Nat.reduceSub, Nat.reduceEqDiff, Nat.zero_le, Nat.sub_zero, Nat.le_refl, true_and, and_true, not_true_eq_false, not_false_eq_true, true_or, or_true, lc_eq, lc_ne, lc_lt, lc_ge, lc_gt, lc_le, nI_add, lN_add, nI_leI, nI_ltI, nI_eq, nI_clamp, pk_lLT, pk_lLE, pk_lEQ, pk_sub, vp_inT, nz_eq, nz_lt, nz_ge, nz_gt, nz_le, lz_eq, lz_lt, lz_ge, hP1, hP2, hP3, hP4, hP5, hP6, hP7, hP8, hP9, hP10, hP11, hP12, hP13, hP14, hP15, hP16, hP17, hP18, hP19, hP20, ht, hn, pk_mul]
