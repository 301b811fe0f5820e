/-! ===== ones counted, by the machine ===== -/
theorem lN_bv (a : Nat) : (lN a).toBitVec = BitVec.ofNat 64 a := rfl
theorem lN_and {a b : Nat} (ha : a < 2 ^ 64) (hb : b < 2 ^ 64) : lN a &&& lN b = lN (a &&& b) := by
  refine Int64.toBitVec_inj.mp (BitVec.eq_of_toNat_eq ?_)
  rw [Int64.toBitVec_and, BitVec.toNat_and, lN_bv, lN_bv, lN_bv, BitVec.toNat_ofNat, BitVec.toNat_ofNat, BitVec.toNat_ofNat, Nat.mod_eq_of_lt ha, Nat.mod_eq_of_lt hb, Nat.mod_eq_of_lt (Nat.lt_of_le_of_lt Nat.and_le_left ha)]
theorem lN_sb {a b : Nat} (h : b ≤ a) : lN a - lN b = lN (a - b) := by
  refine Int64.toBitVec_inj.mp (BitVec.eq_of_toNat_eq ?_)
  rw [Int64.toBitVec_sub, BitVec.toNat_sub, lN_bv, lN_bv, lN_bv, BitVec.toNat_ofNat, BitVec.toNat_ofNat, BitVec.toNat_ofNat]
  omega
theorem lN_ush {a k : Nat} {s : UInt64} (ha : a < 2 ^ 64) (hk : k < 64) (hs : s.toNat = k) : ((lN a).toUInt64 >>> s).toInt64 = lN (a / 2 ^ k) := by
  refine Int64.toBitVec_inj.mp (BitVec.eq_of_toNat_eq ?_)
  show ((lN a).toUInt64 >>> s).toNat = _
  rw [UInt64.toNat_shiftRight, hs, Nat.mod_eq_of_lt hk, Nat.shiftRight_eq_div_pow]
  show (BitVec.ofNat 64 a).toNat / 2 ^ k = (BitVec.ofNat 64 (a / 2 ^ k)).toNat
  rw [BitVec.toNat_ofNat, BitVec.toNat_ofNat, Nat.mod_eq_of_lt ha, Nat.mod_eq_of_lt (Nat.lt_of_le_of_lt (Nat.div_le_self _ _) ha)]
theorem lN_i32 (a : Nat) : (lN a).toInt32 = nI a := by
  refine Int32.toBitVec_inj.mp (BitVec.eq_of_toNat_eq ?_)
  show ((lN a).toBitVec.signExtend 32).toNat = (BitVec.ofNat 32 a).toNat
  rw [lN_bv, BitVec.signExtend_eq_setWidth_of_le _ (by decide), BitVec.toNat_setWidth, BitVec.toNat_ofNat, BitVec.toNat_ofNat]
  omega
theorem nI_127 (a : Nat) : nI a &&& nI 127 = nI (a % 128) := by
  refine Int32.toBitVec_inj.mp (BitVec.eq_of_toNat_eq ?_)
  rw [Int32.toBitVec_and, BitVec.toNat_and]
  show (BitVec.ofNat 32 a).toNat &&& (BitVec.ofNat 32 127).toNat = (BitVec.ofNat 32 (a % 128)).toNat
  rw [BitVec.toNat_ofNat, BitVec.toNat_ofNat, BitVec.toNat_ofNat]
  have := Nat.and_two_pow_sub_one_eq_mod (a % 2 ^ 32) 7
  have this : (a % 2 ^ 32) &&& 127 = (a % 2 ^ 32) % 128 := this
  show (a % 2 ^ 32) &&& 127 = _
  rw [this]
  omega
theorem sh_1 : ((nI 1).toInt64.toUInt64 &&& Int64.toUInt64 63).toNat = 1 := by decide
theorem sh_2 : ((nI 2).toInt64.toUInt64 &&& Int64.toUInt64 63).toNat = 2 := by decide
theorem sh_4 : ((nI 4).toInt64.toUInt64 &&& Int64.toUInt64 63).toNat = 4 := by decide
theorem sh_8 : ((nI 8).toInt64.toUInt64 &&& Int64.toUInt64 63).toNat = 8 := by decide
theorem sh_16 : ((nI 16).toInt64.toUInt64 &&& Int64.toUInt64 63).toNat = 16 := by decide
theorem sh_32 : ((nI 32).toInt64.toUInt64 &&& Int64.toUInt64 63).toNat = 32 := by decide
theorem q3002 (d : Nat) {h : pm_H} {Q : pm_Q} {X : Nat} (hX : X < 2 ^ 64) : pm_M PP (d + 1) 3002 [.long (lN X)] h Q = Q (.inl (some (.int (nI (pc 64 X))))) h := by
  have z := pc_nat hX rfl rfl rfl rfl rfl
  generalize eY : X - ((X / 2 ^ 1) &&& k5) = Y at z
  generalize eZ : (Y &&& k3) + ((Y / 2 ^ 2) &&& k3) = Z at z
  generalize eW : (Z + Z / 16) &&& kf = W at z
  generalize eV1 : W + W / 256 = V1 at z
  generalize eV2 : V1 + V1 / 65536 = V2 at z
  obtain ⟨z1, z2, z3, z4, z5, z6, z7, z8⟩ := z
  have k5l : k5 < 2 ^ 64 := by decide
  have k3l : k3 < 2 ^ 64 := by decide
  have kfl : kf < 2 ^ 64 := by decide
  have a1 : lN X - (((lN X).toUInt64 >>> ((nI 1).toInt64.toUInt64 &&& Int64.toUInt64 63)).toInt64 &&& lN 6148914691236517205) = lN Y := by
    rw [lN_ush hX (by decide) sh_1, show (6148914691236517205 : Nat) = k5 from rfl, lN_and (Nat.lt_of_le_of_lt (Nat.div_le_self _ _) hX) k5l, lN_sb z1, eY]
  have a2 : (lN Y &&& lN 3689348814741910323) + (((lN Y).toUInt64 >>> ((nI 2).toInt64.toUInt64 &&& Int64.toUInt64 63)).toInt64 &&& lN 3689348814741910323) = lN Z := by
    rw [lN_ush z2 (by decide) sh_2, show (3689348814741910323 : Nat) = k3 from rfl, lN_and (Nat.lt_of_le_of_lt (Nat.div_le_self _ _) z2) k3l, lN_and z2 k3l, lN_add, eZ]
  have a3 : (lN Z + ((lN Z).toUInt64 >>> ((nI 4).toInt64.toUInt64 &&& Int64.toUInt64 63)).toInt64) &&& lN 1085102592571150095 = lN W := by
    rw [lN_ush (by omega) (by decide) sh_4, show (1085102592571150095 : Nat) = kf from rfl, lN_add, lN_and (by show Z + Z / 16 < _; omega) kfl, ← eW]
  have a4 : lN W + ((lN W).toUInt64 >>> ((nI 8).toInt64.toUInt64 &&& Int64.toUInt64 63)).toInt64 = lN V1 := by
    rw [lN_ush (by omega) (by decide) sh_8, lN_add, ← eV1]
  have a5 : lN V1 + ((lN V1).toUInt64 >>> ((nI 16).toInt64.toUInt64 &&& Int64.toUInt64 63)).toInt64 = lN V2 := by
    rw [lN_ush (by omega) (by decide) sh_16, lN_add, ← eV2]
  have a6 : lN V2 + ((lN V2).toUInt64 >>> ((nI 32).toInt64.toUInt64 &&& Int64.toUInt64 63)).toInt64 = lN (V2 + V2 / 4294967296) := by
    rw [lN_ush (by omega) (by decide) sh_32, lN_add]
  rw [e_3002]
  simp only [u_3002_0, B_3002_0, nI1T, Nat.left_eq_add, Nat.add_eq_left, Nat.add_eq_zero_iff, and_false, false_and, if_false, if_true, opsN, opsC, pm_1, lg, ls1, ls2, lq, List.length_cons, List.length_nil, cN, cL, callE, retV, retN, pm_pop, pm_cat, List.map_cons, List.map_nil, List.sum_cons, List.sum_nil, Value.category, Option.toList, List.cons_append, List.nil_append, ↓reduceIte, reduceCtorEq, Nat.reduceAdd, Nat.reduceLT, Nat.reduceLeDiff, Nat.reduceSub, Nat.reduceEqDiff, Nat.zero_le, Nat.sub_zero, Nat.le_refl, true_and, and_true, not_true_eq_false, not_false_eq_true, true_or, or_true, lc_eq, lc_ne, lc_lt, lc_ge, lc_gt, lc_le, nI_add, lN_add, nI_leI, nI_ltI, nI_eq, nI_clamp, pk_lLT, pk_lLE, pk_lEQ, pk_sub, vp_inT, nz_eq, nz_lt, nz_ge, nz_gt, nz_le, lz_eq, lz_lt, lz_ge, hP1, hP2, hP3, hP4, hP5, hP6, hP7, hP8, hP9, hP10, hP11, hP12, hP13, hP14, hP15, hP16, hP17, hP18, hP19, hP20, a1, a2, a3, a4, a5, a6, lN_i32, nI_127, z7]
/-- buckets that had items -/
def cnF (U : Nat → Bool) : Nat → Nat → Nat
  | _, 0 => 0
  | a, n + 1 => (if U a then 1 else 0) + cnF U (a + 1) n
theorem pc_cnF {U : Nat → Bool} : ∀ (n a X : Nat), (∀ k, k < n → X.testBit k = U (a + k)) → pc n X = cnF U a n
  | 0, _, _, _ => rfl
  | n + 1, a, X, h => by
    show X % 2 + pc n (X / 2) = (if U a then 1 else 0) + cnF U (a + 1) n
    rw [pc_cnF n (a + 1) (X / 2) (fun k hk => by rw [← Nat.testBit_succ, h (k + 1) (by omega), show a + (k + 1) = a + 1 + k by omega])]
    have h0 := h 0 (by omega)
    rw [Nat.testBit_zero, Nat.add_zero] at h0
    rw [← h0]
    rcases Nat.mod_two_eq_zero_or_one X with e | e <;> rw [e] <;> rfl
theorem cnF_app {U : Nat → Bool} : ∀ (n m a : Nat), cnF U a (n + m) = cnF U a n + cnF U (a + n) m
  | 0, m, a => by show cnF U a (0 + m) = 0 + _; rw [Nat.zero_add, Nat.zero_add]; rfl
  | n + 1, m, a => by
    rw [show n + 1 + m = (n + m) + 1 by omega]
    show (if U a then 1 else 0) + cnF U (a + 1) (n + m) = (if U a then 1 else 0) + cnF U (a + 1) n + _
    rw [cnF_app n m (a + 1), show a + 1 + n = a + (n + 1) by omega, Nat.add_assoc]
theorem cnF_0 {U : Nat → Bool} : ∀ (n a : Nat), (∀ k, a ≤ k → U k = false) → cnF U a n = 0
  | 0, _, _ => rfl
  | n + 1, a, h => by
    show (if U a then 1 else 0) + cnF U (a + 1) n = 0
    rw [h a (Nat.le_refl _), cnF_0 n (a + 1) (fun k hk => h k (by omega))]; rfl
theorem cnF_le {U : Nat → Bool} : ∀ (n a : Nat), cnF U a n ≤ n
  | 0, _ => Nat.le_refl _
  | n + 1, a => by
    have := cnF_le (U := U) n (a + 1)
    show (if U a then 1 else 0) + cnF U (a + 1) n ≤ n + 1
    split <;> omega
theorem l_N (v : Int64) : v = lN v.toBitVec.toNat := Int64.toBitVec_inj.mp (by rw [lN_bv]; exact (BitVec.ofNat_toNat 64 _ |>.trans (BitVec.setWidth_eq _)).symm)
theorem c125 (d : Nat) {h : pm_H} {b cap bits limit : Nat} {A : Qs} {U : Nat → Bool} {Q : pm_Q} (hB : isB h b cap bits limit A) (hF : isF h b U) (h0 : ∀ k, 160 ≤ k → U k = false)
    (hQ : Q (.inl (some (.int (nI (cnF U 0 160))))) h) : pm_M PP (d + 2) 125 [.ref b] h Q := by
  obtain ⟨⟨s0, s1, s2, s3, s4, s5, s6, s7, s8, s9, s10, s11, s12, s13, s14, s15, s16⟩, f4, f5, f6, f7, f8, f9, rK, rW, rM, rN⟩ := hB
  have e0 := l_N (hL h (b + 1) 0)
  have e1 := l_N (hL h (b + 1) 1)
  have e2 := l_N (hL h (b + 1) 2)
  have l0 := (hL h (b + 1) 0).toBitVec.isLt
  have l1 := (hL h (b + 1) 1).toBitVec.isLt
  have l2 := (hL h (b + 1) 2).toBitVec.isLt
  have p0 := pc_cnF (U := U) 64 0 (hL h (b + 1) 0).toBitVec.toNat (fun k hk => by have := hF k (by omega); rw [show k / 64 = 0 by omega, show k % 64 = k by omega] at this; rw [Nat.zero_add]; exact this)
  have p1 := pc_cnF (U := U) 64 64 (hL h (b + 1) 1).toBitVec.toNat (fun k hk => by have := hF (64 + k) (by omega); rw [show (64 + k) / 64 = 1 by omega, show (64 + k) % 64 = k by omega] at this; exact this)
  have p2 := pc_cnF (U := U) 64 128 (hL h (b + 1) 2).toBitVec.toNat (fun k hk => by have := hF (128 + k) (by omega); rw [show (128 + k) / 64 = 2 by omega, show (128 + k) % 64 = k by omega] at this; exact this)
  have e : cnF U 0 64 + cnF U 64 64 + cnF U 128 64 = cnF U 0 160 := by
    have a := cnF_app (U := U) 64 64 0
    have b := cnF_app (U := U) 128 32 0
    have c := cnF_app (U := U) 32 32 128
    have z := cnF_0 (U := U) 32 160 h0
    rw [show (0 : Nat) + 64 = 64 from rfl] at a
    rw [show (0 : Nat) + 128 = 128 from rfl] at b
    have a : cnF U 0 128 = _ := a
    have b : cnF U 0 160 = _ := b
    have c : cnF U 128 64 = cnF U 128 32 + cnF U 160 32 := c
    omega
  rw [← e, ← p0, ← p1, ← p2] at hQ
  generalize (hL h (b + 1) 0).toBitVec.toNat = X0 at *
  generalize (hL h (b + 1) 1).toBitVec.toNat = X1 at *
  generalize (hL h (b + 1) 2).toBitVec.toNat = X2 at *
  rw [e_125]
  simp (disch := omega) only [u_125_0, B_125_0, nI1T, Nat.left_eq_add, Nat.add_eq_left, Nat.add_eq_zero_iff, and_false, false_and, if_false, if_true, opsN, opsC, pm_1, lg, ls1, ls2, lq, List.length_cons, List.length_nil, cN, cL, callE, retV, retN, pm_pop, pm_cat, List.map_cons, List.map_nil, List.sum_cons, List.sum_nil, Value.category, Option.toList, List.cons_append, List.nil_append, ↓reduceIte, reduceCtorEq, Nat.reduceAdd, Nat.reduceLT, Nat.reduceLeDiff, Nat.reduceSub, Nat.reduceEqDiff, Nat.zero_le, Nat.sub_zero, Nat.le_refl, true_and, and_true, not_true_eq_false, not_false_eq_true, true_or, or_true, lc_eq, lc_ne, lc_lt, lc_ge, lc_gt, lc_le, nI_add, lN_add, nI_leI, nI_ltI, nI_eq, nI_clamp, pk_lLT, pk_lLE, pk_lEQ, pk_sub, vp_inT, nz_eq, nz_lt, nz_ge, nz_gt, nz_le, lz_eq, lz_lt, lz_ge, hP1, hP2, hP3, hP4, hP5, hP6, hP7, hP8, hP9, hP10, hP11, hP12, hP13, hP14, hP15, hP16, hP17, hP18, hP19, hP20, s0, s1, s2, s3, s4, s5, s6, s7, s8, s9, s10, s11, s12, s13, s14, s15, f5, f6, f7, f8, f9, e0, e1, e2, q3002 d l0, q3002 d l1, q3002 d l2]
  exact hQ
theorem l1064 (d : Nat) {h : pm_H} {m : Nat} {U : Nat → Bool} {Q : pm_Q} (hs : mS h m) (hU : isU h (m + 26) U) (hQ : Q (.inl (some (.int (nI (cnF U 0 160))))) h) :
    ∀ (n k v : Nat), n + k = 160 → v + cnF U k n = cnF U 0 160 → pm_W PP d 1064 Q 0 0 4 [some (.ref m), some (.int (nI v)), some (.int (nI k))] [] h := by
  intro n
  induction n with
  | zero =>
    intro k v hk hv
    have e : k = 160 := by omega
    subst e
    have hv : v + 0 = cnF U 0 160 := hv
    rw [Nat.add_zero] at hv
    rw [u_1064_4]
    simp (disch := omega) only [B_1064_4, u_1064_36, B_1064_36, nI1T, Nat.left_eq_add, Nat.add_eq_left, Nat.add_eq_zero_iff, and_false, false_and, if_false, if_true, opsN, opsC, pm_1, lg, ls1, ls2, lq, List.length_cons, List.length_nil, cN, cL, callE, retV, retN, pm_pop, pm_cat, List.map_cons, List.map_nil, List.sum_cons, List.sum_nil, Value.category, Option.toList, List.cons_append, List.nil_append, ↓reduceIte, reduceCtorEq, Nat.reduceAdd, Nat.reduceLT, Nat.reduceLeDiff, Nat.reduceSub, Nat.reduceEqDiff, Nat.zero_le, Nat.sub_zero, Nat.le_refl, true_and, and_true, not_true_eq_false, not_false_eq_true, true_or, or_true, lc_eq, lc_ne, lc_lt, lc_ge, lc_gt, lc_le, nI_add, lN_add, nI_leI, nI_ltI, nI_eq, nI_clamp, pk_lLT, pk_lLE, pk_lEQ, pk_sub, vp_inT, nz_eq, nz_lt, nz_ge, nz_gt, nz_le, lz_eq, lz_lt, lz_ge, hP1, hP2, hP3, hP4, hP5, hP6, hP7, hP8, hP9, hP10, hP11, hP12, hP13, hP14, hP15, hP16, hP17, hP18, hP19, hP20, hs.1, m_g16 hs, m_t26 hs, m_n26 hs]
    rw [hv]; exact hQ
  | succ n ih =>
    intro k v hk hv
    have c1 : ¬ 160 ≤ k := by omega
    have c2 : k < 160 := by omega
    have hv : v + ((if U k then 1 else 0) + cnF U (k + 1) n) = cnF U 0 160 := hv
    have hu := hU k c2
    rw [u_1064_4]
    cases e : U k with
    | true =>
      rw [e] at hu hv
      simp only [if_true] at hu hv
      simp (disch := omega) only [B_1064_4, u_1064_28, B_1064_28, nI1T, Nat.left_eq_add, Nat.add_eq_left, Nat.add_eq_zero_iff, and_false, false_and, if_false, if_true, opsN, opsC, pm_1, lg, ls1, ls2, lq, List.length_cons, List.length_nil, cN, cL, callE, retV, retN, pm_pop, pm_cat, List.map_cons, List.map_nil, List.sum_cons, List.sum_nil, Value.category, Option.toList, List.cons_append, List.nil_append, ↓reduceIte, reduceCtorEq, Nat.reduceAdd, Nat.reduceLT, Nat.reduceLeDiff, Nat.reduceSub, Nat.reduceEqDiff, Nat.zero_le, Nat.sub_zero, Nat.le_refl, true_and, and_true, not_true_eq_false, not_false_eq_true, true_or, or_true, lc_eq, lc_ne, lc_lt, lc_ge, lc_gt, lc_le, nI_add, lN_add, nI_leI, nI_ltI, nI_eq, nI_clamp, pk_lLT, pk_lLE, pk_lEQ, pk_sub, vp_inT, nz_eq, nz_lt, nz_ge, nz_gt, nz_le, lz_eq, lz_lt, lz_ge, hP1, hP2, hP3, hP4, hP5, hP6, hP7, hP8, hP9, hP10, hP11, hP12, hP13, hP14, hP15, hP16, hP17, hP18, hP19, hP20, hs.1, m_g16 hs, m_t26 hs, m_n26 hs, c1, c2, hu]
      exact ih (k + 1) (v + 1) (by omega) (by omega)
    | false =>
      rw [e] at hu hv
      simp only [Bool.false_eq_true, if_false] at hu hv
      simp (disch := omega) only [B_1064_4, u_1064_27, B_1064_27, u_1064_28, B_1064_28, nI1T, Nat.left_eq_add, Nat.add_eq_left, Nat.add_eq_zero_iff, and_false, false_and, if_false, if_true, opsN, opsC, pm_1, lg, ls1, ls2, lq, List.length_cons, List.length_nil, cN, cL, callE, retV, retN, pm_pop, pm_cat, List.map_cons, List.map_nil, List.sum_cons, List.sum_nil, Value.category, Option.toList, List.cons_append, List.nil_append, ↓reduceIte, reduceCtorEq, Nat.reduceAdd, Nat.reduceLT, Nat.reduceLeDiff, Nat.reduceSub, Nat.reduceEqDiff, Nat.zero_le, Nat.sub_zero, Nat.le_refl, true_and, and_true, not_true_eq_false, not_false_eq_true, true_or, or_true, lc_eq, lc_ne, lc_lt, lc_ge, lc_gt, lc_le, nI_add, lN_add, nI_leI, nI_ltI, nI_eq, nI_clamp, pk_lLT, pk_lLE, pk_lEQ, pk_sub, vp_inT, nz_eq, nz_lt, nz_ge, nz_gt, nz_le, lz_eq, lz_lt, lz_ge, hP1, hP2, hP3, hP4, hP5, hP6, hP7, hP8, hP9, hP10, hP11, hP12, hP13, hP14, hP15, hP16, hP17, hP18, hP19, hP20, hs.1, m_g16 hs, m_t26 hs, m_n26 hs, c1, c2, hu]
      exact ih (k + 1) v (by omega) (by omega)
theorem c1064 (d : Nat) {h : pm_H} {m : Nat} {U : Nat → Bool} {Q : pm_Q} (hs : mS h m) (hU : isU h (m + 26) U) (hQ : Q (.inl (some (.int (nI (cnF U 0 160))))) h) : pm_M PP (d + 1) 1064 [.ref m] h Q := by
  rw [e_1064]
  simp (disch := omega) only [u_1064_0, B_1064_0, nI1T, Nat.left_eq_add, Nat.add_eq_left, Nat.add_eq_zero_iff, and_false, false_and, if_false, if_true, opsN, opsC, pm_1, lg, ls1, ls2, lq, List.length_cons, List.length_nil, cN, cL, callE, retV, retN, pm_pop, pm_cat, List.map_cons, List.map_nil, List.sum_cons, List.sum_nil, Value.category, Option.toList, List.cons_append, List.nil_append, ↓reduceIte, reduceCtorEq, Nat.reduceAdd, Nat.reduceLT, Nat.reduceLeDiff, Nat.reduceSub, Nat.reduceEqDiff, Nat.zero_le, Nat.sub_zero, Nat.le_refl, true_and, and_true, not_true_eq_false, not_false_eq_true, true_or, or_true, lc_eq, lc_ne, lc_lt, lc_ge, lc_gt, lc_le, nI_add, lN_add, nI_leI, nI_ltI, nI_eq, nI_clamp, pk_lLT, pk_lLE, pk_lEQ, pk_sub, vp_inT, nz_eq, nz_lt, nz_ge, nz_gt, nz_le, lz_eq, lz_lt, lz_ge, hP1, hP2, hP3, hP4, hP5, hP6, hP7, hP8, hP9, hP10, hP11, hP12, hP13, hP14, hP15, hP16, hP17, hP18, hP19, hP20]
  exact l1064 d hs hU hQ 160 0 0 (by omega) (by omega)
