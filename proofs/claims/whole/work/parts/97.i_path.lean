/-! ===== ways: the path ===== -/
def pth (w : WT) : Nat → Nat → List Nat
  | 0, _ => []
  | f + 1, n => n :: (match wB w n with
    | none => []
    | some b => pth w f b)
/-- behind the node itself -/
def rst (w : WT) (f n : Nat) : List Nat := match wB w n with
  | none => []
  | some b => pth w f b
theorem rst_0 {w : WT} {f n : Nat} (h : wB w n = none) : rst w f n = [] := by unfold rst; rw [h]
theorem rst_1 {w : WT} {f n b : Nat} (h : wB w n = some b) : rst w f n = pth w f b := by unfold rst; rw [h]
theorem pth_s {w : WT} {f n : Nat} : pth w (f + 1) n = n :: rst w f n := rfl
theorem pth_ok {bits T : Nat} {w : WT} (hw : wOK bits T w) : ∀ (f n r : Nat), n < 16 → wR w n = some r → r < f → (pth w f n).Nodup ∧ (pth w f n).length ≤ r + 1 ∧ ∀ y, y ∈ pth w f n → y < 16 ∧ ∃ s, wR w y = some s ∧ s ≤ r
  | 0, _, _, _, _, h => absurd h (Nat.not_lt_zero _)
  | f + 1, n, r, hn, hr, hf => by
    rw [pth_s]
    cases hb : wB w n with
    | none =>
      rw [rst_0 hb]
      exact ⟨List.nodup_cons.mpr ⟨List.not_mem_nil, List.nodup_nil⟩, by show 1 ≤ r + 1; omega, fun y hy => by rw [List.mem_singleton.mp hy]; exact ⟨hn, r, hr, Nat.le_refl _⟩⟩
    | some b =>
      rw [rst_1 hb]
      obtain ⟨b16, s, hs, hlt⟩ := hw.2.2.2.2.2.2.2.2.2.1 n b hn hb
      have hsr := hlt r hr
      obtain ⟨i1, i2, i3⟩ := pth_ok hw f b s b16 hs (by omega)
      refine ⟨List.nodup_cons.mpr ⟨fun q => ?_, i1⟩, by rw [List.length_cons]; omega, fun y hy => ?_⟩
      · obtain ⟨_, t, ht, hle⟩ := i3 n q
        rw [hr] at ht
        cases ht
        omega
      · rcases List.mem_cons.mp hy with e | e
        · rw [e]; exact ⟨hn, r, hr, Nat.le_refl _⟩
        · obtain ⟨c1, t, ht, hle⟩ := i3 y e
          exact ⟨c1, t, ht, by omega⟩
def orL : List Nat → Nat → Nat
  | [], a => a
  | n :: r, a => orL r (a ||| 2 ^ n)
theorem or_16 {a n : Nat} (ha : a < 2 ^ 16) (hn : n < 16) : a ||| 2 ^ n < 2 ^ 16 := Nat.or_lt_two_pow ha (Nat.pow_lt_pow_right (by decide) hn)
theorem orL_lt : ∀ (L : List Nat) (a : Nat), a < 2 ^ 16 → (∀ y, y ∈ L → y < 16) → orL L a < 2 ^ 16
  | [], a, h, _ => h
  | n :: r, a, h, hL => orL_lt r _ (or_16 h (hL n (List.mem_cons_self ..))) (fun y hy => hL y (List.mem_cons_of_mem _ hy))
theorem cnF_set {U V : Nat → Bool} {n : Nat} : ∀ (k a : Nat), (∀ j, j ≠ n → V j = U j) → V n = true → U n = false → a ≤ n → n < a + k → cnF V a k = cnF U a k + 1
  | 0, a, _, _, _, h1, h2 => by omega
  | k + 1, a, h0, h1, h2, h3, h4 => by
    show (if V a then 1 else 0) + cnF V (a + 1) k = (if U a then 1 else 0) + cnF U (a + 1) k + 1
    by_cases e : a = n
    · have eq : ∀ (k b : Nat), n < b → cnF V b k = cnF U b k := fun k => by
        induction k with
        | zero => intro b _; rfl
        | succ k ih => intro b hb; show (if V b then 1 else 0) + cnF V (b + 1) k = (if U b then 1 else 0) + cnF U (b + 1) k; rw [ih (b + 1) (by omega), h0 b (by omega)]
      rw [eq k (a + 1) (by omega), e, h1, h2]
      simp only [if_true, Bool.false_eq_true, if_false]
      omega
    · rw [cnF_set k (a + 1) h0 h1 h2 (by omega) (by omega), h0 a e]
      omega
theorem pc_or {a n : Nat} (hn : n < 16) (h0 : a.testBit n = false) : pc 32 (a ||| 2 ^ n) = pc 32 a + 1 := by
  rw [pc_cnF (U := fun k => a.testBit k) 32 0 a (fun k _ => by rw [Nat.zero_add]), pc_cnF (U := fun k => (a ||| 2 ^ n).testBit k) 32 0 (a ||| 2 ^ n) (fun k _ => by rw [Nat.zero_add])]
  refine cnF_set (n := n) 32 0 (fun j hj => ?_) ?_ h0 (Nat.zero_le _) (by omega)
  · show (a ||| 2 ^ n).testBit j = a.testBit j
    rw [Nat.testBit_or, Nat.testBit_two_pow]
    have : decide (n = j) = false := decide_eq_false (fun q => hj q.symm)
    rw [this, Bool.or_false]
  · show (a ||| 2 ^ n).testBit n = true
    rw [Nat.testBit_or, Nat.testBit_two_pow]
    simp
theorem orL_pc : ∀ (L : List Nat) (a : Nat), L.Nodup → (∀ y, y ∈ L → y < 16 ∧ a.testBit y = false) → pc 32 (orL L a) = pc 32 a + L.length
  | [], a, _, _ => by rw [List.length_nil, Nat.add_zero, orL]
  | n :: r, a, hd, hL => by
    obtain ⟨d1, d2⟩ := List.nodup_cons.mp hd
    have hn := hL n (List.mem_cons_self ..)
    show pc 32 (orL r (a ||| 2 ^ n)) = _
    rw [orL_pc r _ d2 (fun y hy => ?_), pc_or hn.1 hn.2, List.length_cons]
    · omega
    · have := hL y (List.mem_cons_of_mem _ hy)
      refine ⟨this.1, ?_⟩
      rw [Nat.testBit_or, Nat.testBit_two_pow, this.2]
      have : decide (n = y) = false := decide_eq_false (fun q => d1 (by rw [q]; exact hy))
      rw [this]; rfl
theorem nI_bv (a : Nat) : (nI a).toBitVec = BitVec.ofNat 32 a := rfl
theorem nI_or {a b : Nat} (ha : a < 2 ^ 32) (hb : b < 2 ^ 32) : nI a ||| nI b = nI (a ||| b) := by
  refine Int32.toBitVec_inj.mp (BitVec.eq_of_toNat_eq ?_)
  rw [Int32.toBitVec_or, BitVec.toNat_or, nI_bv, nI_bv, nI_bv, BitVec.toNat_ofNat, BitVec.toNat_ofNat, BitVec.toNat_ofNat, Nat.mod_eq_of_lt ha, Nat.mod_eq_of_lt hb, Nat.mod_eq_of_lt (Nat.or_lt_two_pow ha hb)]
theorem nI_and {a b : Nat} (ha : a < 2 ^ 32) (hb : b < 2 ^ 32) : nI a &&& nI b = nI (a &&& b) := by
  refine Int32.toBitVec_inj.mp (BitVec.eq_of_toNat_eq ?_)
  rw [Int32.toBitVec_and, BitVec.toNat_and, nI_bv, nI_bv, nI_bv, BitVec.toNat_ofNat, BitVec.toNat_ofNat, BitVec.toNat_ofNat, Nat.mod_eq_of_lt ha, Nat.mod_eq_of_lt hb, Nat.mod_eq_of_lt (Nat.lt_of_le_of_lt Nat.and_le_left ha)]
theorem nI_sb {a b : Nat} (h : b ≤ a) : nI a - nI b = nI (a - b) := by
  refine Int32.toBitVec_inj.mp (BitVec.eq_of_toNat_eq ?_)
  rw [Int32.toBitVec_sub, BitVec.toNat_sub, nI_bv, nI_bv, nI_bv, BitVec.toNat_ofNat, BitVec.toNat_ofNat, BitVec.toNat_ofNat]
  omega
theorem nI_ush {a k : Nat} {s : UInt32} (ha : a < 2 ^ 32) (hk : k < 32) (hs : s.toNat = k) : ((nI a).toUInt32 >>> s).toInt32 = nI (a / 2 ^ k) := by
  refine Int32.toBitVec_inj.mp (BitVec.eq_of_toNat_eq ?_)
  show ((nI a).toUInt32 >>> s).toNat = _
  rw [UInt32.toNat_shiftRight, hs, Nat.mod_eq_of_lt hk, Nat.shiftRight_eq_div_pow]
  show (BitVec.ofNat 32 a).toNat / 2 ^ k = (BitVec.ofNat 32 (a / 2 ^ k)).toNat
  rw [BitVec.toNat_ofNat, BitVec.toNat_ofNat, Nat.mod_eq_of_lt ha, Nat.mod_eq_of_lt (Nat.lt_of_le_of_lt (Nat.div_le_self _ _) ha)]
theorem sh_n : ∀ b, b < 16 → nI 1 <<< (nI b &&& 31) = nI (2 ^ b) := by decide +kernel
theorem or_n {a n : Nat} (ha : a < 2 ^ 16) (hn : n < 16) : nI a ||| nI 1 <<< (nI n &&& 31) = nI (a ||| 2 ^ n) := by
  rw [sh_n n hn, nI_or (by omega) (by have := Nat.pow_lt_pow_right (a := 2) (by decide) hn; omega)]
theorem and_lo {a k : Nat} (ha : a < 2 ^ 32) : a &&& k = a &&& (k % 2 ^ 32) := by
  have h1 : (a &&& k) % 2 ^ 32 = (a % 2 ^ 32) &&& (k % 2 ^ 32) := Nat.and_mod_two_pow
  rw [Nat.mod_eq_of_lt ha, Nat.mod_eq_of_lt (Nat.lt_of_le_of_lt Nat.and_le_left ha)] at h1
  exact h1
theorem pc_0 : ∀ n, pc n 0 = 0
  | 0 => rfl
  | n + 1 => by show 0 % 2 + pc n (0 / 2) = 0; rw [pc_0 n]
theorem pc_add : ∀ (n k X : Nat), pc (n + k) X = pc n X + pc k (X / 2 ^ n)
  | 0, k, X => by rw [Nat.zero_add, Nat.pow_zero, Nat.div_one]; show _ = 0 + _; rw [Nat.zero_add]
  | n + 1, k, X => by
    rw [show n + 1 + k = (n + k) + 1 by omega]
    show X % 2 + pc (n + k) (X / 2) = X % 2 + pc n (X / 2) + _
    rw [pc_add n k (X / 2), Nat.div_div_eq_div_mul, show 2 * 2 ^ n = 2 ^ (n + 1) by rw [Nat.pow_succ, Nat.mul_comm]]
    omega
theorem pc_le : ∀ n X, pc n X ≤ n
  | 0, _ => Nat.le_refl _
  | n + 1, X => by
    have := pc_le n (X / 2)
    show X % 2 + pc n (X / 2) ≤ n + 1
    omega
theorem s3_1 : ((nI 1).toUInt32 &&& Int32.toUInt32 31).toNat = 1 := by decide
theorem s3_2 : ((nI 2).toUInt32 &&& Int32.toUInt32 31).toNat = 2 := by decide
theorem s3_4 : ((nI 4).toUInt32 &&& Int32.toUInt32 31).toNat = 4 := by decide
theorem s3_8 : ((nI 8).toUInt32 &&& Int32.toUInt32 31).toNat = 8 := by decide
theorem s3_16 : ((nI 16).toUInt32 &&& Int32.toUInt32 31).toNat = 16 := by decide
theorem nI_63 (a : Nat) : nI a &&& nI 63 = nI (a % 64) := by
  refine Int32.toBitVec_inj.mp (BitVec.eq_of_toNat_eq ?_)
  rw [Int32.toBitVec_and, BitVec.toNat_and]
  show (BitVec.ofNat 32 a).toNat &&& (BitVec.ofNat 32 63).toNat = (BitVec.ofNat 32 (a % 64)).toNat
  rw [BitVec.toNat_ofNat, BitVec.toNat_ofNat, BitVec.toNat_ofNat]
  have := Nat.and_two_pow_sub_one_eq_mod (a % 2 ^ 32) 6
  have this : (a % 2 ^ 32) &&& 63 = (a % 2 ^ 32) % 64 := this
  show (a % 2 ^ 32) &&& 63 = _
  rw [this]
  omega
theorem q3001 (d : Nat) {h : pm_H} {Q : pm_Q} {X : Nat} (hX : X < 2 ^ 32) : pm_M PP (d + 1) 3001 [.int (nI X)] h Q = Q (.inl (some (.int (nI (pc 32 X))))) h := by
  have z := pc_nat (X := X) (by omega) rfl rfl rfl rfl rfl
  generalize eY : X - ((X / 2 ^ 1) &&& k5) = Y at z
  generalize eZ : (Y &&& k3) + ((Y / 2 ^ 2) &&& k3) = Z at z
  generalize eW : (Z + Z / 16) &&& kf = W at z
  generalize eV1 : W + W / 256 = V1 at z
  generalize eV2 : V1 + V1 / 65536 = V2 at z
  obtain ⟨z1, z2, z3, z4, z5, z6, z7, z8⟩ := z
  have yl : Y < 2 ^ 32 := by omega
  have l5 : (X / 2 ^ 1) &&& k5 = (X / 2 ^ 1) &&& 1431655765 := and_lo (by omega)
  have l3 : Y &&& k3 = Y &&& 858993459 := and_lo yl
  have l3b : (Y / 2 ^ 2) &&& k3 = (Y / 2 ^ 2) &&& 858993459 := and_lo (by omega)
  rw [l5] at eY z1
  rw [l3, l3b] at eZ
  have b1 : Y &&& 858993459 ≤ 858993459 := Nat.and_le_right
  have b2 : (Y / 2 ^ 2) &&& 858993459 ≤ 858993459 := Nat.and_le_right
  have lf : (Z + Z / 16) &&& kf = (Z + Z / 16) &&& 252645135 := and_lo (by omega)
  rw [lf] at eW
  have b3 : (Z + Z / 16) &&& 252645135 ≤ 252645135 := Nat.and_le_right
  have hp : pc 64 X = pc 32 X := by
    rw [show (64 : Nat) = 32 + 32 from rfl, pc_add, Nat.div_eq_of_lt hX, pc_0, Nat.add_zero]
  have hle := pc_le 32 X
  have wl : W ≤ 252645135 := by rw [← eW]; exact Nat.and_le_right
  have v1l : V1 < 2 ^ 30 := by rw [← eV1]; omega
  have v2l : V2 < 2 ^ 31 := by rw [← eV2]; omega
  have e6 : V2 % 64 = pc 32 X := by
    rw [hp, show V2 / 4294967296 = 0 from Nat.div_eq_of_lt (by omega), Nat.add_zero] at z7
    generalize pc 32 X = y at *
    clear z1 z2 z3 z4 z5 z6 z8 eY eZ eW eV1 eV2
    omega
  have a1 : nI X - (((nI X).toUInt32 >>> ((nI 1).toUInt32 &&& Int32.toUInt32 31)).toInt32 &&& nI 1431655765) = nI Y := by
    rw [nI_ush hX (by decide) s3_1, nI_and (by omega) (by decide), nI_sb z1, eY]
  have a2 : (nI Y &&& nI 858993459) + (((nI Y).toUInt32 >>> ((nI 2).toUInt32 &&& Int32.toUInt32 31)).toInt32 &&& nI 858993459) = nI Z := by
    rw [nI_ush yl (by decide) s3_2, nI_and yl (by decide), nI_and (a := Y / 2 ^ 2) (by omega) (by decide), nI_add, eZ]
  have a3 : (nI Z + ((nI Z).toUInt32 >>> ((nI 4).toUInt32 &&& Int32.toUInt32 31)).toInt32) &&& nI 252645135 = nI W := by
    rw [nI_ush (by omega) (by decide) s3_4, nI_add, nI_and (by show Z + Z / 16 < _; omega) (by decide), ← eW]
  have a4 : nI W + ((nI W).toUInt32 >>> ((nI 8).toUInt32 &&& Int32.toUInt32 31)).toInt32 = nI V1 := by
    rw [nI_ush (by omega) (by decide) s3_8, nI_add, ← eV1]
  have a5 : nI V1 + ((nI V1).toUInt32 >>> ((nI 16).toUInt32 &&& Int32.toUInt32 31)).toInt32 = nI V2 := by
    rw [nI_ush (by omega) (by decide) s3_16, nI_add, ← eV2]
  rw [e_3001]
  simp only [u_3001_0, B_3001_0, nI1T, Nat.left_eq_add, Nat.add_eq_left, Nat.add_eq_zero_iff, and_false, false_and, if_false, if_true, opsN, opsC, pm_1, lg, ls1, ls2, lq, List.length_cons, List.length_nil, cN, cL, callE, retV, retN, pm_pop, pm_cat, List.map_cons, List.map_nil, List.sum_cons, List.sum_nil, Value.category, Option.toList, List.cons_append, List.nil_append, ↓reduceIte, reduceCtorEq, Nat.reduceAdd, Nat.reduceLT, Nat.reduceLeDiff, Nat.reduceSub, Nat.reduceEqDiff, Nat.zero_le, Nat.sub_zero, Nat.le_refl, true_and, and_true, not_true_eq_false, not_false_eq_true, true_or, or_true, lc_eq, lc_ne, lc_lt, lc_ge, lc_gt, lc_le, nI_add, lN_add, nI_leI, nI_ltI, nI_eq, nI_clamp, pk_lLT, pk_lLE, pk_lEQ, pk_sub, vp_inT, nz_eq, nz_lt, nz_ge, nz_gt, nz_le, lz_eq, lz_lt, lz_ge, hP1, hP2, hP3, hP4, hP5, hP6, hP7, hP8, hP9, hP10, hP11, hP12, hP13, hP14, hP15, hP16, hP17, hP18, hP19, hP20, a1, a2, a3, a4, a5, nI_63, e6]
