/-! ===== NUMBERS AND THE HEAP'S ROWS: small facts for the pure machine ===== -/
theorem lc_eq (x y : Int64) : (lg_cmp x y = 0) = (x = y) := by
  unfold lg_cmp
  refine propext ?_
  split
  · rename_i h
    refine ⟨fun q => absurd q (by decide), fun q => ?_⟩
    rw [q] at h
    exact absurd h (Int64.lt_irrefl)
  · split
    · rename_i h; exact ⟨fun _ => h, fun _ => rfl⟩
    · rename_i h; exact ⟨fun q => absurd q (by decide), fun q => absurd q h⟩
theorem lc_ne (x y : Int64) : (¬ lg_cmp x y = 0) = (¬ x = y) := by rw [lc_eq]
theorem lc_lt (x y : Int64) : (lg_cmp x y < 0) = (x < y) := by
  unfold lg_cmp
  refine propext ?_
  split
  · rename_i h
    exact ⟨fun q => absurd q (by decide), fun q => absurd (Int64.lt_trans h q) (Int64.lt_irrefl)⟩
  · rename_i h0
    split
    · rename_i h; exact ⟨fun q => absurd q (by decide), fun q => by rw [h] at q; exact absurd q (Int64.lt_irrefl)⟩
    · rename_i h
      refine ⟨fun _ => ?_, fun _ => by decide⟩
      have a := Int64.not_lt.mp h0
      exact Int64.lt_iff_le_and_ne.mpr ⟨a, h⟩
theorem lc_ge (x y : Int64) : (0 ≤ lg_cmp x y) = (y ≤ x) := by
  refine propext ?_
  rw [← Int32.not_lt, ← Int64.not_lt, lc_lt]
theorem lc_gt (x y : Int64) : (0 < lg_cmp x y) = (y < x) := by
  unfold lg_cmp
  refine propext ?_
  split
  · rename_i h
    exact ⟨fun _ => h, fun _ => by decide⟩
  · rename_i h0
    split
    · exact ⟨fun q => absurd q (by decide), fun q => absurd q h0⟩
    · exact ⟨fun q => absurd q (by decide), fun q => absurd q h0⟩
theorem lc_le (x y : Int64) : (lg_cmp x y ≤ 0) = (x ≤ y) := by
  refine propext ?_
  rw [← Int32.not_lt, ← Int64.not_lt, lc_gt]
theorem zz_0 : nI 0 = 0 := by decide
theorem zz_1 : nI 1 = 1 := by decide
theorem zz_m1 : - (1 : Int32) = -1 := rfl
theorem zl_0 : lN 0 = 0 := by decide
theorem zl_1 : lN 1 = 1 := by decide
section HP
variable (h : pm_H) (k : Nat) (gi : Nat → Int32) (gl : Nat → Int64) (gr : Nat → Nat)
theorem hP1 : hI (sI h k gi) = va_up (hI h) k gi := rfl
theorem hP2 : hL (sI h k gi) = hL h := rfl
theorem hP3 : hR (sI h k gi) = hR h := rfl
theorem hP4 : hT (sI h k gi) = hT h := rfl
theorem hP5 : hN (sI h k gi) = hN h := rfl
theorem hP6 : hI (sL h k gl) = hI h := rfl
theorem hP7 : hL (sL h k gl) = va_up (hL h) k gl := rfl
theorem hP8 : hR (sL h k gl) = hR h := rfl
theorem hP9 : hT (sL h k gl) = hT h := rfl
theorem hP10 : hN (sL h k gl) = hN h := rfl
theorem hP11 : hI (bmp h) = hI h := rfl
theorem hP12 : hL (bmp h) = hL h := rfl
theorem hP13 : hR (bmp h) = hR h := rfl
theorem hP14 : hT (bmp h) = hT h := rfl
theorem hP15 : hN (bmp h) = hN h := rfl
theorem hP16 : hI (sR h k gr) = hI h := rfl
theorem hP17 : hL (sR h k gr) = hL h := rfl
theorem hP18 : hR (sR h k gr) = va_up (hR h) k gr := rfl
theorem hP19 : hT (sR h k gr) = hT h := rfl
theorem hP20 : hN (sR h k gr) = hN h := rfl
theorem hP21 : hn (sI h k gi) = hn h := rfl
theorem hP22 : hn (sL h k gl) = hn h := rfl
theorem hP23 : hn (bmp h) = hn h := rfl
theorem hP24 : hn (sR h k gr) = hn h := rfl
end HP
/-! long numbers as plain ones -/
theorem ln_tb (n : Nat) : (lN n).toBitVec = BitVec.ofNat 64 n := rfl
theorem ln_inj {a b : Int64} (h : a.toBitVec = b.toBitVec) : a = b := Int64.toBitVec_inj.mp h
theorem ln_xor {a b : Nat} : lN a ^^^ lN b = lN (a ^^^ b) := by
  apply ln_inj
  rw [Int64.toBitVec_xor, ln_tb, ln_tb, ln_tb]
  apply BitVec.eq_of_toNat_eq
  rw [BitVec.toNat_xor, BitVec.toNat_ofNat, BitVec.toNat_ofNat, BitVec.toNat_ofNat]
  exact (Nat.xor_mod_two_pow).symm
theorem ln_cu : ∀ k, k < 64 → ((nI k).toInt64.toUInt64 &&& Int64.toUInt64 63) = UInt64.ofNat k := by decide +kernel
theorem ln_c : ∀ k, k < 64 → ((nI k).toInt64 &&& 63) = lN k := by decide +kernel
theorem ln_ushr {n k : Nat} (hn : n < 2 ^ 63) (hk : k < 64) : ((lN n).toUInt64 >>> ((nI k).toInt64.toUInt64 &&& Int64.toUInt64 63)).toInt64 = lN (n / 2 ^ k) := by
  rw [ln_cu k hk]
  apply ln_inj
  apply BitVec.eq_of_toNat_eq
  have e1 : ((lN n).toUInt64 >>> UInt64.ofNat k).toInt64.toBitVec = ((lN n).toUInt64 >>> UInt64.ofNat k).toBitVec := rfl
  rw [e1]
  have e2 : ((lN n).toUInt64 >>> UInt64.ofNat k).toBitVec.toNat = ((lN n).toUInt64 >>> UInt64.ofNat k).toNat := rfl
  rw [e2, UInt64.toNat_shiftRight]
  have e3 : (lN n).toUInt64.toNat = n % 2 ^ 64 := rfl
  have e4 : (UInt64.ofNat k).toNat = k % 2 ^ 64 := rfl
  have e5 : (lN (n / 2 ^ k)).toBitVec.toNat = n / 2 ^ k % 2 ^ 64 := rfl
  have h2 : n / 2 ^ k ≤ n := Nat.div_le_self _ _
  rw [e3, e4, e5, Nat.mod_eq_of_lt (show n < 2 ^ 64 by omega), Nat.mod_eq_of_lt (show k < 2 ^ 64 by omega), Nat.mod_eq_of_lt (show k < 64 from hk), Nat.shiftRight_eq_div_pow, Nat.mod_eq_of_lt (show n / 2 ^ k < 2 ^ 64 by omega)]
theorem vp_inT {n N : Nat} (h : n < N) (hN : N < 2 ^ 31) : vp_in (nI n) N = True := eq_true (vp_in_nI h hN)
theorem nz_eq {a : Nat} (h : a < 2 ^ 31) : (nI a = 0) = (a = 0) := by rw [← zz_0]; exact propext (nI_eq h (by decide))
theorem nz_lt {a : Nat} (h : a < 2 ^ 31) : (nI a < 0) = False := eq_false (nI_pos h)
theorem nz_ge {a : Nat} (h : a < 2 ^ 31) : (0 ≤ nI a) = True := eq_true (nI_pos' h)
theorem nz_gt {a : Nat} (h : a < 2 ^ 31) : (0 < nI a) = (0 < a) := by rw [← zz_0]; exact propext (nI_ltI (by decide) h)
theorem nz_le {a : Nat} (h : a < 2 ^ 31) : (nI a ≤ 0) = (a = 0) := by rw [← zz_0]; exact propext ((nI_leI h (by decide)).trans Nat.le_zero)
theorem lz_eq {a : Nat} (h : a < 2 ^ 63) : (lN a = 0) = (a = 0) := by rw [← zl_0]; exact propext (pk_lEQ h (by decide))
theorem lz_lt {a : Nat} (h : a < 2 ^ 63) : (lN a < 0) = False := by rw [← zl_0]; exact eq_false fun q => absurd ((pk_lLT h (by decide)).mp q) (Nat.not_lt_zero _)
theorem lz_ge {a : Nat} (h : a < 2 ^ 63) : (0 ≤ lN a) = True := by rw [← zl_0]; exact eq_true ((pk_lLE (by decide) h).mpr (Nat.zero_le _))
theorem sh_b : ∀ b, b < 5 → nI 1 <<< (nI b &&& 31) = nI (2 ^ b) := by decide +kernel
theorem and_b (n : Nat) : ∀ b, b < 5 → nI n &&& nI (2 ^ b - 1) = nI (n % 2 ^ b) := by
  intro b hb
  have : (nI (2 ^ b - 1)).toBitVec.toNat = 2 ^ b - 1 := by
    have : ∀ b, b < 5 → (nI (2 ^ b - 1)).toBitVec.toNat = 2 ^ b - 1 := by decide +kernel
    exact this b hb
  rw [pk_and _ b this]
  congr 1
  show n % 2 ^ 32 % 2 ^ b = n % 2 ^ b
  exact Nat.mod_mod_of_dvd _ (Nat.pow_dvd_pow 2 (by omega))
theorem nI1T : (nI 1 = 1) = True := eq_true (by decide)
theorem va_upE {α : Type} (f : Nat → α) (k : Nat) (v : α) (j : Nat) : va_up f k v j = if j = k then v else f j := rfl
theorem hI_at (h : pm_H) (k : Nat) (g : Nat → Int32) : hI (sI h k g) k = g := by rw [hP1, va_up_self]
theorem sI_sI (h : pm_H) (k : Nat) (g g' : Nat → Int32) : sI (sI h k g) k g' = sI h k g' := by
  show (va_up (va_up h.1 k g) k g', h.2) = (va_up h.1 k g', h.2)
  rw [bx_uu]
theorem sL_sL (h : pm_H) (k : Nat) (g g' : Nat → Int64) : sL (sL h k g) k g' = sL h k g' := by
  show (h.1, va_up (va_up h.2.1 k g) k g', h.2.2) = (h.1, va_up h.2.1 k g', h.2.2)
  rw [bx_uu]
theorem shr6 {n : Nat} (h : n < 2 ^ 31) : nI n >>> (nI 6 &&& 31) = nI (n / 64) := pk_shrN h _ 6 (by decide)
theorem and63 {n : Nat} (h : n < 2 ^ 32) : nI n &&& nI 63 = nI (n % 64) := pk_andN h 6 (by decide)
theorem shl1 : ∀ k, k < 64 → (lN 1 <<< ((nI k).toInt64 &&& 63)).toBitVec = BitVec.twoPow 64 k := by decide +kernel
theorem or_bit (x m : Int64) (k j : Nat) (hk : k < 64) (hj : j < 64) (hm : m.toBitVec = BitVec.twoPow 64 k) : (x ||| m).toBitVec.getLsbD j = (x.toBitVec.getLsbD j || decide (j = k)) := by
  rw [Int64.toBitVec_or, BitVec.getLsbD_or, hm, BitVec.getLsbD_twoPow]
  congr 1
  by_cases e : k = j
  · subst e; simp [hk]
  · simp [e, Ne.symm e]
/-! steps, fully applied -/
section ST
variable (js : List (List Nat)) (hd : Nat → Option (Nat × Nat)) (K : pm_K) (C : pm_C) (Q : pm_Q)
theorem opsN (nx bc bs : Nat) (ls : pm_L) (st : pm_S) (h : pm_H) : pm_ops js hd K C Q nx [] bc bs ls st h = K bc bs nx ls st h := rfl
theorem opsC (nx : Nat) (o : pm_O) (r : List pm_O) (bc bs : Nat) (ls : pm_L) (st : pm_S) (h : pm_H) : pm_ops js hd K C Q nx (o :: r) bc bs ls st h = pm_1 js hd K C Q o (pm_ops js hd K C Q nx r) bc bs ls st h := rfl
/-- behind a call -/
def pm_ret (hd : Nat → Option (Nat × Nat)) (K : pm_K) (Q : pm_Q) (bc bs : Nat) (ls : pm_L) (r : pm_S) (k : pm_k) (res : pm_R) (h : pm_H) : Prop := match res with
  | .inl v => k bc bs ls (v.toList ++ r) h
  | .inr E => match hd E with
    | some (pc, j) => K bc bs pc (ls1 ls j none) [] h
    | none => Q (.inr E) h
theorem retV (bc bs : Nat) (ls : pm_L) (r : pm_S) (k : pm_k) (v : Value) (h : pm_H) : pm_ret hd K Q bc bs ls r k (.inl (some v)) h = k bc bs ls (v :: r) h := rfl
theorem retN (bc bs : Nat) (ls : pm_L) (r : pm_S) (k : pm_k) (h : pm_H) : pm_ret hd K Q bc bs ls r k (.inl none) h = k bc bs ls r h := rfl
theorem retX (bc bs : Nat) (ls : pm_L) (r : pm_S) (k : pm_k) (E : Nat) (h : pm_H) : pm_ret hd K Q bc bs ls r k (.inr E) h = match hd E with
    | some (pc, j) => K bc bs pc (ls1 ls j none) [] h
    | none => Q (.inr E) h := rfl
theorem callE (y cc cs : Nat) (k : pm_k) (bc bs : Nat) (ls : pm_L) (as : List Value) (r : pm_S) (h : pm_H) :
    pm_call hd K C Q y cc cs k bc bs ls as r h = (cc ≤ bc ∧ cs ≤ bs ∧ pm_cat r ≤ 8 ∧ C y as h (pm_ret hd K Q (bc - cc) (bs - cs) ls r k)) := by
  unfold pm_call
  congr 4
end ST
theorem ite_lN (c : Prop) [Decidable c] (a b : Nat) : (if c then lN a else lN b) = lN (if c then a else b) := by split <;> rfl
theorem ite_nI (c : Prop) [Decidable c] (a b : Nat) : (if c then nI a else nI b) = nI (if c then a else b) := by split <;> rfl
theorem getD_mid (pre : List Nat) (y : Nat) (r : List Nat) : (pre ++ y :: r).getD pre.length 0 = y := by
  rw [List.getD_eq_getElem?_getD, List.getElem?_append_right (Nat.le_refl _), Nat.sub_self]
  rfl
