/-! ===== READING A TEXT: the plain reader ===== -/
abbrev Fl : Type := Option (Nat × Nat)
abbrev Rz : Type := Nat × Fl
def bl (f : Fl) (e : Nat × Nat) : Fl := match f with
  | none => some e
  | some g => some g
def isB32 (b : Nat) : Bool := b == 32
def dgB (b : Nat) : Bool := decide (48 ≤ b) && decide (b ≤ 57)
def inO (lo hi : Nat) (o : Option Nat) : Bool := match o with
  | some b => decide (lo ≤ b) && decide (b ≤ hi)
  | none => false
/-- behind the blanks -/
def skp (X : List Nat) (a : Nat) : Nat := a + ((X.drop a).takeWhile isB32).length
/-- the digits from a on -/
def dgs (X : List Nat) (a : Nat) : List Nat := (X.drop a).takeWhile dgB
def nvF (most : Nat) : Nat → List Nat → Nat
  | v, [] => v
  | v, b :: r => nvF most (if most < v then v else 10 * v + (b - 48)) r
def wd (X : List Nat) (p : Nat) (w : List Nat) : Bool := decide (∀ i, i < w.length → X[p + i]? = some (w.getD i 0)) && !inO 97 122 X[p + w.length]?
def wantP (X : List Nat) (s : Nat) (z : Rz) : Rz := if X[skp X z.1]? = some s then (skp X z.1 + 1, z.2) else (skp X z.1, bl z.2 (1, skp X z.1))
def numP (X : List Nat) (most : Nat) (z : Rz) : Rz × Nat :=
  if inO 48 57 X[skp X z.1]? then
    (if most < nvF most 0 (dgs X (skp X z.1)) then ((skp X z.1 + (dgs X (skp X z.1)).length, bl z.2 (2, skp X z.1)), 0) else ((skp X z.1 + (dgs X (skp X z.1)).length, z.2), nvF most 0 (dgs X (skp X z.1))))
  else ((skp X z.1, bl z.2 (1, skp X z.1)), 0)
def ltO (X : List Nat) (p : Nat) : Bool := inO 65 72 X[p]? && !inO 97 122 X[p + 1]? && !inO 65 90 X[p + 1]?
def letP (X : List Nat) (z : Rz) : Rz × Nat := if ltO X (skp X z.1) then ((skp X z.1 + 1, z.2), X.getD (skp X z.1) 0 - 65) else ((skp X z.1, bl z.2 (1, skp X z.1)), 0)
theorem at_lt {X : List Nat} {a : Nat} (h : a < X.length) : X[a]? = some (X.getD a 0) := by
  rw [List.getD_eq_getElem?_getD, List.getElem?_eq_getElem h]; rfl
theorem at_ge {X : List Nat} {a : Nat} (h : ¬ a < X.length) : X[a]? = none := List.getElem?_eq_none (by omega)
theorem at_some {X : List Nat} {a b : Nat} (h : X[a]? = some b) : a < X.length := by
  refine Classical.byContradiction fun q => ?_
  rw [at_ge q] at h; cases h
theorem drop_at {X : List Nat} {a b : Nat} (h : X[a]? = some b) : X.drop a = b :: X.drop (a + 1) := by
  have hl := at_some h
  rw [List.drop_eq_getElem_cons hl]
  rw [List.getElem?_eq_getElem hl] at h
  cases h; rfl
theorem drop_end {X : List Nat} {a : Nat} (h : X[a]? = none) : X.drop a = [] := List.drop_eq_nil_of_le (List.getElem?_eq_none_iff.mp h)
theorem skp_b {X : List Nat} {a : Nat} (h : X[a]? = some 32) : skp X a = skp X (a + 1) := by
  unfold skp
  rw [drop_at h, List.takeWhile_cons_of_pos (by rfl), List.length_cons]; omega
theorem skp_n {X : List Nat} {a : Nat} (h : X[a]? ≠ some 32) : skp X a = a := by
  unfold skp
  cases e : X[a]? with
  | none => rw [drop_end e]; rfl
  | some b =>
    rw [drop_at e, List.takeWhile_cons_of_neg]
    · rfl
    · intro q
      have : b = 32 := by simpa [isB32] using q
      exact h (by rw [e, this])
theorem skp_le {X : List Nat} : ∀ (n a : Nat), n + a = X.length → a ≤ skp X a ∧ skp X a ≤ X.length ∧ X[skp X a]? ≠ some 32
  | 0, a, hn => by
    have e : X[a]? = none := at_ge (by omega)
    rw [skp_n (by rw [e]; exact fun q => by cases q)]
    exact ⟨Nat.le_refl _, by omega, by rw [e]; exact fun q => by cases q⟩
  | n + 1, a, hn => by
    by_cases e : X[a]? = some 32
    · rw [skp_b e]
      have := skp_le (X := X) n (a + 1) (by omega)
      exact ⟨by omega, this.2⟩
    · rw [skp_n e]; exact ⟨Nat.le_refl _, by omega, e⟩
theorem skp_ok {X : List Nat} {a : Nat} (h : a ≤ X.length) : a ≤ skp X a ∧ skp X a ≤ X.length ∧ X[skp X a]? ≠ some 32 := skp_le (X.length - a) a (by omega)
theorem skp_id {X : List Nat} {a : Nat} (h : a ≤ X.length) : skp X (skp X a) = skp X a := skp_n (skp_ok h).2.2
theorem dgs_d {X : List Nat} {a b : Nat} (h : X[a]? = some b) (hb : dgB b = true) : dgs X a = b :: dgs X (a + 1) := by
  unfold dgs
  rw [drop_at h, List.takeWhile_cons_of_pos hb]
theorem dgs_n {X : List Nat} {a : Nat} (h : inO 48 57 X[a]? = false) : dgs X a = [] := by
  unfold dgs
  cases e : X[a]? with
  | none => rw [drop_end e]; rfl
  | some b =>
    rw [drop_at e, List.takeWhile_cons_of_neg]
    rw [e] at h
    have h : dgB b = false := h
    rw [h]; exact fun q => by cases q
theorem dgs_le {X : List Nat} {a : Nat} (h : a ≤ X.length) : a + (dgs X a).length ≤ X.length := by
  have := (List.takeWhile_sublist (p := dgB) (l := X.drop a)).length_le
  rw [List.length_drop] at this
  show a + ((X.drop a).takeWhile dgB).length ≤ _
  omega
theorem nvF_le {most : Nat} : ∀ (L : List Nat) (v : Nat), (∀ b, b ∈ L → b ≤ 57) → v ≤ 10 * most + 9 → nvF most v L ≤ 10 * most + 9
  | [], v, _, hv => hv
  | b :: r, v, hb, hv => by
    have h1 := hb b (List.mem_cons_self ..)
    refine nvF_le r _ (fun c hc => hb c (List.mem_cons_of_mem _ hc)) ?_
    split <;> omega
def txt (X : List Nat) : Prop := X.length ≤ 500 ∧ ∀ b, b ∈ X → b < 256
theorem txt_b {X : List Nat} (h : txt X) (i : Nat) : X.getD i 0 < 256 := by
  by_cases e : i < X.length
  · rw [List.getD_eq_getElem?_getD, List.getElem?_eq_getElem e]
    exact h.2 _ (List.getElem_mem e)
  · rw [List.getD_eq_getElem?_getD, at_ge e]; decide
def flC : Fl → Int32
  | none => nI 0
  | some f => nI f.1
def flP : Fl → Int32
  | none => -nI 1
  | some f => nI f.2
def flOK (f : Fl) : Prop := ∀ e, f = some e → 1 ≤ e.1 ∧ e.1 ≤ 3 ∧ e.2 ≤ 500
theorem flC_0 {f : Fl} (h : flOK f) : (flC f = 0) = (f = none) := by
  cases f with
  | none => exact eq_true rfl |>.trans (eq_true rfl).symm
  | some e =>
    have := h e rfl
    refine (eq_false fun q => ?_).trans (eq_false (fun q => by cases q)).symm
    have q : nI e.1 = nI 0 := q
    have := (nI_eq (by omega) (by omega)).mp q
    omega
theorem bl_ok {f : Fl} {c p : Nat} (h : flOK f) (h1 : 1 ≤ c) (h2 : c ≤ 3) (h3 : p ≤ 500) : flOK (bl f (c, p)) := by
  cases f with
  | none => intro e q; cases q; exact ⟨h1, h2, h3⟩
  | some g => exact h
/-! ===== the class's tape ===== -/
def rd (h : pm_H) (t : Nat) (X : List Nat) (z : Rz) : Prop := tpS h t ∧ hI h t 2 = nI z.1 ∧ hI h t 3 = nI X.length ∧ hI h t 4 = flC z.2 ∧ hI h t 5 = flP z.2 ∧ (∀ i, i < X.length → hI h (t + 1) i = bI (X.getD i 0)) ∧ z.1 ≤ X.length ∧ flOK z.2 ∧ txt X
/-- only the tape's numbers of reading changed -/
def frR (t : Nat) (h h' : pm_H) : Prop := hT h' = hT h ∧ hN h' = hN h ∧ hR h' = hR h ∧ hn h' = hn h ∧ hL h' = hL h ∧ (∀ k, k ≠ t → hI h' k = hI h k) ∧ ∀ j, j ≠ 2 → j ≠ 4 → j ≠ 5 → hI h' t j = hI h t j
theorem frR_refl (t : Nat) (h : pm_H) : frR t h h := ⟨rfl, rfl, rfl, rfl, rfl, fun _ _ => rfl, fun _ _ _ _ => rfl⟩
theorem frR_trans {t : Nat} {h h1 h2 : pm_H} (a : frR t h h1) (b : frR t h1 h2) : frR t h h2 :=
  ⟨b.1.trans a.1, b.2.1.trans a.2.1, b.2.2.1.trans a.2.2.1, b.2.2.2.1.trans a.2.2.2.1, b.2.2.2.2.1.trans a.2.2.2.2.1, fun k q => (b.2.2.2.2.2.1 k q).trans (a.2.2.2.2.2.1 k q), fun j q1 q2 q3 => (b.2.2.2.2.2.2 j q1 q2 q3).trans (a.2.2.2.2.2.2 j q1 q2 q3)⟩
theorem rd_at {h : pm_H} {t a : Nat} {X : List Nat} {z : Rz} (hr : rd h t X z) (ha : a ≤ X.length) : rd (sI h t (va_up (hI h t) 2 (nI a))) t X (a, z.2) ∧ frR t h (sI h t (va_up (hI h t) 2 (nI a))) := by
  obtain ⟨r0, r1, r2, r3, r4, r5, r6, r7, r8⟩ := hr
  refine ⟨⟨r0, ?_, ?_, ?_, ?_, fun i hi => ?_, ha, r7, r8⟩, rfl, rfl, rfl, rfl, rfl, fun k q => ?_, fun j q1 q2 q3 => ?_⟩
  · rw [hP1, va_up_self, va_up_self]
  · rw [hP1, va_up_self, va_up_ne _ _ (by omega)]; exact r2
  · rw [hP1, va_up_self, va_up_ne _ _ (by omega)]; exact r3
  · rw [hP1, va_up_self, va_up_ne _ _ (by omega)]; exact r4
  · rw [hP1, va_up_ne _ _ (by omega)]; exact r5 i hi
  · rw [hP1, va_up_ne _ _ q]
  · rw [hP1, va_up_self, va_up_ne _ _ q1]
theorem bI_255 : ∀ b, b < 256 → bI b &&& nI 255 = nI b := by decide +kernel
theorem bI_32 : ∀ b, b < 256 → (bI b = nI 32 ↔ b = 32) := by decide +kernel
section TP
variable {h : pm_H} {t : Nat} {X : List Nat} {z : Rz} {Q : pm_Q}
theorem q808 (d : Nat) {k : Nat} (hr : rd h t X z) (hk : k < 2 ^ 30) : pm_M PP (d + 1) 808 [.ref t, .int (nI k)] h Q = Q (.inl (some (.int (iv X[k]?)))) h := by
  obtain ⟨⟨s0, s1, s2, s3⟩, r1, r2, r3, r4, r5, r6, r7, r8⟩ := hr
  have hl := r8.1
  rw [e_808]
  by_cases c : k < X.length
  · have c1 : ¬ X.length ≤ k := by omega
    have hb := bI_255 _ (txt_b r8 k)
    rw [at_lt c]
    simp (disch := omega) only [u_808_0, B_808_0, u_808_26, B_808_26, nI1T, Nat.left_eq_add, Nat.add_eq_left, Nat.add_eq_zero_iff, and_false, false_and, if_false, if_true, opsN, opsC, pm_1, lg, ls1, ls2, lq, List.length_cons, List.length_nil, cN, cL, callE, retV, retN, pm_pop, pm_cat, List.map_cons, List.map_nil, List.sum_cons, List.sum_nil, Value.category, Option.toList, List.cons_append, List.nil_append, ↓reduceIte, reduceCtorEq, Nat.reduceAdd, Nat.reduceLT, Nat.reduceLeDiff, Nat.reduceSub, Nat.reduceEqDiff, Nat.zero_le, Nat.sub_zero, Nat.le_refl, true_and, and_true, not_true_eq_false, not_false_eq_true, true_or, or_true, lc_eq, lc_ne, lc_lt, lc_ge, lc_gt, lc_le, nI_add, lN_add, nI_leI, nI_ltI, nI_eq, nI_clamp, pk_lLT, pk_lLE, pk_lEQ, pk_sub, vp_inT, nz_eq, nz_lt, nz_ge, nz_gt, nz_le, lz_eq, lz_lt, lz_ge, hP1, hP2, hP3, hP4, hP5, hP6, hP7, hP8, hP9, hP10, hP11, hP12, hP13, hP14, hP15, hP16, hP17, hP18, hP19, hP20, s0, s1, s2, s3, r2, c1, r5 k c, hb, iv]
  · have c1 : X.length ≤ k := by omega
    rw [at_ge c]
    simp (disch := omega) only [u_808_0, B_808_0, u_808_25, B_808_25, u_808_26, B_808_26, nI1T, Nat.left_eq_add, Nat.add_eq_left, Nat.add_eq_zero_iff, and_false, false_and, if_false, if_true, opsN, opsC, pm_1, lg, ls1, ls2, lq, List.length_cons, List.length_nil, cN, cL, callE, retV, retN, pm_pop, pm_cat, List.map_cons, List.map_nil, List.sum_cons, List.sum_nil, Value.category, Option.toList, List.cons_append, List.nil_append, ↓reduceIte, reduceCtorEq, Nat.reduceAdd, Nat.reduceLT, Nat.reduceLeDiff, Nat.reduceSub, Nat.reduceEqDiff, Nat.zero_le, Nat.sub_zero, Nat.le_refl, true_and, and_true, not_true_eq_false, not_false_eq_true, true_or, or_true, lc_eq, lc_ne, lc_lt, lc_ge, lc_gt, lc_le, nI_add, lN_add, nI_leI, nI_ltI, nI_eq, nI_clamp, pk_lLT, pk_lLE, pk_lEQ, pk_sub, vp_inT, nz_eq, nz_lt, nz_ge, nz_gt, nz_le, lz_eq, lz_lt, lz_ge, hP1, hP2, hP3, hP4, hP5, hP6, hP7, hP8, hP9, hP10, hP11, hP12, hP13, hP14, hP15, hP16, hP17, hP18, hP19, hP20, s0, r2, c1, iv]
theorem l807 (d : Nat) : ∀ (n a : Nat) (h : pm_H), n + a = X.length → rd h t X (a, z.2) → (∀ h', rd h' t X (skp X a, z.2) → frR t h h' → Q (.inl (some (.int (iv X[skp X a]?)))) h') → pm_W PP (d + 1) 807 Q 0 0 0 [some (.ref t)] [] h := by
  intro n
  induction n with
  | zero =>
    intro a h hn hr hQ
    have c : X.length ≤ a := by omega
    have e : X[a]? ≠ some 32 := by rw [at_ge (by omega)]; exact fun q => by cases q
    rw [skp_n e] at hQ
    have hr0 := hr
    obtain ⟨⟨s0, s1, s2, s3⟩, r1, r2, r3, r4, r5, r6, r7, r8⟩ := hr
    have hl := r8.1
    have hq := hQ h hr0 (frR_refl _ _)
    rw [u_807_0]
    simp (disch := omega) only [B_807_0, u_807_38, B_807_38, nI1T, Nat.left_eq_add, Nat.add_eq_left, Nat.add_eq_zero_iff, and_false, false_and, if_false, if_true, opsN, opsC, pm_1, lg, ls1, ls2, lq, List.length_cons, List.length_nil, cN, cL, callE, retV, retN, pm_pop, pm_cat, List.map_cons, List.map_nil, List.sum_cons, List.sum_nil, Value.category, Option.toList, List.cons_append, List.nil_append, ↓reduceIte, reduceCtorEq, Nat.reduceAdd, Nat.reduceLT, Nat.reduceLeDiff, Nat.reduceSub, Nat.reduceEqDiff, Nat.zero_le, Nat.sub_zero, Nat.le_refl, true_and, and_true, not_true_eq_false, not_false_eq_true, true_or, or_true, lc_eq, lc_ne, lc_lt, lc_ge, lc_gt, lc_le, nI_add, lN_add, nI_leI, nI_ltI, nI_eq, nI_clamp, pk_lLT, pk_lLE, pk_lEQ, pk_sub, vp_inT, nz_eq, nz_lt, nz_ge, nz_gt, nz_le, lz_eq, lz_lt, lz_ge, hP1, hP2, hP3, hP4, hP5, hP6, hP7, hP8, hP9, hP10, hP11, hP12, hP13, hP14, hP15, hP16, hP17, hP18, hP19, hP20, s0, r1, r2, c]
    rw [q808 d hr0 (by omega)]
    simp (disch := omega) only [nI1T, Nat.left_eq_add, Nat.add_eq_left, Nat.add_eq_zero_iff, and_false, false_and, if_false, if_true, opsN, opsC, pm_1, lg, ls1, ls2, lq, List.length_cons, List.length_nil, cN, cL, callE, retV, retN, pm_pop, pm_cat, List.map_cons, List.map_nil, List.sum_cons, List.sum_nil, Value.category, Option.toList, List.cons_append, List.nil_append, ↓reduceIte, reduceCtorEq, Nat.reduceAdd, Nat.reduceLT, Nat.reduceLeDiff, Nat.reduceSub, Nat.reduceEqDiff, Nat.zero_le, Nat.sub_zero, Nat.le_refl, true_and, and_true, not_true_eq_false, not_false_eq_true, true_or, or_true, lc_eq, lc_ne, lc_lt, lc_ge, lc_gt, lc_le, nI_add, lN_add, nI_leI, nI_ltI, nI_eq, nI_clamp, pk_lLT, pk_lLE, pk_lEQ, pk_sub, vp_inT, nz_eq, nz_lt, nz_ge, nz_gt, nz_le, lz_eq, lz_lt, lz_ge, hP1, hP2, hP3, hP4, hP5, hP6, hP7, hP8, hP9, hP10, hP11, hP12, hP13, hP14, hP15, hP16, hP17, hP18, hP19, hP20]
    exact hq
  | succ n ih =>
    intro a h hn hr hQ
    have c : ¬ X.length ≤ a := by omega
    have hr0 := hr
    obtain ⟨⟨s0, s1, s2, s3⟩, r1, r2, r3, r4, r5, r6, r7, r8⟩ := hr
    have hl := r8.1
    have hb := bI_32 _ (txt_b r8 a)
    have ea := at_lt (show a < X.length by omega)
    by_cases e : X.getD a 0 = 32
    · have e2 : bI (X.getD a 0) = nI 32 := hb.mpr e
      rw [e] at ea
      rw [skp_b ea] at hQ
      obtain ⟨k1, k2⟩ := rd_at (a := a + 1) hr0 (by omega)
      rw [u_807_0]
      simp (disch := omega) only [B_807_0, nI1T, Nat.left_eq_add, Nat.add_eq_left, Nat.add_eq_zero_iff, and_false, false_and, if_false, if_true, opsN, opsC, pm_1, lg, ls1, ls2, lq, List.length_cons, List.length_nil, cN, cL, callE, retV, retN, pm_pop, pm_cat, List.map_cons, List.map_nil, List.sum_cons, List.sum_nil, Value.category, Option.toList, List.cons_append, List.nil_append, ↓reduceIte, reduceCtorEq, Nat.reduceAdd, Nat.reduceLT, Nat.reduceLeDiff, Nat.reduceSub, Nat.reduceEqDiff, Nat.zero_le, Nat.sub_zero, Nat.le_refl, true_and, and_true, not_true_eq_false, not_false_eq_true, true_or, or_true, lc_eq, lc_ne, lc_lt, lc_ge, lc_gt, lc_le, nI_add, lN_add, nI_leI, nI_ltI, nI_eq, nI_clamp, pk_lLT, pk_lLE, pk_lEQ, pk_sub, vp_inT, nz_eq, nz_lt, nz_ge, nz_gt, nz_le, lz_eq, lz_lt, lz_ge, hP1, hP2, hP3, hP4, hP5, hP6, hP7, hP8, hP9, hP10, hP11, hP12, hP13, hP14, hP15, hP16, hP17, hP18, hP19, hP20, s0, s1, s2, s3, r1, r2, c, r5 a (by omega), e2]
      exact ih (a + 1) _ (by omega) k1 (fun h' q1 q2 => hQ h' q1 (frR_trans k2 q2))
    · have e2 : ¬ bI (X.getD a 0) = nI 32 := fun q => e (hb.mp q)
      have e3 : X[a]? ≠ some 32 := by rw [ea]; exact fun q => e (by injection q)
      rw [skp_n e3] at hQ
      have hq := hQ h hr0 (frR_refl _ _)
      rw [u_807_0]
      simp (disch := omega) only [B_807_0, u_807_38, B_807_38, nI1T, Nat.left_eq_add, Nat.add_eq_left, Nat.add_eq_zero_iff, and_false, false_and, if_false, if_true, opsN, opsC, pm_1, lg, ls1, ls2, lq, List.length_cons, List.length_nil, cN, cL, callE, retV, retN, pm_pop, pm_cat, List.map_cons, List.map_nil, List.sum_cons, List.sum_nil, Value.category, Option.toList, List.cons_append, List.nil_append, ↓reduceIte, reduceCtorEq, Nat.reduceAdd, Nat.reduceLT, Nat.reduceLeDiff, Nat.reduceSub, Nat.reduceEqDiff, Nat.zero_le, Nat.sub_zero, Nat.le_refl, true_and, and_true, not_true_eq_false, not_false_eq_true, true_or, or_true, lc_eq, lc_ne, lc_lt, lc_ge, lc_gt, lc_le, nI_add, lN_add, nI_leI, nI_ltI, nI_eq, nI_clamp, pk_lLT, pk_lLE, pk_lEQ, pk_sub, vp_inT, nz_eq, nz_lt, nz_ge, nz_gt, nz_le, lz_eq, lz_lt, lz_ge, hP1, hP2, hP3, hP4, hP5, hP6, hP7, hP8, hP9, hP10, hP11, hP12, hP13, hP14, hP15, hP16, hP17, hP18, hP19, hP20, s0, s1, s2, s3, r1, r2, c, r5 a (by omega), e2]
      rw [q808 d hr0 (by omega)]
      simp (disch := omega) only [nI1T, Nat.left_eq_add, Nat.add_eq_left, Nat.add_eq_zero_iff, and_false, false_and, if_false, if_true, opsN, opsC, pm_1, lg, ls1, ls2, lq, List.length_cons, List.length_nil, cN, cL, callE, retV, retN, pm_pop, pm_cat, List.map_cons, List.map_nil, List.sum_cons, List.sum_nil, Value.category, Option.toList, List.cons_append, List.nil_append, ↓reduceIte, reduceCtorEq, Nat.reduceAdd, Nat.reduceLT, Nat.reduceLeDiff, Nat.reduceSub, Nat.reduceEqDiff, Nat.zero_le, Nat.sub_zero, Nat.le_refl, true_and, and_true, not_true_eq_false, not_false_eq_true, true_or, or_true, lc_eq, lc_ne, lc_lt, lc_ge, lc_gt, lc_le, nI_add, lN_add, nI_leI, nI_ltI, nI_eq, nI_clamp, pk_lLT, pk_lLE, pk_lEQ, pk_sub, vp_inT, nz_eq, nz_lt, nz_ge, nz_gt, nz_le, lz_eq, lz_lt, lz_ge, hP1, hP2, hP3, hP4, hP5, hP6, hP7, hP8, hP9, hP10, hP11, hP12, hP13, hP14, hP15, hP16, hP17, hP18, hP19, hP20]
      exact hq
theorem c807 (d : Nat) (hr : rd h t X z) (hQ : ∀ h', rd h' t X (skp X z.1, z.2) → frR t h h' → Q (.inl (some (.int (iv X[skp X z.1]?)))) h') : pm_M PP (d + 2) 807 [.ref t] h Q := by
  rw [e_807]
  have := hr.2.2.2.2.2.2.1
  exact l807 d (z := z) (X.length - z.1) z.1 h (by omega) hr hQ
theorem c805 (d : Nat) {c p : Nat} (hr : rd h t X z) (h1 : 1 ≤ c) (h2 : c ≤ 3) (h3 : p ≤ 500) (hQ : ∀ h', rd h' t X (z.1, bl z.2 (c, p)) → frR t h h' → Q (.inl none) h') : pm_M PP (d + 1) 805 [.ref t, .int (nI c), .int (nI p)] h Q := by
  have hr0 := hr
  obtain ⟨⟨s0, s1, s2, s3⟩, r1, r2, r3, r4, r5, r6, r7, r8⟩ := hr
  have e0 := flC_0 r7
  rw [e_805]
  cases hz : z.2 with
  | none =>
    rw [hz] at r3 r4 r7
    rw [hz] at hQ
    have r3 : hI h t 4 = nI 0 := r3
    simp (disch := omega) only [u_805_0, B_805_0, u_805_17, B_805_17, nI1T, Nat.left_eq_add, Nat.add_eq_left, Nat.add_eq_zero_iff, and_false, false_and, if_false, if_true, opsN, opsC, pm_1, lg, ls1, ls2, lq, List.length_cons, List.length_nil, cN, cL, callE, retV, retN, pm_pop, pm_cat, List.map_cons, List.map_nil, List.sum_cons, List.sum_nil, Value.category, Option.toList, List.cons_append, List.nil_append, ↓reduceIte, reduceCtorEq, Nat.reduceAdd, Nat.reduceLT, Nat.reduceLeDiff, Nat.reduceSub, Nat.reduceEqDiff, Nat.zero_le, Nat.sub_zero, Nat.le_refl, true_and, and_true, not_true_eq_false, not_false_eq_true, true_or, or_true, lc_eq, lc_ne, lc_lt, lc_ge, lc_gt, lc_le, nI_add, lN_add, nI_leI, nI_ltI, nI_eq, nI_clamp, pk_lLT, pk_lLE, pk_lEQ, pk_sub, vp_inT, nz_eq, nz_lt, nz_ge, nz_gt, nz_le, lz_eq, lz_lt, lz_ge, hP1, hP2, hP3, hP4, hP5, hP6, hP7, hP8, hP9, hP10, hP11, hP12, hP13, hP14, hP15, hP16, hP17, hP18, hP19, hP20, s0, r3, va_upE]
    refine hQ _ ⟨⟨s0, s1, s2, s3⟩, ?_, ?_, ?_, ?_, fun i hi => ?_, r6, bl_ok r7 h1 h2 h3, r8⟩ ⟨rfl, rfl, rfl, rfl, rfl, fun k q => ?_, fun j q1 q2 q3 => ?_⟩
    · rw [hP1, va_up_self, va_up_ne _ _ (by omega), va_up_ne _ _ (by omega)]; exact r1
    · rw [hP1, va_up_self, va_up_ne _ _ (by omega), va_up_ne _ _ (by omega)]; exact r2
    · rw [hP1, va_up_self, va_up_ne _ _ (by omega), va_up_self]; rfl
    · rw [hP1, va_up_self, va_up_self]; rfl
    · rw [hP1, va_up_ne _ _ (by omega), hP1, va_up_ne _ _ (by omega)]; exact r5 i hi
    · rw [hP1, va_up_ne _ _ q, hP1, va_up_ne _ _ q]
    · rw [hP1, va_up_self, va_up_ne _ _ q3, va_up_ne _ _ q2]
  | some g =>
    rw [hz] at e0
    have e1 : (flC (some g) = 0) = False := e0.trans (eq_false (fun q => by cases q))
    have hq : z = (z.1, some g) := by rw [← hz]
    rw [hz] at r3 hQ
    simp (disch := omega) only [u_805_0, B_805_0, u_805_17, B_805_17, nI1T, Nat.left_eq_add, Nat.add_eq_left, Nat.add_eq_zero_iff, and_false, false_and, if_false, if_true, opsN, opsC, pm_1, lg, ls1, ls2, lq, List.length_cons, List.length_nil, cN, cL, callE, retV, retN, pm_pop, pm_cat, List.map_cons, List.map_nil, List.sum_cons, List.sum_nil, Value.category, Option.toList, List.cons_append, List.nil_append, ↓reduceIte, reduceCtorEq, Nat.reduceAdd, Nat.reduceLT, Nat.reduceLeDiff, Nat.reduceSub, Nat.reduceEqDiff, Nat.zero_le, Nat.sub_zero, Nat.le_refl, true_and, and_true, not_true_eq_false, not_false_eq_true, true_or, or_true, lc_eq, lc_ne, lc_lt, lc_ge, lc_gt, lc_le, nI_add, lN_add, nI_leI, nI_ltI, nI_eq, nI_clamp, pk_lLT, pk_lLE, pk_lEQ, pk_sub, vp_inT, nz_eq, nz_lt, nz_ge, nz_gt, nz_le, lz_eq, lz_lt, lz_ge, hP1, hP2, hP3, hP4, hP5, hP6, hP7, hP8, hP9, hP10, hP11, hP12, hP13, hP14, hP15, hP16, hP17, hP18, hP19, hP20, s0, r3, e1]
    rw [hq] at hr0
    exact hQ h hr0 (frR_refl _ _)
theorem c806t (d : Nat) (hr : rd h t X z) (hz : z.2 = none) {b : Nat} (hb : X[skp X z.1]? = some b) (hQ : ∀ h', rd h' t X (skp X z.1, z.2) → frR t h h' → Q (.inl (some (.int (nI 1)))) h') : pm_M PP (d + 3) 806 [.ref t] h Q := by
  have hr0 := hr
  obtain ⟨⟨s0, s1, s2, s3⟩, r1, r2, r3, r4, r5, r6, r7, r8⟩ := hr
  rw [hz] at r3
  have r3 : hI h t 4 = nI 0 := r3
  have hb2 : b < 2 ^ 31 := by
    have := txt_b r8 (skp X z.1)
    have e := at_lt (at_some hb)
    rw [hb] at e
    injection e with e
    omega
  have e1 : (nI b = -nI 1) = False := eq_false fun q => by
    have := congrArg Int32.toInt q
    rw [nI_toInt hb2] at this
    have e9 : (-nI 1 : Int32).toInt = -1 := by decide
    omega
  rw [e_806]
  simp (disch := omega) only [u_806_0, B_806_0, nI1T, Nat.left_eq_add, Nat.add_eq_left, Nat.add_eq_zero_iff, and_false, false_and, if_false, if_true, opsN, opsC, pm_1, lg, ls1, ls2, lq, List.length_cons, List.length_nil, cN, cL, callE, retV, retN, pm_pop, pm_cat, List.map_cons, List.map_nil, List.sum_cons, List.sum_nil, Value.category, Option.toList, List.cons_append, List.nil_append, ↓reduceIte, reduceCtorEq, Nat.reduceAdd, Nat.reduceLT, Nat.reduceLeDiff, Nat.reduceSub, Nat.reduceEqDiff, Nat.zero_le, Nat.sub_zero, Nat.le_refl, true_and, and_true, not_true_eq_false, not_false_eq_true, true_or, or_true, lc_eq, lc_ne, lc_lt, lc_ge, lc_gt, lc_le, nI_add, lN_add, nI_leI, nI_ltI, nI_eq, nI_clamp, pk_lLT, pk_lLE, pk_lEQ, pk_sub, vp_inT, nz_eq, nz_lt, nz_ge, nz_gt, nz_le, lz_eq, lz_lt, lz_ge, hP1, hP2, hP3, hP4, hP5, hP6, hP7, hP8, hP9, hP10, hP11, hP12, hP13, hP14, hP15, hP16, hP17, hP18, hP19, hP20, s0, r3]
  refine c807 d hr0 ?_
  intro h' k1 k2
  rw [hb]
  simp (disch := omega) only [u_806_20, B_806_20, nI1T, Nat.left_eq_add, Nat.add_eq_left, Nat.add_eq_zero_iff, and_false, false_and, if_false, if_true, opsN, opsC, pm_1, lg, ls1, ls2, lq, List.length_cons, List.length_nil, cN, cL, callE, retV, retN, pm_pop, pm_cat, List.map_cons, List.map_nil, List.sum_cons, List.sum_nil, Value.category, Option.toList, List.cons_append, List.nil_append, ↓reduceIte, reduceCtorEq, Nat.reduceAdd, Nat.reduceLT, Nat.reduceLeDiff, Nat.reduceSub, Nat.reduceEqDiff, Nat.zero_le, Nat.sub_zero, Nat.le_refl, true_and, and_true, not_true_eq_false, not_false_eq_true, true_or, or_true, lc_eq, lc_ne, lc_lt, lc_ge, lc_gt, lc_le, nI_add, lN_add, nI_leI, nI_ltI, nI_eq, nI_clamp, pk_lLT, pk_lLE, pk_lEQ, pk_sub, vp_inT, nz_eq, nz_lt, nz_ge, nz_gt, nz_le, lz_eq, lz_lt, lz_ge, hP1, hP2, hP3, hP4, hP5, hP6, hP7, hP8, hP9, hP10, hP11, hP12, hP13, hP14, hP15, hP16, hP17, hP18, hP19, hP20, iv, e1]
  exact hQ h' k1 k2
theorem c806f (d : Nat) (hr : rd h t X z) (hz : z.2 ≠ none ∨ X[skp X z.1]? = none) (hQ : ∀ h' a, rd h' t X (a, z.2) → (z.2 = none → a = skp X z.1) → frR t h h' → Q (.inl (some (.int (nI 0)))) h') : pm_M PP (d + 3) 806 [.ref t] h Q := by
  have hr0 := hr
  obtain ⟨⟨s0, s1, s2, s3⟩, r1, r2, r3, r4, r5, r6, r7, r8⟩ := hr
  have e0 := flC_0 r7
  rw [e_806]
  by_cases c : z.2 = none
  · have hb := hz.resolve_left (fun q => q c)
    rw [c] at r3
    have r3 : hI h t 4 = nI 0 := r3
    simp (disch := omega) only [u_806_0, B_806_0, nI1T, Nat.left_eq_add, Nat.add_eq_left, Nat.add_eq_zero_iff, and_false, false_and, if_false, if_true, opsN, opsC, pm_1, lg, ls1, ls2, lq, List.length_cons, List.length_nil, cN, cL, callE, retV, retN, pm_pop, pm_cat, List.map_cons, List.map_nil, List.sum_cons, List.sum_nil, Value.category, Option.toList, List.cons_append, List.nil_append, ↓reduceIte, reduceCtorEq, Nat.reduceAdd, Nat.reduceLT, Nat.reduceLeDiff, Nat.reduceSub, Nat.reduceEqDiff, Nat.zero_le, Nat.sub_zero, Nat.le_refl, true_and, and_true, not_true_eq_false, not_false_eq_true, true_or, or_true, lc_eq, lc_ne, lc_lt, lc_ge, lc_gt, lc_le, nI_add, lN_add, nI_leI, nI_ltI, nI_eq, nI_clamp, pk_lLT, pk_lLE, pk_lEQ, pk_sub, vp_inT, nz_eq, nz_lt, nz_ge, nz_gt, nz_le, lz_eq, lz_lt, lz_ge, hP1, hP2, hP3, hP4, hP5, hP6, hP7, hP8, hP9, hP10, hP11, hP12, hP13, hP14, hP15, hP16, hP17, hP18, hP19, hP20, s0, r3]
    refine c807 d hr0 ?_
    intro h' k1 k2
    rw [hb]
    simp (disch := omega) only [u_806_19, B_806_19, u_806_20, B_806_20, nI1T, Nat.left_eq_add, Nat.add_eq_left, Nat.add_eq_zero_iff, and_false, false_and, if_false, if_true, opsN, opsC, pm_1, lg, ls1, ls2, lq, List.length_cons, List.length_nil, cN, cL, callE, retV, retN, pm_pop, pm_cat, List.map_cons, List.map_nil, List.sum_cons, List.sum_nil, Value.category, Option.toList, List.cons_append, List.nil_append, ↓reduceIte, reduceCtorEq, Nat.reduceAdd, Nat.reduceLT, Nat.reduceLeDiff, Nat.reduceSub, Nat.reduceEqDiff, Nat.zero_le, Nat.sub_zero, Nat.le_refl, true_and, and_true, not_true_eq_false, not_false_eq_true, true_or, or_true, lc_eq, lc_ne, lc_lt, lc_ge, lc_gt, lc_le, nI_add, lN_add, nI_leI, nI_ltI, nI_eq, nI_clamp, pk_lLT, pk_lLE, pk_lEQ, pk_sub, vp_inT, nz_eq, nz_lt, nz_ge, nz_gt, nz_le, lz_eq, lz_lt, lz_ge, hP1, hP2, hP3, hP4, hP5, hP6, hP7, hP8, hP9, hP10, hP11, hP12, hP13, hP14, hP15, hP16, hP17, hP18, hP19, hP20, iv]
    exact hQ h' _ k1 (fun _ => rfl) k2
  · have e1 : (flC z.2 = 0) = False := e0.trans (eq_false c)
    simp (disch := omega) only [u_806_0, B_806_0, u_806_19, B_806_19, u_806_20, B_806_20, nI1T, Nat.left_eq_add, Nat.add_eq_left, Nat.add_eq_zero_iff, and_false, false_and, if_false, if_true, opsN, opsC, pm_1, lg, ls1, ls2, lq, List.length_cons, List.length_nil, cN, cL, callE, retV, retN, pm_pop, pm_cat, List.map_cons, List.map_nil, List.sum_cons, List.sum_nil, Value.category, Option.toList, List.cons_append, List.nil_append, ↓reduceIte, reduceCtorEq, Nat.reduceAdd, Nat.reduceLT, Nat.reduceLeDiff, Nat.reduceSub, Nat.reduceEqDiff, Nat.zero_le, Nat.sub_zero, Nat.le_refl, true_and, and_true, not_true_eq_false, not_false_eq_true, true_or, or_true, lc_eq, lc_ne, lc_lt, lc_ge, lc_gt, lc_le, nI_add, lN_add, nI_leI, nI_ltI, nI_eq, nI_clamp, pk_lLT, pk_lLE, pk_lEQ, pk_sub, vp_inT, nz_eq, nz_lt, nz_ge, nz_gt, nz_le, lz_eq, lz_lt, lz_ge, hP1, hP2, hP3, hP4, hP5, hP6, hP7, hP8, hP9, hP10, hP11, hP12, hP13, hP14, hP15, hP16, hP17, hP18, hP19, hP20, s0, r3, e1]
    exact hQ h z.1 hr0 (fun q => absurd q c) (frR_refl _ _)
theorem iv_eq {o : Option Nat} {s : Nat} (ho : ∀ b, o = some b → b < 2 ^ 31) (hs : s < 2 ^ 31) : (iv o = nI s) = (o = some s) := by
  cases o with
  | none =>
    refine (eq_false fun q => ?_).trans (eq_false (fun q => by cases q)).symm
    have := congrArg Int32.toInt q
    have e9 : (iv none).toInt = -1 := by decide
    rw [nI_toInt hs] at this
    omega
  | some b =>
    have := ho b rfl
    refine propext ⟨fun q => ?_, fun q => ?_⟩
    · rw [(nI_eq this hs).mp q]
    · injection q with q; rw [q]; rfl
theorem at_b {k : Nat} (ht : txt X) : ∀ b, X[k]? = some b → b < 2 ^ 31 := fun b hb => by
  have := txt_b ht k
  have e := at_lt (at_some hb)
  rw [hb] at e
  injection e with e
  omega
theorem want_eq {s : Nat} (ht : txt X) (hz : z.1 ≤ X.length) (hf : flOK z.2) : (wantP X s z).1 ≤ X.length ∧ flOK (wantP X s z).2 := by
  have h1 := skp_ok hz
  have h5 := ht.1
  unfold wantP
  by_cases e : X[skp X z.1]? = some s
  · rw [if_pos e]; exact ⟨at_some e, hf⟩
  · rw [if_neg e]; exact ⟨h1.2.1, bl_ok hf (by decide) (by decide) (by omega)⟩
theorem c809 (d : Nat) {s : Nat} (hr : rd h t X z) (hs : s < 2 ^ 16) (hQ : ∀ h', rd h' t X (wantP X s z) → frR t h h' → Q (.inl none) h') : pm_M PP (d + 3) 809 [.ref t, .int (nI s)] h Q := by
  have s0 := hr.1.1
  have hz := hr.2.2.2.2.2.2.1
  have ht := hr.2.2.2.2.2.2.2.2
  have h1 := skp_ok hz
  have h5 := ht.1
  have e0 := iv_eq (o := X[skp X z.1]?) (s := s) (at_b ht) (by omega)
  rw [e_809]
  simp (disch := omega) only [u_809_0, B_809_0, nI1T, Nat.left_eq_add, Nat.add_eq_left, Nat.add_eq_zero_iff, and_false, false_and, if_false, if_true, opsN, opsC, pm_1, lg, ls1, ls2, lq, List.length_cons, List.length_nil, cN, cL, callE, retV, retN, pm_pop, pm_cat, List.map_cons, List.map_nil, List.sum_cons, List.sum_nil, Value.category, Option.toList, List.cons_append, List.nil_append, ↓reduceIte, reduceCtorEq, Nat.reduceAdd, Nat.reduceLT, Nat.reduceLeDiff, Nat.reduceSub, Nat.reduceEqDiff, Nat.zero_le, Nat.sub_zero, Nat.le_refl, true_and, and_true, not_true_eq_false, not_false_eq_true, true_or, or_true, lc_eq, lc_ne, lc_lt, lc_ge, lc_gt, lc_le, nI_add, lN_add, nI_leI, nI_ltI, nI_eq, nI_clamp, pk_lLT, pk_lLE, pk_lEQ, pk_sub, vp_inT, nz_eq, nz_lt, nz_ge, nz_gt, nz_le, lz_eq, lz_lt, lz_ge, hP1, hP2, hP3, hP4, hP5, hP6, hP7, hP8, hP9, hP10, hP11, hP12, hP13, hP14, hP15, hP16, hP17, hP18, hP19, hP20, s0]
  refine c807 d hr ?_
  intro h' k1 k2
  have g0 := k1.1.1
  have g1 : hI h' t 2 = nI (skp X z.1) := k1.2.1
  unfold wantP at hQ
  by_cases e : X[skp X z.1]? = some s
  · have hl := at_some e
    rw [if_pos e] at hQ
    rw [e]
    simp (disch := omega) only [u_809_30, B_809_30, nI1T, Nat.left_eq_add, Nat.add_eq_left, Nat.add_eq_zero_iff, and_false, false_and, if_false, if_true, opsN, opsC, pm_1, lg, ls1, ls2, lq, List.length_cons, List.length_nil, cN, cL, callE, retV, retN, pm_pop, pm_cat, List.map_cons, List.map_nil, List.sum_cons, List.sum_nil, Value.category, Option.toList, List.cons_append, List.nil_append, ↓reduceIte, reduceCtorEq, Nat.reduceAdd, Nat.reduceLT, Nat.reduceLeDiff, Nat.reduceSub, Nat.reduceEqDiff, Nat.zero_le, Nat.sub_zero, Nat.le_refl, true_and, and_true, not_true_eq_false, not_false_eq_true, true_or, or_true, lc_eq, lc_ne, lc_lt, lc_ge, lc_gt, lc_le, nI_add, lN_add, nI_leI, nI_ltI, nI_eq, nI_clamp, pk_lLT, pk_lLE, pk_lEQ, pk_sub, vp_inT, nz_eq, nz_lt, nz_ge, nz_gt, nz_le, lz_eq, lz_lt, lz_ge, hP1, hP2, hP3, hP4, hP5, hP6, hP7, hP8, hP9, hP10, hP11, hP12, hP13, hP14, hP15, hP16, hP17, hP18, hP19, hP20, iv, g0, g1]
    obtain ⟨l1, l2⟩ := rd_at (a := skp X z.1 + 1) k1 (by omega)
    exact hQ _ l1 (frR_trans k2 l2)
  · rw [if_neg e] at hQ
    have e1 : (iv X[skp X z.1]? = nI s) = False := e0.trans (eq_false e)
    simp (disch := omega) only [u_809_21, B_809_21, nI1T, Nat.left_eq_add, Nat.add_eq_left, Nat.add_eq_zero_iff, and_false, false_and, if_false, if_true, opsN, opsC, pm_1, lg, ls1, ls2, lq, List.length_cons, List.length_nil, cN, cL, callE, retV, retN, pm_pop, pm_cat, List.map_cons, List.map_nil, List.sum_cons, List.sum_nil, Value.category, Option.toList, List.cons_append, List.nil_append, ↓reduceIte, reduceCtorEq, Nat.reduceAdd, Nat.reduceLT, Nat.reduceLeDiff, Nat.reduceSub, Nat.reduceEqDiff, Nat.zero_le, Nat.sub_zero, Nat.le_refl, true_and, and_true, not_true_eq_false, not_false_eq_true, true_or, or_true, lc_eq, lc_ne, lc_lt, lc_ge, lc_gt, lc_le, nI_add, lN_add, nI_leI, nI_ltI, nI_eq, nI_clamp, pk_lLT, pk_lLE, pk_lEQ, pk_sub, vp_inT, nz_eq, nz_lt, nz_ge, nz_gt, nz_le, lz_eq, lz_lt, lz_ge, hP1, hP2, hP3, hP4, hP5, hP6, hP7, hP8, hP9, hP10, hP11, hP12, hP13, hP14, hP15, hP16, hP17, hP18, hP19, hP20, e1, g0, g1]
    refine c805 (d + 1) k1 (by decide) (by decide) (by omega) ?_
    intro h2 l1 l2
    simp (disch := omega) only [u_809_30, B_809_30, nI1T, Nat.left_eq_add, Nat.add_eq_left, Nat.add_eq_zero_iff, and_false, false_and, if_false, if_true, opsN, opsC, pm_1, lg, ls1, ls2, lq, List.length_cons, List.length_nil, cN, cL, callE, retV, retN, pm_pop, pm_cat, List.map_cons, List.map_nil, List.sum_cons, List.sum_nil, Value.category, Option.toList, List.cons_append, List.nil_append, ↓reduceIte, reduceCtorEq, Nat.reduceAdd, Nat.reduceLT, Nat.reduceLeDiff, Nat.reduceSub, Nat.reduceEqDiff, Nat.zero_le, Nat.sub_zero, Nat.le_refl, true_and, and_true, not_true_eq_false, not_false_eq_true, true_or, or_true, lc_eq, lc_ne, lc_lt, lc_ge, lc_gt, lc_le, nI_add, lN_add, nI_leI, nI_ltI, nI_eq, nI_clamp, pk_lLT, pk_lLE, pk_lEQ, pk_sub, vp_inT, nz_eq, nz_lt, nz_ge, nz_gt, nz_le, lz_eq, lz_lt, lz_ge, hP1, hP2, hP3, hP4, hP5, hP6, hP7, hP8, hP9, hP10, hP11, hP12, hP13, hP14, hP15, hP16, hP17, hP18, hP19, hP20]
    exact hQ _ l1 (frR_trans k2 l2)
theorem c9k (o : Option Nat) (lo hi : Nat) : (¬ inO lo hi o = true) ↔ inO lo hi o = false := by cases inO lo hi o <;> simp
/-- within bounds -/
theorem inO_lt {o : Option Nat} {lo hi : Nat} (ho : ∀ b, o = some b → b < 2 ^ 31) (h0 : lo < 2 ^ 31) (h1 : hi < 2 ^ 31) (hl : 0 < lo) : inO lo hi o = true ↔ ¬ iv o < nI lo ∧ ¬ nI hi < iv o := by
  cases o with
  | none =>
    have e : (iv none) < nI lo := by
      rw [Int32.lt_iff_toInt_lt, nI_toInt h0]
      have e9 : (iv none).toInt = -1 := by decide
      omega
    exact ⟨fun q => (by cases q), fun q => absurd e q.1⟩
  | some b =>
    have hb := ho b rfl
    show (decide (lo ≤ b) && decide (b ≤ hi)) = true ↔ ¬ nI b < nI lo ∧ ¬ nI hi < nI b
    rw [nI_ltI hb h0, nI_ltI h1 hb, Bool.and_eq_true, decide_eq_true_eq, decide_eq_true_eq]
    omega
end TP
section IS
variable {h : pm_H} {Q : pm_Q} {o : Option Nat}
theorem q813 (d : Nat) (ho : ∀ b, o = some b → b < 2 ^ 31) : pm_M PP (d + 1) 813 [.int (iv o)] h Q = Q (.inl (some (.int (nI (if inO 48 57 o then 1 else 0))))) h := by
  have hi := inO_lt (o := o) (lo := 48) (hi := 57) ho (by decide) (by decide) (by decide)
  rw [e_813]
  by_cases c1 : iv o < nI 48
  · rw [if_neg (fun q => (hi.mp q).1 c1)]
    simp (disch := omega) only [u_813_0, B_813_0, u_813_16, B_813_16, u_813_17, B_813_17, nI1T, Nat.left_eq_add, Nat.add_eq_left, Nat.add_eq_zero_iff, and_false, false_and, if_false, if_true, opsN, opsC, pm_1, lg, ls1, ls2, lq, List.length_cons, List.length_nil, cN, cL, callE, retV, retN, pm_pop, pm_cat, List.map_cons, List.map_nil, List.sum_cons, List.sum_nil, Value.category, Option.toList, List.cons_append, List.nil_append, ↓reduceIte, reduceCtorEq, Nat.reduceAdd, Nat.reduceLT, Nat.reduceLeDiff, Nat.reduceSub, Nat.reduceEqDiff, Nat.zero_le, Nat.sub_zero, Nat.le_refl, true_and, and_true, not_true_eq_false, not_false_eq_true, true_or, or_true, lc_eq, lc_ne, lc_lt, lc_ge, lc_gt, lc_le, nI_add, lN_add, nI_leI, nI_ltI, nI_eq, nI_clamp, pk_lLT, pk_lLE, pk_lEQ, pk_sub, vp_inT, nz_eq, nz_lt, nz_ge, nz_gt, nz_le, lz_eq, lz_lt, lz_ge, hP1, hP2, hP3, hP4, hP5, hP6, hP7, hP8, hP9, hP10, hP11, hP12, hP13, hP14, hP15, hP16, hP17, hP18, hP19, hP20, c1]
  · by_cases c2 : nI 57 < iv o
    · rw [if_neg (fun q => (hi.mp q).2 c2)]
      simp (disch := omega) only [u_813_0, B_813_0, u_813_16, B_813_16, u_813_17, B_813_17, nI1T, Nat.left_eq_add, Nat.add_eq_left, Nat.add_eq_zero_iff, and_false, false_and, if_false, if_true, opsN, opsC, pm_1, lg, ls1, ls2, lq, List.length_cons, List.length_nil, cN, cL, callE, retV, retN, pm_pop, pm_cat, List.map_cons, List.map_nil, List.sum_cons, List.sum_nil, Value.category, Option.toList, List.cons_append, List.nil_append, ↓reduceIte, reduceCtorEq, Nat.reduceAdd, Nat.reduceLT, Nat.reduceLeDiff, Nat.reduceSub, Nat.reduceEqDiff, Nat.zero_le, Nat.sub_zero, Nat.le_refl, true_and, and_true, not_true_eq_false, not_false_eq_true, true_or, or_true, lc_eq, lc_ne, lc_lt, lc_ge, lc_gt, lc_le, nI_add, lN_add, nI_leI, nI_ltI, nI_eq, nI_clamp, pk_lLT, pk_lLE, pk_lEQ, pk_sub, vp_inT, nz_eq, nz_lt, nz_ge, nz_gt, nz_le, lz_eq, lz_lt, lz_ge, hP1, hP2, hP3, hP4, hP5, hP6, hP7, hP8, hP9, hP10, hP11, hP12, hP13, hP14, hP15, hP16, hP17, hP18, hP19, hP20, c1, c2]
    · rw [if_pos (hi.mpr ⟨c1, c2⟩)]
      simp (disch := omega) only [u_813_0, B_813_0, u_813_16, B_813_16, u_813_17, B_813_17, nI1T, Nat.left_eq_add, Nat.add_eq_left, Nat.add_eq_zero_iff, and_false, false_and, if_false, if_true, opsN, opsC, pm_1, lg, ls1, ls2, lq, List.length_cons, List.length_nil, cN, cL, callE, retV, retN, pm_pop, pm_cat, List.map_cons, List.map_nil, List.sum_cons, List.sum_nil, Value.category, Option.toList, List.cons_append, List.nil_append, ↓reduceIte, reduceCtorEq, Nat.reduceAdd, Nat.reduceLT, Nat.reduceLeDiff, Nat.reduceSub, Nat.reduceEqDiff, Nat.zero_le, Nat.sub_zero, Nat.le_refl, true_and, and_true, not_true_eq_false, not_false_eq_true, true_or, or_true, lc_eq, lc_ne, lc_lt, lc_ge, lc_gt, lc_le, nI_add, lN_add, nI_leI, nI_ltI, nI_eq, nI_clamp, pk_lLT, pk_lLE, pk_lEQ, pk_sub, vp_inT, nz_eq, nz_lt, nz_ge, nz_gt, nz_le, lz_eq, lz_lt, lz_ge, hP1, hP2, hP3, hP4, hP5, hP6, hP7, hP8, hP9, hP10, hP11, hP12, hP13, hP14, hP15, hP16, hP17, hP18, hP19, hP20, c1, c2]
theorem q814 (d : Nat) (ho : ∀ b, o = some b → b < 2 ^ 31) : pm_M PP (d + 1) 814 [.int (iv o)] h Q = Q (.inl (some (.int (nI (if inO 97 122 o then 1 else 0))))) h := by
  have hi := inO_lt (o := o) (lo := 97) (hi := 122) ho (by decide) (by decide) (by decide)
  rw [e_814]
  by_cases c1 : iv o < nI 97
  · rw [if_neg (fun q => (hi.mp q).1 c1)]
    simp (disch := omega) only [u_814_0, B_814_0, u_814_16, B_814_16, u_814_17, B_814_17, nI1T, Nat.left_eq_add, Nat.add_eq_left, Nat.add_eq_zero_iff, and_false, false_and, if_false, if_true, opsN, opsC, pm_1, lg, ls1, ls2, lq, List.length_cons, List.length_nil, cN, cL, callE, retV, retN, pm_pop, pm_cat, List.map_cons, List.map_nil, List.sum_cons, List.sum_nil, Value.category, Option.toList, List.cons_append, List.nil_append, ↓reduceIte, reduceCtorEq, Nat.reduceAdd, Nat.reduceLT, Nat.reduceLeDiff, Nat.reduceSub, Nat.reduceEqDiff, Nat.zero_le, Nat.sub_zero, Nat.le_refl, true_and, and_true, not_true_eq_false, not_false_eq_true, true_or, or_true, lc_eq, lc_ne, lc_lt, lc_ge, lc_gt, lc_le, nI_add, lN_add, nI_leI, nI_ltI, nI_eq, nI_clamp, pk_lLT, pk_lLE, pk_lEQ, pk_sub, vp_inT, nz_eq, nz_lt, nz_ge, nz_gt, nz_le, lz_eq, lz_lt, lz_ge, hP1, hP2, hP3, hP4, hP5, hP6, hP7, hP8, hP9, hP10, hP11, hP12, hP13, hP14, hP15, hP16, hP17, hP18, hP19, hP20, c1]
  · by_cases c2 : nI 122 < iv o
    · rw [if_neg (fun q => (hi.mp q).2 c2)]
      simp (disch := omega) only [u_814_0, B_814_0, u_814_16, B_814_16, u_814_17, B_814_17, nI1T, Nat.left_eq_add, Nat.add_eq_left, Nat.add_eq_zero_iff, and_false, false_and, if_false, if_true, opsN, opsC, pm_1, lg, ls1, ls2, lq, List.length_cons, List.length_nil, cN, cL, callE, retV, retN, pm_pop, pm_cat, List.map_cons, List.map_nil, List.sum_cons, List.sum_nil, Value.category, Option.toList, List.cons_append, List.nil_append, ↓reduceIte, reduceCtorEq, Nat.reduceAdd, Nat.reduceLT, Nat.reduceLeDiff, Nat.reduceSub, Nat.reduceEqDiff, Nat.zero_le, Nat.sub_zero, Nat.le_refl, true_and, and_true, not_true_eq_false, not_false_eq_true, true_or, or_true, lc_eq, lc_ne, lc_lt, lc_ge, lc_gt, lc_le, nI_add, lN_add, nI_leI, nI_ltI, nI_eq, nI_clamp, pk_lLT, pk_lLE, pk_lEQ, pk_sub, vp_inT, nz_eq, nz_lt, nz_ge, nz_gt, nz_le, lz_eq, lz_lt, lz_ge, hP1, hP2, hP3, hP4, hP5, hP6, hP7, hP8, hP9, hP10, hP11, hP12, hP13, hP14, hP15, hP16, hP17, hP18, hP19, hP20, c1, c2]
    · rw [if_pos (hi.mpr ⟨c1, c2⟩)]
      simp (disch := omega) only [u_814_0, B_814_0, u_814_16, B_814_16, u_814_17, B_814_17, nI1T, Nat.left_eq_add, Nat.add_eq_left, Nat.add_eq_zero_iff, and_false, false_and, if_false, if_true, opsN, opsC, pm_1, lg, ls1, ls2, lq, List.length_cons, List.length_nil, cN, cL, callE, retV, retN, pm_pop, pm_cat, List.map_cons, List.map_nil, List.sum_cons, List.sum_nil, Value.category, Option.toList, List.cons_append, List.nil_append, ↓reduceIte, reduceCtorEq, Nat.reduceAdd, Nat.reduceLT, Nat.reduceLeDiff, Nat.reduceSub, Nat.reduceEqDiff, Nat.zero_le, Nat.sub_zero, Nat.le_refl, true_and, and_true, not_true_eq_false, not_false_eq_true, true_or, or_true, lc_eq, lc_ne, lc_lt, lc_ge, lc_gt, lc_le, nI_add, lN_add, nI_leI, nI_ltI, nI_eq, nI_clamp, pk_lLT, pk_lLE, pk_lEQ, pk_sub, vp_inT, nz_eq, nz_lt, nz_ge, nz_gt, nz_le, lz_eq, lz_lt, lz_ge, hP1, hP2, hP3, hP4, hP5, hP6, hP7, hP8, hP9, hP10, hP11, hP12, hP13, hP14, hP15, hP16, hP17, hP18, hP19, hP20, c1, c2]
theorem q815 (d : Nat) (ho : ∀ b, o = some b → b < 2 ^ 31) : pm_M PP (d + 1) 815 [.int (iv o)] h Q = Q (.inl (some (.int (nI (if inO 65 90 o then 1 else 0))))) h := by
  have hi := inO_lt (o := o) (lo := 65) (hi := 90) ho (by decide) (by decide) (by decide)
  rw [e_815]
  by_cases c1 : iv o < nI 65
  · rw [if_neg (fun q => (hi.mp q).1 c1)]
    simp (disch := omega) only [u_815_0, B_815_0, u_815_16, B_815_16, u_815_17, B_815_17, nI1T, Nat.left_eq_add, Nat.add_eq_left, Nat.add_eq_zero_iff, and_false, false_and, if_false, if_true, opsN, opsC, pm_1, lg, ls1, ls2, lq, List.length_cons, List.length_nil, cN, cL, callE, retV, retN, pm_pop, pm_cat, List.map_cons, List.map_nil, List.sum_cons, List.sum_nil, Value.category, Option.toList, List.cons_append, List.nil_append, ↓reduceIte, reduceCtorEq, Nat.reduceAdd, Nat.reduceLT, Nat.reduceLeDiff, Nat.reduceSub, Nat.reduceEqDiff, Nat.zero_le, Nat.sub_zero, Nat.le_refl, true_and, and_true, not_true_eq_false, not_false_eq_true, true_or, or_true, lc_eq, lc_ne, lc_lt, lc_ge, lc_gt, lc_le, nI_add, lN_add, nI_leI, nI_ltI, nI_eq, nI_clamp, pk_lLT, pk_lLE, pk_lEQ, pk_sub, vp_inT, nz_eq, nz_lt, nz_ge, nz_gt, nz_le, lz_eq, lz_lt, lz_ge, hP1, hP2, hP3, hP4, hP5, hP6, hP7, hP8, hP9, hP10, hP11, hP12, hP13, hP14, hP15, hP16, hP17, hP18, hP19, hP20, c1]
  · by_cases c2 : nI 90 < iv o
    · rw [if_neg (fun q => (hi.mp q).2 c2)]
      simp (disch := omega) only [u_815_0, B_815_0, u_815_16, B_815_16, u_815_17, B_815_17, nI1T, Nat.left_eq_add, Nat.add_eq_left, Nat.add_eq_zero_iff, and_false, false_and, if_false, if_true, opsN, opsC, pm_1, lg, ls1, ls2, lq, List.length_cons, List.length_nil, cN, cL, callE, retV, retN, pm_pop, pm_cat, List.map_cons, List.map_nil, List.sum_cons, List.sum_nil, Value.category, Option.toList, List.cons_append, List.nil_append, ↓reduceIte, reduceCtorEq, Nat.reduceAdd, Nat.reduceLT, Nat.reduceLeDiff, Nat.reduceSub, Nat.reduceEqDiff, Nat.zero_le, Nat.sub_zero, Nat.le_refl, true_and, and_true, not_true_eq_false, not_false_eq_true, true_or, or_true, lc_eq, lc_ne, lc_lt, lc_ge, lc_gt, lc_le, nI_add, lN_add, nI_leI, nI_ltI, nI_eq, nI_clamp, pk_lLT, pk_lLE, pk_lEQ, pk_sub, vp_inT, nz_eq, nz_lt, nz_ge, nz_gt, nz_le, lz_eq, lz_lt, lz_ge, hP1, hP2, hP3, hP4, hP5, hP6, hP7, hP8, hP9, hP10, hP11, hP12, hP13, hP14, hP15, hP16, hP17, hP18, hP19, hP20, c1, c2]
    · rw [if_pos (hi.mpr ⟨c1, c2⟩)]
      simp (disch := omega) only [u_815_0, B_815_0, u_815_16, B_815_16, u_815_17, B_815_17, nI1T, Nat.left_eq_add, Nat.add_eq_left, Nat.add_eq_zero_iff, and_false, false_and, if_false, if_true, opsN, opsC, pm_1, lg, ls1, ls2, lq, List.length_cons, List.length_nil, cN, cL, callE, retV, retN, pm_pop, pm_cat, List.map_cons, List.map_nil, List.sum_cons, List.sum_nil, Value.category, Option.toList, List.cons_append, List.nil_append, ↓reduceIte, reduceCtorEq, Nat.reduceAdd, Nat.reduceLT, Nat.reduceLeDiff, Nat.reduceSub, Nat.reduceEqDiff, Nat.zero_le, Nat.sub_zero, Nat.le_refl, true_and, and_true, not_true_eq_false, not_false_eq_true, true_or, or_true, lc_eq, lc_ne, lc_lt, lc_ge, lc_gt, lc_le, nI_add, lN_add, nI_leI, nI_ltI, nI_eq, nI_clamp, pk_lLT, pk_lLE, pk_lEQ, pk_sub, vp_inT, nz_eq, nz_lt, nz_ge, nz_gt, nz_le, lz_eq, lz_lt, lz_ge, hP1, hP2, hP3, hP4, hP5, hP6, hP7, hP8, hP9, hP10, hP11, hP12, hP13, hP14, hP15, hP16, hP17, hP18, hP19, hP20, c1, c2]
theorem q1045 (d : Nat) (ho : ∀ b, o = some b → b < 2 ^ 31) : pm_M PP (d + 1) 1045 [.int (iv o)] h Q = Q (.inl (some (.int (nI (if inO 97 122 o then 1 else 0))))) h := by
  have hi := inO_lt (o := o) (lo := 97) (hi := 122) ho (by decide) (by decide) (by decide)
  rw [e_1045]
  by_cases c1 : iv o < nI 97
  · rw [if_neg (fun q => (hi.mp q).1 c1)]
    simp (disch := omega) only [u_1045_0, B_1045_0, u_1045_16, B_1045_16, u_1045_17, B_1045_17, nI1T, Nat.left_eq_add, Nat.add_eq_left, Nat.add_eq_zero_iff, and_false, false_and, if_false, if_true, opsN, opsC, pm_1, lg, ls1, ls2, lq, List.length_cons, List.length_nil, cN, cL, callE, retV, retN, pm_pop, pm_cat, List.map_cons, List.map_nil, List.sum_cons, List.sum_nil, Value.category, Option.toList, List.cons_append, List.nil_append, ↓reduceIte, reduceCtorEq, Nat.reduceAdd, Nat.reduceLT, Nat.reduceLeDiff, Nat.reduceSub, Nat.reduceEqDiff, Nat.zero_le, Nat.sub_zero, Nat.le_refl, true_and, and_true, not_true_eq_false, not_false_eq_true, true_or, or_true, lc_eq, lc_ne, lc_lt, lc_ge, lc_gt, lc_le, nI_add, lN_add, nI_leI, nI_ltI, nI_eq, nI_clamp, pk_lLT, pk_lLE, pk_lEQ, pk_sub, vp_inT, nz_eq, nz_lt, nz_ge, nz_gt, nz_le, lz_eq, lz_lt, lz_ge, hP1, hP2, hP3, hP4, hP5, hP6, hP7, hP8, hP9, hP10, hP11, hP12, hP13, hP14, hP15, hP16, hP17, hP18, hP19, hP20, c1]
  · by_cases c2 : nI 122 < iv o
    · rw [if_neg (fun q => (hi.mp q).2 c2)]
      simp (disch := omega) only [u_1045_0, B_1045_0, u_1045_16, B_1045_16, u_1045_17, B_1045_17, nI1T, Nat.left_eq_add, Nat.add_eq_left, Nat.add_eq_zero_iff, and_false, false_and, if_false, if_true, opsN, opsC, pm_1, lg, ls1, ls2, lq, List.length_cons, List.length_nil, cN, cL, callE, retV, retN, pm_pop, pm_cat, List.map_cons, List.map_nil, List.sum_cons, List.sum_nil, Value.category, Option.toList, List.cons_append, List.nil_append, ↓reduceIte, reduceCtorEq, Nat.reduceAdd, Nat.reduceLT, Nat.reduceLeDiff, Nat.reduceSub, Nat.reduceEqDiff, Nat.zero_le, Nat.sub_zero, Nat.le_refl, true_and, and_true, not_true_eq_false, not_false_eq_true, true_or, or_true, lc_eq, lc_ne, lc_lt, lc_ge, lc_gt, lc_le, nI_add, lN_add, nI_leI, nI_ltI, nI_eq, nI_clamp, pk_lLT, pk_lLE, pk_lEQ, pk_sub, vp_inT, nz_eq, nz_lt, nz_ge, nz_gt, nz_le, lz_eq, lz_lt, lz_ge, hP1, hP2, hP3, hP4, hP5, hP6, hP7, hP8, hP9, hP10, hP11, hP12, hP13, hP14, hP15, hP16, hP17, hP18, hP19, hP20, c1, c2]
    · rw [if_pos (hi.mpr ⟨c1, c2⟩)]
      simp (disch := omega) only [u_1045_0, B_1045_0, u_1045_16, B_1045_16, u_1045_17, B_1045_17, nI1T, Nat.left_eq_add, Nat.add_eq_left, Nat.add_eq_zero_iff, and_false, false_and, if_false, if_true, opsN, opsC, pm_1, lg, ls1, ls2, lq, List.length_cons, List.length_nil, cN, cL, callE, retV, retN, pm_pop, pm_cat, List.map_cons, List.map_nil, List.sum_cons, List.sum_nil, Value.category, Option.toList, List.cons_append, List.nil_append, ↓reduceIte, reduceCtorEq, Nat.reduceAdd, Nat.reduceLT, Nat.reduceLeDiff, Nat.reduceSub, Nat.reduceEqDiff, Nat.zero_le, Nat.sub_zero, Nat.le_refl, true_and, and_true, not_true_eq_false, not_false_eq_true, true_or, or_true, lc_eq, lc_ne, lc_lt, lc_ge, lc_gt, lc_le, nI_add, lN_add, nI_leI, nI_ltI, nI_eq, nI_clamp, pk_lLT, pk_lLE, pk_lEQ, pk_sub, vp_inT, nz_eq, nz_lt, nz_ge, nz_gt, nz_le, lz_eq, lz_lt, lz_ge, hP1, hP2, hP3, hP4, hP5, hP6, hP7, hP8, hP9, hP10, hP11, hP12, hP13, hP14, hP15, hP16, hP17, hP18, hP19, hP20, c1, c2]
theorem q1046 (d : Nat) (ho : ∀ b, o = some b → b < 2 ^ 31) : pm_M PP (d + 1) 1046 [.int (iv o)] h Q = Q (.inl (some (.int (nI (if inO 65 90 o then 1 else 0))))) h := by
  have hi := inO_lt (o := o) (lo := 65) (hi := 90) ho (by decide) (by decide) (by decide)
  rw [e_1046]
  by_cases c1 : iv o < nI 65
  · rw [if_neg (fun q => (hi.mp q).1 c1)]
    simp (disch := omega) only [u_1046_0, B_1046_0, u_1046_16, B_1046_16, u_1046_17, B_1046_17, nI1T, Nat.left_eq_add, Nat.add_eq_left, Nat.add_eq_zero_iff, and_false, false_and, if_false, if_true, opsN, opsC, pm_1, lg, ls1, ls2, lq, List.length_cons, List.length_nil, cN, cL, callE, retV, retN, pm_pop, pm_cat, List.map_cons, List.map_nil, List.sum_cons, List.sum_nil, Value.category, Option.toList, List.cons_append, List.nil_append, ↓reduceIte, reduceCtorEq, Nat.reduceAdd, Nat.reduceLT, Nat.reduceLeDiff, Nat.reduceSub, Nat.reduceEqDiff, Nat.zero_le, Nat.sub_zero, Nat.le_refl, true_and, and_true, not_true_eq_false, not_false_eq_true, true_or, or_true, lc_eq, lc_ne, lc_lt, lc_ge, lc_gt, lc_le, nI_add, lN_add, nI_leI, nI_ltI, nI_eq, nI_clamp, pk_lLT, pk_lLE, pk_lEQ, pk_sub, vp_inT, nz_eq, nz_lt, nz_ge, nz_gt, nz_le, lz_eq, lz_lt, lz_ge, hP1, hP2, hP3, hP4, hP5, hP6, hP7, hP8, hP9, hP10, hP11, hP12, hP13, hP14, hP15, hP16, hP17, hP18, hP19, hP20, c1]
  · by_cases c2 : nI 90 < iv o
    · rw [if_neg (fun q => (hi.mp q).2 c2)]
      simp (disch := omega) only [u_1046_0, B_1046_0, u_1046_16, B_1046_16, u_1046_17, B_1046_17, nI1T, Nat.left_eq_add, Nat.add_eq_left, Nat.add_eq_zero_iff, and_false, false_and, if_false, if_true, opsN, opsC, pm_1, lg, ls1, ls2, lq, List.length_cons, List.length_nil, cN, cL, callE, retV, retN, pm_pop, pm_cat, List.map_cons, List.map_nil, List.sum_cons, List.sum_nil, Value.category, Option.toList, List.cons_append, List.nil_append, ↓reduceIte, reduceCtorEq, Nat.reduceAdd, Nat.reduceLT, Nat.reduceLeDiff, Nat.reduceSub, Nat.reduceEqDiff, Nat.zero_le, Nat.sub_zero, Nat.le_refl, true_and, and_true, not_true_eq_false, not_false_eq_true, true_or, or_true, lc_eq, lc_ne, lc_lt, lc_ge, lc_gt, lc_le, nI_add, lN_add, nI_leI, nI_ltI, nI_eq, nI_clamp, pk_lLT, pk_lLE, pk_lEQ, pk_sub, vp_inT, nz_eq, nz_lt, nz_ge, nz_gt, nz_le, lz_eq, lz_lt, lz_ge, hP1, hP2, hP3, hP4, hP5, hP6, hP7, hP8, hP9, hP10, hP11, hP12, hP13, hP14, hP15, hP16, hP17, hP18, hP19, hP20, c1, c2]
    · rw [if_pos (hi.mpr ⟨c1, c2⟩)]
      simp (disch := omega) only [u_1046_0, B_1046_0, u_1046_16, B_1046_16, u_1046_17, B_1046_17, nI1T, Nat.left_eq_add, Nat.add_eq_left, Nat.add_eq_zero_iff, and_false, false_and, if_false, if_true, opsN, opsC, pm_1, lg, ls1, ls2, lq, List.length_cons, List.length_nil, cN, cL, callE, retV, retN, pm_pop, pm_cat, List.map_cons, List.map_nil, List.sum_cons, List.sum_nil, Value.category, Option.toList, List.cons_append, List.nil_append, ↓reduceIte, reduceCtorEq, Nat.reduceAdd, Nat.reduceLT, Nat.reduceLeDiff, Nat.reduceSub, Nat.reduceEqDiff, Nat.zero_le, Nat.sub_zero, Nat.le_refl, true_and, and_true, not_true_eq_false, not_false_eq_true, true_or, or_true, lc_eq, lc_ne, lc_lt, lc_ge, lc_gt, lc_le, nI_add, lN_add, nI_leI, nI_ltI, nI_eq, nI_clamp, pk_lLT, pk_lLE, pk_lEQ, pk_sub, vp_inT, nz_eq, nz_lt, nz_ge, nz_gt, nz_le, lz_eq, lz_lt, lz_ge, hP1, hP2, hP3, hP4, hP5, hP6, hP7, hP8, hP9, hP10, hP11, hP12, hP13, hP14, hP15, hP16, hP17, hP18, hP19, hP20, c1, c2]
theorem q1047 (d : Nat) (ho : ∀ b, o = some b → b < 2 ^ 31) : pm_M PP (d + 1) 1047 [.int (iv o)] h Q = Q (.inl (some (.int (nI (if inO 48 57 o then 1 else 0))))) h := by
  have hi := inO_lt (o := o) (lo := 48) (hi := 57) ho (by decide) (by decide) (by decide)
  rw [e_1047]
  by_cases c1 : iv o < nI 48
  · rw [if_neg (fun q => (hi.mp q).1 c1)]
    simp (disch := omega) only [u_1047_0, B_1047_0, u_1047_16, B_1047_16, u_1047_17, B_1047_17, nI1T, Nat.left_eq_add, Nat.add_eq_left, Nat.add_eq_zero_iff, and_false, false_and, if_false, if_true, opsN, opsC, pm_1, lg, ls1, ls2, lq, List.length_cons, List.length_nil, cN, cL, callE, retV, retN, pm_pop, pm_cat, List.map_cons, List.map_nil, List.sum_cons, List.sum_nil, Value.category, Option.toList, List.cons_append, List.nil_append, ↓reduceIte, reduceCtorEq, Nat.reduceAdd, Nat.reduceLT, Nat.reduceLeDiff, Nat.reduceSub, Nat.reduceEqDiff, Nat.zero_le, Nat.sub_zero, Nat.le_refl, true_and, and_true, not_true_eq_false, not_false_eq_true, true_or, or_true, lc_eq, lc_ne, lc_lt, lc_ge, lc_gt, lc_le, nI_add, lN_add, nI_leI, nI_ltI, nI_eq, nI_clamp, pk_lLT, pk_lLE, pk_lEQ, pk_sub, vp_inT, nz_eq, nz_lt, nz_ge, nz_gt, nz_le, lz_eq, lz_lt, lz_ge, hP1, hP2, hP3, hP4, hP5, hP6, hP7, hP8, hP9, hP10, hP11, hP12, hP13, hP14, hP15, hP16, hP17, hP18, hP19, hP20, c1]
  · by_cases c2 : nI 57 < iv o
    · rw [if_neg (fun q => (hi.mp q).2 c2)]
      simp (disch := omega) only [u_1047_0, B_1047_0, u_1047_16, B_1047_16, u_1047_17, B_1047_17, nI1T, Nat.left_eq_add, Nat.add_eq_left, Nat.add_eq_zero_iff, and_false, false_and, if_false, if_true, opsN, opsC, pm_1, lg, ls1, ls2, lq, List.length_cons, List.length_nil, cN, cL, callE, retV, retN, pm_pop, pm_cat, List.map_cons, List.map_nil, List.sum_cons, List.sum_nil, Value.category, Option.toList, List.cons_append, List.nil_append, ↓reduceIte, reduceCtorEq, Nat.reduceAdd, Nat.reduceLT, Nat.reduceLeDiff, Nat.reduceSub, Nat.reduceEqDiff, Nat.zero_le, Nat.sub_zero, Nat.le_refl, true_and, and_true, not_true_eq_false, not_false_eq_true, true_or, or_true, lc_eq, lc_ne, lc_lt, lc_ge, lc_gt, lc_le, nI_add, lN_add, nI_leI, nI_ltI, nI_eq, nI_clamp, pk_lLT, pk_lLE, pk_lEQ, pk_sub, vp_inT, nz_eq, nz_lt, nz_ge, nz_gt, nz_le, lz_eq, lz_lt, lz_ge, hP1, hP2, hP3, hP4, hP5, hP6, hP7, hP8, hP9, hP10, hP11, hP12, hP13, hP14, hP15, hP16, hP17, hP18, hP19, hP20, c1, c2]
    · rw [if_pos (hi.mpr ⟨c1, c2⟩)]
      simp (disch := omega) only [u_1047_0, B_1047_0, u_1047_16, B_1047_16, u_1047_17, B_1047_17, nI1T, Nat.left_eq_add, Nat.add_eq_left, Nat.add_eq_zero_iff, and_false, false_and, if_false, if_true, opsN, opsC, pm_1, lg, ls1, ls2, lq, List.length_cons, List.length_nil, cN, cL, callE, retV, retN, pm_pop, pm_cat, List.map_cons, List.map_nil, List.sum_cons, List.sum_nil, Value.category, Option.toList, List.cons_append, List.nil_append, ↓reduceIte, reduceCtorEq, Nat.reduceAdd, Nat.reduceLT, Nat.reduceLeDiff, Nat.reduceSub, Nat.reduceEqDiff, Nat.zero_le, Nat.sub_zero, Nat.le_refl, true_and, and_true, not_true_eq_false, not_false_eq_true, true_or, or_true, lc_eq, lc_ne, lc_lt, lc_ge, lc_gt, lc_le, nI_add, lN_add, nI_leI, nI_ltI, nI_eq, nI_clamp, pk_lLT, pk_lLE, pk_lEQ, pk_sub, vp_inT, nz_eq, nz_lt, nz_ge, nz_gt, nz_le, lz_eq, lz_lt, lz_ge, hP1, hP2, hP3, hP4, hP5, hP6, hP7, hP8, hP9, hP10, hP11, hP12, hP13, hP14, hP15, hP16, hP17, hP18, hP19, hP20, c1, c2]
end IS
