/-! ===== nextIn ===== -/
def nx (W sn : Nat → Nat) (N : List Nat) (w s : Nat) : Nat → Option Nat
  | 0 => none
  | n + 1 => if n ∈ N ∧ W n = w ∧ s ≤ sn n then (match nx W sn N w s n with
    | none => some n
    | some j => if sn n < sn j then some n else some j) else nx W sn N w s n
theorem nx_spec {W sn : Nat → Nat} {N : List Nat} {w s : Nat} : ∀ n, (nx W sn N w s n = none → ∀ x, x < n → ¬ (x ∈ N ∧ W x = w ∧ s ≤ sn x)) ∧
    (∀ j, nx W sn N w s n = some j → (j < n ∧ j ∈ N ∧ W j = w ∧ s ≤ sn j) ∧ ∀ x, x < n → (x ∈ N ∧ W x = w ∧ s ≤ sn x) → sn j ≤ sn x)
  | 0 => ⟨fun _ x hx => absurd hx (Nat.not_lt_zero _), fun m q => by cases q⟩
  | n + 1 => by
    obtain ⟨h1, h2⟩ := nx_spec (W := W) (sn := sn) (N := N) (w := w) (s := s) n
    by_cases e : n ∈ N ∧ W n = w ∧ s ≤ sn n
    · cases hm : nx W sn N w s n with
      | none =>
        have q : nx W sn N w s (n + 1) = some n := by simp only [nx, if_pos e, hm]
        rw [q]
        refine ⟨fun z => (by cases z), fun j z => ?_⟩
        cases z
        refine ⟨⟨by omega, e⟩, fun x hx hxN => ?_⟩
        by_cases z : x = n
        · rw [z]; exact Nat.le_refl _
        · exact absurd hxN (h1 hm x (by omega))
      | some j0 =>
        obtain ⟨⟨y1, y2⟩, h4⟩ := h2 j0 hm
        by_cases lt : sn n < sn j0
        · have q : nx W sn N w s (n + 1) = some n := by simp only [nx, if_pos e, hm, if_pos lt]
          rw [q]
          refine ⟨fun z => (by cases z), fun j z => ?_⟩
          cases z
          refine ⟨⟨by omega, e⟩, fun x hx hxN => ?_⟩
          by_cases z : x = n
          · rw [z]; exact Nat.le_refl _
          · have := h4 x (by omega) hxN; omega
        · have q : nx W sn N w s (n + 1) = some j0 := by simp only [nx, if_pos e, hm, if_neg lt]
          rw [q]
          refine ⟨fun z => (by cases z), fun j z => ?_⟩
          cases z
          refine ⟨⟨by omega, y2⟩, fun x hx hxN => ?_⟩
          by_cases z : x = n
          · rw [z]; omega
          · exact h4 x (by omega) hxN
    · have q : nx W sn N w s (n + 1) = nx W sn N w s n := by simp only [nx, if_neg e]
      rw [q]
      refine ⟨fun z x hx => ?_, fun j z => ?_⟩
      · by_cases y : x = n
        · rw [y]; exact e
        · exact h1 z x (by omega)
      · obtain ⟨⟨y1, y2⟩, h4⟩ := h2 j z
        refine ⟨⟨by omega, y2⟩, fun x hx hxN => ?_⟩
        by_cases z : x = n
        · rw [z] at hxN; exact absurd hxN e
        · exact h4 x (by omega) hxN
def iv : Option Nat → Int32
  | none => -nI 1
  | some j => nI j
def sv : Nat → Int64
  | 0 => -lN 1
  | s + 1 => lN s
theorem sv_le {x s : Nat} (hx : x < 2 ^ 62) (hs : s < 2 ^ 62) : (lN x ≤ sv s) = (x < s) := by
  cases s with
  | zero =>
    refine (eq_false fun q => ?_).trans (eq_false (Nat.not_lt_zero _)).symm
    have q2 := Int64.le_iff_toInt_le.mp q
    rw [show sv 0 = -lN 1 from rfl, pk_lT (by omega)] at q2
    have : (-lN 1 : Int64).toInt = -1 := by decide
    omega
  | succ s => exact propext ((pk_lLE (by omega) (by omega)).trans Nat.lt_succ_iff.symm)
theorem iv_n {j : Nat} (h : j < 300) : (nI j = -nI 1) = False := eq_false fun q => by
  have q2 := congrArg Int32.toInt q
  rw [nI_toInt (by omega)] at q2
  have : (-nI 1 : Int32).toInt = -1 := by decide
  omega
section NX
variable {h : pm_H} {q st : Nat} {A : Qs} {sn : Nat → Nat} {Q : pm_Q}
theorem l1016 (d : Nat) {w s : Nat} (hq : isQ h q A sn st) (hJ : qJ A) (hw : w < 2 ^ 62) (hs : s < 2 ^ 62) (hb : ∀ x, x ∈ qN A → qW A x < 2 ^ 62 ∧ sn x < 2 ^ 62)
    (hQ : Q (.inl (some (.int (iv (nx (qW A) sn (qN A) w s (qC A)))))) h) :
    ∀ (n i : Nat), n + i = qC A → pm_W PP (d + 2) 1016 Q 0 0 6 [some (.ref q), some (.long (lN w)), none, some (.long (sv s)), none, some (.int (iv (nx (qW A) sn (qN A) w s i))), some (.int (nI i))] [] h := by
  have hq0 := hq
  have hJ0 := hJ
  obtain ⟨r0, r1, r2, r3, r4, r5, r6, r7, r8, r9⟩ := hq
  obtain ⟨i3, i8, i12⟩ := hJ
  intro n
  induction n with
  | zero =>
    intro i hi
    have e : i = qC A := by omega
    subst e
    have c1 : qC A ≤ qC A := Nat.le_refl _
    rw [u_1016_6]
    simp (disch := omega) only [B_1016_6, nI1T, Nat.left_eq_add, Nat.add_eq_left, Nat.add_eq_zero_iff, and_false, false_and, if_false, if_true, opsN, opsC, pm_1, lg, ls1, ls2, lq, List.length_cons, List.length_nil, cN, cL, callE, retV, retN, pm_pop, pm_cat, List.map_cons, List.map_nil, List.sum_cons, List.sum_nil, Value.category, Option.toList, List.cons_append, List.nil_append, reduceIte, reduceCtorEq, Nat.reduceAdd, Nat.reduceLT, Nat.reduceLeDiff, Nat.reduceSub, Nat.reduceEqDiff, Nat.zero_le, Nat.sub_zero, Nat.le_refl, true_and, and_true, not_true_eq_false, not_false_eq_true, true_or, or_true, lc_eq, lc_ne, lc_lt, lc_ge, lc_gt, lc_le, nI_add, lN_add, nI_leI, nI_ltI, nI_eq, nI_clamp, pk_lLT, pk_lLE, pk_lEQ, pk_sub, vp_inT, nz_eq, nz_lt, nz_ge, nz_gt, nz_le, lz_eq, lz_lt, lz_ge, hP1, hP2, hP3, hP4, hP5, hP6, hP7, hP8, hP9, hP10, hP11, hP12, hP13, hP14, hP15, hP16, hP17, hP18, hP19, hP20]
    rw [q_came _ r0 r1]
    simp (disch := omega) only [u_1016_82, B_1016_82, nI1T, Nat.left_eq_add, Nat.add_eq_left, Nat.add_eq_zero_iff, and_false, false_and, if_false, if_true, opsN, opsC, pm_1, lg, ls1, ls2, lq, List.length_cons, List.length_nil, cN, cL, callE, retV, retN, pm_pop, pm_cat, List.map_cons, List.map_nil, List.sum_cons, List.sum_nil, Value.category, Option.toList, List.cons_append, List.nil_append, reduceIte, reduceCtorEq, Nat.reduceAdd, Nat.reduceLT, Nat.reduceLeDiff, Nat.reduceSub, Nat.reduceEqDiff, Nat.zero_le, Nat.sub_zero, Nat.le_refl, true_and, and_true, not_true_eq_false, not_false_eq_true, true_or, or_true, lc_eq, lc_ne, lc_lt, lc_ge, lc_gt, lc_le, nI_add, lN_add, nI_leI, nI_ltI, nI_eq, nI_clamp, pk_lLT, pk_lLE, pk_lEQ, pk_sub, vp_inT, nz_eq, nz_lt, nz_ge, nz_gt, nz_le, lz_eq, lz_lt, lz_ge, hP1, hP2, hP3, hP4, hP5, hP6, hP7, hP8, hP9, hP10, hP11, hP12, hP13, hP14, hP15, hP16, hP17, hP18, hP19, hP20, r3, lN_i, c1, hQ]
  | succ n ih =>
    intro i hi
    have c1 : ¬ qC A ≤ i := by omega
    have step := ih (i + 1) (by omega)
    have hr1 := r6 i (by omega)
    have hr2 := r7 i (by omega)
    rw [u_1016_6]
    simp (disch := omega) only [B_1016_6, nI1T, Nat.left_eq_add, Nat.add_eq_left, Nat.add_eq_zero_iff, and_false, false_and, if_false, if_true, opsN, opsC, pm_1, lg, ls1, ls2, lq, List.length_cons, List.length_nil, cN, cL, callE, retV, retN, pm_pop, pm_cat, List.map_cons, List.map_nil, List.sum_cons, List.sum_nil, Value.category, Option.toList, List.cons_append, List.nil_append, reduceIte, reduceCtorEq, Nat.reduceAdd, Nat.reduceLT, Nat.reduceLeDiff, Nat.reduceSub, Nat.reduceEqDiff, Nat.zero_le, Nat.sub_zero, Nat.le_refl, true_and, and_true, not_true_eq_false, not_false_eq_true, true_or, or_true, lc_eq, lc_ne, lc_lt, lc_ge, lc_gt, lc_le, nI_add, lN_add, nI_leI, nI_ltI, nI_eq, nI_clamp, pk_lLT, pk_lLE, pk_lEQ, pk_sub, vp_inT, nz_eq, nz_lt, nz_ge, nz_gt, nz_le, lz_eq, lz_lt, lz_ge, hP1, hP2, hP3, hP4, hP5, hP6, hP7, hP8, hP9, hP10, hP11, hP12, hP13, hP14, hP15, hP16, hP17, hP18, hP19, hP20]
    rw [q_came _ r0 r1]
    simp (disch := omega) only [nI1T, Nat.left_eq_add, Nat.add_eq_left, Nat.add_eq_zero_iff, and_false, false_and, if_false, if_true, opsN, opsC, pm_1, lg, ls1, ls2, lq, List.length_cons, List.length_nil, cN, cL, callE, retV, retN, pm_pop, pm_cat, List.map_cons, List.map_nil, List.sum_cons, List.sum_nil, Value.category, Option.toList, List.cons_append, List.nil_append, reduceIte, reduceCtorEq, Nat.reduceAdd, Nat.reduceLT, Nat.reduceLeDiff, Nat.reduceSub, Nat.reduceEqDiff, Nat.zero_le, Nat.sub_zero, Nat.le_refl, true_and, and_true, not_true_eq_false, not_false_eq_true, true_or, or_true, lc_eq, lc_ne, lc_lt, lc_ge, lc_gt, lc_le, nI_add, lN_add, nI_leI, nI_ltI, nI_eq, nI_clamp, pk_lLT, pk_lLE, pk_lEQ, pk_sub, vp_inT, nz_eq, nz_lt, nz_ge, nz_gt, nz_le, lz_eq, lz_lt, lz_ge, hP1, hP2, hP3, hP4, hP5, hP6, hP7, hP8, hP9, hP10, hP11, hP12, hP13, hP14, hP15, hP16, hP17, hP18, hP19, hP20, r3, lN_i, c1]
    rw [q_waitJ d hq0 hJ0 (by omega)]
    by_cases e : i ∈ qN A
    · obtain ⟨b1, b2⟩ := hb i e
      rw [if_pos e]
      simp (disch := omega) only [nI1T, Nat.left_eq_add, Nat.add_eq_left, Nat.add_eq_zero_iff, and_false, false_and, if_false, if_true, opsN, opsC, pm_1, lg, ls1, ls2, lq, List.length_cons, List.length_nil, cN, cL, callE, retV, retN, pm_pop, pm_cat, List.map_cons, List.map_nil, List.sum_cons, List.sum_nil, Value.category, Option.toList, List.cons_append, List.nil_append, reduceIte, reduceCtorEq, Nat.reduceAdd, Nat.reduceLT, Nat.reduceLeDiff, Nat.reduceSub, Nat.reduceEqDiff, Nat.zero_le, Nat.sub_zero, Nat.le_refl, true_and, and_true, not_true_eq_false, not_false_eq_true, true_or, or_true, lc_eq, lc_ne, lc_lt, lc_ge, lc_gt, lc_le, nI_add, lN_add, nI_leI, nI_ltI, nI_eq, nI_clamp, pk_lLT, pk_lLE, pk_lEQ, pk_sub, vp_inT, nz_eq, nz_lt, nz_ge, nz_gt, nz_le, lz_eq, lz_lt, lz_ge, hP1, hP2, hP3, hP4, hP5, hP6, hP7, hP8, hP9, hP10, hP11, hP12, hP13, hP14, hP15, hP16, hP17, hP18, hP19, hP20]
      rw [q_of _ r0 r1 (by omega) (by omega), hr1]
      by_cases ew : qW A i = w
      · simp (disch := omega) only [nI1T, Nat.left_eq_add, Nat.add_eq_left, Nat.add_eq_zero_iff, and_false, false_and, if_false, if_true, opsN, opsC, pm_1, lg, ls1, ls2, lq, List.length_cons, List.length_nil, cN, cL, callE, retV, retN, pm_pop, pm_cat, List.map_cons, List.map_nil, List.sum_cons, List.sum_nil, Value.category, Option.toList, List.cons_append, List.nil_append, reduceIte, reduceCtorEq, Nat.reduceAdd, Nat.reduceLT, Nat.reduceLeDiff, Nat.reduceSub, Nat.reduceEqDiff, Nat.zero_le, Nat.sub_zero, Nat.le_refl, true_and, and_true, not_true_eq_false, not_false_eq_true, true_or, or_true, lc_eq, lc_ne, lc_lt, lc_ge, lc_gt, lc_le, nI_add, lN_add, nI_leI, nI_ltI, nI_eq, nI_clamp, pk_lLT, pk_lLE, pk_lEQ, pk_sub, vp_inT, nz_eq, nz_lt, nz_ge, nz_gt, nz_le, lz_eq, lz_lt, lz_ge, hP1, hP2, hP3, hP4, hP5, hP6, hP7, hP8, hP9, hP10, hP11, hP12, hP13, hP14, hP15, hP16, hP17, hP18, hP19, hP20, ew]
        rw [q_of _ r0 r1 (by omega) (by omega), hr2]
        have hsv := sv_le b2 hs
        by_cases es : sn i < s
        · have ex : nx (qW A) sn (qN A) w s (i + 1) = nx (qW A) sn (qN A) w s i := by simp only [nx, if_neg (fun z : i ∈ qN A ∧ qW A i = w ∧ s ≤ sn i => by omega)]
          rw [ex] at step
          simp (disch := omega) only [u_1016_76, B_1016_76, nI1T, Nat.left_eq_add, Nat.add_eq_left, Nat.add_eq_zero_iff, and_false, false_and, if_false, if_true, opsN, opsC, pm_1, lg, ls1, ls2, lq, List.length_cons, List.length_nil, cN, cL, callE, retV, retN, pm_pop, pm_cat, List.map_cons, List.map_nil, List.sum_cons, List.sum_nil, Value.category, Option.toList, List.cons_append, List.nil_append, reduceIte, reduceCtorEq, Nat.reduceAdd, Nat.reduceLT, Nat.reduceLeDiff, Nat.reduceSub, Nat.reduceEqDiff, Nat.zero_le, Nat.sub_zero, Nat.le_refl, true_and, and_true, not_true_eq_false, not_false_eq_true, true_or, or_true, lc_eq, lc_ne, lc_lt, lc_ge, lc_gt, lc_le, nI_add, lN_add, nI_leI, nI_ltI, nI_eq, nI_clamp, pk_lLT, pk_lLE, pk_lEQ, pk_sub, vp_inT, nz_eq, nz_lt, nz_ge, nz_gt, nz_le, lz_eq, lz_lt, lz_ge, hP1, hP2, hP3, hP4, hP5, hP6, hP7, hP8, hP9, hP10, hP11, hP12, hP13, hP14, hP15, hP16, hP17, hP18, hP19, hP20, hsv, es]
          exact step
        · have hc : i ∈ qN A ∧ qW A i = w ∧ s ≤ sn i := ⟨e, ew, by omega⟩
          cases hm : nx (qW A) sn (qN A) w s i with
          | none =>
            have ex : nx (qW A) sn (qN A) w s (i + 1) = some i := by simp only [nx, if_pos hc, hm]
            rw [ex] at step
            have eo : iv none = -nI 1 := rfl
            simp (disch := omega) only [u_1016_72, B_1016_72, u_1016_76, B_1016_76, nI1T, Nat.left_eq_add, Nat.add_eq_left, Nat.add_eq_zero_iff, and_false, false_and, if_false, if_true, opsN, opsC, pm_1, lg, ls1, ls2, lq, List.length_cons, List.length_nil, cN, cL, callE, retV, retN, pm_pop, pm_cat, List.map_cons, List.map_nil, List.sum_cons, List.sum_nil, Value.category, Option.toList, List.cons_append, List.nil_append, reduceIte, reduceCtorEq, Nat.reduceAdd, Nat.reduceLT, Nat.reduceLeDiff, Nat.reduceSub, Nat.reduceEqDiff, Nat.zero_le, Nat.sub_zero, Nat.le_refl, true_and, and_true, not_true_eq_false, not_false_eq_true, true_or, or_true, lc_eq, lc_ne, lc_lt, lc_ge, lc_gt, lc_le, nI_add, lN_add, nI_leI, nI_ltI, nI_eq, nI_clamp, pk_lLT, pk_lLE, pk_lEQ, pk_sub, vp_inT, nz_eq, nz_lt, nz_ge, nz_gt, nz_le, lz_eq, lz_lt, lz_ge, hP1, hP2, hP3, hP4, hP5, hP6, hP7, hP8, hP9, hP10, hP11, hP12, hP13, hP14, hP15, hP16, hP17, hP18, hP19, hP20, hsv, es, eo]
            exact step
          | some j =>
            obtain ⟨⟨j1, j2, j3, j4⟩, j5⟩ := (nx_spec i).2 j hm
            have hj := ((i8 j).mp j2).1
            have hrj := r7 j hj
            obtain ⟨b3, b4⟩ := hb j j2
            have eo : iv (some j) = nI j := rfl
            have en := iv_n (j := j) (by omega)
            simp (disch := omega) only [nI1T, Nat.left_eq_add, Nat.add_eq_left, Nat.add_eq_zero_iff, and_false, false_and, if_false, if_true, opsN, opsC, pm_1, lg, ls1, ls2, lq, List.length_cons, List.length_nil, cN, cL, callE, retV, retN, pm_pop, pm_cat, List.map_cons, List.map_nil, List.sum_cons, List.sum_nil, Value.category, Option.toList, List.cons_append, List.nil_append, reduceIte, reduceCtorEq, Nat.reduceAdd, Nat.reduceLT, Nat.reduceLeDiff, Nat.reduceSub, Nat.reduceEqDiff, Nat.zero_le, Nat.sub_zero, Nat.le_refl, true_and, and_true, not_true_eq_false, not_false_eq_true, true_or, or_true, lc_eq, lc_ne, lc_lt, lc_ge, lc_gt, lc_le, nI_add, lN_add, nI_leI, nI_ltI, nI_eq, nI_clamp, pk_lLT, pk_lLE, pk_lEQ, pk_sub, vp_inT, nz_eq, nz_lt, nz_ge, nz_gt, nz_le, lz_eq, lz_lt, lz_ge, hP1, hP2, hP3, hP4, hP5, hP6, hP7, hP8, hP9, hP10, hP11, hP12, hP13, hP14, hP15, hP16, hP17, hP18, hP19, hP20, hsv, es, eo, en]
            rw [q_of _ r0 r1 (by omega) (by omega), hr2]
            simp (disch := omega) only [nI1T, Nat.left_eq_add, Nat.add_eq_left, Nat.add_eq_zero_iff, and_false, false_and, if_false, if_true, opsN, opsC, pm_1, lg, ls1, ls2, lq, List.length_cons, List.length_nil, cN, cL, callE, retV, retN, pm_pop, pm_cat, List.map_cons, List.map_nil, List.sum_cons, List.sum_nil, Value.category, Option.toList, List.cons_append, List.nil_append, reduceIte, reduceCtorEq, Nat.reduceAdd, Nat.reduceLT, Nat.reduceLeDiff, Nat.reduceSub, Nat.reduceEqDiff, Nat.zero_le, Nat.sub_zero, Nat.le_refl, true_and, and_true, not_true_eq_false, not_false_eq_true, true_or, or_true, lc_eq, lc_ne, lc_lt, lc_ge, lc_gt, lc_le, nI_add, lN_add, nI_leI, nI_ltI, nI_eq, nI_clamp, pk_lLT, pk_lLE, pk_lEQ, pk_sub, vp_inT, nz_eq, nz_lt, nz_ge, nz_gt, nz_le, lz_eq, lz_lt, lz_ge, hP1, hP2, hP3, hP4, hP5, hP6, hP7, hP8, hP9, hP10, hP11, hP12, hP13, hP14, hP15, hP16, hP17, hP18, hP19, hP20]
            rw [q_of _ r0 r1 (by omega) (by omega), hrj]
            by_cases lt : sn i < sn j
            · have ex : nx (qW A) sn (qN A) w s (i + 1) = some i := by simp only [nx, if_pos hc, hm, if_pos lt]
              rw [ex] at step
              have c2 : ¬ sn j ≤ sn i := by omega
              simp (disch := omega) only [u_1016_72, B_1016_72, u_1016_76, B_1016_76, nI1T, Nat.left_eq_add, Nat.add_eq_left, Nat.add_eq_zero_iff, and_false, false_and, if_false, if_true, opsN, opsC, pm_1, lg, ls1, ls2, lq, List.length_cons, List.length_nil, cN, cL, callE, retV, retN, pm_pop, pm_cat, List.map_cons, List.map_nil, List.sum_cons, List.sum_nil, Value.category, Option.toList, List.cons_append, List.nil_append, reduceIte, reduceCtorEq, Nat.reduceAdd, Nat.reduceLT, Nat.reduceLeDiff, Nat.reduceSub, Nat.reduceEqDiff, Nat.zero_le, Nat.sub_zero, Nat.le_refl, true_and, and_true, not_true_eq_false, not_false_eq_true, true_or, or_true, lc_eq, lc_ne, lc_lt, lc_ge, lc_gt, lc_le, nI_add, lN_add, nI_leI, nI_ltI, nI_eq, nI_clamp, pk_lLT, pk_lLE, pk_lEQ, pk_sub, vp_inT, nz_eq, nz_lt, nz_ge, nz_gt, nz_le, lz_eq, lz_lt, lz_ge, hP1, hP2, hP3, hP4, hP5, hP6, hP7, hP8, hP9, hP10, hP11, hP12, hP13, hP14, hP15, hP16, hP17, hP18, hP19, hP20, c2]
              exact step
            · have ex : nx (qW A) sn (qN A) w s (i + 1) = some j := by simp only [nx, if_pos hc, hm, if_neg lt]
              rw [ex] at step
              have c2 : sn j ≤ sn i := by omega
              simp (disch := omega) only [u_1016_76, B_1016_76, nI1T, Nat.left_eq_add, Nat.add_eq_left, Nat.add_eq_zero_iff, and_false, false_and, if_false, if_true, opsN, opsC, pm_1, lg, ls1, ls2, lq, List.length_cons, List.length_nil, cN, cL, callE, retV, retN, pm_pop, pm_cat, List.map_cons, List.map_nil, List.sum_cons, List.sum_nil, Value.category, Option.toList, List.cons_append, List.nil_append, reduceIte, reduceCtorEq, Nat.reduceAdd, Nat.reduceLT, Nat.reduceLeDiff, Nat.reduceSub, Nat.reduceEqDiff, Nat.zero_le, Nat.sub_zero, Nat.le_refl, true_and, and_true, not_true_eq_false, not_false_eq_true, true_or, or_true, lc_eq, lc_ne, lc_lt, lc_ge, lc_gt, lc_le, nI_add, lN_add, nI_leI, nI_ltI, nI_eq, nI_clamp, pk_lLT, pk_lLE, pk_lEQ, pk_sub, vp_inT, nz_eq, nz_lt, nz_ge, nz_gt, nz_le, lz_eq, lz_lt, lz_ge, hP1, hP2, hP3, hP4, hP5, hP6, hP7, hP8, hP9, hP10, hP11, hP12, hP13, hP14, hP15, hP16, hP17, hP18, hP19, hP20, c2]
              exact step
      · have ex : nx (qW A) sn (qN A) w s (i + 1) = nx (qW A) sn (qN A) w s i := by simp only [nx, if_neg (fun z : i ∈ qN A ∧ qW A i = w ∧ s ≤ sn i => ew z.2.1)]
        rw [ex] at step
        simp (disch := omega) only [u_1016_76, B_1016_76, nI1T, Nat.left_eq_add, Nat.add_eq_left, Nat.add_eq_zero_iff, and_false, false_and, if_false, if_true, opsN, opsC, pm_1, lg, ls1, ls2, lq, List.length_cons, List.length_nil, cN, cL, callE, retV, retN, pm_pop, pm_cat, List.map_cons, List.map_nil, List.sum_cons, List.sum_nil, Value.category, Option.toList, List.cons_append, List.nil_append, reduceIte, reduceCtorEq, Nat.reduceAdd, Nat.reduceLT, Nat.reduceLeDiff, Nat.reduceSub, Nat.reduceEqDiff, Nat.zero_le, Nat.sub_zero, Nat.le_refl, true_and, and_true, not_true_eq_false, not_false_eq_true, true_or, or_true, lc_eq, lc_ne, lc_lt, lc_ge, lc_gt, lc_le, nI_add, lN_add, nI_leI, nI_ltI, nI_eq, nI_clamp, pk_lLT, pk_lLE, pk_lEQ, pk_sub, vp_inT, nz_eq, nz_lt, nz_ge, nz_gt, nz_le, lz_eq, lz_lt, lz_ge, hP1, hP2, hP3, hP4, hP5, hP6, hP7, hP8, hP9, hP10, hP11, hP12, hP13, hP14, hP15, hP16, hP17, hP18, hP19, hP20, ew]
        exact step
    · have ex : nx (qW A) sn (qN A) w s (i + 1) = nx (qW A) sn (qN A) w s i := by simp only [nx, if_neg (fun z : i ∈ qN A ∧ qW A i = w ∧ s ≤ sn i => e z.1)]
      rw [ex] at step
      rw [if_neg e]
      simp (disch := omega) only [u_1016_76, B_1016_76, nI1T, Nat.left_eq_add, Nat.add_eq_left, Nat.add_eq_zero_iff, and_false, false_and, if_false, if_true, opsN, opsC, pm_1, lg, ls1, ls2, lq, List.length_cons, List.length_nil, cN, cL, callE, retV, retN, pm_pop, pm_cat, List.map_cons, List.map_nil, List.sum_cons, List.sum_nil, Value.category, Option.toList, List.cons_append, List.nil_append, reduceIte, reduceCtorEq, Nat.reduceAdd, Nat.reduceLT, Nat.reduceLeDiff, Nat.reduceSub, Nat.reduceEqDiff, Nat.zero_le, Nat.sub_zero, Nat.le_refl, true_and, and_true, not_true_eq_false, not_false_eq_true, true_or, or_true, lc_eq, lc_ne, lc_lt, lc_ge, lc_gt, lc_le, nI_add, lN_add, nI_leI, nI_ltI, nI_eq, nI_clamp, pk_lLT, pk_lLE, pk_lEQ, pk_sub, vp_inT, nz_eq, nz_lt, nz_ge, nz_gt, nz_le, lz_eq, lz_lt, lz_ge, hP1, hP2, hP3, hP4, hP5, hP6, hP7, hP8, hP9, hP10, hP11, hP12, hP13, hP14, hP15, hP16, hP17, hP18, hP19, hP20]
      exact step
theorem c1016 (d : Nat) {w s : Nat} (hq : isQ h q A sn st) (hJ : qJ A) (hw : w < 2 ^ 62) (hs : s < 2 ^ 62) (hb : ∀ x, x ∈ qN A → qW A x < 2 ^ 62 ∧ sn x < 2 ^ 62)
    (hQ : Q (.inl (some (.int (iv (nx (qW A) sn (qN A) w s (qC A)))))) h) : pm_M PP (d + 3) 1016 [.ref q, .long (lN w), .long (sv s)] h Q := by
  rw [e_1016]
  simp (disch := omega) only [u_1016_0, B_1016_0, nI1T, Nat.left_eq_add, Nat.add_eq_left, Nat.add_eq_zero_iff, and_false, false_and, if_false, if_true, opsN, opsC, pm_1, lg, ls1, ls2, lq, List.length_cons, List.length_nil, cN, cL, callE, retV, retN, pm_pop, pm_cat, List.map_cons, List.map_nil, List.sum_cons, List.sum_nil, Value.category, Option.toList, List.cons_append, List.nil_append, reduceIte, reduceCtorEq, Nat.reduceAdd, Nat.reduceLT, Nat.reduceLeDiff, Nat.reduceSub, Nat.reduceEqDiff, Nat.zero_le, Nat.sub_zero, Nat.le_refl, true_and, and_true, not_true_eq_false, not_false_eq_true, true_or, or_true, lc_eq, lc_ne, lc_lt, lc_ge, lc_gt, lc_le, nI_add, lN_add, nI_leI, nI_ltI, nI_eq, nI_clamp, pk_lLT, pk_lLE, pk_lEQ, pk_sub, vp_inT, nz_eq, nz_lt, nz_ge, nz_gt, nz_le, lz_eq, lz_lt, lz_ge, hP1, hP2, hP3, hP4, hP5, hP6, hP7, hP8, hP9, hP10, hP11, hP12, hP13, hP14, hP15, hP16, hP17, hP18, hP19, hP20]
  exact l1016 d hq hJ hw hs hb hQ (qC A) 0 rfl
/-- the next one stands in the line -/
theorem nx_some {w s y : Nat} {L1 L2 : List Nat} (hJ : qJ A) (hN : qN A = L1 ++ y :: L2) (hp : (qN A).Pairwise (lex (qW A) sn)) (h1 : ∀ x, x ∈ L1 → ¬ (qW A x = w ∧ s ≤ sn x)) (hw : qW A y = w) (hs : s ≤ sn y) :
    nx (qW A) sn (qN A) w s (qC A) = some y := by
  have hy : y ∈ qN A := by rw [hN]; exact List.mem_append_right _ (List.mem_cons_self ..)
  have hyC := ((hJ.2.1 y).mp hy).1
  cases hm : nx (qW A) sn (qN A) w s (qC A) with
  | none => exact absurd ⟨hy, hw, hs⟩ ((nx_spec (qC A)).1 hm y hyC)
  | some j =>
    obtain ⟨⟨j1, j2, j3, j4⟩, j5⟩ := (nx_spec (qC A)).2 j hm
    have h6 := j5 y hyC ⟨hy, hw, hs⟩
    rw [hN] at j2 hp
    rcases List.mem_append.mp j2 with e | e
    · exact absurd ⟨j3, j4⟩ (h1 j e)
    · rcases List.mem_cons.mp e with z | z
      · rw [z]
      · have := (List.pairwise_cons.mp (List.pairwise_append.mp hp).2.1).1 j z
        unfold lex at this
        omega
theorem nx_none {w s : Nat} (h1 : ∀ x, x ∈ qN A → ¬ (qW A x = w ∧ s ≤ sn x)) : nx (qW A) sn (qN A) w s (qC A) = none := by
  cases hm : nx (qW A) sn (qN A) w s (qC A) with
  | none => rfl
  | some j =>
    obtain ⟨⟨j1, j2, j3, j4⟩, j5⟩ := (nx_spec (qC A)).2 j hm
    exact absurd ⟨j3, j4⟩ (h1 j j2)
end NX
