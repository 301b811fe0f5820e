/-! ===== the reference: push, lessen ===== -/
def frQ (q u : Nat) (h h' : pm_H) : Prop := hT h' = hT h ∧ hN h' = hN h ∧ hR h' = hR h ∧ hn h' = hn h ∧ (∀ k, k ≠ u → hI h' k = hI h k) ∧ (∀ k, k ≠ q → hL h' k = hL h k)
theorem frQ_refl (q u : Nat) (h : pm_H) : frQ q u h h := ⟨rfl, rfl, rfl, rfl, fun _ _ => rfl, fun _ _ => rfl⟩
theorem frQ_trans {q u : Nat} {h h1 h2 : pm_H} (a : frQ q u h h1) (b : frQ q u h1 h2) : frQ q u h h2 :=
  ⟨b.1.trans a.1, b.2.1.trans a.2.1, b.2.2.1.trans a.2.2.1, b.2.2.2.1.trans a.2.2.2.1, fun k hk => (b.2.2.2.2.1 k hk).trans (a.2.2.2.2.1 k hk), fun k hk => (b.2.2.2.2.2 k hk).trans (a.2.2.2.2.2 k hk)⟩
theorem frQ_sL {q u : Nat} {h h' : pm_H} (a : frQ q u h h') {g : Nat → Int64} : frQ q u h (sL h' q g) :=
  ⟨a.1, a.2.1, a.2.2.1, a.2.2.2.1, a.2.2.2.2.1, fun k hk => by rw [hP7, va_up_ne _ _ hk]; exact a.2.2.2.2.2 k hk⟩
theorem frQ_sI {q u : Nat} {h h' : pm_H} (a : frQ q u h h') {g : Nat → Int32} : frQ q u h (sI h' u g) :=
  ⟨a.1, a.2.1, a.2.2.1, a.2.2.2.1, fun k hk => by rw [hP1, va_up_ne _ _ hk]; exact a.2.2.2.2.1 k hk, a.2.2.2.2.2⟩
theorem mU_fr {q u m : Nat} {h h' : pm_H} (a : frQ q u h h') (hm : mU h m u) : mU h' m u := by
  unfold mU at *
  rw [a.1, a.2.1, a.2.2.1]
  exact hm
def isU (h : pm_H) (u : Nat) (U : Nat → Bool) : Prop := ∀ k, k < 160 → hI h u k = if U k then nI 1 else nI 0
theorem q_setK {h : pm_H} {q st i v : Nat} {A : Qs} {sn : Nat → Nat} (hq : isQ h q A sn st) : isQ (sL h q (va_up (hL h q) (3 + 5 * i + 0) (lN v))) q (qL A, qC A, va_up (qK A) i v, qM A, qW A, qS A, qN A) sn st := by
  obtain ⟨r0, r1, r2, r3, r4, r5, r6, r7, r8, r9⟩ := hq
  refine ⟨r0, r1, ?_, ?_, ?_, ?_, ?_, ?_, ?_, ?_⟩
  · rw [hP7, va_up_self, va_up_ne _ _ (by omega)]; exact r2
  · rw [hP7, va_up_self, va_up_ne _ _ (by omega)]; exact r3
  · rw [hP7, va_up_self, va_up_ne _ _ (by omega)]; exact r4
  · intro j hj
    rw [hP7, va_up_self]
    show va_up (hL h q) _ _ _ = lN (va_up _ i v j)
    by_cases e : j = i
    · rw [e, va_up_self, va_up_self]
    · rw [va_up_ne _ _ (by omega), va_up_ne _ _ e]; exact r5 j hj
  · intro j hj
    rw [hP7, va_up_self, va_up_ne _ _ (by omega)]; exact r6 j hj
  · intro j hj
    rw [hP7, va_up_self, va_up_ne _ _ (by omega)]; exact r7 j hj
  · intro j hj
    rw [hP7, va_up_self, va_up_ne _ _ (by omega)]; exact r8 j hj
  · intro j hj
    rw [hP7, va_up_self, va_up_ne _ _ (by omega)]; exact r9 j hj
theorem q_setM {h : pm_H} {q st i v : Nat} {A : Qs} {sn : Nat → Nat} (hq : isQ h q A sn st) : isQ (sL h q (va_up (hL h q) (3 + 5 * i + 3) (lN v))) q (qL A, qC A, qK A, va_up (qM A) i v, qW A, qS A, qN A) sn st := by
  obtain ⟨r0, r1, r2, r3, r4, r5, r6, r7, r8, r9⟩ := hq
  refine ⟨r0, r1, ?_, ?_, ?_, ?_, ?_, ?_, ?_, ?_⟩
  · rw [hP7, va_up_self, va_up_ne _ _ (by omega)]; exact r2
  · rw [hP7, va_up_self, va_up_ne _ _ (by omega)]; exact r3
  · rw [hP7, va_up_self, va_up_ne _ _ (by omega)]; exact r4
  · intro j hj
    rw [hP7, va_up_self, va_up_ne _ _ (by omega)]; exact r5 j hj
  · intro j hj
    rw [hP7, va_up_self, va_up_ne _ _ (by omega)]; exact r6 j hj
  · intro j hj
    rw [hP7, va_up_self, va_up_ne _ _ (by omega)]; exact r7 j hj
  · intro j hj
    rw [hP7, va_up_self]
    show va_up (hL h q) _ _ _ = lN (va_up _ i v j)
    by_cases e : j = i
    · rw [e, va_up_self, va_up_self]
    · rw [va_up_ne _ _ (by omega), va_up_ne _ _ e]; exact r8 j hj
  · intro j hj
    rw [hP7, va_up_self, va_up_ne _ _ (by omega)]; exact r9 j hj
theorem q_setS {h : pm_H} {q st i v : Nat} {A : Qs} {sn : Nat → Nat} {L : List Nat} (hq : isQ h q A sn st) : isQ (sL h q (va_up (hL h q) (3 + 5 * i + 4) (lN v))) q (qL A, qC A, qK A, qM A, qW A, va_up (qS A) i v, L) sn st := by
  obtain ⟨r0, r1, r2, r3, r4, r5, r6, r7, r8, r9⟩ := hq
  refine ⟨r0, r1, ?_, ?_, ?_, ?_, ?_, ?_, ?_, ?_⟩
  · rw [hP7, va_up_self, va_up_ne _ _ (by omega)]; exact r2
  · rw [hP7, va_up_self, va_up_ne _ _ (by omega)]; exact r3
  · rw [hP7, va_up_self, va_up_ne _ _ (by omega)]; exact r4
  · intro j hj
    rw [hP7, va_up_self, va_up_ne _ _ (by omega)]; exact r5 j hj
  · intro j hj
    rw [hP7, va_up_self, va_up_ne _ _ (by omega)]; exact r6 j hj
  · intro j hj
    rw [hP7, va_up_self, va_up_ne _ _ (by omega)]; exact r7 j hj
  · intro j hj
    rw [hP7, va_up_self, va_up_ne _ _ (by omega)]; exact r8 j hj
  · intro j hj
    rw [hP7, va_up_self]
    show va_up (hL h q) _ _ _ = lN (va_up _ i v j)
    by_cases e : j = i
    · rw [e, va_up_self, va_up_self]
    · rw [va_up_ne _ _ (by omega), va_up_ne _ _ e]; exact r9 j hj
theorem q_com {h : pm_H} {q u st i w : Nat} {A : Qs} {sn : Nat → Nat} {L : List Nat} (hq : isQ h q A sn st) :
    isQ (sI (sL h q (va_up (va_up (va_up (hL h q) (3 + 5 * i + 1) (lN w)) (3 + 5 * i + 2) (lN st)) 2 (lN (st + 1)))) u (va_up (hI h u) w (nI 1))) q (qL A, qC A, qK A, qM A, va_up (qW A) i w, qS A, L) (va_up sn i st) (st + 1) := by
  obtain ⟨r0, r1, r2, r3, r4, r5, r6, r7, r8, r9⟩ := hq
  refine ⟨r0, r1, ?_, ?_, ?_, ?_, ?_, ?_, ?_, ?_⟩
  · rw [hP2, hP7, va_up_self, va_up_ne _ _ (by omega), va_up_ne _ _ (by omega), va_up_ne _ _ (by omega)]; exact r2
  · rw [hP2, hP7, va_up_self, va_up_ne _ _ (by omega), va_up_ne _ _ (by omega), va_up_ne _ _ (by omega)]; exact r3
  · rw [hP2, hP7, va_up_self, va_up_self]
  · intro j hj
    rw [hP2, hP7, va_up_self, va_up_ne _ _ (by omega), va_up_ne _ _ (by omega), va_up_ne _ _ (by omega)]; exact r5 j hj
  · intro j hj
    rw [hP2, hP7, va_up_self, va_up_ne _ _ (by omega), va_up_ne _ _ (by omega)]
    show va_up (hL h q) _ _ _ = lN (va_up (qW A) i w j)
    by_cases e : j = i
    · rw [e, va_up_self, va_up_self]
    · rw [va_up_ne _ _ (by omega), va_up_ne _ _ e]; exact r6 j hj
  · intro j hj
    rw [hP2, hP7, va_up_self, va_up_ne _ _ (by omega)]
    by_cases e : j = i
    · rw [e, va_up_self, va_up_self]
    · rw [va_up_ne _ _ (by omega), va_up_ne _ _ (by omega), va_up_ne _ _ e]; exact r7 j hj
  · intro j hj
    rw [hP2, hP7, va_up_self, va_up_ne _ _ (by omega), va_up_ne _ _ (by omega), va_up_ne _ _ (by omega)]; exact r8 j hj
  · intro j hj
    rw [hP2, hP7, va_up_self, va_up_ne _ _ (by omega), va_up_ne _ _ (by omega), va_up_ne _ _ (by omega)]; exact r9 j hj
theorem u_com {h : pm_H} {q u w : Nat} {g : Nat → Int64} {U : Nat → Bool} (hU : isU h u U) : isU (sI (sL h q g) u (va_up (hI h u) w (nI 1))) u (va_up U w true) := by
  intro k hk
  rw [hP1, va_up_self, va_upE, va_upE]
  split
  · rfl
  · exact hU k hk
/-- movesTo -/
theorem c1013 (d : Nat) {h : pm_H} {m u q i w st : Nat} {A : Qs} {sn : Nat → Nat} {L : List Nat} {Q : pm_Q} (hm : mU h m u) (hq : isQ h q A sn st) (hC : qC A ≤ 300) (hi : i < qC A) (hw : w < 160)
    (hQ : ∀ h', isQ h' q (qL A, qC A, qK A, va_up (qM A) i (qM A i + 1), va_up (qW A) i w, qS A, L) (va_up sn i st) (st + 1) → (∀ U, isU h u U → isU h' u (va_up U w true)) → frQ q u h h' → Q (.inl none) h') :
    pm_M PP (d + 3) 1013 [.ref m, .ref q, .int (nI i), .int (nI w)] h Q := by
  have hq0 := hq
  obtain ⟨r0, r1, r2, r3, r4, r5, r6, r7, r8, r9⟩ := hq
  have m0 := hm.1
  rw [e_1013]
  simp (disch := omega) only [u_1013_0, B_1013_0, nI1T, Nat.left_eq_add, Nat.add_eq_left, Nat.add_eq_zero_iff, and_false, false_and, if_false, if_true, opsN, opsC, pm_1, lg, ls1, ls2, lq, List.length_cons, List.length_nil, cN, cL, callE, retV, retN, pm_pop, pm_cat, List.map_cons, List.map_nil, List.sum_cons, List.sum_nil, Value.category, Option.toList, List.cons_append, List.nil_append, reduceIte, reduceCtorEq, Nat.reduceAdd, Nat.reduceLT, Nat.reduceLeDiff, Nat.reduceSub, Nat.reduceEqDiff, Nat.zero_le, Nat.sub_zero, Nat.le_refl, true_and, and_true, not_true_eq_false, not_false_eq_true, true_or, or_true, lc_eq, lc_ne, lc_lt, lc_ge, lc_gt, lc_le, nI_add, lN_add, nI_leI, nI_ltI, nI_eq, nI_clamp, pk_lLT, pk_lLE, pk_lEQ, pk_sub, vp_inT, nz_eq, nz_lt, nz_ge, nz_gt, nz_le, lz_eq, lz_lt, lz_ge, hP1, hP2, hP3, hP4, hP5, hP6, hP7, hP8, hP9, hP10, hP11, hP12, hP13, hP14, hP15, hP16, hP17, hP18, hP19, hP20, m0]
  refine c1011 d hm r0 r1 r4 (by omega) hw ?_
  have hq1 := q_com (u := u) (i := i) (w := w) (L := L) hq0
  have hf1 : frQ q u h (sI (sL h q (va_up (va_up (va_up (hL h q) (3 + 5 * i + 1) (lN w)) (3 + 5 * i + 2) (lN st)) 2 (lN (st + 1)))) u (va_up (hI h u) w (nI 1))) := frQ_sI (frQ_sL (frQ_refl _ _ _))
  have hu1 : ∀ U, isU h u U → isU (sI (sL h q (va_up (va_up (va_up (hL h q) (3 + 5 * i + 1) (lN w)) (3 + 5 * i + 2) (lN st)) 2 (lN (st + 1)))) u (va_up (hI h u) w (nI 1))) u (va_up U w true) := fun U hU => u_com hU
  generalize (sI (sL h q (va_up (va_up (va_up (hL h q) (3 + 5 * i + 1) (lN w)) (3 + 5 * i + 2) (lN st)) 2 (lN (st + 1)))) u (va_up (hI h u) w (nI 1))) = h1 at *
  obtain ⟨v0, v1, v2, v3, v4, v5, v6, v7, v8, v9⟩ := id hq1
  have hv8 : hL h1 q (3 + 5 * i + 3) = lN (qM A i) := v8 i hi
  simp (disch := omega) only [nI1T, Nat.left_eq_add, Nat.add_eq_left, Nat.add_eq_zero_iff, and_false, false_and, if_false, if_true, opsN, opsC, pm_1, lg, ls1, ls2, lq, List.length_cons, List.length_nil, cN, cL, callE, retV, retN, pm_pop, pm_cat, List.map_cons, List.map_nil, List.sum_cons, List.sum_nil, Value.category, Option.toList, List.cons_append, List.nil_append, reduceIte, reduceCtorEq, Nat.reduceAdd, Nat.reduceLT, Nat.reduceLeDiff, Nat.reduceSub, Nat.reduceEqDiff, Nat.zero_le, Nat.sub_zero, Nat.le_refl, true_and, and_true, not_true_eq_false, not_false_eq_true, true_or, or_true, lc_eq, lc_ne, lc_lt, lc_ge, lc_gt, lc_le, nI_add, lN_add, nI_leI, nI_ltI, nI_eq, nI_clamp, pk_lLT, pk_lLE, pk_lEQ, pk_sub, vp_inT, nz_eq, nz_lt, nz_ge, nz_gt, nz_le, lz_eq, lz_lt, lz_ge, hP1, hP2, hP3, hP4, hP5, hP6, hP7, hP8, hP9, hP10, hP11, hP12, hP13, hP14, hP15, hP16, hP17, hP18, hP19, hP20]
  rw [q_of _ v0 v1 (by omega) (by omega), hv8]
  simp (disch := omega) only [nI1T, Nat.left_eq_add, Nat.add_eq_left, Nat.add_eq_zero_iff, and_false, false_and, if_false, if_true, opsN, opsC, pm_1, lg, ls1, ls2, lq, List.length_cons, List.length_nil, cN, cL, callE, retV, retN, pm_pop, pm_cat, List.map_cons, List.map_nil, List.sum_cons, List.sum_nil, Value.category, Option.toList, List.cons_append, List.nil_append, reduceIte, reduceCtorEq, Nat.reduceAdd, Nat.reduceLT, Nat.reduceLeDiff, Nat.reduceSub, Nat.reduceEqDiff, Nat.zero_le, Nat.sub_zero, Nat.le_refl, true_and, and_true, not_true_eq_false, not_false_eq_true, true_or, or_true, lc_eq, lc_ne, lc_lt, lc_ge, lc_gt, lc_le, nI_add, lN_add, nI_leI, nI_ltI, nI_eq, nI_clamp, pk_lLT, pk_lLE, pk_lEQ, pk_sub, vp_inT, nz_eq, nz_lt, nz_ge, nz_gt, nz_le, lz_eq, lz_lt, lz_ge, hP1, hP2, hP3, hP4, hP5, hP6, hP7, hP8, hP9, hP10, hP11, hP12, hP13, hP14, hP15, hP16, hP17, hP18, hP19, hP20]
  rw [q_sets _ v0 v1 (by omega) (by omega)]
  simp (disch := omega) only [nI1T, Nat.left_eq_add, Nat.add_eq_left, Nat.add_eq_zero_iff, and_false, false_and, if_false, if_true, opsN, opsC, pm_1, lg, ls1, ls2, lq, List.length_cons, List.length_nil, cN, cL, callE, retV, retN, pm_pop, pm_cat, List.map_cons, List.map_nil, List.sum_cons, List.sum_nil, Value.category, Option.toList, List.cons_append, List.nil_append, reduceIte, reduceCtorEq, Nat.reduceAdd, Nat.reduceLT, Nat.reduceLeDiff, Nat.reduceSub, Nat.reduceEqDiff, Nat.zero_le, Nat.sub_zero, Nat.le_refl, true_and, and_true, not_true_eq_false, not_false_eq_true, true_or, or_true, lc_eq, lc_ne, lc_lt, lc_ge, lc_gt, lc_le, nI_add, lN_add, nI_leI, nI_ltI, nI_eq, nI_clamp, pk_lLT, pk_lLE, pk_lEQ, pk_sub, vp_inT, nz_eq, nz_lt, nz_ge, nz_gt, nz_le, lz_eq, lz_lt, lz_ge, hP1, hP2, hP3, hP4, hP5, hP6, hP7, hP8, hP9, hP10, hP11, hP12, hP13, hP14, hP15, hP16, hP17, hP18, hP19, hP20]
  exact hQ _ (q_setM (i := i) (v := qM A i + 1) hq1) (fun U hU => hu1 U hU) (frQ_sL hf1)
theorem lex_ins {W sn : Nat → Nat} {b i st : Nat} : ∀ {L : List Nat}, L.Pairwise (lex W sn) → i ∉ L → (∀ x, x ∈ L → sn x < st) → (insB W b i L).Pairwise (lex (va_up W i b) (va_up sn i st))
  | [], _, _, _ => List.pairwise_singleton ..
  | y :: r, h, hi, hs => by
    show (if W y ≤ b then y :: insB W b i r else i :: y :: r).Pairwise _
    have h1 := List.pairwise_cons.mp h
    have hy : y ≠ i := fun q => hi (by rw [q]; exact List.mem_cons_self ..)
    have hr : ∀ x, x ∈ r → x ≠ i := fun x hx q => hi (by rw [← q]; exact List.mem_cons_of_mem _ hx)
    split
    · rename_i hb
      refine List.pairwise_cons.mpr ⟨fun x hx => ?_, lex_ins h1.2 (fun q => hi (List.mem_cons_of_mem _ q)) (fun x hx => hs x (List.mem_cons_of_mem _ hx))⟩
      unfold lex
      rw [va_up_ne _ _ hy, va_up_ne _ _ hy]
      rcases mem_insB.mp hx with e | e
      · rw [e, va_up_self, va_up_self]
        have := hs y (List.mem_cons_self ..)
        omega
      · rw [va_up_ne _ _ (hr x e), va_up_ne _ _ (hr x e)]; exact h1.1 x e
    · rename_i hb
      refine List.pairwise_cons.mpr ⟨fun x hx => ?_, List.Pairwise.imp_of_mem (fun {x z} hx hz q => ?_) h⟩
      · unfold lex
        rw [va_up_self, va_up_self]
        rcases List.mem_cons.mp hx with e | e
        · rw [e, va_up_ne _ _ hy, va_up_ne _ _ hy]; omega
        · rw [va_up_ne _ _ (hr x e), va_up_ne _ _ (hr x e)]; have := h1.1 x e; unfold lex at this; omega
      · have a1 : x ≠ i := fun q => hi (by rw [← q]; exact hx)
        have a2 : z ≠ i := fun q => hi (by rw [← q]; exact hz)
        unfold lex
        rw [va_up_ne _ _ a1, va_up_ne _ _ a1, va_up_ne _ _ a2, va_up_ne _ _ a2]; exact q
/-- pushes -/
theorem c1012 (d : Nat) {h : pm_H} {m u q st bits limit key : Nat} {A : Qs} {sn : Nat → Nat} {Q : pm_Q} (hm : mU h m u) (hq : isQ h q A sn st) (hIq : qI bits limit A) (hT0 : qT A sn st) (hk : key < 2 ^ 40) (hle : qL A ≤ key) (h2 : qC A < limit) (hst : st + 1 < 2 ^ 60)
    (hQ : ∀ h', isQ h' q (qAdd bits key A) (va_up sn (qC A) st) (st + 1) → qT (qAdd bits key A) (va_up sn (qC A) st) (st + 1) → (∀ U, isU h u U → isU h' u (va_up U (bk bits (qL A) key) true)) → frQ q u h h' → Q (.inl (some (.int (nI (qC A))))) h') :
    pm_M PP (d + 3) 1012 [.ref m, .ref q, .long (lN key), .int (nI bits)] h Q := by
  have hq0 := hq
  have hl := qI_line hIq
  have hI0 := hIq
  obtain ⟨r0, r1, r2, r3, r4, r5, r6, r7, r8, r9⟩ := hq
  obtain ⟨i1, i2, i3, i4, i5, i6, i7, i8, i9, i10, i11, i12⟩ := hIq
  have m0 := hm.1
  have hbb : bk bits (qL A) key < 160 := bk_bound (by omega) i2 hk i5
  rw [e_1012]
  simp (disch := omega) only [u_1012_0, B_1012_0, nI1T, Nat.left_eq_add, Nat.add_eq_left, Nat.add_eq_zero_iff, and_false, false_and, if_false, if_true, opsN, opsC, pm_1, lg, ls1, ls2, lq, List.length_cons, List.length_nil, cN, cL, callE, retV, retN, pm_pop, pm_cat, List.map_cons, List.map_nil, List.sum_cons, List.sum_nil, Value.category, Option.toList, List.cons_append, List.nil_append, reduceIte, reduceCtorEq, Nat.reduceAdd, Nat.reduceLT, Nat.reduceLeDiff, Nat.reduceSub, Nat.reduceEqDiff, Nat.zero_le, Nat.sub_zero, Nat.le_refl, true_and, and_true, not_true_eq_false, not_false_eq_true, true_or, or_true, lc_eq, lc_ne, lc_lt, lc_ge, lc_gt, lc_le, nI_add, lN_add, nI_leI, nI_ltI, nI_eq, nI_clamp, pk_lLT, pk_lLE, pk_lEQ, pk_sub, vp_inT, nz_eq, nz_lt, nz_ge, nz_gt, nz_le, lz_eq, lz_lt, lz_ge, hP1, hP2, hP3, hP4, hP5, hP6, hP7, hP8, hP9, hP10, hP11, hP12, hP13, hP14, hP15, hP16, hP17, hP18, hP19, hP20]
  rw [q_came _ r0 r1]
  simp (disch := omega) only [nI1T, Nat.left_eq_add, Nat.add_eq_left, Nat.add_eq_zero_iff, and_false, false_and, if_false, if_true, opsN, opsC, pm_1, lg, ls1, ls2, lq, List.length_cons, List.length_nil, cN, cL, callE, retV, retN, pm_pop, pm_cat, List.map_cons, List.map_nil, List.sum_cons, List.sum_nil, Value.category, Option.toList, List.cons_append, List.nil_append, reduceIte, reduceCtorEq, Nat.reduceAdd, Nat.reduceLT, Nat.reduceLeDiff, Nat.reduceSub, Nat.reduceEqDiff, Nat.zero_le, Nat.sub_zero, Nat.le_refl, true_and, and_true, not_true_eq_false, not_false_eq_true, true_or, or_true, lc_eq, lc_ne, lc_lt, lc_ge, lc_gt, lc_le, nI_add, lN_add, nI_leI, nI_ltI, nI_eq, nI_clamp, pk_lLT, pk_lLE, pk_lEQ, pk_sub, vp_inT, nz_eq, nz_lt, nz_ge, nz_gt, nz_le, lz_eq, lz_lt, lz_ge, hP1, hP2, hP3, hP4, hP5, hP6, hP7, hP8, hP9, hP10, hP11, hP12, hP13, hP14, hP15, hP16, hP17, hP18, hP19, hP20, r0, r1, r3, lN_i]
  -- the row with one more, then key, moves, state
  rw [q_sets _ (by exact r0) (by exact r1) (by omega) (by omega)]
  simp (disch := omega) only [nI1T, Nat.left_eq_add, Nat.add_eq_left, Nat.add_eq_zero_iff, and_false, false_and, if_false, if_true, opsN, opsC, pm_1, lg, ls1, ls2, lq, List.length_cons, List.length_nil, cN, cL, callE, retV, retN, pm_pop, pm_cat, List.map_cons, List.map_nil, List.sum_cons, List.sum_nil, Value.category, Option.toList, List.cons_append, List.nil_append, reduceIte, reduceCtorEq, Nat.reduceAdd, Nat.reduceLT, Nat.reduceLeDiff, Nat.reduceSub, Nat.reduceEqDiff, Nat.zero_le, Nat.sub_zero, Nat.le_refl, true_and, and_true, not_true_eq_false, not_false_eq_true, true_or, or_true, lc_eq, lc_ne, lc_lt, lc_ge, lc_gt, lc_le, nI_add, lN_add, nI_leI, nI_ltI, nI_eq, nI_clamp, pk_lLT, pk_lLE, pk_lEQ, pk_sub, vp_inT, nz_eq, nz_lt, nz_ge, nz_gt, nz_le, lz_eq, lz_lt, lz_ge, hP1, hP2, hP3, hP4, hP5, hP6, hP7, hP8, hP9, hP10, hP11, hP12, hP13, hP14, hP15, hP16, hP17, hP18, hP19, hP20]
  rw [q_sets _ (by exact r0) (by exact r1) (by omega) (by omega)]
  simp (disch := omega) only [nI1T, Nat.left_eq_add, Nat.add_eq_left, Nat.add_eq_zero_iff, and_false, false_and, if_false, if_true, opsN, opsC, pm_1, lg, ls1, ls2, lq, List.length_cons, List.length_nil, cN, cL, callE, retV, retN, pm_pop, pm_cat, List.map_cons, List.map_nil, List.sum_cons, List.sum_nil, Value.category, Option.toList, List.cons_append, List.nil_append, reduceIte, reduceCtorEq, Nat.reduceAdd, Nat.reduceLT, Nat.reduceLeDiff, Nat.reduceSub, Nat.reduceEqDiff, Nat.zero_le, Nat.sub_zero, Nat.le_refl, true_and, and_true, not_true_eq_false, not_false_eq_true, true_or, or_true, lc_eq, lc_ne, lc_lt, lc_ge, lc_gt, lc_le, nI_add, lN_add, nI_leI, nI_ltI, nI_eq, nI_clamp, pk_lLT, pk_lLE, pk_lEQ, pk_sub, vp_inT, nz_eq, nz_lt, nz_ge, nz_gt, nz_le, lz_eq, lz_lt, lz_ge, hP1, hP2, hP3, hP4, hP5, hP6, hP7, hP8, hP9, hP10, hP11, hP12, hP13, hP14, hP15, hP16, hP17, hP18, hP19, hP20]
  rw [q_sets _ (by exact r0) (by exact r1) (by omega) (by omega)]
  simp only [hP7, va_up_self, sL_sL]
  have hfr : frQ q u h (sL h q (va_up (va_up (va_up (va_up (hL h q) 1 (lN (qC A + 1))) (3 + 5 * qC A + 0) (lN key)) (3 + 5 * qC A + 3) (lN 0)) (3 + 5 * qC A + 4) (lN 0))) := frQ_sL (frQ_refl _ _ _)
  have g0 : hL (sL h q (va_up (va_up (va_up (va_up (hL h q) 1 (lN (qC A + 1))) (3 + 5 * qC A + 0) (lN key)) (3 + 5 * qC A + 3) (lN 0)) (3 + 5 * qC A + 4) (lN 0))) q = va_up (va_up (va_up (va_up (hL h q) 1 (lN (qC A + 1))) (3 + 5 * qC A + 0) (lN key)) (3 + 5 * qC A + 3) (lN 0)) (3 + 5 * qC A + 4) (lN 0) := by rw [hP7, va_up_self]
  have gI : hI (sL h q (va_up (va_up (va_up (va_up (hL h q) 1 (lN (qC A + 1))) (3 + 5 * qC A + 0) (lN key)) (3 + 5 * qC A + 3) (lN 0)) (3 + 5 * qC A + 4) (lN 0))) = hI h := rfl
  generalize (sL h q (va_up (va_up (va_up (va_up (hL h q) 1 (lN (qC A + 1))) (3 + 5 * qC A + 0) (lN key)) (3 + 5 * qC A + 3) (lN 0)) (3 + 5 * qC A + 4) (lN 0))) = h1 at *
  have t0 : hT h1 q = 101 := by rw [hfr.1]; exact r0
  have t1 : hN h1 q = 1503 := by rw [hfr.2.1]; exact r1
  have w0 : hL h1 q 0 = lN (qL A) := by rw [g0, va_up_ne _ _ (by omega), va_up_ne _ _ (by omega), va_up_ne _ _ (by omega), va_up_ne _ _ (by omega)]; exact r2
  have w2 : hL h1 q 2 = lN st := by rw [g0, va_up_ne _ _ (by omega), va_up_ne _ _ (by omega), va_up_ne _ _ (by omega), va_up_ne _ _ (by omega)]; exact r4
  have m0' : hT h1 m = 10 := by rw [hfr.1]; exact m0
  simp (disch := omega) only [nI1T, Nat.left_eq_add, Nat.add_eq_left, Nat.add_eq_zero_iff, and_false, false_and, if_false, if_true, opsN, opsC, pm_1, lg, ls1, ls2, lq, List.length_cons, List.length_nil, cN, cL, callE, retV, retN, pm_pop, pm_cat, List.map_cons, List.map_nil, List.sum_cons, List.sum_nil, Value.category, Option.toList, List.cons_append, List.nil_append, reduceIte, reduceCtorEq, Nat.reduceAdd, Nat.reduceLT, Nat.reduceLeDiff, Nat.reduceSub, Nat.reduceEqDiff, Nat.zero_le, Nat.sub_zero, Nat.le_refl, true_and, and_true, not_true_eq_false, not_false_eq_true, true_or, or_true, lc_eq, lc_ne, lc_lt, lc_ge, lc_gt, lc_le, nI_add, lN_add, nI_leI, nI_ltI, nI_eq, nI_clamp, pk_lLT, pk_lLE, pk_lEQ, pk_sub, vp_inT, nz_eq, nz_lt, nz_ge, nz_gt, nz_le, lz_eq, lz_lt, lz_ge, hP1, hP2, hP3, hP4, hP5, hP6, hP7, hP8, hP9, hP10, hP11, hP12, hP13, hP14, hP15, hP16, hP17, hP18, hP19, hP20, t0, t1, w0]
  refine c1010 (d + 1) i1 i2 hk i5 hle ?_
  simp (disch := omega) only [nI1T, Nat.left_eq_add, Nat.add_eq_left, Nat.add_eq_zero_iff, and_false, false_and, if_false, if_true, opsN, opsC, pm_1, lg, ls1, ls2, lq, List.length_cons, List.length_nil, cN, cL, callE, retV, retN, pm_pop, pm_cat, List.map_cons, List.map_nil, List.sum_cons, List.sum_nil, Value.category, Option.toList, List.cons_append, List.nil_append, reduceIte, reduceCtorEq, Nat.reduceAdd, Nat.reduceLT, Nat.reduceLeDiff, Nat.reduceSub, Nat.reduceEqDiff, Nat.zero_le, Nat.sub_zero, Nat.le_refl, true_and, and_true, not_true_eq_false, not_false_eq_true, true_or, or_true, lc_eq, lc_ne, lc_lt, lc_ge, lc_gt, lc_le, nI_add, lN_add, nI_leI, nI_ltI, nI_eq, nI_clamp, pk_lLT, pk_lLE, pk_lEQ, pk_sub, vp_inT, nz_eq, nz_lt, nz_ge, nz_gt, nz_le, lz_eq, lz_lt, lz_ge, hP1, hP2, hP3, hP4, hP5, hP6, hP7, hP8, hP9, hP10, hP11, hP12, hP13, hP14, hP15, hP16, hP17, hP18, hP19, hP20, m0']
  refine c1011 d (mU_fr hfr hm) t0 t1 w2 (by omega) hbb ?_
  simp (disch := omega) only [nI1T, Nat.left_eq_add, Nat.add_eq_left, Nat.add_eq_zero_iff, and_false, false_and, if_false, if_true, opsN, opsC, pm_1, lg, ls1, ls2, lq, List.length_cons, List.length_nil, cN, cL, callE, retV, retN, pm_pop, pm_cat, List.map_cons, List.map_nil, List.sum_cons, List.sum_nil, Value.category, Option.toList, List.cons_append, List.nil_append, reduceIte, reduceCtorEq, Nat.reduceAdd, Nat.reduceLT, Nat.reduceLeDiff, Nat.reduceSub, Nat.reduceEqDiff, Nat.zero_le, Nat.sub_zero, Nat.le_refl, true_and, and_true, not_true_eq_false, not_false_eq_true, true_or, or_true, lc_eq, lc_ne, lc_lt, lc_ge, lc_gt, lc_le, nI_add, lN_add, nI_leI, nI_ltI, nI_eq, nI_clamp, pk_lLT, pk_lLE, pk_lEQ, pk_sub, vp_inT, nz_eq, nz_lt, nz_ge, nz_gt, nz_le, lz_eq, lz_lt, lz_ge, hP1, hP2, hP3, hP4, hP5, hP6, hP7, hP8, hP9, hP10, hP11, hP12, hP13, hP14, hP15, hP16, hP17, hP18, hP19, hP20]
  have hn : qC A ∉ qN A := fun z => by have := (hl _ z).1; omega
  refine hQ _ ?_ ?_ ?_ (frQ_sI (frQ_sL hfr))
  · refine ⟨t0, t1, ?_, ?_, ?_, ?_, ?_, ?_, ?_, ?_⟩
    · rw [hP2, hP7, va_up_self, va_up_ne _ _ (by omega), va_up_ne _ _ (by omega), va_up_ne _ _ (by omega)]; exact w0
    · rw [hP2, hP7, va_up_self, va_up_ne _ _ (by omega), va_up_ne _ _ (by omega), va_up_ne _ _ (by omega), g0, va_up_ne _ _ (by omega), va_up_ne _ _ (by omega), va_up_ne _ _ (by omega), va_up_self]; rfl
    · rw [hP2, hP7, va_up_self, va_up_self]
    · intro j hj
      have hj : j < qC A + 1 := hj
      rw [hP2, hP7, va_up_self, va_up_ne _ _ (by omega), va_up_ne _ _ (by omega), va_up_ne _ _ (by omega), g0, va_up_ne _ _ (by omega), va_up_ne _ _ (by omega)]
      show _ = lN (va_up (qK A) (qC A) key j)
      by_cases e : j = qC A
      · rw [e, va_up_self, va_up_self]
      · rw [va_up_ne _ _ (by omega), va_up_ne _ _ (by omega), va_up_ne _ _ e]; exact r5 j (by omega)
    · intro j hj
      have hj : j < qC A + 1 := hj
      rw [hP2, hP7, va_up_self, va_up_ne _ _ (by omega), va_up_ne _ _ (by omega)]
      show _ = lN (va_up (qW A) (qC A) (bk bits (qL A) key) j)
      by_cases e : j = qC A
      · rw [e, va_up_self, va_up_self]
      · rw [va_up_ne _ _ (by omega), g0, va_up_ne _ _ (by omega), va_up_ne _ _ (by omega), va_up_ne _ _ (by omega), va_up_ne _ _ (by omega), va_up_ne _ _ e]; exact r6 j (by omega)
    · intro j hj
      have hj : j < qC A + 1 := hj
      rw [hP2, hP7, va_up_self, va_up_ne _ _ (by omega)]
      by_cases e : j = qC A
      · rw [e, va_up_self, va_up_self]
      · rw [va_up_ne _ _ (by omega), va_up_ne _ _ (by omega), g0, va_up_ne _ _ (by omega), va_up_ne _ _ (by omega), va_up_ne _ _ (by omega), va_up_ne _ _ (by omega), va_up_ne _ _ e]; exact r7 j (by omega)
    · intro j hj
      have hj : j < qC A + 1 := hj
      rw [hP2, hP7, va_up_self, va_up_ne _ _ (by omega), va_up_ne _ _ (by omega), va_up_ne _ _ (by omega), g0, va_up_ne _ _ (by omega)]
      show _ = lN (va_up (qM A) (qC A) 0 j)
      by_cases e : j = qC A
      · rw [e, va_up_self, va_up_self]
      · rw [va_up_ne _ _ (by omega), va_up_ne _ _ (by omega), va_up_ne _ _ (by omega), va_up_ne _ _ e]; exact r8 j (by omega)
    · intro j hj
      have hj : j < qC A + 1 := hj
      rw [hP2, hP7, va_up_self, va_up_ne _ _ (by omega), va_up_ne _ _ (by omega), va_up_ne _ _ (by omega), g0]
      show _ = lN (va_up (qS A) (qC A) 0 j)
      by_cases e : j = qC A
      · rw [e, va_up_self, va_up_self]
      · rw [va_up_ne _ _ (by omega), va_up_ne _ _ (by omega), va_up_ne _ _ (by omega), va_up_ne _ _ (by omega), va_up_ne _ _ e]; exact r9 j (by omega)
  · refine ⟨fun x hx => ?_, lex_ins hT0.2.1 hn hT0.1, hst⟩
    rw [va_upE]
    split
    · omega
    · rename_i e
      have := hT0.1 x ((mem_insB.mp (show x ∈ insB (qW A) (bk bits (qL A) key) (qC A) (qN A) from hx)).resolve_left e)
      omega
  · intro U hU
    refine u_com ?_
    intro k hk
    rw [gI]
    exact hU k hk
/-- lessens -/
theorem c1019 (d : Nat) {h : pm_H} {m u q st bits limit i key : Nat} {A : Qs} {sn : Nat → Nat} {Q : pm_Q} (hm : mU h m u) (hq : isQ h q A sn st) (hIq : qI bits limit A) (hT0 : qT A sn st) (hi : i ∈ qN A) (hk : key < 2 ^ 40) (hle : qL A ≤ key) (hst : st + 1 < 2 ^ 60)
    (hQ : ∀ h' sn' st', isQ h' q (qLow bits i key A) sn' st' → qT (qLow bits i key A) sn' st' → st' ≤ st + 1 → (∀ U, isU h u U → isU h' u (if bk bits (qL A) key = qW A i then U else va_up U (bk bits (qL A) key) true)) → frQ q u h h' → Q (.inl none) h') :
    pm_M PP (d + 4) 1019 [.ref m, .ref q, .int (nI i), .long (lN key), .int (nI bits)] h Q := by
  have hq0 := hq
  have hl := qI_line hIq
  have hI0 := hIq
  obtain ⟨r0, r1, r2, r3, r4, r5, r6, r7, r8, r9⟩ := hq
  obtain ⟨i1, i2, i3, i4, i5, i6, i7, i8, i9, i10, i11, i12⟩ := hIq
  have m0 := hm.1
  obtain ⟨x1, x2, x3⟩ := hl i hi
  have hbb : bk bits (qL A) key < 160 := bk_bound (by omega) i2 hk i5
  have hl64 : (nI (bk bits (qL A) key)).toInt64 = lN (bk bits (qL A) key) := nI_l (by omega)
  rw [e_1019]
  simp (disch := omega) only [u_1019_0, B_1019_0, nI1T, Nat.left_eq_add, Nat.add_eq_left, Nat.add_eq_zero_iff, and_false, false_and, if_false, if_true, opsN, opsC, pm_1, lg, ls1, ls2, lq, List.length_cons, List.length_nil, cN, cL, callE, retV, retN, pm_pop, pm_cat, List.map_cons, List.map_nil, List.sum_cons, List.sum_nil, Value.category, Option.toList, List.cons_append, List.nil_append, reduceIte, reduceCtorEq, Nat.reduceAdd, Nat.reduceLT, Nat.reduceLeDiff, Nat.reduceSub, Nat.reduceEqDiff, Nat.zero_le, Nat.sub_zero, Nat.le_refl, true_and, and_true, not_true_eq_false, not_false_eq_true, true_or, or_true, lc_eq, lc_ne, lc_lt, lc_ge, lc_gt, lc_le, nI_add, lN_add, nI_leI, nI_ltI, nI_eq, nI_clamp, pk_lLT, pk_lLE, pk_lEQ, pk_sub, vp_inT, nz_eq, nz_lt, nz_ge, nz_gt, nz_le, lz_eq, lz_lt, lz_ge, hP1, hP2, hP3, hP4, hP5, hP6, hP7, hP8, hP9, hP10, hP11, hP12, hP13, hP14, hP15, hP16, hP17, hP18, hP19, hP20, r0, r1, r2]
  refine c1010 (d + 2) i1 i2 hk i5 hle ?_
  simp (disch := omega) only [nI1T, Nat.left_eq_add, Nat.add_eq_left, Nat.add_eq_zero_iff, and_false, false_and, if_false, if_true, opsN, opsC, pm_1, lg, ls1, ls2, lq, List.length_cons, List.length_nil, cN, cL, callE, retV, retN, pm_pop, pm_cat, List.map_cons, List.map_nil, List.sum_cons, List.sum_nil, Value.category, Option.toList, List.cons_append, List.nil_append, reduceIte, reduceCtorEq, Nat.reduceAdd, Nat.reduceLT, Nat.reduceLeDiff, Nat.reduceSub, Nat.reduceEqDiff, Nat.zero_le, Nat.sub_zero, Nat.le_refl, true_and, and_true, not_true_eq_false, not_false_eq_true, true_or, or_true, lc_eq, lc_ne, lc_lt, lc_ge, lc_gt, lc_le, nI_add, lN_add, nI_leI, nI_ltI, nI_eq, nI_clamp, pk_lLT, pk_lLE, pk_lEQ, pk_sub, vp_inT, nz_eq, nz_lt, nz_ge, nz_gt, nz_le, lz_eq, lz_lt, lz_ge, hP1, hP2, hP3, hP4, hP5, hP6, hP7, hP8, hP9, hP10, hP11, hP12, hP13, hP14, hP15, hP16, hP17, hP18, hP19, hP20]
  rw [q_sets _ r0 r1 (by omega) (by omega)]
  have hq1 := q_setK (i := i) (v := key) hq0
  have hf1 : frQ q u h (sL h q (va_up (hL h q) (3 + 5 * i + 0) (lN key))) := frQ_sL (frQ_refl _ _ _)
  have gI : hI (sL h q (va_up (hL h q) (3 + 5 * i + 0) (lN key))) = hI h := rfl
  generalize (sL h q (va_up (hL h q) (3 + 5 * i + 0) (lN key))) = h1 at *
  obtain ⟨v0, v1, v2, v3, v4, v5, v6, v7, v8, v9⟩ := id hq1
  have hv6 : hL h1 q (3 + 5 * i + 1) = lN (qW A i) := v6 i x1
  have hU1 : ∀ U, isU h u U → isU h1 u U := fun U hU k hk => by rw [gI]; exact hU k hk
  simp (disch := omega) only [nI1T, Nat.left_eq_add, Nat.add_eq_left, Nat.add_eq_zero_iff, and_false, false_and, if_false, if_true, opsN, opsC, pm_1, lg, ls1, ls2, lq, List.length_cons, List.length_nil, cN, cL, callE, retV, retN, pm_pop, pm_cat, List.map_cons, List.map_nil, List.sum_cons, List.sum_nil, Value.category, Option.toList, List.cons_append, List.nil_append, reduceIte, reduceCtorEq, Nat.reduceAdd, Nat.reduceLT, Nat.reduceLeDiff, Nat.reduceSub, Nat.reduceEqDiff, Nat.zero_le, Nat.sub_zero, Nat.le_refl, true_and, and_true, not_true_eq_false, not_false_eq_true, true_or, or_true, lc_eq, lc_ne, lc_lt, lc_ge, lc_gt, lc_le, nI_add, lN_add, nI_leI, nI_ltI, nI_eq, nI_clamp, pk_lLT, pk_lLE, pk_lEQ, pk_sub, vp_inT, nz_eq, nz_lt, nz_ge, nz_gt, nz_le, lz_eq, lz_lt, lz_ge, hP1, hP2, hP3, hP4, hP5, hP6, hP7, hP8, hP9, hP10, hP11, hP12, hP13, hP14, hP15, hP16, hP17, hP18, hP19, hP20, hl64]
  rw [q_of _ v0 v1 (by omega) (by omega), hv6]
  by_cases e : bk bits (qL A) key = qW A i
  · simp (disch := omega) only [u_1019_39, B_1019_39, nI1T, Nat.left_eq_add, Nat.add_eq_left, Nat.add_eq_zero_iff, and_false, false_and, if_false, if_true, opsN, opsC, pm_1, lg, ls1, ls2, lq, List.length_cons, List.length_nil, cN, cL, callE, retV, retN, pm_pop, pm_cat, List.map_cons, List.map_nil, List.sum_cons, List.sum_nil, Value.category, Option.toList, List.cons_append, List.nil_append, reduceIte, reduceCtorEq, Nat.reduceAdd, Nat.reduceLT, Nat.reduceLeDiff, Nat.reduceSub, Nat.reduceEqDiff, Nat.zero_le, Nat.sub_zero, Nat.le_refl, true_and, and_true, not_true_eq_false, not_false_eq_true, true_or, or_true, lc_eq, lc_ne, lc_lt, lc_ge, lc_gt, lc_le, nI_add, lN_add, nI_leI, nI_ltI, nI_eq, nI_clamp, pk_lLT, pk_lLE, pk_lEQ, pk_sub, vp_inT, nz_eq, nz_lt, nz_ge, nz_gt, nz_le, lz_eq, lz_lt, lz_ge, hP1, hP2, hP3, hP4, hP5, hP6, hP7, hP8, hP9, hP10, hP11, hP12, hP13, hP14, hP15, hP16, hP17, hP18, hP19, hP20, e]
    have eL : qLow bits i key A = (qL A, qC A, va_up (qK A) i key, qM A, qW A, qS A, qN A) := by unfold qLow; rw [if_pos e]
    exact hQ h1 sn st (by rw [eL]; exact hq1) (by rw [eL]; exact hT0) (by omega) (fun U hU => by rw [if_pos e]; exact hU1 U hU) hf1
  · have eL : qLow bits i key A = (qL A, qC A, va_up (qK A) i key, va_up (qM A) i (qM A i + 1), va_up (qW A) i (bk bits (qL A) key), qS A, insB (qW A) (bk bits (qL A) key) i ((qN A).erase i)) := by unfold qLow; rw [if_neg e]
    have m0' : hT h1 m = 10 := by rw [hf1.1]; exact m0
    simp (disch := omega) only [nI1T, Nat.left_eq_add, Nat.add_eq_left, Nat.add_eq_zero_iff, and_false, false_and, if_false, if_true, opsN, opsC, pm_1, lg, ls1, ls2, lq, List.length_cons, List.length_nil, cN, cL, callE, retV, retN, pm_pop, pm_cat, List.map_cons, List.map_nil, List.sum_cons, List.sum_nil, Value.category, Option.toList, List.cons_append, List.nil_append, reduceIte, reduceCtorEq, Nat.reduceAdd, Nat.reduceLT, Nat.reduceLeDiff, Nat.reduceSub, Nat.reduceEqDiff, Nat.zero_le, Nat.sub_zero, Nat.le_refl, true_and, and_true, not_true_eq_false, not_false_eq_true, true_or, or_true, lc_eq, lc_ne, lc_lt, lc_ge, lc_gt, lc_le, nI_add, lN_add, nI_leI, nI_ltI, nI_eq, nI_clamp, pk_lLT, pk_lLE, pk_lEQ, pk_sub, vp_inT, nz_eq, nz_lt, nz_ge, nz_gt, nz_le, lz_eq, lz_lt, lz_ge, hP1, hP2, hP3, hP4, hP5, hP6, hP7, hP8, hP9, hP10, hP11, hP12, hP13, hP14, hP15, hP16, hP17, hP18, hP19, hP20, e, m0']
    refine c1013 d (L := insB (qW A) (bk bits (qL A) key) i ((qN A).erase i)) (mU_fr hf1 hm) hq1 (show qC A ≤ 300 by omega) (show i < qC A from x1) hbb ?_
    intro h' hq' hU' hf'
    simp (disch := omega) only [u_1019_39, B_1019_39, nI1T, Nat.left_eq_add, Nat.add_eq_left, Nat.add_eq_zero_iff, and_false, false_and, if_false, if_true, opsN, opsC, pm_1, lg, ls1, ls2, lq, List.length_cons, List.length_nil, cN, cL, callE, retV, retN, pm_pop, pm_cat, List.map_cons, List.map_nil, List.sum_cons, List.sum_nil, Value.category, Option.toList, List.cons_append, List.nil_append, reduceIte, reduceCtorEq, Nat.reduceAdd, Nat.reduceLT, Nat.reduceLeDiff, Nat.reduceSub, Nat.reduceEqDiff, Nat.zero_le, Nat.sub_zero, Nat.le_refl, true_and, and_true, not_true_eq_false, not_false_eq_true, true_or, or_true, lc_eq, lc_ne, lc_lt, lc_ge, lc_gt, lc_le, nI_add, lN_add, nI_leI, nI_ltI, nI_eq, nI_clamp, pk_lLT, pk_lLE, pk_lEQ, pk_sub, vp_inT, nz_eq, nz_lt, nz_ge, nz_gt, nz_le, lz_eq, lz_lt, lz_ge, hP1, hP2, hP3, hP4, hP5, hP6, hP7, hP8, hP9, hP10, hP11, hP12, hP13, hP14, hP15, hP16, hP17, hP18, hP19, hP20]
    have hmE : ∀ x, x ∈ (qN A).erase i ↔ x ∈ qN A ∧ x ≠ i := fun x => by rw [i7.mem_erase_iff]; exact And.comm
    have hne : i ∉ (qN A).erase i := fun z => ((hmE i).mp z).2 rfl
    refine hQ h' (va_up sn i st) (st + 1) (by rw [eL]; exact hq') ?_ (Nat.le_refl _) (fun U hU => by rw [if_neg e]; exact hU' U (hU1 U hU)) (frQ_trans hf1 hf')
    rw [eL]
    refine ⟨fun x hx => ?_, lex_ins (hT0.2.1.sublist List.erase_sublist) hne (fun x hx => hT0.1 x ((hmE x).mp hx).1), hst⟩
    rw [va_upE]
    split
    · omega
    · rename_i z
      have := hT0.1 x ((hmE x).mp ((mem_insB.mp (show x ∈ insB (qW A) (bk bits (qL A) key) i ((qN A).erase i) from hx)).resolve_left z)).1
      omega
