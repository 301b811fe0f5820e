/-! ===== the plan, read by the reference ===== -/
theorem SG_nil {R : Nat → Pw} (i : Nat) : SG R i i [] := fun _ h0 _ _ => h0 i
theorem SG_step {R : Nat → Pw} {i t : Nat} {U : List St} (h1 : (R i).1 < 4) (h2 : stB (stOf (R i))) (h3 : SG R (i + 1) t U) : SG R i t (stOf (R i) :: U) := fun P a b c => b i t U h1 h2 (h3 P a b c)
theorem SG_loop {R : Nat → Pw} {i e t : Nat} {U V : List St} (h1 : (R i).1 = 4) (h2 : (R i).2.1 ≤ 50) (h3 : (R i).2.2.2 = e) (h4 : SG R (i + 1) e U) (h5 : SG R e t V) : SG R i t ((List.replicate (R i).2.1 U).flatten ++ V) := fun P a b c => c i e t U V h1 h2 h3 (h4 P a b c) (h5 P a b c)
theorem SG_le {R : Nat → Pw} {i t : Nat} {U : List St} (h : SG R i t U) : i ≤ t := h (fun i t _ => i ≤ t) (fun i => Nat.le_refl i) (fun i t U _ _ q => by have q : i + 1 ≤ t := q; omega) (fun i e t U V _ _ _ q1 q2 => by have q1 : i + 1 ≤ e := q1; have q2 : e ≤ t := q2; omega)
theorem SG_app {R : Nat → Pw} {i j t : Nat} {U V : List St} (h : SG R i j U) (h2 : SG R j t V) : SG R i t (U ++ V) := by
  refine h (fun i j U => ∀ t V, SG R j t V → SG R i t (U ++ V)) (fun i t V q => q) (fun i j U q1 q2 q3 t V q => ?_) (fun i e j U V q1 q2 q3 q4 q5 t V' q => ?_) t V h2
  · exact SG_step q1 q2 (q3 t V q)
  · have a := q4 e [] (SG_nil e)
    rw [List.append_nil] at a
    rw [List.append_assoc]
    exact SG_loop q1 q2 q3 a (q5 t V' q)
theorem SG_congr {R R' : Nat → Pw} {i t : Nat} {U : List St} (h : SG R i t U) (hr : ∀ j, i ≤ j → j < t → R' j = R j) : SG R' i t U := by
  have key := h (fun i t U => SG R i t U ∧ ((∀ j, i ≤ j → j < t → R' j = R j) → SG R' i t U)) (fun i => ⟨SG_nil i, fun _ => SG_nil i⟩) (fun i t U q1 q2 q3 => ⟨SG_step q1 q2 q3.1, fun hh => ?_⟩) (fun i e t U V q1 q2 q3 q4 q5 => ⟨SG_loop q1 q2 q3 q4.1 q5.1, fun hh => ?_⟩)
  · exact key.2 hr
  · have hl := SG_le q3.1
    have e := hh i (Nat.le_refl _) (by omega)
    have := SG_step (R := R') (by rw [e]; exact q1) (by rw [e]; exact q2) (q3.2 (fun j a b => hh j (by omega) b))
    rw [e] at this; exact this
  · have hl := SG_le q4.1
    have hl2 := SG_le q5.1
    have e' := hh i (Nat.le_refl _) (by omega)
    have := SG_loop (R := R') (by rw [e']; exact q1) (by rw [e']; exact q2) (by rw [e']; exact q3) (q4.2 (fun j a b => hh j (by omega) (by omega))) (q5.2 (fun j a b => hh j (by omega) b))
    rw [e'] at this; exact this
/-- rows from k on, and the reader's numbers, changed -/
def frG (m k : Nat) (h h' : pm_H) : Prop := hT h' = hT h ∧ hN h' = hN h ∧ hR h' = hR h ∧ hn h' = hn h ∧ hL h' = hL h ∧ (∀ r, r ≠ m → (r < m + 329 + k ∨ m + 629 ≤ r) → hI h' r = hI h r) ∧ ∀ j, j ≠ 4 → j ≠ 6 → j ≠ 7 → j ≠ 29 → j ≠ 33 → hI h' m j = hI h m j
theorem frG_V {m k : Nat} {h h' : pm_H} (a : frV m h h') : frG m k h h' := ⟨a.1, a.2.1, a.2.2.1, a.2.2.2.1, a.2.2.2.2.1, fun r q _ => a.2.2.2.2.2.1 r q, fun j q1 q2 q3 _ _ => a.2.2.2.2.2.2 j q1 q2 q3⟩
theorem frG_trans {m k : Nat} {h h1 h2 : pm_H} (a : frG m k h h1) (b : frG m k h1 h2) : frG m k h h2 :=
  ⟨b.1.trans a.1, b.2.1.trans a.2.1, b.2.2.1.trans a.2.2.1, b.2.2.2.1.trans a.2.2.2.1, b.2.2.2.2.1.trans a.2.2.2.2.1, fun r q1 q2 => (b.2.2.2.2.2.1 r q1 q2).trans (a.2.2.2.2.2.1 r q1 q2), fun j q1 q2 q3 q4 q5 => (b.2.2.2.2.2.2 j q1 q2 q3 q4 q5).trans (a.2.2.2.2.2.2 j q1 q2 q3 q4 q5)⟩
theorem frG_le {m k k' : Nat} {h h' : pm_H} (hk : k ≤ k') (a : frG m k' h h') : frG m k h h' := ⟨a.1, a.2.1, a.2.2.1, a.2.2.2.1, a.2.2.2.2.1, fun r q1 q2 => a.2.2.2.2.2.1 r q1 (by omega), a.2.2.2.2.2.2⟩
theorem frG_f {m k j : Nat} {h : pm_H} {v : Int32} (hj : j = 29 ∨ j = 33) : frG m k h (sI h m (va_up (hI h m) j v)) :=
  ⟨rfl, rfl, rfl, rfl, rfl, fun r q _ => by rw [hP1, va_up_ne _ _ q], fun i q1 q2 q3 q4 q5 => by rw [hP1, va_up_self, va_up_ne _ _ (by omega)]⟩
/-- a row written -/
def wrR (h : pm_H) (r : Nat) (w0 w1 w2 w3 : Int32) : pm_H := sI h r (va_up (va_up (va_up (va_up (hI h r) 0 w0) 1 w1) 2 w2) 3 w3)
theorem wrR_is {h : pm_H} {r : Nat} {w : Pw} : rwIs (wrR h r (nI w.1) (nI w.2.1) (nI w.2.2.1) (nI w.2.2.2)) r w := by
  unfold wrR rwIs
  rw [hI_at]
  simp only [va_upE, Nat.reduceEqDiff, if_true, if_false, and_self]
theorem frG_w {m k r : Nat} {h : pm_H} {w0 w1 w2 w3 : Int32} (h1 : m + 329 + k ≤ r) (h2 : r < m + 629) : frG m k h (wrR h r w0 w1 w2 w3) :=
  ⟨rfl, rfl, rfl, rfl, rfl, fun j q q2 => by show hI (sI h r _) j = _; rw [hP1, va_up_ne _ _ (by omega)], fun j q1 q2 q3 q4 q5 => by show hI (sI h r _) m j = _; rw [hP1, va_up_ne _ _ (by omega)]⟩
theorem q1052 (d : Nat) {h : pm_H} {r : Nat} {a b c e : Int32} {Q : pm_Q} (ht : hT h r = 100) (hn4 : hN h r = 4) : pm_M PP (d + 1) 1052 [.ref r, .int a, .int b, .int c, .int e] h Q = Q (.inl none) (wrR h r a b c e) := by
  rw [e_1052]
  simp (disch := omega) only [u_1052_0, B_1052_0, nI1T, Nat.left_eq_add, Nat.add_eq_left, Nat.add_eq_zero_iff, and_false, false_and, if_false, if_true, opsN, opsC, pm_1, lg, ls1, ls2, lq, List.length_cons, List.length_nil, cN, cL, callE, retV, retN, pm_pop, pm_cat, List.map_cons, List.map_nil, List.sum_cons, List.sum_nil, Value.category, Option.toList, List.cons_append, List.nil_append, ↓reduceIte, reduceCtorEq, Nat.reduceAdd, Nat.reduceLT, Nat.reduceLeDiff, Nat.reduceSub, Nat.reduceEqDiff, Nat.zero_le, Nat.sub_zero, Nat.le_refl, true_and, and_true, not_true_eq_false, not_false_eq_true, true_or, or_true, lc_eq, lc_ne, lc_lt, lc_ge, lc_gt, lc_le, nI_add, lN_add, nI_leI, nI_ltI, nI_eq, nI_clamp, pk_lLT, pk_lLE, pk_lEQ, pk_sub, vp_inT, nz_eq, nz_lt, nz_ge, nz_gt, nz_le, lz_eq, lz_lt, lz_ge, hP1, hP2, hP3, hP4, hP5, hP6, hP7, hP8, hP9, hP10, hP11, hP12, hP13, hP14, hP15, hP16, hP17, hP18, hP19, hP20, ht, hn4, va_upE, sI_sI]
  rfl
theorem mrd_w {h : pm_H} {m r : Nat} {X : List Nat} {z : Rz} {w0 w1 w2 w3 : Int32} (h1 : m + 329 ≤ r) (hr : mrd h m X z) : mrd (wrR h r w0 w1 w2 w3) m X z := mrd_sI (by omega) (by omega) hr
def rdO (X : List Nat) (m dp k lo : Nat) (P : Nat → Prop) (F : List St → Ks → Nat → (Nat × Nat) ⊕ Ps) (h h' : pm_H) : Prop :=
  frG m k h h' ∧ ((∃ e a', mrd h' m X (a', some e) ∧ ∀ cur K W, K.length = dp → F cur K W = .inl e) ∨
    ∃ a' U w R, lo ≤ a' ∧ P a' ∧ mrd h' m X (a', none) ∧ hI h' m 29 = nI (k + w) ∧ hI h' m 33 = nI dp ∧ k + w ≤ a' ∧ SG R k (k + w) U ∧ (∀ i, k ≤ i → i < k + w → rwIs h' (m + 329 + i) (R i) ∧ (R i).1 ≤ 4) ∧ ∀ cur K W, K.length = dp → F cur K W = CO X a' (cur ++ U) K (W + w))
def nsm (X : List Nat) (a : Nat) : Prop := skp X a = a ∧ inO 97 122 X[a]? = false
section MP
variable {h : pm_H} {m : Nat} {X : List Nat} {Q : pm_Q}
/-- behind a fault nothing is read -/
theorem c1053f (d : Nat) {a : Nat} {e : Nat × Nat} (hr : mrd h m X (a, some e)) (hQ : Q (.inl none) h) : pm_M PP (d + 2) 1053 [.ref m] h Q := by
  rw [e_1053, u_1053_0]
  simp (disch := omega) only [B_1053_0, nI1T, Nat.left_eq_add, Nat.add_eq_left, Nat.add_eq_zero_iff, and_false, false_and, if_false, if_true, opsN, opsC, pm_1, lg, ls1, ls2, lq, List.length_cons, List.length_nil, cN, cL, callE, retV, retN, pm_pop, pm_cat, List.map_cons, List.map_nil, List.sum_cons, List.sum_nil, Value.category, Option.toList, List.cons_append, List.nil_append, ↓reduceIte, reduceCtorEq, Nat.reduceAdd, Nat.reduceLT, Nat.reduceLeDiff, Nat.reduceSub, Nat.reduceEqDiff, Nat.zero_le, Nat.sub_zero, Nat.le_refl, true_and, and_true, not_true_eq_false, not_false_eq_true, true_or, or_true, lc_eq, lc_ne, lc_lt, lc_ge, lc_gt, lc_le, nI_add, lN_add, nI_leI, nI_ltI, nI_eq, nI_clamp, pk_lLT, pk_lLE, pk_lEQ, pk_sub, vp_inT, nz_eq, nz_lt, nz_ge, nz_gt, nz_le, lz_eq, lz_lt, lz_ge, hP1, hP2, hP3, hP4, hP5, hP6, hP7, hP8, hP9, hP10, hP11, hP12, hP13, hP14, hP15, hP16, hP17, hP18, hP19, hP20, hr.1.1]
  rw [q1043f _ hr (fun q => by cases q)]
  simp (disch := omega) only [u_1053_195, B_1053_195, nI1T, Nat.left_eq_add, Nat.add_eq_left, Nat.add_eq_zero_iff, and_false, false_and, if_false, if_true, opsN, opsC, pm_1, lg, ls1, ls2, lq, List.length_cons, List.length_nil, cN, cL, callE, retV, retN, pm_pop, pm_cat, List.map_cons, List.map_nil, List.sum_cons, List.sum_nil, Value.category, Option.toList, List.cons_append, List.nil_append, ↓reduceIte, reduceCtorEq, Nat.reduceAdd, Nat.reduceLT, Nat.reduceLeDiff, Nat.reduceSub, Nat.reduceEqDiff, Nat.zero_le, Nat.sub_zero, Nat.le_refl, true_and, and_true, not_true_eq_false, not_false_eq_true, true_or, or_true, lc_eq, lc_ne, lc_lt, lc_ge, lc_gt, lc_le, nI_add, lN_add, nI_leI, nI_ltI, nI_eq, nI_clamp, pk_lLT, pk_lLE, pk_lEQ, pk_sub, vp_inT, nz_eq, nz_lt, nz_ge, nz_gt, nz_le, lz_eq, lz_lt, lz_ge, hP1, hP2, hP3, hP4, hP5, hP6, hP7, hP8, hP9, hP10, hP11, hP12, hP13, hP14, hP15, hP16, hP17, hP18, hP19, hP20]
  exact hQ
theorem c1051f (d : Nat) {a s : Nat} {e : Nat × Nat} (hr : mrd h m X (a, some e)) (hQ : Q (.inl none) h) : pm_M PP (d + 2) 1051 [.ref m, .int (nI s)] h Q := by
  rw [e_1051]
  simp (disch := omega) only [u_1051_0, B_1051_0, nI1T, Nat.left_eq_add, Nat.add_eq_left, Nat.add_eq_zero_iff, and_false, false_and, if_false, if_true, opsN, opsC, pm_1, lg, ls1, ls2, lq, List.length_cons, List.length_nil, cN, cL, callE, retV, retN, pm_pop, pm_cat, List.map_cons, List.map_nil, List.sum_cons, List.sum_nil, Value.category, Option.toList, List.cons_append, List.nil_append, ↓reduceIte, reduceCtorEq, Nat.reduceAdd, Nat.reduceLT, Nat.reduceLeDiff, Nat.reduceSub, Nat.reduceEqDiff, Nat.zero_le, Nat.sub_zero, Nat.le_refl, true_and, and_true, not_true_eq_false, not_false_eq_true, true_or, or_true, lc_eq, lc_ne, lc_lt, lc_ge, lc_gt, lc_le, nI_add, lN_add, nI_leI, nI_ltI, nI_eq, nI_clamp, pk_lLT, pk_lLE, pk_lEQ, pk_sub, vp_inT, nz_eq, nz_lt, nz_ge, nz_gt, nz_le, lz_eq, lz_lt, lz_ge, hP1, hP2, hP3, hP4, hP5, hP6, hP7, hP8, hP9, hP10, hP11, hP12, hP13, hP14, hP15, hP16, hP17, hP18, hP19, hP20, hr.1.1]
  rw [q1043f _ hr (fun q => by cases q)]
  simp (disch := omega) only [nI1T, Nat.left_eq_add, Nat.add_eq_left, Nat.add_eq_zero_iff, and_false, false_and, if_false, if_true, opsN, opsC, pm_1, lg, ls1, ls2, lq, List.length_cons, List.length_nil, cN, cL, callE, retV, retN, pm_pop, pm_cat, List.map_cons, List.map_nil, List.sum_cons, List.sum_nil, Value.category, Option.toList, List.cons_append, List.nil_append, ↓reduceIte, reduceCtorEq, Nat.reduceAdd, Nat.reduceLT, Nat.reduceLeDiff, Nat.reduceSub, Nat.reduceEqDiff, Nat.zero_le, Nat.sub_zero, Nat.le_refl, true_and, and_true, not_true_eq_false, not_false_eq_true, true_or, or_true, lc_eq, lc_ne, lc_lt, lc_ge, lc_gt, lc_le, nI_add, lN_add, nI_leI, nI_ltI, nI_eq, nI_clamp, pk_lLT, pk_lLE, pk_lEQ, pk_sub, vp_inT, nz_eq, nz_lt, nz_ge, nz_gt, nz_le, lz_eq, lz_lt, lz_ge, hP1, hP2, hP3, hP4, hP5, hP6, hP7, hP8, hP9, hP10, hP11, hP12, hP13, hP14, hP15, hP16, hP17, hP18, hP19, hP20]
  exact hQ
/-- the end of readsAgain: the depth, the row -/
theorem x1054 (d : Nat) {k : Nat} {n : Int32} (hs : mS h m) (hk : k < 300) (hQ : Q (.inl none) (wrR (sI h m (va_up (hI h m) 33 (hI h m 33 - nI 1))) (m + 329 + k) (nI 4) n (nI 0) (hI h m 29))) :
    pm_ops pm_js hh_0 (pm_W PP (d + 1) 1054 Q) (pm_M PP (d + 1)) Q 0 (B_1054_55.drop 17) 0 0 [some (.ref m), some (.int (nI k)), some (.int n)] [] h := by
  simp (disch := omega) only [B_1054_55, nI1T, Nat.left_eq_add, Nat.add_eq_left, Nat.add_eq_zero_iff, and_false, false_and, if_false, if_true, opsN, opsC, pm_1, lg, ls1, ls2, lq, List.length_cons, List.length_nil, cN, cL, callE, retV, retN, pm_pop, pm_cat, List.map_cons, List.map_nil, List.sum_cons, List.sum_nil, Value.category, Option.toList, List.cons_append, List.nil_append, ↓reduceIte, reduceCtorEq, Nat.reduceAdd, Nat.reduceLT, Nat.reduceLeDiff, Nat.reduceSub, Nat.reduceEqDiff, Nat.zero_le, Nat.sub_zero, Nat.le_refl, true_and, and_true, not_true_eq_false, not_false_eq_true, true_or, or_true, lc_eq, lc_ne, lc_lt, lc_ge, lc_gt, lc_le, nI_add, lN_add, nI_leI, nI_ltI, nI_eq, nI_clamp, pk_lLT, pk_lLE, pk_lEQ, pk_sub, vp_inT, nz_eq, nz_lt, nz_ge, nz_gt, nz_le, lz_eq, lz_lt, lz_ge, hP1, hP2, hP3, hP4, hP5, hP6, hP7, hP8, hP9, hP10, hP11, hP12, hP13, hP14, hP15, hP16, hP17, hP18, hP19, hP20, List.drop_succ_cons, List.drop_zero, hs.1, m_g18 hs, m_t328 hs, m_n328 hs, m_r328 hs, m_rt328 hs, m_rn328 hs, va_upE]
  rw [q1052 _ (by rw [hP4]; exact m_rt328 hs k hk) (by rw [hP5]; exact m_rn328 hs k hk)]
  simp (disch := omega) only [nI1T, Nat.left_eq_add, Nat.add_eq_left, Nat.add_eq_zero_iff, and_false, false_and, if_false, if_true, opsN, opsC, pm_1, lg, ls1, ls2, lq, List.length_cons, List.length_nil, cN, cL, callE, retV, retN, pm_pop, pm_cat, List.map_cons, List.map_nil, List.sum_cons, List.sum_nil, Value.category, Option.toList, List.cons_append, List.nil_append, ↓reduceIte, reduceCtorEq, Nat.reduceAdd, Nat.reduceLT, Nat.reduceLeDiff, Nat.reduceSub, Nat.reduceEqDiff, Nat.zero_le, Nat.sub_zero, Nat.le_refl, true_and, and_true, not_true_eq_false, not_false_eq_true, true_or, or_true, lc_eq, lc_ne, lc_lt, lc_ge, lc_gt, lc_le, nI_add, lN_add, nI_leI, nI_ltI, nI_eq, nI_clamp, pk_lLT, pk_lLE, pk_lEQ, pk_sub, vp_inT, nz_eq, nz_lt, nz_ge, nz_gt, nz_le, lz_eq, lz_lt, lz_ge, hP1, hP2, hP3, hP4, hP5, hP6, hP7, hP8, hP9, hP10, hP11, hP12, hP13, hP14, hP15, hP16, hP17, hP18, hP19, hP20]
  exact hQ
end MP
