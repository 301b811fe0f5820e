/-! ===== the reference's acts ===== -/
def thr (h : pm_H) (m : Nat) : pm_H := sI h m (va_up (hI h m) 0 (nI 0))
/-- refused: which, and the reason counted -/
def rfM (h : pm_H) (m w r : Nat) : pm_H := sI (sI h m (va_up (hI h m) 0 (nI w))) (m + 1) (va_up (hI h (m + 1)) r (hI h (m + 1) r + nI 1))
theorem mS_sI {h : pm_H} {m k : Nat} {g : Nat → Int32} (hs : mS h m) : mS (sI h k g) m := mS_eq (h := h) rfl rfl (fun _ _ => rfl) hs
theorem mS_sL {h : pm_H} {m k : Nat} {g : Nat → Int64} (hs : mS h m) : mS (sL h k g) m := mS_eq (h := h) rfl rfl (fun _ _ => rfl) hs
theorem mP_sI {h : pm_H} {m B j : Nat} {P : List Hs} {v : Int32} (hj : j ≠ 15) (hp : mP h m P B) : mP (sI h m (va_up (hI h m) j v)) m P B := by
  refine ⟨hp.1, ?_, hp.2.2.1, fun i hi => mRow_eq (h := h) rfl rfl rfl rfl ?_ (hp.2.2.2 i hi)⟩
  · rw [hP1, va_up_self, va_up_ne _ _ (Ne.symm hj)]; exact hp.2.1
  · rw [hP1, va_up_ne _ _ (by omega)]
theorem isM_thr {h : pm_H} {m B : Nat} {H : Hs} {P : List Hs} (hM : isM h m H P B) : isM (thr h m) m H P B := by
  obtain ⟨hs, f14, hj, q1, q2, hp⟩ := hM
  refine ⟨mS_sI hs, ?_, hj, mQ_sI q1, mQ_sI q2, mP_sI (by omega) hp⟩
  show hI (sI h m _) m 14 = _
  rw [hP1, va_up_self, va_up_ne _ _ (by omega)]; exact f14
theorem thr_0 {h : pm_H} {m : Nat} : hI (thr h m) m 0 = nI 0 := by
  show hI (sI h m _) m 0 = _
  rw [hP1, va_up_self, va_up_self]
theorem thr_ex {h : pm_H} {m : Nat} (hs : mS h m) : ∃ h0, sI h m (va_up (hI h m) 0 (nI 0)) = h0 ∧ thr h m = h0 ∧ mS h0 m ∧ hI h0 m 0 = nI 0 := ⟨_, rfl, rfl, mS_sI hs, thr_0⟩
theorem thr_exM {h : pm_H} {m B : Nat} {H : Hs} {P : List Hs} (hM : isM h m H P B) : ∃ h0, sI h m (va_up (hI h m) 0 (nI 0)) = h0 ∧ thr h m = h0 ∧ isM h0 m H P B ∧ hI h0 m 0 = nI 0 := ⟨_, rfl, rfl, isM_thr hM, thr_0⟩
/-- an act: the two queues, what was before, the marks of buckets -/
def frP (m : Nat) (h h' : pm_H) : Prop := hT h' = hT h ∧ hN h' = hN h ∧ hR h' = hR h ∧ hn h' = hn h ∧ (∀ j, j ≠ 0 → j ≠ 14 → j ≠ 15 → hI h' m j = hI h m j) ∧ (∀ k, k ≠ m → k ≠ m + 24 → k ≠ m + 26 → hI h' k = hI h k) ∧ ∀ k, (k < m + 4 ∨ m + 24 ≤ k) → hL h' k = hL h k
theorem frP_refl (m : Nat) (h : pm_H) : frP m h h := ⟨rfl, rfl, rfl, rfl, fun _ _ _ _ => rfl, fun _ _ _ _ => rfl, fun _ _ => rfl⟩
theorem frP_trans {m : Nat} {h h1 h2 : pm_H} (a : frP m h h1) (b : frP m h1 h2) : frP m h h2 :=
  ⟨b.1.trans a.1, b.2.1.trans a.2.1, b.2.2.1.trans a.2.2.1, b.2.2.2.1.trans a.2.2.2.1, fun j z1 z2 z3 => (b.2.2.2.2.1 j z1 z2 z3).trans (a.2.2.2.2.1 j z1 z2 z3), fun k z1 z2 z3 => (b.2.2.2.2.2.1 k z1 z2 z3).trans (a.2.2.2.2.2.1 k z1 z2 z3), fun k q => (b.2.2.2.2.2.2 k q).trans (a.2.2.2.2.2.2 k q)⟩
theorem frP_K {m : Nat} {h h1 : pm_H} (a : frK m h h1) : frP m h h1 :=
  ⟨a.1, a.2.1, a.2.2.1, a.2.2.2.1, fun j _ _ z => a.2.2.2.2.1 j z, fun k z1 z2 _ => a.2.2.2.2.2.1 k z1 z2, fun k q => a.2.2.2.2.2.2 k (by omega)⟩
theorem frP_Q {m n : Nat} {h h1 : pm_H} (hn : n < 2) (a : frQ (m + 4 + n) (m + 26) h h1) : frP m h h1 :=
  ⟨a.1, a.2.1, a.2.2.1, a.2.2.2.1, fun j _ _ _ => by rw [a.2.2.2.2.1 m (by omega)], fun k _ _ z => a.2.2.2.2.1 k z, fun k q => a.2.2.2.2.2 k (by omega)⟩
theorem frP_thr {m : Nat} {h : pm_H} : frP m h (thr h m) :=
  ⟨rfl, rfl, rfl, rfl, fun j z _ _ => by show hI (sI h m _) m j = _; rw [hP1, va_up_self, va_up_ne _ _ z], fun k z _ _ => by show hI (sI h m _) k = _; rw [hP1, va_up_ne _ _ z], fun _ _ => rfl⟩
theorem of_isM {h : pm_H} {m n B : Nat} {H : Hs} {P : List Hs} (hn : n < 2) (hM : isM h m H P B) : mQ h (m + 4 + n) (hOf n H) B := by
  rcases (show n = 0 ∨ n = 1 by omega) with e | e <;> subst e
  · exact hM.2.2.2.1
  · exact hM.2.2.2.2.1
theorem put_isM {h h' : pm_H} {m n B B' : Nat} {H : Hs} {P : List Hs} {A : Qs} (hn : n < 2) (hM : isM h m H P B) (hq : mQ h' (m + 4 + n) A B') (hf : frQ (m + 4 + n) (m + 26) h h') (hI1 : qI H.1 200 A) (hB : B ≤ B') : isM h' m (hPut n H A) P B' := by
  obtain ⟨hs, f14, hj, q1, q2, p1, p2, p3, p4⟩ := hM
  obtain ⟨a1, a2, a3, a4, a5, a6⟩ := hf
  have hm : hI h' m = hI h m := a5 m (by omega)
  refine ⟨mS_eq a1 a2 (fun k _ => by rw [a3]) hs, ?_, put_hJ hn hj hI1, ?_, ?_, p1, ?_, p3, fun i hi => ?_⟩
  · rw [hm]
    rcases (show n = 0 ∨ n = 1 by omega) with e | e <;> subst e <;> exact f14
  · rcases (show n = 0 ∨ n = 1 by omega) with e | e <;> subst e
    · exact hq
    · exact mQ_up hB (mQ_eq a1 a2 (a6 _ (by omega)) q1)
  · rcases (show n = 0 ∨ n = 1 by omega) with e | e <;> subst e
    · exact mQ_up hB (mQ_eq a1 a2 (a6 _ (by omega)) q2)
    · exact hq
  · rw [hm]; exact p2
  · have hr := p4 i hi
    have : mRow h' m i (P.getD i hs0) B := mRow_eq a1 a2 (a6 _ (by omega)) (a6 _ (by omega)) (by rw [a5 _ (by omega)]) hr
    exact ⟨mQ_up hB this.1, mQ_up hB this.2.1, this.2.2⟩
theorem isM_up {h : pm_H} {m B B' : Nat} {H : Hs} {P : List Hs} (hB : B ≤ B') (hM : isM h m H P B) : isM h m H P B' := by
  obtain ⟨hs, f14, hj, q1, q2, p1, p2, p3, p4⟩ := hM
  exact ⟨hs, f14, hj, mQ_up hB q1, mQ_up hB q2, p1, p2, p3, fun i hi => ⟨mQ_up hB (p4 i hi).1, mQ_up hB (p4 i hi).2.1, (p4 i hi).2.2⟩⟩
theorem i64_lt {a b : Int32} : a.toInt64 < b.toInt64 ↔ a < b := by
  rw [Int64.lt_iff_toInt_lt, Int32.toInt_toInt64, Int32.toInt_toInt64, Int32.lt_iff_toInt_lt]
theorem i32_out {v : Int32} (h0 : ¬ v = 0) (h1 : ¬ v = nI 1) : v < nI 0 ∨ nI 1 < v := by
  have e0 : v.toInt ≠ 0 := fun q => h0 (Int32.toInt_inj.mp q)
  have e1 : v.toInt ≠ 1 := fun q => h1 (Int32.toInt_inj.mp q)
  rw [Int32.lt_iff_toInt_lt, Int32.lt_iff_toInt_lt]
  have a : (nI 0).toInt = 0 := by decide
  have b : (nI 1).toInt = 1 := by decide
  omega
section MA
variable {h : pm_H} {m : Nat} {Q : pm_Q}
theorem bad0 (d : Nat) {w r : Int32} (hs : mS h m) (hz : hI h m 0 = nI 0) : pm_M PP (d + 1) 1002 [.ref m, .int (nI 0), .int w, .int r] h Q = Q (.inl (some (.int (nI 0)))) h := m1002t d hs.1 hz
theorem bad1 (d : Nat) {w r : Nat} (hs : mS h m) (hz : hI h m 0 = nI 0) (hw : 0 < w) (hw2 : w < 5) (hr : r < 4) : pm_M PP (d + 1) 1002 [.ref m, .int (nI 1), .int (nI w), .int (nI r)] h Q = Q (.inl (some (.int (nI 1)))) (rfM h m w r) :=
  m1002f d hs.1 hz (m_g1 hs) (by omega) (by omega) (m_t1 hs) (m_n1 hs) hw hw2 hr
theorem q1024t (d : Nat) {n : Nat} (hn : n < 2) : pm_M PP (d + 2) 1024 [.int (nI n)] h Q = Q (.inl (some (.int (nI 1)))) h := by
  have c1 : ¬ lN n < lN 0 := by rw [pk_lLT (by omega) (by omega)]; omega
  have c2 : ¬ lN 1 < lN n := by rw [pk_lLT (by omega) (by omega)]; omega
  have e : (nI n).toInt64 = lN n := nI_l (by omega)
  rw [e_1024]
  simp (disch := omega) only [u_1024_0, B_1024_0, nI1T, Nat.left_eq_add, Nat.add_eq_left, Nat.add_eq_zero_iff, and_false, false_and, if_false, if_true, opsN, opsC, pm_1, lg, ls1, ls2, lq, List.length_cons, List.length_nil, cN, cL, callE, retV, retN, pm_pop, pm_cat, List.map_cons, List.map_nil, List.sum_cons, List.sum_nil, Value.category, Option.toList, List.cons_append, List.nil_append, ↓reduceIte, reduceCtorEq, Nat.reduceAdd, Nat.reduceLT, Nat.reduceLeDiff, Nat.reduceSub, Nat.reduceEqDiff, Nat.zero_le, Nat.sub_zero, Nat.le_refl, true_and, and_true, not_true_eq_false, not_false_eq_true, true_or, or_true, lc_eq, lc_ne, lc_lt, lc_ge, lc_gt, lc_le, nI_add, lN_add, nI_leI, nI_ltI, nI_eq, nI_clamp, pk_lLT, pk_lLE, pk_lEQ, pk_sub, vp_inT, nz_eq, nz_lt, nz_ge, nz_gt, nz_le, lz_eq, lz_lt, lz_ge, hP1, hP2, hP3, hP4, hP5, hP6, hP7, hP8, hP9, hP10, hP11, hP12, hP13, hP14, hP15, hP16, hP17, hP18, hP19, hP20, e]
  rw [m1003t _ c1 c2]
  simp (disch := omega) only [nI1T, Nat.left_eq_add, Nat.add_eq_left, Nat.add_eq_zero_iff, and_false, false_and, if_false, if_true, opsN, opsC, pm_1, lg, ls1, ls2, lq, List.length_cons, List.length_nil, cN, cL, callE, retV, retN, pm_pop, pm_cat, List.map_cons, List.map_nil, List.sum_cons, List.sum_nil, Value.category, Option.toList, List.cons_append, List.nil_append, ↓reduceIte, reduceCtorEq, Nat.reduceAdd, Nat.reduceLT, Nat.reduceLeDiff, Nat.reduceSub, Nat.reduceEqDiff, Nat.zero_le, Nat.sub_zero, Nat.le_refl, true_and, and_true, not_true_eq_false, not_false_eq_true, true_or, or_true, lc_eq, lc_ne, lc_lt, lc_ge, lc_gt, lc_le, nI_add, lN_add, nI_leI, nI_ltI, nI_eq, nI_clamp, pk_lLT, pk_lLE, pk_lEQ, pk_sub, vp_inT, nz_eq, nz_lt, nz_ge, nz_gt, nz_le, lz_eq, lz_lt, lz_ge, hP1, hP2, hP3, hP4, hP5, hP6, hP7, hP8, hP9, hP10, hP11, hP12, hP13, hP14, hP15, hP16, hP17, hP18, hP19, hP20]
theorem q1024f (d : Nat) {v : Int32} (h0 : ¬ v = 0) (h1 : ¬ v = nI 1) : pm_M PP (d + 2) 1024 [.int v] h Q = Q (.inl (some (.int (nI 0)))) h := by
  have c : v.toInt64 < lN 0 ∨ lN 1 < v.toInt64 := by
    rw [← nI_l (show 0 < 2 ^ 31 by decide), ← nI_l (show 1 < 2 ^ 31 by decide), i64_lt, i64_lt]
    exact i32_out h0 h1
  rw [e_1024]
  simp (disch := omega) only [u_1024_0, B_1024_0, nI1T, Nat.left_eq_add, Nat.add_eq_left, Nat.add_eq_zero_iff, and_false, false_and, if_false, if_true, opsN, opsC, pm_1, lg, ls1, ls2, lq, List.length_cons, List.length_nil, cN, cL, callE, retV, retN, pm_pop, pm_cat, List.map_cons, List.map_nil, List.sum_cons, List.sum_nil, Value.category, Option.toList, List.cons_append, List.nil_append, ↓reduceIte, reduceCtorEq, Nat.reduceAdd, Nat.reduceLT, Nat.reduceLeDiff, Nat.reduceSub, Nat.reduceEqDiff, Nat.zero_le, Nat.sub_zero, Nat.le_refl, true_and, and_true, not_true_eq_false, not_false_eq_true, true_or, or_true, lc_eq, lc_ne, lc_lt, lc_ge, lc_gt, lc_le, nI_add, lN_add, nI_leI, nI_ltI, nI_eq, nI_clamp, pk_lLT, pk_lLE, pk_lEQ, pk_sub, vp_inT, nz_eq, nz_lt, nz_ge, nz_gt, nz_le, lz_eq, lz_lt, lz_ge, hP1, hP2, hP3, hP4, hP5, hP6, hP7, hP8, hP9, hP10, hP11, hP12, hP13, hP14, hP15, hP16, hP17, hP18, hP19, hP20]
  rw [m1003f _ c]
  simp (disch := omega) only [nI1T, Nat.left_eq_add, Nat.add_eq_left, Nat.add_eq_zero_iff, and_false, false_and, if_false, if_true, opsN, opsC, pm_1, lg, ls1, ls2, lq, List.length_cons, List.length_nil, cN, cL, callE, retV, retN, pm_pop, pm_cat, List.map_cons, List.map_nil, List.sum_cons, List.sum_nil, Value.category, Option.toList, List.cons_append, List.nil_append, ↓reduceIte, reduceCtorEq, Nat.reduceAdd, Nat.reduceLT, Nat.reduceLeDiff, Nat.reduceSub, Nat.reduceEqDiff, Nat.zero_le, Nat.sub_zero, Nat.le_refl, true_and, and_true, not_true_eq_false, not_false_eq_true, true_or, or_true, lc_eq, lc_ne, lc_lt, lc_ge, lc_gt, lc_le, nI_add, lN_add, nI_leI, nI_ltI, nI_eq, nI_clamp, pk_lLT, pk_lLE, pk_lEQ, pk_sub, vp_inT, nz_eq, nz_lt, nz_ge, nz_gt, nz_le, lz_eq, lz_lt, lz_ge, hP1, hP2, hP3, hP4, hP5, hP6, hP7, hP8, hP9, hP10, hP11, hP12, hP13, hP14, hP15, hP16, hP17, hP18, hP19, hP20]
theorem q1025t (d : Nat) {n : Nat} (hs : mS h m) (hn : n < 2) : pm_M PP (d + 3) 1025 [.ref m, .int (nI n)] h Q = Q (.inl (some (.ref (m + 4 + n)))) h := by
  rw [e_1025]
  simp (disch := omega) only [u_1025_0, B_1025_0, nI1T, Nat.left_eq_add, Nat.add_eq_left, Nat.add_eq_zero_iff, and_false, false_and, if_false, if_true, opsN, opsC, pm_1, lg, ls1, ls2, lq, List.length_cons, List.length_nil, cN, cL, callE, retV, retN, pm_pop, pm_cat, List.map_cons, List.map_nil, List.sum_cons, List.sum_nil, Value.category, Option.toList, List.cons_append, List.nil_append, ↓reduceIte, reduceCtorEq, Nat.reduceAdd, Nat.reduceLT, Nat.reduceLeDiff, Nat.reduceSub, Nat.reduceEqDiff, Nat.zero_le, Nat.sub_zero, Nat.le_refl, true_and, and_true, not_true_eq_false, not_false_eq_true, true_or, or_true, lc_eq, lc_ne, lc_lt, lc_ge, lc_gt, lc_le, nI_add, lN_add, nI_leI, nI_ltI, nI_eq, nI_clamp, pk_lLT, pk_lLE, pk_lEQ, pk_sub, vp_inT, nz_eq, nz_lt, nz_ge, nz_gt, nz_le, lz_eq, lz_lt, lz_ge, hP1, hP2, hP3, hP4, hP5, hP6, hP7, hP8, hP9, hP10, hP11, hP12, hP13, hP14, hP15, hP16, hP17, hP18, hP19, hP20, hs.1, m_g9 hs]
  rw [q1024t _ hn]
  simp (disch := omega) only [u_1025_16, B_1025_16, nI1T, Nat.left_eq_add, Nat.add_eq_left, Nat.add_eq_zero_iff, and_false, false_and, if_false, if_true, opsN, opsC, pm_1, lg, ls1, ls2, lq, List.length_cons, List.length_nil, cN, cL, callE, retV, retN, pm_pop, pm_cat, List.map_cons, List.map_nil, List.sum_cons, List.sum_nil, Value.category, Option.toList, List.cons_append, List.nil_append, ↓reduceIte, reduceCtorEq, Nat.reduceAdd, Nat.reduceLT, Nat.reduceLeDiff, Nat.reduceSub, Nat.reduceEqDiff, Nat.zero_le, Nat.sub_zero, Nat.le_refl, true_and, and_true, not_true_eq_false, not_false_eq_true, true_or, or_true, lc_eq, lc_ne, lc_lt, lc_ge, lc_gt, lc_le, nI_add, lN_add, nI_leI, nI_ltI, nI_eq, nI_clamp, pk_lLT, pk_lLE, pk_lEQ, pk_sub, vp_inT, nz_eq, nz_lt, nz_ge, nz_gt, nz_le, lz_eq, lz_lt, lz_ge, hP1, hP2, hP3, hP4, hP5, hP6, hP7, hP8, hP9, hP10, hP11, hP12, hP13, hP14, hP15, hP16, hP17, hP18, hP19, hP20, m_t3 hs, m_n3 hs, m_r3 hs]
theorem q1025f (d : Nat) {v : Int32} (hs : mS h m) (h0 : ¬ v = 0) (h1 : ¬ v = nI 1) : pm_M PP (d + 3) 1025 [.ref m, .int v] h Q = Q (.inl (some (.ref (m + 4)))) h := by
  rw [e_1025]
  simp (disch := omega) only [u_1025_0, B_1025_0, nI1T, Nat.left_eq_add, Nat.add_eq_left, Nat.add_eq_zero_iff, and_false, false_and, if_false, if_true, opsN, opsC, pm_1, lg, ls1, ls2, lq, List.length_cons, List.length_nil, cN, cL, callE, retV, retN, pm_pop, pm_cat, List.map_cons, List.map_nil, List.sum_cons, List.sum_nil, Value.category, Option.toList, List.cons_append, List.nil_append, ↓reduceIte, reduceCtorEq, Nat.reduceAdd, Nat.reduceLT, Nat.reduceLeDiff, Nat.reduceSub, Nat.reduceEqDiff, Nat.zero_le, Nat.sub_zero, Nat.le_refl, true_and, and_true, not_true_eq_false, not_false_eq_true, true_or, or_true, lc_eq, lc_ne, lc_lt, lc_ge, lc_gt, lc_le, nI_add, lN_add, nI_leI, nI_ltI, nI_eq, nI_clamp, pk_lLT, pk_lLE, pk_lEQ, pk_sub, vp_inT, nz_eq, nz_lt, nz_ge, nz_gt, nz_le, lz_eq, lz_lt, lz_ge, hP1, hP2, hP3, hP4, hP5, hP6, hP7, hP8, hP9, hP10, hP11, hP12, hP13, hP14, hP15, hP16, hP17, hP18, hP19, hP20, hs.1, m_g9 hs]
  rw [q1024f _ h0 h1]
  simp (disch := omega) only [u_1025_15, B_1025_15, u_1025_16, B_1025_16, nI1T, Nat.left_eq_add, Nat.add_eq_left, Nat.add_eq_zero_iff, and_false, false_and, if_false, if_true, opsN, opsC, pm_1, lg, ls1, ls2, lq, List.length_cons, List.length_nil, cN, cL, callE, retV, retN, pm_pop, pm_cat, List.map_cons, List.map_nil, List.sum_cons, List.sum_nil, Value.category, Option.toList, List.cons_append, List.nil_append, ↓reduceIte, reduceCtorEq, Nat.reduceAdd, Nat.reduceLT, Nat.reduceLeDiff, Nat.reduceSub, Nat.reduceEqDiff, Nat.zero_le, Nat.sub_zero, Nat.le_refl, true_and, and_true, not_true_eq_false, not_false_eq_true, true_or, or_true, lc_eq, lc_ne, lc_lt, lc_ge, lc_gt, lc_le, nI_add, lN_add, nI_leI, nI_ltI, nI_eq, nI_clamp, pk_lLT, pk_lLE, pk_lEQ, pk_sub, vp_inT, nz_eq, nz_lt, nz_ge, nz_gt, nz_le, lz_eq, lz_lt, lz_ge, hP1, hP2, hP3, hP4, hP5, hP6, hP7, hP8, hP9, hP10, hP11, hP12, hP13, hP14, hP15, hP16, hP17, hP18, hP19, hP20, m_t3 hs, m_n3 hs, m_q0 hs]
theorem q1028t (d : Nat) {q i : Nat} {A : Qs} {sn : Nat → Nat} {st : Nat} (hq : isQ h q A sn st) (hC : qC A ≤ 300) (hi : i < qC A) : pm_M PP (d + 2) 1028 [.ref m, .ref q, .int (nI i)] h Q = Q (.inl (some (.int (nI 1)))) h := by
  have c1 : ¬ lN i < lN 0 := by rw [pk_lLT (by omega) (by omega)]; omega
  have c2 : ¬ lN (qC A - 1) < lN i := by rw [pk_lLT (by omega) (by omega)]; omega
  have e : (nI i).toInt64 = lN i := nI_l (by omega)
  have e2 : (nI (qC A - 1)).toInt64 = lN (qC A - 1) := nI_l (by omega)
  obtain ⟨r0, r1, r2, r3, r4, r5, r6, r7, r8, r9⟩ := hq
  rw [e_1028]
  simp (disch := omega) only [u_1028_0, B_1028_0, nI1T, Nat.left_eq_add, Nat.add_eq_left, Nat.add_eq_zero_iff, and_false, false_and, if_false, if_true, opsN, opsC, pm_1, lg, ls1, ls2, lq, List.length_cons, List.length_nil, cN, cL, callE, retV, retN, pm_pop, pm_cat, List.map_cons, List.map_nil, List.sum_cons, List.sum_nil, Value.category, Option.toList, List.cons_append, List.nil_append, ↓reduceIte, reduceCtorEq, Nat.reduceAdd, Nat.reduceLT, Nat.reduceLeDiff, Nat.reduceSub, Nat.reduceEqDiff, Nat.zero_le, Nat.sub_zero, Nat.le_refl, true_and, and_true, not_true_eq_false, not_false_eq_true, true_or, or_true, lc_eq, lc_ne, lc_lt, lc_ge, lc_gt, lc_le, nI_add, lN_add, nI_leI, nI_ltI, nI_eq, nI_clamp, pk_lLT, pk_lLE, pk_lEQ, pk_sub, vp_inT, nz_eq, nz_lt, nz_ge, nz_gt, nz_le, lz_eq, lz_lt, lz_ge, hP1, hP2, hP3, hP4, hP5, hP6, hP7, hP8, hP9, hP10, hP11, hP12, hP13, hP14, hP15, hP16, hP17, hP18, hP19, hP20, e]
  rw [q_came _ r0 r1, r3, lN_i]
  simp (disch := omega) only [nI1T, Nat.left_eq_add, Nat.add_eq_left, Nat.add_eq_zero_iff, and_false, false_and, if_false, if_true, opsN, opsC, pm_1, lg, ls1, ls2, lq, List.length_cons, List.length_nil, cN, cL, callE, retV, retN, pm_pop, pm_cat, List.map_cons, List.map_nil, List.sum_cons, List.sum_nil, Value.category, Option.toList, List.cons_append, List.nil_append, ↓reduceIte, reduceCtorEq, Nat.reduceAdd, Nat.reduceLT, Nat.reduceLeDiff, Nat.reduceSub, Nat.reduceEqDiff, Nat.zero_le, Nat.sub_zero, Nat.le_refl, true_and, and_true, not_true_eq_false, not_false_eq_true, true_or, or_true, lc_eq, lc_ne, lc_lt, lc_ge, lc_gt, lc_le, nI_add, lN_add, nI_leI, nI_ltI, nI_eq, nI_clamp, pk_lLT, pk_lLE, pk_lEQ, pk_sub, vp_inT, nz_eq, nz_lt, nz_ge, nz_gt, nz_le, lz_eq, lz_lt, lz_ge, hP1, hP2, hP3, hP4, hP5, hP6, hP7, hP8, hP9, hP10, hP11, hP12, hP13, hP14, hP15, hP16, hP17, hP18, hP19, hP20, e2]
  rw [m1003t _ c1 c2]
  simp (disch := omega) only [nI1T, Nat.left_eq_add, Nat.add_eq_left, Nat.add_eq_zero_iff, and_false, false_and, if_false, if_true, opsN, opsC, pm_1, lg, ls1, ls2, lq, List.length_cons, List.length_nil, cN, cL, callE, retV, retN, pm_pop, pm_cat, List.map_cons, List.map_nil, List.sum_cons, List.sum_nil, Value.category, Option.toList, List.cons_append, List.nil_append, ↓reduceIte, reduceCtorEq, Nat.reduceAdd, Nat.reduceLT, Nat.reduceLeDiff, Nat.reduceSub, Nat.reduceEqDiff, Nat.zero_le, Nat.sub_zero, Nat.le_refl, true_and, and_true, not_true_eq_false, not_false_eq_true, true_or, or_true, lc_eq, lc_ne, lc_lt, lc_ge, lc_gt, lc_le, nI_add, lN_add, nI_leI, nI_ltI, nI_eq, nI_clamp, pk_lLT, pk_lLE, pk_lEQ, pk_sub, vp_inT, nz_eq, nz_lt, nz_ge, nz_gt, nz_le, lz_eq, lz_lt, lz_ge, hP1, hP2, hP3, hP4, hP5, hP6, hP7, hP8, hP9, hP10, hP11, hP12, hP13, hP14, hP15, hP16, hP17, hP18, hP19, hP20]
theorem q1028f (d : Nat) {q : Nat} {v : Int32} {A : Qs} {sn : Nat → Nat} {st : Nat} (hq : isQ h q A sn st) (hC : qC A ≤ 300) (hv : v < 0 ∨ nI (qC A) ≤ v) : pm_M PP (d + 2) 1028 [.ref m, .ref q, .int v] h Q = Q (.inl (some (.int (nI 0)))) h := by
  have c : v.toInt64 < lN 0 ∨ (nI (qC A) - nI 1).toInt64 < v.toInt64 := by
    rw [← nI_l (show 0 < 2 ^ 31 by decide), i64_lt, i64_lt]
    rcases hv with z | z
    · exact .inl z
    · right
      rw [Int32.lt_iff_toInt_lt, pk_sub_toInt (by omega) (by omega)]
      rw [Int32.le_iff_toInt_le, nI_toInt (by omega)] at z
      omega
  obtain ⟨r0, r1, r2, r3, r4, r5, r6, r7, r8, r9⟩ := hq
  rw [e_1028]
  simp (disch := omega) only [u_1028_0, B_1028_0, nI1T, Nat.left_eq_add, Nat.add_eq_left, Nat.add_eq_zero_iff, and_false, false_and, if_false, if_true, opsN, opsC, pm_1, lg, ls1, ls2, lq, List.length_cons, List.length_nil, cN, cL, callE, retV, retN, pm_pop, pm_cat, List.map_cons, List.map_nil, List.sum_cons, List.sum_nil, Value.category, Option.toList, List.cons_append, List.nil_append, ↓reduceIte, reduceCtorEq, Nat.reduceAdd, Nat.reduceLT, Nat.reduceLeDiff, Nat.reduceSub, Nat.reduceEqDiff, Nat.zero_le, Nat.sub_zero, Nat.le_refl, true_and, and_true, not_true_eq_false, not_false_eq_true, true_or, or_true, lc_eq, lc_ne, lc_lt, lc_ge, lc_gt, lc_le, nI_add, lN_add, nI_leI, nI_ltI, nI_eq, nI_clamp, pk_lLT, pk_lLE, pk_lEQ, pk_sub, vp_inT, nz_eq, nz_lt, nz_ge, nz_gt, nz_le, lz_eq, lz_lt, lz_ge, hP1, hP2, hP3, hP4, hP5, hP6, hP7, hP8, hP9, hP10, hP11, hP12, hP13, hP14, hP15, hP16, hP17, hP18, hP19, hP20]
  rw [q_came _ r0 r1, r3, lN_i]
  by_cases c9 : 1 ≤ qC A
  · rw [pk_sub c9] at c
    simp (disch := omega) only [nI1T, Nat.left_eq_add, Nat.add_eq_left, Nat.add_eq_zero_iff, and_false, false_and, if_false, if_true, opsN, opsC, pm_1, lg, ls1, ls2, lq, List.length_cons, List.length_nil, cN, cL, callE, retV, retN, pm_pop, pm_cat, List.map_cons, List.map_nil, List.sum_cons, List.sum_nil, Value.category, Option.toList, List.cons_append, List.nil_append, ↓reduceIte, reduceCtorEq, Nat.reduceAdd, Nat.reduceLT, Nat.reduceLeDiff, Nat.reduceSub, Nat.reduceEqDiff, Nat.zero_le, Nat.sub_zero, Nat.le_refl, true_and, and_true, not_true_eq_false, not_false_eq_true, true_or, or_true, lc_eq, lc_ne, lc_lt, lc_ge, lc_gt, lc_le, nI_add, lN_add, nI_leI, nI_ltI, nI_eq, nI_clamp, pk_lLT, pk_lLE, pk_lEQ, pk_sub, vp_inT, nz_eq, nz_lt, nz_ge, nz_gt, nz_le, lz_eq, lz_lt, lz_ge, hP1, hP2, hP3, hP4, hP5, hP6, hP7, hP8, hP9, hP10, hP11, hP12, hP13, hP14, hP15, hP16, hP17, hP18, hP19, hP20]
    rw [m1003f _ c]
    simp (disch := omega) only [nI1T, Nat.left_eq_add, Nat.add_eq_left, Nat.add_eq_zero_iff, and_false, false_and, if_false, if_true, opsN, opsC, pm_1, lg, ls1, ls2, lq, List.length_cons, List.length_nil, cN, cL, callE, retV, retN, pm_pop, pm_cat, List.map_cons, List.map_nil, List.sum_cons, List.sum_nil, Value.category, Option.toList, List.cons_append, List.nil_append, ↓reduceIte, reduceCtorEq, Nat.reduceAdd, Nat.reduceLT, Nat.reduceLeDiff, Nat.reduceSub, Nat.reduceEqDiff, Nat.zero_le, Nat.sub_zero, Nat.le_refl, true_and, and_true, not_true_eq_false, not_false_eq_true, true_or, or_true, lc_eq, lc_ne, lc_lt, lc_ge, lc_gt, lc_le, nI_add, lN_add, nI_leI, nI_ltI, nI_eq, nI_clamp, pk_lLT, pk_lLE, pk_lEQ, pk_sub, vp_inT, nz_eq, nz_lt, nz_ge, nz_gt, nz_le, lz_eq, lz_lt, lz_ge, hP1, hP2, hP3, hP4, hP5, hP6, hP7, hP8, hP9, hP10, hP11, hP12, hP13, hP14, hP15, hP16, hP17, hP18, hP19, hP20]
  · simp (disch := omega) only [nI1T, Nat.left_eq_add, Nat.add_eq_left, Nat.add_eq_zero_iff, and_false, false_and, if_false, if_true, opsN, opsC, pm_1, lg, ls1, ls2, lq, List.length_cons, List.length_nil, cN, cL, callE, retV, retN, pm_pop, pm_cat, List.map_cons, List.map_nil, List.sum_cons, List.sum_nil, Value.category, Option.toList, List.cons_append, List.nil_append, ↓reduceIte, reduceCtorEq, Nat.reduceAdd, Nat.reduceLT, Nat.reduceLeDiff, Nat.reduceSub, Nat.reduceEqDiff, Nat.zero_le, Nat.sub_zero, Nat.le_refl, true_and, and_true, not_true_eq_false, not_false_eq_true, true_or, or_true, lc_eq, lc_ne, lc_lt, lc_ge, lc_gt, lc_le, nI_add, lN_add, nI_leI, nI_ltI, nI_eq, nI_clamp, pk_lLT, pk_lLE, pk_lEQ, pk_sub, vp_inT, nz_eq, nz_lt, nz_ge, nz_gt, nz_le, lz_eq, lz_lt, lz_ge, hP1, hP2, hP3, hP4, hP5, hP6, hP7, hP8, hP9, hP10, hP11, hP12, hP13, hP14, hP15, hP16, hP17, hP18, hP19, hP20]
    rw [m1003f _ c]
    simp (disch := omega) only [nI1T, Nat.left_eq_add, Nat.add_eq_left, Nat.add_eq_zero_iff, and_false, false_and, if_false, if_true, opsN, opsC, pm_1, lg, ls1, ls2, lq, List.length_cons, List.length_nil, cN, cL, callE, retV, retN, pm_pop, pm_cat, List.map_cons, List.map_nil, List.sum_cons, List.sum_nil, Value.category, Option.toList, List.cons_append, List.nil_append, ↓reduceIte, reduceCtorEq, Nat.reduceAdd, Nat.reduceLT, Nat.reduceLeDiff, Nat.reduceSub, Nat.reduceEqDiff, Nat.zero_le, Nat.sub_zero, Nat.le_refl, true_and, and_true, not_true_eq_false, not_false_eq_true, true_or, or_true, lc_eq, lc_ne, lc_lt, lc_ge, lc_gt, lc_le, nI_add, lN_add, nI_leI, nI_ltI, nI_eq, nI_clamp, pk_lLT, pk_lLE, pk_lEQ, pk_sub, vp_inT, nz_eq, nz_lt, nz_ge, nz_gt, nz_le, lz_eq, lz_lt, lz_ge, hP1, hP2, hP3, hP4, hP5, hP6, hP7, hP8, hP9, hP10, hP11, hP12, hP13, hP14, hP15, hP16, hP17, hP18, hP19, hP20]
/-! undo -/
theorem c1023e (d : Nat) {B : Nat} {H : Hs} (hM : isM h m H [] B) (hQ : Q (.inl (some (.int (-nI 1)))) (thr h m)) : pm_M PP (d + 1) 1023 [.ref m] h Q := by
  obtain ⟨h0, e0, et, hM0, hz⟩ := thr_exM hM
  rw [et] at hQ
  have p2 : hI h0 m 15 = nI 0 := hM0.2.2.2.2.2.2.1
  rw [e_1023]
  simp (disch := omega) only [u_1023_0, B_1023_0, nI1T, Nat.left_eq_add, Nat.add_eq_left, Nat.add_eq_zero_iff, and_false, false_and, if_false, if_true, opsN, opsC, pm_1, lg, ls1, ls2, lq, List.length_cons, List.length_nil, cN, cL, callE, retV, retN, pm_pop, pm_cat, List.map_cons, List.map_nil, List.sum_cons, List.sum_nil, Value.category, Option.toList, List.cons_append, List.nil_append, ↓reduceIte, reduceCtorEq, Nat.reduceAdd, Nat.reduceLT, Nat.reduceLeDiff, Nat.reduceSub, Nat.reduceEqDiff, Nat.zero_le, Nat.sub_zero, Nat.le_refl, true_and, and_true, not_true_eq_false, not_false_eq_true, true_or, or_true, lc_eq, lc_ne, lc_lt, lc_ge, lc_gt, lc_le, nI_add, lN_add, nI_leI, nI_ltI, nI_eq, nI_clamp, pk_lLT, pk_lLE, pk_lEQ, pk_sub, vp_inT, nz_eq, nz_lt, nz_ge, nz_gt, nz_le, lz_eq, lz_lt, lz_ge, hP1, hP2, hP3, hP4, hP5, hP6, hP7, hP8, hP9, hP10, hP11, hP12, hP13, hP14, hP15, hP16, hP17, hP18, hP19, hP20, hM.1.1, e0, hM0.1.1, p2]
  exact hQ
theorem c1023 (d : Nat) {B : Nat} {H H' : Hs} {P : List Hs} (hM : isM h m H (P ++ [H']) B) (hQ : ∀ h', isM h' m H' P B → frP m h h' → hI h' m 0 = nI 0 → Q (.inl (some (.int (nI P.length)))) h') : pm_M PP (d + 2) 1023 [.ref m] h Q := by
  obtain ⟨h0, e0, et, hM0, hz⟩ := thr_exM hM
  have hf0 : frP m h h0 := by rw [← et]; exact frP_thr
  have hb1 := hM.1.1
  clear hM
  obtain ⟨hs, f14, hj, q1, q2, p1, p2, p3, p4⟩ := hM0
  rw [List.length_append] at p1 p2
  have p1 : P.length + 1 ≤ 8 := p1
  have p2 : hI h0 m 15 = nI (P.length + 1) := p2
  have hr := p4 P.length (by rw [List.length_append]; show P.length < P.length + 1; omega)
  rw [getD_laH] at hr
  have hj' := p3 H' (List.mem_append_right _ (List.mem_singleton.mpr rfl))
  have hC1 : qC H'.2.1 ≤ 300 := by have := hj'.1.2.2.1; omega
  have hC2 : qC H'.2.2 ≤ 300 := by have := hj'.2.2.2.1; omega
  have hl : P.length < 8 := by omega
  have e1 : P.length + 1 - 1 = P.length := by omega
  rw [e_1023]
  simp (disch := omega) only [u_1023_0, B_1023_0, u_1023_14, B_1023_14, nI1T, Nat.left_eq_add, Nat.add_eq_left, Nat.add_eq_zero_iff, and_false, false_and, if_false, if_true, opsN, opsC, pm_1, lg, ls1, ls2, lq, List.length_cons, List.length_nil, cN, cL, callE, retV, retN, pm_pop, pm_cat, List.map_cons, List.map_nil, List.sum_cons, List.sum_nil, Value.category, Option.toList, List.cons_append, List.nil_append, ↓reduceIte, reduceCtorEq, Nat.reduceAdd, Nat.reduceLT, Nat.reduceLeDiff, Nat.reduceSub, Nat.reduceEqDiff, Nat.zero_le, Nat.sub_zero, Nat.le_refl, true_and, and_true, not_true_eq_false, not_false_eq_true, true_or, or_true, lc_eq, lc_ne, lc_lt, lc_ge, lc_gt, lc_le, nI_add, lN_add, nI_leI, nI_ltI, nI_eq, nI_clamp, pk_lLT, pk_lLE, pk_lEQ, pk_sub, vp_inT, nz_eq, nz_lt, nz_ge, nz_gt, nz_le, lz_eq, lz_lt, lz_ge, hP1, hP2, hP3, hP4, hP5, hP6, hP7, hP8, hP9, hP10, hP11, hP12, hP13, hP14, hP15, hP16, hP17, hP18, hP19, hP20, hb1, e0, p2, hs.1, m_g9 hs, m_t3 hs, m_n3 hs, m_q0 hs, m_q1 hs, m_q0t hs, m_q1t hs, m_q0n hs, m_q1n hs, m_g10 hs, m_t6 hs, m_n6 hs, m_r6 hs, m_rt6 hs, m_rn6 hs, m_g11 hs, m_t15 hs, m_n15 hs, m_r15 hs, m_rt15 hs, m_rn15 hs, m_g12 hs, m_t24 hs, m_n24 hs, va_upE, e1]
  refine c1021 d (by omega) (m_rt6 hs _ hl) (m_rn6 hs _ hl) (m_q0t hs) (m_q0n hs) ?_
  intro g1 hg1
  simp (disch := omega) only [nI1T, Nat.left_eq_add, Nat.add_eq_left, Nat.add_eq_zero_iff, and_false, false_and, if_false, if_true, opsN, opsC, pm_1, lg, ls1, ls2, lq, List.length_cons, List.length_nil, cN, cL, callE, retV, retN, pm_pop, pm_cat, List.map_cons, List.map_nil, List.sum_cons, List.sum_nil, Value.category, Option.toList, List.cons_append, List.nil_append, ↓reduceIte, reduceCtorEq, Nat.reduceAdd, Nat.reduceLT, Nat.reduceLeDiff, Nat.reduceSub, Nat.reduceEqDiff, Nat.zero_le, Nat.sub_zero, Nat.le_refl, true_and, and_true, not_true_eq_false, not_false_eq_true, true_or, or_true, lc_eq, lc_ne, lc_lt, lc_ge, lc_gt, lc_le, nI_add, lN_add, nI_leI, nI_ltI, nI_eq, nI_clamp, pk_lLT, pk_lLE, pk_lEQ, pk_sub, vp_inT, nz_eq, nz_lt, nz_ge, nz_gt, nz_le, lz_eq, lz_lt, lz_ge, hP1, hP2, hP3, hP4, hP5, hP6, hP7, hP8, hP9, hP10, hP11, hP12, hP13, hP14, hP15, hP16, hP17, hP18, hP19, hP20, hs.1, m_g9 hs, m_t3 hs, m_n3 hs, m_q0 hs, m_q1 hs, m_q0t hs, m_q1t hs, m_q0n hs, m_q1n hs, m_g10 hs, m_t6 hs, m_n6 hs, m_r6 hs, m_rt6 hs, m_rn6 hs, m_g11 hs, m_t15 hs, m_n15 hs, m_r15 hs, m_rt15 hs, m_rn15 hs, m_g12 hs, m_t24 hs, m_n24 hs, p2, va_upE]
  refine c1021 d (by omega) (m_rt15 hs _ hl) (m_rn15 hs _ hl) (m_q1t hs) (m_q1n hs) ?_
  intro g2 hg2
  have hg2' : ∀ j, j < 1503 → g2 j = hL h0 (m + 16 + P.length) j := fun j hj => by
    rw [hg2 j hj, hP7, va_up_ne _ _ (by omega)]; rfl
  have e15 : (15 = 14) = False := by decide
  simp (disch := omega) only [nI1T, Nat.left_eq_add, Nat.add_eq_left, Nat.add_eq_zero_iff, and_false, false_and, if_false, if_true, opsN, opsC, pm_1, lg, ls1, ls2, lq, List.length_cons, List.length_nil, cN, cL, callE, retV, retN, pm_pop, pm_cat, List.map_cons, List.map_nil, List.sum_cons, List.sum_nil, Value.category, Option.toList, List.cons_append, List.nil_append, ↓reduceIte, reduceCtorEq, Nat.reduceAdd, Nat.reduceLT, Nat.reduceLeDiff, Nat.reduceSub, Nat.reduceEqDiff, Nat.zero_le, Nat.sub_zero, Nat.le_refl, true_and, and_true, not_true_eq_false, not_false_eq_true, true_or, or_true, lc_eq, lc_ne, lc_lt, lc_ge, lc_gt, lc_le, nI_add, lN_add, nI_leI, nI_ltI, nI_eq, nI_clamp, pk_lLT, pk_lLE, pk_lEQ, pk_sub, vp_inT, nz_eq, nz_lt, nz_ge, nz_gt, nz_le, lz_eq, lz_lt, lz_ge, hP1, hP2, hP3, hP4, hP5, hP6, hP7, hP8, hP9, hP10, hP11, hP12, hP13, hP14, hP15, hP16, hP17, hP18, hP19, hP20, hs.1, m_g9 hs, m_t3 hs, m_n3 hs, m_q0 hs, m_q1 hs, m_q0t hs, m_q1t hs, m_q0n hs, m_q1n hs, m_g10 hs, m_t6 hs, m_n6 hs, m_r6 hs, m_rt6 hs, m_rn6 hs, m_g11 hs, m_t15 hs, m_n15 hs, m_r15 hs, m_rt15 hs, m_rn15 hs, m_g12 hs, m_t24 hs, m_n24 hs, p2, va_upE, hr.2.2, e15]
  refine hQ _ ⟨mS_sI (mS_sL (mS_sL (mS_sI hs))), ?_, hj', mQ_sI (mQ_sL (by omega) ?_), mQ_sI ?_, by omega, ?_, fun S hS => p3 S (List.mem_append_left _ hS), fun i hi => ?_⟩ (frP_trans hf0 ?_) ?_
  · rw [hP1, va_up_self, va_up_self]
  · exact mQ_eq (h := sL h0 (m + 4) g1) rfl rfl rfl (mQ_cpy hr.1 hC1 (m_q0t hs) (m_q0n hs) hg1)
  · exact mQ_eq (h := sL h0 (m + 5) g2) rfl rfl (by rw [hP7, va_up_self, hP7, va_up_self]) (mQ_cpy hr.2.1 hC2 (m_q1t hs) (m_q1n hs) hg2')
  · rw [hP1, va_up_self, va_up_ne _ _ (by omega), va_up_self]
  · have := p4 i (by rw [List.length_append]; show i < P.length + 1; omega)
    rw [getD_apH hi] at this
    refine mRow_eq (h := h0) rfl rfl ?_ ?_ ?_ this
    · rw [hP2, hP7, va_up_ne _ _ (by omega), hP7, va_up_ne _ _ (by omega)]; rfl
    · rw [hP2, hP7, va_up_ne _ _ (by omega), hP7, va_up_ne _ _ (by omega)]; rfl
    · rw [hP1, va_up_ne _ _ (by omega), hP6, hP6, hP1, va_up_ne _ _ (by omega)]
  · refine ⟨rfl, rfl, rfl, rfl, fun j z1 z2 z3 => ?_, fun k z1 z2 z3 => ?_, fun k q => ?_⟩
    · rw [hP1, va_up_self, va_up_ne _ _ z2, va_up_ne _ _ z3]
    · rw [hP1, va_up_ne _ _ z1, hP6, hP6, hP1, va_up_ne _ _ z1]
    · rw [hP2, hP7, va_up_ne _ _ (by omega), hP7, va_up_ne _ _ (by omega)]; rfl
  · rw [hP1, va_up_self, va_up_ne _ _ (by omega), va_up_ne _ _ (by omega)]; exact hz
end MA
