/-! ===== replay: the reference ===== -/
def fVa (m : Nat) (h h' : pm_H) : Prop := hT h' = hT h ∧ hN h' = hN h ∧ hR h' = hR h ∧ hn h' = hn h ∧ (∀ k, k ≠ m + 811 → k ≠ m + 822 → hL h' k = hL h k) ∧ (∀ k, k ≠ m → k ≠ m + 26 → (k < m + 819 ∨ m + 822 ≤ k) → hI h' k = hI h k) ∧ ∀ j, j ≠ 52 → hI h' m j = hI h m j
theorem fVa_refl (m : Nat) (h : pm_H) : fVa m h h := ⟨rfl, rfl, rfl, rfl, fun _ _ _ => rfl, fun _ _ _ _ => rfl, fun _ _ => rfl⟩
theorem fVa_trans {m : Nat} {h h1 h2 : pm_H} (a : fVa m h h1) (b : fVa m h1 h2) : fVa m h h2 :=
  ⟨b.1.trans a.1, b.2.1.trans a.2.1, b.2.2.1.trans a.2.2.1, b.2.2.2.1.trans a.2.2.2.1, fun k z y => (b.2.2.2.2.1 k z y).trans (a.2.2.2.2.1 k z y), fun k z1 z2 z3 => (b.2.2.2.2.2.1 k z1 z2 z3).trans (a.2.2.2.2.2.1 k z1 z2 z3), fun j z1 => (b.2.2.2.2.2.2 j z1).trans (a.2.2.2.2.2.2 j z1)⟩
theorem fVa_Q {m : Nat} {h h1 : pm_H} (a : frQ (m + 811) (m + 26) h h1) : fVa m h h1 :=
  ⟨a.1, a.2.1, a.2.2.1, a.2.2.2.1, fun k z _ => a.2.2.2.2.2 k z, fun k _ z _ => a.2.2.2.2.1 k z, fun j _ => by rw [a.2.2.2.2.1 m (by omega)]⟩
theorem fVa_f {m : Nat} {h : pm_H} {v : Int32} : fVa m h (sI h m (va_up (hI h m) 52 v)) :=
  ⟨rfl, rfl, rfl, rfl, fun _ _ _ => rfl, fun k z _ _ => by rw [hP1, va_up_ne _ _ z], fun k q => by rw [hP1, va_up_self, va_up_ne _ _ q]⟩
theorem fVa_r {m k : Nat} {h : pm_H} {g : Nat → Int32} (h1 : m + 819 ≤ k) (h2 : k < m + 822) : fVa m h (sI h k g) :=
  ⟨rfl, rfl, rfl, rfl, fun _ _ _ => rfl, fun j _ _ z => by rw [hP1, va_up_ne _ _ (by omega)], fun j _ => by rw [hP1, va_up_ne _ _ (by omega)]⟩
theorem fVa_u {m : Nat} {h : pm_H} {g : Nat → Int32} : fVa m h (sI h (m + 26) g) :=
  ⟨rfl, rfl, rfl, rfl, fun _ _ _ => rfl, fun k _ z _ => by rw [hP1, va_up_ne _ _ z], fun k _ => by rw [hP1, va_up_ne _ _ (by omega)]⟩
theorem fVa_L {m k : Nat} {h : pm_H} {g : Nat → Int64} (hk : k = m + 811 ∨ k = m + 822) : fVa m h (sL h k g) :=
  ⟨rfl, rfl, rfl, rfl, fun _ z y => by rw [hP7, va_up_ne _ _ (by omega)], fun k _ z _ => rfl, fun k _ => rfl⟩
theorem frZ_Va {m : Nat} {h h' : pm_H} (a : fVa m h h') : frZ m h h' :=
  ⟨a.1, a.2.1, a.2.2.1, a.2.2.2.1, fun j z => a.2.2.2.2.2.2 j (by omega), fun k z z2 => a.2.2.2.2.2.1 k z (by omega) (by omega), fun k z => a.2.2.2.2.1 k (by omega) (by omega)⟩
theorem mS_Va {m : Nat} {h h' : pm_H} (a : fVa m h h') (hs : mS h m) : mS h' m := mS_eq a.1 a.2.1 (fun k _ => by rw [a.2.2.1]) hs
def evM (h : pm_H) (m : Nat) (Es : List Ev) (R : List Ed) : Prop := hI h m 27 = nI Es.length ∧ hI h m 28 = nI R.length ∧
  (∀ i, i < Es.length → hI h (m + 691 + i) 0 = nI (Es.getD i ev0).1 ∧ hI h (m + 691 + i) 1 = nI (Es.getD i ev0).2) ∧
  ∀ i, i < R.length → hI h (m + 704 + i) 0 = nI (R.getD i ed0).1 ∧ hI h (m + 704 + i) 1 = nI (R.getD i ed0).2.1 ∧ hI h (m + 704 + i) 2 = nI (R.getD i ed0).2.2
theorem evM_fr {h h' : pm_H} {m : Nat} {Es : List Ev} {R : List Ed} (h1 : Es.length ≤ 12) (h2 : R.length ≤ 16) (f : fVa m h h') (a : evM h m Es R) : evM h' m Es R := by
  refine ⟨(f.2.2.2.2.2.2 27 (by decide)).trans a.1, (f.2.2.2.2.2.2 28 (by decide)).trans a.2.1, fun i hi => ?_, fun i hi => ?_⟩
  · rw [f.2.2.2.2.2.1 (m + 691 + i) (by omega) (by omega) (by omega)]; exact a.2.2.1 i hi
  · rw [f.2.2.2.2.2.1 (m + 704 + i) (by omega) (by omega) (by omega)]; exact a.2.2.2 i hi
def mdV (h : pm_H) (m : Nat) (v : VT) (B : Nat) : Prop := (∃ sn st, isQ h (m + 811) v.1 sn st ∧ qT v.1 sn st ∧ st ≤ B) ∧ (∀ i, i < qC v.1 → hI h (m + 819) i = nI (v.2.1 i)) ∧
  (∀ i, i < v.2.2.1.length → hI h (m + 820) i = nI (v.2.1 (v.2.2.1.getD i 0)) ∧ hL h (m + 822) i = lN (qK v.1 (v.2.2.1.getD i 0))) ∧ (∀ j, j < 8 → hI h (m + 821) j = nI (v.2.2.2 j)) ∧ hI h m 52 = nI v.2.2.1.length
theorem getD_mem {L : List Nat} {i : Nat} (h : i < L.length) : L.getD i 0 ∈ L := by
  rw [List.getD_eq_getElem?_getD, List.getElem?_eq_getElem h]; exact List.getElem_mem h
section PM
variable {m bits : Nat} {Q : pm_Q}
theorem mdV_up {h : pm_H} {v : VT} {B B' : Nat} (hb : B ≤ B') (a : mdV h m v B) : mdV h m v B' := by
  obtain ⟨⟨sn, st, a1, a2, a3⟩, b⟩ := a
  exact ⟨⟨sn, st, a1, a2, by omega⟩, b⟩
theorem c1077 (d : Nat) {h : pm_H} {v : VT} {T H B l k : Nat} (hs : mS h m) (hc : mdV h m v B) (hv : vOK bits T H v) (hl : l < 8) (hk : qL v.1 ≤ k) (hk2 : k < 2 ^ 40) (hB : B < 2 ^ 50) (hQ : ∀ h', mdV h' m (vAdd bits l k v) (B + 1) → fVa m h h' → Q (.inl none) h') : pm_M PP (d + 4) 1077 [.ref m, .int (nI l), .long (lN k), .int (nI bits)] h Q := by
  obtain ⟨⟨sn, st, q1, q2, q3⟩, p3, p4, p5, p6⟩ := id hc
  have a1 := hv.1
  have i3 := a1.2.2.1
  rw [e_1077]
  by_cases c : qC v.1 < 300
  · have eA : vAdd bits l k v = (qAdd bits k v.1, va_up v.2.1 (qC v.1) l, v.2.2.1, v.2.2.2) := by unfold vAdd; rw [if_pos c]
    have c0 : ¬ qC v.1 = 300 := by omega
    simp (disch := omega) only [u_1077_0, B_1077_0, u_1077_14, B_1077_14, nI1T, Nat.left_eq_add, Nat.add_eq_left, Nat.add_eq_zero_iff, and_false, false_and, if_false, if_true, opsN, opsC, pm_1, lg, ls1, ls2, lq, List.length_cons, List.length_nil, cN, cL, callE, retV, retN, pm_pop, pm_cat, List.map_cons, List.map_nil, List.sum_cons, List.sum_nil, Value.category, Option.toList, List.cons_append, List.nil_append, ↓reduceIte, reduceCtorEq, Nat.reduceAdd, Nat.reduceLT, Nat.reduceLeDiff, Nat.reduceSub, Nat.reduceEqDiff, Nat.zero_le, Nat.sub_zero, Nat.le_refl, true_and, and_true, not_true_eq_false, not_false_eq_true, true_or, or_true, lc_eq, lc_ne, lc_lt, lc_ge, lc_gt, lc_le, nI_add, lN_add, nI_leI, nI_ltI, nI_eq, nI_clamp, pk_lLT, pk_lLE, pk_lEQ, pk_sub, vp_inT, nz_eq, nz_lt, nz_ge, nz_gt, nz_le, lz_eq, lz_lt, lz_ge, hP1, hP2, hP3, hP4, hP5, hP6, hP7, hP8, hP9, hP10, hP11, hP12, hP13, hP14, hP15, hP16, hP17, hP18, hP19, hP20, hs.1, m_g34 hs, m_t811 hs, m_n811 hs, m_g48 hs, m_t819 hs, m_n819 hs, q_came _ q1.1 q1.2.1, q1.2.2.2.1, lN_i, c0]
    refine c1012 d (mU_of hs) q1 a1 q2 hk2 hk c (by omega) ?_
    intro h' z1 z2 z3 z4
    have hs' := mS_Va (fVa_Q z4) hs
    have o := fun k (q : k ≠ m + 26) => z4.2.2.2.2.1 k q
    simp (disch := omega) only [nI1T, Nat.left_eq_add, Nat.add_eq_left, Nat.add_eq_zero_iff, and_false, false_and, if_false, if_true, opsN, opsC, pm_1, lg, ls1, ls2, lq, List.length_cons, List.length_nil, cN, cL, callE, retV, retN, pm_pop, pm_cat, List.map_cons, List.map_nil, List.sum_cons, List.sum_nil, Value.category, Option.toList, List.cons_append, List.nil_append, ↓reduceIte, reduceCtorEq, Nat.reduceAdd, Nat.reduceLT, Nat.reduceLeDiff, Nat.reduceSub, Nat.reduceEqDiff, Nat.zero_le, Nat.sub_zero, Nat.le_refl, true_and, and_true, not_true_eq_false, not_false_eq_true, true_or, or_true, lc_eq, lc_ne, lc_lt, lc_ge, lc_gt, lc_le, nI_add, lN_add, nI_leI, nI_ltI, nI_eq, nI_clamp, pk_lLT, pk_lLE, pk_lEQ, pk_sub, vp_inT, nz_eq, nz_lt, nz_ge, nz_gt, nz_le, lz_eq, lz_lt, lz_ge, hP1, hP2, hP3, hP4, hP5, hP6, hP7, hP8, hP9, hP10, hP11, hP12, hP13, hP14, hP15, hP16, hP17, hP18, hP19, hP20, hs'.1, m_g48 hs', m_t819 hs', m_n819 hs', c]
    have f1 : fVa m h (sI h' (m + 819) (va_up (hI h' (m + 819)) (qC v.1) (nI l))) := fVa_trans (fVa_Q z4) (fVa_r (by omega) (by omega))
    refine hQ _ ?_ f1
    rw [eA]
    refine ⟨⟨_, _, isQ_eq (h := h') rfl rfl rfl z1, z2, by omega⟩, fun i hi => ?_, fun i hi => ?_, fun j hj => ?_, ?_⟩
    · have hi : i < qC v.1 + 1 := hi
      rw [hI_at, o _ (by omega)]
      show va_up (hI h (m + 819)) (qC v.1) (nI l) i = nI (va_up v.2.1 (qC v.1) l i)
      rw [va_upE, va_upE]; split
      · rfl
      · exact p3 i (by omega)
    · have hy := hv.2.2.1 _ (getD_mem hi)
      have a := p4 i hi
      refine ⟨?_, ?_⟩
      · rw [hP1, va_up_ne _ _ (by omega), o _ (by omega)]
        show _ = nI (va_up v.2.1 (qC v.1) l (v.2.2.1.getD i 0))
        rw [va_up_ne _ _ (by omega)]; exact a.1
      · rw [hP2, z4.2.2.2.2.2 _ (by omega)]
        show _ = lN (va_up (qK v.1) (qC v.1) k (v.2.2.1.getD i 0))
        rw [va_up_ne _ _ (by omega)]; exact a.2
    · rw [hP1, va_up_ne _ _ (by omega), o _ (by omega)]; exact p5 j hj
    · rw [hP1, va_up_ne _ _ (by omega), o _ (by omega)]; exact p6
  · have eA : vAdd bits l k v = v := by unfold vAdd; rw [if_neg c]
    have c0 : qC v.1 = 300 := by omega
    simp (disch := omega) only [u_1077_0, B_1077_0, nI1T, Nat.left_eq_add, Nat.add_eq_left, Nat.add_eq_zero_iff, and_false, false_and, if_false, if_true, opsN, opsC, pm_1, lg, ls1, ls2, lq, List.length_cons, List.length_nil, cN, cL, callE, retV, retN, pm_pop, pm_cat, List.map_cons, List.map_nil, List.sum_cons, List.sum_nil, Value.category, Option.toList, List.cons_append, List.nil_append, ↓reduceIte, reduceCtorEq, Nat.reduceAdd, Nat.reduceLT, Nat.reduceLeDiff, Nat.reduceSub, Nat.reduceEqDiff, Nat.zero_le, Nat.sub_zero, Nat.le_refl, true_and, and_true, not_true_eq_false, not_false_eq_true, true_or, or_true, lc_eq, lc_ne, lc_lt, lc_ge, lc_gt, lc_le, nI_add, lN_add, nI_leI, nI_ltI, nI_eq, nI_clamp, pk_lLT, pk_lLE, pk_lEQ, pk_sub, vp_inT, nz_eq, nz_lt, nz_ge, nz_gt, nz_le, lz_eq, lz_lt, lz_ge, hP1, hP2, hP3, hP4, hP5, hP6, hP7, hP8, hP9, hP10, hP11, hP12, hP13, hP14, hP15, hP16, hP17, hP18, hP19, hP20, hs.1, m_g34 hs, m_t811 hs, m_n811 hs, q_came _ q1.1 q1.2.1, q1.2.2.2.1, lN_i, c0]
    exact hQ h (by rw [eA]; exact mdV_up (by omega) hc) (fVa_refl _ _)
theorem l1078r (d : Nat) {lt T H : Nat} {Es : List Ev} {R : List Ed} {t : Int64} (hlt : lt < 8) (hR0 : ∀ e, e ∈ R → rlB e) (h1 : Es.length ≤ 12) (h6 : R.length ≤ 16) (hH : H < 2 ^ 40) : ∀ (suf pre : List Ed) (B : Nat) (v : VT) (h : pm_H), R = pre ++ suf → mS h m → evM h m Es R → mdV h m v B → B + suf.length < 2 ^ 50 → vFo bits T H v →
      (∀ h', mdV h' m (vRs bits lt suf v) (B + suf.length) → fVa m h h' → pm_W PP (d + 4) 1078 Q 0 0 75 [some (.ref m), some (.int (nI bits)), some (.long t), none, some (.int (nI lt)), some (.int (nI R.length))] [] h') →
      pm_W PP (d + 4) 1078 Q 0 0 173 [some (.ref m), some (.int (nI bits)), some (.long t), none, some (.int (nI lt)), some (.int (nI pre.length))] [] h := by
  intro suf
  induction suf with
  | nil =>
    intro pre B v h hL hs hr hc hB hv hQ
    have e : pre.length = R.length := by rw [hL, List.append_nil]
    have c1 : R.length ≤ R.length := Nat.le_refl _
    have hl := hr.2.1
    rw [e, u_1078_173]
    simp (disch := omega) only [B_1078_173, u_1078_233, B_1078_233, nI1T, Nat.left_eq_add, Nat.add_eq_left, Nat.add_eq_zero_iff, and_false, false_and, if_false, if_true, opsN, opsC, pm_1, lg, ls1, ls2, lq, List.length_cons, List.length_nil, cN, cL, callE, retV, retN, pm_pop, pm_cat, List.map_cons, List.map_nil, List.sum_cons, List.sum_nil, Value.category, Option.toList, List.cons_append, List.nil_append, ↓reduceIte, reduceCtorEq, Nat.reduceAdd, Nat.reduceLT, Nat.reduceLeDiff, Nat.reduceSub, Nat.reduceEqDiff, Nat.zero_le, Nat.sub_zero, Nat.le_refl, true_and, and_true, not_true_eq_false, not_false_eq_true, true_or, or_true, lc_eq, lc_ne, lc_lt, lc_ge, lc_gt, lc_le, nI_add, lN_add, nI_leI, nI_ltI, nI_eq, nI_clamp, pk_lLT, pk_lLE, pk_lEQ, pk_sub, vp_inT, nz_eq, nz_lt, nz_ge, nz_gt, nz_le, lz_eq, lz_lt, lz_ge, hP1, hP2, hP3, hP4, hP5, hP6, hP7, hP8, hP9, hP10, hP11, hP12, hP13, hP14, hP15, hP16, hP17, hP18, hP19, hP20, hs.1, hl, c1]
    exact hQ h hc (fVa_refl _ _)
  | cons s r ih =>
    intro pre B v h hL hs hr hc hB hv hQ
    have el : R.length = pre.length + (r.length + 1) := by rw [hL, List.length_append, List.length_cons]
    have c1 : ¬ R.length ≤ pre.length := by omega
    have hgd : R.getD pre.length ed0 = s := by
      rw [hL, List.getD_eq_getElem?_getD, List.getElem?_append_right (Nat.le_refl _), Nat.sub_self]; rfl
    have hg := hr.2.2.2 pre.length (by omega)
    have hl := hr.2.1
    rw [hgd] at hg
    have hsB := hR0 s (by rw [hL]; exact List.mem_append_right _ (List.mem_cons_self ..))
    have hL' : R = (pre ++ [s]) ++ r := by rw [hL, List.append_assoc]; rfl
    have el2 : (pre ++ [s]).length = pre.length + 1 := by rw [List.length_append]; rfl
    have hB' : B + (r.length + 1) < 2 ^ 50 := hB
    obtain ⟨⟨sn, st, q1, _, _⟩, _⟩ := id hc
    obtain ⟨g1, g2, g3⟩ := hg
    obtain ⟨sb1, sb2, sb3⟩ := id hsB
    have g0 := q1.2.2.1
    have efar : (nI s.2.1).toInt64 = lN s.2.1 := nI_l (by omega)
    have p16 : pre.length < 16 := by omega
    have fin : ∀ (h1 : pm_H), mdV h1 m (vRul bits lt s v) (B + 1) → fVa m h h1 → pm_W PP (d + 4) 1078 Q 0 0 173 [some (.ref m), some (.int (nI bits)), some (.long t), none, some (.int (nI lt)), some (.int (nI (pre.length + 1)))] [] h1 := fun h9 k1 k2 => by
      have := ih (pre ++ [s]) (B + 1) (vRul bits lt s v) h9 hL' (mS_Va k2 hs) (evM_fr h1 h6 k2 hr) k1 (by omega) (vFo_r hv hsB hH) (fun h2 j1 j2 => hQ h2 (by rw [List.length_cons, show B + (r.length + 1) = B + 1 + r.length by omega]; exact j1) (fVa_trans k2 j2))
      rw [el2] at this
      exact this
    rw [u_1078_173]
    by_cases ca : s.1 = lt
    · have eE : vRul bits lt s v = vAdd bits s.2.2 (qL v.1 + s.2.1) v := by unfold vRul; rw [if_pos ca]
      rw [ca] at g1
      have hfo := hv.2
      simp (disch := omega) only [B_1078_173, nI1T, Nat.left_eq_add, Nat.add_eq_left, Nat.add_eq_zero_iff, and_false, false_and, if_false, if_true, opsN, opsC, pm_1, lg, ls1, ls2, lq, List.length_cons, List.length_nil, cN, cL, callE, retV, retN, pm_pop, pm_cat, List.map_cons, List.map_nil, List.sum_cons, List.sum_nil, Value.category, Option.toList, List.cons_append, List.nil_append, ↓reduceIte, reduceCtorEq, Nat.reduceAdd, Nat.reduceLT, Nat.reduceLeDiff, Nat.reduceSub, Nat.reduceEqDiff, Nat.zero_le, Nat.sub_zero, Nat.le_refl, true_and, and_true, not_true_eq_false, not_false_eq_true, true_or, or_true, lc_eq, lc_ne, lc_lt, lc_ge, lc_gt, lc_le, nI_add, lN_add, nI_leI, nI_ltI, nI_eq, nI_clamp, pk_lLT, pk_lLE, pk_lEQ, pk_sub, vp_inT, nz_eq, nz_lt, nz_ge, nz_gt, nz_le, lz_eq, lz_lt, lz_ge, hP1, hP2, hP3, hP4, hP5, hP6, hP7, hP8, hP9, hP10, hP11, hP12, hP13, hP14, hP15, hP16, hP17, hP18, hP19, hP20, hs.1, m_g21 hs, m_t703 hs, m_n703 hs, m_r703 hs, m_rt703 hs, m_rn703 hs, m_g34 hs, m_t811 hs, m_n811 hs, hl, c1, g1, g2, g3, p16, g0, efar]
      refine c1077 d hs hc hv.1 sb3 (by omega) (by omega) (by omega) ?_
      intro h' k1 k2
      simp (disch := omega) only [u_1078_227, B_1078_227, nI1T, Nat.left_eq_add, Nat.add_eq_left, Nat.add_eq_zero_iff, and_false, false_and, if_false, if_true, opsN, opsC, pm_1, lg, ls1, ls2, lq, List.length_cons, List.length_nil, cN, cL, callE, retV, retN, pm_pop, pm_cat, List.map_cons, List.map_nil, List.sum_cons, List.sum_nil, Value.category, Option.toList, List.cons_append, List.nil_append, ↓reduceIte, reduceCtorEq, Nat.reduceAdd, Nat.reduceLT, Nat.reduceLeDiff, Nat.reduceSub, Nat.reduceEqDiff, Nat.zero_le, Nat.sub_zero, Nat.le_refl, true_and, and_true, not_true_eq_false, not_false_eq_true, true_or, or_true, lc_eq, lc_ne, lc_lt, lc_ge, lc_gt, lc_le, nI_add, lN_add, nI_leI, nI_ltI, nI_eq, nI_clamp, pk_lLT, pk_lLE, pk_lEQ, pk_sub, vp_inT, nz_eq, nz_lt, nz_ge, nz_gt, nz_le, lz_eq, lz_lt, lz_ge, hP1, hP2, hP3, hP4, hP5, hP6, hP7, hP8, hP9, hP10, hP11, hP12, hP13, hP14, hP15, hP16, hP17, hP18, hP19, hP20]
      exact fin h' (by rw [eE]; exact k1) k2
    · have eE : vRul bits lt s v = v := by unfold vRul; rw [if_neg ca]
      simp (disch := omega) only [B_1078_173, u_1078_227, B_1078_227, nI1T, Nat.left_eq_add, Nat.add_eq_left, Nat.add_eq_zero_iff, and_false, false_and, if_false, if_true, opsN, opsC, pm_1, lg, ls1, ls2, lq, List.length_cons, List.length_nil, cN, cL, callE, retV, retN, pm_pop, pm_cat, List.map_cons, List.map_nil, List.sum_cons, List.sum_nil, Value.category, Option.toList, List.cons_append, List.nil_append, ↓reduceIte, reduceCtorEq, Nat.reduceAdd, Nat.reduceLT, Nat.reduceLeDiff, Nat.reduceSub, Nat.reduceEqDiff, Nat.zero_le, Nat.sub_zero, Nat.le_refl, true_and, and_true, not_true_eq_false, not_false_eq_true, true_or, or_true, lc_eq, lc_ne, lc_lt, lc_ge, lc_gt, lc_le, nI_add, lN_add, nI_leI, nI_ltI, nI_eq, nI_clamp, pk_lLT, pk_lLE, pk_lEQ, pk_sub, vp_inT, nz_eq, nz_lt, nz_ge, nz_gt, nz_le, lz_eq, lz_lt, lz_ge, hP1, hP2, hP3, hP4, hP5, hP6, hP7, hP8, hP9, hP10, hP11, hP12, hP13, hP14, hP15, hP16, hP17, hP18, hP19, hP20, hs.1, m_g21 hs, m_t703 hs, m_n703 hs, m_r703 hs, m_rt703 hs, m_rn703 hs, hl, c1, g1, g2, g3, p16, ca]
      exact fin h (by rw [eE]; exact mdV_up (by omega) hc) (fVa_refl _ _)
theorem l1078e (d : Nat) {Es : List Ev} {R : List Ed} {t : Int64} (hEs : ∀ e, e ∈ Es → evB e) (h1 : Es.length ≤ 12) (h6 : R.length ≤ 16) : ∀ (suf pre : List Ev) (B : Nat) (v : VT) (h : pm_H), Es = pre ++ suf → mS h m → evM h m Es R → mdV h m v B → B + suf.length < 2 ^ 50 → vOK bits 0 1000000000 v → qL v.1 = 0 →
      (∀ h', mdV h' m (vEvs bits suf v) (B + suf.length) → fVa m h h' → pm_W PP (d + 4) 1078 Q 0 0 75 [some (.ref m), some (.int (nI bits)), some (.long t), none, some (.int (nI Es.length)), none] [] h') →
      pm_W PP (d + 4) 1078 Q 0 0 36 [some (.ref m), some (.int (nI bits)), some (.long t), none, some (.int (nI pre.length)), none] [] h := by
  intro suf
  induction suf with
  | nil =>
    intro pre B v h hL hs hr hc hB hv h0 hQ
    have e : pre.length = Es.length := by rw [hL, List.append_nil]
    have c1 : Es.length ≤ Es.length := Nat.le_refl _
    have hl := hr.1
    rw [e, u_1078_36]
    simp (disch := omega) only [B_1078_36, nI1T, Nat.left_eq_add, Nat.add_eq_left, Nat.add_eq_zero_iff, and_false, false_and, if_false, if_true, opsN, opsC, pm_1, lg, ls1, ls2, lq, List.length_cons, List.length_nil, cN, cL, callE, retV, retN, pm_pop, pm_cat, List.map_cons, List.map_nil, List.sum_cons, List.sum_nil, Value.category, Option.toList, List.cons_append, List.nil_append, ↓reduceIte, reduceCtorEq, Nat.reduceAdd, Nat.reduceLT, Nat.reduceLeDiff, Nat.reduceSub, Nat.reduceEqDiff, Nat.zero_le, Nat.sub_zero, Nat.le_refl, true_and, and_true, not_true_eq_false, not_false_eq_true, true_or, or_true, lc_eq, lc_ne, lc_lt, lc_ge, lc_gt, lc_le, nI_add, lN_add, nI_leI, nI_ltI, nI_eq, nI_clamp, pk_lLT, pk_lLE, pk_lEQ, pk_sub, vp_inT, nz_eq, nz_lt, nz_ge, nz_gt, nz_le, lz_eq, lz_lt, lz_ge, hP1, hP2, hP3, hP4, hP5, hP6, hP7, hP8, hP9, hP10, hP11, hP12, hP13, hP14, hP15, hP16, hP17, hP18, hP19, hP20, hs.1, hl, c1]
    exact hQ h hc (fVa_refl _ _)
  | cons s r ih =>
    intro pre B v h hL hs hr hc hB hv h0 hQ
    have el : Es.length = pre.length + (r.length + 1) := by rw [hL, List.length_append, List.length_cons]
    have c1 : ¬ Es.length ≤ pre.length := by omega
    have hgd : Es.getD pre.length ev0 = s := by
      rw [hL, List.getD_eq_getElem?_getD, List.getElem?_append_right (Nat.le_refl _), Nat.sub_self]; rfl
    have hg := hr.2.2.1 pre.length (by omega)
    have hl := hr.1
    rw [hgd] at hg
    have hsB := hEs s (by rw [hL]; exact List.mem_append_right _ (List.mem_cons_self ..))
    have hL' : Es = (pre ++ [s]) ++ r := by rw [hL, List.append_assoc]; rfl
    have el2 : (pre ++ [s]).length = pre.length + 1 := by rw [List.length_append]; rfl
    have hB' : B + (r.length + 1) < 2 ^ 50 := hB
    obtain ⟨g1, g2⟩ := hg
    obtain ⟨sb1, sb2⟩ := id hsB
    have efar : (nI s.2).toInt64 = lN s.2 := nI_l (by omega)
    have p12 : pre.length < 12 := by omega
    rw [u_1078_36]
    simp (disch := omega) only [B_1078_36, nI1T, Nat.left_eq_add, Nat.add_eq_left, Nat.add_eq_zero_iff, and_false, false_and, if_false, if_true, opsN, opsC, pm_1, lg, ls1, ls2, lq, List.length_cons, List.length_nil, cN, cL, callE, retV, retN, pm_pop, pm_cat, List.map_cons, List.map_nil, List.sum_cons, List.sum_nil, Value.category, Option.toList, List.cons_append, List.nil_append, ↓reduceIte, reduceCtorEq, Nat.reduceAdd, Nat.reduceLT, Nat.reduceLeDiff, Nat.reduceSub, Nat.reduceEqDiff, Nat.zero_le, Nat.sub_zero, Nat.le_refl, true_and, and_true, not_true_eq_false, not_false_eq_true, true_or, or_true, lc_eq, lc_ne, lc_lt, lc_ge, lc_gt, lc_le, nI_add, lN_add, nI_leI, nI_ltI, nI_eq, nI_clamp, pk_lLT, pk_lLE, pk_lEQ, pk_sub, vp_inT, nz_eq, nz_lt, nz_ge, nz_gt, nz_le, lz_eq, lz_lt, lz_ge, hP1, hP2, hP3, hP4, hP5, hP6, hP7, hP8, hP9, hP10, hP11, hP12, hP13, hP14, hP15, hP16, hP17, hP18, hP19, hP20, hs.1, m_g20 hs, m_t690 hs, m_n690 hs, m_r690 hs, m_rt690 hs, m_rn690 hs, hl, c1, g1, g2, p12, efar]
    refine c1077 d hs hc hv sb1 (by omega) (by omega) (by omega) ?_
    intro h' k1 k2
    simp (disch := omega) only [nI1T, Nat.left_eq_add, Nat.add_eq_left, Nat.add_eq_zero_iff, and_false, false_and, if_false, if_true, opsN, opsC, pm_1, lg, ls1, ls2, lq, List.length_cons, List.length_nil, cN, cL, callE, retV, retN, pm_pop, pm_cat, List.map_cons, List.map_nil, List.sum_cons, List.sum_nil, Value.category, Option.toList, List.cons_append, List.nil_append, ↓reduceIte, reduceCtorEq, Nat.reduceAdd, Nat.reduceLT, Nat.reduceLeDiff, Nat.reduceSub, Nat.reduceEqDiff, Nat.zero_le, Nat.sub_zero, Nat.le_refl, true_and, and_true, not_true_eq_false, not_false_eq_true, true_or, or_true, lc_eq, lc_ne, lc_lt, lc_ge, lc_gt, lc_le, nI_add, lN_add, nI_leI, nI_ltI, nI_eq, nI_clamp, pk_lLT, pk_lLE, pk_lEQ, pk_sub, vp_inT, nz_eq, nz_lt, nz_ge, nz_gt, nz_le, lz_eq, lz_lt, lz_ge, hP1, hP2, hP3, hP4, hP5, hP6, hP7, hP8, hP9, hP10, hP11, hP12, hP13, hP14, hP15, hP16, hP17, hP18, hP19, hP20]
    have := ih (pre ++ [s]) (B + 1) (vAdd bits s.1 s.2 v) h' hL' (mS_Va k2 hs) (evM_fr h1 h6 k2 hr) k1 (by omega) (vOK_add hv sb1 (by omega) sb2 (by decide)) (vAdd_f.1.trans h0) (fun h2 j1 j2 => hQ h2 (by rw [List.length_cons, show B + (r.length + 1) = B + 1 + r.length by omega]; exact j1) (fVa_trans k2 j2))
    rw [el2] at this
    exact this
end PM
