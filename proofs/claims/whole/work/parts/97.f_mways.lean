/-! ===== ways: the reference ===== -/
def fWa (m : Nat) (h h' : pm_H) : Prop := hT h' = hT h ∧ hN h' = hN h ∧ hR h' = hR h ∧ hn h' = hn h ∧ (∀ k, k ≠ m + 811 → k ≠ m + 818 → hL h' k = hL h k) ∧ (∀ k, k ≠ m → k ≠ m + 26 → (k < m + 813 ∨ m + 818 ≤ k) → hI h' k = hI h k) ∧ ∀ j, j ≠ 45 → j ≠ 46 → j ≠ 47 → hI h' m j = hI h m j
theorem fWa_refl (m : Nat) (h : pm_H) : fWa m h h := ⟨rfl, rfl, rfl, rfl, fun _ _ _ => rfl, fun _ _ _ _ => rfl, fun _ _ _ _ => rfl⟩
theorem fWa_trans {m : Nat} {h h1 h2 : pm_H} (a : fWa m h h1) (b : fWa m h1 h2) : fWa m h h2 :=
  ⟨b.1.trans a.1, b.2.1.trans a.2.1, b.2.2.1.trans a.2.2.1, b.2.2.2.1.trans a.2.2.2.1, fun k z y => (b.2.2.2.2.1 k z y).trans (a.2.2.2.2.1 k z y), fun k z1 z2 z3 => (b.2.2.2.2.2.1 k z1 z2 z3).trans (a.2.2.2.2.2.1 k z1 z2 z3), fun j z1 z2 z3 => (b.2.2.2.2.2.2 j z1 z2 z3).trans (a.2.2.2.2.2.2 j z1 z2 z3)⟩
theorem fWa_Q {m : Nat} {h h1 : pm_H} (a : frQ (m + 811) (m + 26) h h1) : fWa m h h1 :=
  ⟨a.1, a.2.1, a.2.2.1, a.2.2.2.1, fun k z _ => a.2.2.2.2.2 k z, fun k _ z _ => a.2.2.2.2.1 k z, fun j _ _ _ => by rw [a.2.2.2.2.1 m (by omega)]⟩
theorem fWa_f {m j : Nat} {h : pm_H} {v : Int32} (hj : j = 45 ∨ j = 46 ∨ j = 47) : fWa m h (sI h m (va_up (hI h m) j v)) :=
  ⟨rfl, rfl, rfl, rfl, fun _ _ _ => rfl, fun k z _ _ => by rw [hP1, va_up_ne _ _ z], fun k _ _ _ => by rw [hP1, va_up_self, va_up_ne _ _ (by omega)]⟩
theorem fWa_r {m k : Nat} {h : pm_H} {g : Nat → Int32} (h1 : m + 813 ≤ k) (h2 : k < m + 818) : fWa m h (sI h k g) :=
  ⟨rfl, rfl, rfl, rfl, fun _ _ _ => rfl, fun j _ _ z => by rw [hP1, va_up_ne _ _ (by omega)], fun j _ _ _ => by rw [hP1, va_up_ne _ _ (by omega)]⟩
theorem fWa_u {m : Nat} {h : pm_H} {g : Nat → Int32} : fWa m h (sI h (m + 26) g) :=
  ⟨rfl, rfl, rfl, rfl, fun _ _ _ => rfl, fun k _ z _ => by rw [hP1, va_up_ne _ _ z], fun k _ _ _ => by rw [hP1, va_up_ne _ _ (by omega)]⟩
theorem fWa_L {m k : Nat} {h : pm_H} {g : Nat → Int64} (hk : k = m + 811 ∨ k = m + 818) : fWa m h (sL h k g) :=
  ⟨rfl, rfl, rfl, rfl, fun _ z y => by rw [hP7, va_up_ne _ _ (by omega)], fun k _ z _ => rfl, fun k _ _ _ => rfl⟩
theorem frZ_Wa {m : Nat} {h h' : pm_H} (a : fWa m h h') : frZ m h h' :=
  ⟨a.1, a.2.1, a.2.2.1, a.2.2.2.1, fun j z => a.2.2.2.2.2.2 j (by omega) (by omega) (by omega), fun k z z2 => a.2.2.2.2.2.1 k z (by omega) (by omega), fun k z => a.2.2.2.2.1 k (by omega) (by omega)⟩
theorem mS_Wa {m : Nat} {h h' : pm_H} (a : fWa m h h') (hs : mS h m) : mS h' m := mS_eq a.1 a.2.1 (fun k _ => by rw [a.2.2.1]) hs
def sumL (L : Nat → Nat) : Nat → Nat
  | 0 => 0
  | n + 1 => sumL L n + L n
theorem sumL_up {L : Nat → Nat} {t : Nat} : ∀ n, sumL (va_up L t (L t + 1)) n = sumL L n + (if t < n then 1 else 0)
  | 0 => by rw [if_neg (Nat.not_lt_zero _)]; rfl
  | n + 1 => by
    show sumL (va_up L t (L t + 1)) n + va_up L t (L t + 1) n = sumL L n + L n + _
    rw [sumL_up n, va_upE]
    by_cases c : n = t
    · subst c; rw [if_neg (Nat.lt_irrefl _), if_pos rfl, if_pos (Nat.lt_succ_self _)]; omega
    · rw [if_neg c]
      by_cases z : t < n
      · rw [if_pos z, if_pos (by omega)]; omega
      · rw [if_neg z, if_neg (by omega)]; omega
/-- how far, as the reference holds it -/
def farV (w : WT) (n : Nat) : Int64 := match wR w n, wI w n with
  | some _, some i => lN (qK (wQ w) i)
  | _, _ => -lN 1
theorem farV_0 {w : WT} {n : Nat} (h : wR w n = none) : farV w n = -lN 1 := by unfold farV; rw [h]
theorem farV_1 {w : WT} {n r i : Nat} (h : wR w n = some r) (hi : wI w n = some i) : farV w n = lN (qK (wQ w) i) := by unfold farV; rw [h, hi]
def mdW (h : pm_H) (m : Nat) (w : WT) (B : Nat) : Prop := (∃ sn st, isQ h (m + 811) (wQ w) sn st ∧ qT (wQ w) sn st ∧ st ≤ B) ∧
  (∀ n, n < 16 → hI h (m + 813) n = iv (wI w n) ∧ hI h (m + 815) n = iv (wB w n) ∧ hI h (m + 816) n = iv (wR w n) ∧ hI h (m + 817) n = nI (wL w n)) ∧ (∀ n, n < 16 → hL h (m + 818) n = farV w n) ∧
  (∀ i, i < qC (wQ w) → hI h (m + 814) i = nI (wO w i)) ∧ hI h m 45 = nI (wN w) ∧ hI h m 46 = nI (sumL (wL w) 16)
section MW
variable {h : pm_H} {m bits : Nat} {w : WT} {Q : pm_Q}
theorem mdW_up {B B' : Nat} (hb : B ≤ B') (a : mdW h m w B) : mdW h m w B' := by
  obtain ⟨⟨sn, st, a1, a2, a3⟩, b⟩ := a
  exact ⟨⟨sn, st, a1, a2, by omega⟩, b⟩
/-- the queue alone changed -/
theorem mdW_q {B B' : Nat} {A' : Qs} {h' : pm_H} (hc : mdW h m w B) (f : frQ (m + 811) (m + 26) h h') (hB : ∃ sn st, isQ h' (m + 811) A' sn st ∧ qT A' sn st ∧ st ≤ B') (hle : qC A' ≤ qC (wQ w)) (hK : ∀ n r i, n < 16 → wR w n = some r → wI w n = some i → qK A' i = qK (wQ w) i) : mdW h' m (A', wI w, wO w, wB w, wR w, wL w, wN w, wM w) B' := by
  obtain ⟨_, a2, a3, a4, a5, a6⟩ := hc
  have o := fun k (q : k ≠ m + 26) => f.2.2.2.2.1 k q
  refine ⟨hB, fun n hn => ?_, fun n hn => ?_, fun i hi => ?_, ?_, ?_⟩
  · rw [o _ (by omega), o _ (by omega), o _ (by omega), o _ (by omega)]; exact a2 n hn
  · rw [f.2.2.2.2.2 _ (by omega), a3 n hn]
    cases hr : wR w n with
    | none => rw [farV_0 hr, farV_0 (w := (A', wI w, wO w, wB w, wR w, wL w, wN w, wM w)) hr]
    | some r =>
      cases hi : wI w n with
      | none => unfold farV; rw [hr, hi]; show _ = (match wR w n, wI w n with | some _, some i => lN (qK A' i) | _, _ => -lN 1); rw [hr, hi]
      | some i => rw [farV_1 hr hi, farV_1 (w := (A', wI w, wO w, wB w, wR w, wL w, wN w, wM w)) hr hi]; show _ = lN (qK A' i); rw [hK n r i hn hr hi]
  · rw [o _ (by omega)]; exact a4 i (Nat.lt_of_lt_of_le hi hle)
  · rw [o _ (by omega)]; exact a5
  · rw [o _ (by omega)]; exact a6
end MW
section MW2
variable {h : pm_H} {m bits : Nat} {w : WT} {Q : pm_Q}
/-- offers -/
theorem c1071 (d : Nat) {T B nd to far : Nat} (hs : mS h m) (hc : mdW h m w B) (hw : wOK bits T w) (hN6 : wN w ≤ 16) (hnd : nd < 16) (hto : to < 16) (hu : wR w to = none) (hk : qL (wQ w) ≤ far) (hk2 : far ≤ wN w * 1000000000) (hB : B < 2 ^ 50)
    (hQ : ∀ h', mdW h' m (wTry bits nd to far w) (B + 1) → fWa m h h' → hI h' m 47 = hI h m 47 → Q (.inl none) h') : pm_M PP (d + 5) 1071 [.ref m, .int (nI to), .int (nI nd), .long (lN far), .int (nI bits)] h Q := by
  obtain ⟨⟨sn, st, q1, q2, q3⟩, p3, p6, p4, p5, p7⟩ := id hc
  have a1 := hw.1
  have i3 := a1.2.2.1
  have gi := (p3 to hto).1
  rw [e_1071]
  cases h0 : wI w to with
  | none =>
    rw [h0] at gi
    have gi : hI h (m + 813) to = -nI 1 := gi
    have hr := wOK_room hw hto h0
    rw [wTry_none h0] at hQ
    simp (disch := omega) only [u_1071_0, B_1071_0, nI1T, Nat.left_eq_add, Nat.add_eq_left, Nat.add_eq_zero_iff, and_false, false_and, if_false, if_true, opsN, opsC, pm_1, lg, ls1, ls2, lq, List.length_cons, List.length_nil, cN, cL, callE, retV, retN, pm_pop, pm_cat, List.map_cons, List.map_nil, List.sum_cons, List.sum_nil, Value.category, Option.toList, List.cons_append, List.nil_append, ↓reduceIte, reduceCtorEq, Nat.reduceAdd, Nat.reduceLT, Nat.reduceLeDiff, Nat.reduceSub, Nat.reduceEqDiff, Nat.zero_le, Nat.sub_zero, Nat.le_refl, true_and, and_true, not_true_eq_false, not_false_eq_true, true_or, or_true, lc_eq, lc_ne, lc_lt, lc_ge, lc_gt, lc_le, nI_add, lN_add, nI_leI, nI_ltI, nI_eq, nI_clamp, pk_lLT, pk_lLE, pk_lEQ, pk_sub, vp_inT, nz_eq, nz_lt, nz_ge, nz_gt, nz_le, lz_eq, lz_lt, lz_ge, hP1, hP2, hP3, hP4, hP5, hP6, hP7, hP8, hP9, hP10, hP11, hP12, hP13, hP14, hP15, hP16, hP17, hP18, hP19, hP20, hs.1, m_g39 hs, m_t813 hs, m_n813 hs, m_g34 hs, m_t811 hs, m_n811 hs, gi, hto]
    refine c1012 (d + 1) (mU_of hs) q1 a1 q2 (by omega) hk hr (by omega) ?_
    intro h' z1 z2 z3 z4
    have hs' := mS_Wa (fWa_Q z4) hs
    have o := fun k (q : k ≠ m + 26) => z4.2.2.2.2.1 k q
    simp (disch := omega) only [u_1071_112, B_1071_112, nI1T, Nat.left_eq_add, Nat.add_eq_left, Nat.add_eq_zero_iff, and_false, false_and, if_false, if_true, opsN, opsC, pm_1, lg, ls1, ls2, lq, List.length_cons, List.length_nil, cN, cL, callE, retV, retN, pm_pop, pm_cat, List.map_cons, List.map_nil, List.sum_cons, List.sum_nil, Value.category, Option.toList, List.cons_append, List.nil_append, ↓reduceIte, reduceCtorEq, Nat.reduceAdd, Nat.reduceLT, Nat.reduceLeDiff, Nat.reduceSub, Nat.reduceEqDiff, Nat.zero_le, Nat.sub_zero, Nat.le_refl, true_and, and_true, not_true_eq_false, not_false_eq_true, true_or, or_true, lc_eq, lc_ne, lc_lt, lc_ge, lc_gt, lc_le, nI_add, lN_add, nI_leI, nI_ltI, nI_eq, nI_clamp, pk_lLT, pk_lLE, pk_lEQ, pk_sub, vp_inT, nz_eq, nz_lt, nz_ge, nz_gt, nz_le, lz_eq, lz_lt, lz_ge, hP1, hP2, hP3, hP4, hP5, hP6, hP7, hP8, hP9, hP10, hP11, hP12, hP13, hP14, hP15, hP16, hP17, hP18, hP19, hP20, hs'.1, m_g39 hs', m_t813 hs', m_n813 hs', m_g40 hs', m_t814 hs', m_n814 hs', m_g41 hs', m_t815 hs', m_n815 hs', hto, hr, va_upE]
    have f1 : fWa m h (sI (sI (sI h' (m + 813) (va_up (hI h' (m + 813)) to (nI (qC (wQ w))))) (m + 814) (va_up (hI h' (m + 814)) (qC (wQ w)) (nI to))) (m + 815) (va_up (hI h' (m + 815)) to (nI nd))) := fWa_trans (fWa_Q z4) (fWa_trans (fWa_r (by omega) (by omega)) (fWa_trans (fWa_r (by omega) (by omega)) (fWa_r (by omega) (by omega))))
    refine hQ _ ⟨⟨_, _, isQ_eq (h := h') rfl rfl rfl z1, z2, by omega⟩, fun n hn => ?_, fun n hn => ?_, fun i hi => ?_, ?_, ?_⟩ f1 ?_
    · have a := p3 n hn
      refine ⟨?_, ?_, ?_, ?_⟩
      · rw [hP1, va_up_ne _ _ (by omega), hP1, va_up_ne _ _ (by omega), hI_at, o _ (by omega)]
        show va_up (hI h (m + 813)) to (nI (qC (wQ w))) n = iv (va_up (wI w) to (some (qC (wQ w))) n)
        rw [va_upE, va_upE]; split
        · rfl
        · exact a.1
      · rw [hI_at, o _ (by omega)]
        show va_up (hI h (m + 815)) to (nI nd) n = iv (va_up (wB w) to (some nd) n)
        rw [va_upE, va_upE]; split
        · rfl
        · exact a.2.1
      · rw [hP1, va_up_ne _ _ (by omega), hP1, va_up_ne _ _ (by omega), hP1, va_up_ne _ _ (by omega), o _ (by omega)]; exact a.2.2.1
      · rw [hP1, va_up_ne _ _ (by omega), hP1, va_up_ne _ _ (by omega), hP1, va_up_ne _ _ (by omega), o _ (by omega)]; exact a.2.2.2
    · show hL h' (m + 818) n = _
      rw [z4.2.2.2.2.2 _ (by omega), p6 n hn]
      cases hrn : wR w n with
      | none => rw [farV_0 hrn, farV_0 (w := (qAdd bits far (wQ w), va_up (wI w) to (some (qC (wQ w))), va_up (wO w) (qC (wQ w)) to, va_up (wB w) to (some nd), wR w, wL w, wN w, wM w)) hrn]
      | some r =>
        have hne : n ≠ to := fun q => by rw [q, hu] at hrn; cases hrn
        cases hi : wI w n with
        | none => rw [hw.2.2.2.2.2.1 n hn hi] at hrn; cases hrn
        | some i =>
          have hic := (hw.2.2.1 n i hn hi).1
          rw [farV_1 hrn hi, farV_1 (w := (qAdd bits far (wQ w), va_up (wI w) to (some (qC (wQ w))), va_up (wO w) (qC (wQ w)) to, va_up (wB w) to (some nd), wR w, wL w, wN w, wM w)) (i := i) hrn (by show va_up (wI w) to _ n = _; rw [va_up_ne _ _ hne]; exact hi)]
          show _ = lN (va_up (qK (wQ w)) (qC (wQ w)) far i)
          rw [va_up_ne _ _ (by omega)]
    · have hi : i < qC (wQ w) + 1 := hi
      rw [hP1, va_up_ne _ _ (by omega), hI_at, o _ (by omega)]
      show va_up (hI h (m + 814)) (qC (wQ w)) (nI to) i = nI (va_up (wO w) (qC (wQ w)) to i)
      rw [va_upE, va_upE]; split
      · rfl
      · exact p4 i (by omega)
    · rw [hP1, va_up_ne _ _ (by omega), hP1, va_up_ne _ _ (by omega), hP1, va_up_ne _ _ (by omega), o _ (by omega)]; exact p5
    · rw [hP1, va_up_ne _ _ (by omega), hP1, va_up_ne _ _ (by omega), hP1, va_up_ne _ _ (by omega), o _ (by omega)]; exact p7
    · rw [hP1, va_up_ne _ _ (by omega), hP1, va_up_ne _ _ (by omega), hP1, va_up_ne _ _ (by omega), o _ (by omega)]
  | some i =>
    rw [h0, iv_so] at gi
    obtain ⟨hi, ho⟩ := hw.2.2.1 to i hto h0
    have e1 := m1_ne (n := i) (by omega)
    have kb := a1.2.2.2.2.2.1 i hi
    have gk := q1.2.2.2.2.2.1 i hi
    by_cases hl : far < qK (wQ w) i
    · have hl' : ¬ qK (wQ w) i ≤ far := by omega
      rw [wTry_lt h0 hl] at hQ
      have him := (hw.2.2.2.2.1 to i hto h0).mp hu
      simp (disch := omega) only [u_1071_0, B_1071_0, u_1071_49, B_1071_49, nI1T, Nat.left_eq_add, Nat.add_eq_left, Nat.add_eq_zero_iff, and_false, false_and, if_false, if_true, opsN, opsC, pm_1, lg, ls1, ls2, lq, List.length_cons, List.length_nil, cN, cL, callE, retV, retN, pm_pop, pm_cat, List.map_cons, List.map_nil, List.sum_cons, List.sum_nil, Value.category, Option.toList, List.cons_append, List.nil_append, ↓reduceIte, reduceCtorEq, Nat.reduceAdd, Nat.reduceLT, Nat.reduceLeDiff, Nat.reduceSub, Nat.reduceEqDiff, Nat.zero_le, Nat.sub_zero, Nat.le_refl, true_and, and_true, not_true_eq_false, not_false_eq_true, true_or, or_true, lc_eq, lc_ne, lc_lt, lc_ge, lc_gt, lc_le, nI_add, lN_add, nI_leI, nI_ltI, nI_eq, nI_clamp, pk_lLT, pk_lLE, pk_lEQ, pk_sub, vp_inT, nz_eq, nz_lt, nz_ge, nz_gt, nz_le, lz_eq, lz_lt, lz_ge, hP1, hP2, hP3, hP4, hP5, hP6, hP7, hP8, hP9, hP10, hP11, hP12, hP13, hP14, hP15, hP16, hP17, hP18, hP19, hP20, hs.1, m_g39 hs, m_t813 hs, m_n813 hs, m_g34 hs, m_t811 hs, m_n811 hs, gi, hto, e1, q_of _ q1.1 q1.2.1, gk, hl']
      refine c1019 d (mU_of hs) q1 a1 q2 him (by omega) hk (by omega) ?_
      intro h' sn' st' z1 z2 z3 z4 z5
      have k1 := mdW_q (B' := B + 1) hc z5 ⟨sn', st', z1, z2, by omega⟩ (by rw [low_C]; exact Nat.le_refl _) (fun n r j hn hr hj => by
        rw [low_K, va_up_ne]
        intro q
        rw [q] at hj
        have e2 := (hw.2.2.1 n i hn hj).2
        rw [ho] at e2
        rw [← e2, hu] at hr
        cases hr)
      have hs' := mS_Wa (fWa_Q z5) hs
      have o := fun k (q : k ≠ m + 26) => z5.2.2.2.2.1 k q
      obtain ⟨kq, k3, k6, k4, k5, k7⟩ := k1
      have gl : hI h' (m + 817) to = nI (wL w to) := (k3 to hto).2.2.2
      have k7 : hI h' m 46 = nI (sumL (wL w) 16) := k7
      simp (disch := omega) only [u_1071_112, B_1071_112, nI1T, Nat.left_eq_add, Nat.add_eq_left, Nat.add_eq_zero_iff, and_false, false_and, if_false, if_true, opsN, opsC, pm_1, lg, ls1, ls2, lq, List.length_cons, List.length_nil, cN, cL, callE, retV, retN, pm_pop, pm_cat, List.map_cons, List.map_nil, List.sum_cons, List.sum_nil, Value.category, Option.toList, List.cons_append, List.nil_append, ↓reduceIte, reduceCtorEq, Nat.reduceAdd, Nat.reduceLT, Nat.reduceLeDiff, Nat.reduceSub, Nat.reduceEqDiff, Nat.zero_le, Nat.sub_zero, Nat.le_refl, true_and, and_true, not_true_eq_false, not_false_eq_true, true_or, or_true, lc_eq, lc_ne, lc_lt, lc_ge, lc_gt, lc_le, nI_add, lN_add, nI_leI, nI_ltI, nI_eq, nI_clamp, pk_lLT, pk_lLE, pk_lEQ, pk_sub, vp_inT, nz_eq, nz_lt, nz_ge, nz_gt, nz_le, lz_eq, lz_lt, lz_ge, hP1, hP2, hP3, hP4, hP5, hP6, hP7, hP8, hP9, hP10, hP11, hP12, hP13, hP14, hP15, hP16, hP17, hP18, hP19, hP20, hs'.1, m_g41 hs', m_t815 hs', m_n815 hs', m_g43 hs', m_t817 hs', m_n817 hs', hto, gl, k7, va_upE]
      have f1 : fWa m h (sI (sI (sI h' (m + 817) (va_up (hI h' (m + 817)) to (nI (wL w to + 1)))) m (va_up (hI h' m) 46 (nI (sumL (wL w) 16 + 1)))) (m + 815) (va_up (hI h' (m + 815)) to (nI nd))) := by
        have b := fWa_f (m := m) (j := 46) (h := sI h' (m + 817) (va_up (hI h' (m + 817)) to (nI (wL w to + 1)))) (v := nI (sumL (wL w) 16 + 1)) (by omega)
        rw [show hI (sI h' (m + 817) (va_up (hI h' (m + 817)) to (nI (wL w to + 1)))) m = hI h' m by rw [hP1, va_up_ne _ _ (by omega)]] at b
        exact fWa_trans (fWa_Q z5) (fWa_trans (fWa_r (by omega) (by omega)) (fWa_trans b (fWa_r (by omega) (by omega))))
      refine hQ _ ⟨?_, fun n hn => ?_, fun n hn => ?_, fun j hj => ?_, ?_, ?_⟩ f1 ?_
      · obtain ⟨sn9, st9, y1, y2, y3⟩ := kq
        exact ⟨sn9, st9, isQ_eq (h := h') rfl rfl rfl y1, y2, y3⟩
      · have a := k3 n hn
        refine ⟨?_, ?_, ?_, ?_⟩
        · rw [hP1, va_up_ne _ _ (by omega), hP1, va_up_ne _ _ (by omega), hP1, va_up_ne _ _ (by omega)]; exact a.1
        · rw [hI_at]
          show va_up (hI h' (m + 815)) to (nI nd) n = iv (va_up (wB w) to (some nd) n)
          rw [va_upE, va_upE]; split
          · rfl
          · exact a.2.1
        · rw [hP1, va_up_ne _ _ (by omega), hP1, va_up_ne _ _ (by omega), hP1, va_up_ne _ _ (by omega)]; exact a.2.2.1
        · rw [hP1, va_up_ne _ _ (by omega), hP1, va_up_ne _ _ (by omega), hI_at]
          show va_up (hI h' (m + 817)) to (nI (wL w to + 1)) n = nI (va_up (wL w) to (wL w to + 1) n)
          rw [va_upE, va_upE]; split
          · rfl
          · exact a.2.2.2
      · exact k6 n hn
      · rw [hP1, va_up_ne _ _ (by omega), hP1, va_up_ne _ _ (by omega), hP1, va_up_ne _ _ (by omega)]; exact k4 j hj
      · rw [hP1, va_up_ne _ _ (by omega), hI_at, va_up_ne _ _ (by decide)]; exact k5
      · rw [hP1, va_up_ne _ _ (by omega), hI_at, va_up_self]
        show _ = nI (sumL (va_up (wL w) to (wL w to + 1)) 16)
        rw [sumL_up, if_pos hto]
      · rw [hP1, va_up_ne _ _ (by omega), hI_at, va_up_ne _ _ (by decide), o _ (by omega)]
    · have hl' : qK (wQ w) i ≤ far := by omega
      rw [wTry_ge h0 hl] at hQ
      simp (disch := omega) only [u_1071_0, B_1071_0, u_1071_49, B_1071_49, u_1071_112, B_1071_112, nI1T, Nat.left_eq_add, Nat.add_eq_left, Nat.add_eq_zero_iff, and_false, false_and, if_false, if_true, opsN, opsC, pm_1, lg, ls1, ls2, lq, List.length_cons, List.length_nil, cN, cL, callE, retV, retN, pm_pop, pm_cat, List.map_cons, List.map_nil, List.sum_cons, List.sum_nil, Value.category, Option.toList, List.cons_append, List.nil_append, ↓reduceIte, reduceCtorEq, Nat.reduceAdd, Nat.reduceLT, Nat.reduceLeDiff, Nat.reduceSub, Nat.reduceEqDiff, Nat.zero_le, Nat.sub_zero, Nat.le_refl, true_and, and_true, not_true_eq_false, not_false_eq_true, true_or, or_true, lc_eq, lc_ne, lc_lt, lc_ge, lc_gt, lc_le, nI_add, lN_add, nI_leI, nI_ltI, nI_eq, nI_clamp, pk_lLT, pk_lLE, pk_lEQ, pk_sub, vp_inT, nz_eq, nz_lt, nz_ge, nz_gt, nz_le, lz_eq, lz_lt, lz_ge, hP1, hP2, hP3, hP4, hP5, hP6, hP7, hP8, hP9, hP10, hP11, hP12, hP13, hP14, hP15, hP16, hP17, hP18, hP19, hP20, hs.1, m_g39 hs, m_t813 hs, m_n813 hs, m_g34 hs, m_t811 hs, m_n811 hs, gi, hto, e1, q_of _ q1.1 q1.2.1, gk, hl']
      exact hQ h (mdW_up (by omega) hc) (fWa_refl _ _) rfl
end MW2
