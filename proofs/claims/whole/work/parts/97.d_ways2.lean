/-! ===== ways, plain: a turn; by the class ===== -/
def edB (e : Ed) : Prop := e.1 < 16 ∧ e.2.1 < 16 ∧ e.2.2 ≤ 1000000000
/-- while a node's edges are followed -/
def wFo (bits T nd : Nat) (w : WT) : Prop := wOK bits T w ∧ nd < 16 ∧ wR w nd ≠ none ∧ wN w ≤ 16 ∧ qL (wQ w) + 1000000000 ≤ wN w * 1000000000
theorem wFo_ed {bits T nd : Nat} {w : WT} {e : Ed} (hw : wFo bits T nd w) (he : edB e) : wFo bits (T + 1) nd (wEd bits nd e w) := by
  obtain ⟨a1, a2, a3, a4, a5⟩ := hw
  unfold wEd
  by_cases c : e.1 = nd ∧ wR w e.2.1 = none
  · rw [if_pos c]
    obtain ⟨t1, t2, t3⟩ := wTry_R (bits := bits) (nd := nd) (to := e.2.1) (far := qL (wQ w) + e.2.2) (w := w)
    have e2 := he.2.2
    refine ⟨wOK_try a1 a4 a2 he.2.1 a3 c.2 (by omega) (by omega), a2, ?_, ?_, ?_⟩
    · rw [t1]; exact a3
    · rw [t2]; exact a4
    · rw [t2, t3]; exact a5
  · rw [if_neg c]; exact ⟨wOK_up (by omega) a1, a2, a3, a4, a5⟩
theorem wFo_fol {bits nd : Nat} : ∀ (E : List Ed) (T : Nat) (w : WT), wFo bits T nd w → (∀ e, e ∈ E → edB e) → wFo bits (T + E.length) nd (wFol bits nd E w)
  | [], T, w, h, _ => h
  | e :: r, T, w, h, he => by
    have := wFo_fol r (T + 1) (wEd bits nd e w) (wFo_ed h (he e (List.mem_cons_self ..))) (fun z hz => he z (List.mem_cons_of_mem _ hz))
    rw [List.length_cons, show T + (r.length + 1) = T + 1 + r.length by omega]
    exact this
theorem wFo_take {bits T : Nat} {w : WT} (hw : wOK bits T w) (hne : qN (wQ w) ≠ []) : wFo bits (T + 1) (wO w (qTop bits (wQ w))) (wTake bits w) := by
  obtain ⟨a1, a2, a3, a4, a5, a6, a7, a8, a9, b1, b2, b3⟩ := hw
  obtain ⟨t1, t2, t3, t4, t5⟩ := take_f a1 hne
  obtain ⟨u1, u2, u3, u4⟩ := qI_take a1 hne
  have i3 := a1.2.2.1
  obtain ⟨o1, o2⟩ := a2 _ t4
  have k8 := a8 _ t4
  have lp := List.length_pos_iff.mpr hne
  have hu : wR w (wO w (qTop bits (wQ w))) = none := (a5 _ _ o1 o2).mpr t1
  refine ⟨⟨u1, fun i hi => ?_, fun j i hj hi => ?_, ?_, fun j i hj hi => ?_, fun j hj hi => ?_, fun j r hj hr => ?_, fun i hi => ?_, ?_, fun j b hj hb => ?_, fun i hi => ?_, fun j hj => Nat.le_succ_of_le (b3 j hj)⟩, o1, ?_, ?_, ?_⟩
  · have hi : i < qC (qTake bits (wQ w)) := hi
    rw [u2] at hi; exact a2 i hi
  · show i < qC (qTake bits (wQ w)) ∧ _
    rw [u2]; exact a3 j i hj hi
  · show (qN (qTake bits (wQ w))).length + (wN w + 1) = qC (qTake bits (wQ w))
    rw [u2]; omega
  · have hi : wI w j = some i := hi
    show va_up (wR w) (wO w (qTop bits (wQ w))) (some (wN w)) j = none ↔ i ∈ qN (qTake bits (wQ w))
    rw [t5]
    by_cases c : j = wO w (qTop bits (wQ w))
    · rw [c, va_up_self]
      rw [c, o2] at hi
      cases hi
      exact ⟨fun q => (by cases q), fun q => absurd rfl q.2⟩
    · rw [va_up_ne _ _ c, a5 j i hj hi]
      exact ⟨fun q => ⟨q, fun z => c (by rw [← z]; exact (a3 j i hj hi).2.symm)⟩, fun q => q.1⟩
  · have hi : wI w j = none := hi
    show va_up (wR w) (wO w (qTop bits (wQ w))) (some (wN w)) j = none
    rw [va_up_ne _ _ (fun q => by rw [q, o2] at hi; cases hi)]
    exact a6 j hj hi
  · have hr : va_up (wR w) (wO w (qTop bits (wQ w))) (some (wN w)) j = some r := hr
    show r < wN w + 1
    by_cases c : j = wO w (qTop bits (wQ w))
    · rw [c, va_up_self] at hr; cases hr; omega
    · rw [va_up_ne _ _ c] at hr; have := a7 j r hj hr; omega
  · have hi : i < qC (qTake bits (wQ w)) := hi
    rw [u2] at hi
    show qK (qTake bits (wQ w)) i ≤ (wN w + 1) * 1000000000
    rw [t2, Nat.add_mul, Nat.one_mul]; exact Nat.le_trans (a8 i hi) (Nat.le_add_right _ _)
  · show qL (qTake bits (wQ w)) ≤ (wN w + 1) * 1000000000
    rw [t3, Nat.add_mul, Nat.one_mul]; exact Nat.le_trans k8 (Nat.le_add_right _ _)
  · have hb : wB w j = some b := hb
    obtain ⟨c1, r, c2, c3⟩ := b1 j b hj hb
    have hr := a7 b r c1 c2
    refine ⟨c1, r, ?_, fun r' hr' => ?_⟩
    · show va_up (wR w) (wO w (qTop bits (wQ w))) (some (wN w)) b = some r
      rw [va_up_ne _ _ (fun q => by rw [q, hu] at c2; cases c2)]; exact c2
    · have hr' : va_up (wR w) (wO w (qTop bits (wQ w))) (some (wN w)) j = some r' := hr'
      by_cases c : j = wO w (qTop bits (wQ w))
      · rw [c, va_up_self] at hr'; cases hr'; exact hr
      · rw [va_up_ne _ _ c] at hr'; exact c3 r' hr'
  · have hi : i < qC (qTake bits (wQ w)) := hi
    rw [u2] at hi
    have := b2 i hi
    have := u4 i
    show qM (qTake bits (wQ w)) i ≤ T + 1
    omega
  · show va_up (wR w) (wO w (qTop bits (wQ w))) (some (wN w)) (wO w (qTop bits (wQ w))) ≠ none
    rw [va_up_self]; exact fun q => by cases q
  · show wN w + 1 ≤ 16; omega
  · show qL (qTake bits (wQ w)) + 1000000000 ≤ (wN w + 1) * 1000000000
    rw [t3, Nat.add_mul, Nat.one_mul]; exact Nat.add_le_add_right k8 _
theorem wOK_turn {bits T : Nat} {E : List Ed} {w : WT} (hw : wOK bits T w) (hne : qN (wQ w) ≠ []) (hE : ∀ e, e ∈ E → edB e) (h6 : E.length ≤ 60) : wOK bits (T + 61) (wTurn bits E w) ∧ wN (wTurn bits E w) = wN w + 1 := by
  have h1 := wFo_take hw hne
  have h2 := wFo_fol E _ _ h1 hE
  have hN : ∀ (E : List Ed) (w : WT) (nd : Nat), wN (wFol bits nd E w) = wN w := fun E => by
    induction E with
    | nil => intro w nd; rfl
    | cons e r ih =>
      intro w nd
      show wN (wFol bits nd r (wEd bits nd e w)) = _
      rw [ih]
      unfold wEd
      split
      · exact wTry_R.2.1
      · rfl
  refine ⟨wOK_up (by omega) h2.1, ?_⟩
  show wN (wFol bits _ E (wTake bits w)) = _
  rw [hN]; rfl
theorem w0_OK {bits : Nat} (h1 : 1 ≤ bits) (h4 : bits ≤ 4) : wOK bits 0 w0 :=
  ⟨qI_emp (A := q0) h1 h4 (by decide), fun i hi => absurd hi (Nat.not_lt_zero _), fun n i _ h => (by cases h), rfl, fun n i _ h => (by cases h), fun _ _ _ => rfl, fun n r _ h => (by cases h), fun i hi => absurd hi (Nat.not_lt_zero _), Nat.le_refl _, fun n b _ h => (by cases h), fun i hi => absurd hi (Nat.not_lt_zero _), fun _ _ => Nat.le_refl _⟩
theorem wS_OK {bits nd : Nat} (h1 : 1 ≤ bits) (h4 : bits ≤ 4) (hn : nd < 16) : wOK bits 1 (wCome bits nd 0 w0) := wOK_come (w0_OK h1 h4) hn rfl (Nat.le_refl _) (Nat.zero_le _) (Nat.zero_le _)
theorem wGo_OK {bits : Nat} {E : List Ed} (hE : ∀ e, e ∈ E → edB e) (h6 : E.length ≤ 60) : ∀ (n T : Nat) (w : WT), wOK bits T w → wOK bits (T + 61 * n) (wGo bits E n w)
  | 0, T, w, h => h
  | n + 1, T, w, h => by
    show wOK bits _ (if _ then w else _)
    split
    · exact wOK_up (by omega) h
    · rename_i c
      have := wGo_OK hE h6 n (T + 61) _ (wOK_turn h (fun z => c (by rw [z]; rfl)) hE h6).1
      rw [show T + 61 + 61 * n = T + 61 * (n + 1) by omega] at this
      exact this
theorem wAll_OK {bits nd : Nat} {E : List Ed} (h1 : 1 ≤ bits) (h4 : bits ≤ 4) (hn : nd < 16) (hE : ∀ e, e ∈ E → edB e) (h6 : E.length ≤ 60) : wOK bits 1000 (wAll bits nd E) := wOK_up (by decide) (wGo_OK hE h6 16 1 _ (wS_OK h1 h4 hn))
/-! the class -/
def seS (h : pm_H) (x : Nat) : Prop := hT h (x + 72) = 7 ∧ hR h (x + 72) 0 = x + 64 ∧ hR h (x + 72) 1 = x + 73 ∧ hR h (x + 72) 2 = x + 74 ∧ hR h (x + 72) 3 = x + 75 ∧ hR h (x + 72) 4 = x + 76 ∧ hR h (x + 72) 5 = x + 77 ∧
    hT h (x + 73) = 100 ∧ hT h (x + 74) = 100 ∧ hT h (x + 75) = 100 ∧ hT h (x + 76) = 100 ∧ hT h (x + 77) = 100 ∧ hN h (x + 73) = 16 ∧ hN h (x + 74) = 16 ∧ hN h (x + 75) = 16 ∧ hN h (x + 76) = 16 ∧ hN h (x + 77) = 16
theorem seS_fr {h h' : pm_H} {x lo hi : Nat} (f : fr lo hi h h') (hs : seS h x) : seS h' x := by
  unfold seS at *; rw [f.1, f.2.1, f.2.2.1]; exact hs
def clW (h : pm_H) (x bits : Nat) (w : WT) : Prop := seS h x ∧ isB h (x + 64) 300 bits 16 (wQ w) ∧ (∀ n, n < 16 → hI h (x + 73) n = iv (wI w n) ∧ hI h (x + 75) n = iv (wB w n) ∧ hI h (x + 76) n = iv (wR w n) ∧ hI h (x + 77) n = nI (wL w n)) ∧
  (∀ i, i < qC (wQ w) → hI h (x + 74) i = nI (wO w i)) ∧ hI h (x + 72) 6 = nI (wN w)
section RZ
variable {h : pm_H} {x bits : Nat} {w : WT} {Q : pm_Q}
theorem clW_q {A' : Qs} {h' : pm_H} (hc : clW h x bits w) (f : fr (x + 64) (x + 64 + 6) h h') (hB : isB h' (x + 64) 300 bits 16 A') (hle : qC A' ≤ qC (wQ w)) : clW h' x bits (A', wI w, wO w, wB w, wR w, wL w, wN w, wM w) := by
  obtain ⟨p1, p2, p3, p4, p5⟩ := hc
  refine ⟨seS_fr f p1, hB, fun n hn => ?_, fun i hi => ?_, ?_⟩
  · rw [(f.2.2.2.2 (x + 73) (by omega)).1, (f.2.2.2.2 (x + 75) (by omega)).1, (f.2.2.2.2 (x + 76) (by omega)).1, (f.2.2.2.2 (x + 77) (by omega)).1]; exact p3 n hn
  · rw [(f.2.2.2.2 _ (by omega)).1]; exact p4 i (Nat.lt_of_lt_of_le hi hle)
  · rw [(f.2.2.2.2 _ (by omega)).1]; exact p5
theorem iv_m1 {o : Option Nat} (ho : ∀ i, o = some i → i < 300) : (iv o = -nI 1) = (o = none) := by
  cases o with
  | none => exact propext ⟨fun _ => rfl, fun _ => rfl⟩
  | some j => rw [iv_so, iv_n (ho j rfl)]; exact propext ⟨False.elim, fun q => by cases q⟩
/-- comeTo -/
theorem c703 (d : Nat) {T n k : Nat} (hc : clW h x bits w) (hw : wOK bits T w) (hn : n < 16) (h0 : wI w n = none) (hk : qL (wQ w) ≤ k) (hk2 : k ≤ wN w * 1000000000) (hN6 : wN w ≤ 16)
    (hQ : ∀ h', clW h' x bits (wCome bits n k w) → fr (x + 64) (x + 82) h h' → hI h' (x + 72) = hI h (x + 72) → Q (.inl none) h') : pm_M PP (d + 3) 703 [.ref (x + 72), .int (nI n), .long (lN k)] h Q := by
  have hr := wOK_room hw hn h0
  have a1 := hw.1
  obtain ⟨⟨s0, s1, s2, s3, s4, s5, s6, t1, t2, t3, t4, t5, n1, n2, n3, n4, n5⟩, p2, p3, p4, p5⟩ := id hc
  have q1 := p2.1.1
  rw [e_703]
  simp (disch := omega) only [u_703_0, B_703_0, nI1T, Nat.left_eq_add, Nat.add_eq_left, Nat.add_eq_zero_iff, and_false, false_and, if_false, if_true, opsN, opsC, pm_1, lg, ls1, ls2, lq, List.length_cons, List.length_nil, cN, cL, callE, retV, retN, pm_pop, pm_cat, List.map_cons, List.map_nil, List.sum_cons, List.sum_nil, Value.category, Option.toList, List.cons_append, List.nil_append, ↓reduceIte, reduceCtorEq, Nat.reduceAdd, Nat.reduceLT, Nat.reduceLeDiff, Nat.reduceSub, Nat.reduceEqDiff, Nat.zero_le, Nat.sub_zero, Nat.le_refl, true_and, and_true, not_true_eq_false, not_false_eq_true, true_or, or_true, lc_eq, lc_ne, lc_lt, lc_ge, lc_gt, lc_le, nI_add, lN_add, nI_leI, nI_ltI, nI_eq, nI_clamp, pk_lLT, pk_lLE, pk_lEQ, pk_sub, vp_inT, nz_eq, nz_lt, nz_ge, nz_gt, nz_le, lz_eq, lz_lt, lz_ge, hP1, hP2, hP3, hP4, hP5, hP6, hP7, hP8, hP9, hP10, hP11, hP12, hP13, hP14, hP15, hP16, hP17, hP18, hP19, hP20, s0, s1, q1]
  refine c109t d p2 a1 (by omega) hk hr ?_
  intro h' z1 z2 z3
  have e1 := m1_ne (n := qC (wQ w)) (by omega)
  have hs' := seS_fr z3 hc.1
  obtain ⟨s0, s1, s2, s3, s4, s5, s6, t1, t2, t3, t4, t5, n1, n2, n3, n4, n5⟩ := id hs'
  simp (disch := omega) only [u_703_32, B_703_32, nI1T, Nat.left_eq_add, Nat.add_eq_left, Nat.add_eq_zero_iff, and_false, false_and, if_false, if_true, opsN, opsC, pm_1, lg, ls1, ls2, lq, List.length_cons, List.length_nil, cN, cL, callE, retV, retN, pm_pop, pm_cat, List.map_cons, List.map_nil, List.sum_cons, List.sum_nil, Value.category, Option.toList, List.cons_append, List.nil_append, ↓reduceIte, reduceCtorEq, Nat.reduceAdd, Nat.reduceLT, Nat.reduceLeDiff, Nat.reduceSub, Nat.reduceEqDiff, Nat.zero_le, Nat.sub_zero, Nat.le_refl, true_and, and_true, not_true_eq_false, not_false_eq_true, true_or, or_true, lc_eq, lc_ne, lc_lt, lc_ge, lc_gt, lc_le, nI_add, lN_add, nI_leI, nI_ltI, nI_eq, nI_clamp, pk_lLT, pk_lLE, pk_lEQ, pk_sub, vp_inT, nz_eq, nz_lt, nz_ge, nz_gt, nz_le, lz_eq, lz_lt, lz_ge, hP1, hP2, hP3, hP4, hP5, hP6, hP7, hP8, hP9, hP10, hP11, hP12, hP13, hP14, hP15, hP16, hP17, hP18, hP19, hP20, e1, s0, s2, s3, t1, t2, n1, n2, hr, hn, va_upE]
  have f1 : fr (x + 73) (x + 75) h' (sI (sI h' (x + 73) (va_up (hI h' (x + 73)) n (nI (qC (wQ w))))) (x + 74) (va_up (hI h' (x + 74)) (qC (wQ w)) (nI n))) := fr_sI (fr_sI (fr_refl _ _ _) (by omega) (by omega)) (by omega) (by omega)
  have o := fun k (q : x + 70 ≤ k) => (z3.2.2.2.2 k (by omega)).1
  have f2 : fr (x + 64) (x + 82) h (sI (sI h' (x + 73) (va_up (hI h' (x + 73)) n (nI (qC (wQ w))))) (x + 74) (va_up (hI h' (x + 74)) (qC (wQ w)) (nI n))) := fr_trans (fr_wide z3 (by omega) (by omega)) (fr_wide f1 (by omega) (by omega))
  have b2 : isB (sI (sI h' (x + 73) (va_up (hI h' (x + 73)) n (nI (qC (wQ w))))) (x + 74) (va_up (hI h' (x + 74)) (qC (wQ w)) (nI n))) (x + 64) 300 bits 16 (qAdd bits k (wQ w)) := isB_fr f1 (by omega) z1
  refine hQ _ ⟨seS_fr f1 hs', b2, fun j hj => ?_, fun i hi => ?_, ?_⟩ f2 ?_
  · have a := p3 j hj
    refine ⟨?_, ?_, ?_, ?_⟩
    · rw [hP1, va_up_ne _ _ (by omega), hI_at, o _ (by omega)]
      show va_up (hI h (x + 73)) n (nI (qC (wQ w))) j = iv (va_up (wI w) n (some (qC (wQ w))) j)
      rw [va_upE, va_upE]; split
      · rfl
      · exact a.1
    · rw [hP1, va_up_ne _ _ (by omega), hP1, va_up_ne _ _ (by omega), o _ (by omega)]; exact a.2.1
    · rw [hP1, va_up_ne _ _ (by omega), hP1, va_up_ne _ _ (by omega), o _ (by omega)]; exact a.2.2.1
    · rw [hP1, va_up_ne _ _ (by omega), hP1, va_up_ne _ _ (by omega), o _ (by omega)]; exact a.2.2.2
  · have hi : i < qC (wQ w) + 1 := hi
    rw [hI_at, o _ (by omega)]
    show va_up (hI h (x + 74)) (qC (wQ w)) (nI n) i = nI (va_up (wO w) (qC (wQ w)) n i)
    rw [va_upE, va_upE]; split
    · rfl
    · exact p4 i (by omega)
  · rw [hP1, va_up_ne _ _ (by omega), hP1, va_up_ne _ _ (by omega), o _ (by omega)]; exact p5
  · rw [hP1, va_up_ne _ _ (by omega), hP1, va_up_ne _ _ (by omega), o _ (by omega)]
theorem clW_by {n b : Nat} (hn : n < 16) (hc : clW h x bits w) : clW (sI h (x + 75) (va_up (hI h (x + 75)) n (nI b))) x bits (wQ w, wI w, wO w, va_up (wB w) n (some b), wR w, wL w, wN w, wM w) := by
  have f1 : fr (x + 75) (x + 76) h (sI h (x + 75) (va_up (hI h (x + 75)) n (nI b))) := fr_sI (fr_refl _ _ _) (by omega) (by omega)
  obtain ⟨p1, p2, p3, p4, p5⟩ := hc
  refine ⟨seS_fr f1 p1, isB_fr f1 (by omega) p2, fun j hj => ?_, fun i hi => ?_, ?_⟩
  · have a := p3 j hj
    refine ⟨?_, ?_, ?_, ?_⟩
    · rw [hP1, va_up_ne _ _ (by omega)]; exact a.1
    · rw [hI_at]
      show va_up (hI h (x + 75)) n (nI b) j = iv (va_up (wB w) n (some b) j)
      rw [va_upE, va_upE]; split
      · rfl
      · exact a.2.1
    · rw [hP1, va_up_ne _ _ (by omega)]; exact a.2.2.1
    · rw [hP1, va_up_ne _ _ (by omega)]; exact a.2.2.2
  · rw [hP1, va_up_ne _ _ (by omega)]; exact p4 i hi
  · rw [hP1, va_up_ne _ _ (by omega)]; exact p5
theorem clW_ls {n : Nat} (hn : n < 16) (hc : clW h x bits w) : clW (sI h (x + 77) (va_up (hI h (x + 77)) n (nI (wL w n + 1)))) x bits (wQ w, wI w, wO w, wB w, wR w, va_up (wL w) n (wL w n + 1), wN w, wM w) := by
  have f1 : fr (x + 77) (x + 78) h (sI h (x + 77) (va_up (hI h (x + 77)) n (nI (wL w n + 1)))) := fr_sI (fr_refl _ _ _) (by omega) (by omega)
  obtain ⟨p1, p2, p3, p4, p5⟩ := hc
  refine ⟨seS_fr f1 p1, isB_fr f1 (by omega) p2, fun j hj => ?_, fun i hi => ?_, ?_⟩
  · have a := p3 j hj
    refine ⟨?_, ?_, ?_, ?_⟩
    · rw [hP1, va_up_ne _ _ (by omega)]; exact a.1
    · rw [hP1, va_up_ne _ _ (by omega)]; exact a.2.1
    · rw [hP1, va_up_ne _ _ (by omega)]; exact a.2.2.1
    · rw [hI_at]
      show va_up (hI h (x + 77)) n (nI (wL w n + 1)) j = nI (va_up (wL w) n (wL w n + 1) j)
      rw [va_upE, va_upE]; split
      · rfl
      · exact a.2.2.2
  · rw [hP1, va_up_ne _ _ (by omega)]; exact p4 i hi
  · rw [hP1, va_up_ne _ _ (by omega)]; exact p5
/-- tryWay -/
theorem c705 (d : Nat) {T nd to far : Nat} (hc : clW h x bits w) (hw : wOK bits T w) (hN6 : wN w ≤ 16) (hnd : nd < 16) (hto : to < 16) (hu : wR w to = none) (hk : qL (wQ w) ≤ far) (hk2 : far ≤ wN w * 1000000000)
    (hQ : ∀ h', clW h' x bits (wTry bits nd to far w) → fr (x + 64) (x + 82) h h' → hI h' (x + 72) = hI h (x + 72) → Q (.inl none) h') : pm_M PP (d + 4) 705 [.ref (x + 72), .int (nI nd), .int (nI to), .long (lN far)] h Q := by
  obtain ⟨⟨s0, s1, s2, s3, s4, s5, s6, t1, t2, t3, t4, t5, n1, n2, n3, n4, n5⟩, p2, p3, p4, p5⟩ := id hc
  have q1 := p2.1.1
  have a1 := hw.1
  have i3 := a1.2.2.1
  have gi := (p3 to hto).1
  rw [e_705]
  cases h0 : wI w to with
  | none =>
    rw [h0] at gi
    have gi : hI h (x + 73) to = -nI 1 := gi
    rw [wTry_none h0] at hQ
    simp (disch := omega) only [u_705_0, B_705_0, nI1T, Nat.left_eq_add, Nat.add_eq_left, Nat.add_eq_zero_iff, and_false, false_and, if_false, if_true, opsN, opsC, pm_1, lg, ls1, ls2, lq, List.length_cons, List.length_nil, cN, cL, callE, retV, retN, pm_pop, pm_cat, List.map_cons, List.map_nil, List.sum_cons, List.sum_nil, Value.category, Option.toList, List.cons_append, List.nil_append, ↓reduceIte, reduceCtorEq, Nat.reduceAdd, Nat.reduceLT, Nat.reduceLeDiff, Nat.reduceSub, Nat.reduceEqDiff, Nat.zero_le, Nat.sub_zero, Nat.le_refl, true_and, and_true, not_true_eq_false, not_false_eq_true, true_or, or_true, lc_eq, lc_ne, lc_lt, lc_ge, lc_gt, lc_le, nI_add, lN_add, nI_leI, nI_ltI, nI_eq, nI_clamp, pk_lLT, pk_lLE, pk_lEQ, pk_sub, vp_inT, nz_eq, nz_lt, nz_ge, nz_gt, nz_le, lz_eq, lz_lt, lz_ge, hP1, hP2, hP3, hP4, hP5, hP6, hP7, hP8, hP9, hP10, hP11, hP12, hP13, hP14, hP15, hP16, hP17, hP18, hP19, hP20, s0, s2, t1, n1, gi, hto]
    refine c703 d hc hw hto h0 hk hk2 hN6 ?_
    intro h' k1 k2 k3
    obtain ⟨s0, s1, s2, s3, s4, s5, s6, t1, t2, t3, t4, t5, n1, n2, n3, n4, n5⟩ := id k1.1
    simp (disch := omega) only [u_705_77, B_705_77, nI1T, Nat.left_eq_add, Nat.add_eq_left, Nat.add_eq_zero_iff, and_false, false_and, if_false, if_true, opsN, opsC, pm_1, lg, ls1, ls2, lq, List.length_cons, List.length_nil, cN, cL, callE, retV, retN, pm_pop, pm_cat, List.map_cons, List.map_nil, List.sum_cons, List.sum_nil, Value.category, Option.toList, List.cons_append, List.nil_append, ↓reduceIte, reduceCtorEq, Nat.reduceAdd, Nat.reduceLT, Nat.reduceLeDiff, Nat.reduceSub, Nat.reduceEqDiff, Nat.zero_le, Nat.sub_zero, Nat.le_refl, true_and, and_true, not_true_eq_false, not_false_eq_true, true_or, or_true, lc_eq, lc_ne, lc_lt, lc_ge, lc_gt, lc_le, nI_add, lN_add, nI_leI, nI_ltI, nI_eq, nI_clamp, pk_lLT, pk_lLE, pk_lEQ, pk_sub, vp_inT, nz_eq, nz_lt, nz_ge, nz_gt, nz_le, lz_eq, lz_lt, lz_ge, hP1, hP2, hP3, hP4, hP5, hP6, hP7, hP8, hP9, hP10, hP11, hP12, hP13, hP14, hP15, hP16, hP17, hP18, hP19, hP20, s0, s4, t3, n3, hto]
    exact hQ _ (clW_by (w := wCome bits to far w) hto k1) (fr_trans k2 (fr_sI (fr_refl _ _ _) (by omega) (by omega))) (by rw [hP1, va_up_ne _ _ (by omega)]; exact k3)
  | some i =>
    rw [h0, iv_so] at gi
    obtain ⟨hi, ho⟩ := hw.2.2.1 to i hto h0
    have e1 := m1_ne (n := i) (by omega)
    have kb := a1.2.2.2.2.2.1 i hi
    have i16 : i < 300 := by omega
    by_cases hl : far < qK (wQ w) i
    · have hl' : ¬ qK (wQ w) i ≤ far := by omega
      rw [wTry_lt h0 hl] at hQ
      have him := (hw.2.2.2.2.1 to i hto h0).mp hu
      have B0 := p2
      have gk : hL h (x + 64 + 2) i = lN (qK (wQ w) i) := by obtain ⟨⟨s0, s1, s2, s3, s4, s5, s6, s7, s8, s9, s10, s11, s12, s13, s14, s15, s16⟩, f4, f5, f6, f7, f8, f9, rK, rW, rM, rN⟩ := id p2; exact rK i hi
      have gB : hR h (x + 64) 0 = x + 64 + 2 ∧ hT h (x + 64 + 2) = 101 ∧ hN h (x + 64 + 2) = 300 := by obtain ⟨⟨s0, s1, s2, s3, s4, s5, s6, s7, s8, s9, s10, s11, s12, s13, s14, s15, s16⟩, f4, f5, f6, f7, f8, f9, rK, rW, rM, rN⟩ := id p2; exact ⟨by assumption, by assumption, by assumption⟩
      obtain ⟨g1, g2, g3⟩ := gB
      simp (disch := omega) only [u_705_0, B_705_0, u_705_26, B_705_26, nI1T, Nat.left_eq_add, Nat.add_eq_left, Nat.add_eq_zero_iff, and_false, false_and, if_false, if_true, opsN, opsC, pm_1, lg, ls1, ls2, lq, List.length_cons, List.length_nil, cN, cL, callE, retV, retN, pm_pop, pm_cat, List.map_cons, List.map_nil, List.sum_cons, List.sum_nil, Value.category, Option.toList, List.cons_append, List.nil_append, ↓reduceIte, reduceCtorEq, Nat.reduceAdd, Nat.reduceLT, Nat.reduceLeDiff, Nat.reduceSub, Nat.reduceEqDiff, Nat.zero_le, Nat.sub_zero, Nat.le_refl, true_and, and_true, not_true_eq_false, not_false_eq_true, true_or, or_true, lc_eq, lc_ne, lc_lt, lc_ge, lc_gt, lc_le, nI_add, lN_add, nI_leI, nI_ltI, nI_eq, nI_clamp, pk_lLT, pk_lLE, pk_lEQ, pk_sub, vp_inT, nz_eq, nz_lt, nz_ge, nz_gt, nz_le, lz_eq, lz_lt, lz_ge, hP1, hP2, hP3, hP4, hP5, hP6, hP7, hP8, hP9, hP10, hP11, hP12, hP13, hP14, hP15, hP16, hP17, hP18, hP19, hP20, s0, s1, s2, t1, n1, gi, hto, e1, q1, g1, g2, g3, gk, i16, hl']
      refine c111t d p2 a1 him (by omega) hk (by omega) ?_
      intro h' z1 z2 z3
      have k1 := clW_q hc z3 z1 (by rw [low_C]; exact Nat.le_refl _)
      obtain ⟨s0, s1, s2, s3, s4, s5, s6, t1, t2, t3, t4, t5, n1, n2, n3, n4, n5⟩ := id k1.1
      have gl : hI h' (x + 77) to = nI (wL w to) := (k1.2.2.1 to hto).2.2.2
      simp (disch := omega) only [u_705_77, B_705_77, nI1T, Nat.left_eq_add, Nat.add_eq_left, Nat.add_eq_zero_iff, and_false, false_and, if_false, if_true, opsN, opsC, pm_1, lg, ls1, ls2, lq, List.length_cons, List.length_nil, cN, cL, callE, retV, retN, pm_pop, pm_cat, List.map_cons, List.map_nil, List.sum_cons, List.sum_nil, Value.category, Option.toList, List.cons_append, List.nil_append, ↓reduceIte, reduceCtorEq, Nat.reduceAdd, Nat.reduceLT, Nat.reduceLeDiff, Nat.reduceSub, Nat.reduceEqDiff, Nat.zero_le, Nat.sub_zero, Nat.le_refl, true_and, and_true, not_true_eq_false, not_false_eq_true, true_or, or_true, lc_eq, lc_ne, lc_lt, lc_ge, lc_gt, lc_le, nI_add, lN_add, nI_leI, nI_ltI, nI_eq, nI_clamp, pk_lLT, pk_lLE, pk_lEQ, pk_sub, vp_inT, nz_eq, nz_lt, nz_ge, nz_gt, nz_le, lz_eq, lz_lt, lz_ge, hP1, hP2, hP3, hP4, hP5, hP6, hP7, hP8, hP9, hP10, hP11, hP12, hP13, hP14, hP15, hP16, hP17, hP18, hP19, hP20, s0, s4, s6, t3, t5, n3, n5, hto, gl, va_upE]
      have k2 := clW_ls (n := to) hto k1
      have k3 : clW (sI (sI h' (x + 77) (va_up (hI h' (x + 77)) to (nI (wL w to + 1)))) (x + 75) (va_up (hI (sI h' (x + 77) (va_up (hI h' (x + 77)) to (nI (wL w to + 1)))) (x + 75)) to (nI nd))) x bits (qLow bits i far (wQ w), wI w, wO w, va_up (wB w) to (some nd), wR w, va_up (wL w) to (wL w to + 1), wN w, wM w) := clW_by (n := to) (b := nd) hto k2
      have e5 : hI (sI h' (x + 77) (va_up (hI h' (x + 77)) to (nI (wL w to + 1)))) (x + 75) = hI h' (x + 75) := by rw [hP1, va_up_ne _ _ (by omega)]
      refine hQ _ ?_ (fr_trans (fr_wide z3 (by omega) (by omega)) (fr_sI (fr_sI (fr_refl _ _ _) (by omega) (by omega)) (by omega) (by omega))) ?_
      · rw [e5] at k3; exact k3
      · rw [hP1, va_up_ne _ _ (by omega), hP1, va_up_ne _ _ (by omega), (z3.2.2.2.2 _ (by omega)).1]
    · have hl' : qK (wQ w) i ≤ far := by omega
      rw [wTry_ge h0 hl] at hQ
      have gk : hL h (x + 64 + 2) i = lN (qK (wQ w) i) := by obtain ⟨⟨s0, s1, s2, s3, s4, s5, s6, s7, s8, s9, s10, s11, s12, s13, s14, s15, s16⟩, f4, f5, f6, f7, f8, f9, rK, rW, rM, rN⟩ := id p2; exact rK i hi
      have gB : hR h (x + 64) 0 = x + 64 + 2 ∧ hT h (x + 64 + 2) = 101 ∧ hN h (x + 64 + 2) = 300 := by obtain ⟨⟨s0, s1, s2, s3, s4, s5, s6, s7, s8, s9, s10, s11, s12, s13, s14, s15, s16⟩, f4, f5, f6, f7, f8, f9, rK, rW, rM, rN⟩ := id p2; exact ⟨by assumption, by assumption, by assumption⟩
      obtain ⟨g1, g2, g3⟩ := gB
      simp (disch := omega) only [u_705_0, B_705_0, u_705_26, B_705_26, u_705_77, B_705_77, nI1T, Nat.left_eq_add, Nat.add_eq_left, Nat.add_eq_zero_iff, and_false, false_and, if_false, if_true, opsN, opsC, pm_1, lg, ls1, ls2, lq, List.length_cons, List.length_nil, cN, cL, callE, retV, retN, pm_pop, pm_cat, List.map_cons, List.map_nil, List.sum_cons, List.sum_nil, Value.category, Option.toList, List.cons_append, List.nil_append, ↓reduceIte, reduceCtorEq, Nat.reduceAdd, Nat.reduceLT, Nat.reduceLeDiff, Nat.reduceSub, Nat.reduceEqDiff, Nat.zero_le, Nat.sub_zero, Nat.le_refl, true_and, and_true, not_true_eq_false, not_false_eq_true, true_or, or_true, lc_eq, lc_ne, lc_lt, lc_ge, lc_gt, lc_le, nI_add, lN_add, nI_leI, nI_ltI, nI_eq, nI_clamp, pk_lLT, pk_lLE, pk_lEQ, pk_sub, vp_inT, nz_eq, nz_lt, nz_ge, nz_gt, nz_le, lz_eq, lz_lt, lz_ge, hP1, hP2, hP3, hP4, hP5, hP6, hP7, hP8, hP9, hP10, hP11, hP12, hP13, hP14, hP15, hP16, hP17, hP18, hP19, hP20, s0, s1, s2, t1, n1, gi, hto, e1, q1, g1, g2, g3, gk, i16, hl']
      exact hQ h hc (fr_refl _ _ _) rfl
end RZ
section RZ2
variable {h : pm_H} {x bits : Nat} {w : WT} {Q : pm_Q}
/-- reachNext -/
theorem c702 (d : Nat) {T : Nat} (hc : clW h x bits w) (hw : wOK bits T w) (hne : qN (wQ w) ≠ [])
    (hQ : ∀ h', clW h' x bits (wTake bits w) → fr (x + 64) (x + 82) h h' → hI h' (x + 72) 7 = hI h (x + 72) 7 → Q (.inl (some (.int (nI (wO w (qTop bits (wQ w))))))) h') : pm_M PP (d + 4) 702 [.ref (x + 72)] h Q := by
  obtain ⟨⟨s0, s1, s2, s3, s4, s5, s6, t1, t2, t3, t4, t5, n1, n2, n3, n4, n5⟩, p2, p3, p4, p5⟩ := id hc
  have q1 := p2.1.1
  have a1 := hw.1
  have i3 := a1.2.2.1
  obtain ⟨tk1, tk2, tk3, tk4, tk5⟩ := take_f a1 hne
  obtain ⟨u1, u2, u3, u4⟩ := qI_take a1 hne
  have o1 := (hw.2.1 _ tk4).1
  have c16 : ¬ 16 ≤ qTop bits (wQ w) := by omega
  have c17 : qTop bits (wQ w) < 16 := by omega
  rw [e_702]
  simp (disch := omega) only [u_702_0, B_702_0, nI1T, Nat.left_eq_add, Nat.add_eq_left, Nat.add_eq_zero_iff, and_false, false_and, if_false, if_true, opsN, opsC, pm_1, lg, ls1, ls2, lq, List.length_cons, List.length_nil, cN, cL, callE, retV, retN, pm_pop, pm_cat, List.map_cons, List.map_nil, List.sum_cons, List.sum_nil, Value.category, Option.toList, List.cons_append, List.nil_append, ↓reduceIte, reduceCtorEq, Nat.reduceAdd, Nat.reduceLT, Nat.reduceLeDiff, Nat.reduceSub, Nat.reduceEqDiff, Nat.zero_le, Nat.sub_zero, Nat.le_refl, true_and, and_true, not_true_eq_false, not_false_eq_true, true_or, or_true, lc_eq, lc_ne, lc_lt, lc_ge, lc_gt, lc_le, nI_add, lN_add, nI_leI, nI_ltI, nI_eq, nI_clamp, pk_lLT, pk_lLE, pk_lEQ, pk_sub, vp_inT, nz_eq, nz_lt, nz_ge, nz_gt, nz_le, lz_eq, lz_lt, lz_ge, hP1, hP2, hP3, hP4, hP5, hP6, hP7, hP8, hP9, hP10, hP11, hP12, hP13, hP14, hP15, hP16, hP17, hP18, hP19, hP20, s0, s1, q1]
  refine c110t d p2 a1 hne ?_
  intro h' z1 z2 z3
  have k1 := clW_q hc z3 z1 (by rw [u2]; exact Nat.le_refl _)
  obtain ⟨s0, s1, s2, s3, s4, s5, s6, t1, t2, t3, t4, t5, n1, n2, n3, n4, n5⟩ := id k1.1
  have gO : hI h' (x + 74) (qTop bits (wQ w)) = nI (wO w (qTop bits (wQ w))) := k1.2.2.2.1 _ (by show _ < qC (qTake bits (wQ w)); rw [u2]; exact tk4)
  have gN : hI h' (x + 72) 6 = nI (wN w) := k1.2.2.2.2
  simp (disch := omega) only [u_702_20, B_702_20, nI1T, Nat.left_eq_add, Nat.add_eq_left, Nat.add_eq_zero_iff, and_false, false_and, if_false, if_true, opsN, opsC, pm_1, lg, ls1, ls2, lq, List.length_cons, List.length_nil, cN, cL, callE, retV, retN, pm_pop, pm_cat, List.map_cons, List.map_nil, List.sum_cons, List.sum_nil, Value.category, Option.toList, List.cons_append, List.nil_append, ↓reduceIte, reduceCtorEq, Nat.reduceAdd, Nat.reduceLT, Nat.reduceLeDiff, Nat.reduceSub, Nat.reduceEqDiff, Nat.zero_le, Nat.sub_zero, Nat.le_refl, true_and, and_true, not_true_eq_false, not_false_eq_true, true_or, or_true, lc_eq, lc_ne, lc_lt, lc_ge, lc_gt, lc_le, nI_add, lN_add, nI_leI, nI_ltI, nI_eq, nI_clamp, pk_lLT, pk_lLE, pk_lEQ, pk_sub, vp_inT, nz_eq, nz_lt, nz_ge, nz_gt, nz_le, lz_eq, lz_lt, lz_ge, hP1, hP2, hP3, hP4, hP5, hP6, hP7, hP8, hP9, hP10, hP11, hP12, hP13, hP14, hP15, hP16, hP17, hP18, hP19, hP20, s0, s3, s5, t2, t4, n2, n4, c16, c17, gO, gN, o1, va_upE]
  have f1 : fr (x + 72) (x + 77) h' (sI (sI h' (x + 76) (va_up (hI h' (x + 76)) (wO w (qTop bits (wQ w))) (nI (wN w)))) (x + 72) (va_up (hI h' (x + 72)) 6 (nI (wN w + 1)))) := fr_sI (fr_sI (fr_refl _ _ _) (by omega) (by omega)) (by omega) (by omega)
  have f2 : fr (x + 64) (x + 82) h (sI (sI h' (x + 76) (va_up (hI h' (x + 76)) (wO w (qTop bits (wQ w))) (nI (wN w)))) (x + 72) (va_up (hI h' (x + 72)) 6 (nI (wN w + 1)))) := fr_trans (fr_wide z3 (by omega) (by omega)) (fr_wide f1 (by omega) (by omega))
  have b2 : isB (sI (sI h' (x + 76) (va_up (hI h' (x + 76)) (wO w (qTop bits (wQ w))) (nI (wN w)))) (x + 72) (va_up (hI h' (x + 72)) 6 (nI (wN w + 1)))) (x + 64) 300 bits 16 (qTake bits (wQ w)) := isB_fr f1 (by omega) z1
  refine hQ _ ⟨seS_fr f1 k1.1, b2, fun j hj => ?_, fun i hi => ?_, ?_⟩ f2 ?_
  · have a := k1.2.2.1 j hj
    refine ⟨?_, ?_, ?_, ?_⟩
    · rw [hP1, va_up_ne _ _ (by omega), hP1, va_up_ne _ _ (by omega)]; exact a.1
    · rw [hP1, va_up_ne _ _ (by omega), hP1, va_up_ne _ _ (by omega)]; exact a.2.1
    · rw [hP1, va_up_ne _ _ (by omega), hI_at]
      show va_up (hI h' (x + 76)) (wO w (qTop bits (wQ w))) (nI (wN w)) j = iv (va_up (wR w) (wO w (qTop bits (wQ w))) (some (wN w)) j)
      rw [va_upE, va_upE]; split
      · rfl
      · exact a.2.2.1
    · rw [hP1, va_up_ne _ _ (by omega), hP1, va_up_ne _ _ (by omega)]; exact a.2.2.2
  · rw [hP1, va_up_ne _ _ (by omega), hP1, va_up_ne _ _ (by omega)]; exact k1.2.2.2.1 i hi
  · rw [hI_at, va_up_self]; rfl
  · rw [hI_at, va_up_ne _ _ (by decide), (z3.2.2.2.2 _ (by omega)).1]
/-- followEdges -/
theorem l704 (d : Nat) {c nd : Nat} {E : List Ed} (hcx : x + 46 ≤ c) (hcx2 : c + 9 ≤ x + 64) (hE : ∀ e, e ∈ E → edB e) (h6 : E.length ≤ 60) : ∀ (suf pre : List Ed) (T : Nat) (w : WT) (h : pm_H) (v4 : Option Value), E = pre ++ suf → chS h c → hI h c 8 = nI E.length →
      (∀ i, i < E.length → hI h (c + 1) i = nI (E.getD i ed0).1 ∧ hI h (c + 2) i = nI (E.getD i ed0).2.1 ∧ hI h (c + 3) i = nI (E.getD i ed0).2.2) → clW h x bits w → wFo bits T nd w →
      (∀ h', clW h' x bits (wFol bits nd suf w) → fr (x + 64) (x + 82) h h' → hI h' (x + 72) = hI h (x + 72) → Q (.inl none) h') →
      pm_W PP (d + 4) 704 Q 0 0 2 [some (.ref (x + 72)), some (.ref c), some (.int (nI nd)), some (.int (nI pre.length)), v4] [] h := by
  intro suf
  induction suf with
  | nil =>
    intro pre T w h v4 hL hs hl hr hc hw hQ
    have e : pre.length = E.length := by rw [hL, List.append_nil]
    have c1 : pre.length ≤ pre.length := Nat.le_refl _
    rw [← e] at hl
    rw [u_704_2]
    simp (disch := omega) only [B_704_2, u_704_67, B_704_67, nI1T, Nat.left_eq_add, Nat.add_eq_left, Nat.add_eq_zero_iff, and_false, false_and, if_false, if_true, opsN, opsC, pm_1, lg, ls1, ls2, lq, List.length_cons, List.length_nil, cN, cL, callE, retV, retN, pm_pop, pm_cat, List.map_cons, List.map_nil, List.sum_cons, List.sum_nil, Value.category, Option.toList, List.cons_append, List.nil_append, ↓reduceIte, reduceCtorEq, Nat.reduceAdd, Nat.reduceLT, Nat.reduceLeDiff, Nat.reduceSub, Nat.reduceEqDiff, Nat.zero_le, Nat.sub_zero, Nat.le_refl, true_and, and_true, not_true_eq_false, not_false_eq_true, true_or, or_true, lc_eq, lc_ne, lc_lt, lc_ge, lc_gt, lc_le, nI_add, lN_add, nI_leI, nI_ltI, nI_eq, nI_clamp, pk_lLT, pk_lLE, pk_lEQ, pk_sub, vp_inT, nz_eq, nz_lt, nz_ge, nz_gt, nz_le, lz_eq, lz_lt, lz_ge, hP1, hP2, hP3, hP4, hP5, hP6, hP7, hP8, hP9, hP10, hP11, hP12, hP13, hP14, hP15, hP16, hP17, hP18, hP19, hP20, hs.1, hl, c1]
    exact hQ h hc (fr_refl _ _ _) rfl
  | cons s r ih =>
    intro pre T w h v4 hL hs hl hr hc hw hQ
    have el : E.length = pre.length + (r.length + 1) := by rw [hL, List.length_append, List.length_cons]
    have c1 : ¬ E.length ≤ pre.length := by omega
    have hgd : E.getD pre.length ed0 = s := by
      rw [hL, List.getD_eq_getElem?_getD, List.getElem?_append_right (Nat.le_refl _), Nat.sub_self]; rfl
    have hg := hr pre.length (by omega)
    rw [hgd] at hg
    have hsB := hE s (by rw [hL]; exact List.mem_append_right _ (List.mem_cons_self ..))
    have hL' : E = (pre ++ [s]) ++ r := by rw [hL, List.append_assoc]; rfl
    have el2 : (pre ++ [s]).length = pre.length + 1 := by rw [List.length_append]; rfl
    obtain ⟨s0, s1, s2, s3, _, _, _, _, _, u1, u2, u3, _, _, _, _, _, m1, m2, m3, _⟩ := id hs
    obtain ⟨⟨y0, y1, y2, y3, y4, y5, y6, t1, t2, t3, t4, t5, n1, n2, n3, n4, n5⟩, p2, p3, p4, p5⟩ := id hc
    obtain ⟨g1, g2, g3⟩ := hg
    obtain ⟨sb1, sb2, sb3⟩ := hsB
    have gR2 := (p3 s.2.1 sb2).2.2.1
    have q1 := p2.1.1
    have f7 := p2.2.2.2.2.1
    have efar : (nI s.2.2).toInt64 = lN s.2.2 := nI_l (by omega)
    have p60 : pre.length < 60 := by omega
    have fin : ∀ (h1 : pm_H) (v4 : Option Value), clW h1 x bits (wEd bits nd s w) → fr (x + 64) (x + 82) h h1 → hI h1 (x + 72) = hI h (x + 72) → pm_W PP (d + 4) 704 Q 0 0 2 [some (.ref (x + 72)), some (.ref c), some (.int (nI nd)), some (.int (nI (pre.length + 1))), v4] [] h1 := fun h1 v4 k1 k2 k3 => by
      have := ih (pre ++ [s]) (T + 1) (wEd bits nd s w) h1 v4 hL' (chS_eq k2.1 k2.2.1 (by rw [k2.2.2.1]) hs) (by rw [(k2.2.2.2.2 c (by omega)).1]; exact hl) (fun i hi => by rw [(k2.2.2.2.2 (c + 1) (by omega)).1, (k2.2.2.2.2 (c + 2) (by omega)).1, (k2.2.2.2.2 (c + 3) (by omega)).1]; exact hr i hi) k1 (wFo_ed hw ⟨sb1, sb2, sb3⟩) (fun h2 j1 j2 j3 => hQ h2 j1 (fr_trans k2 j2) (j3.trans k3))
      rw [el2] at this
      exact this
    rw [u_704_2]
    by_cases ca : s.1 = nd
    · by_cases cb : wR w s.2.1 = none
      · have eE : wEd bits nd s w = wTry bits nd s.2.1 (qL (wQ w) + s.2.2) w := by unfold wEd; rw [if_pos ⟨ca, cb⟩]
        rw [cb] at gR2
        have gR2 : hI h (x + 76) s.2.1 = -nI 1 := gR2
        rw [ca] at g1
        simp (disch := omega) only [B_704_2, nI1T, Nat.left_eq_add, Nat.add_eq_left, Nat.add_eq_zero_iff, and_false, false_and, if_false, if_true, opsN, opsC, pm_1, lg, ls1, ls2, lq, List.length_cons, List.length_nil, cN, cL, callE, retV, retN, pm_pop, pm_cat, List.map_cons, List.map_nil, List.sum_cons, List.sum_nil, Value.category, Option.toList, List.cons_append, List.nil_append, ↓reduceIte, reduceCtorEq, Nat.reduceAdd, Nat.reduceLT, Nat.reduceLeDiff, Nat.reduceSub, Nat.reduceEqDiff, Nat.zero_le, Nat.sub_zero, Nat.le_refl, true_and, and_true, not_true_eq_false, not_false_eq_true, true_or, or_true, lc_eq, lc_ne, lc_lt, lc_ge, lc_gt, lc_le, nI_add, lN_add, nI_leI, nI_ltI, nI_eq, nI_clamp, pk_lLT, pk_lLE, pk_lEQ, pk_sub, vp_inT, nz_eq, nz_lt, nz_ge, nz_gt, nz_le, lz_eq, lz_lt, lz_ge, hP1, hP2, hP3, hP4, hP5, hP6, hP7, hP8, hP9, hP10, hP11, hP12, hP13, hP14, hP15, hP16, hP17, hP18, hP19, hP20, s0, s1, s2, s3, u1, u2, u3, m1, m2, m3, hl, c1, g1, g2, g3, p60, y0, y1, y5, t4, n4, sb2, gR2, q1, f7, efar]
        refine c705 d hc hw.1 hw.2.2.2.1 hw.2.1 sb2 cb (by omega) (by have := hw.2.2.2.2; omega) ?_
        intro h' k1 k2 k3
        simp (disch := omega) only [u_704_61, B_704_61, nI1T, Nat.left_eq_add, Nat.add_eq_left, Nat.add_eq_zero_iff, and_false, false_and, if_false, if_true, opsN, opsC, pm_1, lg, ls1, ls2, lq, List.length_cons, List.length_nil, cN, cL, callE, retV, retN, pm_pop, pm_cat, List.map_cons, List.map_nil, List.sum_cons, List.sum_nil, Value.category, Option.toList, List.cons_append, List.nil_append, ↓reduceIte, reduceCtorEq, Nat.reduceAdd, Nat.reduceLT, Nat.reduceLeDiff, Nat.reduceSub, Nat.reduceEqDiff, Nat.zero_le, Nat.sub_zero, Nat.le_refl, true_and, and_true, not_true_eq_false, not_false_eq_true, true_or, or_true, lc_eq, lc_ne, lc_lt, lc_ge, lc_gt, lc_le, nI_add, lN_add, nI_leI, nI_ltI, nI_eq, nI_clamp, pk_lLT, pk_lLE, pk_lEQ, pk_sub, vp_inT, nz_eq, nz_lt, nz_ge, nz_gt, nz_le, lz_eq, lz_lt, lz_ge, hP1, hP2, hP3, hP4, hP5, hP6, hP7, hP8, hP9, hP10, hP11, hP12, hP13, hP14, hP15, hP16, hP17, hP18, hP19, hP20]
        exact fin h' _ (by rw [eE]; exact k1) k2 k3
      · have eE : wEd bits nd s w = w := by unfold wEd; rw [if_neg (fun q => cb q.2)]
        cases hrk : wR w s.2.1 with
        | none => exact absurd hrk cb
        | some rk =>
          rw [hrk, iv_so] at gR2
          have := hw.1.2.2.2.2.2.2.1 _ rk sb2 hrk
          have h16 := hw.2.2.2.1
          have e1 := m1_ne (n := rk) (by omega)
          rw [ca] at g1
          simp (disch := omega) only [B_704_2, u_704_61, B_704_61, nI1T, Nat.left_eq_add, Nat.add_eq_left, Nat.add_eq_zero_iff, and_false, false_and, if_false, if_true, opsN, opsC, pm_1, lg, ls1, ls2, lq, List.length_cons, List.length_nil, cN, cL, callE, retV, retN, pm_pop, pm_cat, List.map_cons, List.map_nil, List.sum_cons, List.sum_nil, Value.category, Option.toList, List.cons_append, List.nil_append, ↓reduceIte, reduceCtorEq, Nat.reduceAdd, Nat.reduceLT, Nat.reduceLeDiff, Nat.reduceSub, Nat.reduceEqDiff, Nat.zero_le, Nat.sub_zero, Nat.le_refl, true_and, and_true, not_true_eq_false, not_false_eq_true, true_or, or_true, lc_eq, lc_ne, lc_lt, lc_ge, lc_gt, lc_le, nI_add, lN_add, nI_leI, nI_ltI, nI_eq, nI_clamp, pk_lLT, pk_lLE, pk_lEQ, pk_sub, vp_inT, nz_eq, nz_lt, nz_ge, nz_gt, nz_le, lz_eq, lz_lt, lz_ge, hP1, hP2, hP3, hP4, hP5, hP6, hP7, hP8, hP9, hP10, hP11, hP12, hP13, hP14, hP15, hP16, hP17, hP18, hP19, hP20, s0, s1, s2, s3, u1, u2, u3, m1, m2, m3, hl, c1, g1, g2, g3, p60, y0, y1, y5, t4, n4, sb2, gR2, e1]
          exact fin h _ (by rw [eE]; exact hc) (fr_refl _ _ _) rfl
    · have eE : wEd bits nd s w = w := by unfold wEd; rw [if_neg (fun q => ca q.1)]
      have hnd := hw.2.1
      simp (disch := omega) only [B_704_2, u_704_61, B_704_61, nI1T, Nat.left_eq_add, Nat.add_eq_left, Nat.add_eq_zero_iff, and_false, false_and, if_false, if_true, opsN, opsC, pm_1, lg, ls1, ls2, lq, List.length_cons, List.length_nil, cN, cL, callE, retV, retN, pm_pop, pm_cat, List.map_cons, List.map_nil, List.sum_cons, List.sum_nil, Value.category, Option.toList, List.cons_append, List.nil_append, ↓reduceIte, reduceCtorEq, Nat.reduceAdd, Nat.reduceLT, Nat.reduceLeDiff, Nat.reduceSub, Nat.reduceEqDiff, Nat.zero_le, Nat.sub_zero, Nat.le_refl, true_and, and_true, not_true_eq_false, not_false_eq_true, true_or, or_true, lc_eq, lc_ne, lc_lt, lc_ge, lc_gt, lc_le, nI_add, lN_add, nI_leI, nI_ltI, nI_eq, nI_clamp, pk_lLT, pk_lLE, pk_lEQ, pk_sub, vp_inT, nz_eq, nz_lt, nz_ge, nz_gt, nz_le, lz_eq, lz_lt, lz_ge, hP1, hP2, hP3, hP4, hP5, hP6, hP7, hP8, hP9, hP10, hP11, hP12, hP13, hP14, hP15, hP16, hP17, hP18, hP19, hP20, s0, s1, s2, s3, u1, u2, u3, m1, m2, m3, hl, c1, g1, g2, g3, p60, ca]
      exact fin h _ (by rw [eE]; exact hc) (fr_refl _ _ _) rfl
end RZ2
