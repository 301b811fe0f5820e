/-! ===== the hand and what was before: the class's side ===== -/
/-- the states ahead of each act -/
def stA (B : Hs) : List At → List Hs
  | [] => []
  | x :: r => B :: stA (hAct x B) r
theorem stA_len : ∀ (B : Hs) (L : List At), (stA B L).length = L.length
  | _, [] => rfl
  | B, x :: r => by show (stA (hAct x B) r).length + 1 = r.length + 1; rw [stA_len]
theorem stA_app : ∀ (B : Hs) (L : List At) (y : At), stA B (L ++ [y]) = stA B L ++ [runA B L]
  | _, [], _ => rfl
  | B, x :: r, y => by
    show B :: stA (hAct x B) (r ++ [y]) = B :: (stA (hAct x B) r ++ [runA (hAct x B) r])
    rw [stA_app]
def psh (P : List Hs) (H : Hs) : List Hs := if P.length < 8 then P ++ [H] else P.tail ++ [H]
def isC (h : pm_H) (x a p : Nat) (H : Hs) (P : List Hs) : Prop :=
  isX h x a p ∧ (a + 13 ≤ p ∨ p + 18 ≤ a) ∧ (x < a ∨ a + 13 ≤ x) ∧ (x < p ∨ p + 18 ≤ x) ∧
  ∃ (B : Hs) (L : List At), runA B L = H ∧ stA B L = P ∧ isH h a H ∧ hJ B ∧ okA B L ∧ aS h p ∧ aR h p L ∧ isH h (p + 1) B
/-- nothing else changed but the hand and the acts -/
def frC (a p : Nat) (h h' : pm_H) : Prop := hT h' = hT h ∧ hN h' = hN h ∧ hR h' = hR h ∧ hn h' = hn h ∧ ∀ k, (k < a ∨ a + 13 ≤ k) → (k < p ∨ p + 18 ≤ k) → hI h' k = hI h k ∧ hL h' k = hL h k
theorem isC_J {h : pm_H} {x a p : Nat} {H : Hs} {P : List Hs} (hc : isC h x a p H P) : hJ H := by
  obtain ⟨_, _, _, _, B, L, e1, e2, b1, b2, b3, _⟩ := hc
  rw [← e1]; exact runA_J L b2 b3
theorem isC_H {h : pm_H} {x a p : Nat} {H : Hs} {P : List Hs} (hc : isC h x a p H P) : isH h a H := by
  obtain ⟨_, _, _, _, B, L, e1, e2, b1, _⟩ := hc
  exact b1
theorem isC_8 {h : pm_H} {x a p : Nat} {H : Hs} {P : List Hs} (hc : isC h x a p H P) : P.length ≤ 8 := by
  obtain ⟨_, _, _, _, B, L, e1, e2, b1, b2, b3, b4, b5, _⟩ := hc
  rw [← e2, stA_len]; exact b5.1
theorem isX_same {h h' : pm_H} {x a p : Nat} (h1 : hT h' = hT h) (h2 : hR h' = hR h) (hx : isX h x a p) : isX h' x a p := by
  unfold isX at *
  rw [h1, h2]; exact hx
theorem c928 (d : Nat) {h : pm_H} {x a p : Nat} {y : At} {H : Hs} {P : List Hs} {Q : pm_Q} (hc : isC h x a p H P) (ho : hOk y H)
    (hQ : ∀ h', isC h' x a p (hAct y H) (psh P H) → frC a p h h' → Q (.inl (some (.int (nI (hAns y H))))) h') :
    pm_M PP (d + 6) 928 [.ref x, .int (nI y.1), .int (nI y.2.1), .int (nI y.2.2.1), .long (lN y.2.2.2)] h Q := by
  obtain ⟨hx, hd, hx1, hx2, B, L, e1, e2, b1, b2, b3, b4, b5, b6⟩ := hc
  subst e1
  by_cases c : L.length < 8
  · refine c928a (d + 1) hx hd b1 b2 b3 b4 b5 b6 c ho ?_
    intro h' q1 q2 q3 q4 q5 q6 q7 q8 q9 q10
    rw [runA_app] at q1
    refine hQ h' ⟨isX_same q6 q8 hx, hd, hx1, hx2, B, L ++ [y], runA_app B L [y], ?_, q1, b2, q5, q2, q3, q4⟩ ⟨q6, q7, q8, q9, q10⟩
    rw [stA_app, e2]
    unfold psh
    rw [if_pos (by rw [← e2, stA_len]; exact c)]
  · have hl8 := b5.1
    cases L with
    | nil => exact absurd (by decide : ([] : List At).length < 8) c
    | cons z r =>
      rw [List.length_cons] at c hl8
      refine c928b d hx hd b1 b2 b3 b4 b5 b6 (by omega) ho ?_
      intro h' q1 q2 q3 q4 q5 q6 q7 q8 q9 q10
      rw [runA_app] at q1
      refine hQ h' ⟨isX_same q6 q8 hx, hd, hx1, hx2, hAct z B, r ++ [y], runA_app (hAct z B) r [y], ?_, q1, hAct_J b2 b3.1, q5, q2, q3, q4⟩ ⟨q6, q7, q8, q9, q10⟩
      rw [stA_app]
      unfold psh
      rw [if_neg (by rw [← e2, stA_len, List.length_cons]; omega), ← e2]
      rfl
/-- undo -/
theorem c912e (d : Nat) {h : pm_H} {x a p : Nat} {H : Hs} {Q : pm_Q} (hc : isC h x a p H []) (hQ : Q (.inl (some (.int (-nI 1)))) h) : pm_M PP (d + 2) 912 [.ref x] h Q := by
  obtain ⟨⟨x0, x1', x2, x3, x4⟩, hd, hx1, hx2, B, L, e1, e2, b1, b2, b3, b4, b5, b6⟩ := hc
  have t0 := b4.1
  have hL0 : L = [] := by
    cases L with
    | nil => rfl
    | cons z r => cases e2
  subst hL0
  rw [e_912]
  simp (disch := omega) only [u_912_0, B_912_0, nI1T, Nat.left_eq_add, Nat.add_eq_left, Nat.add_eq_zero_iff, and_false, false_and, if_false, if_true, opsN, opsC, pm_1, lg, ls1, ls2, lq, List.length_cons, List.length_nil, cN, cL, callE, retV, retN, pm_pop, pm_cat, List.map_cons, List.map_nil, List.sum_cons, List.sum_nil, Value.category, Option.toList, List.cons_append, List.nil_append, ↓reduceIte, reduceCtorEq, Nat.reduceAdd, Nat.reduceLT, Nat.reduceLeDiff, Nat.reduceSub, Nat.reduceEqDiff, Nat.zero_le, Nat.sub_zero, Nat.le_refl, true_and, and_true, not_true_eq_false, not_false_eq_true, true_or, or_true, lc_eq, lc_ne, lc_lt, lc_ge, lc_gt, lc_le, nI_add, lN_add, nI_leI, nI_ltI, nI_eq, nI_clamp, pk_lLT, pk_lLE, pk_lEQ, pk_sub, vp_inT, nz_eq, nz_lt, nz_ge, nz_gt, nz_le, lz_eq, lz_lt, lz_ge, hP1, hP2, hP3, hP4, hP5, hP6, hP7, hP8, hP9, hP10, hP11, hP12, hP13, hP14, hP15, hP16, hP17, hP18, hP19, hP20, x0, x1', x2, x3, x4, t0]
  refine c3e d b4 b5 ?_
  simp (disch := omega) only [nI1T, Nat.left_eq_add, Nat.add_eq_left, Nat.add_eq_zero_iff, and_false, false_and, if_false, if_true, opsN, opsC, pm_1, lg, ls1, ls2, lq, List.length_cons, List.length_nil, cN, cL, callE, retV, retN, pm_pop, pm_cat, List.map_cons, List.map_nil, List.sum_cons, List.sum_nil, Value.category, Option.toList, List.cons_append, List.nil_append, ↓reduceIte, reduceCtorEq, Nat.reduceAdd, Nat.reduceLT, Nat.reduceLeDiff, Nat.reduceSub, Nat.reduceEqDiff, Nat.zero_le, Nat.sub_zero, Nat.le_refl, true_and, and_true, not_true_eq_false, not_false_eq_true, true_or, or_true, lc_eq, lc_ne, lc_lt, lc_ge, lc_gt, lc_le, nI_add, lN_add, nI_leI, nI_ltI, nI_eq, nI_clamp, pk_lLT, pk_lLE, pk_lEQ, pk_sub, vp_inT, nz_eq, nz_lt, nz_ge, nz_gt, nz_le, lz_eq, lz_lt, lz_ge, hP1, hP2, hP3, hP4, hP5, hP6, hP7, hP8, hP9, hP10, hP11, hP12, hP13, hP14, hP15, hP16, hP17, hP18, hP19, hP20]
  exact hQ
theorem c912 (d : Nat) {h : pm_H} {x a p : Nat} {H H' : Hs} {P : List Hs} {Q : pm_Q} (hc : isC h x a p H (P ++ [H'])) (hQ : ∀ h', isC h' x a p H' P → frC a p h h' → Q (.inl (some (.int (nI P.length)))) h') : pm_M PP (d + 6) 912 [.ref x] h Q := by
  obtain ⟨⟨x0, x1', x2, x3, x4⟩, hd, hx1, hx2, B, L, e1, e2, b1, b2, b3, b4, b5, b6⟩ := hc
  have t0 := b4.1
  have hLne : L ≠ [] := fun q => by
    rw [q] at e2
    have := congrArg List.length e2
    rw [List.length_append] at this
    exact absurd this (by show ¬ 0 = P.length + 1; omega)
  obtain ⟨L0, y, hLe⟩ : ∃ L0 y, L = L0 ++ [y] := ⟨L.dropLast, L.getLast hLne, (List.dropLast_concat_getLast hLne).symm⟩
  subst hLe
  rw [stA_app] at e2
  have e3 := List.append_inj' e2 rfl
  have e4 : runA B L0 = H' := List.cons.inj e3.2 |>.1
  have ho0 := (okA_app B L0 [y]).mp b3
  have eP : P.length = L0.length := by rw [← e3.1, stA_len]
  rw [e_912]
  simp (disch := omega) only [u_912_0, B_912_0, nI1T, Nat.left_eq_add, Nat.add_eq_left, Nat.add_eq_zero_iff, and_false, false_and, if_false, if_true, opsN, opsC, pm_1, lg, ls1, ls2, lq, List.length_cons, List.length_nil, cN, cL, callE, retV, retN, pm_pop, pm_cat, List.map_cons, List.map_nil, List.sum_cons, List.sum_nil, Value.category, Option.toList, List.cons_append, List.nil_append, ↓reduceIte, reduceCtorEq, Nat.reduceAdd, Nat.reduceLT, Nat.reduceLeDiff, Nat.reduceSub, Nat.reduceEqDiff, Nat.zero_le, Nat.sub_zero, Nat.le_refl, true_and, and_true, not_true_eq_false, not_false_eq_true, true_or, or_true, lc_eq, lc_ne, lc_lt, lc_ge, lc_gt, lc_le, nI_add, lN_add, nI_leI, nI_ltI, nI_eq, nI_clamp, pk_lLT, pk_lLE, pk_lEQ, pk_sub, vp_inT, nz_eq, nz_lt, nz_ge, nz_gt, nz_le, lz_eq, lz_lt, lz_ge, hP1, hP2, hP3, hP4, hP5, hP6, hP7, hP8, hP9, hP10, hP11, hP12, hP13, hP14, hP15, hP16, hP17, hP18, hP19, hP20, x0, x1', x2, x3, x4, t0]
  refine c3 d hd b4 b5 b6 b2 ho0.1 b1 ?_
  intro h' q1 q2 q3 q4 q5 q6 q7 q8 q9
  simp (disch := omega) only [nI1T, Nat.left_eq_add, Nat.add_eq_left, Nat.add_eq_zero_iff, and_false, false_and, if_false, if_true, opsN, opsC, pm_1, lg, ls1, ls2, lq, List.length_cons, List.length_nil, cN, cL, callE, retV, retN, pm_pop, pm_cat, List.map_cons, List.map_nil, List.sum_cons, List.sum_nil, Value.category, Option.toList, List.cons_append, List.nil_append, ↓reduceIte, reduceCtorEq, Nat.reduceAdd, Nat.reduceLT, Nat.reduceLeDiff, Nat.reduceSub, Nat.reduceEqDiff, Nat.zero_le, Nat.sub_zero, Nat.le_refl, true_and, and_true, not_true_eq_false, not_false_eq_true, true_or, or_true, lc_eq, lc_ne, lc_lt, lc_ge, lc_gt, lc_le, nI_add, lN_add, nI_leI, nI_ltI, nI_eq, nI_clamp, pk_lLT, pk_lLE, pk_lEQ, pk_sub, vp_inT, nz_eq, nz_lt, nz_ge, nz_gt, nz_le, lz_eq, lz_lt, lz_ge, hP1, hP2, hP3, hP4, hP5, hP6, hP7, hP8, hP9, hP10, hP11, hP12, hP13, hP14, hP15, hP16, hP17, hP18, hP19, hP20]
  rw [← eP]
  rw [e4] at q4
  exact hQ h' ⟨isX_same q5 q7 ⟨x0, x1', x2, x3, x4⟩, hd, hx1, hx2, B, L0, e4, e3.1, q4, b2, ho0.1, q1, q2, q3⟩ ⟨q5, q6, q7, q8, fun k h1 h2 => q9 k (by omega) h1⟩
