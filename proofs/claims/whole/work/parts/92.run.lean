/-! ===== THE PLAN, RUN: plain, and by the class ===== -/
abbrev RT : Type := Qs × List Nat × (Nat → Bool)
abbrev RS : Type := RT × Nat
/-- a step: the queue, the taken ones, the buckets that ever had items; none: refused -/
def stS (bits : Nat) (s : St) (S : RT) : Option RT :=
  if s.1 = 0 then (if qL S.1 ≤ s.2.2 ∧ qC S.1 < 200 then some (qAdd bits s.2.2 S.1, S.2.1, va_up S.2.2 (bk bits (qL S.1) s.2.2) true) else none)
  else if s.1 = 1 then (if (qN S.1).length = 0 then none else some (qTake bits S.1, S.2.1 ++ [qTop bits S.1], rdyU bits S.1 S.2.2))
  else if s.1 = 2 then (if s.2.1 ∈ qN S.1 ∧ qL S.1 ≤ s.2.2 ∧ s.2.2 ≤ qK S.1 s.2.1 then some (qLow bits s.2.1 s.2.2 S.1, S.2.1, if bk bits (qL S.1) s.2.2 = qW S.1 s.2.1 then S.2.2 else va_up S.2.2 (bk bits (qL S.1) s.2.2) true) else none)
  else (if s.2.1 ∈ qN S.1 then some (qCast s.2.1 S.1, S.2.1, S.2.2) else none)
def doS (bits : Nat) (s : St) (S : RS) : RS := match stS bits s S.1 with
  | some S' => (S', S.2)
  | none => (S.1, S.2 + 1)
def runS (bits : Nat) : List St → RS → RS
  | [], S => S
  | s :: r, S => runS bits r (doS bits s S)
theorem runS_app (bits : Nat) : ∀ (L R : List St) (S : RS), runS bits (L ++ R) S = runS bits R (runS bits L S)
  | [], R, S => rfl
  | s :: L, R, S => runS_app bits L R (doS bits s S)
def r0 : RS := ((q0, [], fun _ => false), 0)
/-- what holds of a run at all times -/
def rtI (bits : Nat) (S : RT) (n : Nat) : Prop := qI bits 200 S.1 ∧ S.2.1.length + (qN S.1).length ≤ qC S.1 ∧ (∀ i, i < qC S.1 → qM S.1 i ≤ n) ∧ (∀ k, 160 ≤ k → S.2.2 k = false) ∧ ∀ y, y ∈ S.2.1 → y < qC S.1
theorem dltU_f {bits m : Nat} {K : Nat → Nat} (h1 : 1 ≤ bits) (h4 : bits ≤ 4) (hm : m < 2 ^ 40) : ∀ (L : List Nat) (U : Nat → Bool), (∀ x, x ∈ L → K x < 2 ^ 40) → (∀ k, 160 ≤ k → U k = false) → ∀ k, 160 ≤ k → dltU bits m K L U k = false
  | [], U, _, hU, k, hk => hU k hk
  | x :: r, U, hL, hU, k, hk => by
    refine dltU_f h1 h4 hm r _ (fun y hy => hL y (List.mem_cons_of_mem _ hy)) (fun j hj => ?_) k hk
    have := bk_bound (b := bits) (l := m) (k := K x) (by omega) h4 (hL x (List.mem_cons_self ..)) hm
    rw [va_up_ne _ _ (by omega)]; exact hU j hj
theorem low_N {bits i key : Nat} {A : Qs} (hi : i ∈ qN A) : (qN (qLow bits i key A)).length = (qN A).length := by
  unfold qLow
  by_cases e : bk bits (qL A) key = qW A i
  · rw [if_pos e]; rfl
  · rw [if_neg e]
    show (insB _ _ _ _).length = _
    rw [insB_len, erase_len hi]
    have := List.length_pos_of_mem hi
    omega
theorem top_lt {bits : Nat} {A : Qs} (hI1 : qI bits 200 A) (hne : qN A ≠ []) : qTop bits A < qC A := by
  obtain ⟨a, b, c, e, f, _⟩ := rdy_spec hI1 hne
  have : (qN (qRdy bits A)).headD 0 ∈ qN (qRdy bits A) := by
    cases hN : qN (qRdy bits A) with
    | nil => exact absurd hN c
    | cons y r => exact List.mem_cons_self ..
  have := (qI_line a _ this).1
  rw [f] at this; exact this
theorem stS_I {bits n : Nat} {s : St} {S S' : RT} (hI1 : rtI bits S n) (hs : stB s) (h : stS bits s S = some S') : rtI bits S' (n + 1) := by
  obtain ⟨a1, a2, a3, a4, a5⟩ := hI1
  obtain ⟨b1, b2, b3⟩ := hs
  have i1 := a1.1
  have i2 := a1.2.1
  have i5 := a1.2.2.2.2.1
  unfold stS at h
  by_cases e0 : s.1 = 0
  · rw [if_pos e0] at h
    by_cases c : qL S.1 ≤ s.2.2 ∧ qC S.1 < 200
    · rw [if_pos c] at h
      cases h
      have hk : s.2.2 < 2 ^ 40 := by omega
      refine ⟨qI_add a1 hk c.1 c.2, ?_, fun i hi => ?_, fun k hk' => ?_, fun y hy => ?_⟩
      · show S.2.1.length + (insB _ _ _ _).length ≤ qC S.1 + 1; rw [insB_len]; omega
      · have hi : i < qC S.1 + 1 := hi
        show va_up _ _ _ i ≤ _
        rw [va_upE]; split
        · omega
        · have := a3 i (by omega); omega
      · have := bk_bound (b := bits) (l := qL S.1) (k := s.2.2) (by omega) i2 hk i5
        show va_up _ _ _ k = _
        rw [va_up_ne _ _ (by omega)]; exact a4 k hk'
      · have := a5 y hy; show y < qC S.1 + 1; omega
    · rw [if_neg c] at h; cases h
  · rw [if_neg e0] at h
    by_cases e1 : s.1 = 1
    · rw [if_pos e1] at h
      by_cases c : (qN S.1).length = 0
      · rw [if_pos c] at h; cases h
      · rw [if_neg c] at h
        cases h
        have hne : qN S.1 ≠ [] := fun z => c (by rw [z]; rfl)
        obtain ⟨t1, t2, t3, t4⟩ := qI_take a1 hne
        refine ⟨t1, ?_, fun i hi => ?_, fun k hk' => ?_, fun y hy => ?_⟩
        · show (S.2.1 ++ [_]).length + (qN (qTake bits S.1)).length ≤ qC (qTake bits S.1)
          rw [List.length_append, t2]; show S.2.1.length + 1 + _ ≤ _; omega
        · have hi : i < qC (qTake bits S.1) := hi
          rw [t2] at hi
          have := t4 i
          have := a3 i hi
          show qM (qTake bits S.1) i ≤ n + 1; omega
        · show rdyU bits S.1 S.2.2 k = false
          unfold rdyU
          split
          · exact a4 k hk'
          · rename_i z
            have df := deal_facts a1 hne (by omega)
            refine dltU_f i1 i2 df.2.1 _ _ (fun y hy => ?_) a4 k hk'
            have : y ∈ qN S.1 := by rw [← hd_split]; exact List.mem_append_left _ hy
            exact a1.2.2.2.2.2.1 y (qI_line a1 y this).1
        · show y < qC (qTake bits S.1)
          rw [t2]
          have hy : y ∈ S.2.1 ++ [qTop bits S.1] := hy
          rcases List.mem_append.mp hy with z | z
          · exact a5 y z
          · rw [List.mem_singleton.mp z]; exact top_lt a1 hne
    · rw [if_neg e1] at h
      by_cases e2 : s.1 = 2
      · rw [if_pos e2] at h
        by_cases c : s.2.1 ∈ qN S.1 ∧ qL S.1 ≤ s.2.2 ∧ s.2.2 ≤ qK S.1 s.2.1
        · rw [if_pos c] at h
          cases h
          have hk : s.2.2 < 2 ^ 40 := by omega
          refine ⟨qI_low a1 c.1 hk c.2.1, ?_, fun i hi => ?_, fun k hk' => ?_, fun y hy => ?_⟩
          · show S.2.1.length + (qN (qLow bits s.2.1 s.2.2 S.1)).length ≤ qC (qLow bits s.2.1 s.2.2 S.1)
            rw [low_N c.1, low_C]; exact a2
          · have hi : i < qC (qLow bits s.2.1 s.2.2 S.1) := hi
            rw [low_C] at hi
            have h1 := low_M (bits := bits) (i := s.2.1) (key := s.2.2) (j := i) (A := S.1)
            have := a3 i hi
            show qM (qLow bits s.2.1 s.2.2 S.1) i ≤ n + 1; omega
          · show (if _ then S.2.2 else _) k = false
            split
            · exact a4 k hk'
            · have := bk_bound (b := bits) (l := qL S.1) (k := s.2.2) (by omega) i2 hk i5
              rw [va_up_ne _ _ (by omega)]; exact a4 k hk'
          · show y < qC (qLow bits s.2.1 s.2.2 S.1)
            rw [low_C]; exact a5 y hy
        · rw [if_neg c] at h; cases h
      · rw [if_neg e2] at h
        by_cases c : s.2.1 ∈ qN S.1
        · rw [if_pos c] at h
          cases h
          refine ⟨qI_cast a1 c, ?_, fun i hi => ?_, a4, a5⟩
          · show S.2.1.length + ((qN S.1).erase s.2.1).length ≤ qC S.1
            rw [erase_len c]; omega
          · have := a3 i hi; exact Nat.le_trans this (by omega)
        · rw [if_neg c] at h; cases h
theorem doS_I {bits n : Nat} {s : St} {S : RS} (hI1 : rtI bits S.1 n) (hs : stB s) : rtI bits (doS bits s S).1 (n + 1) := by
  unfold doS
  cases e : stS bits s S.1 with
  | none =>
    obtain ⟨a1, a2, a3, a4, a5⟩ := hI1
    exact ⟨a1, a2, fun i hi => Nat.le_trans (a3 i hi) (by omega), a4, a5⟩
  | some S' => exact stS_I hI1 hs e
theorem runS_I {bits : Nat} : ∀ (L : List St) (S : RS) (n : Nat), rtI bits S.1 n → (∀ s, s ∈ L → stB s) → rtI bits (runS bits L S).1 (n + L.length)
  | [], S, n, h, _ => h
  | s :: r, S, n, h, hs => by
    have := runS_I r (doS bits s S) (n + 1) (doS_I h (hs s (List.mem_cons_self ..))) (fun z hz => hs z (List.mem_cons_of_mem _ hz))
    rw [List.length_cons, show n + (r.length + 1) = n + 1 + r.length by omega]
    exact this
theorem r0_I {bits : Nat} (h1 : 1 ≤ bits) (h4 : bits ≤ 4) : rtI bits r0.1 0 := ⟨qI_emp (A := q0) h1 h4 (by decide), Nat.le_refl _, fun i hi => absurd hi (Nat.not_lt_zero _), fun _ _ => rfl, fun y hy => absurd hy List.not_mem_nil⟩
/-! the class -/
def prS (h : pm_H) (x : Nat) : Prop := hT h (x + 70) = 5 ∧ hR h (x + 70) 0 = x + 64 ∧ hR h (x + 70) 1 = x + 71 ∧ hT h (x + 71) = 100 ∧ hN h (x + 71) = 200
def clT (h : pm_H) (x bits : Nat) (S : RT) : Prop := prS h x ∧ isB h (x + 64) 300 bits 200 S.1 ∧ isF h (x + 64) S.2.2 ∧ hI h (x + 70) 2 = nI S.2.1.length ∧ ∀ i, i < S.2.1.length → hI h (x + 71) i = nI (S.2.1.getD i 0)
theorem prS_fr {lo hi x : Nat} {h h' : pm_H} (f : fr lo hi h h') (hs : prS h x) : prS h' x := by
  unfold prS at *; rw [f.1, f.2.1, f.2.2.1]; exact hs
section RU
variable {h : pm_H} {x bits : Nat} {S : RT} {Q : pm_Q}
theorem clT_q {A' : Qs} {U' : Nat → Bool} {h' : pm_H} (hc : clT h x bits S) (f : fr (x + 64) (x + 64 + 6) h h') (hB : isB h' (x + 64) 300 bits 200 A') (hF : isF h' (x + 64) U') : clT h' x bits (A', S.2.1, U') := by
  obtain ⟨p1, p2, p3, p4, p5⟩ := hc
  refine ⟨prS_fr f p1, hB, hF, ?_, fun i hi => ?_⟩
  · rw [(f.2.2.2.2 _ (by omega)).1]; exact p4
  · rw [(f.2.2.2.2 _ (by omega)).1]; exact p5 i hi
theorem m1_ne {n : Nat} (h : n < 2 ^ 31) : (nI n = -nI 1) = False := eq_false fun q => by
  have := congrArg Int32.toInt q
  rw [nI_toInt h] at this
  have e9 : (-nI 1 : Int32).toInt = -1 := by decide
  omega
theorem c502 (d : Nat) {n : Nat} {s : St} (hc : clT h x bits S) (hI1 : rtI bits S n) (hs : stB s)
    (hQ1 : ∀ S' h', stS bits s S = some S' → clT h' x bits S' → fr (x + 64) (x + 82) h h' → hI h' (x + 70) 3 = hI h (x + 70) 3 → Q (.inl (some (.int (nI 1)))) h')
    (hQ0 : stS bits s S = none → Q (.inl (some (.int (nI 0)))) h) : pm_M PP (d + 4) 502 [.ref (x + 70), .int (nI s.1), .int (nI s.2.1), .int (nI s.2.2)] h Q := by
  obtain ⟨s1, i, k⟩ := s
  obtain ⟨b1, b2, b3⟩ := hs
  have hc0 := hc
  obtain ⟨⟨p1, p2, p3, p4, p5⟩, hB, hF, g2, g3⟩ := hc
  obtain ⟨a1, a2, a3, a4, a5⟩ := id hI1
  have b1 : s1 < 4 := b1
  have b2 : i < 200 := b2
  have b3 : k ≤ 1000000000 := b3
  have hk : k < 2 ^ 40 := by omega
  have el : (nI k).toInt64 = lN k := nI_l (by omega)
  have q1 := hB.1.1
  have i3 := a1.2.2.1
  rw [e_502]
  rcases (show s1 = 0 ∨ s1 = 1 ∨ s1 = 2 ∨ s1 = 3 by omega) with e | e | e | e <;> subst e
  · simp (disch := omega) only [u_502_0, B_502_0, nI1T, Nat.left_eq_add, Nat.add_eq_left, Nat.add_eq_zero_iff, and_false, false_and, if_false, if_true, opsN, opsC, pm_1, lg, ls1, ls2, lq, List.length_cons, List.length_nil, cN, cL, callE, retV, retN, pm_pop, pm_cat, List.map_cons, List.map_nil, List.sum_cons, List.sum_nil, Value.category, Option.toList, List.cons_append, List.nil_append, ↓reduceIte, reduceCtorEq, Nat.reduceAdd, Nat.reduceLT, Nat.reduceLeDiff, Nat.reduceSub, Nat.reduceEqDiff, Nat.zero_le, Nat.sub_zero, Nat.le_refl, true_and, and_true, not_true_eq_false, not_false_eq_true, true_or, or_true, lc_eq, lc_ne, lc_lt, lc_ge, lc_gt, lc_le, nI_add, lN_add, nI_leI, nI_ltI, nI_eq, nI_clamp, pk_lLT, pk_lLE, pk_lEQ, pk_sub, vp_inT, nz_eq, nz_lt, nz_ge, nz_gt, nz_le, lz_eq, lz_lt, lz_ge, hP1, hP2, hP3, hP4, hP5, hP6, hP7, hP8, hP9, hP10, hP11, hP12, hP13, hP14, hP15, hP16, hP17, hP18, hP19, hP20, ts0, Int.reduceLT, or_self, or_false, false_or, or_true, true_or, Int.sub_self, Int.toNat_zero, if_true, if_false]
    show pm_W PP (d + 3) 502 Q _ _ 28 _ _ _
    simp (disch := omega) only [u_502_28, B_502_28, nI1T, Nat.left_eq_add, Nat.add_eq_left, Nat.add_eq_zero_iff, and_false, false_and, if_false, if_true, opsN, opsC, pm_1, lg, ls1, ls2, lq, List.length_cons, List.length_nil, cN, cL, callE, retV, retN, pm_pop, pm_cat, List.map_cons, List.map_nil, List.sum_cons, List.sum_nil, Value.category, Option.toList, List.cons_append, List.nil_append, ↓reduceIte, reduceCtorEq, Nat.reduceAdd, Nat.reduceLT, Nat.reduceLeDiff, Nat.reduceSub, Nat.reduceEqDiff, Nat.zero_le, Nat.sub_zero, Nat.le_refl, true_and, and_true, not_true_eq_false, not_false_eq_true, true_or, or_true, lc_eq, lc_ne, lc_lt, lc_ge, lc_gt, lc_le, nI_add, lN_add, nI_leI, nI_ltI, nI_eq, nI_clamp, pk_lLT, pk_lLE, pk_lEQ, pk_sub, vp_inT, nz_eq, nz_lt, nz_ge, nz_gt, nz_le, lz_eq, lz_lt, lz_ge, hP1, hP2, hP3, hP4, hP5, hP6, hP7, hP8, hP9, hP10, hP11, hP12, hP13, hP14, hP15, hP16, hP17, hP18, hP19, hP20, p1, p2, el, q1]
    by_cases c : qL S.1 ≤ k ∧ qC S.1 < 200
    · have eS : stS bits (0, i, k) S = some (qAdd bits k S.1, S.2.1, va_up S.2.2 (bk bits (qL S.1) k) true) := by unfold stS; rw [if_pos rfl, if_pos c]
      refine c109t (d + 1) hB a1 hk c.1 c.2 ?_
      intro h' z1 z2 z3
      have e1 := m1_ne (n := qC S.1) (by omega)
      simp (disch := omega) only [u_502_46, B_502_46, nI1T, Nat.left_eq_add, Nat.add_eq_left, Nat.add_eq_zero_iff, and_false, false_and, if_false, if_true, opsN, opsC, pm_1, lg, ls1, ls2, lq, List.length_cons, List.length_nil, cN, cL, callE, retV, retN, pm_pop, pm_cat, List.map_cons, List.map_nil, List.sum_cons, List.sum_nil, Value.category, Option.toList, List.cons_append, List.nil_append, ↓reduceIte, reduceCtorEq, Nat.reduceAdd, Nat.reduceLT, Nat.reduceLeDiff, Nat.reduceSub, Nat.reduceEqDiff, Nat.zero_le, Nat.sub_zero, Nat.le_refl, true_and, and_true, not_true_eq_false, not_false_eq_true, true_or, or_true, lc_eq, lc_ne, lc_lt, lc_ge, lc_gt, lc_le, nI_add, lN_add, nI_leI, nI_ltI, nI_eq, nI_clamp, pk_lLT, pk_lLE, pk_lEQ, pk_sub, vp_inT, nz_eq, nz_lt, nz_ge, nz_gt, nz_le, lz_eq, lz_lt, lz_ge, hP1, hP2, hP3, hP4, hP5, hP6, hP7, hP8, hP9, hP10, hP11, hP12, hP13, hP14, hP15, hP16, hP17, hP18, hP19, hP20, e1]
      exact hQ1 _ h' eS (clT_q hc0 z3 z1 (z2 _ hF)) (fr_wide z3 (by omega) (by omega)) (by rw [(z3.2.2.2.2 _ (by omega)).1])
    · have eS : stS bits (0, i, k) S = none := by unfold stS; rw [if_pos rfl, if_neg c]
      refine c109f (d + 1) hB a1 hk c ?_
      simp (disch := omega) only [u_502_45, B_502_45, u_502_46, B_502_46, nI1T, Nat.left_eq_add, Nat.add_eq_left, Nat.add_eq_zero_iff, and_false, false_and, if_false, if_true, opsN, opsC, pm_1, lg, ls1, ls2, lq, List.length_cons, List.length_nil, cN, cL, callE, retV, retN, pm_pop, pm_cat, List.map_cons, List.map_nil, List.sum_cons, List.sum_nil, Value.category, Option.toList, List.cons_append, List.nil_append, ↓reduceIte, reduceCtorEq, Nat.reduceAdd, Nat.reduceLT, Nat.reduceLeDiff, Nat.reduceSub, Nat.reduceEqDiff, Nat.zero_le, Nat.sub_zero, Nat.le_refl, true_and, and_true, not_true_eq_false, not_false_eq_true, true_or, or_true, lc_eq, lc_ne, lc_lt, lc_ge, lc_gt, lc_le, nI_add, lN_add, nI_leI, nI_ltI, nI_eq, nI_clamp, pk_lLT, pk_lLE, pk_lEQ, pk_sub, vp_inT, nz_eq, nz_lt, nz_ge, nz_gt, nz_le, lz_eq, lz_lt, lz_ge, hP1, hP2, hP3, hP4, hP5, hP6, hP7, hP8, hP9, hP10, hP11, hP12, hP13, hP14, hP15, hP16, hP17, hP18, hP19, hP20]
      exact hQ0 eS
  · simp (disch := omega) only [u_502_0, B_502_0, nI1T, Nat.left_eq_add, Nat.add_eq_left, Nat.add_eq_zero_iff, and_false, false_and, if_false, if_true, opsN, opsC, pm_1, lg, ls1, ls2, lq, List.length_cons, List.length_nil, cN, cL, callE, retV, retN, pm_pop, pm_cat, List.map_cons, List.map_nil, List.sum_cons, List.sum_nil, Value.category, Option.toList, List.cons_append, List.nil_append, ↓reduceIte, reduceCtorEq, Nat.reduceAdd, Nat.reduceLT, Nat.reduceLeDiff, Nat.reduceSub, Nat.reduceEqDiff, Nat.zero_le, Nat.sub_zero, Nat.le_refl, true_and, and_true, not_true_eq_false, not_false_eq_true, true_or, or_true, lc_eq, lc_ne, lc_lt, lc_ge, lc_gt, lc_le, nI_add, lN_add, nI_leI, nI_ltI, nI_eq, nI_clamp, pk_lLT, pk_lLE, pk_lEQ, pk_sub, vp_inT, nz_eq, nz_lt, nz_ge, nz_gt, nz_le, lz_eq, lz_lt, lz_ge, hP1, hP2, hP3, hP4, hP5, hP6, hP7, hP8, hP9, hP10, hP11, hP12, hP13, hP14, hP15, hP16, hP17, hP18, hP19, hP20, ts1, Int.reduceLT, or_self, or_false, false_or, or_true, true_or, Int.sub_self, Int.toNat_zero, if_true, if_false]
    show pm_W PP (d + 3) 502 Q _ _ 47 _ _ _
    simp (disch := omega) only [u_502_47, B_502_47, nI1T, Nat.left_eq_add, Nat.add_eq_left, Nat.add_eq_zero_iff, and_false, false_and, if_false, if_true, opsN, opsC, pm_1, lg, ls1, ls2, lq, List.length_cons, List.length_nil, cN, cL, callE, retV, retN, pm_pop, pm_cat, List.map_cons, List.map_nil, List.sum_cons, List.sum_nil, Value.category, Option.toList, List.cons_append, List.nil_append, ↓reduceIte, reduceCtorEq, Nat.reduceAdd, Nat.reduceLT, Nat.reduceLeDiff, Nat.reduceSub, Nat.reduceEqDiff, Nat.zero_le, Nat.sub_zero, Nat.le_refl, true_and, and_true, not_true_eq_false, not_false_eq_true, true_or, or_true, lc_eq, lc_ne, lc_lt, lc_ge, lc_gt, lc_le, nI_add, lN_add, nI_leI, nI_ltI, nI_eq, nI_clamp, pk_lLT, pk_lLE, pk_lEQ, pk_sub, vp_inT, nz_eq, nz_lt, nz_ge, nz_gt, nz_le, lz_eq, lz_lt, lz_ge, hP1, hP2, hP3, hP4, hP5, hP6, hP7, hP8, hP9, hP10, hP11, hP12, hP13, hP14, hP15, hP16, hP17, hP18, hP19, hP20, p1, p2, q1]
    by_cases c : (qN S.1).length = 0
    · have eS : stS bits (1, i, k) S = none := by unfold stS; rw [if_neg (show ¬ (1 : Nat) = 0 by decide), if_pos rfl, if_pos c]
      refine c110e (d + 2) hB (List.length_eq_zero_iff.mp c) ?_
      simp (disch := omega) only [nI1T, Nat.left_eq_add, Nat.add_eq_left, Nat.add_eq_zero_iff, and_false, false_and, if_false, if_true, opsN, opsC, pm_1, lg, ls1, ls2, lq, List.length_cons, List.length_nil, cN, cL, callE, retV, retN, pm_pop, pm_cat, List.map_cons, List.map_nil, List.sum_cons, List.sum_nil, Value.category, Option.toList, List.cons_append, List.nil_append, ↓reduceIte, reduceCtorEq, Nat.reduceAdd, Nat.reduceLT, Nat.reduceLeDiff, Nat.reduceSub, Nat.reduceEqDiff, Nat.zero_le, Nat.sub_zero, Nat.le_refl, true_and, and_true, not_true_eq_false, not_false_eq_true, true_or, or_true, lc_eq, lc_ne, lc_lt, lc_ge, lc_gt, lc_le, nI_add, lN_add, nI_leI, nI_ltI, nI_eq, nI_clamp, pk_lLT, pk_lLE, pk_lEQ, pk_sub, vp_inT, nz_eq, nz_lt, nz_ge, nz_gt, nz_le, lz_eq, lz_lt, lz_ge, hP1, hP2, hP3, hP4, hP5, hP6, hP7, hP8, hP9, hP10, hP11, hP12, hP13, hP14, hP15, hP16, hP17, hP18, hP19, hP20, p1]
      rw [e_503]
      simp (disch := omega) only [u_503_0, B_503_0, u_503_15, B_503_15, nI1T, Nat.left_eq_add, Nat.add_eq_left, Nat.add_eq_zero_iff, and_false, false_and, if_false, if_true, opsN, opsC, pm_1, lg, ls1, ls2, lq, List.length_cons, List.length_nil, cN, cL, callE, retV, retN, pm_pop, pm_cat, List.map_cons, List.map_nil, List.sum_cons, List.sum_nil, Value.category, Option.toList, List.cons_append, List.nil_append, ↓reduceIte, reduceCtorEq, Nat.reduceAdd, Nat.reduceLT, Nat.reduceLeDiff, Nat.reduceSub, Nat.reduceEqDiff, Nat.zero_le, Nat.sub_zero, Nat.le_refl, true_and, and_true, not_true_eq_false, not_false_eq_true, true_or, or_true, lc_eq, lc_ne, lc_lt, lc_ge, lc_gt, lc_le, nI_add, lN_add, nI_leI, nI_ltI, nI_eq, nI_clamp, pk_lLT, pk_lLE, pk_lEQ, pk_sub, vp_inT, nz_eq, nz_lt, nz_ge, nz_gt, nz_le, lz_eq, lz_lt, lz_ge, hP1, hP2, hP3, hP4, hP5, hP6, hP7, hP8, hP9, hP10, hP11, hP12, hP13, hP14, hP15, hP16, hP17, hP18, hP19, hP20]
      exact hQ0 eS
    · have hne : qN S.1 ≠ [] := fun z => c (by rw [z]; rfl)
      have eS : stS bits (1, i, k) S = some (qTake bits S.1, S.2.1 ++ [qTop bits S.1], rdyU bits S.1 S.2.2) := by unfold stS; rw [if_neg (show ¬ (1 : Nat) = 0 by decide), if_pos rfl, if_neg c]
      refine c110t d hB a1 hne ?_
      intro h' z1 z2 z3
      have ht := top_lt a1 hne
      have e1 := m1_ne (n := qTop bits S.1) (by omega)
      have hc1 := clT_q hc0 z3 z1 (z2 _ hF)
      obtain ⟨⟨w1, w2, w3, w4, w5⟩, wB, wF, wg2, wg3⟩ := id hc1
      have lt : S.2.1.length < 200 := by omega
      have wg2 : hI h' (x + 70) 2 = nI S.2.1.length := wg2
      simp (disch := omega) only [nI1T, Nat.left_eq_add, Nat.add_eq_left, Nat.add_eq_zero_iff, and_false, false_and, if_false, if_true, opsN, opsC, pm_1, lg, ls1, ls2, lq, List.length_cons, List.length_nil, cN, cL, callE, retV, retN, pm_pop, pm_cat, List.map_cons, List.map_nil, List.sum_cons, List.sum_nil, Value.category, Option.toList, List.cons_append, List.nil_append, ↓reduceIte, reduceCtorEq, Nat.reduceAdd, Nat.reduceLT, Nat.reduceLeDiff, Nat.reduceSub, Nat.reduceEqDiff, Nat.zero_le, Nat.sub_zero, Nat.le_refl, true_and, and_true, not_true_eq_false, not_false_eq_true, true_or, or_true, lc_eq, lc_ne, lc_lt, lc_ge, lc_gt, lc_le, nI_add, lN_add, nI_leI, nI_ltI, nI_eq, nI_clamp, pk_lLT, pk_lLE, pk_lEQ, pk_sub, vp_inT, nz_eq, nz_lt, nz_ge, nz_gt, nz_le, lz_eq, lz_lt, lz_ge, hP1, hP2, hP3, hP4, hP5, hP6, hP7, hP8, hP9, hP10, hP11, hP12, hP13, hP14, hP15, hP16, hP17, hP18, hP19, hP20, w1]
      rw [e_503]
      simp (disch := omega) only [u_503_0, B_503_0, u_503_17, B_503_17, nI1T, Nat.left_eq_add, Nat.add_eq_left, Nat.add_eq_zero_iff, and_false, false_and, if_false, if_true, opsN, opsC, pm_1, lg, ls1, ls2, lq, List.length_cons, List.length_nil, cN, cL, callE, retV, retN, pm_pop, pm_cat, List.map_cons, List.map_nil, List.sum_cons, List.sum_nil, Value.category, Option.toList, List.cons_append, List.nil_append, ↓reduceIte, reduceCtorEq, Nat.reduceAdd, Nat.reduceLT, Nat.reduceLeDiff, Nat.reduceSub, Nat.reduceEqDiff, Nat.zero_le, Nat.sub_zero, Nat.le_refl, true_and, and_true, not_true_eq_false, not_false_eq_true, true_or, or_true, lc_eq, lc_ne, lc_lt, lc_ge, lc_gt, lc_le, nI_add, lN_add, nI_leI, nI_ltI, nI_eq, nI_clamp, pk_lLT, pk_lLE, pk_lEQ, pk_sub, vp_inT, nz_eq, nz_lt, nz_ge, nz_gt, nz_le, lz_eq, lz_lt, lz_ge, hP1, hP2, hP3, hP4, hP5, hP6, hP7, hP8, hP9, hP10, hP11, hP12, hP13, hP14, hP15, hP16, hP17, hP18, hP19, hP20, e1, w1, w3, w4, w5, wg2, lt, va_upE]
      have fA : fr (x + 64) (x + 82) h' (sI (sI h' (x + 71) (va_up (hI h' (x + 71)) S.2.1.length (nI (qTop bits S.1)))) (x + 70) (va_up (hI h' (x + 70)) 2 (nI (S.2.1.length + 1)))) := fr_sI (fr_sI (fr_refl _ _ _) (by omega) (by omega)) (by omega) (by omega)
      have fB : fr (x + 70) (x + 72) h' (sI (sI h' (x + 71) (va_up (hI h' (x + 71)) S.2.1.length (nI (qTop bits S.1)))) (x + 70) (va_up (hI h' (x + 70)) 2 (nI (S.2.1.length + 1)))) := fr_sI (fr_sI (fr_refl _ _ _) (by omega) (by omega)) (by omega) (by omega)
      refine hQ1 _ _ eS ⟨prS_fr fA ⟨w1, w2, w3, w4, w5⟩, isB_fr fB (by omega) wB, isF_fr fB (by omega) wF, ?_, fun j hj => ?_⟩ (fr_trans (fr_wide z3 (by omega) (by omega)) fA) ?_
      · rw [hI_at, va_up_self]; show _ = nI (S.2.1 ++ [_]).length; rw [List.length_append]; rfl
      · rw [hP1, va_up_ne _ _ (by omega), hI_at]
        exact app_row (L := S.2.1) (y := qTop bits S.1) (dd := 0) (π := fun e => e) (fun i hi => wg3 i hi) j hj
      · rw [hI_at, va_up_ne _ _ (by decide), (z3.2.2.2.2 _ (by omega)).1]
  · simp (disch := omega) only [u_502_0, B_502_0, nI1T, Nat.left_eq_add, Nat.add_eq_left, Nat.add_eq_zero_iff, and_false, false_and, if_false, if_true, opsN, opsC, pm_1, lg, ls1, ls2, lq, List.length_cons, List.length_nil, cN, cL, callE, retV, retN, pm_pop, pm_cat, List.map_cons, List.map_nil, List.sum_cons, List.sum_nil, Value.category, Option.toList, List.cons_append, List.nil_append, ↓reduceIte, reduceCtorEq, Nat.reduceAdd, Nat.reduceLT, Nat.reduceLeDiff, Nat.reduceSub, Nat.reduceEqDiff, Nat.zero_le, Nat.sub_zero, Nat.le_refl, true_and, and_true, not_true_eq_false, not_false_eq_true, true_or, or_true, lc_eq, lc_ne, lc_lt, lc_ge, lc_gt, lc_le, nI_add, lN_add, nI_leI, nI_ltI, nI_eq, nI_clamp, pk_lLT, pk_lLE, pk_lEQ, pk_sub, vp_inT, nz_eq, nz_lt, nz_ge, nz_gt, nz_le, lz_eq, lz_lt, lz_ge, hP1, hP2, hP3, hP4, hP5, hP6, hP7, hP8, hP9, hP10, hP11, hP12, hP13, hP14, hP15, hP16, hP17, hP18, hP19, hP20, ts2, Int.reduceLT, or_self, or_false, false_or, or_true, true_or, Int.sub_self, Int.toNat_zero, if_true, if_false]
    show pm_W PP (d + 3) 502 Q _ _ 59 _ _ _
    simp (disch := omega) only [u_502_59, B_502_59, nI1T, Nat.left_eq_add, Nat.add_eq_left, Nat.add_eq_zero_iff, and_false, false_and, if_false, if_true, opsN, opsC, pm_1, lg, ls1, ls2, lq, List.length_cons, List.length_nil, cN, cL, callE, retV, retN, pm_pop, pm_cat, List.map_cons, List.map_nil, List.sum_cons, List.sum_nil, Value.category, Option.toList, List.cons_append, List.nil_append, ↓reduceIte, reduceCtorEq, Nat.reduceAdd, Nat.reduceLT, Nat.reduceLeDiff, Nat.reduceSub, Nat.reduceEqDiff, Nat.zero_le, Nat.sub_zero, Nat.le_refl, true_and, and_true, not_true_eq_false, not_false_eq_true, true_or, or_true, lc_eq, lc_ne, lc_lt, lc_ge, lc_gt, lc_le, nI_add, lN_add, nI_leI, nI_ltI, nI_eq, nI_clamp, pk_lLT, pk_lLE, pk_lEQ, pk_sub, vp_inT, nz_eq, nz_lt, nz_ge, nz_gt, nz_le, lz_eq, lz_lt, lz_ge, hP1, hP2, hP3, hP4, hP5, hP6, hP7, hP8, hP9, hP10, hP11, hP12, hP13, hP14, hP15, hP16, hP17, hP18, hP19, hP20, p1, p2, el, q1]
    by_cases c : i ∈ qN S.1 ∧ qL S.1 ≤ k ∧ k ≤ qK S.1 i
    · have eS : stS bits (2, i, k) S = some (qLow bits i k S.1, S.2.1, if bk bits (qL S.1) k = qW S.1 i then S.2.2 else va_up S.2.2 (bk bits (qL S.1) k) true) := by unfold stS; rw [if_neg (show ¬ (2 : Nat) = 0 by decide), if_neg (show ¬ (2 : Nat) = 1 by decide), if_pos rfl, if_pos c]
      refine c111t d hB a1 c.1 hk c.2.1 c.2.2 ?_
      intro h' z1 z2 z3
      have hbb := bk_bound (b := bits) (l := qL S.1) (k := k) (by have := a1.1; omega) a1.2.1 hk a1.2.2.2.2.1
      have e1 := m1_ne (n := bk bits (qL S.1) k) (by omega)
      simp (disch := omega) only [u_502_78, B_502_78, nI1T, Nat.left_eq_add, Nat.add_eq_left, Nat.add_eq_zero_iff, and_false, false_and, if_false, if_true, opsN, opsC, pm_1, lg, ls1, ls2, lq, List.length_cons, List.length_nil, cN, cL, callE, retV, retN, pm_pop, pm_cat, List.map_cons, List.map_nil, List.sum_cons, List.sum_nil, Value.category, Option.toList, List.cons_append, List.nil_append, ↓reduceIte, reduceCtorEq, Nat.reduceAdd, Nat.reduceLT, Nat.reduceLeDiff, Nat.reduceSub, Nat.reduceEqDiff, Nat.zero_le, Nat.sub_zero, Nat.le_refl, true_and, and_true, not_true_eq_false, not_false_eq_true, true_or, or_true, lc_eq, lc_ne, lc_lt, lc_ge, lc_gt, lc_le, nI_add, lN_add, nI_leI, nI_ltI, nI_eq, nI_clamp, pk_lLT, pk_lLE, pk_lEQ, pk_sub, vp_inT, nz_eq, nz_lt, nz_ge, nz_gt, nz_le, lz_eq, lz_lt, lz_ge, hP1, hP2, hP3, hP4, hP5, hP6, hP7, hP8, hP9, hP10, hP11, hP12, hP13, hP14, hP15, hP16, hP17, hP18, hP19, hP20, e1]
      exact hQ1 _ h' eS (clT_q hc0 z3 z1 (z2 _ hF)) (fr_wide z3 (by omega) (by omega)) (by rw [(z3.2.2.2.2 _ (by omega)).1])
    · have eS : stS bits (2, i, k) S = none := by unfold stS; rw [if_neg (show ¬ (2 : Nat) = 0 by decide), if_neg (show ¬ (2 : Nat) = 1 by decide), if_pos rfl, if_neg c]
      refine c111f d hB a1 (by omega) hk c ?_
      simp (disch := omega) only [u_502_77, B_502_77, u_502_78, B_502_78, nI1T, Nat.left_eq_add, Nat.add_eq_left, Nat.add_eq_zero_iff, and_false, false_and, if_false, if_true, opsN, opsC, pm_1, lg, ls1, ls2, lq, List.length_cons, List.length_nil, cN, cL, callE, retV, retN, pm_pop, pm_cat, List.map_cons, List.map_nil, List.sum_cons, List.sum_nil, Value.category, Option.toList, List.cons_append, List.nil_append, ↓reduceIte, reduceCtorEq, Nat.reduceAdd, Nat.reduceLT, Nat.reduceLeDiff, Nat.reduceSub, Nat.reduceEqDiff, Nat.zero_le, Nat.sub_zero, Nat.le_refl, true_and, and_true, not_true_eq_false, not_false_eq_true, true_or, or_true, lc_eq, lc_ne, lc_lt, lc_ge, lc_gt, lc_le, nI_add, lN_add, nI_leI, nI_ltI, nI_eq, nI_clamp, pk_lLT, pk_lLE, pk_lEQ, pk_sub, vp_inT, nz_eq, nz_lt, nz_ge, nz_gt, nz_le, lz_eq, lz_lt, lz_ge, hP1, hP2, hP3, hP4, hP5, hP6, hP7, hP8, hP9, hP10, hP11, hP12, hP13, hP14, hP15, hP16, hP17, hP18, hP19, hP20]
      exact hQ0 eS
  · simp (disch := omega) only [u_502_0, B_502_0, nI1T, Nat.left_eq_add, Nat.add_eq_left, Nat.add_eq_zero_iff, and_false, false_and, if_false, if_true, opsN, opsC, pm_1, lg, ls1, ls2, lq, List.length_cons, List.length_nil, cN, cL, callE, retV, retN, pm_pop, pm_cat, List.map_cons, List.map_nil, List.sum_cons, List.sum_nil, Value.category, Option.toList, List.cons_append, List.nil_append, ↓reduceIte, reduceCtorEq, Nat.reduceAdd, Nat.reduceLT, Nat.reduceLeDiff, Nat.reduceSub, Nat.reduceEqDiff, Nat.zero_le, Nat.sub_zero, Nat.le_refl, true_and, and_true, not_true_eq_false, not_false_eq_true, true_or, or_true, lc_eq, lc_ne, lc_lt, lc_ge, lc_gt, lc_le, nI_add, lN_add, nI_leI, nI_ltI, nI_eq, nI_clamp, pk_lLT, pk_lLE, pk_lEQ, pk_sub, vp_inT, nz_eq, nz_lt, nz_ge, nz_gt, nz_le, lz_eq, lz_lt, lz_ge, hP1, hP2, hP3, hP4, hP5, hP6, hP7, hP8, hP9, hP10, hP11, hP12, hP13, hP14, hP15, hP16, hP17, hP18, hP19, hP20, ts3, Int.reduceLT, or_self, or_false, false_or, or_true, true_or, Int.sub_self, Int.toNat_zero, if_true, if_false]
    show pm_W PP (d + 3) 502 Q _ _ 79 _ _ _
    simp (disch := omega) only [u_502_79, B_502_79, nI1T, Nat.left_eq_add, Nat.add_eq_left, Nat.add_eq_zero_iff, and_false, false_and, if_false, if_true, opsN, opsC, pm_1, lg, ls1, ls2, lq, List.length_cons, List.length_nil, cN, cL, callE, retV, retN, pm_pop, pm_cat, List.map_cons, List.map_nil, List.sum_cons, List.sum_nil, Value.category, Option.toList, List.cons_append, List.nil_append, ↓reduceIte, reduceCtorEq, Nat.reduceAdd, Nat.reduceLT, Nat.reduceLeDiff, Nat.reduceSub, Nat.reduceEqDiff, Nat.zero_le, Nat.sub_zero, Nat.le_refl, true_and, and_true, not_true_eq_false, not_false_eq_true, true_or, or_true, lc_eq, lc_ne, lc_lt, lc_ge, lc_gt, lc_le, nI_add, lN_add, nI_leI, nI_ltI, nI_eq, nI_clamp, pk_lLT, pk_lLE, pk_lEQ, pk_sub, vp_inT, nz_eq, nz_lt, nz_ge, nz_gt, nz_le, lz_eq, lz_lt, lz_ge, hP1, hP2, hP3, hP4, hP5, hP6, hP7, hP8, hP9, hP10, hP11, hP12, hP13, hP14, hP15, hP16, hP17, hP18, hP19, hP20, p1, p2, q1]
    by_cases c : i ∈ qN S.1
    · have eS : stS bits (3, i, k) S = some (qCast i S.1, S.2.1, S.2.2) := by unfold stS; rw [if_neg (show ¬ (3 : Nat) = 0 by decide), if_neg (show ¬ (3 : Nat) = 1 by decide), if_neg (show ¬ (3 : Nat) = 2 by decide), if_pos c]
      refine c112t (d + 1) hB a1 c ?_
      intro h' z1 z2 z3
      have i11 := a1.2.2.2.2.2.2.2.2.2.2.1
      have e1 := m1_ne (n := (qN S.1).length - 1) (by omega)
      simp (disch := omega) only [u_502_96, B_502_96, nI1T, Nat.left_eq_add, Nat.add_eq_left, Nat.add_eq_zero_iff, and_false, false_and, if_false, if_true, opsN, opsC, pm_1, lg, ls1, ls2, lq, List.length_cons, List.length_nil, cN, cL, callE, retV, retN, pm_pop, pm_cat, List.map_cons, List.map_nil, List.sum_cons, List.sum_nil, Value.category, Option.toList, List.cons_append, List.nil_append, ↓reduceIte, reduceCtorEq, Nat.reduceAdd, Nat.reduceLT, Nat.reduceLeDiff, Nat.reduceSub, Nat.reduceEqDiff, Nat.zero_le, Nat.sub_zero, Nat.le_refl, true_and, and_true, not_true_eq_false, not_false_eq_true, true_or, or_true, lc_eq, lc_ne, lc_lt, lc_ge, lc_gt, lc_le, nI_add, lN_add, nI_leI, nI_ltI, nI_eq, nI_clamp, pk_lLT, pk_lLE, pk_lEQ, pk_sub, vp_inT, nz_eq, nz_lt, nz_ge, nz_gt, nz_le, lz_eq, lz_lt, lz_ge, hP1, hP2, hP3, hP4, hP5, hP6, hP7, hP8, hP9, hP10, hP11, hP12, hP13, hP14, hP15, hP16, hP17, hP18, hP19, hP20, e1]
      exact hQ1 _ h' eS (clT_q hc0 z3 z1 (z2 _ hF)) (fr_wide z3 (by omega) (by omega)) (by rw [(z3.2.2.2.2 _ (by omega)).1])
    · have eS : stS bits (3, i, k) S = none := by unfold stS; rw [if_neg (show ¬ (3 : Nat) = 0 by decide), if_neg (show ¬ (3 : Nat) = 1 by decide), if_neg (show ¬ (3 : Nat) = 2 by decide), if_neg c]
      refine c112f (d + 1) hB a1 (by omega) c ?_
      simp (disch := omega) only [u_502_95, B_502_95, u_502_96, B_502_96, nI1T, Nat.left_eq_add, Nat.add_eq_left, Nat.add_eq_zero_iff, and_false, false_and, if_false, if_true, opsN, opsC, pm_1, lg, ls1, ls2, lq, List.length_cons, List.length_nil, cN, cL, callE, retV, retN, pm_pop, pm_cat, List.map_cons, List.map_nil, List.sum_cons, List.sum_nil, Value.category, Option.toList, List.cons_append, List.nil_append, ↓reduceIte, reduceCtorEq, Nat.reduceAdd, Nat.reduceLT, Nat.reduceLeDiff, Nat.reduceSub, Nat.reduceEqDiff, Nat.zero_le, Nat.sub_zero, Nat.le_refl, true_and, and_true, not_true_eq_false, not_false_eq_true, true_or, or_true, lc_eq, lc_ne, lc_lt, lc_ge, lc_gt, lc_le, nI_add, lN_add, nI_leI, nI_ltI, nI_eq, nI_clamp, pk_lLT, pk_lLE, pk_lEQ, pk_sub, vp_inT, nz_eq, nz_lt, nz_ge, nz_gt, nz_le, lz_eq, lz_lt, lz_ge, hP1, hP2, hP3, hP4, hP5, hP6, hP7, hP8, hP9, hP10, hP11, hP12, hP13, hP14, hP15, hP16, hP17, hP18, hP19, hP20]
      exact hQ0 eS
theorem l501 (d : Nat) {c : Nat} {L : List St} {v2 : Int32} (hcx : x + 34 ≤ c) (hcx2 : c + 6 ≤ x + 46) (hL4 : L.length ≤ 400) (hLb : ∀ s, s ∈ L → stB s) : ∀ (suf pre : List St) (n : Nat) (S : RS) (h : pm_H), L = pre ++ suf → plS h c → isS h c L → clT h x bits S.1 → rtI bits S.1 n → hI h (x + 70) 3 = nI S.2 →
      (∀ h', clT h' x bits (runS bits suf S).1 → hI h' (x + 70) 3 = nI (runS bits suf S).2 → fr (x + 64) (x + 82) h h' → Q (.inl none) h') →
      pm_W PP (d + 4) 501 Q 0 0 23 [some (.ref (x + 70)), some (.ref c), some (.int v2), some (.int (nI pre.length))] [] h := by
  intro suf
  induction suf with
  | nil =>
    intro pre n S h hL hp hS1 hc hI1 g3 hQ
    have e : pre.length = L.length := by rw [hL, List.append_nil]
    have c1 : pre.length ≤ pre.length := Nat.le_refl _
    have f5 := hS1.2.1
    rw [← e] at f5
    rw [u_501_23]
    simp (disch := omega) only [B_501_23, u_501_72, B_501_72, nI1T, Nat.left_eq_add, Nat.add_eq_left, Nat.add_eq_zero_iff, and_false, false_and, if_false, if_true, opsN, opsC, pm_1, lg, ls1, ls2, lq, List.length_cons, List.length_nil, cN, cL, callE, retV, retN, pm_pop, pm_cat, List.map_cons, List.map_nil, List.sum_cons, List.sum_nil, Value.category, Option.toList, List.cons_append, List.nil_append, ↓reduceIte, reduceCtorEq, Nat.reduceAdd, Nat.reduceLT, Nat.reduceLeDiff, Nat.reduceSub, Nat.reduceEqDiff, Nat.zero_le, Nat.sub_zero, Nat.le_refl, true_and, and_true, not_true_eq_false, not_false_eq_true, true_or, or_true, lc_eq, lc_ne, lc_lt, lc_ge, lc_gt, lc_le, nI_add, lN_add, nI_leI, nI_ltI, nI_eq, nI_clamp, pk_lLT, pk_lLE, pk_lEQ, pk_sub, vp_inT, nz_eq, nz_lt, nz_ge, nz_gt, nz_le, lz_eq, lz_lt, lz_ge, hP1, hP2, hP3, hP4, hP5, hP6, hP7, hP8, hP9, hP10, hP11, hP12, hP13, hP14, hP15, hP16, hP17, hP18, hP19, hP20, hp.1, f5, c1]
    exact hQ h hc g3 (fr_refl _ _ _)
  | cons s r ih =>
    intro pre n S h hL hp hS1 hc hI1 g3 hQ
    have el : L.length = pre.length + (r.length + 1) := by rw [hL, List.length_append, List.length_cons]
    have c1 : ¬ L.length ≤ pre.length := by omega
    have hp0 := hp
    have hgd : L.getD pre.length s0 = s := by
      rw [hL, List.getD_eq_getElem?_getD, List.getElem?_append_right (Nat.le_refl _), Nat.sub_self]; rfl
    obtain ⟨s0, s1, s2, s3, s4, s5, u1, u2, u3, u4, u5, n1, n2, n3, n4, n5⟩ := hp
    have f5 := hS1.2.1
    have hg := hS1.2.2 pre.length (by omega)
    rw [hgd] at hg
    have hsB := hLb s (by rw [hL]; exact List.mem_append_right _ (List.mem_cons_self ..))
    have hL' : L = (pre ++ [s]) ++ r := by rw [hL, List.append_assoc]; rfl
    have el2 : (pre ++ [s]).length = pre.length + 1 := by rw [List.length_append]; rfl
    rw [u_501_23]
    simp (disch := omega) only [B_501_23, nI1T, Nat.left_eq_add, Nat.add_eq_left, Nat.add_eq_zero_iff, and_false, false_and, if_false, if_true, opsN, opsC, pm_1, lg, ls1, ls2, lq, List.length_cons, List.length_nil, cN, cL, callE, retV, retN, pm_pop, pm_cat, List.map_cons, List.map_nil, List.sum_cons, List.sum_nil, Value.category, Option.toList, List.cons_append, List.nil_append, ↓reduceIte, reduceCtorEq, Nat.reduceAdd, Nat.reduceLT, Nat.reduceLeDiff, Nat.reduceSub, Nat.reduceEqDiff, Nat.zero_le, Nat.sub_zero, Nat.le_refl, true_and, and_true, not_true_eq_false, not_false_eq_true, true_or, or_true, lc_eq, lc_ne, lc_lt, lc_ge, lc_gt, lc_le, nI_add, lN_add, nI_leI, nI_ltI, nI_eq, nI_clamp, pk_lLT, pk_lLE, pk_lEQ, pk_sub, vp_inT, nz_eq, nz_lt, nz_ge, nz_gt, nz_le, lz_eq, lz_lt, lz_ge, hP1, hP2, hP3, hP4, hP5, hP6, hP7, hP8, hP9, hP10, hP11, hP12, hP13, hP14, hP15, hP16, hP17, hP18, hP19, hP20, s0, s1, s2, s3, u1, u2, u3, n1, n2, n3, f5, c1, hg.1, hg.2.1, hg.2.2, hc.1.1]
    refine c502 d hc hI1 hsB ?_ ?_
    · intro S' h' eS k1 k2 k3
      have eD : doS bits s S = (S', S.2) := by unfold doS; rw [eS]
      simp (disch := omega) only [u_501_66, B_501_66, nI1T, Nat.left_eq_add, Nat.add_eq_left, Nat.add_eq_zero_iff, and_false, false_and, if_false, if_true, opsN, opsC, pm_1, lg, ls1, ls2, lq, List.length_cons, List.length_nil, cN, cL, callE, retV, retN, pm_pop, pm_cat, List.map_cons, List.map_nil, List.sum_cons, List.sum_nil, Value.category, Option.toList, List.cons_append, List.nil_append, ↓reduceIte, reduceCtorEq, Nat.reduceAdd, Nat.reduceLT, Nat.reduceLeDiff, Nat.reduceSub, Nat.reduceEqDiff, Nat.zero_le, Nat.sub_zero, Nat.le_refl, true_and, and_true, not_true_eq_false, not_false_eq_true, true_or, or_true, lc_eq, lc_ne, lc_lt, lc_ge, lc_gt, lc_le, nI_add, lN_add, nI_leI, nI_ltI, nI_eq, nI_clamp, pk_lLT, pk_lLE, pk_lEQ, pk_sub, vp_inT, nz_eq, nz_lt, nz_ge, nz_gt, nz_le, lz_eq, lz_lt, lz_ge, hP1, hP2, hP3, hP4, hP5, hP6, hP7, hP8, hP9, hP10, hP11, hP12, hP13, hP14, hP15, hP16, hP17, hP18, hP19, hP20]
      have := ih (pre ++ [s]) (n + 1) (S', S.2) h' hL' (plS_eq k2.1 k2.2.1 (by rw [k2.2.2.1]) hp0) (isS_eq (fun k q1 q2 => (k2.2.2.2.2 k (by omega)).1) hS1) k1 (by have := doS_I hI1 hsB; rw [eD] at this; exact this) (k3.trans g3) (fun h2 q1 q2 q3 => hQ h2 (by show clT h2 x bits (runS bits r (doS bits s S)).1; rw [eD]; exact q1) (by show hI h2 (x + 70) 3 = nI (runS bits r (doS bits s S)).2; rw [eD]; exact q2) (fr_trans k2 q3))
      rw [el2] at this
      exact this
    · intro eS
      have eD : doS bits s S = (S.1, S.2 + 1) := by unfold doS; rw [eS]
      have fB : fr (x + 70) (x + 71) h (sI h (x + 70) (va_up (hI h (x + 70)) 3 (nI (S.2 + 1)))) := fr_sI (fr_refl _ _ _) (by omega) (by omega)
      simp (disch := omega) only [u_501_66, B_501_66, nI1T, Nat.left_eq_add, Nat.add_eq_left, Nat.add_eq_zero_iff, and_false, false_and, if_false, if_true, opsN, opsC, pm_1, lg, ls1, ls2, lq, List.length_cons, List.length_nil, cN, cL, callE, retV, retN, pm_pop, pm_cat, List.map_cons, List.map_nil, List.sum_cons, List.sum_nil, Value.category, Option.toList, List.cons_append, List.nil_append, ↓reduceIte, reduceCtorEq, Nat.reduceAdd, Nat.reduceLT, Nat.reduceLeDiff, Nat.reduceSub, Nat.reduceEqDiff, Nat.zero_le, Nat.sub_zero, Nat.le_refl, true_and, and_true, not_true_eq_false, not_false_eq_true, true_or, or_true, lc_eq, lc_ne, lc_lt, lc_ge, lc_gt, lc_le, nI_add, lN_add, nI_leI, nI_ltI, nI_eq, nI_clamp, pk_lLT, pk_lLE, pk_lEQ, pk_sub, vp_inT, nz_eq, nz_lt, nz_ge, nz_gt, nz_le, lz_eq, lz_lt, lz_ge, hP1, hP2, hP3, hP4, hP5, hP6, hP7, hP8, hP9, hP10, hP11, hP12, hP13, hP14, hP15, hP16, hP17, hP18, hP19, hP20, hc.1.1, g3]
      obtain ⟨p1, p2, p3, p4, p5⟩ := hc
      have hc' : clT (sI h (x + 70) (va_up (hI h (x + 70)) 3 (nI (S.2 + 1)))) x bits S.1 := by
        refine ⟨prS_fr fB p1, isB_fr fB (by omega) p2, isF_fr fB (by omega) p3, ?_, fun i hi => ?_⟩
        · rw [hI_at, va_up_ne _ _ (by decide)]; exact p4
        · rw [hP1, va_up_ne _ _ (by omega)]; exact p5 i hi
      have := ih (pre ++ [s]) (n + 1) (S.1, S.2 + 1) _ hL' (plS_sI hp0) (isS_eq (fun k q1 q2 => by rw [hP1, va_up_ne _ _ (by omega)]) hS1) hc' (by have := doS_I hI1 hsB; rw [eD] at this; exact this) (by rw [hI_at, va_up_self]) (fun h2 q1 q2 q3 => hQ h2 (by show clT h2 x bits (runS bits r (doS bits s S)).1; rw [eD]; exact q1) (by show hI h2 (x + 70) 3 = nI (runS bits r (doS bits s S)).2; rw [eD]; exact q2) (fr_trans (fr_wide fB (by omega) (by omega)) q3))
      rw [el2] at this
      exact this
theorem c501 (d : Nat) {c : Nat} {L : List St} (hcx : x + 34 ≤ c) (hcx2 : c + 6 ≤ x + 46) (hb1 : 1 ≤ bits) (hb4 : bits ≤ 4) (hL4 : L.length ≤ 400) (hLb : ∀ s, s ∈ L → stB s) (hp : plS h c) (hS1 : isS h c L) (hr : prS h x) (hbs : bS h (x + 64) 300)
    (hQ : ∀ h', clT h' x bits (runS bits L r0).1 → hI h' (x + 70) 3 = nI (runS bits L r0).2 → fr (x + 64) (x + 82) h h' → Q (.inl none) h') :
    pm_M PP (d + 5) 501 [.ref (x + 70), .ref c, .int (nI bits)] h Q := by
  obtain ⟨p1, p2, p3, p4, p5⟩ := id hr
  have q1 := hbs.1
  rw [e_501]
  simp (disch := omega) only [u_501_0, B_501_0, nI1T, Nat.left_eq_add, Nat.add_eq_left, Nat.add_eq_zero_iff, and_false, false_and, if_false, if_true, opsN, opsC, pm_1, lg, ls1, ls2, lq, List.length_cons, List.length_nil, cN, cL, callE, retV, retN, pm_pop, pm_cat, List.map_cons, List.map_nil, List.sum_cons, List.sum_nil, Value.category, Option.toList, List.cons_append, List.nil_append, ↓reduceIte, reduceCtorEq, Nat.reduceAdd, Nat.reduceLT, Nat.reduceLeDiff, Nat.reduceSub, Nat.reduceEqDiff, Nat.zero_le, Nat.sub_zero, Nat.le_refl, true_and, and_true, not_true_eq_false, not_false_eq_true, true_or, or_true, lc_eq, lc_ne, lc_lt, lc_ge, lc_gt, lc_le, nI_add, lN_add, nI_leI, nI_ltI, nI_eq, nI_clamp, pk_lLT, pk_lLE, pk_lEQ, pk_sub, vp_inT, nz_eq, nz_lt, nz_ge, nz_gt, nz_le, lz_eq, lz_lt, lz_ge, hP1, hP2, hP3, hP4, hP5, hP6, hP7, hP8, hP9, hP10, hP11, hP12, hP13, hP14, hP15, hP16, hP17, hP18, hP19, hP20, p1, p2, q1]
  refine c101 (d + 1) hbs hb4 (by decide) ?_
  intro h1 k1 k2 k3
  have w1 : hT h1 (x + 70) = 5 := by rw [k3.1]; exact p1
  have fB : fr (x + 70) (x + 71) h1 (sI h1 (x + 70) (va_up (va_up (hI h1 (x + 70)) 2 (nI 0)) 3 (nI 0))) := fr_sI (fr_refl _ _ _) (by omega) (by omega)
  have f1 := fr_trans (fr_wide k3 (show x + 64 ≤ x + 64 by omega) (show x + 64 + 6 ≤ x + 82 by omega)) (fr_wide fB (by omega) (by omega))
  simp (disch := omega) only [nI1T, Nat.left_eq_add, Nat.add_eq_left, Nat.add_eq_zero_iff, and_false, false_and, if_false, if_true, opsN, opsC, pm_1, lg, ls1, ls2, lq, List.length_cons, List.length_nil, cN, cL, callE, retV, retN, pm_pop, pm_cat, List.map_cons, List.map_nil, List.sum_cons, List.sum_nil, Value.category, Option.toList, List.cons_append, List.nil_append, ↓reduceIte, reduceCtorEq, Nat.reduceAdd, Nat.reduceLT, Nat.reduceLeDiff, Nat.reduceSub, Nat.reduceEqDiff, Nat.zero_le, Nat.sub_zero, Nat.le_refl, true_and, and_true, not_true_eq_false, not_false_eq_true, true_or, or_true, lc_eq, lc_ne, lc_lt, lc_ge, lc_gt, lc_le, nI_add, lN_add, nI_leI, nI_ltI, nI_eq, nI_clamp, pk_lLT, pk_lLE, pk_lEQ, pk_sub, vp_inT, nz_eq, nz_lt, nz_ge, nz_gt, nz_le, lz_eq, lz_lt, lz_ge, hP1, hP2, hP3, hP4, hP5, hP6, hP7, hP8, hP9, hP10, hP11, hP12, hP13, hP14, hP15, hP16, hP17, hP18, hP19, hP20, w1, va_upE, sI_sI]
  refine l501 d hcx hcx2 hL4 hLb L [] 0 r0 _ rfl (plS_eq f1.1 f1.2.1 (by rw [f1.2.2.1]) hp) (isS_eq (fun k q1 q2 => (f1.2.2.2.2 k (by omega)).1) hS1) ⟨prS_fr f1 hr, isB_fr fB (by omega) (k1 _ _ _ _), isF_fr fB (by omega) k2, ?_, fun i hi => absurd hi (Nat.not_lt_zero _)⟩ (r0_I hb1 hb4) ?_ (fun h' q1 q2 q3 => hQ h' q1 q2 (fr_trans f1 q3))
  · rw [hI_at]; simp only [va_upE, Nat.reduceEqDiff, if_true, if_false]; rfl
  · rw [hI_at]; simp only [va_upE, Nat.reduceEqDiff, if_true, if_false]; rfl
end RU
