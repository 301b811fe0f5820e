/-! ===== THE CONSTRUCTORS; written by news.py ===== -/
def nk_I (h : pm_H) (o f : Nat) (v : Int32) : pm_H := sI h o (va_up (hI h o) f v)
def nk_R (h : pm_H) (o f v : Nat) : pm_H := sR h o (va_up (hR h o) f v)
def nk_a (h : pm_H) (o f t n : Nat) : pm_H := nk_R (nw h t n) o f (hn h)
def nk_m (h : pm_H) (o f t u n k : Nat) : pm_H := nk_R (nwM h t u n k) o f (hn h)
def nk_o (h : pm_H) (o f t n : Nat) (k : pm_H → Nat → pm_H) : pm_H := nk_R (k (nw h t n) (hn h)) o f (hn h)
/-- what was there keeps its tag -/
def nk_K (h h' : pm_H) : Prop := hx h' = hx h ∧ hn h ≤ hn h' ∧ ∀ j, j < hn h → hT h' j = hT h j
/-- the object o of tag c is there, nothing was thrown -/
def nk_S (h : pm_H) (o c : Nat) : Prop := hx h = 0 ∧ hT h o = c ∧ o < hn h
section NK0
variable {h g h1 h2 : pm_H} {o c f t u n v : Nat} {k : pm_H → Nat → pm_H} {w : Int32}
theorem nk_K0 : nk_K h h := ⟨rfl, Nat.le_refl _, fun _ _ => rfl⟩
theorem nk_Kt (a : nk_K h h1) (b : nk_K h1 h2) : nk_K h h2 := ⟨b.1.trans a.1, Nat.le_trans a.2.1 b.2.1, fun j q => (b.2.2 j (Nat.lt_of_lt_of_le q a.2.1)).trans (a.2.2 j q)⟩
theorem nk_Kw (a : nk_K h g) : nk_K h (nw g t n) := nk_Kt a ⟨rfl, Nat.le_succ (hn g), fun j q => va_up_ne _ _ (Nat.ne_of_lt q)⟩
theorem nk_Km {kk : Nat} (a : nk_K h g) : nk_K h (nwM g t u n kk) := by
  refine nk_Kt a ⟨rfl, ?_, fun j q => ?_⟩
  · show hn g ≤ hn g + 1 + n
    omega
  · show (if j = hn g then t else if hn g ≤ j ∧ j < hn g + 1 + n then u else hT g j) = hT g j
    rw [if_neg (by omega), if_neg (by omega)]
theorem nk_KR (a : nk_K h g) : nk_K h (nk_R g o f v) := a
theorem nk_KI (a : nk_K h g) : nk_K h (nk_I g o f w) := a
theorem nk_Ka (a : nk_K h g) : nk_K h (nk_a g o f t n) := nk_KR (nk_Kw a)
theorem nk_KM {kk : Nat} (a : nk_K h g) : nk_K h (nk_m g o f t u n kk) := nk_KR (nk_Km a)
theorem nk_Ko (a : nk_K h g) (b : nk_K (nw g t n) (k (nw g t n) (hn g))) : nk_K h (nk_o g o f t n k) := nk_KR (nk_Kt (nk_Kw a) b)
theorem nk_SK (s : nk_S h o c) (a : nk_K h h1) : nk_S h1 o c := ⟨a.1.trans s.1, (a.2.2 o s.2.2).trans s.2.1, Nat.lt_of_lt_of_le s.2.2 a.2.1⟩
theorem nk_Sn (hx0 : hx h = 0) : nk_S (nw h t n) (hn h) t := ⟨hx0, va_up_self _ _ _, Nat.lt_succ_self _⟩
end NK0
section NK1
variable {js : List (List Nat)} {hd : Nat → Option (Nat × Nat)} {K : pm_K} {C : pm_C} {Q : pm_Q} {nx : Nat} {r : List pm_O} {bc bs : Nat} {ls : pm_L} {h : pm_H} {o c f : Nat}
theorem nk_two {z i : _} (h0 : lg ls 0 = some (.ref o)) (H : pm_ops js hd K C Q nx r bc bs ls [] h) : pm_ops js hd K C Q nx ((.aload_n z, 0, 0, 0, 0, 0) :: (.invokespecial i, 9008, 0, 0, 0, 0) :: r) bc bs ls [] h := by
  simp only [nI1T, Nat.left_eq_add, Nat.add_eq_left, Nat.add_eq_zero_iff, and_false, false_and, if_false, if_true, opsN, opsC, pm_1, lg, ls1, ls2, lq, List.length_cons, List.length_nil, cN, cL, callE, retV, retN, pm_pop, pm_cat, List.map_cons, List.map_nil, List.sum_cons, List.sum_nil, Value.category, Option.toList, List.cons_append, List.nil_append, ↓reduceIte, reduceCtorEq, Nat.reduceAdd, Nat.reduceLT, Nat.reduceLeDiff, Nat.reduceSub, Nat.reduceEqDiff, Nat.zero_le, Nat.sub_zero, Nat.le_refl, true_and, and_true, not_true_eq_false, not_false_eq_true, true_or, or_true, lc_eq, lc_ne, lc_lt, lc_ge, lc_gt, lc_le, nI_add, lN_add, nI_leI, nI_ltI, nI_eq, nI_clamp, pk_lLT, pk_lLE, pk_lEQ, pk_sub, vp_inT, nz_eq, nz_lt, nz_ge, nz_gt, nz_le, lz_eq, lz_lt, lz_ge, hP1, hP2, hP3, hP4, hP5, hP6, hP7, hP8, hP9, hP10, hP11, hP12, hP13, hP14, hP15, hP16, hP17, hP18, hP19, hP20, h0]
  exact H
theorem nk_ld {z : _} {k : pm_k} {st : pm_S} (h0 : lg ls 0 = some (.ref o)) : pm_1 js hd K C Q (.aload_n z, 0, 0, 0, 0, 0) k bc bs ls st h = k bc bs ls (.ref o :: st) h := by
  simp only [pm_1, h0]
theorem nk_nw {j : _} {k : pm_k} {st : pm_S} {t n : Nat} (e1 : hx h = 0) (b1 : 1 ≤ bc) (b2 : n ≤ bs) : pm_1 js hd K C Q (.new j, t, n, 0, 0, 0) k bc bs ls st h = k (bc - 1) (bs - n) ls (.ref (hn h) :: st) (nw h t n) := by
  simp only [pm_1, e1, b1, b2, ↓reduceIte, true_and]
theorem nk_dp {k : pm_k} {st : pm_S} {v : Nat} : pm_1 js hd K C Q (.dup, 0, 0, 0, 0, 0) k bc bs ls (.ref v :: st) h = k bc bs ls (.ref v :: .ref v :: st) h := rfl
theorem nk_four {z ty i : _} (P2 : pm_O) (t n : Nat) (s : nk_S h o c) (h0 : lg ls 0 = some (.ref o)) (hp : ∀ k bc bs st h, pm_1 js hd K C Q P2 k bc bs ls st h = k bc bs ls (.int (nI n) :: st) h) (n1 : n ≤ 100000) (b1 : 1 ≤ bc) (b2 : n ≤ bs)
    (H : nk_S (nk_a h o f t n) o c → pm_ops js hd K C Q nx r (bc - 1) (bs - n) ls [] (nk_a h o f t n)) : pm_ops js hd K C Q nx ((.aload_n z, 0, 0, 0, 0, 0) :: P2 :: (.newarray ty, t, 0, 0, 0, 0) :: (.putfield i, c, f, 2, 0, 0) :: r) bc bs ls [] h := by
  have H := H (nk_SK s (nk_Ka nk_K0))
  have e1 : hx h = 0 := s.1
  have e2 : hT (nw h t n) o = c := (nk_SK s (nk_Kw nk_K0)).2.1
  have e3 : (hn h = 0) = False := eq_false (Nat.ne_of_gt (Nat.lt_of_le_of_lt (Nat.zero_le _) s.2.2))
  rw [opsC, nk_ld h0, opsC, hp]
  simp (disch := omega) only [nI1T, Nat.left_eq_add, Nat.add_eq_left, Nat.add_eq_zero_iff, and_false, false_and, if_false, if_true, opsN, opsC, pm_1, lg, ls1, ls2, lq, List.length_cons, List.length_nil, cN, cL, callE, retV, retN, pm_pop, pm_cat, List.map_cons, List.map_nil, List.sum_cons, List.sum_nil, Value.category, Option.toList, List.cons_append, List.nil_append, ↓reduceIte, reduceCtorEq, Nat.reduceAdd, Nat.reduceLT, Nat.reduceLeDiff, Nat.reduceSub, Nat.reduceEqDiff, Nat.zero_le, Nat.sub_zero, Nat.le_refl, true_and, and_true, not_true_eq_false, not_false_eq_true, true_or, or_true, lc_eq, lc_ne, lc_lt, lc_ge, lc_gt, lc_le, nI_add, lN_add, nI_leI, nI_ltI, nI_eq, nI_clamp, pk_lLT, pk_lLE, pk_lEQ, pk_sub, vp_inT, nz_eq, nz_lt, nz_ge, nz_gt, nz_le, lz_eq, lz_lt, lz_ge, hP1, hP2, hP3, hP4, hP5, hP6, hP7, hP8, hP9, hP10, hP11, hP12, hP13, hP14, hP15, hP16, hP17, hP18, hP19, hP20, e1, e2, e3, n1, b1, b2]
  exact H
theorem nk_five {z i j : _} (P2 P3 : pm_O) (t u n m : Nat) (s : nk_S h o c) (h0 : lg ls 0 = some (.ref o)) (hp : ∀ k bc bs st h, pm_1 js hd K C Q P2 k bc bs ls st h = k bc bs ls (.int (nI n) :: st) h) (hp3 : ∀ k bc bs st h, pm_1 js hd K C Q P3 k bc bs ls st h = k bc bs ls (.int (nI m) :: st) h) (n1 : n ≤ 100000) (m1 : m ≤ 100000) (b1 : 1 + n ≤ bc) (b2 : n + n * m ≤ bs)
    (H : nk_S (nk_m h o f t u n m) o c → pm_ops js hd K C Q nx r (bc - (1 + n)) (bs - (n + n * m)) ls [] (nk_m h o f t u n m)) : pm_ops js hd K C Q nx ((.aload_n z, 0, 0, 0, 0, 0) :: P2 :: P3 :: (.multianewarray j 2, t, u, 0, 0, 0) :: (.putfield i, c, f, 2, 0, 0) :: r) bc bs ls [] h := by
  have H := H (nk_SK s (nk_KM nk_K0))
  have e1 : hx h = 0 := s.1
  have e2 : hT (nwM h t u n m) o = c := (nk_SK s (nk_Km nk_K0)).2.1
  have e3 : (hn h = 0) = False := eq_false (Nat.ne_of_gt (Nat.lt_of_le_of_lt (Nat.zero_le _) s.2.2))
  rw [opsC, nk_ld h0, opsC, hp, opsC, hp3]
  simp (disch := omega) only [nI1T, Nat.left_eq_add, Nat.add_eq_left, Nat.add_eq_zero_iff, and_false, false_and, if_false, if_true, opsN, opsC, pm_1, lg, ls1, ls2, lq, List.length_cons, List.length_nil, cN, cL, callE, retV, retN, pm_pop, pm_cat, List.map_cons, List.map_nil, List.sum_cons, List.sum_nil, Value.category, Option.toList, List.cons_append, List.nil_append, ↓reduceIte, reduceCtorEq, Nat.reduceAdd, Nat.reduceLT, Nat.reduceLeDiff, Nat.reduceSub, Nat.reduceEqDiff, Nat.zero_le, Nat.sub_zero, Nat.le_refl, true_and, and_true, not_true_eq_false, not_false_eq_true, true_or, or_true, lc_eq, lc_ne, lc_lt, lc_ge, lc_gt, lc_le, nI_add, lN_add, nI_leI, nI_ltI, nI_eq, nI_clamp, pk_lLT, pk_lLE, pk_lEQ, pk_sub, vp_inT, nz_eq, nz_lt, nz_ge, nz_gt, nz_le, lz_eq, lz_lt, lz_ge, hP1, hP2, hP3, hP4, hP5, hP6, hP7, hP8, hP9, hP10, hP11, hP12, hP13, hP14, hP15, hP16, hP17, hP18, hP19, hP20, e1, e2, e3, n1, m1, b1, b2]
  exact H
theorem nk_int {z i : _} (P2 : pm_O) (v : Int32) (s : nk_S h o c) (h0 : lg ls 0 = some (.ref o)) (hp : ∀ k bc bs st h, pm_1 js hd K C Q P2 k bc bs ls st h = k bc bs ls (.int v :: st) h)
    (H : nk_S (nk_I h o f v) o c → pm_ops js hd K C Q nx r bc bs ls [] (nk_I h o f v)) : pm_ops js hd K C Q nx ((.aload_n z, 0, 0, 0, 0, 0) :: P2 :: (.putfield i, c, f, 0, 0, 0) :: r) bc bs ls [] h := by
  have H := H s
  have e2 : hT h o = c := s.2.1
  rw [opsC, nk_ld h0, opsC, hp]
  simp (disch := omega) only [nI1T, Nat.left_eq_add, Nat.add_eq_left, Nat.add_eq_zero_iff, and_false, false_and, if_false, if_true, opsN, opsC, pm_1, lg, ls1, ls2, lq, List.length_cons, List.length_nil, cN, cL, callE, retV, retN, pm_pop, pm_cat, List.map_cons, List.map_nil, List.sum_cons, List.sum_nil, Value.category, Option.toList, List.cons_append, List.nil_append, ↓reduceIte, reduceCtorEq, Nat.reduceAdd, Nat.reduceLT, Nat.reduceLeDiff, Nat.reduceSub, Nat.reduceEqDiff, Nat.zero_le, Nat.sub_zero, Nat.le_refl, true_and, and_true, not_true_eq_false, not_false_eq_true, true_or, or_true, lc_eq, lc_ne, lc_lt, lc_ge, lc_gt, lc_le, nI_add, lN_add, nI_leI, nI_ltI, nI_eq, nI_clamp, pk_lLT, pk_lLE, pk_lEQ, pk_sub, vp_inT, nz_eq, nz_lt, nz_ge, nz_gt, nz_le, lz_eq, lz_lt, lz_ge, hP1, hP2, hP3, hP4, hP5, hP6, hP7, hP8, hP9, hP10, hP11, hP12, hP13, hP14, hP15, hP16, hP17, hP18, hP19, hP20, e2]
  exact H
theorem nk_ref {z y i : _} {v : Nat} (s : nk_S h o c) (h0 : lg ls 0 = some (.ref o)) (h1 : lg ls 1 = some (.ref v)) (v0 : ¬ v = 0)
    (H : nk_S (nk_R h o f v) o c → pm_ops js hd K C Q nx r bc bs ls [] (nk_R h o f v)) : pm_ops js hd K C Q nx ((.aload_n z, 0, 0, 0, 0, 0) :: (.aload_n y, 1, 0, 0, 0, 0) :: (.putfield i, c, f, 2, 0, 0) :: r) bc bs ls [] h := by
  have H := H s
  have e2 : hT h o = c := s.2.1
  have e3 : (v = 0) = False := eq_false v0
  simp (disch := omega) only [nI1T, Nat.left_eq_add, Nat.add_eq_left, Nat.add_eq_zero_iff, and_false, false_and, if_false, if_true, opsN, opsC, pm_1, lg, ls1, ls2, lq, List.length_cons, List.length_nil, cN, cL, callE, retV, retN, pm_pop, pm_cat, List.map_cons, List.map_nil, List.sum_cons, List.sum_nil, Value.category, Option.toList, List.cons_append, List.nil_append, ↓reduceIte, reduceCtorEq, Nat.reduceAdd, Nat.reduceLT, Nat.reduceLeDiff, Nat.reduceSub, Nat.reduceEqDiff, Nat.zero_le, Nat.sub_zero, Nat.le_refl, true_and, and_true, not_true_eq_false, not_false_eq_true, true_or, or_true, lc_eq, lc_ne, lc_lt, lc_ge, lc_gt, lc_le, nI_add, lN_add, nI_leI, nI_ltI, nI_eq, nI_clamp, pk_lLT, pk_lLE, pk_lEQ, pk_sub, vp_inT, nz_eq, nz_lt, nz_ge, nz_gt, nz_le, lz_eq, lz_lt, lz_ge, hP1, hP2, hP3, hP4, hP5, hP6, hP7, hP8, hP9, hP10, hP11, hP12, hP13, hP14, hP15, hP16, hP17, hP18, hP19, hP20, h0, h1, e2, e3]
  exact H
/-- a new object, no argument -/
theorem nk_new {z j i l : _} {t n m x9 cc cs : Nat} (k : pm_H → Nat → pm_H) (s : nk_S h o c) (h0 : lg ls 0 = some (.ref o)) (m8 : ¬ m = 9008) (b1 : 1 + cc ≤ bc) (b2 : n + cs ≤ bs)
    (HC : ∀ Q' : pm_Q, nk_S (nw h t n) (hn h) t → Q' (.inl none) (k (nw h t n) (hn h)) → C m [.ref (hn h)] (nw h t n) Q') (kK : nk_K (nw h t n) (k (nw h t n) (hn h)))
    (H : nk_S (nk_o h o f t n k) o c → pm_ops js hd K C Q nx r (bc - 1 - cc) (bs - n - cs) ls [] (nk_o h o f t n k)) : pm_ops js hd K C Q nx ((.aload_n z, 0, 0, 0, 0, 0) :: (.new j, t, n, 0, 0, 0) :: (.dup, 0, 0, 0, 0, 0) :: (.invokespecial l, m, 0, x9, cc, cs) :: (.putfield i, c, f, 2, 0, 0) :: r) bc bs ls [] h := by
  have H := H (nk_SK s (nk_Ko nk_K0 kK))
  have e1 : hx h = 0 := s.1
  have e2 : hT (k (nw h t n) (hn h)) o = c := (nk_SK s (nk_Kt (nk_Kw nk_K0) kK)).2.1
  have e3 : (hn h = 0) = False := eq_false (Nat.ne_of_gt (Nat.lt_of_le_of_lt (Nat.zero_le _) s.2.2))
  have e4 : (m = 9008) = False := eq_false m8
  have b3 : 1 ≤ bc := by omega
  have b4 : n ≤ bs := by omega
  have b5 : cc ≤ bc - 1 := by omega
  have b6 : cs ≤ bs - n := by omega
  simp (disch := omega) only [nI1T, Nat.left_eq_add, Nat.add_eq_left, Nat.add_eq_zero_iff, and_false, false_and, if_false, if_true, opsN, opsC, pm_1, lg, ls1, ls2, lq, List.length_cons, List.length_nil, cN, cL, callE, retV, retN, pm_pop, pm_cat, List.map_cons, List.map_nil, List.sum_cons, List.sum_nil, Value.category, Option.toList, List.cons_append, List.nil_append, ↓reduceIte, reduceCtorEq, Nat.reduceAdd, Nat.reduceLT, Nat.reduceLeDiff, Nat.reduceSub, Nat.reduceEqDiff, Nat.zero_le, Nat.sub_zero, Nat.le_refl, true_and, and_true, not_true_eq_false, not_false_eq_true, true_or, or_true, lc_eq, lc_ne, lc_lt, lc_ge, lc_gt, lc_le, nI_add, lN_add, nI_leI, nI_ltI, nI_eq, nI_clamp, pk_lLT, pk_lLE, pk_lEQ, pk_sub, vp_inT, nz_eq, nz_lt, nz_ge, nz_gt, nz_le, lz_eq, lz_lt, lz_ge, hP1, hP2, hP3, hP4, hP5, hP6, hP7, hP8, hP9, hP10, hP11, hP12, hP13, hP14, hP15, hP16, hP17, hP18, hP19, hP20, h0, e1, e4, b3, b4, b5, b6]
  refine HC _ (nk_Sn e1) ?_
  simp (disch := omega) only [nI1T, Nat.left_eq_add, Nat.add_eq_left, Nat.add_eq_zero_iff, and_false, false_and, if_false, if_true, opsN, opsC, pm_1, lg, ls1, ls2, lq, List.length_cons, List.length_nil, cN, cL, callE, retV, retN, pm_pop, pm_cat, List.map_cons, List.map_nil, List.sum_cons, List.sum_nil, Value.category, Option.toList, List.cons_append, List.nil_append, ↓reduceIte, reduceCtorEq, Nat.reduceAdd, Nat.reduceLT, Nat.reduceLeDiff, Nat.reduceSub, Nat.reduceEqDiff, Nat.zero_le, Nat.sub_zero, Nat.le_refl, true_and, and_true, not_true_eq_false, not_false_eq_true, true_or, or_true, lc_eq, lc_ne, lc_lt, lc_ge, lc_gt, lc_le, nI_add, lN_add, nI_leI, nI_ltI, nI_eq, nI_clamp, pk_lLT, pk_lLE, pk_lEQ, pk_sub, vp_inT, nz_eq, nz_lt, nz_ge, nz_gt, nz_le, lz_eq, lz_lt, lz_ge, hP1, hP2, hP3, hP4, hP5, hP6, hP7, hP8, hP9, hP10, hP11, hP12, hP13, hP14, hP15, hP16, hP17, hP18, hP19, hP20, e2, e3]
  exact H
/-- a new object, a number -/
theorem nk_newn {z j i l : _} {t n m x9 cc cs : Nat} (P2 : pm_O) (a : Nat) (k : pm_H → Nat → pm_H) (s : nk_S h o c) (h0 : lg ls 0 = some (.ref o)) (hp : ∀ k bc bs st h, pm_1 js hd K C Q P2 k bc bs ls st h = k bc bs ls (.int (nI a) :: st) h) (m8 : ¬ m = 9008) (b1 : 1 + cc ≤ bc) (b2 : n + cs ≤ bs)
    (HC : ∀ Q' : pm_Q, nk_S (nw h t n) (hn h) t → Q' (.inl none) (k (nw h t n) (hn h)) → C m [.ref (hn h), .int (nI a)] (nw h t n) Q') (kK : nk_K (nw h t n) (k (nw h t n) (hn h)))
    (H : nk_S (nk_o h o f t n k) o c → pm_ops js hd K C Q nx r (bc - 1 - cc) (bs - n - cs) ls [] (nk_o h o f t n k)) : pm_ops js hd K C Q nx ((.aload_n z, 0, 0, 0, 0, 0) :: (.new j, t, n, 0, 0, 0) :: (.dup, 0, 0, 0, 0, 0) :: P2 :: (.invokespecial l, m, 1, x9, cc, cs) :: (.putfield i, c, f, 2, 0, 0) :: r) bc bs ls [] h := by
  have H := H (nk_SK s (nk_Ko nk_K0 kK))
  have e1 : hx h = 0 := s.1
  have e2 : hT (k (nw h t n) (hn h)) o = c := (nk_SK s (nk_Kt (nk_Kw nk_K0) kK)).2.1
  have e3 : (hn h = 0) = False := eq_false (Nat.ne_of_gt (Nat.lt_of_le_of_lt (Nat.zero_le _) s.2.2))
  have e4 : (m = 9008) = False := eq_false m8
  have b3 : 1 ≤ bc := by omega
  have b4 : n ≤ bs := by omega
  have b5 : cc ≤ bc - 1 := by omega
  have b6 : cs ≤ bs - n := by omega
  rw [opsC, nk_ld h0, opsC, nk_nw e1 b3 b4, opsC, nk_dp, opsC, hp]
  simp (disch := omega) only [nI1T, Nat.left_eq_add, Nat.add_eq_left, Nat.add_eq_zero_iff, and_false, false_and, if_false, if_true, opsN, opsC, pm_1, lg, ls1, ls2, lq, List.length_cons, List.length_nil, cN, cL, callE, retV, retN, pm_pop, pm_cat, List.map_cons, List.map_nil, List.sum_cons, List.sum_nil, Value.category, Option.toList, List.cons_append, List.nil_append, ↓reduceIte, reduceCtorEq, Nat.reduceAdd, Nat.reduceLT, Nat.reduceLeDiff, Nat.reduceSub, Nat.reduceEqDiff, Nat.zero_le, Nat.sub_zero, Nat.le_refl, true_and, and_true, not_true_eq_false, not_false_eq_true, true_or, or_true, lc_eq, lc_ne, lc_lt, lc_ge, lc_gt, lc_le, nI_add, lN_add, nI_leI, nI_ltI, nI_eq, nI_clamp, pk_lLT, pk_lLE, pk_lEQ, pk_sub, vp_inT, nz_eq, nz_lt, nz_ge, nz_gt, nz_le, lz_eq, lz_lt, lz_ge, hP1, hP2, hP3, hP4, hP5, hP6, hP7, hP8, hP9, hP10, hP11, hP12, hP13, hP14, hP15, hP16, hP17, hP18, hP19, hP20, e1, e4, b3, b4, b5, b6]
  refine HC _ (nk_Sn e1) ?_
  simp (disch := omega) only [nI1T, Nat.left_eq_add, Nat.add_eq_left, Nat.add_eq_zero_iff, and_false, false_and, if_false, if_true, opsN, opsC, pm_1, lg, ls1, ls2, lq, List.length_cons, List.length_nil, cN, cL, callE, retV, retN, pm_pop, pm_cat, List.map_cons, List.map_nil, List.sum_cons, List.sum_nil, Value.category, Option.toList, List.cons_append, List.nil_append, ↓reduceIte, reduceCtorEq, Nat.reduceAdd, Nat.reduceLT, Nat.reduceLeDiff, Nat.reduceSub, Nat.reduceEqDiff, Nat.zero_le, Nat.sub_zero, Nat.le_refl, true_and, and_true, not_true_eq_false, not_false_eq_true, true_or, or_true, lc_eq, lc_ne, lc_lt, lc_ge, lc_gt, lc_le, nI_add, lN_add, nI_leI, nI_ltI, nI_eq, nI_clamp, pk_lLT, pk_lLE, pk_lEQ, pk_sub, vp_inT, nz_eq, nz_lt, nz_ge, nz_gt, nz_le, lz_eq, lz_lt, lz_ge, hP1, hP2, hP3, hP4, hP5, hP6, hP7, hP8, hP9, hP10, hP11, hP12, hP13, hP14, hP15, hP16, hP17, hP18, hP19, hP20, e2, e3]
  exact H
/-- a new object, what the field p holds -/
theorem nk_newf {z j i l y q : _} {t n m x9 cc cs p : Nat} (k : pm_H → Nat → pm_H) (s : nk_S h o c) (h0 : lg ls 0 = some (.ref o)) (hp : ¬ hR (nw h t n) o p = 0) (m8 : ¬ m = 9008) (b1 : 1 + cc ≤ bc) (b2 : n + cs ≤ bs)
    (HC : ∀ Q' : pm_Q, nk_S (nw h t n) (hn h) t → Q' (.inl none) (k (nw h t n) (hn h)) → C m [.ref (hn h), .ref (hR (nw h t n) o p)] (nw h t n) Q') (kK : nk_K (nw h t n) (k (nw h t n) (hn h)))
    (H : nk_S (nk_o h o f t n k) o c → pm_ops js hd K C Q nx r (bc - 1 - cc) (bs - n - cs) ls [] (nk_o h o f t n k)) : pm_ops js hd K C Q nx ((.aload_n z, 0, 0, 0, 0, 0) :: (.new j, t, n, 0, 0, 0) :: (.dup, 0, 0, 0, 0, 0) :: (.aload_n y, 0, 0, 0, 0, 0) :: (.getfield q, c, p, 2, 0, 0) :: (.invokespecial l, m, 1, x9, cc, cs) :: (.putfield i, c, f, 2, 0, 0) :: r) bc bs ls [] h := by
  have H := H (nk_SK s (nk_Ko nk_K0 kK))
  have e1 : hx h = 0 := s.1
  have e0 : hT (nw h t n) o = c := (nk_SK s (nk_Kw nk_K0)).2.1
  have e2 : hT (k (nw h t n) (hn h)) o = c := (nk_SK s (nk_Kt (nk_Kw nk_K0) kK)).2.1
  have e3 : (hn h = 0) = False := eq_false (Nat.ne_of_gt (Nat.lt_of_le_of_lt (Nat.zero_le _) s.2.2))
  have e4 : (m = 9008) = False := eq_false m8
  have e5 : (hR (nw h t n) o p = 0) = False := eq_false hp
  have b3 : 1 ≤ bc := by omega
  have b4 : n ≤ bs := by omega
  have b5 : cc ≤ bc - 1 := by omega
  have b6 : cs ≤ bs - n := by omega
  simp (disch := omega) only [nI1T, Nat.left_eq_add, Nat.add_eq_left, Nat.add_eq_zero_iff, and_false, false_and, if_false, if_true, opsN, opsC, pm_1, lg, ls1, ls2, lq, List.length_cons, List.length_nil, cN, cL, callE, retV, retN, pm_pop, pm_cat, List.map_cons, List.map_nil, List.sum_cons, List.sum_nil, Value.category, Option.toList, List.cons_append, List.nil_append, ↓reduceIte, reduceCtorEq, Nat.reduceAdd, Nat.reduceLT, Nat.reduceLeDiff, Nat.reduceSub, Nat.reduceEqDiff, Nat.zero_le, Nat.sub_zero, Nat.le_refl, true_and, and_true, not_true_eq_false, not_false_eq_true, true_or, or_true, lc_eq, lc_ne, lc_lt, lc_ge, lc_gt, lc_le, nI_add, lN_add, nI_leI, nI_ltI, nI_eq, nI_clamp, pk_lLT, pk_lLE, pk_lEQ, pk_sub, vp_inT, nz_eq, nz_lt, nz_ge, nz_gt, nz_le, lz_eq, lz_lt, lz_ge, hP1, hP2, hP3, hP4, hP5, hP6, hP7, hP8, hP9, hP10, hP11, hP12, hP13, hP14, hP15, hP16, hP17, hP18, hP19, hP20, h0, e0, e5, e1, e4, b3, b4, b5, b6]
  refine HC _ (nk_Sn e1) ?_
  simp (disch := omega) only [nI1T, Nat.left_eq_add, Nat.add_eq_left, Nat.add_eq_zero_iff, and_false, false_and, if_false, if_true, opsN, opsC, pm_1, lg, ls1, ls2, lq, List.length_cons, List.length_nil, cN, cL, callE, retV, retN, pm_pop, pm_cat, List.map_cons, List.map_nil, List.sum_cons, List.sum_nil, Value.category, Option.toList, List.cons_append, List.nil_append, ↓reduceIte, reduceCtorEq, Nat.reduceAdd, Nat.reduceLT, Nat.reduceLeDiff, Nat.reduceSub, Nat.reduceEqDiff, Nat.zero_le, Nat.sub_zero, Nat.le_refl, true_and, and_true, not_true_eq_false, not_false_eq_true, true_or, or_true, lc_eq, lc_ne, lc_lt, lc_ge, lc_gt, lc_le, nI_add, lN_add, nI_leI, nI_ltI, nI_eq, nI_clamp, pk_lLT, pk_lLE, pk_lEQ, pk_sub, vp_inT, nz_eq, nz_lt, nz_ge, nz_gt, nz_le, lz_eq, lz_lt, lz_ge, hP1, hP2, hP3, hP4, hP5, hP6, hP7, hP8, hP9, hP10, hP11, hP12, hP13, hP14, hP15, hP16, hP17, hP18, hP19, hP20, e2, e3]
  exact H
end NK1
def kn_100 (n : Nat) (h : pm_H) (o : Nat) : pm_H := nk_I (nk_a (nk_a (nk_a (nk_a (nk_I (nk_a (h) o 4 101 3) o 6 (nI 1)) o 0 101 n) o 1 100 n) o 2 100 n) o 3 100 n) o 5 (nI n)
theorem kq_100 {n : Nat} {h : pm_H} {o : Nat} : nk_K h (kn_100 n h o) := nk_KI (nk_Ka (nk_Ka (nk_Ka (nk_Ka (nk_KI (nk_Ka (nk_K0)))))))
set_option maxHeartbeats 2000000 in
theorem c100_n (d : Nat) {h : pm_H} {o : Nat} {n : Nat} {Q : pm_Q} (n1 : n ≤ 300) (s : nk_S h o 1) (hQ : Q (.inl none) (kn_100 n h o)) : pm_M PP (d + 1) 100 [.ref o, .int (nI n)] h Q := by
  rw [e_100, u_100_0]
  unfold B_100_0
  refine nk_two (o := o) rfl ?_
  refine nk_four _ 101 3 s rfl (fun _ _ _ _ _ => rfl) (by omega) (by omega) (by omega) fun s => ?_
  refine nk_int _ (nI 1) s rfl (fun _ _ _ _ _ => rfl) fun s => ?_
  refine nk_four _ 101 n s rfl (fun _ _ _ _ _ => rfl) (by omega) (by omega) (by omega) fun s => ?_
  refine nk_four _ 100 n s rfl (fun _ _ _ _ _ => rfl) (by omega) (by omega) (by omega) fun s => ?_
  refine nk_four _ 100 n s rfl (fun _ _ _ _ _ => rfl) (by omega) (by omega) (by omega) fun s => ?_
  refine nk_four _ 100 n s rfl (fun _ _ _ _ _ => rfl) (by omega) (by omega) (by omega) fun s => ?_
  refine nk_int _ (nI n) s rfl (fun _ _ _ _ _ => rfl) fun s => ?_
  exact hQ
def kn_300 (h : pm_H) (o : Nat) : pm_H := nk_o (nk_o (h) o 0 1 10 (kn_100 200)) o 1 1 10 (kn_100 200)
theorem kq_300 {h : pm_H} {o : Nat} : nk_K h (kn_300 h o) := nk_Ko (nk_Ko (nk_K0) kq_100) kq_100
set_option maxHeartbeats 2000000 in
theorem c300_n (d : Nat) {h : pm_H} {o : Nat} {Q : pm_Q} (s : nk_S h o 3) (hQ : Q (.inl none) (kn_300 h o)) : pm_M PP (d + 2) 300 [.ref o] h Q := by
  rw [e_300, u_300_0]
  unfold B_300_0
  refine nk_two (o := o) rfl ?_
  refine nk_newn _ 200 (kn_100 200) s rfl (fun _ _ _ _ _ => rfl) (by decide) (by omega) (by omega) (fun _ s q => c100_n _ (by omega) s q) kq_100 fun s => ?_
  refine nk_newn _ 200 (kn_100 200) s rfl (fun _ _ _ _ _ => rfl) (by decide) (by omega) (by omega) (fun _ s q => c100_n _ (by omega) s q) kq_100 fun s => ?_
  exact hQ
def kn_0 (h : pm_H) (o : Nat) : pm_H := nk_a (nk_a (nk_a (nk_a (nk_o (h) o 0 3 2 kn_300) o 1 100 8) o 2 100 8) o 3 100 8) o 4 101 8
theorem kq_0 {h : pm_H} {o : Nat} : nk_K h (kn_0 h o) := nk_Ka (nk_Ka (nk_Ka (nk_Ka (nk_Ko (nk_K0) kq_300))))
set_option maxHeartbeats 2000000 in
theorem c0_n (d : Nat) {h : pm_H} {o : Nat} {Q : pm_Q} (s : nk_S h o 0) (hQ : Q (.inl none) (kn_0 h o)) : pm_M PP (d + 3) 0 [.ref o] h Q := by
  rw [e_0, u_0_0]
  unfold B_0_0
  refine nk_two (o := o) rfl ?_
  refine nk_new kn_300 s rfl (by decide) (by omega) (by omega) (fun _ s q => c300_n _ s q) kq_300 fun s => ?_
  refine nk_four _ 100 8 s rfl (fun _ _ _ _ _ => rfl) (by omega) (by omega) (by omega) fun s => ?_
  refine nk_four _ 100 8 s rfl (fun _ _ _ _ _ => rfl) (by omega) (by omega) (by omega) fun s => ?_
  refine nk_four _ 100 8 s rfl (fun _ _ _ _ _ => rfl) (by omega) (by omega) (by omega) fun s => ?_
  refine nk_four _ 101 8 s rfl (fun _ _ _ _ _ => rfl) (by omega) (by omega) (by omega) fun s => ?_
  exact hQ
def kn_200 (h : pm_H) (o : Nat) : pm_H := nk_a (nk_a (nk_a (nk_a (nk_a (nk_a (nk_a (nk_a (h) o 0 100 60) o 1 100 60) o 2 100 60) o 3 100 12) o 4 100 12) o 5 100 16) o 6 100 16) o 7 100 16
theorem kq_200 {h : pm_H} {o : Nat} : nk_K h (kn_200 h o) := nk_Ka (nk_Ka (nk_Ka (nk_Ka (nk_Ka (nk_Ka (nk_Ka (nk_Ka (nk_K0))))))))
set_option maxHeartbeats 2000000 in
theorem c200_n (d : Nat) {h : pm_H} {o : Nat} {Q : pm_Q} (s : nk_S h o 2) (hQ : Q (.inl none) (kn_200 h o)) : pm_M PP (d + 1) 200 [.ref o] h Q := by
  rw [e_200, u_200_0]
  unfold B_200_0
  refine nk_two (o := o) rfl ?_
  refine nk_four _ 100 60 s rfl (fun _ _ _ _ _ => rfl) (by omega) (by omega) (by omega) fun s => ?_
  refine nk_four _ 100 60 s rfl (fun _ _ _ _ _ => rfl) (by omega) (by omega) (by omega) fun s => ?_
  refine nk_four _ 100 60 s rfl (fun _ _ _ _ _ => rfl) (by omega) (by omega) (by omega) fun s => ?_
  refine nk_four _ 100 12 s rfl (fun _ _ _ _ _ => rfl) (by omega) (by omega) (by omega) fun s => ?_
  refine nk_four _ 100 12 s rfl (fun _ _ _ _ _ => rfl) (by omega) (by omega) (by omega) fun s => ?_
  refine nk_four _ 100 16 s rfl (fun _ _ _ _ _ => rfl) (by omega) (by omega) (by omega) fun s => ?_
  refine nk_four _ 100 16 s rfl (fun _ _ _ _ _ => rfl) (by omega) (by omega) (by omega) fun s => ?_
  refine nk_four _ 100 16 s rfl (fun _ _ _ _ _ => rfl) (by omega) (by omega) (by omega) fun s => ?_
  exact hQ
def kn_400 (h : pm_H) (o : Nat) : pm_H := nk_a (nk_a (nk_a (nk_a (nk_a (h) o 0 100 400) o 1 100 400) o 2 100 400) o 3 100 3) o 4 100 3
theorem kq_400 {h : pm_H} {o : Nat} : nk_K h (kn_400 h o) := nk_Ka (nk_Ka (nk_Ka (nk_Ka (nk_Ka (nk_K0)))))
set_option maxHeartbeats 2000000 in
theorem c400_n (d : Nat) {h : pm_H} {o : Nat} {Q : pm_Q} (s : nk_S h o 4) (hQ : Q (.inl none) (kn_400 h o)) : pm_M PP (d + 1) 400 [.ref o] h Q := by
  rw [e_400, u_400_0]
  unfold B_400_0
  refine nk_two (o := o) rfl ?_
  refine nk_four _ 100 400 s rfl (fun _ _ _ _ _ => rfl) (by omega) (by omega) (by omega) fun s => ?_
  refine nk_four _ 100 400 s rfl (fun _ _ _ _ _ => rfl) (by omega) (by omega) (by omega) fun s => ?_
  refine nk_four _ 100 400 s rfl (fun _ _ _ _ _ => rfl) (by omega) (by omega) (by omega) fun s => ?_
  refine nk_four _ 100 3 s rfl (fun _ _ _ _ _ => rfl) (by omega) (by omega) (by omega) fun s => ?_
  refine nk_four _ 100 3 s rfl (fun _ _ _ _ _ => rfl) (by omega) (by omega) (by omega) fun s => ?_
  exact hQ
def kn_500 (v : Nat) (h : pm_H) (o : Nat) : pm_H := nk_R (nk_a (h) o 1 100 200) o 0 v
theorem kq_500 {v : Nat} {h : pm_H} {o : Nat} : nk_K h (kn_500 v h o) := nk_KR (nk_Ka (nk_K0))
set_option maxHeartbeats 2000000 in
theorem c500_n (d : Nat) {h : pm_H} {o : Nat} {v : Nat} {Q : pm_Q} (v0 : ¬ v = 0) (s : nk_S h o 5) (hQ : Q (.inl none) (kn_500 v h o)) : pm_M PP (d + 1) 500 [.ref o, .ref v] h Q := by
  rw [e_500, u_500_0]
  unfold B_500_0
  refine nk_two (o := o) rfl ?_
  refine nk_four _ 100 200 s rfl (fun _ _ _ _ _ => rfl) (by omega) (by omega) (by omega) fun s => ?_
  refine nk_ref s rfl rfl v0 fun s => ?_
  exact hQ
def kn_600 (v : Nat) (h : pm_H) (o : Nat) : pm_H := nk_R (nk_a (nk_a (nk_a (h) o 1 100 300) o 2 100 200) o 3 100 8) o 0 v
theorem kq_600 {v : Nat} {h : pm_H} {o : Nat} : nk_K h (kn_600 v h o) := nk_KR (nk_Ka (nk_Ka (nk_Ka (nk_K0))))
set_option maxHeartbeats 2000000 in
theorem c600_n (d : Nat) {h : pm_H} {o : Nat} {v : Nat} {Q : pm_Q} (v0 : ¬ v = 0) (s : nk_S h o 6) (hQ : Q (.inl none) (kn_600 v h o)) : pm_M PP (d + 1) 600 [.ref o, .ref v] h Q := by
  rw [e_600, u_600_0]
  unfold B_600_0
  refine nk_two (o := o) rfl ?_
  refine nk_four _ 100 300 s rfl (fun _ _ _ _ _ => rfl) (by omega) (by omega) (by omega) fun s => ?_
  refine nk_four _ 100 200 s rfl (fun _ _ _ _ _ => rfl) (by omega) (by omega) (by omega) fun s => ?_
  refine nk_four _ 100 8 s rfl (fun _ _ _ _ _ => rfl) (by omega) (by omega) (by omega) fun s => ?_
  refine nk_ref s rfl rfl v0 fun s => ?_
  exact hQ
def kn_700 (v : Nat) (h : pm_H) (o : Nat) : pm_H := nk_R (nk_a (nk_a (nk_a (nk_a (nk_a (h) o 1 100 16) o 2 100 16) o 3 100 16) o 4 100 16) o 5 100 16) o 0 v
theorem kq_700 {v : Nat} {h : pm_H} {o : Nat} : nk_K h (kn_700 v h o) := nk_KR (nk_Ka (nk_Ka (nk_Ka (nk_Ka (nk_Ka (nk_K0))))))
set_option maxHeartbeats 2000000 in
theorem c700_n (d : Nat) {h : pm_H} {o : Nat} {v : Nat} {Q : pm_Q} (v0 : ¬ v = 0) (s : nk_S h o 7) (hQ : Q (.inl none) (kn_700 v h o)) : pm_M PP (d + 1) 700 [.ref o, .ref v] h Q := by
  rw [e_700, u_700_0]
  unfold B_700_0
  refine nk_two (o := o) rfl ?_
  refine nk_four _ 100 16 s rfl (fun _ _ _ _ _ => rfl) (by omega) (by omega) (by omega) fun s => ?_
  refine nk_four _ 100 16 s rfl (fun _ _ _ _ _ => rfl) (by omega) (by omega) (by omega) fun s => ?_
  refine nk_four _ 100 16 s rfl (fun _ _ _ _ _ => rfl) (by omega) (by omega) (by omega) fun s => ?_
  refine nk_four _ 100 16 s rfl (fun _ _ _ _ _ => rfl) (by omega) (by omega) (by omega) fun s => ?_
  refine nk_four _ 100 16 s rfl (fun _ _ _ _ _ => rfl) (by omega) (by omega) (by omega) fun s => ?_
  refine nk_ref s rfl rfl v0 fun s => ?_
  exact hQ
def kn_800 (h : pm_H) (o : Nat) : pm_H := nk_I (nk_a (h) o 0 102 500) o 5 (-nI 1)
theorem kq_800 {h : pm_H} {o : Nat} : nk_K h (kn_800 h o) := nk_KI (nk_Ka (nk_K0))
set_option maxHeartbeats 2000000 in
theorem c800_n (d : Nat) {h : pm_H} {o : Nat} {Q : pm_Q} (s : nk_S h o 8) (hQ : Q (.inl none) (kn_800 h o)) : pm_M PP (d + 1) 800 [.ref o] h Q := by
  rw [e_800, u_800_0]
  unfold B_800_0
  refine nk_two (o := o) rfl ?_
  refine nk_four _ 102 500 s rfl (fun _ _ _ _ _ => rfl) (by omega) (by omega) (by omega) fun s => ?_
  refine nk_int _ (-nI 1) s rfl (fun _ _ _ _ _ => rfl) fun s => ?_
  exact hQ
def kn_900_1 (h : pm_H) (o : Nat) : pm_H := nk_o (nk_o (nk_o (nk_o (nk_o (nk_o (nk_o (nk_o (h) o 0 3 2 kn_300) o 1 0 6 kn_0) o 2 8 6 kn_800) o 3 4 8 kn_400) o 4 4 8 kn_400) o 5 2 11 kn_200) o 6 2 11 kn_200) o 7 1 10 (kn_100 300)
theorem kq_900_1 {h : pm_H} {o : Nat} : nk_K h (kn_900_1 h o) := nk_Ko (nk_Ko (nk_Ko (nk_Ko (nk_Ko (nk_Ko (nk_Ko (nk_Ko (nk_K0) kq_300) kq_0) kq_800) kq_400) kq_400) kq_200) kq_200) kq_100
def kn_900_2 (h : pm_H) (o : Nat) : pm_H := nk_o (kn_900_1 h o) o 8 5 4 (fun g z => kn_500 (hR g o 7) g z)
theorem kq_900_2 {h : pm_H} {o : Nat} : nk_K h (kn_900_2 h o) := nk_Ko (kq_900_1) kq_500
def kn_900_3 (h : pm_H) (o : Nat) : pm_H := nk_o (kn_900_2 h o) o 9 7 8 (fun g z => kn_700 (hR g o 7) g z)
theorem kq_900_3 {h : pm_H} {o : Nat} : nk_K h (kn_900_3 h o) := nk_Ko (kq_900_2) kq_700
def kn_900 (h : pm_H) (o : Nat) : pm_H := nk_o (kn_900_3 h o) o 10 6 5 (fun g z => kn_600 (hR g o 7) g z)
theorem kq_900 {h : pm_H} {o : Nat} : nk_K h (kn_900 h o) := nk_Ko (kq_900_3) kq_600
set_option maxHeartbeats 2000000 in
theorem c900_n (d : Nat) {h : pm_H} {o : Nat} {Q : pm_Q} (p1 : ¬ hR (nw (kn_900_1 h o) 5 4) o 7 = 0) (p2 : ¬ hR (nw (kn_900_2 h o) 7 8) o 7 = 0) (p3 : ¬ hR (nw (kn_900_3 h o) 6 5) o 7 = 0) (s : nk_S h o 9) (hQ : Q (.inl none) (kn_900 h o)) : pm_M PP (d + 4) 900 [.ref o] h Q := by
  rw [e_900, u_900_0]
  unfold B_900_0
  refine nk_two (o := o) rfl ?_
  refine nk_new kn_300 s rfl (by decide) (by omega) (by omega) (fun _ s q => c300_n _ s q) kq_300 fun s => ?_
  refine nk_new kn_0 s rfl (by decide) (by omega) (by omega) (fun _ s q => c0_n _ s q) kq_0 fun s => ?_
  refine nk_new kn_800 s rfl (by decide) (by omega) (by omega) (fun _ s q => c800_n _ s q) kq_800 fun s => ?_
  refine nk_new kn_400 s rfl (by decide) (by omega) (by omega) (fun _ s q => c400_n _ s q) kq_400 fun s => ?_
  refine nk_new kn_400 s rfl (by decide) (by omega) (by omega) (fun _ s q => c400_n _ s q) kq_400 fun s => ?_
  refine nk_new kn_200 s rfl (by decide) (by omega) (by omega) (fun _ s q => c200_n _ s q) kq_200 fun s => ?_
  refine nk_new kn_200 s rfl (by decide) (by omega) (by omega) (fun _ s q => c200_n _ s q) kq_200 fun s => ?_
  refine nk_newn _ 300 (kn_100 300) s rfl (fun _ _ _ _ _ => rfl) (by decide) (by omega) (by omega) (fun _ s q => c100_n _ (by omega) s q) kq_100 fun s => ?_
  have s : nk_S (kn_900_1 h o) o 9 := s
  refine nk_newf (fun g z => kn_500 (hR g o 7) g z) s rfl p1 (by decide) (by omega) (by omega) (fun _ s q => c500_n _ p1 s q) kq_500 fun s => ?_
  have s : nk_S (kn_900_2 h o) o 9 := s
  refine nk_newf (fun g z => kn_700 (hR g o 7) g z) s rfl p2 (by decide) (by omega) (by omega) (fun _ s q => c700_n _ p2 s q) kq_700 fun s => ?_
  have s : nk_S (kn_900_3 h o) o 9 := s
  refine nk_newf (fun g z => kn_600 (hR g o 7) g z) s rfl p3 (by decide) (by omega) (by omega) (fun _ s q => c600_n _ p3 s q) kq_600 fun s => ?_
  exact hQ
def kn_1000 (h : pm_H) (o : Nat) : pm_H := nk_a (nk_a (nk_a (nk_a (nk_a (nk_a (nk_a (nk_a (nk_a (nk_a (nk_a (nk_a (nk_m (nk_m (nk_m (nk_m (nk_m (nk_m (nk_m (nk_m (nk_a (nk_I (nk_a (nk_a (nk_m (nk_m (nk_m (nk_a (nk_I (nk_a (h) o 1 100 4) o 5 (-nI 1)) o 8 100 500) o 9 105 101 2 1503) o 10 105 101 8 1503) o 11 105 101 8 1503) o 12 100 8) o 13 101 1503) o 14 (nI 1)) o 16 103 160) o 17 104 100 300 4) o 18 104 100 300 4) o 19 104 100 60 3) o 20 104 100 12 2) o 21 104 100 16 3) o 22 104 100 60 3) o 23 104 100 12 2) o 24 104 100 16 3) o 34 101 1503) o 35 100 400) o 39 100 16) o 40 100 16) o 41 100 16) o 42 100 16) o 43 100 16) o 44 101 16) o 48 100 300) o 49 100 200) o 50 100 8) o 51 101 200
theorem kq_1000 {h : pm_H} {o : Nat} : nk_K h (kn_1000 h o) := nk_Ka (nk_Ka (nk_Ka (nk_Ka (nk_Ka (nk_Ka (nk_Ka (nk_Ka (nk_Ka (nk_Ka (nk_Ka (nk_Ka (nk_KM (nk_KM (nk_KM (nk_KM (nk_KM (nk_KM (nk_KM (nk_KM (nk_Ka (nk_KI (nk_Ka (nk_Ka (nk_KM (nk_KM (nk_KM (nk_Ka (nk_KI (nk_Ka (nk_K0))))))))))))))))))))))))))))))
set_option maxHeartbeats 2000000 in
theorem c1000_n (d : Nat) {h : pm_H} {o : Nat} {Q : pm_Q} (s : nk_S h o 10) (hQ : Q (.inl none) (kn_1000 h o)) : pm_M PP (d + 1) 1000 [.ref o] h Q := by
  rw [e_1000, u_1000_0]
  unfold B_1000_0
  refine nk_two (o := o) rfl ?_
  refine nk_four _ 100 4 s rfl (fun _ _ _ _ _ => rfl) (by omega) (by omega) (by omega) fun s => ?_
  refine nk_int _ (-nI 1) s rfl (fun _ _ _ _ _ => rfl) fun s => ?_
  refine nk_four _ 100 500 s rfl (fun _ _ _ _ _ => rfl) (by omega) (by omega) (by omega) fun s => ?_
  refine nk_five _ _ 105 101 2 1503 s rfl (fun _ _ _ _ _ => rfl) (fun _ _ _ _ _ => rfl) (by omega) (by omega) (by omega) (by omega) fun s => ?_
  refine nk_five _ _ 105 101 8 1503 s rfl (fun _ _ _ _ _ => rfl) (fun _ _ _ _ _ => rfl) (by omega) (by omega) (by omega) (by omega) fun s => ?_
  refine nk_five _ _ 105 101 8 1503 s rfl (fun _ _ _ _ _ => rfl) (fun _ _ _ _ _ => rfl) (by omega) (by omega) (by omega) (by omega) fun s => ?_
  refine nk_four _ 100 8 s rfl (fun _ _ _ _ _ => rfl) (by omega) (by omega) (by omega) fun s => ?_
  refine nk_four _ 101 1503 s rfl (fun _ _ _ _ _ => rfl) (by omega) (by omega) (by omega) fun s => ?_
  refine nk_int _ (nI 1) s rfl (fun _ _ _ _ _ => rfl) fun s => ?_
  refine nk_four _ 103 160 s rfl (fun _ _ _ _ _ => rfl) (by omega) (by omega) (by omega) fun s => ?_
  refine nk_five _ _ 104 100 300 4 s rfl (fun _ _ _ _ _ => rfl) (fun _ _ _ _ _ => rfl) (by omega) (by omega) (by omega) (by omega) fun s => ?_
  refine nk_five _ _ 104 100 300 4 s rfl (fun _ _ _ _ _ => rfl) (fun _ _ _ _ _ => rfl) (by omega) (by omega) (by omega) (by omega) fun s => ?_
  refine nk_five _ _ 104 100 60 3 s rfl (fun _ _ _ _ _ => rfl) (fun _ _ _ _ _ => rfl) (by omega) (by omega) (by omega) (by omega) fun s => ?_
  refine nk_five _ _ 104 100 12 2 s rfl (fun _ _ _ _ _ => rfl) (fun _ _ _ _ _ => rfl) (by omega) (by omega) (by omega) (by omega) fun s => ?_
  refine nk_five _ _ 104 100 16 3 s rfl (fun _ _ _ _ _ => rfl) (fun _ _ _ _ _ => rfl) (by omega) (by omega) (by omega) (by omega) fun s => ?_
  refine nk_five _ _ 104 100 60 3 s rfl (fun _ _ _ _ _ => rfl) (fun _ _ _ _ _ => rfl) (by omega) (by omega) (by omega) (by omega) fun s => ?_
  refine nk_five _ _ 104 100 12 2 s rfl (fun _ _ _ _ _ => rfl) (fun _ _ _ _ _ => rfl) (by omega) (by omega) (by omega) (by omega) fun s => ?_
  refine nk_five _ _ 104 100 16 3 s rfl (fun _ _ _ _ _ => rfl) (fun _ _ _ _ _ => rfl) (by omega) (by omega) (by omega) (by omega) fun s => ?_
  refine nk_four _ 101 1503 s rfl (fun _ _ _ _ _ => rfl) (by omega) (by omega) (by omega) fun s => ?_
  refine nk_four _ 100 400 s rfl (fun _ _ _ _ _ => rfl) (by omega) (by omega) (by omega) fun s => ?_
  refine nk_four _ 100 16 s rfl (fun _ _ _ _ _ => rfl) (by omega) (by omega) (by omega) fun s => ?_
  refine nk_four _ 100 16 s rfl (fun _ _ _ _ _ => rfl) (by omega) (by omega) (by omega) fun s => ?_
  refine nk_four _ 100 16 s rfl (fun _ _ _ _ _ => rfl) (by omega) (by omega) (by omega) fun s => ?_
  refine nk_four _ 100 16 s rfl (fun _ _ _ _ _ => rfl) (by omega) (by omega) (by omega) fun s => ?_
  refine nk_four _ 100 16 s rfl (fun _ _ _ _ _ => rfl) (by omega) (by omega) (by omega) fun s => ?_
  refine nk_four _ 101 16 s rfl (fun _ _ _ _ _ => rfl) (by omega) (by omega) (by omega) fun s => ?_
  refine nk_four _ 100 300 s rfl (fun _ _ _ _ _ => rfl) (by omega) (by omega) (by omega) fun s => ?_
  refine nk_four _ 100 200 s rfl (fun _ _ _ _ _ => rfl) (by omega) (by omega) (by omega) fun s => ?_
  refine nk_four _ 100 8 s rfl (fun _ _ _ _ _ => rfl) (by omega) (by omega) (by omega) fun s => ?_
  refine nk_four _ 101 200 s rfl (fun _ _ _ _ _ => rfl) (by omega) (by omega) (by omega) fun s => ?_
  exact hQ
