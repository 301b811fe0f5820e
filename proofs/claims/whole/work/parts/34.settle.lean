/-! ===== settle: an item comes into the line ===== -/
theorem insB_split {W : Nat → Nat} {b i : Nat} : ∀ (L1 L2 : List Nat), (∀ x, x ∈ L1 → W x ≤ b) → (∀ x, L2.head? = some x → b < W x) → insB W b i (L1 ++ L2) = L1 ++ i :: L2
  | [], [], _, _ => rfl
  | [], x :: r, _, h2 => by
    show (if W x ≤ b then x :: insB W b i r else i :: x :: r) = i :: x :: r
    rw [if_neg (Nat.not_le.mpr (h2 x rfl))]
  | y :: L1, L2, h1, h2 => by
    show (if W y ≤ b then y :: insB W b i (L1 ++ L2) else i :: y :: (L1 ++ L2)) = y :: (L1 ++ i :: L2)
    rw [if_pos (h1 y (List.mem_cons_self ..)), insB_split L1 L2 (fun x hx => h1 x (List.mem_cons_of_mem _ hx)) h2]
theorem insB_len {W : Nat → Nat} {b i : Nat} : ∀ (L : List Nat), (insB W b i L).length = L.length + 1
  | [] => rfl
  | x :: r => by
    show (if W x ≤ b then x :: insB W b i r else i :: x :: r).length = _
    split
    · rw [List.length_cons, insB_len r, List.length_cons]
    · rfl
theorem getD_lt {L : List Nat} {j : Nat} (h : j < L.length) : L.getD j 0 = L[j] := by
  rw [List.getD_eq_getElem?_getD, List.getElem?_eq_getElem h, Option.getD_some]
theorem insB_at {W : Nat → Nat} {b i : Nat} {L : List Nat} (hs : L.Pairwise fun x y => W x ≤ W y) {t : Nat} (ht : t ≤ L.length) (h1 : ∀ j, j < t → j + 1 = t → W (L.getD j 0) ≤ b) (h2 : ∀ j, t ≤ j → j < L.length → b < W (L.getD j 0)) :
    insB W b i L = L.take t ++ i :: L.drop t := by
  have e := List.take_append_drop t L
  have := insB_split (W := W) (b := b) (i := i) (L.take t) (L.drop t) (by
    intro x hx
    obtain ⟨j, hj, hx⟩ := List.getElem_of_mem hx
    rw [List.length_take] at hj
    rw [List.getElem_take] at hx
    have q := h1 (t - 1) (by omega) (by omega)
    rw [getD_lt (by omega)] at q
    rw [← hx]
    by_cases z : j = t - 1
    · subst z; exact q
    · exact Nat.le_trans (List.pairwise_iff_getElem.mp hs j (t - 1) (by omega) (by omega) (by omega)) q) (by
    intro x hx
    rw [List.head?_drop] at hx
    obtain ⟨hl, hx⟩ := List.getElem?_eq_some_iff.mp hx
    have := h2 t (Nat.le_refl _) hl
    rw [getD_lt hl, hx] at this
    exact this)
  rw [e] at this
  exact this
theorem insB_getD {W : Nat → Nat} {b i : Nat} {L : List Nat} (hs : L.Pairwise fun x y => W x ≤ W y) {t : Nat} (ht : t ≤ L.length) (h1 : ∀ j, j < t → j + 1 = t → W (L.getD j 0) ≤ b) (h2 : ∀ j, t ≤ j → j < L.length → b < W (L.getD j 0)) (j : Nat) :
    (insB W b i L).getD j 0 = if j < t then L.getD j 0 else if j = t then i else L.getD (j - 1) 0 := by
  rw [insB_at hs ht h1 h2]
  simp only [List.getD_eq_getElem?_getD, List.getElem?_append, List.length_take, Nat.min_eq_left ht]
  by_cases a : j < t
  · rw [if_pos a, if_pos a, List.getElem?_take_of_lt a]
  · rw [if_neg a, if_neg a]
    by_cases c : j = t
    · subst c; rw [if_pos rfl, Nat.sub_self]; rfl
    · rw [if_neg c]
      have : j - t = (j - t - 1) + 1 := by omega
      rw [this, List.getElem?_cons_succ, List.getElem?_drop]
      congr 2
      omega
/-- what settle leaves: the line, the item's bucket, the bit of the bucket -/
def setH (h : pm_H) (b item bucket : Nat) (ln : Nat → Int32) (fl : Nat → Int64) : pm_H := sL (sI (sI h (b + 5) ln) (b + 3) (va_up (hI h (b + 3)) item (nI bucket))) (b + 1) fl
def flU (f f' : Nat → Int64) (bucket : Nat) : Prop := ∀ U : Nat → Bool, (∀ k, k < 192 → (f (k / 64)).toBitVec.getLsbD (k % 64) = U k) → ∀ k, k < 192 → (f' (k / 64)).toBitVec.getLsbD (k % 64) = va_up U bucket true k
theorem flU_or (f : Nat → Int64) (bucket : Nat) (hb : bucket < 160) : flU f (va_up f (bucket / 64) (f (bucket / 64) ||| lN 1 <<< ((nI (bucket % 64)).toInt64 &&& 63))) bucket := by
  intro U hU k hk
  have hm := shl1 (bucket % 64) (Nat.mod_lt _ (by decide))
  by_cases e : k / 64 = bucket / 64
  · rw [e, va_up_self, or_bit _ _ _ _ (Nat.mod_lt _ (by decide)) (Nat.mod_lt _ (by decide)) hm, ← e, hU k hk]
    by_cases z : k = bucket
    · subst z; rw [va_up_self]; simp
    · rw [va_up_ne _ _ z]
      have : ¬ k % 64 = bucket % 64 := by omega
      simp [this]
  · rw [va_up_ne _ _ e, hU k hk, va_up_ne _ _ (fun q => e (by rw [q]))]
theorem x115 (d : Nat) {h : pm_H} {b cap item bucket t : Nat} {L : List Nat} {W : Nat → Nat} {Q : pm_Q} {g : Nat → Int32} (hs : bS h b cap) (hLn : L.length < cap) (hit : item < cap) (hb : bucket < 160)
    (hp : L.Pairwise fun x y => W x ≤ W y)
    (hQ : ∀ ln fl, (∀ j, j ≤ L.length → ln j = nI ((insB W bucket item L).getD j 0)) → (∀ j, L.length < j → ln j = hI h (b + 5) j) → flU (hL h (b + 1)) fl bucket → Q (.inl none) (setH h b item bucket ln fl))
    (ht : t ≤ L.length) (g1 : ∀ j, j < t → g j = nI (L.getD j 0)) (g2 : ∀ j, t < j → j ≤ L.length → g j = nI (L.getD (j - 1) 0)) (g3 : ∀ j, L.length < j → g j = hI h (b + 5) j)
    (g4 : ∀ j, t ≤ j → j < L.length → bucket < W (L.getD j 0)) (g5 : ∀ j, j < t → j + 1 = t → W (L.getD j 0) ≤ bucket) :
    pm_W PP d 115 Q 0 0 48 [some (.ref b), some (.int (nI item)), some (.int (nI bucket)), some (.int (nI L.length)), some (.int (nI t))] [] (sI h (b + 5) g) := by
  obtain ⟨s0, s1, s2, s3, s4, s5, s6, s7, s8, s9, s10, s11, s12, s13, s14, s15, s16⟩ := hs
  simp (disch := omega) only [u_115_48, B_115_48, nI1T, Nat.left_eq_add, Nat.add_eq_left, Nat.add_eq_zero_iff, and_false, false_and, if_false, if_true, opsN, opsC, pm_1, lg, ls1, ls2, lq, List.length_cons, List.length_nil, cN, cL, callE, retV, retN, pm_pop, pm_cat, List.map_cons, List.map_nil, List.sum_cons, List.sum_nil, Value.category, Option.toList, List.cons_append, List.nil_append, reduceIte, reduceCtorEq, Nat.reduceAdd, Nat.reduceLT, Nat.reduceLeDiff, Nat.reduceSub, Nat.reduceEqDiff, Nat.zero_le, Nat.sub_zero, Nat.le_refl, true_and, and_true, not_true_eq_false, not_false_eq_true, true_or, or_true, lc_eq, lc_ne, lc_lt, lc_ge, lc_gt, lc_le, nI_add, lN_add, nI_leI, nI_ltI, nI_eq, nI_clamp, pk_lLT, pk_lLE, pk_lEQ, pk_sub, vp_inT, nz_eq, nz_lt, nz_ge, nz_gt, nz_le, lz_eq, lz_lt, lz_ge, hP1, hP2, hP3, hP4, hP5, hP6, hP7, hP8, hP9, hP10, hP11, hP12, hP13, hP14, hP15, hP16, hP17, hP18, hP19, hP20, s0, s1, s2, s3, s4, s5, s6, s8, s10, s11, s13, s15, va_upE, shr6, and63, hI_at, sI_sI]
  refine hQ _ _ ?_ ?_ (flU_or _ _ hb)
  · intro j hj
    rw [insB_getD hp ht g5 g4 j, va_upE]
    by_cases c : j = t
    · rw [if_pos c, if_neg (by omega), if_pos c]
    · rw [if_neg c]
      by_cases a : j < t
      · rw [if_pos a]; exact g1 j a
      · rw [if_neg a, if_neg c]; exact g2 j (by omega) hj
  · intro j hj
    rw [va_up_ne _ _ (by omega)]
    exact g3 j hj
theorem l115 (d : Nat) {h : pm_H} {b cap item bucket : Nat} {L : List Nat} {W : Nat → Nat} {Q : pm_Q} (hs : bS h b cap) (hLn : L.length < cap) (hit : item < cap) (hb : bucket < 160) (hW : ∀ x, x ∈ L → x < cap ∧ W x < 160 ∧ hI h (b + 3) x = nI (W x))
    (hp : L.Pairwise fun x y => W x ≤ W y)
    (hQ : ∀ ln fl, (∀ j, j ≤ L.length → ln j = nI ((insB W bucket item L).getD j 0)) → (∀ j, L.length < j → ln j = hI h (b + 5) j) → flU (hL h (b + 1)) fl bucket → Q (.inl none) (setH h b item bucket ln fl)) :
    ∀ (t : Nat) (g : Nat → Int32), t ≤ L.length → (∀ j, j < t → g j = nI (L.getD j 0)) → (∀ j, t < j → j ≤ L.length → g j = nI (L.getD (j - 1) 0)) → (∀ j, L.length < j → g j = hI h (b + 5) j) →
      (∀ j, t ≤ j → j < L.length → bucket < W (L.getD j 0)) →
      pm_W PP d 115 Q 0 0 3 [some (.ref b), some (.int (nI item)), some (.int (nI bucket)), some (.int (nI L.length)), some (.int (nI t))] [] (sI h (b + 5) g) := by
  obtain ⟨s0, s1, s2, s3, s4, s5, s6, s7, s8, s9, s10, s11, s12, s13, s14, s15, s16⟩ := id hs
  intro t
  induction t with
  | zero =>
    intro g ht g1 g2 g3 g4
    rw [u_115_3]
    simp (disch := omega) only [B_115_3, nI1T, Nat.left_eq_add, Nat.add_eq_left, Nat.add_eq_zero_iff, and_false, false_and, if_false, if_true, opsN, opsC, pm_1, lg, ls1, ls2, lq, List.length_cons, List.length_nil, cN, cL, callE, retV, retN, pm_pop, pm_cat, List.map_cons, List.map_nil, List.sum_cons, List.sum_nil, Value.category, Option.toList, List.cons_append, List.nil_append, reduceIte, reduceCtorEq, Nat.reduceAdd, Nat.reduceLT, Nat.reduceLeDiff, Nat.reduceSub, Nat.reduceEqDiff, Nat.zero_le, Nat.sub_zero, Nat.le_refl, true_and, and_true, not_true_eq_false, not_false_eq_true, true_or, or_true, lc_eq, lc_ne, lc_lt, lc_ge, lc_gt, lc_le, nI_add, lN_add, nI_leI, nI_ltI, nI_eq, nI_clamp, pk_lLT, pk_lLE, pk_lEQ, pk_sub, vp_inT, nz_eq, nz_lt, nz_ge, nz_gt, nz_le, lz_eq, lz_lt, lz_ge, hP1, hP2, hP3, hP4, hP5, hP6, hP7, hP8, hP9, hP10, hP11, hP12, hP13, hP14, hP15, hP16, hP17, hP18, hP19, hP20]
    exact x115 d hs hLn hit hb hp hQ ht g1 g2 g3 g4 (fun j hj => absurd hj (Nat.not_lt_zero _))
  | succ t ih =>
    intro g ht g1 g2 g3 g4
    have hmem : L.getD t 0 ∈ L := by rw [getD_lt (by omega)]; exact List.getElem_mem _
    obtain ⟨w1, w2, w3⟩ := hW _ hmem
    have gt := g1 t (by omega)
    have ne : ¬ t + 1 = 0 := by omega
    have ts : t + 1 - 1 = t := by omega
    rw [u_115_3]
    simp (disch := omega) only [B_115_3, nI1T, Nat.left_eq_add, Nat.add_eq_left, Nat.add_eq_zero_iff, and_false, false_and, if_false, if_true, opsN, opsC, pm_1, lg, ls1, ls2, lq, List.length_cons, List.length_nil, cN, cL, callE, retV, retN, pm_pop, pm_cat, List.map_cons, List.map_nil, List.sum_cons, List.sum_nil, Value.category, Option.toList, List.cons_append, List.nil_append, reduceIte, reduceCtorEq, Nat.reduceAdd, Nat.reduceLT, Nat.reduceLeDiff, Nat.reduceSub, Nat.reduceEqDiff, Nat.zero_le, Nat.sub_zero, Nat.le_refl, true_and, and_true, not_true_eq_false, not_false_eq_true, true_or, or_true, lc_eq, lc_ne, lc_lt, lc_ge, lc_gt, lc_le, nI_add, lN_add, nI_leI, nI_ltI, nI_eq, nI_clamp, pk_lLT, pk_lLE, pk_lEQ, pk_sub, vp_inT, nz_eq, nz_lt, nz_ge, nz_gt, nz_le, lz_eq, lz_lt, lz_ge, hP1, hP2, hP3, hP4, hP5, hP6, hP7, hP8, hP9, hP10, hP11, hP12, hP13, hP14, hP15, hP16, hP17, hP18, hP19, hP20, s0, s1, s2, s3, s4, s5, s6, s8, s10, s11, s13, s15, va_upE, hI_at, sI_sI, ne, ts, gt, w3]
    by_cases c : W (L.getD t 0) ≤ bucket
    · simp only [c, reduceIte]
      refine x115 d hs hLn hit hb hp hQ ht g1 g2 g3 g4 (fun j hj he => ?_)
      have : j = t := by omega
      rw [this]; exact c
    · simp only [c, reduceIte]
      have e : nI (t + 1) + -nI 1 = nI t := pk_m1 t
      rw [e]
      refine ih _ (by omega) (fun j hj => ?_) (fun j hj hj2 => ?_) (fun j hj => ?_) (fun j hj hj2 => ?_)
      · rw [va_up_ne _ _ (by omega)]; exact g1 j (by omega)
      · by_cases z : j = t + 1
        · subst z; rw [va_up_self, ts]
        · rw [va_up_ne _ _ z]; exact g2 j (by omega) hj2
      · rw [va_up_ne _ _ (by omega)]; exact g3 j hj
      · by_cases z : j = t
        · subst z; omega
        · exact g4 j (by omega) hj2
theorem sI_same (h : pm_H) (k : Nat) : sI h k (hI h k) = h := by
  have : va_up h.1 k (h.1 k) = h.1 := by
    funext j
    unfold va_up
    split
    · rename_i e; rw [e]
    · rfl
  show (va_up h.1 k (h.1 k), h.2) = h
  rw [this]
theorem c115 (d : Nat) {h : pm_H} {b cap item bucket : Nat} {L : List Nat} {W : Nat → Nat} {Q : pm_Q} (hs : bS h b cap) (hLn : L.length < cap) (hit : item < cap) (hb : bucket < 160) (hW : ∀ x, x ∈ L → x < cap ∧ W x < 160 ∧ hI h (b + 3) x = nI (W x))
    (hp : L.Pairwise fun x y => W x ≤ W y) (hl : ∀ j, j < L.length → hI h (b + 5) j = nI (L.getD j 0))
    (hQ : ∀ ln fl, (∀ j, j ≤ L.length → ln j = nI ((insB W bucket item L).getD j 0)) → (∀ j, L.length < j → ln j = hI h (b + 5) j) → flU (hL h (b + 1)) fl bucket → Q (.inl none) (setH h b item bucket ln fl)) :
    pm_M PP (d + 1) 115 [.ref b, .int (nI item), .int (nI bucket), .int (nI L.length)] h Q := by
  rw [e_115]
  simp (disch := omega) only [u_115_0, B_115_0, nI1T, Nat.left_eq_add, Nat.add_eq_left, Nat.add_eq_zero_iff, and_false, false_and, if_false, if_true, opsN, opsC, pm_1, lg, ls1, ls2, lq, List.length_cons, List.length_nil, cN, cL, callE, retV, retN, pm_pop, pm_cat, List.map_cons, List.map_nil, List.sum_cons, List.sum_nil, Value.category, Option.toList, List.cons_append, List.nil_append, reduceIte, reduceCtorEq, Nat.reduceAdd, Nat.reduceLT, Nat.reduceLeDiff, Nat.reduceSub, Nat.reduceEqDiff, Nat.zero_le, Nat.sub_zero, Nat.le_refl, true_and, and_true, not_true_eq_false, not_false_eq_true, true_or, or_true, lc_eq, lc_ne, lc_lt, lc_ge, lc_gt, lc_le, nI_add, lN_add, nI_leI, nI_ltI, nI_eq, nI_clamp, pk_lLT, pk_lLE, pk_lEQ, pk_sub, vp_inT, nz_eq, nz_lt, nz_ge, nz_gt, nz_le, lz_eq, lz_lt, lz_ge, hP1, hP2, hP3, hP4, hP5, hP6, hP7, hP8, hP9, hP10, hP11, hP12, hP13, hP14, hP15, hP16, hP17, hP18, hP19, hP20]
  have := l115 d hs hLn hit hb hW hp hQ L.length (hI h (b + 5)) (Nat.le_refl _) hl (fun j h1 h2 => absurd h1 (by omega)) (fun j _ => rfl) (fun j h1 h2 => absurd h2 (by omega))
  rw [sI_same] at this
  exact this
