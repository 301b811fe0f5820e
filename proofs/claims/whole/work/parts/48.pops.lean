/-! ===== the reference: pops ===== -/
theorem x1018 (d : Nat) {h : pm_H} {m u q st bits limit : Nat} {A : Qs} {sn : Nat → Nat} {Q : pm_Q} {a2 a3 a4 a5 a6 a7 a8 : Option Value} (hq : isQ h q A sn st) (hIq : qI bits limit A) (hT0 : qT A sn st) (hne : qN A ≠ []) (h0 : hdB A = 0)
    (ha3 : ∃ x, a3 = some (.int x))
    (hQ : ∀ h', isQ h' q (qL A, qC A, qK A, qM A, qW A, va_up (qS A) ((qN A).headD 0) 1, (qN A).tail) sn st → qT (qL A, qC A, qK A, qM A, qW A, va_up (qS A) ((qN A).headD 0) 1, (qN A).tail) sn st → frQ q u h h' → hI h' u = hI h u → Q (.inl (some (.int (nI ((qN A).headD 0))))) h') :
    pm_W PP (d + 3) 1018 Q 0 0 107 [some (.ref m), some (.ref q), a2, a3, a4, a5, a6, a7, a8] [] h := by
  have hq0 := hq
  have hl := qI_line hIq
  have hJ := qJ_of hIq
  obtain ⟨r0, r1, r2, r3, r4, r5, r6, r7, r8, r9⟩ := hq
  obtain ⟨i1, i2, i3, i4, i5, i6, i7, i8, i9, i10, i11, i12⟩ := hIq
  obtain ⟨y, r, hN⟩ : ∃ x r, qN A = x :: r := by
    cases e : qN A with
    | nil => exact absurd e hne
    | cons x r => exact ⟨x, r, rfl⟩
  have hy : y ∈ qN A := by rw [hN]; exact List.mem_cons_self ..
  obtain ⟨y1, y2, y3⟩ := hl y hy
  have hw : qW A y = 0 := by
    have : hdB A = qW A y := by unfold hdB; rw [hN]; rfl
    omega
  have hnx : nx (qW A) sn (qN A) 0 0 (qC A) = some y := nx_some hJ (L1 := []) hN hT0.2.1 (fun x hx => absurd hx List.not_mem_nil) hw (Nat.zero_le _)
  obtain ⟨x3, hx3⟩ := ha3
  subst hx3
  simp (disch := omega) only [u_1018_107, B_1018_107, nI1T, Nat.left_eq_add, Nat.add_eq_left, Nat.add_eq_zero_iff, and_false, false_and, if_false, if_true, opsN, opsC, pm_1, lg, ls1, ls2, lq, List.length_cons, List.length_nil, cN, cL, callE, retV, retN, pm_pop, pm_cat, List.map_cons, List.map_nil, List.sum_cons, List.sum_nil, Value.category, Option.toList, List.cons_append, List.nil_append, reduceIte, reduceCtorEq, Nat.reduceAdd, Nat.reduceLT, Nat.reduceLeDiff, Nat.reduceSub, Nat.reduceEqDiff, Nat.zero_le, Nat.sub_zero, Nat.le_refl, true_and, and_true, not_true_eq_false, not_false_eq_true, true_or, or_true, lc_eq, lc_ne, lc_lt, lc_ge, lc_gt, lc_le, nI_add, lN_add, nI_leI, nI_ltI, nI_eq, nI_clamp, pk_lLT, pk_lLE, pk_lEQ, pk_sub, vp_inT, nz_eq, nz_lt, nz_ge, nz_gt, nz_le, lz_eq, lz_lt, lz_ge, hP1, hP2, hP3, hP4, hP5, hP6, hP7, hP8, hP9, hP10, hP11, hP12, hP13, hP14, hP15, hP16, hP17, hP18, hP19, hP20]
  refine c1016 d (w := 0) (s := 0) hq0 hJ (by decide) (by decide) (fun x hx => ⟨by have := (hl x hx).2.2; omega, by have := hT0.1 x hx; have := hT0.2.2; omega⟩) ?_
  rw [hnx, show iv (some y) = nI y from rfl]
  simp (disch := omega) only [nI1T, Nat.left_eq_add, Nat.add_eq_left, Nat.add_eq_zero_iff, and_false, false_and, if_false, if_true, opsN, opsC, pm_1, lg, ls1, ls2, lq, List.length_cons, List.length_nil, cN, cL, callE, retV, retN, pm_pop, pm_cat, List.map_cons, List.map_nil, List.sum_cons, List.sum_nil, Value.category, Option.toList, List.cons_append, List.nil_append, reduceIte, reduceCtorEq, Nat.reduceAdd, Nat.reduceLT, Nat.reduceLeDiff, Nat.reduceSub, Nat.reduceEqDiff, Nat.zero_le, Nat.sub_zero, Nat.le_refl, true_and, and_true, not_true_eq_false, not_false_eq_true, true_or, or_true, lc_eq, lc_ne, lc_lt, lc_ge, lc_gt, lc_le, nI_add, lN_add, nI_leI, nI_ltI, nI_eq, nI_clamp, pk_lLT, pk_lLE, pk_lEQ, pk_sub, vp_inT, nz_eq, nz_lt, nz_ge, nz_gt, nz_le, lz_eq, lz_lt, lz_ge, hP1, hP2, hP3, hP4, hP5, hP6, hP7, hP8, hP9, hP10, hP11, hP12, hP13, hP14, hP15, hP16, hP17, hP18, hP19, hP20]
  rw [q_sets _ r0 r1 (by omega) (by omega)]
  simp (disch := omega) only [nI1T, Nat.left_eq_add, Nat.add_eq_left, Nat.add_eq_zero_iff, and_false, false_and, if_false, if_true, opsN, opsC, pm_1, lg, ls1, ls2, lq, List.length_cons, List.length_nil, cN, cL, callE, retV, retN, pm_pop, pm_cat, List.map_cons, List.map_nil, List.sum_cons, List.sum_nil, Value.category, Option.toList, List.cons_append, List.nil_append, reduceIte, reduceCtorEq, Nat.reduceAdd, Nat.reduceLT, Nat.reduceLeDiff, Nat.reduceSub, Nat.reduceEqDiff, Nat.zero_le, Nat.sub_zero, Nat.le_refl, true_and, and_true, not_true_eq_false, not_false_eq_true, true_or, or_true, lc_eq, lc_ne, lc_lt, lc_ge, lc_gt, lc_le, nI_add, lN_add, nI_leI, nI_ltI, nI_eq, nI_clamp, pk_lLT, pk_lLE, pk_lEQ, pk_sub, vp_inT, nz_eq, nz_lt, nz_ge, nz_gt, nz_le, lz_eq, lz_lt, lz_ge, hP1, hP2, hP3, hP4, hP5, hP6, hP7, hP8, hP9, hP10, hP11, hP12, hP13, hP14, hP15, hP16, hP17, hP18, hP19, hP20]
  have e1 : (qN A).headD 0 = y := by rw [hN]; rfl
  have e2 : (qN A).tail = r := by rw [hN]; rfl
  rw [e1, e2] at hQ
  refine hQ _ (q_setS (i := y) (v := 1) hq0) ?_ (frQ_sL (frQ_refl _ _ _)) rfl
  have hp := hT0.2.1
  rw [hN] at hp
  exact ⟨fun x hx => hT0.1 x (by rw [hN]; exact List.mem_cons_of_mem _ hx), (List.pairwise_cons.mp hp).2, hT0.2.2⟩
theorem l1018 (d : Nat) {m u q bits w0 mk C en : Nat} {K S : Nat → Nat} {R : List Nat} {Q : pm_Q} (h1 : 1 ≤ bits) (h4 : bits ≤ 4) (hmk : mk < 2 ^ 40) (hw0 : w0 < 160) (hC : C ≤ 300) (hen : en < 2 ^ 60) :
    ∀ (suf : List Nat) (M W : Nat → Nat) (L : List Nat) (sn : Nat → Nat) (st : Nat) (h : pm_H) (x6 : Int64), mU h m u → isQ h q (mk, C, K, M, W, S, L ++ (suf ++ R)) sn st → qJ (mk, C, K, M, W, S, L ++ (suf ++ R)) → (L ++ (suf ++ R)).Nodup →
      (L ++ (suf ++ R)).Pairwise (lex W sn) → (∀ x, x ∈ L ++ (suf ++ R) → sn x < st ∧ W x < 160) → (∀ x, x ∈ L → W x < w0) → (∀ x, x ∈ suf → W x = w0 ∧ K x < 2 ^ 40 ∧ mk ≤ K x ∧ bk bits mk (K x) < w0 ∧ sn x < en) → (∀ x, x ∈ R → w0 < W x) → st + suf.length < 2 ^ 60 →
      (∀ h' sn' st' x6', isQ h' q (mk, C, K, (dlt bits mk K suf M W L).1, (dlt bits mk K suf M W L).2.1, S, (dlt bits mk K suf M W L).2.2 ++ R) sn' st' → ((dlt bits mk K suf M W L).2.2 ++ R).Pairwise (lex (dlt bits mk K suf M W L).2.1 sn') →
        (∀ x, x ∈ (dlt bits mk K suf M W L).2.2 ++ R → sn' x < st') → st' = st + suf.length → (∀ U, isU h u U → isU h' u (dltU bits mk K suf U)) → frQ q u h h' →
        pm_W PP (d + 4) 1018 Q 0 0 107 [some (.ref m), some (.ref q), some (.int (nI bits)), some (.int (nI w0)), some (.long (lN en)), none, some (.long x6'), none, some (.int (-nI 1))] [] h') →
      pm_W PP (d + 4) 1018 Q 0 0 36 [some (.ref m), some (.ref q), some (.int (nI bits)), some (.int (nI w0)), some (.long (lN en)), none, some (.long x6), none, some (.int (iv suf.head?))] [] h := by
  intro suf
  induction suf with
  | nil =>
    intro M W L sn st h x6 hm hq hJ hnd hlex hb hL0 hsuf hR0 hst hQ
    rw [u_1018_36]
    have eo : iv ([] : List Nat).head? = -nI 1 := rfl
    simp (disch := omega) only [B_1018_36, nI1T, Nat.left_eq_add, Nat.add_eq_left, Nat.add_eq_zero_iff, and_false, false_and, if_false, if_true, opsN, opsC, pm_1, lg, ls1, ls2, lq, List.length_cons, List.length_nil, cN, cL, callE, retV, retN, pm_pop, pm_cat, List.map_cons, List.map_nil, List.sum_cons, List.sum_nil, Value.category, Option.toList, List.cons_append, List.nil_append, reduceIte, reduceCtorEq, Nat.reduceAdd, Nat.reduceLT, Nat.reduceLeDiff, Nat.reduceSub, Nat.reduceEqDiff, Nat.zero_le, Nat.sub_zero, Nat.le_refl, true_and, and_true, not_true_eq_false, not_false_eq_true, true_or, or_true, lc_eq, lc_ne, lc_lt, lc_ge, lc_gt, lc_le, nI_add, lN_add, nI_leI, nI_ltI, nI_eq, nI_clamp, pk_lLT, pk_lLE, pk_lEQ, pk_sub, vp_inT, nz_eq, nz_lt, nz_ge, nz_gt, nz_le, lz_eq, lz_lt, lz_ge, hP1, hP2, hP3, hP4, hP5, hP6, hP7, hP8, hP9, hP10, hP11, hP12, hP13, hP14, hP15, hP16, hP17, hP18, hP19, hP20, eo]
    exact hQ h sn st x6 hq hlex (fun x hx => (hb x hx).1) rfl (fun U hU => hU) (frQ_refl _ _ _)
  | cons y r ih =>
    intro M W L sn st h x6 hm hq hJ hnd hlex hb hL0 hsuf hR0 hst hQ
    have hq0 := hq
    obtain ⟨r0, r1, r2, r3, r4, r5, r6, r7, r8, r9⟩ := hq
    have m0 := hm.1
    have hymem : y ∈ L ++ (y :: r ++ R) := List.mem_append_right _ (List.mem_cons_self ..)
    obtain ⟨hyC, hyS⟩ := (hJ.2.1 y).mp hymem
    have hyC : y < C := hyC
    obtain ⟨p1, p2, p3, p4, p5⟩ := hsuf y (List.mem_cons_self ..)
    obtain ⟨b1, b2⟩ := hb y hymem
    have hk5 : hL h q (3 + 5 * y + 0) = lN (K y) := r5 y hyC
    have hk7 : hL h q (3 + 5 * y + 2) = lN (sn y) := r7 y hyC
    have hk2 : hL h q 0 = lN mk := r2
    have hbb : bk bits mk (K y) < 160 := bk_bound (by omega) h4 p2 hmk
    have eo : iv (y :: r).head? = nI y := rfl
    have en1 := iv_n (j := y) (by omega)
    have h64 : (nI w0).toInt64 = lN w0 := nI_l (by omega)
    have esv : lN (sn y) = sv (sn y + 1) := rfl
    -- the line's parts
    have hnd1 := List.nodup_append.mp hnd
    have hnd2 := List.nodup_cons.mp (show (y :: (r ++ R)).Nodup from hnd1.2.1)
    have hyL : y ∉ L := fun z => hnd1.2.2 y z y (List.mem_cons_self ..) rfl
    have hyR : y ∉ r ++ R := hnd2.1
    have hx1 := List.pairwise_append.mp hlex
    have hx2 := List.pairwise_cons.mp (show (y :: (r ++ R)).Pairwise (lex W sn) from hx1.2.1)
    have hlast : ∀ x, x ∈ L → sn x < st := fun x hx => (hb x (List.mem_append_left _ hx)).1
    have hRr : ∀ x, x ∈ r ++ R → x ≠ y := fun x hx z => hyR (by rw [← z]; exact hx)
    have hmem' : ∀ x, x ∈ insB W (bk bits mk (K y)) y L ++ (r ++ R) ↔ x ∈ L ++ (y :: r ++ R) := fun x => by
      simp only [List.mem_append, mem_insB, List.cons_append, List.mem_cons]
      exact ⟨fun z => by rcases z with (z | z) | z | z <;> simp [z], fun z => by rcases z with z | z | z | z <;> simp [z]⟩
    have hW1 : ∀ x, x ∈ insB W (bk bits mk (K y)) y L → va_up W y (bk bits mk (K y)) x < w0 := fun x hx => by
      rw [va_upE]
      split
      · exact p4
      · rename_i z; exact hL0 x ((mem_insB.mp hx).resolve_left z)
    have hW2 : ∀ x, x ∈ r ++ R → va_up W y (bk bits mk (K y)) x = W x ∧ va_up sn y st x = sn x := fun x hx => ⟨va_up_ne _ _ (hRr x hx), va_up_ne _ _ (hRr x hx)⟩
    have hge : ∀ x, x ∈ r ++ R → w0 ≤ W x := fun x hx => by
      rcases List.mem_append.mp hx with z | z
      · rw [(hsuf x (List.mem_cons_of_mem _ z)).1]; exact Nat.le_refl _
      · exact Nat.le_of_lt (hR0 x z)
    have hlex' : (insB W (bk bits mk (K y)) y L ++ (r ++ R)).Pairwise (lex (va_up W y (bk bits mk (K y))) (va_up sn y st)) := by
      refine List.pairwise_append.mpr ⟨lex_ins hx1.1 hyL hlast, ?_, fun a ha c hc => ?_⟩
      · refine List.Pairwise.imp_of_mem (fun {x z} hx hz p => ?_) hx2.2
        unfold lex
        rw [(hW2 x hx).1, (hW2 x hx).2, (hW2 z hz).1, (hW2 z hz).2]; exact p
      · have := hW1 a ha
        have := hge c hc
        rw [← (hW2 c hc).1] at this
        exact .inl (by omega)
    have hnd' : (insB W (bk bits mk (K y)) y L ++ (r ++ R)).Nodup := by
      refine List.nodup_append.mpr ⟨nodup_insB hnd1.1 hyL, hnd2.2, fun a ha c hc e => ?_⟩
      rcases mem_insB.mp ha with z | z
      · exact hRr c hc (by rw [← e, z])
      · exact hnd1.2.2 a z c (List.mem_cons_of_mem _ hc) e
    have hb' : ∀ x, x ∈ insB W (bk bits mk (K y)) y L ++ (r ++ R) → va_up sn y st x < st + 1 ∧ va_up W y (bk bits mk (K y)) x < 160 := fun x hx => by
      have hxo := hb x ((hmem' x).mp hx)
      rw [va_upE, va_upE]
      split
      · exact ⟨by omega, hbb⟩
      · exact ⟨by omega, hxo.2⟩
    have hJ' : qJ (mk, C, K, va_up M y (M y + 1), va_up W y (bk bits mk (K y)), S, insB W (bk bits mk (K y)) y L ++ (r ++ R)) :=
      ⟨hJ.1, fun i => (hmem' i).trans (hJ.2.1 i), hJ.2.2⟩
    rw [List.length_cons] at hst
    rw [u_1018_36]
    simp (disch := omega) only [B_1018_36, nI1T, Nat.left_eq_add, Nat.add_eq_left, Nat.add_eq_zero_iff, and_false, false_and, if_false, if_true, opsN, opsC, pm_1, lg, ls1, ls2, lq, List.length_cons, List.length_nil, cN, cL, callE, retV, retN, pm_pop, pm_cat, List.map_cons, List.map_nil, List.sum_cons, List.sum_nil, Value.category, Option.toList, List.cons_append, List.nil_append, reduceIte, reduceCtorEq, Nat.reduceAdd, Nat.reduceLT, Nat.reduceLeDiff, Nat.reduceSub, Nat.reduceEqDiff, Nat.zero_le, Nat.sub_zero, Nat.le_refl, true_and, and_true, not_true_eq_false, not_false_eq_true, true_or, or_true, lc_eq, lc_ne, lc_lt, lc_ge, lc_gt, lc_le, nI_add, lN_add, nI_leI, nI_ltI, nI_eq, nI_clamp, pk_lLT, pk_lLE, pk_lEQ, pk_sub, vp_inT, nz_eq, nz_lt, nz_ge, nz_gt, nz_le, lz_eq, lz_lt, lz_ge, hP1, hP2, hP3, hP4, hP5, hP6, hP7, hP8, hP9, hP10, hP11, hP12, hP13, hP14, hP15, hP16, hP17, hP18, hP19, hP20, eo, en1]
    rw [q_of _ r0 r1 (by omega) (by omega), hk7]
    simp (disch := omega) only [nI1T, Nat.left_eq_add, Nat.add_eq_left, Nat.add_eq_zero_iff, and_false, false_and, if_false, if_true, opsN, opsC, pm_1, lg, ls1, ls2, lq, List.length_cons, List.length_nil, cN, cL, callE, retV, retN, pm_pop, pm_cat, List.map_cons, List.map_nil, List.sum_cons, List.sum_nil, Value.category, Option.toList, List.cons_append, List.nil_append, reduceIte, reduceCtorEq, Nat.reduceAdd, Nat.reduceLT, Nat.reduceLeDiff, Nat.reduceSub, Nat.reduceEqDiff, Nat.zero_le, Nat.sub_zero, Nat.le_refl, true_and, and_true, not_true_eq_false, not_false_eq_true, true_or, or_true, lc_eq, lc_ne, lc_lt, lc_ge, lc_gt, lc_le, nI_add, lN_add, nI_leI, nI_ltI, nI_eq, nI_clamp, pk_lLT, pk_lLE, pk_lEQ, pk_sub, vp_inT, nz_eq, nz_lt, nz_ge, nz_gt, nz_le, lz_eq, lz_lt, lz_ge, hP1, hP2, hP3, hP4, hP5, hP6, hP7, hP8, hP9, hP10, hP11, hP12, hP13, hP14, hP15, hP16, hP17, hP18, hP19, hP20, r0, r1, hk2]
    rw [q_of _ r0 r1 (by omega) (by omega), hk5]
    simp (disch := omega) only [nI1T, Nat.left_eq_add, Nat.add_eq_left, Nat.add_eq_zero_iff, and_false, false_and, if_false, if_true, opsN, opsC, pm_1, lg, ls1, ls2, lq, List.length_cons, List.length_nil, cN, cL, callE, retV, retN, pm_pop, pm_cat, List.map_cons, List.map_nil, List.sum_cons, List.sum_nil, Value.category, Option.toList, List.cons_append, List.nil_append, reduceIte, reduceCtorEq, Nat.reduceAdd, Nat.reduceLT, Nat.reduceLeDiff, Nat.reduceSub, Nat.reduceEqDiff, Nat.zero_le, Nat.sub_zero, Nat.le_refl, true_and, and_true, not_true_eq_false, not_false_eq_true, true_or, or_true, lc_eq, lc_ne, lc_lt, lc_ge, lc_gt, lc_le, nI_add, lN_add, nI_leI, nI_ltI, nI_eq, nI_clamp, pk_lLT, pk_lLE, pk_lEQ, pk_sub, vp_inT, nz_eq, nz_lt, nz_ge, nz_gt, nz_le, lz_eq, lz_lt, lz_ge, hP1, hP2, hP3, hP4, hP5, hP6, hP7, hP8, hP9, hP10, hP11, hP12, hP13, hP14, hP15, hP16, hP17, hP18, hP19, hP20]
    refine c1010 (d + 3) h1 h4 p2 hmk p3 ?_
    simp (disch := omega) only [nI1T, Nat.left_eq_add, Nat.add_eq_left, Nat.add_eq_zero_iff, and_false, false_and, if_false, if_true, opsN, opsC, pm_1, lg, ls1, ls2, lq, List.length_cons, List.length_nil, cN, cL, callE, retV, retN, pm_pop, pm_cat, List.map_cons, List.map_nil, List.sum_cons, List.sum_nil, Value.category, Option.toList, List.cons_append, List.nil_append, reduceIte, reduceCtorEq, Nat.reduceAdd, Nat.reduceLT, Nat.reduceLeDiff, Nat.reduceSub, Nat.reduceEqDiff, Nat.zero_le, Nat.sub_zero, Nat.le_refl, true_and, and_true, not_true_eq_false, not_false_eq_true, true_or, or_true, lc_eq, lc_ne, lc_lt, lc_ge, lc_gt, lc_le, nI_add, lN_add, nI_leI, nI_ltI, nI_eq, nI_clamp, pk_lLT, pk_lLE, pk_lEQ, pk_sub, vp_inT, nz_eq, nz_lt, nz_ge, nz_gt, nz_le, lz_eq, lz_lt, lz_ge, hP1, hP2, hP3, hP4, hP5, hP6, hP7, hP8, hP9, hP10, hP11, hP12, hP13, hP14, hP15, hP16, hP17, hP18, hP19, hP20, m0]
    refine c1013 (d + 1) (L := insB W (bk bits mk (K y)) y L ++ (r ++ R)) hm hq0 hC hyC hbb ?_
    intro h2 hq2 hU2 hf2
    have hq2 : isQ h2 q (mk, C, K, va_up M y (M y + 1), va_up W y (bk bits mk (K y)), S, insB W (bk bits mk (K y)) y L ++ (r ++ R)) (va_up sn y st) (st + 1) := hq2
    simp (disch := omega) only [nI1T, Nat.left_eq_add, Nat.add_eq_left, Nat.add_eq_zero_iff, and_false, false_and, if_false, if_true, opsN, opsC, pm_1, lg, ls1, ls2, lq, List.length_cons, List.length_nil, cN, cL, callE, retV, retN, pm_pop, pm_cat, List.map_cons, List.map_nil, List.sum_cons, List.sum_nil, Value.category, Option.toList, List.cons_append, List.nil_append, reduceIte, reduceCtorEq, Nat.reduceAdd, Nat.reduceLT, Nat.reduceLeDiff, Nat.reduceSub, Nat.reduceEqDiff, Nat.zero_le, Nat.sub_zero, Nat.le_refl, true_and, and_true, not_true_eq_false, not_false_eq_true, true_or, or_true, lc_eq, lc_ne, lc_lt, lc_ge, lc_gt, lc_le, nI_add, lN_add, nI_leI, nI_ltI, nI_eq, nI_clamp, pk_lLT, pk_lLE, pk_lEQ, pk_sub, vp_inT, nz_eq, nz_lt, nz_ge, nz_gt, nz_le, lz_eq, lz_lt, lz_ge, hP1, hP2, hP3, hP4, hP5, hP6, hP7, hP8, hP9, hP10, hP11, hP12, hP13, hP14, hP15, hP16, hP17, hP18, hP19, hP20, h64]
    rw [esv]
    have step := ih (va_up M y (M y + 1)) (va_up W y (bk bits mk (K y))) (insB W (bk bits mk (K y)) y L) (va_up sn y st) (st + 1) h2 (sv (sn y + 1)) (mU_fr hf2 hm) hq2 hJ' hnd' hlex' hb' hW1 (by
        intro x hx
        have hx' : x ∈ r ++ R := List.mem_append_left _ hx
        have q := hsuf x (List.mem_cons_of_mem _ hx)
        rw [(hW2 x hx').1, (hW2 x hx').2]
        exact q) (by
        intro x hx
        rw [(hW2 x (List.mem_append_right _ hx)).1]
        exact hR0 x hx) (by omega) (by
        intro h' sn' st' x6' a1 a2 a3 a4 a5 a6
        exact hQ h' sn' st' x6' a1 a2 a3 (by rw [a4, List.length_cons]; omega) (fun U hU => a5 _ (hU2 U hU)) (frQ_trans hf2 a6))
    refine c1016 (d + 1) (w := w0) (s := sn y + 1) hq2 hJ' (by omega) (by omega) (fun x hx => ⟨by have := (hb' x hx).2; exact Nat.lt_trans this (by decide), by have := (hb' x hx).1; exact Nat.lt_trans this (by omega)⟩) ?_
    cases hr : r with
    | nil =>
      have hnx : nx (qW (mk, C, K, va_up M y (M y + 1), va_up W y (bk bits mk (K y)), S, insB W (bk bits mk (K y)) y L ++ (r ++ R))) (va_up sn y st) (qN (mk, C, K, va_up M y (M y + 1), va_up W y (bk bits mk (K y)), S, insB W (bk bits mk (K y)) y L ++ (r ++ R))) w0 (sn y + 1) (qC (mk, C, K, va_up M y (M y + 1), va_up W y (bk bits mk (K y)), S, insB W (bk bits mk (K y)) y L ++ (r ++ R))) = none := by
        refine nx_none (fun x hx z => ?_)
        rcases List.mem_append.mp hx with e | e
        · have := hW1 x e
          have z1 : va_up W y (bk bits mk (K y)) x = w0 := z.1
          omega
        · rw [hr, List.nil_append] at e
          have z1 : va_up W y (bk bits mk (K y)) x = w0 := z.1
          rw [(hW2 x (List.mem_append_right _ e)).1] at z1
          have := hR0 x e
          omega
      rw [hr] at hnx step
      rw [hnx, show iv none = -nI 1 from rfl]
      simp (disch := omega) only [nI1T, Nat.left_eq_add, Nat.add_eq_left, Nat.add_eq_zero_iff, and_false, false_and, if_false, if_true, opsN, opsC, pm_1, lg, ls1, ls2, lq, List.length_cons, List.length_nil, cN, cL, callE, retV, retN, pm_pop, pm_cat, List.map_cons, List.map_nil, List.sum_cons, List.sum_nil, Value.category, Option.toList, List.cons_append, List.nil_append, reduceIte, reduceCtorEq, Nat.reduceAdd, Nat.reduceLT, Nat.reduceLeDiff, Nat.reduceSub, Nat.reduceEqDiff, Nat.zero_le, Nat.sub_zero, Nat.le_refl, true_and, and_true, not_true_eq_false, not_false_eq_true, true_or, or_true, lc_eq, lc_ne, lc_lt, lc_ge, lc_gt, lc_le, nI_add, lN_add, nI_leI, nI_ltI, nI_eq, nI_clamp, pk_lLT, pk_lLE, pk_lEQ, pk_sub, vp_inT, nz_eq, nz_lt, nz_ge, nz_gt, nz_le, lz_eq, lz_lt, lz_ge, hP1, hP2, hP3, hP4, hP5, hP6, hP7, hP8, hP9, hP10, hP11, hP12, hP13, hP14, hP15, hP16, hP17, hP18, hP19, hP20]
      exact step
    | cons y2 r2 =>
      have hy2 : y2 ∈ r ++ R := by rw [hr]; exact List.mem_append_left _ (List.mem_cons_self ..)
      have hs2 := hsuf y2 (by rw [hr]; exact List.mem_cons_of_mem _ (List.mem_cons_self ..))
      have hlx := hx2.1 y2 hy2
      unfold lex at hlx
      have hnx : nx (qW (mk, C, K, va_up M y (M y + 1), va_up W y (bk bits mk (K y)), S, insB W (bk bits mk (K y)) y L ++ (r ++ R))) (va_up sn y st) (qN (mk, C, K, va_up M y (M y + 1), va_up W y (bk bits mk (K y)), S, insB W (bk bits mk (K y)) y L ++ (r ++ R))) w0 (sn y + 1) (qC (mk, C, K, va_up M y (M y + 1), va_up W y (bk bits mk (K y)), S, insB W (bk bits mk (K y)) y L ++ (r ++ R))) = some y2 := by
        refine nx_some (L1 := insB W (bk bits mk (K y)) y L) (L2 := r2 ++ R) hJ' (by rw [hr]; rfl) hlex' (fun x hx z => ?_) ?_ ?_
        · have := hW1 x hx
          have z1 : va_up W y (bk bits mk (K y)) x = w0 := z.1
          omega
        · show va_up W y (bk bits mk (K y)) y2 = w0
          rw [(hW2 y2 hy2).1]; exact hs2.1
        · rw [(hW2 y2 hy2).2]; omega
      have hy2C : y2 < C := ((hJ'.2.1 y2).mp (List.mem_append_right _ hy2)).1
      have hv7 : hL h2 q (3 + 5 * y2 + 2) = lN (sn y2) := by
        have := hq2.2.2.2.2.2.2.2.1 y2 hy2C
        rw [this, (hW2 y2 hy2).2]
      rw [hr] at hnx step
      rw [hnx, show iv (some y2) = nI y2 from rfl]
      have en2 := iv_n (j := y2) (by omega)
      have hlt : sn y2 < en := hs2.2.2.2.2
      simp (disch := omega) only [nI1T, Nat.left_eq_add, Nat.add_eq_left, Nat.add_eq_zero_iff, and_false, false_and, if_false, if_true, opsN, opsC, pm_1, lg, ls1, ls2, lq, List.length_cons, List.length_nil, cN, cL, callE, retV, retN, pm_pop, pm_cat, List.map_cons, List.map_nil, List.sum_cons, List.sum_nil, Value.category, Option.toList, List.cons_append, List.nil_append, reduceIte, reduceCtorEq, Nat.reduceAdd, Nat.reduceLT, Nat.reduceLeDiff, Nat.reduceSub, Nat.reduceEqDiff, Nat.zero_le, Nat.sub_zero, Nat.le_refl, true_and, and_true, not_true_eq_false, not_false_eq_true, true_or, or_true, lc_eq, lc_ne, lc_lt, lc_ge, lc_gt, lc_le, nI_add, lN_add, nI_leI, nI_ltI, nI_eq, nI_clamp, pk_lLT, pk_lLE, pk_lEQ, pk_sub, vp_inT, nz_eq, nz_lt, nz_ge, nz_gt, nz_le, lz_eq, lz_lt, lz_ge, hP1, hP2, hP3, hP4, hP5, hP6, hP7, hP8, hP9, hP10, hP11, hP12, hP13, hP14, hP15, hP16, hP17, hP18, hP19, hP20, en2]
      rw [q_of _ hq2.1 hq2.2.1 (by omega) (by omega), hv7]
      simp (disch := omega) only [nI1T, Nat.left_eq_add, Nat.add_eq_left, Nat.add_eq_zero_iff, and_false, false_and, if_false, if_true, opsN, opsC, pm_1, lg, ls1, ls2, lq, List.length_cons, List.length_nil, cN, cL, callE, retV, retN, pm_pop, pm_cat, List.map_cons, List.map_nil, List.sum_cons, List.sum_nil, Value.category, Option.toList, List.cons_append, List.nil_append, reduceIte, reduceCtorEq, Nat.reduceAdd, Nat.reduceLT, Nat.reduceLeDiff, Nat.reduceSub, Nat.reduceEqDiff, Nat.zero_le, Nat.sub_zero, Nat.le_refl, true_and, and_true, not_true_eq_false, not_false_eq_true, true_or, or_true, lc_eq, lc_ne, lc_lt, lc_ge, lc_gt, lc_le, nI_add, lN_add, nI_leI, nI_ltI, nI_eq, nI_clamp, pk_lLT, pk_lLE, pk_lEQ, pk_sub, vp_inT, nz_eq, nz_lt, nz_ge, nz_gt, nz_le, lz_eq, lz_lt, lz_ge, hP1, hP2, hP3, hP4, hP5, hP6, hP7, hP8, hP9, hP10, hP11, hP12, hP13, hP14, hP15, hP16, hP17, hP18, hP19, hP20, hlt]
      exact step
theorem c1018 (d : Nat) {h : pm_H} {m u q st bits limit : Nat} {A : Qs} {sn : Nat → Nat} {Q : pm_Q} (hm : mU h m u) (hq : isQ h q A sn st) (hIq : qI bits limit A) (hT0 : qT A sn st) (hne : qN A ≠ []) (hst : st + (qN A).length < 2 ^ 60)
    (hQ : ∀ h' sn' st', isQ h' q (qTake bits A) sn' st' → qT (qTake bits A) sn' st' → st' ≤ st + (qN A).length → (∀ U, isU h u U → isU h' u (rdyU bits A U)) → frQ q u h h' → Q (.inl (some (.int (nI (qTop bits A))))) h') :
    pm_M PP (d + 5) 1018 [.ref m, .ref q, .int (nI bits)] h Q := by
  have hq0 := hq
  have hI0 := hIq
  have hl := qI_line hIq
  have hR := hdR_W hIq
  obtain ⟨z1, z2, z3, z4, z5, z6⟩ := rdy_spec hIq hne
  obtain ⟨r0, r1, r2, r3, r4, r5, r6, r7, r8, r9⟩ := hq
  obtain ⟨i1, i2, i3, i4, i5, i6, i7, i8, i9, i10, i11, i12⟩ := hIq
  have hb160 : hdB A < 160 := by
    cases e : qN A with
    | nil => exact absurd e hne
    | cons x r =>
      have : hdB A = qW A x := by unfold hdB; rw [e]; rfl
      rw [this]
      exact (hl x (by rw [e]; exact List.mem_cons_self ..)).2.2
  rw [e_1018]
  simp (disch := omega) only [u_1018_0, B_1018_0, nI1T, Nat.left_eq_add, Nat.add_eq_left, Nat.add_eq_zero_iff, and_false, false_and, if_false, if_true, opsN, opsC, pm_1, lg, ls1, ls2, lq, List.length_cons, List.length_nil, cN, cL, callE, retV, retN, pm_pop, pm_cat, List.map_cons, List.map_nil, List.sum_cons, List.sum_nil, Value.category, Option.toList, List.cons_append, List.nil_append, reduceIte, reduceCtorEq, Nat.reduceAdd, Nat.reduceLT, Nat.reduceLeDiff, Nat.reduceSub, Nat.reduceEqDiff, Nat.zero_le, Nat.sub_zero, Nat.le_refl, true_and, and_true, not_true_eq_false, not_false_eq_true, true_or, or_true, lc_eq, lc_ne, lc_lt, lc_ge, lc_gt, lc_le, nI_add, lN_add, nI_leI, nI_ltI, nI_eq, nI_clamp, pk_lLT, pk_lLE, pk_lEQ, pk_sub, vp_inT, nz_eq, nz_lt, nz_ge, nz_gt, nz_le, lz_eq, lz_lt, lz_ge, hP1, hP2, hP3, hP4, hP5, hP6, hP7, hP8, hP9, hP10, hP11, hP12, hP13, hP14, hP15, hP16, hP17, hP18, hP19, hP20]
  refine c1015 (d + 1) hq0 hI0 hne ?_
  by_cases h0 : hdB A = 0
  · simp (disch := omega) only [nI1T, Nat.left_eq_add, Nat.add_eq_left, Nat.add_eq_zero_iff, and_false, false_and, if_false, if_true, opsN, opsC, pm_1, lg, ls1, ls2, lq, List.length_cons, List.length_nil, cN, cL, callE, retV, retN, pm_pop, pm_cat, List.map_cons, List.map_nil, List.sum_cons, List.sum_nil, Value.category, Option.toList, List.cons_append, List.nil_append, reduceIte, reduceCtorEq, Nat.reduceAdd, Nat.reduceLT, Nat.reduceLeDiff, Nat.reduceSub, Nat.reduceEqDiff, Nat.zero_le, Nat.sub_zero, Nat.le_refl, true_and, and_true, not_true_eq_false, not_false_eq_true, true_or, or_true, lc_eq, lc_ne, lc_lt, lc_ge, lc_gt, lc_le, nI_add, lN_add, nI_leI, nI_ltI, nI_eq, nI_clamp, pk_lLT, pk_lLE, pk_lEQ, pk_sub, vp_inT, nz_eq, nz_lt, nz_ge, nz_gt, nz_le, lz_eq, lz_lt, lz_ge, hP1, hP2, hP3, hP4, hP5, hP6, hP7, hP8, hP9, hP10, hP11, hP12, hP13, hP14, hP15, hP16, hP17, hP18, hP19, hP20, h0]
    have er : qRdy bits A = A := by unfold qRdy; rw [if_pos h0]
    refine x1018 (d + 1) (u := u) hq0 hI0 hT0 hne h0 ⟨_, rfl⟩ ?_
    intro h' hq' hT' hf' hI'
    have := hQ h' sn st (by unfold qTake; rw [er]; exact hq') (by unfold qTake; rw [er]; exact hT') (by omega) (fun U hU => by
      unfold rdyU; rw [if_pos h0]
      intro k hk; rw [hI']; exact hU k hk) hf'
    unfold qTop at this
    rw [er] at this
    exact this
  · simp (disch := omega) only [nI1T, Nat.left_eq_add, Nat.add_eq_left, Nat.add_eq_zero_iff, and_false, false_and, if_false, if_true, opsN, opsC, pm_1, lg, ls1, ls2, lq, List.length_cons, List.length_nil, cN, cL, callE, retV, retN, pm_pop, pm_cat, List.map_cons, List.map_nil, List.sum_cons, List.sum_nil, Value.category, Option.toList, List.cons_append, List.nil_append, reduceIte, reduceCtorEq, Nat.reduceAdd, Nat.reduceLT, Nat.reduceLeDiff, Nat.reduceSub, Nat.reduceEqDiff, Nat.zero_le, Nat.sub_zero, Nat.le_refl, true_and, and_true, not_true_eq_false, not_false_eq_true, true_or, or_true, lc_eq, lc_ne, lc_lt, lc_ge, lc_gt, lc_le, nI_add, lN_add, nI_leI, nI_ltI, nI_eq, nI_clamp, pk_lLT, pk_lLE, pk_lEQ, pk_sub, vp_inT, nz_eq, nz_lt, nz_ge, nz_gt, nz_le, lz_eq, lz_lt, lz_ge, hP1, hP2, hP3, hP4, hP5, hP6, hP7, hP8, hP9, hP10, hP11, hP12, hP13, hP14, hP15, hP16, hP17, hP18, hP19, hP20, h0, r0, r1, r4]
    refine c1017 (d + 1) hq0 hI0 hne ?_
    simp (disch := omega) only [nI1T, Nat.left_eq_add, Nat.add_eq_left, Nat.add_eq_zero_iff, and_false, false_and, if_false, if_true, opsN, opsC, pm_1, lg, ls1, ls2, lq, List.length_cons, List.length_nil, cN, cL, callE, retV, retN, pm_pop, pm_cat, List.map_cons, List.map_nil, List.sum_cons, List.sum_nil, Value.category, Option.toList, List.cons_append, List.nil_append, reduceIte, reduceCtorEq, Nat.reduceAdd, Nat.reduceLT, Nat.reduceLeDiff, Nat.reduceSub, Nat.reduceEqDiff, Nat.zero_le, Nat.sub_zero, Nat.le_refl, true_and, and_true, not_true_eq_false, not_false_eq_true, true_or, or_true, lc_eq, lc_ne, lc_lt, lc_ge, lc_gt, lc_le, nI_add, lN_add, nI_leI, nI_ltI, nI_eq, nI_clamp, pk_lLT, pk_lLE, pk_lEQ, pk_sub, vp_inT, nz_eq, nz_lt, nz_ge, nz_gt, nz_le, lz_eq, lz_lt, lz_ge, hP1, hP2, hP3, hP4, hP5, hP6, hP7, hP8, hP9, hP10, hP11, hP12, hP13, hP14, hP15, hP16, hP17, hP18, hP19, hP20, r0, r1]
    obtain ⟨d1, d2, d3, d4, x0, d5, d6⟩ := deal_facts hI0 hne (by omega)
    have hD : ∀ x, x ∈ hdD A → x ∈ qN A := fun x hx => by rw [← hd_split A]; exact List.mem_append_left _ hx
    have hRm : ∀ x, x ∈ hdR A → x ∈ qN A := fun x hx => by rw [← hd_split A]; exact List.mem_append_right _ hx
    have h64 : (nI (hdB A)).toInt64 = lN (hdB A) := nI_l (by omega)
    have hq1 : isQ (sL h q (va_up (hL h q) 0 (lN (minK (qK A) (hdD A))))) q (minK (qK A) (hdD A), qC A, qK A, qM A, qW A, qS A, [] ++ (hdD A ++ hdR A)) sn st := by
      refine ⟨r0, r1, ?_, ?_, ?_, ?_, ?_, ?_, ?_, ?_⟩
      · rw [hP7, va_up_self, va_up_self]; rfl
      · rw [hP7, va_up_self, va_up_ne _ _ (by omega)]; exact r3
      · rw [hP7, va_up_self, va_up_ne _ _ (by omega)]; exact r4
      · intro j hj; rw [hP7, va_up_self, va_up_ne _ _ (by omega)]; exact r5 j hj
      · intro j hj; rw [hP7, va_up_self, va_up_ne _ _ (by omega)]; exact r6 j hj
      · intro j hj; rw [hP7, va_up_self, va_up_ne _ _ (by omega)]; exact r7 j hj
      · intro j hj; rw [hP7, va_up_self, va_up_ne _ _ (by omega)]; exact r8 j hj
      · intro j hj; rw [hP7, va_up_self, va_up_ne _ _ (by omega)]; exact r9 j hj
    have hf1 : frQ q u h (sL h q (va_up (hL h q) 0 (lN (minK (qK A) (hdD A))))) := frQ_sL (frQ_refl _ _ _)
    have hU1 : ∀ U, isU h u U → isU (sL h q (va_up (hL h q) 0 (lN (minK (qK A) (hdD A))))) u U := fun U hU k hk => hU k hk
    generalize (sL h q (va_up (hL h q) 0 (lN (minK (qK A) (hdD A))))) = h1 at *
    have eN : ([] : List Nat) ++ (hdD A ++ hdR A) = qN A := hd_split A
    have hJ : qJ (minK (qK A) (hdD A), qC A, qK A, qM A, qW A, qS A, [] ++ (hdD A ++ hdR A)) := by
      rw [eN]
      have j := qJ_of hI0
      exact ⟨j.1, j.2.1, j.2.2⟩
    have hlex : ([] ++ (hdD A ++ hdR A)).Pairwise (lex (qW A) sn) := by rw [eN]; exact hT0.2.1
    have hbd : ∀ x, x ∈ [] ++ (hdD A ++ hdR A) → sn x < st ∧ qW A x < 160 := by rw [eN]; exact fun x hx => ⟨hT0.1 x hx, (hl x hx).2.2⟩
    have hnd : ([] ++ (hdD A ++ hdR A)).Nodup := by rw [eN]; exact i7
    have hDl : (hdD A).length ≤ (qN A).length := by rw [← hd_split A, List.length_append]; omega
    simp (disch := omega) only [nI1T, Nat.left_eq_add, Nat.add_eq_left, Nat.add_eq_zero_iff, and_false, false_and, if_false, if_true, opsN, opsC, pm_1, lg, ls1, ls2, lq, List.length_cons, List.length_nil, cN, cL, callE, retV, retN, pm_pop, pm_cat, List.map_cons, List.map_nil, List.sum_cons, List.sum_nil, Value.category, Option.toList, List.cons_append, List.nil_append, reduceIte, reduceCtorEq, Nat.reduceAdd, Nat.reduceLT, Nat.reduceLeDiff, Nat.reduceSub, Nat.reduceEqDiff, Nat.zero_le, Nat.sub_zero, Nat.le_refl, true_and, and_true, not_true_eq_false, not_false_eq_true, true_or, or_true, lc_eq, lc_ne, lc_lt, lc_ge, lc_gt, lc_le, nI_add, lN_add, nI_leI, nI_ltI, nI_eq, nI_clamp, pk_lLT, pk_lLE, pk_lEQ, pk_sub, vp_inT, nz_eq, nz_lt, nz_ge, nz_gt, nz_le, lz_eq, lz_lt, lz_ge, hP1, hP2, hP3, hP4, hP5, hP6, hP7, hP8, hP9, hP10, hP11, hP12, hP13, hP14, hP15, hP16, hP17, hP18, hP19, hP20, h64]
    refine c1016 (d + 1) (w := hdB A) (s := 0) hq1 hJ (by omega) (by decide) (fun x hx => ⟨by have := (hbd x hx).2; exact Nat.lt_trans this (by decide), by have := (hbd x hx).1; exact Nat.lt_trans this (by have := hT0.2.2; omega)⟩) ?_
    have hnx : nx (qW (minK (qK A) (hdD A), qC A, qK A, qM A, qW A, qS A, [] ++ (hdD A ++ hdR A))) sn (qN (minK (qK A) (hdD A), qC A, qK A, qM A, qW A, qS A, [] ++ (hdD A ++ hdR A))) (hdB A) 0 (qC (minK (qK A) (hdD A), qC A, qK A, qM A, qW A, qS A, [] ++ (hdD A ++ hdR A))) = (hdD A).head? := by
      cases hd : hdD A with
      | nil => exact absurd hd (hdD_ne hne)
      | cons a t =>
        have ha := hdD_W a (by rw [hd]; exact List.mem_cons_self ..)
        rw [← hd]
        refine (nx_some (L1 := []) (L2 := t ++ hdR A) (y := a) hJ (by rw [hd]; rfl) hlex (fun x hx => absurd hx List.not_mem_nil) ha (Nat.zero_le _)).trans ?_
        rw [hd]; rfl
    rw [hnx]
    simp (disch := omega) only [nI1T, Nat.left_eq_add, Nat.add_eq_left, Nat.add_eq_zero_iff, and_false, false_and, if_false, if_true, opsN, opsC, pm_1, lg, ls1, ls2, lq, List.length_cons, List.length_nil, cN, cL, callE, retV, retN, pm_pop, pm_cat, List.map_cons, List.map_nil, List.sum_cons, List.sum_nil, Value.category, Option.toList, List.cons_append, List.nil_append, reduceIte, reduceCtorEq, Nat.reduceAdd, Nat.reduceLT, Nat.reduceLeDiff, Nat.reduceSub, Nat.reduceEqDiff, Nat.zero_le, Nat.sub_zero, Nat.le_refl, true_and, and_true, not_true_eq_false, not_false_eq_true, true_or, or_true, lc_eq, lc_ne, lc_lt, lc_ge, lc_gt, lc_le, nI_add, lN_add, nI_leI, nI_ltI, nI_eq, nI_clamp, pk_lLT, pk_lLE, pk_lEQ, pk_sub, vp_inT, nz_eq, nz_lt, nz_ge, nz_gt, nz_le, lz_eq, lz_lt, lz_ge, hP1, hP2, hP3, hP4, hP5, hP6, hP7, hP8, hP9, hP10, hP11, hP12, hP13, hP14, hP15, hP16, hP17, hP18, hP19, hP20]
    have er : qRdy bits A = qDeal bits A := by unfold qRdy; rw [if_neg h0]
    refine l1018 d (en := st) i1 i2 d2 hb160 (by omega) (by omega) (hdD A) (qM A) (qW A) [] sn st h1 _ (mU_fr hf1 hm) hq1 hJ hnd hlex hbd (fun x hx => absurd hx List.not_mem_nil)
      (fun x hx => ⟨hdD_W x hx, i6 x (hl x (hD x hx)).1, (d3 x hx).1, (d3 x hx).2, hT0.1 x (hD x hx)⟩) hR (by omega) ?_
    intro h' sn' st' x6' a1 a2 a3 a4 a5 a6
    rw [er] at z1 z2 z3
    have hT' : qT (qDeal bits A) sn' st' := ⟨a3, a2, by omega⟩
    refine x1018 (d + 1) (u := u) (bits := bits) (limit := limit) (A := qDeal bits A) a1 z1 hT' z3 z2 ⟨_, rfl⟩ ?_
    intro h2 hq2 hT2 hf2 hI2
    have := hQ h2 sn' st' (by unfold qTake; rw [er]; exact hq2) (by unfold qTake; rw [er]; exact hT2) (by omega) (fun U hU => by
      unfold rdyU; rw [if_neg h0]
      intro k hk; rw [hI2]; exact a5 U (hU1 U hU) k hk) (frQ_trans hf1 (frQ_trans a6 hf2))
    unfold qTop at this
    rw [er] at this
    exact this
