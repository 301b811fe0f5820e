/-! ===== EVERY METHOD KEEPS ITS PURE CONTRACT ===== -/
theorem pm_sl_len (ad : Nat → Nat) : ∀ vs : List Value, (lg_sl (vs.map (vmv ad))).length = (pm_sl vs).length := by
  intro vs
  induction vs with
  | nil => rfl
  | cons v r ih =>
    have e : lg_sl ((v :: r).map (vmv ad)) = (if (vmv ad v).category = 2 then [Slot.val (vmv ad v), Slot.second] else [Slot.val (vmv ad v)]) ++ lg_sl (r.map (vmv ad)) := by simp [lg_sl]
    rw [e, List.length_append, ih, vmv_cat]
    cases v <;> simp [pm_sl, Value.category] <;> omega
theorem las_rep (ad : Nat → Nat) : ∀ (k i : Nat), las ad i (List.replicate k none) = [] := by
  intro k
  induction k with
  | zero => intro i; rfl
  | succ k ih => intro i; rw [List.replicate_succ, las, ih]
theorem las_in (ad : Nat → Nat) (k : Nat) : ∀ (vs : List Value) (i : Nat), las ad i (pm_sl vs ++ List.replicate k none) = lv_args i (vs.map (vmv ad)) := by
  intro vs
  induction vs with
  | nil => intro i; simp only [pm_sl, List.nil_append, List.map_nil, lv_args]; exact las_rep ad k i
  | cons v r ih =>
    intro i
    rw [List.map_cons, lv_args, vmv_cat]
    cases v <;> simp [pm_sl, las, ih, Value.category, vmv]
theorem pm_in_len {mx : Nat} {vs : List Value} (h : (pm_sl vs).length ≤ mx) : (pm_in mx vs).length = mx := by
  unfold pm_in
  rw [List.length_append, List.length_replicate]
  omega
section PME
variable {p : Program} {l : Launch} {e : Env} {R : Room} {s : State} {m : MethodId} {args : Array Value} {below : List Frame} {meth : Method} {c : Code}
variable {D : va_G} {cA : Nat → ClassId} {b sz Ls : Nat} {aS : Nat → Nat} {xs : Nat → Int32} {y MC MS d : Nat}
theorem pm_Rel.bmp {h : pm_H} {H H1 : Heap} (hr : pm_Rel D cA (pm_ad b sz aS) sz Ls xs h H) (z : H.size ≤ H1.size) (o1 : ∀ q, q < H.size → H1[q]? = H[q]?) : pm_Rel D cA (pm_ad b sz aS) sz Ls xs (bmp h) H1 := by
  refine ⟨?_, hr.2.1, fun q => absurd q (Nat.succ_ne_zero _), Nat.le_trans hr.2.2.2.1 z, hr.2.2.2.2⟩
  exact hr.1.kept (fun k x hx => o1 x.1 ((hr.1 k x hx).lt))
theorem exR_ok {a : Nat} (ha : a < 4) : decode (exR a) 0 = .ok (.aload_n 0, 1) ∧ decode (exR a) 1 = .ok (.aload_n 1, 1) ∧ decode (exR a) 2 = .ok (.invokespecial (exI a), 3) ∧ decode (exR a) 5 = .ok (.return_, 1) := by
  rcases (show a = 0 ∨ a = 1 ∨ a = 2 ∨ a = 3 by omega) with rfl | rfl | rfl | rfl <;> decide +kernel
theorem exN_fit {a : Nat} (ha : a < 4) : Bundle.fit (exN a) = true := by
  rcases (show a = 0 ∨ a = 1 ∨ a = 2 ∨ a = 3 by omega) with rfl | rfl | rfl | rfl <;> decide +kernel
theorem exS_ok {a : Nat} (ha : a < 4) : 0 < exS a ∧ exS a ≤ 20 := by
  rcases (show a = 0 ∨ a = 1 ∨ a = 2 ∨ a = 3 by omega) with rfl | rfl | rfl | rfl <;> decide +kernel
set_option maxHeartbeats 4000000 in
theorem pm_ends {Q : pm_Q} {X : pm_K} {hd : Nat → Option (Nat × Nat)} (hl0 : l.stackTraces = false) (hC : pm_Cx p R s m meth c D cA b sz Ls aS xs y MC MS (d + 1)) (hrt : meth.sig.returnType = mR y) (hlocks : meth.locks = false) (htab : mHH y = [] → ∀ x ∈ c.exceptionTable.toList, False) :
    pm_En p l e R s m args below meth c (vx_MQ below (pm_Qc D cA b sz Ls aS xs Q) (pm_XC D cA b sz Ls aS xs Q) args s MC MS (fun q => sz ≤ q)) D cA b sz Ls aS xs y MC MS d hd X Q := by
  obtain ⟨hx, hb, hml, hown, hTb, hK0, hCs, hsz, hMC, hMS, hRf, hRl, hini⟩ := hC
  intro o k pc bc bs ls st h hck he Hop
  obtain ⟨i, a, b9, c9, d9, e9⟩ := o
  cases i with
  | ireturn =>
    simp only [pm_ck, Bool.and_eq_true] at hck
    simp only [pm_1] at Hop
    split at Hop
    · rename_i v
      obtain ⟨hv, HQ⟩ := Hop
      intro H locs lr cells slots hr hS hl hlen hcb hsb
      refine W.widen (k := MC) (n := MS) (by omega) (by omega) ?_
      by_cases h0 : a = 0
      · rw [if_pos h0] at hck
        exact vx_ret (W.iret hx hb (hrt.trans (of_decide_eq_true hck.1)) (fun t ht _ => ⟨⟨some (.int v), h, rfl, HQ, by rw [ht]; exact hr⟩, hS.F ht⟩) hS.2.2 (pm_dcE hck.2) hlocks)
      · rw [if_neg h0] at hck
        refine vx_ret (W.zret (ty := .boolean) hx hb (hrt.trans (of_decide_eq_true hck.1)) ?_ (fun t ht _ => ⟨⟨some (.int v), h, rfl, HQ, by rw [ht]; exact hr⟩, hS.F ht⟩) hS.2.2 (pm_dcE hck.2) hlocks)
        rcases hv.resolve_left h0 with rfl | rfl <;> rfl
    · exact Hop.elim
  | lreturn =>
    simp only [pm_ck, Bool.and_eq_true, decide_eq_true_eq] at hck
    simp only [pm_1] at Hop
    split at Hop
    · rename_i v
      intro H locs lr cells slots hr hS hl hlen hcb hsb
      refine W.widen (k := MC) (n := MS) (by omega) (by omega) ?_
      exact vx_ret (W.lret hx hb (hrt.trans hck.1) (fun t ht _ => ⟨⟨some (.long v), h, rfl, Hop, by rw [ht]; exact hr⟩, hS.F ht⟩) hS.2.2 (pm_dcE hck.2) hlocks)
    · exact Hop.elim
  | areturn =>
    simp only [pm_ck, Bool.and_eq_true] at hck
    simp only [pm_1] at Hop
    split at Hop
    · rename_i v
      intro H locs lr cells slots hr hS hl hlen hcb hsb
      refine W.widen (k := MC) (n := MS) (by omega) (by omega) ?_
      have key : ∃ rt, mR y = some rt ∧ ((∃ n, rt = .object n) ∨ ∃ t, rt = .array t) := by
        have h1 := hck.1
        split at h1
        · rename_i n hq; exact ⟨_, hq, Or.inl ⟨n, rfl⟩⟩
        · rename_i n hq; exact ⟨_, hq, Or.inr ⟨n, rfl⟩⟩
        · cases h1
      obtain ⟨rt, q1, q2⟩ := key
      exact vx_ret (W.aret (v := .ref (pm_ad b sz aS v)) (rt := rt) hx hb (hrt.trans q1) q2 (Or.inr ⟨_, rfl⟩) (fun t ht _ => ⟨⟨some (.ref v), h, rfl, Hop, by rw [ht]; exact hr⟩, hS.F ht⟩) hS.2.2 (pm_dcE hck.2) hlocks)
    · exact Hop.elim
  | return_ =>
    simp only [pm_ck, Bool.and_eq_true, decide_eq_true_eq] at hck
    simp only [pm_1] at Hop
    split at Hop
    · intro H locs lr cells slots hr hS hl hlen hcb hsb
      refine W.widen (k := MC) (n := MS) (by omega) (by omega) ?_
      exact vx_ret (W.vret hx hb (hrt.trans hck.1) (fun t ht _ => ⟨⟨none, h, rfl, Hop, by rw [ht]; exact hr⟩, hS.F ht⟩) hS.2.2 (pm_dcE hck.2) hlocks)
    · exact Hop.elim
  | new ix =>
    simp only [pm_end, decide_eq_true_eq] at he
    simp only [pm_ck] at hck
    simp only [pm_1] at Hop
    rw [if_neg he] at hck Hop
    rw [Bool.and_eq_true, Bool.and_eq_true, Bool.and_eq_true, Bool.and_eq_true, Bool.and_eq_true, Bool.and_eq_true, Bool.and_eq_true, Bool.and_eq_true] at hck
    simp only [decide_eq_true_eq] at hck
    obtain ⟨⟨⟨⟨⟨⟨⟨⟨g1, g2⟩, g3⟩, g4⟩, g5⟩, g6⟩, g7⟩, g8⟩, g9⟩ := hck
    obtain ⟨k1, k2, k3, HQ⟩ := Hop
    intro H locs lr cells slots hr hS hl hlen hcb hsb
    obtain ⟨x0, x1, x2, x5⟩ := exR_ok g1
    obtain ⟨s0, s1⟩ := exS_ok g1
    obtain ⟨av, hR9, -⟩ := hCs.1 (exS a) s0 s1
    rw [g6, g7] at hR9
    have hw : ∀ w ∈ (Cond.classLink (mC y) ix (exN a) :: Cond.initialized (exN a) :: (Bundle.ownAtomsX (mC y) e9 (exN a) (exI a) (exR a) exM).filter vx_no), (w ∈ lw_tbl ∧ pm_pw w = true) ∧ vx_ot w = true := fun w hw => by
      have h1 := List.all_eq_true.mp g9 w hw
      simpa only [Bool.and_eq_true, decide_eq_true_eq] using h1
    have hat : ∀ w ∈ (Cond.classLink (mC y) ix (exN a) :: Cond.initialized (exN a) :: (Bundle.ownAtomsX (mC y) e9 (exN a) (exI a) (exR a) exM).filter vx_no), w.before args s = true := fun w q => hTb w (hw w q).1.1 (hw w q).1.2 args
    have hxc : ∀ t : State, s.vm.Alike t.vm → H.size ≤ t.heap.size → (∀ q : Nat, q < H.size → t.heap[q]? = H[q]?) → pm_XC D cA b sz Ls aS xs Q (exN a) s t := fun t _ hz ho => ⟨⟨a, bmp h, g1, rfl, HQ, hr.bmp hz ho⟩, Nat.le_trans hS.1 hz, fun q h1 h2 => (ho q (Nat.lt_of_lt_of_le h1 hS.1)).trans (hS.2.1 q h1 h2)⟩
    have hcat : ((st.map (vmv (pm_ad b sz aS))).map fun v => v.category).sum + (13 * (exM.length + 1) + 43) ≤ R.locals := by rw [pm_cat_map]; show pm_cat st + (13 * (2 + 1) + 43) ≤ R.locals; omega
    by_cases h0 : b9 = 0
    · rw [if_pos h0] at g4
      rw [Bool.and_eq_true, Bool.and_eq_true] at g4
      exact pm_throw x0 x1 x2 x5 (nl := 6) (A := fun q => sz ≤ q) (names := exM) hx hb hl0 hown (exN_fit g1) (by decide +kernel) (hat _ List.mem_cons_self) (hat _ (List.mem_cons_of_mem _ List.mem_cons_self)) hR9 (fun w q => hat w (List.mem_cons_of_mem _ (List.mem_cons_of_mem _ q))) (fun w q => (hw w q).2) hCs.2.1 hCs.2.2.1 hS (by rw [hml]; exact hl.1)
        (pm_dcE g2) (pm_dcE g3) (Or.inl ⟨rfl, pm_dcE g4.1.1⟩) (pm_dcE g4.1.2) (pm_dcE g4.2) (fun x q => (htab g5 x q).elim) (by show 2 + 3 < R.frames; omega) hcat (by omega) (by omega) hlocks hxc hS.2.2 (by omega) (by omega)
    · rw [if_neg h0] at g4
      rw [Bool.and_eq_true, Bool.and_eq_true] at g4
      exact pm_throw x0 x1 x2 x5 (nl := 7) (A := fun q => sz ≤ q) (names := exM) hx hb hl0 hown (exN_fit g1) (by decide +kernel) (hat _ List.mem_cons_self) (hat _ (List.mem_cons_of_mem _ List.mem_cons_self)) hR9 (fun w q => hat w (List.mem_cons_of_mem _ (List.mem_cons_of_mem _ q))) (fun w q => (hw w q).2) hCs.2.1 hCs.2.2.1 hS (by rw [hml]; exact hl.1)
        (pm_dcE g2) (pm_dcE g3) (Or.inr ⟨rfl, pm_dcE g4.1.1⟩) (pm_dcE g4.1.2) (pm_dcE g4.2) (fun x q => (htab g5 x q).elim) (by show 2 + 3 < R.frames; omega) hcat (by omega) (by omega) hlocks hxc hS.2.2 (by omega) (by omega)
  | _ => cases he
end PME
set_option maxHeartbeats 4000000 in
theorem pm_sound {l : Launch} (hl0 : l.stackTraces = false) (hall : ∀ a ∈ pm_all, pm_bk a = true) {D : va_G} {cA : Nat → ClassId} {b sz Ls : Nat} {aS : Nat → Nat} {xs : Nat → Int32} :
    ∀ (d a : Nat) (as : List Value) (h : pm_H) (Q : pm_Q), pm_mk a = true → pm_M PP d a as h Q → pm_Met l D cA b sz Ls aS xs d a as h Q := by
  intro d
  induction d with
  | zero => intro a as h Q _ H; exact H.elim
  | succ d ih =>
    intro a as h Q hm H
    obtain ⟨hlen, H⟩ := H
    have hlen : (pm_sl as).length ≤ pm_mx a := hlen
    have H : pm_W PP d a Q (pm_bc a) (pm_bs a) 0 (pm_in (pm_mx a) as) [] h := H
    obtain ⟨g1, g2, g3, g4, g5, g6, g7, g8, g9, g10⟩ := pm_mk_un hm
    have hbk := hall a g10
    have hhk : pm_hk a = true := by unfold pm_bk at hbk; rw [Bool.and_eq_true] at hbk; exact hbk.1
    have main : ∀ p e s m args below meth c s₁, BodyLoose p l (mY a) (headSpec [pm_wd a] (pm_rm (d + 1) a)) (mB a) (pm_mx a) (mR a) e s m args below meth c s₁ → c.maxLocals = pm_mx a → c.exceptionTable.toList = tableOf (mHH a) → pm_Pc D cA b sz Ls aS xs as h args s →
        W p l e (headSpec [pm_wd a] (pm_rm (d + 1) a)).room s m args below meth c s.heap [] 0 0 (vx_MQ below (pm_Qc D cA b sz Ls aS xs Q) (pm_XC D cA b sz Ls aS xs Q) args s (pm_bc a) (pm_bs a) (fun q => sz ≤ q)) (entryFrame m args (pm_mx a)) := by
      intro p e s m args below meth c s₁ B hml htab hv
      obtain ⟨rfl, hTb, hK, hCs, hsz, hr⟩ := hv
      have hown : s.vm.findClass (mC a) = some m.cls := by rw [g8]; exact findClass_of_methodNamed B.named
      have hC : pm_Cx p (headSpec [pm_wd a] (pm_rm (d + 1) a)).room s m meth c D cA b sz Ls aS xs a (pm_bc a) (pm_bs a) (d + 1) := ⟨B.exec, B.bytes, hml, hown, hTb, hK, hCs, hsz, Nat.le_refl _, Nat.le_refl _, Nat.le_refl _, Nat.le_refl _, fun q => ((name_of_methodNamed B.named B.method).1).trans q⟩
      have hlocks := B.notSynchronized
      rw [lg_entry_eq]
      have hl := lv_entry (as.map (vmv (pm_ad b sz aS))) (n := pm_mx a) (by rw [pm_sl_len]; exact hlen)
      generalize (lg_sl (as.map (vmv (pm_ad b sz aS))) ++ List.replicate (pm_mx a - (lg_sl (as.map (vmv (pm_ad b sz aS)))).length) Slot.unset).toArray = lr at hl ⊢
      have hl : lv_has lr (pm_mx a) (las (pm_ad b sz aS) 0 (pm_in (pm_mx a) as)) := by unfold pm_in; rw [las_in]; exact hl
      refine pm_blocks hC hbk (fun a as h k q1 q2 => ih a as h k q1 q2) ?_ (pm_ends hl0 hC B.returns hlocks (fun q x hx => by rw [htab, q] at hx; cases hx)) _ _ _ _ _ _ H s.heap [] lr 0 0 hr va_S.rf hl (pm_in_len hlen) (by omega) (by omega)
      intro n pc bc bs ls h' H1 locs1 lr cells slots rest q9 ce hn hcov hk hr1 hS1 hl hlen hcb hsb q1 q2 q3
      refine pm_catches hC hn hk (fun h0 hp HQ => ?_) hr1 hS1 hl hlen hcb hsb q1 q2 q3 (mHH a) [] (pm_hk_at hhk hn) hcov htab (fun z hz => by cases hz)
      exact vx_outP hown hlocks hp q1 q2 q3 (fun t ht _ => ⟨⟨n, h', hn, rfl, HQ, by rw [ht]; exact hr1⟩, hS1.F ht⟩) hS1.2.2 (by omega) (by omega)
    unfold pm_Met
    by_cases hh : mHH a = []
    · have hwd : pm_wd a = .code (mY a) (mB a) (pm_mx a) (mR a) := by unfold pm_wd; rw [if_pos hh]
      refine vx_ofW (cc := mB a) (maxL := pm_mx a) (ret := mR a) (ws' := []) g7 (by rw [hwd]) ?_
      intro p e s m args below meth c s₁ B hml ht hv
      refine main p e s m args below meth c s₁ B hml ?_ hv
      rw [hh]
      show c.exceptionTable.toList = []
      rw [List.eq_nil_iff_forall_not_mem]
      exact fun x hx => ht x hx
    · have hwd : pm_wd a = .codeWith (mY a) (mB a) (pm_mx a) (mR a) (mHH a) := by unfold pm_wd; rw [if_neg hh]
      refine vx_ofWH (cc := mB a) (maxL := pm_mx a) (ret := mR a) (hh := mHH a) (ws' := []) g7 (by rw [hwd]) ?_
      intro p e s m args below meth c s₁ B hml hv
      refine main p e s m args below meth c s₁ B hml ?_ hv
      exact vx_table (x := mY a) B (bytes := mB a) (maxL' := pm_mx a) (ret' := mR a) (by have := hv.2.1.it g3 args; rw [hwd] at this; exact this)
