/-! ===== CALLS ===== -/
theorem pm_mk_un {a : Nat} (h : pm_mk a = true) : (if mSt a then pm_it (mw a).1 (.static (mY a)) else pm_it (mw a).1 (.instanceMethod (mY a)) && (decide ((mY a).name = "<init>") || pm_it (mw a).2.1 (.selects (mY a).cls (mY a) (mY a)))) = true ∧ pm_it (mw a).2.2.1 (.initialized (mY a).cls) = true ∧
    pm_it (mw a).2.2.2 (pm_wd a) = true ∧ (mY a).cls ≠ "java/lang/invoke/MethodHandle" ∧ (mY a).cls ≠ "java/lang/invoke/VarHandle" ∧ (∀ sig, parseMethodDescriptor (mY a).desc = some sig → mNa a = sig.parameters.length) ∧ plainName (mY a).cls = true ∧ mC a = (mY a).cls ∧ pm_mx a ≤ 20 ∧ a ∈ pm_all := by
  unfold pm_mk at h
  rw [Bool.and_eq_true, Bool.and_eq_true, Bool.and_eq_true, Bool.and_eq_true, Bool.and_eq_true, Bool.and_eq_true, Bool.and_eq_true, Bool.and_eq_true, Bool.and_eq_true] at h
  simp only [decide_eq_true_eq] at h
  obtain ⟨⟨⟨⟨⟨⟨⟨⟨⟨h1, h2⟩, h3⟩, h4⟩, h5⟩, h6⟩, h7⟩, h8⟩, h9⟩, h10⟩ := h
  refine ⟨h1, h2, ?_, h4, h5, fun sig hs => ?_, h7, h8, h9, h10⟩
  · unfold pm_wd
    by_cases q : mHH a = []
    · rw [if_pos q] at h3 ⊢; exact h3
    · rw [if_neg q] at h3 ⊢; exact h3
  · rw [hs] at h6
    exact (Option.some.inj h6).symm
theorem pm_good_wd (a : Nat) : goodWord (pm_wd a) = true := by
  unfold pm_wd
  by_cases q : mHH a = []
  · rw [if_pos q]; rfl
  · rw [if_neg q]; rfl
section PCL
variable {p : Program} {l : Launch} {e : Env} {R : Room} {s : State} {m : MethodId} {args : Array Value} {below : List Frame} {meth : Method} {c : Code} {Z : State → Prop}
variable {D : va_G} {cA : Nat → ClassId} {b sz Ls : Nat} {aS : Nat → Nat} {xs : Nat → Int32} {y MC MS d : Nat}
variable {H : Heap} {locs : List Loc} {lr : Array Slot} {cells slots pc ix a o : Nat} {as r : List Value} {h : pm_H} {k : pm_Q}
theorem pm_begin {as : List Value} (hTb : pm_Tb s) (hK : va_K D cls_ (pm_tys cA) s) (hCs : pm_Cst b sz aS Ls xs s s.heap) (hsz : sz ≤ s.heap.size) (hr : pm_Rel D cA (pm_ad b sz aS) sz Ls xs h H) (hS : va_S (fun q => sz ≤ q) s.heap H locs) :
    ∀ U : State, U.heap = H → s.WarmedH U.vm → pm_Pc D cA b sz Ls aS xs as h (as.map (vmv (pm_ad b sz aS))).toArray U :=
  fun U hU hW => ⟨rfl, hTb.warm hW, va_K.moved hW.alike hK, by rw [hU]; exact hCs.to hW hS, by rw [hU]; exact Nat.le_trans hsz hS.1, by rw [hU]; exact hr⟩
theorem pm_words (hTb : pm_Tb s) (hm : pm_mk a = true) : ∀ w ∈ [pm_wd a], ∀ (a' : Array Value) (U : State), s.WarmedH U.vm → w.before a' U = true := by
  intro w hw a' U hW
  rw [List.mem_singleton.mp hw]
  exact (hTb.warm hW).it (pm_mk_un hm).2.2.1 a'
/-- a method of the receiver's class -/
theorem pm_runV {cn : Nat} (hC : pm_Cx p R s m meth c D cA b sz Ls aS xs y MC MS (d + 1)) (hl : lr.size = pm_mx y) (hr : pm_Rel D cA (pm_ad b sz aS) sz Ls xs h H) (hS : va_S (fun q => sz ≤ q) s.heap H locs) (hM : pm_Met l D cA b sz Ls aS xs d a (.ref o :: as) h k)
    (hm : pm_mk a = true) (hlk : pm_ml y ix a = true) (has : as.length = mNa a) (hcn : cn < 11) (hcc : pm_cn cn = mC a) (hst : mSt a = false) (hni : (mY a).name ≠ "<init>") (hhh : mHH a = []) (ho : hT h o = cn) (hcat : pm_cat r ≤ 8) (hcb : cells + pm_bc a ≤ R.cells) (hsb : slots + pm_bs a ≤ R.slots) (hdg : decode (mB y) pc = .ok (.invokevirtual ix, 3)) :
    vx_Run p l e R s m args below meth c H locs cells slots (pm_bc a) (pm_bs a) (F0 m pc lr ((as.reverse ++ .ref o :: r).map (vmv (pm_ad b sz aS)))) (r.map (vmv (pm_ad b sz aS))) (pm_Qc D cA b sz Ls aS xs k ((Value.ref o :: as).map (vmv (pm_ad b sz aS))).toArray) (pm_XC D cA b sz Ls aS xs k) (fun q => sz ≤ q) := by
  obtain ⟨hx, hb, hml, hown, hTb, hK, hCs, hsz, hMC, hMS, hRf, hRl, -⟩ := hC
  obtain ⟨g1, g2, g3, g4, g5, g6, g7, g8, g9, g10⟩ := pm_mk_un hm
  rw [hst] at g1
  simp only [Bool.false_eq_true, if_false, Bool.and_eq_true, Bool.or_eq_true, decide_eq_true_eq] at g1
  have hsel := g1.2.resolve_left hni
  have hwd : pm_wd a = .code (mY a) (mB a) (pm_mx a) (mR a) := by unfold pm_wd; rw [if_pos hhh]
  have hw := pm_words hTb hm
  have hcode := hTb.it g3 args
  unfold pm_Met at hM
  rw [hwd] at hw hcode hM
  have e1 : (as.reverse ++ Value.ref o :: r).map (vmv (pm_ad b sz aS)) = (as.map (vmv (pm_ad b sz aS))).reverse ++ .ref (pm_ad b sz aS o) :: r.map (vmv (pm_ad b sz aS)) := by
    rw [List.map_append, List.map_reverse]; rfl
  rw [e1]
  have hrec := va_recv hK hr.1 (cls_at hcn) (pm_obj (cA := cA) (ad := pm_ad b sz aS) hr.2.1 hcn ho).2.2
  have hS9 : CallFix p m c (mB y) (pm_mx y) s args [] (mC y) := ⟨hx, hb, hml, hown, fun w hw => by cases hw⟩
  have hp : PreV s H (pm_cn cn) (pm_ad b sz aS o) (pm_Pc D cA b sz Ls aS xs (.ref o :: as) h) (as.map (vmv (pm_ad b sz aS))) := ⟨pm_blind, hrec, pm_begin hTb hK hCs hsz hr hS⟩
  have hsel' : (Cond.selects (pm_cn cn) (mY a) (mY a)).before args s = true := by rw [hcc, g8]; exact hTb.it hsel args
  have hn : (as.map (vmv (pm_ad b sz aS))).length = mNa a := by rw [List.length_map]; exact has
  have hroom : 2 * (F0 m pc lr ((as.map (vmv (pm_ad b sz aS))).reverse ++ .ref (pm_ad b sz aS o) :: r.map (vmv (pm_ad b sz aS)))).monitorRoom + (((r.map (vmv (pm_ad b sz aS))).map fun v => v.category).sum) ≤ 8 := lv_room (by rw [pm_cat_map]; exact hcat)
  have hfr : (pm_rm d a).frames + 1 ≤ R.frames := by show 10 + d + 1 ≤ _; omega
  have hlo : 8 + (pm_mx a + 11) + (pm_rm d a).locals ≤ R.locals := by show 8 + (pm_mx a + 11) + (200 + 60 * d) ≤ _; omega
  unfold pm_ml at hlk
  rw [Bool.or_eq_true] at hlk
  rcases hlk with hlk | hlk
  · exact vx_runV hS9 hM ⟨⟨rfl, rfl, hfr, hlo, hw, List.mem_singleton.mpr rfl, hcode, hTb.it g2 args, ⟨g4, g5⟩, g6, hTb.it hlk args⟩, hTb.it g1.1 args, hsel'⟩ hp rfl hn hl rfl hroom hdg ⟨hcb, hsb⟩
  · exact vx_runVN hS9 hM ⟨⟨⟨rfl, rfl, hfr, hlo, hw, List.mem_singleton.mpr rfl⟩, hcode, hTb.it g2 args, ⟨g4, g5⟩, g6, hTb.it hlk args⟩, hTb.it g1.1 args, hsel'⟩ hp rfl hn hl rfl hroom hdg ⟨hcb, hsb⟩
/-- a constructor -/
theorem pm_runI (hC : pm_Cx p R s m meth c D cA b sz Ls aS xs y MC MS (d + 1)) (hl : lr.size = pm_mx y) (hr : pm_Rel D cA (pm_ad b sz aS) sz Ls xs h H) (hS : va_S (fun q => sz ≤ q) s.heap H locs) (hM : pm_Met l D cA b sz Ls aS xs d a (.ref o :: as) h k)
    (hm : pm_mk a = true) (hlk : pm_ml y ix a = true) (has : as.length = mNa a) (hst : mSt a = false) (hni : (mY a).name = "<init>") (hhh : mHH a = []) (hrt : mR a = none) (hcat : pm_cat r ≤ 8) (hcb : cells + pm_bc a ≤ R.cells) (hsb : slots + pm_bs a ≤ R.slots) (hdg : decode (mB y) pc = .ok (.invokespecial ix, 3)) :
    vx_Run p l e R s m args below meth c H locs cells slots (pm_bc a) (pm_bs a) (F0 m pc lr ((as.reverse ++ .ref o :: r).map (vmv (pm_ad b sz aS)))) (r.map (vmv (pm_ad b sz aS))) (pm_Qc D cA b sz Ls aS xs k ((Value.ref o :: as).map (vmv (pm_ad b sz aS))).toArray) (pm_XC D cA b sz Ls aS xs k) (fun q => sz ≤ q) := by
  obtain ⟨hx, hb, hml, hown, hTb, hK, hCs, hsz, hMC, hMS, hRf, hRl, -⟩ := hC
  obtain ⟨g1, g2, g3, g4, g5, g6, g7, g8, g9, g10⟩ := pm_mk_un hm
  rw [hst] at g1
  simp only [Bool.false_eq_true, if_false, Bool.and_eq_true] at g1
  have hwd : pm_wd a = .code (mY a) (mB a) (pm_mx a) none := by unfold pm_wd; rw [if_pos hhh, hrt]
  have hw := pm_words hTb hm
  have hcode := hTb.it g3 args
  unfold pm_Met at hM
  rw [hwd] at hw hcode hM
  have e1 : (as.reverse ++ Value.ref o :: r).map (vmv (pm_ad b sz aS)) = (as.map (vmv (pm_ad b sz aS))).reverse ++ .ref (pm_ad b sz aS o) :: r.map (vmv (pm_ad b sz aS)) := by
    rw [List.map_append, List.map_reverse]; rfl
  rw [e1]
  have hS9 : CallFix p m c (mB y) (pm_mx y) s args [] (mC y) := ⟨hx, hb, hml, hown, fun w hw => by cases hw⟩
  have hp : PreS s H (pm_Pc D cA b sz Ls aS xs (.ref o :: as) h) (.ref (pm_ad b sz aS o) :: as.map (vmv (pm_ad b sz aS))) := ⟨pm_blind, pm_begin hTb hK hCs hsz hr hS⟩
  have hn : (as.map (vmv (pm_ad b sz aS))).length = mNa a := by rw [List.length_map]; exact has
  have hroom : 2 * (F0 m pc lr ((as.map (vmv (pm_ad b sz aS))).reverse ++ .ref (pm_ad b sz aS o) :: r.map (vmv (pm_ad b sz aS)))).monitorRoom + (((r.map (vmv (pm_ad b sz aS))).map fun v => v.category).sum) ≤ 8 := lv_room (by rw [pm_cat_map]; exact hcat)
  have hfr : (pm_rm d a).frames + 1 ≤ R.frames := by show 10 + d + 1 ≤ _; omega
  have hlo : 8 + (pm_mx a + 11) + (pm_rm d a).locals ≤ R.locals := by show 8 + (pm_mx a + 11) + (200 + 60 * d) ≤ _; omega
  unfold pm_ml at hlk
  rw [Bool.or_eq_true] at hlk
  rcases hlk with hlk | hlk
  · exact vx_runI hS9 hM ⟨⟨rfl, rfl, hfr, hlo, hw, List.mem_singleton.mpr rfl, hcode, hTb.it g2 args, ⟨g4, g5⟩, g6, hTb.it hlk args⟩, hni, hTb.it g1.1 args⟩ hp rfl hn hl rfl hroom hdg ⟨hcb, hsb⟩
  · exact vx_runIN hS9 hM ⟨⟨⟨rfl, rfl, hfr, hlo, hw, List.mem_singleton.mpr rfl⟩, hcode, hTb.it g2 args, ⟨g4, g5⟩, g6, hTb.it hlk args⟩, hni, hTb.it g1.1 args⟩ hp rfl hn hl rfl hroom hdg ⟨hcb, hsb⟩
/-- a static method -/
theorem pm_runS (hC : pm_Cx p R s m meth c D cA b sz Ls aS xs y MC MS (d + 1)) (hl : lr.size = pm_mx y) (hr : pm_Rel D cA (pm_ad b sz aS) sz Ls xs h H) (hS : va_S (fun q => sz ≤ q) s.heap H locs) (hM : pm_Met l D cA b sz Ls aS xs d a as h k)
    (hm : pm_mk a = true) (hlk : pm_ml y ix a = true) (has : as.length = mNa a) (hst : mSt a = true) (hhn : mHH a = [] ∨ pm_it (lp (mNo y) ix) (.methodLink (mC y) ix (mY a)) = true) (hcat : pm_cat r ≤ 8) (hcb : cells + pm_bc a ≤ R.cells) (hsb : slots + pm_bs a ≤ R.slots) (hdg : decode (mB y) pc = .ok (.invokestatic ix, 3)) :
    vx_Run p l e R s m args below meth c H locs cells slots (pm_bc a) (pm_bs a) (F0 m pc lr ((as.reverse ++ r).map (vmv (pm_ad b sz aS)))) (r.map (vmv (pm_ad b sz aS))) (pm_Qc D cA b sz Ls aS xs k (as.map (vmv (pm_ad b sz aS))).toArray) (pm_XC D cA b sz Ls aS xs k) (fun q => sz ≤ q) := by
  obtain ⟨hx, hb, hml, hown, hTb, hK, hCs, hsz, hMC, hMS, hRf, hRl, -⟩ := hC
  obtain ⟨g1, g2, g3, g4, g5, g6, g7, g8, g9, g10⟩ := pm_mk_un hm
  rw [hst] at g1
  simp only [if_true] at g1
  have hw := pm_words hTb hm
  have hcode := hTb.it g3 args
  unfold pm_Met at hM
  have e1 : (as.reverse ++ r).map (vmv (pm_ad b sz aS)) = (as.map (vmv (pm_ad b sz aS))).reverse ++ r.map (vmv (pm_ad b sz aS)) := by
    rw [List.map_append, List.map_reverse]
  rw [e1]
  have hS9 : CallFix p m c (mB y) (pm_mx y) s args [] (mC y) := ⟨hx, hb, hml, hown, fun w hw => by cases hw⟩
  have hp : PreS s H (pm_Pc D cA b sz Ls aS xs as h) (as.map (vmv (pm_ad b sz aS))) := ⟨pm_blind, pm_begin hTb hK hCs hsz hr hS⟩
  have hn : (as.map (vmv (pm_ad b sz aS))).length = mNa a := by rw [List.length_map]; exact has
  have hroom : 2 * (F0 m pc lr ((as.map (vmv (pm_ad b sz aS))).reverse ++ r.map (vmv (pm_ad b sz aS)))).monitorRoom + (((r.map (vmv (pm_ad b sz aS))).map fun v => v.category).sum) ≤ 8 := lv_room (by rw [pm_cat_map]; exact hcat)
  have hfr : (pm_rm d a).frames + 1 ≤ R.frames := by show 10 + d + 1 ≤ _; omega
  have hlo : 8 + (pm_mx a + 11) + (pm_rm d a).locals ≤ R.locals := by show 8 + (pm_mx a + 11) + (200 + 60 * d) ≤ _; omega
  by_cases hhh : mHH a = []
  · have hwd : pm_wd a = .code (mY a) (mB a) (pm_mx a) (mR a) := by unfold pm_wd; rw [if_pos hhh]
    rw [hwd] at hw hcode hM
    unfold pm_ml at hlk
    rw [Bool.or_eq_true] at hlk
    rcases hlk with hlk | hlk
    · exact vx_runS hS9 hM ⟨⟨rfl, rfl, hfr, hlo, hw, List.mem_singleton.mpr rfl, hcode, hTb.it g2 args, ⟨g4, g5⟩, g6, hTb.it hlk args⟩, hTb.it g1 args⟩ hp rfl hn hl rfl hroom hdg ⟨hcb, hsb⟩
    · exact vx_runSN hS9 hM ⟨⟨⟨rfl, rfl, hfr, hlo, hw, List.mem_singleton.mpr rfl⟩, hcode, hTb.it g2 args, ⟨g4, g5⟩, g6, hTb.it hlk args⟩, hTb.it g1 args, trivial⟩ hp rfl hn hl rfl hroom hdg ⟨hcb, hsb⟩
  · have hwd : pm_wd a = .codeWith (mY a) (mB a) (pm_mx a) (mR a) (mHH a) := by unfold pm_wd; rw [if_neg hhh]
    rw [hwd] at hw hcode hM
    exact vx_runSX hS9 hM ⟨⟨rfl, rfl, hfr, hlo, hw, List.mem_singleton.mpr rfl⟩, hcode, hTb.it g2 args, ⟨g4, g5⟩, g6, hTb.it (hhn.resolve_left hhh) args, hTb.it g1 args⟩ hp rfl hn hl rfl hroom hdg ⟨hcb, hsb⟩
end PCL
