/-! ===== THE PURE MACHINE IS THE MACHINE: one instruction ===== -/
/-- what lies in the old heap and is only read: the strings, four statics, the script; and the classes of arrays of arrays -/
def pm_Cst (b sz : Nat) (aS : Nat → Nat) (Ls : Nat) (xs : Nat → Int32) (U : State) (H : Heap) : Prop :=
  (∀ i, 0 < i → i ≤ 20 → ∃ av : Nat, vk_R (stO i).1 (stO i).2.1 (stO i).2.2 (aS i) U ∧ va_O "java/lang/String" (aS i) (fun q => sz ≤ q) U H ∧ va_OF "java/lang/String" "coder" "B" (.int 0) (aS i) (fun q => sz ≤ q) U H ∧ va_OF "java/lang/String" "value" "[B" (.ref av) (aS i) (fun q => sz ≤ q) U H ∧
    va_T .byte av (pm_js.getD (i - 1) []).length (fun j => .int (nI ((pm_js.getD (i - 1) []).getD j 0))) (fun q => sz ≤ q) U H) ∧
  vx_Zq Bundle.tN "UNASSIGNED_STACK" Bundle.steD (fun q => sz ≤ q) U H ∧ vx_Zq Bundle.tN "SUPPRESSED_SENTINEL" Bundle.listD (fun q => sz ≤ q) U H ∧ va_Z "java/lang/String" "COMPACT_STRINGS" "Z" (.int 1) (fun q => sz ≤ q) U H ∧
  va_AOA .int U ∧ va_AOA .long U ∧ va_X b Ls xs U H ∧ b < sz ∧ va_Zq "jdk/internal/util/Preconditions" "SIOOBE_FORMATTER" "Ljava/util/function/BiFunction;" (fun q => sz ≤ q) U H ∧ ∀ i j, i < 4 → j < 4 → i ≠ j → va_Nc (exN i) (exN j) U
/-- a row for ldc_w of a text -/
theorem pm_ldcSW {p : Program} {l : Launch} {e : Env} {R : Room} {s : State} {m : MethodId} {args : Array Value} {below : List Frame} {meth : Method} {c : Code} {H : Heap} {locs : List Loc} {cells slots : Nat} {Q : State → Prop} {cc : ByteArray} {pc : Nat} {ls : Array Slot} {rest : List Value}
    (hexec : p.tables.exec = Jvm.exec) (hb : c.code = cc) {own tx : String} {index q : Nat} (hown : s.vm.findClass own = some m.cls) (hZ : vk_R own index tx q s) (hdg : decode cc pc = .ok (.ldc_w index, 3))
    (k : W p l e R s m args below meth c H locs cells slots Q (F0 m (pc + 3) ls (.ref q :: rest))) : W p l e R s m args below meth c H locs cells slots Q (F0 m pc ls rest) := by
  intro T hT X
  obtain ⟨t, a1, b1⟩ := k T hT X
  exact ⟨t, X.ldcStringW hexec hown (text := tx) (a := q) hZ.1 hZ.2 (g := F0 m pc ls rest) rfl (by rw [hb]; exact hdg) t a1, b1⟩
section POP
variable {p : Program} {l : Launch} {e : Env} {R : Room} {s : State} {m : MethodId} {args : Array Value} {below : List Frame} {meth : Method} {c : Code} {Z : State → Prop}
variable {D : va_G} {cA : Nat → ClassId} {b sz Ls : Nat} {aS : Nat → Nat} {xs : Nat → Int32} {y MC MS : Nat}
/-- from here the machine comes to Z, wherever the pure state lies -/
def pm_N (p : Program) (l : Launch) (e : Env) (R : Room) (s : State) (m : MethodId) (args : Array Value) (below : List Frame) (meth : Method) (c : Code) (Z : State → Prop) (D : va_G) (cA : Nat → ClassId) (b sz Ls : Nat) (aS : Nat → Nat) (xs : Nat → Int32) (y MC MS : Nat)
    (pc bc bs : Nat) (ls : pm_L) (st : pm_S) (h : pm_H) : Prop :=
  ∀ (H : Heap) (locs : List Loc) (lr : Array Slot) (cells slots : Nat), pm_Rel D cA (pm_ad b sz aS) sz Ls xs h H → va_S (fun q => sz ≤ q) s.heap H locs → lv_has lr (pm_mx y) (las (pm_ad b sz aS) 0 ls) → ls.length = pm_mx y → cells + bc ≤ MC → slots + bs ≤ MS →
    W p l e R s m args below meth c H locs cells slots Z (F0 m pc lr (st.map (vmv (pm_ad b sz aS))))
/-- what a body stands on -/
def pm_Cx (p : Program) (R : Room) (s : State) (m : MethodId) (meth : Method) (c : Code) (D : va_G) (cA : Nat → ClassId) (b sz Ls : Nat) (aS : Nat → Nat) (xs : Nat → Int32) (y MC MS d : Nat) : Prop :=
  p.tables.exec = Jvm.exec ∧ c.code = mB y ∧ c.maxLocals = pm_mx y ∧ s.vm.findClass (mC y) = some m.cls ∧ pm_Tb s ∧ va_K D cls_ (pm_tys cA) s ∧ pm_Cst b sz aS Ls xs s s.heap ∧ sz ≤ s.heap.size ∧
  MC ≤ R.cells ∧ MS ≤ R.slots ∧ 10 + d ≤ R.frames ∧ 200 + 60 * d ≤ R.locals ∧ ((mY y).name = "<init>" → meth.name = "<init>")
theorem pm_dcE {y pc : Nat} {i : Instr} {n : Nat} (h : pm_dc y pc i n = true) : decode (mB y) pc = .ok (i, n) := of_decide_eq_true h
theorem pm_Rel.put {D : va_G} {ad : Nat → Nat} {h h' : pm_H} {H H1 : Heap} (hr : pm_Rel D cA ad sz Ls xs h H) (hP : va_P D cls_ (pm_ws cA ad h') H1) (e1 : hn h' = hn h) (e2 : hT h' = hT h) (e3 : hx h' = hx h) (e4 : hN h' = hN h) (e5 : hI h' 0 = hI h 0) (hz : H1.size = H.size) : pm_Rel D cA ad sz Ls xs h' H1 := by
  obtain ⟨-, h2, h3, h4, h5⟩ := hr
  refine ⟨hP, ?_, ?_, ?_, ?_⟩
  · unfold pm_wf; rw [e1, e2]; exact h2
  · rw [e1, e3, hz]; exact h3
  · rw [e1, hz]; exact h4
  · rw [e2, e4, e5]; exact h5
theorem pm_range_get {N b : Nat} {f : Nat → Value} (hb : b < N) : ((List.range N).map f)[b]? = some (f b) := by rw [List.getElem?_map, List.getElem?_range hb]; rfl
/-- a field is read -/
theorem pm_get {H : Heap} {locs : List Loc} {lr : Array Slot} {cells slots : Nat} {rest : List Value} {pc a fb ix o : Nat} {h : pm_H} (hx : p.tables.exec = Jvm.exec) (hb : c.code = mB y) (hown : s.vm.findClass (mC y) = some m.cls) (hTb : pm_Tb s) (hK : va_K D cls_ (pm_tys cA) s)
    (hr : pm_Rel D cA (pm_ad b sz aS) sz Ls xs h H) (ha : a < 11) (hf : fb < pm_nf a) (ho : hT h o = a) (hl : pm_fl y ix a fb = true) (hdg : decode (mB y) pc = .ok (.getfield ix, 3))
    (kk : W p l e R s m args below meth c H locs cells slots Z (F0 m (pc + 3) lr (pm_fv (pm_ad b sz aS) h o fb (pm_ty a fb) :: rest))) : W p l e R s m args below meth c H locs cells slots Z (F0 m pc lr (.ref (pm_ad b sz aS o) :: rest)) := by
  obtain ⟨h1, h2, h3⟩ := pm_obj (cA := cA) (ad := pm_ad b sz aS) hr.2.1 ha ho
  have hts : ∀ w ∈ u_ws (pm_cn a) (pm_tf a) (pm_nf a), w.before args s = true := fun w hw => hTb w (lay_ok ha w hw).1 (lay_ok ha w hw).2 args
  unfold pm_fl at hl
  rw [Bool.or_eq_true] at hl
  rcases hl with hl | hl
  · exact va_get (D := D) (ci := a) (C := pm_cn a) (T := pm_tf a) (N := pm_nf a) hx hb hts (fun w q => q) hown hK hr.1 (o - 32) h3 (cls_at ha) fb hf (hTb.it hl args) (fun _ q => q) (pm_range_get hf) hdg kk
  · exact va_getN (D := D) (ci := a) (C := pm_cn a) (T := pm_tf a) (N := pm_nf a) hx hb hts (fun w q => q) hown hK hr.1 (o - 32) h3 (cls_at ha) fb hf (hTb.it hl args) (fun _ q => q) (pm_range_get hf) hdg kk
/-- a field is written -/
theorem pm_put {H : Heap} {locs : List Loc} {lr : Array Slot} {cells slots : Nat} {rest : List Value} {pc a fb ix o : Nat} {h : pm_H} {v : Value} (hx : p.tables.exec = Jvm.exec) (hb : c.code = mB y) (hown : s.vm.findClass (mC y) = some m.cls) (hTb : pm_Tb s) (hK : va_K D cls_ (pm_tys cA) s)
    (hr : pm_Rel D cA (pm_ad b sz aS) sz Ls xs h H) (hS0 : va_S (fun q => sz ≤ q) s.heap H locs) (ha : a < 11) (hf : fb < pm_nf a) (ho : hT h o = a) (hin2 : (mY y).name = "<init>" → meth.name = "<init>")
    (hl : (if (pm_tf a fb).2.2.2 then decide ((mY y).name = "<init>") && decide ((pm_tf a fb).1 = mC y) && pm_it (lp (mNo y) ix) (.fieldLink (mC y) ix (pm_tf a fb).1 (pm_tf a fb).2.1 (pm_tf a fb).2.2.1) else pm_fl y ix a fb) = true)
    (hn : narrow (pm_ty a fb) v = v) (hfit : fits (pm_ty a fb) v = true) (hdg : decode (mB y) pc = .ok (.putfield ix, 3))
    (kk : ∀ (H1 : Heap) (locs1 : List Loc), va_P D cls_ ((pm_ws cA (pm_ad b sz aS) h).set (o - 32) (pm_ad b sz aS o, .inr (a, ((List.range (pm_nf a)).map fun j => pm_fv (pm_ad b sz aS) h o j (pm_ty a j)).set fb v))) H1 → va_S (fun q => sz ≤ q) s.heap H1 locs1 → H1.size = H.size → W p l e R s m args below meth c H1 locs1 cells slots Z (F0 m (pc + 3) lr rest)) :
    W p l e R s m args below meth c H locs cells slots Z (F0 m pc lr (v :: .ref (pm_ad b sz aS o) :: rest)) := by
  obtain ⟨-, -, he⟩ := pm_obj (cA := cA) (ad := pm_ad b sz aS) hr.2.1 ha ho
  have hts : ∀ w ∈ u_ws (pm_cn a) (pm_tf a) (pm_nf a), w.before args s = true := fun w hw => hTb w (lay_ok ha w hw).1 (lay_ok ha w hw).2 args
  have hP := hr.1
  have hD : va_D (fun q => sz ≤ q) (pm_ws cA (pm_ad b sz aS) h) := pm_D
  have hc := cls_at ha
  have hlen : fb < ((List.range (pm_nf a)).map fun j => pm_fv (pm_ad b sz aS) h o j (pm_ty a j)).length := by simpa using hf
  have hap := va_apart (own := mC y) hts (fun w q => q) (pm_ty a) (pm_ty_ok ha) (pm_nm_ok ha) hK hc
  obtain ⟨r, h1, cell, q1, q2, q3, q4⟩ := hP (o - 32) _ he
  have hr9 : r = (pm_cn a, pm_tf a, pm_nf a) := Option.some.inj (h1.symm.trans hc)
  subst hr9
  obtain ⟨hS, hfc, kC, hkC, hkind⟩ := hK.1 a _ hc
  obtain ⟨cf, kf, fi, f, hi, hsl⟩ := hS fb hf
  have hlay := hts _ (u_in_lay hf)
  unfold u_lay at hlay
  have hst := (u_facts hfc hkC (u_lays hts (fun w q => q) hf) hi).1
  have hd := pm_ty_ok ha fb hf
  by_cases hfin : (pm_tf a fb).2.2.2 = true
  · rw [if_pos hfin] at hl hlay
    simp only [Bool.and_eq_true, decide_eq_true_eq] at hl
    obtain ⟨⟨hl1, hl2⟩, hl3⟩ := hl
    have hcf : m.cls = cf := by
      obtain ⟨_, _, c', _, _, _, -, -, hf', -, -, -, hown2, -⟩ := Cond.laysFinal_spec hlay
      have e1 : c' = cf := by have := hi.symm.trans hf'; simp at this; exact this.1.symm
      rw [hl2] at hown2
      rw [← e1]; exact Option.some.inj (hown.symm.trans hown2)
    have h6 := u_fits hfc hkC hkind (Or.inr hlay) hi hd hn hfit
    refine W.putFinK hx hb hown (hTb.it hl3 args) hi hst hcf (hin2 hl1) (by rw [q2]; exact h6) q1 q3 (by rw [hsl]; exact k2_hasslot (q4 fb hf)) rfl rfl hdg fun H' e1 e2 e3 => ?_
    rw [hsl] at e1 ⊢
    exact kk H' _ (hP.set hD he ⟨_, hc, t_OB.to (V := updV (vp_V _) fb v) ⟨_, e1, q2, q3, t_set q4 hap hf v⟩ (fun j _ => vp_updV_set hlen v j)⟩ e3) (hS0.put e2 e3 (hD.2 (o - 32) _ he)) e2
  · have hfin' : (pm_tf a fb).2.2.2 = false := by simpa using hfin
    rw [if_neg hfin] at hlay
    simp only [hfin', Bool.false_eq_true, if_false] at hl
    have h6 := u_store hfc hkC hkind hlay hi hd hn hfit
    unfold pm_fl at hl
    rw [Bool.or_eq_true] at hl
    rcases hl with hl | hl
    · refine W.putK hx hb (f := f) ⟨hown, hTb.it hl args, ⟨_, _, _, hi⟩, hst⟩ (by rw [q2]; exact h6) q1 q3 (by rw [hsl]; exact k2_hasslot (q4 fb hf)) rfl rfl hdg fun H' e1 e2 e3 => ?_
      rw [hsl] at e1 ⊢
      exact kk H' _ (hP.set hD he ⟨_, hc, t_OB.to (V := updV (vp_V _) fb v) ⟨_, e1, q2, q3, t_set q4 hap hf v⟩ (fun j _ => vp_updV_set hlen v j)⟩ e3) (hS0.put e2 e3 (hD.2 (o - 32) _ he)) e2
    · refine va_WputK hx hb (f := f) hown (hTb.it hl args) hi hst (by rw [q2]; exact h6) q1 q3 (by rw [hsl]; exact k2_hasslot (q4 fb hf)) rfl rfl hdg fun H' e1 e2 e3 => ?_
      rw [hsl] at e1 ⊢
      exact kk H' _ (hP.set hD he ⟨_, hc, t_OB.to (V := updV (vp_V _) fb v) ⟨_, e1, q2, q3, t_set q4 hap hf v⟩ (fun j _ => vp_updV_set hlen v j)⟩ e3) (hS0.put e2 e3 (hD.2 (o - 32) _ he)) e2
/-- an array's cell, after a store -/
theorem pm_ast {H H1 : Heap} {locs : List Loc} {h h' : pm_H} {o t k : Nat} (hr : pm_Rel D cA (pm_ad b sz aS) sz Ls xs h H) (hS0 : va_S (fun q => sz ≤ q) s.heap H locs) (h1 : 100 ≤ t) (h2 : t < 106) (ho : hT h o = t)
    (eT : hT h' = hT h) (eN : hN h' = hN h) (en : hn h' = hn h) (ex : hx h' = hx h) (eI : ∀ j, j ≠ o → hI h' j = hI h j) (eL : ∀ j, j ≠ o → hL h' j = hL h j) (eR : hR h' = hR h)
    (e : H1[pm_ad b sz aS o]? = some (vp_cell (cA t) (hN h o, pm_ro (pm_ad b sz aS) h' o))) (z : H1.size = H.size) (oq : ∀ q : Nat, q ≠ pm_ad b sz aS o → H1[q]? = H[q]?) :
    pm_Rel D cA (pm_ad b sz aS) sz Ls xs h' H1 ∧ va_S (fun q => sz ≤ q) s.heap H1 (locs ++ [⟨pm_ad b sz aS o, k⟩]) := by
  obtain ⟨h3, h4, ha⟩ := pm_arr (cA := cA) (ad := pm_ad b sz aS) hr.2.1 h1 h2 ho
  have hD : va_D (fun q => sz ≤ q) (pm_ws cA (pm_ad b sz aS) h) := pm_D
  refine ⟨hr.put ?_ en eT ex eN (eI 0 (by omega)) z, hS0.put z oq (hD.2 (o - 32) _ ha)⟩
  rw [← pm_ws_set (h := h) (h' := h') h3 h4 en (fun j hj => pm_ent_congr (eI j hj) (eL j hj) (by rw [eR]) (by rw [eT]) (by rw [eN]))]
  refine hr.1.set hD ha ?_ oq
  show va_at D cls_ (pm_ad b sz aS o, pm_ent cA (pm_ad b sz aS) h' o) H1
  have e9 : pm_ent cA (pm_ad b sz aS) h' o = .inl (cA t, hN h o, pm_ro (pm_ad b sz aS) h' o) := by
    unfold pm_ent
    rw [eT, if_neg (by omega), ho, eN]
  rw [e9]
  exact e
end POP
