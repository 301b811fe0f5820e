/-! ===== cells that are made ===== -/
theorem pm_tg_all : ∀ a, a < 11 → (List.range (pm_nf a)).all (fun j => decide (pm_tg (pm_ty a j) < 3)) = true := by decide +kernel
theorem pm_tg_ok {a j : Nat} (ha : a < 11) (hj : j < pm_nf a) : pm_tg (pm_ty a j) < 3 := of_decide_eq_true (List.all_eq_true.mp (pm_tg_all a ha) j (List.mem_range.mpr hj))
theorem nw_T (h : pm_H) (t n o : Nat) : hT (nw h t n) o = if o = hn h then t else hT h o := rfl
theorem nw_N (h : pm_H) (t n o : Nat) : hN (nw h t n) o = if o = hn h then n else hN h o := rfl
theorem nw_I (h : pm_H) (t n o : Nat) : hI (nw h t n) o = if o = hn h then (fun _ => 0) else hI h o := rfl
theorem nw_L (h : pm_H) (t n o : Nat) : hL (nw h t n) o = if o = hn h then (fun _ => 0) else hL h o := rfl
theorem nw_R (h : pm_H) (t n o : Nat) : hR (nw h t n) o = if o = hn h then (fun _ => 0) else hR h o := rfl
theorem nw_n (h : pm_H) (t n : Nat) : hn (nw h t n) = hn h + 1 := rfl
theorem pm_wf_nw {h : pm_H} {t n : Nat} (hw : pm_wf h) (ht : t < 11 ∨ (100 ≤ t ∧ t < 106)) : pm_wf (nw h t n) := by
  refine ⟨by rw [nw_n]; have := hw.1; omega, fun o => ?_⟩
  rw [nw_T, nw_n]
  have h0 := hw.1
  by_cases e : o = hn h
  · rw [if_pos e]
    refine ⟨fun q => ?_, fun q1 q2 => ?_, fun q => ?_⟩ <;> omega
  · rw [if_neg e]
    obtain ⟨h1, h2, h3⟩ := hw.2 o
    refine ⟨fun q => ?_, fun q1 q2 => ?_, h3⟩
    · have := h1 q; omega
    · have := h2 q1 q2; omega
section PAL
variable {p : Program} {l : Launch} {e : Env} {R : Room} {s : State} {m : MethodId} {args : Array Value} {below : List Frame} {meth : Method} {c : Code} {Z : State → Prop}
variable {D : va_G} {cA : Nat → ClassId} {b sz Ls : Nat} {aS : Nat → Nat} {xs : Nat → Int32} {y : Nat}
/-- one cell more -/
theorem pm_Rel.one {h : pm_H} {H H1 : Heap} {t n : Nat} (hr : pm_Rel D cA (pm_ad b sz aS) sz Ls xs h H) (hx0 : hx h = 0) (ht : t < 11 ∨ (100 ≤ t ∧ t < 106)) (z1 : H1.size = H.size + 1) (o1 : ∀ q, q < H.size → H1[q]? = H[q]?)
    (hat : va_at D cls_ (pm_ad b sz aS (hn h), pm_ent cA (pm_ad b sz aS) (nw h t n) (hn h)) H1) : pm_Rel D cA (pm_ad b sz aS) sz Ls xs (nw h t n) H1 := by
  have h32 := hr.2.1.1
  have hs0 := hr.2.2.1 hx0
  have hP : va_P D cls_ (pm_ws cA (pm_ad b sz aS) (nw h t n)) H1 := by
    rw [← pm_ws_app (h := h) (h' := nw h t n) h32 (nw_n h t n) (fun j hj => pm_ent_congr (by rw [nw_I, if_neg (Nat.ne_of_lt hj)]) (by rw [nw_L, if_neg (Nat.ne_of_lt hj)]) (by rw [nw_R, if_neg (Nat.ne_of_lt hj)]) (by rw [nw_T, if_neg (Nat.ne_of_lt hj)]) (by rw [nw_N, if_neg (Nat.ne_of_lt hj)]))]
    refine (hr.1.kept (fun k x hx => o1 x.1 ((hr.1 k x hx).lt))).app (fun k x hx => ?_)
    have hz : k < 1 := (List.getElem?_eq_some_iff.mp hx).1
    rw [show k = 0 by omega] at hx
    cases hx
    exact hat
  refine ⟨hP, pm_wf_nw hr.2.1 ht, fun _ => ?_, ?_, ?_⟩
  · rw [nw_n, z1]; omega
  · rw [nw_n, z1]; omega
  · rw [nw_T, nw_N, nw_I, if_neg (by omega), if_neg (by omega), if_neg (by omega)]
    exact hr.2.2.2.2
theorem pm_S_new {H H1 : Heap} {locs : List Loc} (hS : va_S (fun q => sz ≤ q) s.heap H locs) (z1 : H.size ≤ H1.size) (o1 : ∀ q, q < H.size → H1[q]? = H[q]?) : va_S (fun q => sz ≤ q) s.heap H1 locs :=
  ⟨Nat.le_trans hS.1 z1, fun x h1 h2 => (o1 x (Nat.lt_of_lt_of_le h1 hS.1)).trans (hS.2.1 x h1 h2), hS.2.2⟩
theorem pm_newc {H : Heap} {locs : List Loc} {lr : Array Slot} {cells slots : Nat} {rest : List Value} {pc a ix : Nat} {h : pm_H} (hxe : p.tables.exec = Jvm.exec) (hb : c.code = mB y) (hown : s.vm.findClass (mC y) = some m.cls) (hTb : pm_Tb s) (hK : va_K D cls_ (pm_tys cA) s)
    (hr : pm_Rel D cA (pm_ad b sz aS) sz Ls xs h H) (hS : va_S (fun q => sz ≤ q) s.heap H locs) (hx0 : hx h = 0) (ha : a < 11) (g1 : pm_it (lp (mNo y) ix) (.classLink (mC y) ix (pm_cn a)) = true) (g2 : pm_it (cw_ a).1 (.instantiable (pm_cn a) (pm_nf a)) = true) (g3 : pm_it (cw_ a).2 (.initialized (pm_cn a)) = true)
    (hc : cells + 1 ≤ R.cells) (hs : slots + pm_nf a ≤ R.slots) (hdg : decode (mB y) pc = .ok (.new ix, 3))
    (kk : ∀ H1 : Heap, pm_Rel D cA (pm_ad b sz aS) sz Ls xs (nw h a (pm_nf a)) H1 → va_S (fun q => sz ≤ q) s.heap H1 locs → W p l e R s m args below meth c H1 locs (cells + 1) (slots + pm_nf a) Z (F0 m (pc + 3) lr (.ref (pm_ad b sz aS (hn h)) :: rest))) :
    W p l e R s m args below meth c H locs cells slots Z (F0 m pc lr rest) := by
  have hKn := hK.1 a _ (cls_at ha)
  have hts : ∀ w ∈ u_ws (pm_cn a) (pm_tf a) (pm_nf a), w.before args s = true := fun w hw => hTb w (lay_ok ha w hw).1 (lay_ok ha w hw).2 args
  have h32 := hr.2.1.1
  have hs0 := hr.2.2.1 hx0
  have e0 : pm_ad b sz aS (hn h) = H.size := by rw [pm_ad_hi h32, hs0]
  rw [e0] at kk
  refine W.newcK hxe hb hown (hTb.it g1 args) (hTb.it g2 args) (hTb.it g3 args) rfl hdg hc hs hKn.2.1 rfl fun H1 kC hkC e1 z1 o1 => ?_
  refine kk H1 (hr.one hx0 (Or.inl ha) z1 o1 ?_) (pm_S_new hS (by omega) o1)
  have e9 : pm_ent cA (pm_ad b sz aS) (nw h a (pm_nf a)) (hn h) = .inr (a, (List.range (pm_nf a)).map fun j => pm_fv (pm_ad b sz aS) (nw h a (pm_nf a)) (hn h) j (pm_ty a j)) := by
    unfold pm_ent
    rw [nw_T, if_pos rfl, if_pos (by omega)]
  rw [e9, e0]
  refine ⟨_, cls_at ha, (u_born (pm_ty a) hts (fun w q => q) hKn hkC e1 (pm_ty_ok ha)).to (fun j hj => ?_)⟩
  have e8 : vp_V ((List.range (pm_nf a)).map fun j => pm_fv (pm_ad b sz aS) (nw h a (pm_nf a)) (hn h) j (pm_ty a j)) j = pm_fv (pm_ad b sz aS) (nw h a (pm_nf a)) (hn h) j (pm_ty a j) := by
    unfold vp_V
    rw [List.getD_eq_getElem?_getD, pm_range_get hj]
    rfl
  rw [e8]
  have h3 := pm_tg_ok ha hj
  unfold pm_fv
  rw [nw_I, nw_L, nw_R, if_pos rfl, if_pos rfl, if_pos rfl]
  cases hq : pm_ty a j <;> simp [pm_tg, hq] at h3 <;> rfl
/-- an array of numbers -/
theorem pm_newa {H : Heap} {locs : List Loc} {lr : Array Slot} {cells slots : Nat} {rest : List Value} {pc a : Nat} {h : pm_H} {t : ArrayType} {n : Int32} (hxe : p.tables.exec = Jvm.exec) (hb : c.code = mB y) (hK : va_K D cls_ (pm_tys cA) s)
    (hr : pm_Rel D cA (pm_ad b sz aS) sz Ls xs h H) (hS : va_S (fun q => sz ≤ q) s.heap H locs) (hx0 : hx h = 0) (hat : pm_at t = a) (ha : a < 104) (hw : (Cond.arrayClass (newarray.typeOf t)).before args s = true)
    (hn0 : ¬ n < 0) (hn1 : n.toNatClampNeg ≤ 100000) (hc : cells + 1 ≤ R.cells) (hs : slots + n.toNatClampNeg ≤ R.slots) (hdg : decode (mB y) pc = .ok (.newarray t, 2))
    (kk : ∀ H1 : Heap, pm_Rel D cA (pm_ad b sz aS) sz Ls xs (nw h a n.toNatClampNeg) H1 → va_S (fun q => sz ≤ q) s.heap H1 locs → W p l e R s m args below meth c H1 locs (cells + 1) (slots + n.toNatClampNeg) Z (F0 m (pc + 2) lr (.ref (pm_ad b sz aS (hn h)) :: rest))) :
    W p l e R s m args below meth c H locs cells slots Z (F0 m pc lr (.int n :: rest)) := by
  have h32 := hr.2.1.1
  have hs0 := hr.2.2.1 hx0
  have e0 : pm_ad b sz aS (hn h) = H.size := by rw [pm_ad_hi h32, hs0]
  rw [e0] at kk
  have key : ∃ k ty, a = 100 + k ∧ a < 104 ∧ newarray.typeOf t = ty ∧ (pm_tys cA)[k]? = some (cA a, ty) ∧ s.vm.findClass ("[" ++ ty.toString) = some (cA a) ∧ componentBytes ty ≤ 8 ∧ vp_cell (cA a) (n.toNatClampNeg, pm_ro (pm_ad b sz aS) (nw h a n.toNatClampNeg) (hn h)) = arrV (cA a) n.toNatClampNeg (fun _ => defaultValue ty) := by
    cases t <;> simp [pm_at] at hat <;> first | (subst hat; exfalso; omega) | skip
    · refine ⟨3, .boolean, by omega, by omega, rfl, by subst hat; rfl, by subst hat; exact (hK.2 3 _ rfl).2, by decide, ?_⟩
      subst hat
      rw [pm_ro_i (by rw [nw_T, if_pos rfl]; decide) (by rw [nw_T, if_pos rfl]; decide), nw_I, if_pos rfl]; rfl
    · refine ⟨2, .byte, by omega, by omega, rfl, by subst hat; rfl, by subst hat; exact (hK.2 2 _ rfl).2, by decide, ?_⟩
      subst hat
      rw [pm_ro_i (by rw [nw_T, if_pos rfl]; decide) (by rw [nw_T, if_pos rfl]; decide), nw_I, if_pos rfl]; rfl
    · refine ⟨0, .int, by omega, by omega, rfl, by subst hat; rfl, by subst hat; exact (hK.2 0 _ rfl).2, by decide, ?_⟩
      subst hat
      rw [pm_ro_i (by rw [nw_T, if_pos rfl]; decide) (by rw [nw_T, if_pos rfl]; decide), nw_I, if_pos rfl]; rfl
    · refine ⟨1, .long, by omega, by omega, rfl, by subst hat; rfl, by subst hat; exact (hK.2 1 _ rfl).2, by decide, ?_⟩
      subst hat
      rw [pm_ro_l (by rw [nw_T, if_pos rfl]), nw_L, if_pos rfl]; rfl
  obtain ⟨k, ty, q1, q2, q3, q4, q5, q6, q7⟩ := key
  rw [q3] at hw
  refine va_newaK (N := n.toNatClampNeg) hxe hb (by rw [q3]; exact hw) rfl hdg rfl hn0 rfl (by rw [q3]; exact Nat.le_trans (Nat.mul_le_mul hn1 q6) (by decide)) hc hs rfl fun H1 cA1 e1 z1 o1 hAr hNm => ?_
  rw [q3] at e1 hNm
  have ec : cA1 = cA a := Option.some.inj (hNm.symm.trans q5)
  subst ec
  refine kk H1 (hr.one hx0 (Or.inr (by omega)) z1 o1 ?_) (pm_S_new hS (by omega) o1)
  have e9 : pm_ent cA (pm_ad b sz aS) (nw h a n.toNatClampNeg) (hn h) = .inl (cA a, n.toNatClampNeg, pm_ro (pm_ad b sz aS) (nw h a n.toNatClampNeg) (hn h)) := by
    unfold pm_ent
    rw [nw_T, nw_N, if_pos rfl, if_pos rfl, if_neg (by omega)]
  rw [e9, e0]
  show H1[H.size]? = some (vp_cell (cA a) (n.toNatClampNeg, pm_ro (pm_ad b sz aS) (nw h a n.toNatClampNeg) (hn h)))
  rw [q7]
  exact e1
end PAL
