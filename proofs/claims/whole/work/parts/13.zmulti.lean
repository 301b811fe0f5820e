/-! ===== arrays of arrays ===== -/
theorem nwM_T (h : pm_H) (t t1 n k o : Nat) : hT (nwM h t t1 n k) o = if o = hn h then t else if hn h ≤ o ∧ o < hn h + 1 + n then t1 else hT h o := rfl
theorem nwM_N (h : pm_H) (t t1 n k o : Nat) : hN (nwM h t t1 n k) o = if o = hn h then n else if hn h ≤ o ∧ o < hn h + 1 + n then k else hN h o := rfl
theorem nwM_I (h : pm_H) (t t1 n k o : Nat) : hI (nwM h t t1 n k) o = if hn h ≤ o ∧ o < hn h + 1 + n then (fun _ => 0) else hI h o := rfl
theorem nwM_L (h : pm_H) (t t1 n k o : Nat) : hL (nwM h t t1 n k) o = if hn h ≤ o ∧ o < hn h + 1 + n then (fun _ => 0) else hL h o := rfl
theorem nwM_R (h : pm_H) (t t1 n k o : Nat) : hR (nwM h t t1 n k) o = if o = hn h then (fun i => if i < n then hn h + 1 + i else 0) else if hn h ≤ o ∧ o < hn h + 1 + n then (fun _ => 0) else hR h o := rfl
theorem nwM_n (h : pm_H) (t t1 n k : Nat) : hn (nwM h t t1 n k) = hn h + 1 + n := rfl
section PAM
variable {p : Program} {l : Launch} {e : Env} {R : Room} {s : State} {m : MethodId} {args : Array Value} {below : List Frame} {meth : Method} {c : Code} {Z : State → Prop}
variable {D : va_G} {cA : Nat → ClassId} {b sz Ls : Nat} {aS : Nat → Nat} {xs : Nat → Int32} {y : Nat}
theorem pm_Rel.many {h : pm_H} {H H1 : Heap} {t t1 n k : Nat} (hr : pm_Rel D cA (pm_ad b sz aS) sz Ls xs h H) (hx0 : hx h = 0) (ht : 104 ≤ t ∧ t < 106) (ht1 : 100 ≤ t1 ∧ t1 < 104) (z1 : H1.size = H.size + 1 + n) (o1 : ∀ q, q < H.size → H1[q]? = H[q]?)
    (hout : H1[H.size]? = some (vp_cell (cA t) (n, .inr (.inr (.inr (.inr (fun i => if i < n then some (H.size + 1 + i) else none)))))))
    (hrow : ∀ j, j < n → H1[H.size + 1 + j]? = some (vp_cell (cA t1) (k, if t1 = 101 then .inr (.inl (fun _ => 0)) else .inl (fun _ => 0)))) : pm_Rel D cA (pm_ad b sz aS) sz Ls xs (nwM h t t1 n k) H1 := by
  have h32 := hr.2.1.1
  have hs0 := hr.2.2.1 hx0
  have hP : va_P D cls_ (pm_ws cA (pm_ad b sz aS) (nwM h t t1 n k)) H1 := by
    intro i q hq
    by_cases hi : i < hn (nwM h t t1 n k) - 32
    · rw [pm_ws_at hi] at hq
      cases hq
      rw [nwM_n] at hi
      by_cases c1 : i + 32 < hn h
      · rw [pm_ent_congr (h := h) (by rw [nwM_I, if_neg (by omega)]) (by rw [nwM_L, if_neg (by omega)]) (by rw [nwM_R, if_neg (by omega), if_neg (by omega)]) (by rw [nwM_T, if_neg (by omega), if_neg (by omega)]) (by rw [nwM_N, if_neg (by omega), if_neg (by omega)])]
        have h9 := hr.1 i _ (pm_ws_at (by omega))
        exact h9.kept (o1 _ h9.lt)
      · by_cases c2 : i + 32 = hn h
        · have e9 : pm_ent cA (pm_ad b sz aS) (nwM h t t1 n k) (i + 32) = .inl (cA t, n, .inr (.inr (.inr (.inr (fun i => if i < n then some (H.size + 1 + i) else none))))) := by
            unfold pm_ent
            rw [nwM_T, if_pos c2, if_neg (by omega), nwM_N, if_pos c2, pm_ro_q (by rw [nwM_T, if_pos c2]; omega), nwM_R, if_pos c2]
            congr 7
            funext i
            unfold pm_rf
            by_cases ci : i < n
            · rw [if_pos ci, if_pos ci, if_neg (by omega), pm_ad_hi (by omega)]
              congr 1
              omega
            · rw [if_neg ci, if_neg ci, if_pos rfl]
          rw [e9, pm_ad_hi (by omega), show sz + (i + 32 - 32) = H.size by omega]
          exact hout
        · have e9 : pm_ent cA (pm_ad b sz aS) (nwM h t t1 n k) (i + 32) = .inl (cA t1, k, if t1 = 101 then .inr (.inl (fun _ => 0)) else .inl (fun _ => 0)) := by
            have hc : hn h ≤ i + 32 ∧ i + 32 < hn h + 1 + n := by omega
            have eT : hT (nwM h t t1 n k) (i + 32) = t1 := by rw [nwM_T, if_neg c2, if_pos hc]
            have eN : hN (nwM h t t1 n k) (i + 32) = k := by rw [nwM_N, if_neg c2, if_pos hc]
            have eI : hI (nwM h t t1 n k) (i + 32) = fun _ => 0 := by rw [nwM_I, if_pos hc]
            have eL : hL (nwM h t t1 n k) (i + 32) = fun _ => 0 := by rw [nwM_L, if_pos hc]
            unfold pm_ent
            rw [eT, if_neg (by omega), eN]
            unfold pm_ro
            rw [eT, eI, eL]
            by_cases c3 : t1 = 101
            · rw [if_pos c3, if_pos c3]
            · rw [if_neg c3, if_neg c3, if_neg (by omega)]
          rw [e9, pm_ad_hi (by omega), show sz + (i + 32 - 32) = H.size + 1 + (i + 32 - (hn h + 1)) by omega]
          exact hrow _ (by omega)
    · rw [pm_ws_none hi] at hq; cases hq
  refine ⟨hP, ⟨by rw [nwM_n]; omega, fun o => ?_⟩, fun _ => ?_, ?_, ?_⟩
  · rw [nwM_T, nwM_n]
    by_cases e1 : o = hn h
    · rw [if_pos e1]
      refine ⟨fun q => ?_, fun q1 q2 => ?_, fun q => ?_⟩ <;> omega
    · rw [if_neg e1]
      by_cases e2 : hn h ≤ o ∧ o < hn h + 1 + n
      · rw [if_pos e2]
        refine ⟨fun q => ?_, fun q1 q2 => ?_, fun q => ?_⟩ <;> omega
      · rw [if_neg e2]
        obtain ⟨h1, h2, h3⟩ := hr.2.1.2 o
        refine ⟨fun q => ?_, fun q1 q2 => ?_, h3⟩
        · have := h1 q; omega
        · have := h2 q1 q2; omega
  · rw [nwM_n, z1]; omega
  · rw [nwM_n, z1]; omega
  · rw [nwM_T, nwM_N, nwM_I, if_neg (by omega), if_neg (by omega), if_neg (by omega), if_neg (by omega), if_neg (by omega)]
    exact hr.2.2.2.2
theorem pm_mna {H : Heap} {locs : List Loc} {lr : Array Slot} {cells slots : Nat} {rest : List Value} {pc t t1 k0 k1 ix : Nat} {ty : FieldType} {h : pm_H} {n k : Int32} (hxe : p.tables.exec = Jvm.exec) (hb : c.code = mB y) (hown : s.vm.findClass (mC y) = some m.cls) (hK : va_K D cls_ (pm_tys cA) s)
    (hr : pm_Rel D cA (pm_ad b sz aS) sz Ls xs h H) (hS : va_S (fun q => sz ≤ q) s.heap H locs) (hx0 : hx h = 0) (ht : 104 ≤ t ∧ t < 106) (ht1 : 100 ≤ t1 ∧ t1 < 104)
    (hclink : (Cond.classLink (mC y) ix ("[" ++ (FieldType.array ty).toString)).before args s = true) (hover : va_AOA ty s) (harr : (Cond.arrayClass ty).before args s = true)
    (q0 : (pm_tys cA)[k0]? = some (cA t, .array ty)) (q1 : (pm_tys cA)[k1]? = some (cA t1, ty)) (hra : va_RA s (cA t1) ty → s.vm.findClass (FieldType.array ty).toString = some (cA t1))
    (hn0 : ¬ n < 0) (hk0 : ¬ k < 0) (hn1 : n.toNatClampNeg ≤ 100000) (hk1 : k.toNatClampNeg ≤ 100000) (hcb : componentBytes ty ≤ 8) (hdf : fits ty (defaultValue ty) = true) (hdd : (defaultValue ty).isDefault = true)
    (hz : ∀ c : ClassId, Jvm.Free.Multi.innerC c k.toNatClampNeg (defaultValue ty) = vp_cell c (k.toNatClampNeg, if t1 = 101 then .inr (.inl (fun _ => 0)) else .inl (fun _ => 0)))
    (hc : cells + (1 + n.toNatClampNeg) ≤ R.cells) (hs : slots + (n.toNatClampNeg + n.toNatClampNeg * k.toNatClampNeg) ≤ R.slots) (hdg : decode (mB y) pc = .ok (.multianewarray ix 2, 4))
    (kk : ∀ H1 : Heap, pm_Rel D cA (pm_ad b sz aS) sz Ls xs (nwM h t t1 n.toNatClampNeg k.toNatClampNeg) H1 → va_S (fun q => sz ≤ q) s.heap H1 locs → W p l e R s m args below meth c H1 locs (cells + 1 + n.toNatClampNeg) (slots + n.toNatClampNeg + n.toNatClampNeg * k.toNatClampNeg) Z (F0 m (pc + 4) lr (.ref (pm_ad b sz aS (hn h)) :: rest))) :
    W p l e R s m args below meth c H locs cells slots Z (F0 m pc lr (.int k :: .int n :: rest)) := by
  have h32 := hr.2.1.1
  have hs0 := hr.2.2.1 hx0
  have e0 : pm_ad b sz aS (hn h) = H.size := by rw [pm_ad_hi h32, hs0]
  rw [e0] at kk
  intro T hT Xs
  obtain ⟨vm₁, cB, comp, -, fA, fC, hO, -, X', step⟩ := Xs.multianewarray2F hxe hown hclink (va_AOA.use hover) harr (g := F0 m pc lr (.int k :: .int n :: rest)) rfl (by rw [hb]; exact hdg) rfl hn0 hk0 (by omega) (Nat.le_trans (Nat.mul_le_mul hk1 hcb) (by decide)) (by omega) hdf hdd hc hs
  have ec : cA t1 = comp := Option.some.inj ((hra (hK.2 k1 _ q1).2).symm.trans fC)
  have eo : cA t = cB := Option.some.inj (((hK.2 k0 _ q0).2 : s.vm.findClass ("[" ++ (FieldType.array ty).toString) = some (cA t)).symm.trans fA)
  subst ec
  subst eo
  generalize hF : Jvm.Free.Multi.fill (T.setVm vm₁) (cA t) (cA t1) n.toNatClampNeg k.toNatClampNeg (defaultValue ty) n.toNatClampNeg = F at X' step
  have hTh : (T.setVm vm₁).heap = H := hT
  obtain ⟨f1, f2, -, -⟩ := Jvm.Free.Multi.fill_facts (T.setVm vm₁) (cA t) (cA t1) n.toNatClampNeg k.toNatClampNeg (defaultValue ty) n.toNatClampNeg
  rw [hF, hTh] at f1 f2
  have hold : ∀ x : Nat, x < H.size → F.heap[x]? = H[x]? := fun x hx => by
    have := Jvm.Free.Multi.fill_old (T.setVm vm₁) (cA t) (cA t1) n.toNatClampNeg k.toNatClampNeg (defaultValue ty) (a := x) (by rw [hTh]; exact hx) n.toNatClampNeg
    rw [hF, hTh] at this
    exact this
  have hrow : ∀ j : Nat, j < n.toNatClampNeg → F.heap[H.size + 1 + j]? = some (vp_cell (cA t1) (k.toNatClampNeg, if t1 = 101 then .inr (.inl (fun _ => 0)) else .inl (fun _ => 0))) := fun j hj => by
    have := Jvm.Free.Multi.fill_inner (T.setVm vm₁) (cA t) (cA t1) n.toNatClampNeg k.toNatClampNeg (defaultValue ty) n.toNatClampNeg j hj
    rw [hF, hTh, hz] at this
    exact this
  have hout : Jvm.Free.Multi.outerC (cA t) n.toNatClampNeg H.size n.toNatClampNeg = vp_cell (cA t) (n.toNatClampNeg, .inr (.inr (.inr (.inr (fun i => if i < n.toNatClampNeg then some (H.size + 1 + i) else none))))) := by
    rw [vp_cell_q]
    exact vr_outer (cA t) n.toNatClampNeg H.size n.toNatClampNeg
  rw [hout] at f2
  obtain ⟨t9, a1, b1⟩ := kk F.heap (hr.many hx0 ht ht1 (by rw [f1]) hold f2 hrow) (pm_S_new hS (by rw [f1]; omega) hold) F rfl X'
  refine ⟨t9, step t9 ?_, b1⟩
  have e : T.heap.size = H.size := by rw [hT]
  rw [e]
  exact a1
end PAM
