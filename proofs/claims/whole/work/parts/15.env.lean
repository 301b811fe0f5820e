/-! ===== what a method stands on goes along to those that it calls ===== -/
theorem pm_over {ty : FieldType} {u : State} (h : va_AOA ty u) : ∃ comp c k, u.vm.findClass (FieldType.array ty).toString = some comp ∧ (u.vm.classes.findIdx? fun x => match x.kind with | .array component _ => component == comp | _ => false) = some c ∧ u.vm.classes[c]? = some k ∧ k.kind = .array comp (.array ty) ∧ u.vm.findClass ("[" ++ (FieldType.array ty).toString) = some c := by
  unfold va_AOA Cond.before at h
  simp only [Cond.holds, Cond.value, beq_iff_eq] at h
  cases hc : u.vm.findClass (FieldType.array ty).toString with
  | none => simp [hc] at h
  | some comp =>
    simp only [hc, Option.bind_some, Option.bind_eq_some_iff, Option.map_eq_some_iff] at h
    obtain ⟨c, hi, k, hk, hb⟩ := h
    obtain ⟨hlt, hp, -⟩ := Array.findIdx?_eq_some_iff_getElem.mp hi
    have hkk : u.vm.classes[c] = k := (Array.getElem?_eq_some_iff.mp hk).2
    rw [hkk] at hp
    cases hkind : k.kind with
    | array component t9 =>
      rw [hkind] at hb hp
      simp at hb hp
      exact ⟨comp, c, k, rfl, hi, hk, by rw [hkind, hp, hb.1], hb.2⟩
    | _ => rw [hkind] at hb; simp at hb
theorem va_AOA.moved {ty : FieldType} {u U : State} (hvm : u.vm.Alike U.vm) (h : va_AOA ty u) : va_AOA ty U := by
  obtain ⟨comp, c, k, h1, h2, h3, h4, h5⟩ := pm_over h
  obtain ⟨k', hk', he⟩ := hvm.2.2 _ _ h3
  have hi : (U.vm.classes.findIdx? fun (x : Class) => match x.kind with | .array component _ => component == comp | _ => false) = some c := by
    rw [hvm.findIdx?_eqK _ (fun _ => rfl)]
    exact h2
  have hkind : k'.kind = .array comp (.array ty) := by rw [he]; exact h4
  have f1 : U.vm.findClass (FieldType.array ty).toString = some comp := by rw [hvm.findClass]; exact h1
  have f2 : U.vm.findClass ("[" ++ (FieldType.array ty).toString) = some c := by rw [hvm.findClass]; exact h5
  unfold va_AOA Cond.before
  simp only [Cond.holds, Cond.value, f1, Option.bind_some, beq_iff_eq]
  rw [Option.bind_eq_some_iff]
  refine ⟨c, hi, ?_⟩
  simp [hk', hkind, f2]
theorem pm_Cst.to {b sz Ls : Nat} {aS : Nat → Nat} {xs : Nat → Int32} {s U : State} {H H0 : Heap} {locs : List Loc} (hW : s.WarmedH U.vm) (hS : va_S (fun q => sz ≤ q) H0 H locs) (h : pm_Cst b sz aS Ls xs s H0) : pm_Cst b sz aS Ls xs U H := by
  obtain ⟨h1, h2, h3, h4, h5, h6, h7, h8, h9, h10⟩ := h
  refine ⟨fun i hi hj => ?_, (vx_Zq.moved hW.alike h2).kept hS.2.1, (vx_Zq.moved hW.alike h3).kept hS.2.1, (va_Z.moved hW.alike h4).kept hS.2.1, va_AOA.moved hW.alike h5, va_AOA.moved hW.alike h6, ?_, h8, (va_Zq.moved hW.alike h9).kept hS.2.1, fun i j hi hj hij => va_Nc.moved hW.alike (h10 i j hi hj hij)⟩
  · obtain ⟨av, g1, g2, g3, g4, g5⟩ := h1 i hi hj
    exact ⟨av, g1.warm hW, (va_O.moved hW.alike g2).kept hS.2.1, (va_OF.moved hW.alike g3).kept hS.2.1, (va_OF.moved hW.alike g4).kept hS.2.1, (va_T.moved hW.alike g5).kept hS.2.1⟩
  · obtain ⟨scr, k1, k2, k3, k4, k5⟩ := h7
    have hb : b < H0.size := (Array.getElem?_eq_some_iff.mp k1).1
    exact ⟨scr, by rw [hS.2.1 b hb (by omega)]; exact k1, State.isArrayOf_alike hW.alike k2, k3, k4, k5⟩
/-- what holds when a method begins, the pure heap being h -/
def pm_Inv (D : va_G) (cA : Nat → ClassId) (b sz Ls : Nat) (aS : Nat → Nat) (xs : Nat → Int32) (h : pm_H) (U : State) : Prop :=
  pm_Tb U ∧ va_K D cls_ (pm_tys cA) U ∧ pm_Cst b sz aS Ls xs U U.heap ∧ sz ≤ U.heap.size ∧ pm_Rel D cA (pm_ad b sz aS) sz Ls xs h U.heap
def pm_Pc (D : va_G) (cA : Nat → ClassId) (b sz Ls : Nat) (aS : Nat → Nat) (xs : Nat → Int32) (as : List Value) (h : pm_H) : Array Value → State → Prop := fun v U => v = (as.map (vmv (pm_ad b sz aS))).toArray ∧ pm_Inv D cA b sz Ls aS xs h U
def pm_Qc (D : va_G) (cA : Nat → ClassId) (b sz Ls : Nat) (aS : Nat → Nat) (xs : Nat → Int32) (Q : pm_Q) : Array Value → State → Outcome → State → Prop := fun _ st o t =>
  (∃ (r : Option Value) (h' : pm_H), o = .returned (r.map (vmv (pm_ad b sz aS))) ∧ Q (.inl r) h' ∧ pm_Rel D cA (pm_ad b sz aS) sz Ls xs h' t.heap) ∧ va_F (fun q => sz ≤ q) st t
def pm_XC (D : va_G) (cA : Nat → ClassId) (b sz Ls : Nat) (aS : Nat → Nat) (xs : Nat → Int32) (Q : pm_Q) : String → State → State → Prop := fun E st t =>
  (∃ (n : Nat) (h' : pm_H), n < 4 ∧ E = exN n ∧ Q (.inr n) h' ∧ pm_Rel D cA (pm_ad b sz aS) sz Ls xs h' t.heap) ∧ va_F (fun q => sz ≤ q) st t
def pm_rm (d a : Nat) : Room := { frames := 10 + d, cells := pm_bc a, slots := pm_bs a, locals := 200 + 60 * d }
def pm_wd (a : Nat) : Cond := if mHH a = [] then .code (mY a) (mB a) (pm_mx a) (mR a) else .codeWith (mY a) (mB a) (pm_mx a) (mR a) (mHH a)
/-- a method's contract: from h, with these arguments, it ends as Q says -/
def pm_Met (l : Launch) (D : va_G) (cA : Nat → ClassId) (b sz Ls : Nat) (aS : Nat → Nat) (xs : Nat → Int32) (d a : Nat) (as : List Value) (h : pm_H) (Q : pm_Q) : Prop :=
  vx_Met l (mY a) [pm_wd a] (pm_rm d a) (pm_Pc D cA b sz Ls aS xs as h) (pm_Qc D cA b sz Ls aS xs Q) (pm_XC D cA b sz Ls aS xs Q) (pm_bc a) (pm_bs a) (fun q => sz ≤ q)
theorem pm_blind {D : va_G} {cA : Nat → ClassId} {b sz Ls : Nat} {aS : Nat → Nat} {xs : Nat → Int32} {as : List Value} {h : pm_H} : FrameBlind (pm_Pc D cA b sz Ls aS xs as h) := by
  intro a U g mk ⟨h1, h2, h3, h4, h5, h6⟩
  have hW : U.WarmedH (U.calling g mk a).vm := State.WarmedH.refl U
  exact ⟨h1, h2.warm hW, va_K.moved hW.alike h3, h4.to (locs := []) hW va_S.rf, h5, h6⟩
theorem pm_pop_eq : ∀ (n : Nat) (st acc as : List Value) (r : pm_S), pm_pop n st acc = some (as, r) → ∃ us : List Value, us.length = n ∧ st = us ++ r ∧ as = us.reverse ++ acc := by
  intro n
  induction n with
  | zero =>
    intro st acc as r h
    simp only [pm_pop] at h
    cases h
    exact ⟨[], rfl, rfl, rfl⟩
  | succ n ih =>
    intro st acc as r h
    cases st with
    | nil => simp [pm_pop] at h
    | cons v st =>
      rw [pm_pop] at h
      obtain ⟨us, h1, h2, h3⟩ := ih st (v :: acc) as r h
      exact ⟨v :: us, by simp [h1], by simp [h2], by simp [h3]⟩
section PRN
variable {p : Program} {l : Launch} {e : Env} {R : Room} {s : State} {m : MethodId} {args : Array Value} {below : List Frame} {meth : Method} {c : Code} {Z : State → Prop}
variable {D : va_G} {cA : Nat → ClassId} {b sz Ls : Nat} {aS : Nat → Nat} {xs : Nat → Int32} {y MC MS d : Nat}
/-- how a call goes on -/
theorem pm_cont {H : Heap} {locs : List Loc} {cells slots mc ms pc : Nat} {lr : Array Slot} {st0 rest : List Value} {k : pm_Q} {a9 : Array Value} (hS : va_S (fun q => sz ≤ q) s.heap H locs)
    (hr : vx_Run p l e R s m args below meth c H locs cells slots mc ms (F0 m pc lr st0) rest (pm_Qc D cA b sz Ls aS xs k a9) (pm_XC D cA b sz Ls aS xs k) (fun q => sz ≤ q))
    (kk : ∀ (r : Option Value) (h' : pm_H) (H1 : Heap) (locs1 : List Loc), k (.inl r) h' → pm_Rel D cA (pm_ad b sz aS) sz Ls xs h' H1 → va_S (fun q => sz ≤ q) s.heap H1 locs1 → W p l e R s m args below meth c H1 locs1 (cells + mc) (slots + ms) Z (F0 m (pc + 3) lr ((r.map (vmv (pm_ad b sz aS))).toList ++ rest)))
    (kx : ∀ (n : Nat) (h' : pm_H) (H1 : Heap) (locs1 : List Loc) (q9 : Addr) (ce : Cell), n < 4 → k (.inr n) h' → pm_Rel D cA (pm_ad b sz aS) sz Ls xs h' H1 → va_S (fun q => sz ≤ q) s.heap H1 locs1 → H1[q9]? = some ce → ce.vm = .none → s.vm.findClass (exN n) = some ce.cls →
      vx_W p l e R s m args below meth c H1 locs1 (cells + mc) (slots + ms) Z (F0 m pc lr rest) q9) : W p l e R s m args below meth c H locs cells slots Z (F0 m pc lr st0) := by
  intro T hT X
  rcases hr T hT X with ⟨v, st₀, t, T', L, h0, X', hL, e1, e2, ⟨⟨r, h', hv, hk, hR⟩, hF⟩, st⟩ | ⟨q, st₀, t, T', L, E, ce, h0, X', hL, e1, e2, ⟨⟨n, h', hn, hE, hk, hR⟩, hF⟩, hce, hcv, hcl, st⟩
  · cases hv
    obtain ⟨k1, k2, k3⟩ := vx_keep h0 e1 hS (fun q _ z => z) (fun q z => z) hL hF
    obtain ⟨t2, a1, b1⟩ := kk r h' T'.heap (locs ++ L) hk (by rw [e1]; exact hR) k3 T' rfl X'
    exact ⟨t2, st t2 a1, b1⟩
  · obtain ⟨k1, k2, k3⟩ := vx_keep h0 e1 hS (fun q _ z => z) (fun q z => z) hL hF
    subst hE
    obtain ⟨t2, a1, b1⟩ := kx n h' T'.heap (locs ++ L) q ce hn hk (by rw [e1]; exact hR) k3 (by rw [e1]; exact hce) hcv hcl T' rfl X'
    exact ⟨t2, st.trans a1, b1⟩
end PRN
