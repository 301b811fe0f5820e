/-! ===== HOW THE PURE HEAP LIES IN THE MACHINE'S ===== -/
/-- where a handle lies: the script, the strings, then what is made, one behind another from sz on -/
def pm_ad (b sz : Nat) (aS : Nat → Nat) (k : Nat) : Nat := if k = 0 then b else if k < 32 then aS k else sz + (k - 32)
theorem pm_ad_hi {b sz : Nat} {aS : Nat → Nat} {k : Nat} (h : 32 ≤ k) : pm_ad b sz aS k = sz + (k - 32) := by
  unfold pm_ad
  rw [if_neg (by omega), if_neg (by omega)]
def vmv (ad : Nat → Nat) (v : Value) : Value := match v with
  | .ref k => .ref (ad k)
  | w => w
theorem vmv_cat (ad : Nat → Nat) (v : Value) : (vmv ad v).category = v.category := by cases v <;> rfl
def las (ad : Nat → Nat) : Nat → pm_L → List (Nat × Value)
  | _, [] => []
  | i, none :: l => las ad (i + 1) l
  | i, some v :: l => (i, vmv ad v) :: las ad (i + 1) l
theorem las_mem {ad : Nat → Nat} : ∀ (l : pm_L) (i : Nat) (q : Nat × Value), q ∈ las ad i l ↔ ∃ v, i ≤ q.1 ∧ lg l (q.1 - i) = some v ∧ q.2 = vmv ad v := by
  intro l
  induction l with
  | nil => intro i q; simp [las, lg]
  | cons x l ih =>
    intro i q
    have key : ∀ v, (i ≤ q.1 ∧ lg (x :: l) (q.1 - i) = some v ∧ q.2 = vmv ad v) ↔ ((q.1 = i ∧ x = some v ∧ q.2 = vmv ad v) ∨ (i + 1 ≤ q.1 ∧ lg l (q.1 - (i + 1)) = some v ∧ q.2 = vmv ad v)) := by
      intro v
      by_cases e : q.1 = i
      · rw [show q.1 - i = 0 by omega]
        simp only [lg]
        constructor
        · rintro ⟨-, h2, h3⟩; exact Or.inl ⟨e, h2, h3⟩
        · rintro (⟨-, h2, h3⟩ | ⟨h1, -⟩)
          · exact ⟨by omega, h2, h3⟩
          · omega
      · constructor
        · rintro ⟨h1, h2, h3⟩
          rw [show q.1 - i = (q.1 - (i + 1)) + 1 by omega] at h2
          exact Or.inr ⟨by omega, h2, h3⟩
        · rintro (⟨h1, -⟩ | ⟨h1, h2, h3⟩)
          · exact absurd h1 e
          · refine ⟨by omega, ?_, h3⟩
            rw [show q.1 - i = (q.1 - (i + 1)) + 1 by omega]
            exact h2
    cases x with
    | none =>
      rw [las, ih]
      constructor
      · rintro ⟨v, h⟩; exact ⟨v, (key v).mpr (Or.inr h)⟩
      · rintro ⟨v, h⟩
        rcases (key v).mp h with ⟨-, h2, -⟩ | h
        · cases h2
        · exact ⟨v, h⟩
    | some w =>
      rw [las, List.mem_cons, ih]
      constructor
      · rintro (rfl | ⟨v, h⟩)
        · exact ⟨w, (key w).mpr (Or.inl ⟨rfl, rfl, rfl⟩)⟩
        · exact ⟨v, (key v).mpr (Or.inr h)⟩
      · rintro ⟨v, h⟩
        rcases (key v).mp h with ⟨h1, h2, h3⟩ | h
        · cases h2; exact Or.inl (Prod.ext h1 h3)
        · exact Or.inr ⟨v, h⟩
theorem lg_ls1 : ∀ (l : pm_L) (a j : Nat) (x : Option Value), a < l.length → lg (ls1 l a x) j = if j = a then x else if j + 1 = a then lq (lg l j) else lg l j := by
  intro l
  induction l with
  | nil => intro a j x h; simp at h
  | cons y l ih =>
    intro a j x h
    match a, j with
    | 0, 0 => simp [ls1, lg]
    | 0, j + 1 => simp [ls1, lg]
    | 1, 0 => simp [ls1, lg]
    | 1, j + 1 => rw [ls1, lg, ih 0 j x (by simp at h; omega)]; simp [lg]
    | n + 2, 0 => simp [ls1, lg]
    | n + 2, j + 1 => rw [ls1, lg, ih (n + 1) j x (by simp at h; omega)]; simp [lg]
theorem ls1_len : ∀ (l : pm_L) (a : Nat) (x : Option Value), (ls1 l a x).length = l.length := by
  intro l
  induction l with
  | nil => intro a x; simp [ls1]
  | cons y l ih =>
    intro a x
    match a with
    | 0 => simp [ls1]
    | 1 => simp [ls1, ih]
    | n + 2 => simp [ls1, ih]
theorem lg_ls2 : ∀ (l : pm_L) (a j : Nat) (x : Value), a + 1 < l.length → lg (ls2 l a x) j = if j = a then some x else if j = a + 1 then none else if j + 1 = a then lq (lg l j) else lg l j := by
  intro l
  induction l with
  | nil => intro a j x h; simp at h
  | cons y l ih =>
    intro a j x h
    match a, l, j with
    | 0, [], _ => simp at h
    | 0, z :: l, 0 => simp [ls2, lg]
    | 0, z :: l, 1 => simp [ls2, lg]
    | 0, z :: l, j + 2 => simp [ls2, lg]
    | 1, l, 0 => simp [ls2, lg]
    | 1, l, j + 1 => rw [ls2, lg, ih 0 j x (by simp at h; omega)]; simp [lg]
    | n + 2, l, 0 => simp [ls2, lg]
    | n + 2, l, j + 1 => rw [ls2, lg, ih (n + 1) j x (by simp at h; omega)]; simp [lg]
theorem ls2_len : ∀ (l : pm_L) (a : Nat) (x : Value), (ls2 l a x).length = l.length := by
  intro l
  induction l with
  | nil => intro a x; simp [ls2]
  | cons y l ih =>
    intro a x
    match a, l with
    | 0, [] => simp [ls2]
    | 0, z :: l => simp [ls2]
    | 1, l => simp [ls2, ih]
    | n + 2, l => simp [ls2, ih]
theorem lq_some {x : Option Value} {w : Value} (h : lq x = some w) : x = some w ∧ w.category ≠ 2 := by
  cases x with
  | none => simp [lq] at h
  | some v => cases v <;> simp [lq] at h <;> (subst h; simp [Value.category])
/-- a local that is read -/
theorem las_at {ad : Nat → Nat} {lr : Array Slot} {mx : Nat} {ls : pm_L} {a : Nat} {v : Value} (h : lv_has lr mx (las ad 0 ls)) (hv : lg ls a = some v) : lr[a]? = some (.val (vmv ad v)) :=
  h.2.2 (a, vmv ad v) ((las_mem ls 0 (a, vmv ad v)).mpr ⟨v, Nat.zero_le _, hv, rfl⟩)
theorem las_st1 {ad : Nat → Nat} {lr : Array Slot} {mx : Nat} {ls : pm_L} {a : Nat} {w : Value} {x : Option Value} (hx : ∀ v, x = some v → vmv ad v = w) (ha : a < ls.length)
    (h : lv_has lr mx ((a, w) :: (las ad 0 ls).filter (fun q => !(q.1 == a) && !(q.1 + 1 == a && q.2.category == 2)))) : lv_has lr mx (las ad 0 (ls1 ls a x)) := by
  refine ⟨h.1, h.2.1, fun q hq => h.2.2 q ?_⟩
  obtain ⟨v, -, h2, h3⟩ := (las_mem _ _ _).mp hq
  rw [Nat.sub_zero, lg_ls1 _ _ _ _ ha] at h2
  by_cases e : q.1 = a
  · rw [if_pos e] at h2
    exact List.mem_cons.mpr (Or.inl (Prod.ext e (by rw [h3, hx v h2])))
  · rw [if_neg e] at h2
    refine List.mem_cons_of_mem _ (List.mem_filter.mpr ?_)
    by_cases e2 : q.1 + 1 = a
    · rw [if_pos e2] at h2
      obtain ⟨h4, h5⟩ := lq_some h2
      refine ⟨(las_mem _ _ _).mpr ⟨v, Nat.zero_le _, by rw [Nat.sub_zero]; exact h4, h3⟩, ?_⟩
      simp [e, h3, vmv_cat, h5]
    · rw [if_neg e2] at h2
      refine ⟨(las_mem _ _ _).mpr ⟨v, Nat.zero_le _, by rw [Nat.sub_zero]; exact h2, h3⟩, ?_⟩
      simp [e, e2]
theorem las_st2 {ad : Nat → Nat} {lr : Array Slot} {mx : Nat} {ls : pm_L} {a : Nat} {w : Value} (ha : a + 1 < ls.length)
    (h : lv_has lr mx ((a, vmv ad w) :: (las ad 0 ls).filter (fun q => !(q.1 == a) && (!(q.1 == a + 1) && !(q.1 + 1 == a && q.2.category == 2))))) : lv_has lr mx (las ad 0 (ls2 ls a w)) := by
  refine ⟨h.1, h.2.1, fun q hq => h.2.2 q ?_⟩
  obtain ⟨v, -, h2, h3⟩ := (las_mem _ _ _).mp hq
  rw [Nat.sub_zero, lg_ls2 _ _ _ _ ha] at h2
  by_cases e : q.1 = a
  · rw [if_pos e] at h2
    cases h2
    exact List.mem_cons.mpr (Or.inl (Prod.ext e h3))
  · rw [if_neg e] at h2
    by_cases e1 : q.1 = a + 1
    · rw [if_pos e1] at h2; cases h2
    · rw [if_neg e1] at h2
      refine List.mem_cons_of_mem _ (List.mem_filter.mpr ?_)
      by_cases e2 : q.1 + 1 = a
      · rw [if_pos e2] at h2
        obtain ⟨h4, h5⟩ := lq_some h2
        refine ⟨(las_mem _ _ _).mpr ⟨v, Nat.zero_le _, by rw [Nat.sub_zero]; exact h4, h3⟩, ?_⟩
        simp [e, e1, h3, vmv_cat, h5]
      · rw [if_neg e2] at h2
        refine ⟨(las_mem _ _ _).mpr ⟨v, Nat.zero_le _, by rw [Nat.sub_zero]; exact h2, h3⟩, ?_⟩
        simp [e, e1, e2]
/-- the cells -/
def pm_rf (ad : Nat → Nat) (r : Nat) : Option Nat := if r = 0 then none else some (ad r)
def pm_fv (ad : Nat → Nat) (h : pm_H) (k j : Nat) (ty : FieldType) : Value := if pm_tg ty = 0 then .int (hI h k j) else if pm_tg ty = 1 then .long (hL h k j) else va_rf (pm_rf ad (hR h k j))
def pm_ro (ad : Nat → Nat) (h : pm_H) (k : Nat) : (Nat → Int32) ⊕ (Nat → Int64) ⊕ (Nat → UInt32) ⊕ (Nat → UInt64) ⊕ (Nat → Option Nat) :=
  if hT h k = 101 then .inr (.inl (hL h k)) else if 104 ≤ hT h k then .inr (.inr (.inr (.inr (fun i => pm_rf ad (hR h k i))))) else .inl (hI h k)
def pm_ent (cA : Nat → ClassId) (ad : Nat → Nat) (h : pm_H) (k : Nat) : va_E :=
  if hT h k < 100 then .inr (hT h k, (List.range (pm_nf (hT h k))).map fun j => pm_fv ad h k j (pm_ty (hT h k) j)) else .inl (cA (hT h k), hN h k, pm_ro ad h k)
def pm_ws (cA : Nat → ClassId) (ad : Nat → Nat) (h : pm_H) : va_W := (List.range (hn h - 32)).map fun i => (ad (i + 32), pm_ent cA ad h (i + 32))
theorem pm_ent_congr {cA : Nat → ClassId} {ad : Nat → Nat} {h h' : pm_H} {k : Nat} (e1 : hI h' k = hI h k) (e2 : hL h' k = hL h k) (e3 : hR h' k = hR h k) (e4 : hT h' k = hT h k) (e5 : hN h' k = hN h k) : pm_ent cA ad h' k = pm_ent cA ad h k := by
  unfold pm_ent pm_ro pm_fv
  rw [e1, e2, e3, e4, e5]
theorem pm_ws_get {cA : Nat → ClassId} {ad : Nat → Nat} {h : pm_H} {k : Nat} (h1 : 32 ≤ k) (h2 : k < hn h) : (pm_ws cA ad h)[k - 32]? = some (ad k, pm_ent cA ad h k) := by
  unfold pm_ws
  rw [List.getElem?_map, List.getElem?_range (by omega)]
  show some (ad (k - 32 + 32), pm_ent cA ad h (k - 32 + 32)) = _
  rw [show k - 32 + 32 = k by omega]
theorem pm_ws_len {cA : Nat → ClassId} {ad : Nat → Nat} {h : pm_H} : (pm_ws cA ad h).length = hn h - 32 := by simp [pm_ws]
theorem pm_ws_none {cA : Nat → ClassId} {ad : Nat → Nat} {h : pm_H} {i : Nat} (h2 : ¬ i < hn h - 32) : (pm_ws cA ad h)[i]? = none := List.getElem?_eq_none (by rw [pm_ws_len]; omega)
theorem pm_ws_at {cA : Nat → ClassId} {ad : Nat → Nat} {h : pm_H} {i : Nat} (h2 : i < hn h - 32) : (pm_ws cA ad h)[i]? = some (ad (i + 32), pm_ent cA ad h (i + 32)) := by
  have := pm_ws_get (cA := cA) (ad := ad) (h := h) (k := i + 32) (by omega) (by omega)
  rwa [show i + 32 - 32 = i by omega] at this
theorem pm_ws_set {cA : Nat → ClassId} {ad : Nat → Nat} {h h' : pm_H} {k : Nat} (h1 : 32 ≤ k) (h2 : k < hn h) (e : hn h' = hn h) (he : ∀ j, j ≠ k → pm_ent cA ad h' j = pm_ent cA ad h j) : (pm_ws cA ad h).set (k - 32) (ad k, pm_ent cA ad h' k) = pm_ws cA ad h' := by
  apply List.ext_getElem?
  intro i
  by_cases hi : i < hn h - 32
  · rw [pm_ws_at (h := h') (by omega), List.getElem?_set]
    by_cases ei : k - 32 = i
    · rw [if_pos ei, if_pos (by rw [pm_ws_len]; omega), show i + 32 = k by omega]
    · rw [if_neg ei, pm_ws_at hi, he (i + 32) (by omega)]
  · rw [pm_ws_none (h := h') (by omega), List.getElem?_set]
    rw [if_neg (by omega), pm_ws_none hi]
theorem pm_ws_app {cA : Nat → ClassId} {ad : Nat → Nat} {h h' : pm_H} (h1 : 32 ≤ hn h) (e : hn h' = hn h + 1) (he : ∀ j, j < hn h → pm_ent cA ad h' j = pm_ent cA ad h j) : pm_ws cA ad h ++ [(ad (hn h), pm_ent cA ad h' (hn h))] = pm_ws cA ad h' := by
  apply List.ext_getElem?
  intro i
  by_cases hi : i < hn h - 32
  · rw [pm_ws_at (h := h') (by omega), List.getElem?_append_left (by rw [pm_ws_len]; exact hi), pm_ws_at hi, he (i + 32) (by omega)]
  · by_cases ei : i = hn h - 32
    · rw [pm_ws_at (h := h') (by omega), List.getElem?_append_right (by rw [pm_ws_len]; omega), pm_ws_len, ei, Nat.sub_self, show hn h - 32 + 32 = hn h by omega]
      rfl
    · rw [pm_ws_none (h := h') (by omega), List.getElem?_eq_none (by rw [List.length_append, pm_ws_len, List.length_singleton]; omega)]
theorem pm_D {cA : Nat → ClassId} {b sz : Nat} {aS : Nat → Nat} {h : pm_H} : va_D (fun q => sz ≤ q) (pm_ws cA (pm_ad b sz aS) h) := by
  have key : ∀ (i : Nat) (x : Nat × va_E), (pm_ws cA (pm_ad b sz aS) h)[i]? = some x → x.1 = sz + i := by
    intro i x hx
    by_cases hi : i < hn h - 32
    · rw [pm_ws_at hi] at hx
      cases hx
      show pm_ad b sz aS (i + 32) = _
      rw [pm_ad_hi (by omega)]
      omega
    · rw [pm_ws_none hi] at hx; cases hx
  refine ⟨fun i j x y hi hj e => ?_, fun k x hk => ?_⟩
  · rw [key i x hi, key j y hj] at e; omega
  · show sz ≤ x.1; rw [key k x hk]; omega
/-- the tags are right -/
def pm_wf (h : pm_H) : Prop := 32 ≤ hn h ∧ ∀ o, (hT h o < 100 → 32 ≤ o ∧ o < hn h ∧ hT h o < 11) ∧ (100 ≤ hT h o → hT h o < 110 → 32 ≤ o ∧ o < hn h ∧ hT h o < 106) ∧ (hT h o = 110 → o = 0)
def pm_Rel (D : va_G) (cA : Nat → ClassId) (ad : Nat → Nat) (sz Ls : Nat) (xs : Nat → Int32) (h : pm_H) (H : Heap) : Prop :=
  va_P D cls_ (pm_ws cA ad h) H ∧ pm_wf h ∧ (hx h = 0 → H.size = sz + (hn h - 32)) ∧ sz + (hn h - 32) ≤ H.size ∧ (hT h 0 = 110 → hN h 0 = Ls ∧ hI h 0 = xs)
def pm_tys (cA : Nat → ClassId) : List (ClassId × FieldType) := [(cA 100, .int), (cA 101, .long), (cA 102, .byte), (cA 103, .boolean), (cA 104, .array .int), (cA 105, .array .long)]
theorem pm_obj {cA : Nat → ClassId} {ad : Nat → Nat} {h : pm_H} {o a : Nat} (hw : pm_wf h) (ha : a < 11) (ho : hT h o = a) : 32 ≤ o ∧ o < hn h ∧ (pm_ws cA ad h)[o - 32]? = some (ad o, .inr (a, (List.range (pm_nf a)).map fun j => pm_fv ad h o j (pm_ty a j))) := by
  obtain ⟨h1, h2, -⟩ := (hw.2 o).1 (by omega)
  refine ⟨h1, h2, ?_⟩
  rw [pm_ws_get h1 h2]
  unfold pm_ent
  rw [if_pos (by omega), ho]
theorem pm_arr {cA : Nat → ClassId} {ad : Nat → Nat} {h : pm_H} {o t : Nat} (hw : pm_wf h) (h1 : 100 ≤ t) (h2 : t < 106) (ho : hT h o = t) : 32 ≤ o ∧ o < hn h ∧ (pm_ws cA ad h)[o - 32]? = some (ad o, .inl (cA t, hN h o, pm_ro ad h o)) := by
  obtain ⟨h3, h4, -⟩ := (hw.2 o).2.1 (by omega) (by omega)
  refine ⟨h3, h4, ?_⟩
  rw [pm_ws_get h3 h4]
  unfold pm_ent
  rw [if_neg (by omega), ho]
theorem pm_ro_i {ad : Nat → Nat} {h : pm_H} {o : Nat} (h1 : hT h o ≠ 101) (h2 : hT h o < 104) : pm_ro ad h o = .inl (hI h o) := by unfold pm_ro; rw [if_neg h1, if_neg (by omega)]
theorem pm_ro_l {ad : Nat → Nat} {h : pm_H} {o : Nat} (h1 : hT h o = 101) : pm_ro ad h o = .inr (.inl (hL h o)) := by unfold pm_ro; rw [if_pos h1]
theorem pm_ro_q {ad : Nat → Nat} {h : pm_H} {o : Nat} (h1 : 104 ≤ hT h o) : pm_ro ad h o = .inr (.inr (.inr (.inr (fun i => pm_rf ad (hR h o i))))) := by unfold pm_ro; rw [if_neg (by omega), if_pos h1]
theorem cls_at {a : Nat} (h : a < 11) : cls_[a]? = some (pm_cn a, pm_tf a, pm_nf a) := by
  rcases (show a = 0 ∨ a = 1 ∨ a = 2 ∨ a = 3 ∨ a = 4 ∨ a = 5 ∨ a = 6 ∨ a = 7 ∨ a = 8 ∨ a = 9 ∨ a = 10 by omega) with rfl | rfl | rfl | rfl | rfl | rfl | rfl | rfl | rfl | rfl | rfl <;> rfl
def pm_lk (a : Nat) : Bool := (List.range (pm_nf a)).all (fun k => pm_it ((lay_ a).getD k 99999) (u_lay (pm_cn a) (pm_tf a) k))
theorem lay_all : ∀ a, a < 11 → pm_lk a = true := by decide +kernel
theorem lay_ok {a : Nat} (h : a < 11) : ∀ w ∈ u_ws (pm_cn a) (pm_tf a) (pm_nf a), w ∈ lw_tbl ∧ pm_pw w = true := by
  intro w hw
  obtain ⟨k, hk, rfl⟩ := List.mem_map.mp hw
  exact pm_it_mem (List.all_eq_true.mp (lay_all a h) k hk)
theorem pm_ty_ok {a : Nat} (h : a < 11) : ∀ k, k < pm_nf a → parseFieldDescriptor (pm_tf a k).2.2.1 = some (pm_ty a k) := by
  rcases (show a = 0 ∨ a = 1 ∨ a = 2 ∨ a = 3 ∨ a = 4 ∨ a = 5 ∨ a = 6 ∨ a = 7 ∨ a = 8 ∨ a = 9 ∨ a = 10 by omega) with rfl | rfl | rfl | rfl | rfl | rfl | rfl | rfl | rfl | rfl | rfl
  · exact tyX0_ok
  · exact tyX1_ok
  · exact tyX2_ok
  · exact tyX3_ok
  · exact tyX4_ok
  · exact tyX5_ok
  · exact tyX6_ok
  · exact tyX7_ok
  · exact tyX8_ok
  · exact tyX9_ok
  · exact tyX10_ok
theorem pm_nm_ok {c : Nat} (h : c < 11) : ∀ a, a < pm_nf c → ∀ b, b < pm_nf c → a ≠ b → (pm_tf c a).2.1 ≠ (pm_tf c b).2.1 := by
  rcases (show c = 0 ∨ c = 1 ∨ c = 2 ∨ c = 3 ∨ c = 4 ∨ c = 5 ∨ c = 6 ∨ c = 7 ∨ c = 8 ∨ c = 9 ∨ c = 10 by omega) with rfl | rfl | rfl | rfl | rfl | rfl | rfl | rfl | rfl | rfl | rfl
  · exact nmX0
  · exact nmX1
  · exact nmX2
  · exact nmX3
  · exact nmX4
  · exact nmX5
  · exact nmX6
  · exact nmX7
  · exact nmX8
  · exact nmX9
  · exact nmX10
theorem map_set {N b : Nat} {f f' : Nat → Value} {v : Value} (hb : f' b = v) (hj : ∀ j, j ≠ b → f' j = f j) : ((List.range N).map f).set b v = (List.range N).map f' := by
  apply List.ext_getElem?
  intro i
  rw [List.getElem?_set]
  by_cases e : b = i
  · subst e
    rw [if_pos rfl]
    by_cases hN : b < N
    · rw [if_pos (by simpa using hN), List.getElem?_map, List.getElem?_range hN]; simp [hb]
    · rw [if_neg (by simpa using hN), List.getElem?_eq_none (by simpa using hN)]
  · rw [if_neg e, List.getElem?_map, List.getElem?_map]
    by_cases hN : i < N
    · rw [List.getElem?_range hN]; simp [hj i (fun q => e q.symm)]
    · rw [List.getElem?_eq_none (by simpa using hN)]; rfl
