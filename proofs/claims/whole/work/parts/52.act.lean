/-! ===== acts as plain steps ===== -/
abbrev At : Type := Nat × Nat × Nat × Nat
def hAct (x : At) (H : Hs) : Hs :=
  if x.1 = 0 then hPut x.2.1 H (qAdd H.1 x.2.2.2 (hOf x.2.1 H))
  else if x.1 = 1 then hPut x.2.1 H (qTake H.1 (hOf x.2.1 H))
  else if x.1 = 2 then hPut x.2.1 H (qLow H.1 x.2.2.1 x.2.2.2 (hOf x.2.1 H))
  else if x.1 = 3 then hPut x.2.1 H (qCast x.2.2.1 (hOf x.2.1 H))
  else if x.1 = 4 then hPut (1 - x.2.1) (hPut x.2.1 H (addAll H.1 (qK (hOf (1 - x.2.1) H)) (qN (hOf (1 - x.2.1) H)) (hOf x.2.1 H))) (qOut (hOf (1 - x.2.1) H))
  else if x.1 = 5 then (x.2.2.1, H.2.1, H.2.2)
  else hPut x.2.1 H (qEmp (hOf x.2.1 H))
def hAns (x : At) (H : Hs) : Nat :=
  if x.1 = 0 then qC (hOf x.2.1 H)
  else if x.1 = 1 then qTop H.1 (hOf x.2.1 H)
  else if x.1 = 2 then bk H.1 (qL (hOf x.2.1 H)) x.2.2.2
  else if x.1 = 3 then (qN (hOf x.2.1 H)).length - 1
  else if x.1 = 4 then (qN (hOf (1 - x.2.1) H)).length
  else if x.1 = 5 then H.1
  else (qN (hOf x.2.1 H)).length
def hOk (x : At) (H : Hs) : Prop :=
  x.1 ≤ 6 ∧ x.2.1 < 2 ∧ x.2.2.1 < 300 ∧ x.2.2.2 < 2 ^ 40 ∧
  (x.1 = 0 → qL (hOf x.2.1 H) ≤ x.2.2.2 ∧ qC (hOf x.2.1 H) < 200) ∧
  (x.1 = 1 → qN (hOf x.2.1 H) ≠ []) ∧
  (x.1 = 2 → x.2.2.1 ∈ qN (hOf x.2.1 H) ∧ qL (hOf x.2.1 H) ≤ x.2.2.2 ∧ x.2.2.2 ≤ qK (hOf x.2.1 H) x.2.2.1) ∧
  (x.1 = 3 → x.2.2.1 ∈ qN (hOf x.2.1 H)) ∧
  (x.1 = 4 → qC (hOf x.2.1 H) + (qN (hOf (1 - x.2.1) H)).length ≤ 200 ∧ ∀ y, y ∈ qN (hOf (1 - x.2.1) H) → qL (hOf x.2.1 H) ≤ qK (hOf (1 - x.2.1) H) y) ∧
  (x.1 = 5 → 1 ≤ x.2.2.1 ∧ x.2.2.1 ≤ 4 ∧ qN H.2.1 = [] ∧ qN H.2.2 = [])
theorem addAll_qI {bits limit : Nat} {K : Nat → Nat} : ∀ (L : List Nat) (A : Qs), qI bits limit A → (∀ y, y ∈ L → K y < 2 ^ 40 ∧ qL A ≤ K y) → qC A + L.length ≤ limit → qI bits limit (addAll bits K L A)
  | [], A, h, _, _ => h
  | x :: r, A, h, hk, hc => by
    rw [List.length_cons] at hc
    have hx := hk x (List.mem_cons_self ..)
    show qI bits limit (addAll bits K r (qAdd bits (K x) A))
    refine addAll_qI r _ (qI_add h hx.1 hx.2 (by omega)) (fun y hy => hk y (List.mem_cons_of_mem _ hy)) ?_
    show qC A + 1 + r.length ≤ limit
    omega
theorem qI_bits {bits limit k : Nat} {A : Qs} (h : qI bits limit A) (h1 : 1 ≤ k) (h2 : k ≤ 4) (hN0 : qN A = []) : qI k limit A := by
  obtain ⟨i1, i2, i3, i4, i5, i6, i7, i8, i9, i10, i11, i12⟩ := h
  exact ⟨h1, h2, i3, i4, i5, i6, i7, i8, i9, fun i hi => absurd hi (by rw [hN0]; exact List.not_mem_nil), i11, i12⟩
theorem hAct_J {x : At} {H : Hs} (hj : hJ H) (ho : hOk x H) : hJ (hAct x H) := by
  obtain ⟨o0, o1, o2, o3, o4, o5, o6, o7, o8, o9⟩ := ho
  have hq := of_hJ o1 hj
  have h1n : 1 - x.2.1 < 2 := by omega
  have hq2 := of_hJ h1n hj
  unfold hAct
  by_cases c0 : x.1 = 0
  · rw [if_pos c0]; exact put_hJ o1 hj (qI_add hq o3 (o4 c0).1 (o4 c0).2)
  rw [if_neg c0]
  by_cases c1 : x.1 = 1
  · rw [if_pos c1]; exact put_hJ o1 hj (qI_take hq (o5 c1)).1
  rw [if_neg c1]
  by_cases c2 : x.1 = 2
  · rw [if_pos c2]; exact put_hJ o1 hj (qI_low hq (o6 c2).1 o3 (o6 c2).2.1)
  rw [if_neg c2]
  by_cases c3 : x.1 = 3
  · rw [if_pos c3]; exact put_hJ o1 hj (qI_cast hq (o7 c3))
  rw [if_neg c3]
  by_cases c4 : x.1 = 4
  · rw [if_pos c4]
    have hl := qI_line hq2
    have hk := hq2.2.2.2.2.2.1
    have a1 := addAll_qI (K := qK (hOf (1 - x.2.1) H)) (qN (hOf (1 - x.2.1) H)) _ hq (fun y hy => ⟨hk y (hl y hy).1, (o8 c4).2 y hy⟩) (o8 c4).1
    have a2 := qI_out hq2
    have e : x.2.1 = 0 ∨ x.2.1 = 1 := by omega
    rcases e with e | e <;> rw [e] at a1 a2 ⊢
    · exact ⟨a1, a2⟩
    · exact ⟨a2, a1⟩
  rw [if_neg c4]
  by_cases c5 : x.1 = 5
  · rw [if_pos c5]
    obtain ⟨p1, p2, p3, p4⟩ := o9 c5
    exact ⟨qI_bits hj.1 p1 p2 p3, qI_bits hj.2 p1 p2 p4⟩
  rw [if_neg c5]
  exact put_hJ o1 hj (qI_emp hq.1 hq.2.1 hq.2.2.2.1)
theorem c303 (d : Nat) {h : pm_H} {a : Nat} {x : At} {H : Hs} {Q : pm_Q} (hH : isH h a H) (hj : hJ H) (ho : hOk x H)
    (hQ : ∀ h', isH h' a (hAct x H) → fr a (a + 13) h h' → Q (.inl (some (.int (nI (hAns x H))))) h') :
    pm_M PP (d + 4) 303 [.ref a, .int (nI x.1), .int (nI x.2.1), .int (nI x.2.2.1), .long (lN x.2.2.2)] h Q := by
  obtain ⟨o0, o1, o2, o3, o4, o5, o6, o7, o8, o9⟩ := ho
  unfold hAct hAns at hQ
  by_cases c0 : x.1 = 0
  · rw [c0]
    simp only [if_pos c0] at hQ
    exact a_0 (d + 1) o1 hH hj o3 (o4 c0).1 (o4 c0).2 hQ
  simp only [if_neg c0] at hQ
  by_cases c1 : x.1 = 1
  · rw [c1]
    simp only [if_pos c1] at hQ
    exact a_1 d o1 hH hj (o5 c1) hQ
  simp only [if_neg c1] at hQ
  by_cases c2 : x.1 = 2
  · rw [c2]
    simp only [if_pos c2] at hQ
    exact a_2 d o1 hH hj (o6 c2).1 o3 (o6 c2).2.1 (o6 c2).2.2 hQ
  simp only [if_neg c2] at hQ
  by_cases c3 : x.1 = 3
  · rw [c3]
    simp only [if_pos c3] at hQ
    exact a_3 (d + 1) o1 hH hj (o7 c3) hQ
  simp only [if_neg c3] at hQ
  by_cases c4 : x.1 = 4
  · rw [c4]
    simp only [if_pos c4] at hQ
    exact a_4 d o1 hH hj (o8 c4).1 (o8 c4).2 (fun h' a1 _ a3 => hQ h' a1 a3)
  simp only [if_neg c4] at hQ
  by_cases c5 : x.1 = 5
  · rw [c5]
    simp only [if_pos c5] at hQ
    exact a_5 (d + 2) o1 hH hQ
  simp only [if_neg c5] at hQ
  have c6 : x.1 = 6 := by omega
  rw [c6]
  exact a_6 (d + 1) o1 hH hQ
