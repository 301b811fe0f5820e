/-! ===== REPLAY, plain ===== -/
/-- queue, letters of items, what happened, how often -/
abbrev VT : Type := Qs × (Nat → Nat) × List Nat × (Nat → Nat)
def vAdd (bits l k : Nat) (v : VT) : VT := if qC v.1 < 300 then (qAdd bits k v.1, va_up v.2.1 (qC v.1) l, v.2.2.1, v.2.2.2) else v
def vEvs (bits : Nat) : List Ev → VT → VT
  | [], v => v
  | e :: r, v => vEvs bits r (vAdd bits e.1 e.2 v)
def vRul (bits lt : Nat) (e : Ed) (v : VT) : VT := if e.1 = lt then vAdd bits e.2.2 (qL v.1 + e.2.1) v else v
def vRs (bits lt : Nat) : List Ed → VT → VT
  | [], v => v
  | e :: r, v => vRs bits lt r (vRul bits lt e v)
def vTake (bits : Nat) (v : VT) : VT := (qTake bits v.1, v.2.1, v.2.2.1 ++ [qTop bits v.1], va_up v.2.2.2 (v.2.1 (qTop bits v.1)) (v.2.2.2 (v.2.1 (qTop bits v.1)) + 1))
def vTurn (bits : Nat) (R : List Ed) (v : VT) : VT := vRs bits (v.2.1 (qTop bits v.1)) R (vTake bits v)
def vGo (bits t : Nat) (R : List Ed) : Nat → VT → VT
  | 0, v => v
  | n + 1, v => if (qN v.1).length ≠ 0 ∧ minK (qK v.1) (hdD v.1) ≤ t then vGo bits t R n (vTurn bits R v) else v
def v0 : VT := (q0, fun _ => 0, [], fun _ => 0)
def vAll (bits t : Nat) (Es : List Ev) (R : List Ed) : VT := vGo bits t R 200 (vEvs bits Es v0)
def evB (e : Ev) : Prop := e.1 < 8 ∧ e.2 ≤ 1000000000
def rlB (e : Ed) : Prop := e.1 < 8 ∧ e.2.1 ≤ 1000000000 ∧ e.2.2 < 8
def vOK (bits T H : Nat) (v : VT) : Prop := qI bits 300 v.1 ∧ (∀ i, i < qC v.1 → v.2.1 i < 8) ∧ (∀ y, y ∈ v.2.2.1 → y < qC v.1) ∧ (∀ i, i < qC v.1 → qK v.1 i ≤ H) ∧ qL v.1 ≤ H ∧ ∀ i, i < qC v.1 → qM v.1 i ≤ T
theorem vOK_add {bits T H l k : Nat} {v : VT} (hv : vOK bits T H v) (hl : l < 8) (hk : qL v.1 ≤ k) (hk2 : k ≤ H) (hH : H < 2 ^ 40) : vOK bits T H (vAdd bits l k v) := by
  unfold vAdd
  by_cases c : qC v.1 < 300
  · rw [if_pos c]
    obtain ⟨a1, a2, a3, a4, a5, a6⟩ := hv
    refine ⟨qI_add a1 (by omega) hk c, fun i hi => ?_, fun y hy => ?_, fun i hi => ?_, a5, fun i hi => ?_⟩
    · have hi : i < qC v.1 + 1 := hi
      show va_up _ _ _ i < 8
      rw [va_upE]; split
      · exact hl
      · exact a2 i (by omega)
    · have := a3 y hy; show y < qC v.1 + 1; omega
    · have hi : i < qC v.1 + 1 := hi
      show va_up _ _ _ i ≤ H
      rw [va_upE]; split
      · exact hk2
      · exact a4 i (by omega)
    · have hi : i < qC v.1 + 1 := hi
      show va_up _ _ _ i ≤ T
      rw [va_upE]; split
      · omega
      · exact a6 i (by omega)
  · rw [if_neg c]; exact hv
theorem vAdd_f {bits l k : Nat} {v : VT} : qL (vAdd bits l k v).1 = qL v.1 ∧ (vAdd bits l k v).2.2 = v.2.2 := by
  unfold vAdd
  split
  · exact ⟨rfl, rfl⟩
  · exact ⟨rfl, rfl⟩
theorem vOK_up {bits T T' H H' : Nat} {v : VT} (h : T ≤ T') (h2 : H ≤ H') (hv : vOK bits T H v) : vOK bits T' H' v := by
  obtain ⟨a1, a2, a3, a4, a5, a6⟩ := hv
  exact ⟨a1, a2, a3, fun i hi => Nat.le_trans (a4 i hi) h2, Nat.le_trans a5 h2, fun i hi => Nat.le_trans (a6 i hi) h⟩
/-- while rules are followed: room for a later one -/
def vFo (bits T H : Nat) (v : VT) : Prop := vOK bits T H v ∧ qL v.1 + 1000000000 ≤ H
theorem vFo_r {bits T H lt : Nat} {v : VT} {e : Ed} (hv : vFo bits T H v) (he : rlB e) (hH : H < 2 ^ 40) : vFo bits T H (vRul bits lt e v) := by
  unfold vRul
  by_cases c : e.1 = lt
  · rw [if_pos c]
    have e1 := he.2.1
    have := hv.2
    exact ⟨vOK_add hv.1 he.2.2 (by omega) (by omega) hH, by rw [vAdd_f.1]; exact hv.2⟩
  · rw [if_neg c]; exact hv
theorem vFo_rs {bits T H lt : Nat} (hH : H < 2 ^ 40) : ∀ (R : List Ed) (v : VT), vFo bits T H v → (∀ e, e ∈ R → rlB e) → vFo bits T H (vRs bits lt R v)
  | [], v, h, _ => h
  | e :: r, v, h, he => vFo_rs hH r _ (vFo_r h (he e (List.mem_cons_self ..)) hH) (fun z hz => he z (List.mem_cons_of_mem _ hz))
theorem vFo_take {bits T H : Nat} {v : VT} (hv : vOK bits T H v) (hne : qN v.1 ≠ []) : vFo bits (T + 1) (H + 1000000000) (vTake bits v) ∧ v.2.1 (qTop bits v.1) < 8 ∧ qTop bits v.1 < qC v.1 := by
  obtain ⟨a1, a2, a3, a4, a5, a6⟩ := hv
  obtain ⟨t1, t2, t3, t4, t5⟩ := take_f a1 hne
  obtain ⟨u1, u2, u3, u4⟩ := qI_take a1 hne
  have k8 := a4 _ t4
  refine ⟨⟨⟨u1, fun i hi => ?_, fun y hy => ?_, fun i hi => ?_, ?_, fun i hi => ?_⟩, ?_⟩, a2 _ t4, t4⟩
  · have hi : i < qC (qTake bits v.1) := hi
    rw [u2] at hi; exact a2 i hi
  · have hy : y ∈ v.2.2.1 ++ [qTop bits v.1] := hy
    show y < qC (qTake bits v.1)
    rw [u2]
    rcases List.mem_append.mp hy with q | q
    · exact a3 y q
    · rw [List.mem_singleton.mp q]; exact t4
  · have hi : i < qC (qTake bits v.1) := hi
    rw [u2] at hi
    show qK (qTake bits v.1) i ≤ _
    rw [t2]; exact Nat.le_trans (a4 i hi) (Nat.le_add_right _ _)
  · show qL (qTake bits v.1) ≤ _
    rw [t3]; exact Nat.le_trans k8 (Nat.le_add_right _ _)
  · have hi : i < qC (qTake bits v.1) := hi
    rw [u2] at hi
    have := a6 i hi
    have := u4 i
    show qM (qTake bits v.1) i ≤ T + 1
    omega
  · show qL (qTake bits v.1) + 1000000000 ≤ H + 1000000000
    rw [t3]; exact Nat.add_le_add_right k8 _
theorem vRs_i {bits lt : Nat} : ∀ (R : List Ed) (v : VT), (vRs bits lt R v).2.2 = v.2.2
  | [], v => rfl
  | e :: r, v => by
    show (vRs bits lt r (vRul bits lt e v)).2.2 = _
    rw [vRs_i r]
    unfold vRul
    split
    · exact vAdd_f.2
    · rfl
theorem vTurn_len {bits : Nat} {R : List Ed} {v : VT} : (vTurn bits R v).2.2.1.length = v.2.2.1.length + 1 := by
  show (vRs bits _ R (vTake bits v)).2.2.1.length = _
  rw [vRs_i]
  show (v.2.2.1 ++ [_]).length = _
  rw [List.length_append]; rfl
theorem vOK_turn {bits T H : Nat} {R : List Ed} {v : VT} (hv : vOK bits T H v) (hne : qN v.1 ≠ []) (hR0 : ∀ e, e ∈ R → rlB e) (hH : H + 1000000000 < 2 ^ 40) : vOK bits (T + 1) (H + 1000000000) (vTurn bits R v) := (vFo_rs hH R _ (vFo_take hv hne).1 hR0).1
theorem v0_OK {bits : Nat} (h1 : 1 ≤ bits) (h4 : bits ≤ 4) : vOK bits 0 1000000000 v0 :=
  ⟨qI_emp (A := q0) h1 h4 (by decide), fun i hi => absurd hi (Nat.not_lt_zero _), fun y hy => absurd hy List.not_mem_nil, fun i hi => absurd hi (Nat.not_lt_zero _), Nat.zero_le _, fun i hi => absurd hi (Nat.not_lt_zero _)⟩
theorem vEvs_L {bits : Nat} : ∀ (Es : List Ev) (v : VT), qL (vEvs bits Es v).1 = qL v.1 ∧ (vEvs bits Es v).2.2 = v.2.2
  | [], v => ⟨rfl, rfl⟩
  | e :: r, v => by
    have := vEvs_L (bits := bits) r (vAdd bits e.1 e.2 v)
    exact ⟨this.1.trans vAdd_f.1, this.2.trans vAdd_f.2⟩
theorem vEvs_OK {bits T : Nat} : ∀ (Es : List Ev) (v : VT), vOK bits T 1000000000 v → qL v.1 = 0 → (∀ e, e ∈ Es → evB e) → vOK bits T 1000000000 (vEvs bits Es v)
  | [], v, h, _, _ => h
  | e :: r, v, h, h0, he => by
    have b := he e (List.mem_cons_self ..)
    exact vEvs_OK r _ (vOK_add h b.1 (by rw [h0]; exact Nat.zero_le _) b.2 (by decide)) (vAdd_f.1.trans h0) (fun z hz => he z (List.mem_cons_of_mem _ hz))
theorem vGo_OK {bits t : Nat} {R : List Ed} (hR0 : ∀ e, e ∈ R → rlB e) : ∀ (n k T : Nat) (v : VT), n + k = 200 → vOK bits T (1000000000 + k * 1000000000) v → vOK bits (T + n) (1000000000 + 200 * 1000000000) (vGo bits t R n v)
  | 0, k, T, v, hk, h => by
    rw [show k = 200 by omega] at h; exact h
  | n + 1, k, T, v, hk, h => by
    show vOK bits _ _ (if _ then _ else v)
    have hb : k * 1000000000 ≤ 199 * 1000000000 := Nat.mul_le_mul_right _ (by omega)
    split
    · rename_i c
      have hne : qN v.1 ≠ [] := fun z => c.1 (by rw [z]; rfl)
      have t1 := vOK_turn h hne hR0 (by omega)
      rw [show 1000000000 + k * 1000000000 + 1000000000 = 1000000000 + (k + 1) * 1000000000 by rw [Nat.add_mul, Nat.one_mul, Nat.add_assoc]] at t1
      have := vGo_OK (t := t) hR0 n (k + 1) (T + 1) _ (by omega) t1
      rw [show T + 1 + n = T + (n + 1) by omega] at this
      exact this
    · exact vOK_up (by omega) (by omega) h
theorem vGo_len {bits t : Nat} {R : List Ed} : ∀ (n : Nat) (v : VT), (vGo bits t R n v).2.2.1.length ≤ v.2.2.1.length + n
  | 0, v => Nat.le_refl _
  | n + 1, v => by
    show (if _ then vGo bits t R n (vTurn bits R v) else v).2.2.1.length ≤ _
    split
    · have := vGo_len (bits := bits) (t := t) (R := R) n (vTurn bits R v)
      rw [vTurn_len] at this
      omega
    · omega
theorem vAll_OK {bits t : Nat} {Es : List Ev} {R : List Ed} (h1 : 1 ≤ bits) (h4 : bits ≤ 4) (hEs : ∀ e, e ∈ Es → evB e) (hR0 : ∀ e, e ∈ R → rlB e) : vOK bits 200 201000000000 (vAll bits t Es R) ∧ (vAll bits t Es R).2.2.1.length ≤ 200 := by
  have a := vEvs_OK Es v0 (v0_OK h1 h4) rfl hEs
  refine ⟨?_, ?_⟩
  · have := vGo_OK (t := t) hR0 200 0 0 _ (by omega) (by rw [Nat.zero_mul, Nat.add_zero]; exact a)
    exact this
  · have := vGo_len (bits := bits) (t := t) (R := R) 200 (vEvs bits Es v0)
    rw [(vEvs_L Es v0).2] at this
    have this : (vAll bits t Es R).2.2.1.length ≤ 0 + 200 := this
    omega
