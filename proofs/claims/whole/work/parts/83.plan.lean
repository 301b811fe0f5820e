/-! ===== THE PLAN: the plain reader ===== -/
def wAgain : List Nat := [97, 103, 97, 105, 110]
def wPush : List Nat := [112, 117, 115, 104]
def wPop : List Nat := [112, 111, 112]
def wLess : List Nat := [108, 101, 115, 115]
def wDrop : List Nat := [100, 114, 111, 112]
abbrev Ks : Type := List (Nat × List St)
/-- a step that begins at p, ahead of its end; the step -/
def stpP (X : List Nat) (p : Nat) : Rz × List St :=
  if wd X p wPush then ((numP X 1000000000 (p + 4, none)).1, [(0, 0, (numP X 1000000000 (p + 4, none)).2)])
  else if wd X p wPop then ((p + 3, none), [(1, 0, 0)])
  else if wd X p wLess then ((numP X 1000000000 (numP X 199 (p + 4, none)).1).1, [(2, (numP X 199 (p + 4, none)).2, (numP X 1000000000 (numP X 199 (p + 4, none)).1).2)])
  else if wd X p wDrop then ((numP X 199 (p + 4, none)).1, [(3, (numP X 199 (p + 4, none)).2, 0)])
  else ((p, some (1, p)), [])
def opP (X : List Nat) (dp p : Nat) : Rz :=
  if X[skp X (numP X 50 (p + 5, none)).1.1]? = some 91 ∧ dp = 3 then (skp X (numP X 50 (p + 5, none)).1.1, bl (numP X 50 (p + 5, none)).1.2 (3, skp X (numP X 50 (p + 5, none)).1.1)) else wantP X 91 (numP X 50 (p + 5, none)).1
def rpt (n : Nat) (U : List St) : List St := (List.replicate n U).flatten
def CLe (X : List Nat) (cur : List St) (K : Ks) (W : Nat) : (Nat × Nat) ⊕ Ps := if K.length = 0 then .inr (cur, W) else .inl (1, X.length)
def CLr {α : Type} (z : Rz) (k : Nat → (Nat × Nat) ⊕ α) : (Nat × Nat) ⊕ α := match z.2 with
  | some e => .inl e
  | none => k z.1
def CL (X : List Nat) : Nat → Nat → List St → Ks → Nat → (Nat × Nat) ⊕ Ps
  | 0, _, cur, K, W => CLe X cur K W
  | f + 1, a, cur, K, W =>
    if X[skp X a]? = none then CLe X cur K W
    else if 0 < K.length ∧ X[skp X a]? = some 93 then CLr (wantP X 59 (skp X a + 1, none)) (fun a' => CL X f a' ((K.headD (0, [])).2 ++ rpt (K.headD (0, [])).1 cur) K.tail W)
    else if wd X (skp X a) wAgain then CLr (opP X K.length (skp X a)) (fun a' => CL X f a' [] (((numP X 50 (skp X a + 5, none)).2, cur) :: K) (W + 1))
    else CLr (wantP X 59 (stpP X (skp X a)).1) (fun a' => CL X f a' (cur ++ (stpP X (skp X a)).2) K (W + 1))
theorem CL_s (X : List Nat) (f a : Nat) (cur : List St) (K : Ks) (W : Nat) : CL X (f + 1) a cur K W =
    if X[skp X a]? = none then CLe X cur K W
    else if 0 < K.length ∧ X[skp X a]? = some 93 then CLr (wantP X 59 (skp X a + 1, none)) (fun a' => CL X f a' ((K.headD (0, [])).2 ++ rpt (K.headD (0, [])).1 cur) K.tail W)
    else if wd X (skp X a) wAgain then CLr (opP X K.length (skp X a)) (fun a' => CL X f a' [] (((numP X 50 (skp X a + 5, none)).2, cur) :: K) (W + 1))
    else CLr (wantP X 59 (stpP X (skp X a)).1) (fun a' => CL X f a' (cur ++ (stpP X (skp X a)).2) K (W + 1)) := rfl
theorem CLr_s {α : Type} {z : Rz} {e : Nat × Nat} {k : Nat → (Nat × Nat) ⊕ α} (h : z.2 = some e) : CLr z k = .inl e := by unfold CLr; rw [h]
theorem CLr_n {α : Type} {z : Rz} {k : Nat → (Nat × Nat) ⊕ α} (h : z.2 = none) : CLr z k = k z.1 := by unfold CLr; rw [h]
theorem CLr_c {α : Type} {z : Rz} {k k' : Nat → (Nat × Nat) ⊕ α} (h : z.2 = none → k z.1 = k' z.1) : CLr z k = CLr z k' := by
  cases e : z.2 with
  | none => rw [CLr_n e, CLr_n e]; exact h e
  | some g => rw [CLr_s e, CLr_s e]
/-! progress -/
theorem stp_ok {X : List Nat} {p : Nat} (ht : txt X) (hp : p ≤ X.length) : (stpP X p).1.1 ≤ X.length ∧ flOK (stpP X p).1.2 ∧ p ≤ (stpP X p).1.1 ∧ ((stpP X p).1.2 = none → ∃ s, (stpP X p).2 = [s] ∧ stB s) := by
  have h5 := ht.1
  have f0 : flOK none := fun e q => by cases q
  unfold stpP
  by_cases w1 : wd X p wPush = true
  · have hl : p + 4 ≤ X.length := wd_len hp w1
    rw [if_pos w1]
    have a := num_ok (most := 1000000000) (z := (p + 4, none)) ht hl f0
    have b := num_mono (X := X) (most := 1000000000) (z := (p + 4, none)) hl
    have b : p + 4 ≤ _ := b
    exact ⟨a.1, a.2.1, by show p ≤ (numP X 1000000000 (p + 4, none)).1.1; omega, fun _ => ⟨_, rfl, by show (0 : Nat) < 4; decide, by show (0 : Nat) < 200; decide, a.2.2⟩⟩
  · rw [if_neg w1]
    by_cases w2 : wd X p wPop = true
    · have hl : p + 3 ≤ X.length := wd_len hp w2
      rw [if_pos w2]
      exact ⟨hl, f0, by show p ≤ p + 3; omega, fun _ => ⟨_, rfl, by show (1 : Nat) < 4; decide, by show (0 : Nat) < 200; decide, Nat.zero_le _⟩⟩
    · rw [if_neg w2]
      by_cases w3 : wd X p wLess = true
      · have hl : p + 4 ≤ X.length := wd_len hp w3
        rw [if_pos w3]
        have a := num_ok (most := 199) (z := (p + 4, none)) ht hl f0
        have b := num_mono (X := X) (most := 199) (z := (p + 4, none)) hl
        have c := num_ok (most := 1000000000) ht a.1 a.2.1
        have e := num_mono (most := 1000000000) a.1
        have b : p + 4 ≤ _ := b
        refine ⟨c.1, c.2.1, by show p ≤ (numP X 1000000000 (numP X 199 (p + 4, none)).1).1.1; omega, fun _ => ⟨_, rfl, by show (2 : Nat) < 4; decide, ?_, c.2.2⟩⟩
        have := a.2.2
        show (numP X 199 (p + 4, none)).2 < 200; omega
      · rw [if_neg w3]
        by_cases w4 : wd X p wDrop = true
        · have hl : p + 4 ≤ X.length := wd_len hp w4
          rw [if_pos w4]
          have a := num_ok (most := 199) (z := (p + 4, none)) ht hl f0
          have b := num_mono (X := X) (most := 199) (z := (p + 4, none)) hl
          have b : p + 4 ≤ _ := b
          refine ⟨a.1, a.2.1, by show p ≤ (numP X 199 (p + 4, none)).1.1; omega, fun _ => ⟨_, rfl, by show (3 : Nat) < 4; decide, ?_, Nat.zero_le _⟩⟩
          have := a.2.2
          show (numP X 199 (p + 4, none)).2 < 200; omega
        · rw [if_neg w4]
          exact ⟨hp, bl_ok f0 (by decide) (by decide) (by omega), Nat.le_refl _, fun q => by cases q⟩
theorem op_ok {X : List Nat} {dp p : Nat} (ht : txt X) (hp : p + 5 ≤ X.length) : (opP X dp p).1 ≤ X.length ∧ flOK (opP X dp p).2 ∧ ((opP X dp p).2 = none → p + 5 < (opP X dp p).1 ∧ dp ≠ 3 ∧ (numP X 50 (p + 5, none)).1.2 = none) ∧ (numP X 50 (p + 5, none)).2 ≤ 50 := by
  have h5 := ht.1
  have a := num_ok (most := 50) (z := (p + 5, none)) ht hp (fun e q => by cases q)
  have b := num_mono (X := X) (most := 50) (z := (p + 5, none)) hp
  have b : p + 5 ≤ _ := b
  have c := skp_ok a.1
  unfold opP
  by_cases e : X[skp X (numP X 50 (p + 5, none)).1.1]? = some 91 ∧ dp = 3
  · rw [if_pos e]
    refine ⟨c.2.1, bl_ok a.2.1 (by decide) (by decide) (by omega), fun q => ?_, a.2.2⟩
    have q : bl (numP X 50 (p + 5, none)).1.2 (3, skp X (numP X 50 (p + 5, none)).1.1) = none := q
    cases hf : (numP X 50 (p + 5, none)).1.2 with
    | none => rw [hf] at q; cases q
    | some g => rw [hf] at q; cases q
  · rw [if_neg e]
    have k := want_eq (s := 91) ht a.1 a.2.1
    refine ⟨k.1, k.2, fun q => ?_, a.2.2⟩
    have q1 := want_lt a.1 q
    refine ⟨by omega, fun q2 => ?_, want_none q⟩
    subst q2
    refine e ⟨?_, rfl⟩
    unfold wantP at q
    refine Classical.byContradiction fun q3 => ?_
    rw [if_neg q3] at q
    have q : bl (numP X 50 (p + 5, none)).1.2 (1, skp X (numP X 50 (p + 5, none)).1.1) = none := q
    cases hf : (numP X 50 (p + 5, none)).1.2 with
    | none => rw [hf] at q; cases q
    | some g => rw [hf] at q; cases q
theorem CL_f {X : List Nat} (ht : txt X) : ∀ (f f' a : Nat) (cur : List St) (K : Ks) (W : Nat), a ≤ X.length → X.length - a ≤ f → X.length - a ≤ f' → CL X f a cur K W = CL X f' a cur K W := by
  intro f
  induction f with
  | zero =>
    intro f' a cur K W ha h1 h2
    have hsk := skp_ok ha
    have e : X[skp X a]? = none := at_ge (by omega)
    cases f' with
    | zero => rfl
    | succ f' => show CLe X cur K W = _; unfold CL; rw [if_pos e]
  | succ f ih =>
    intro f' a cur K W ha h1 h2
    have hsk := skp_ok ha
    cases f' with
    | zero =>
      have e : X[skp X a]? = none := at_ge (by omega)
      show CL X (f + 1) a cur K W = CLe X cur K W; unfold CL; rw [if_pos e]
    | succ f' =>
      unfold CL
      by_cases e : X[skp X a]? = none
      · rw [if_pos e, if_pos e]
      · rw [if_neg e, if_neg e]
        have hl : skp X a < X.length := Classical.byContradiction fun q => e (at_ge q)
        by_cases e2 : 0 < K.length ∧ X[skp X a]? = some 93
        · rw [if_pos e2, if_pos e2]
          refine CLr_c fun q => ?_
          have k := want_eq (s := 59) (z := (skp X a + 1, none)) ht hl (fun e q => by cases q)
          have k2 := want_lt (s := 59) (z := (skp X a + 1, none)) hl q
          have k2 : skp X a + 1 < _ := k2
          exact ih f' _ _ _ _ k.1 (by omega) (by omega)
        · rw [if_neg e2, if_neg e2]
          by_cases e3 : wd X (skp X a) wAgain = true
          · rw [if_pos e3, if_pos e3]
            refine CLr_c fun q => ?_
            have k := op_ok (dp := K.length) ht (wd_len hsk.2.1 e3)
            have k2 := (k.2.2.1 q).1
            exact ih f' _ _ _ _ k.1 (by omega) (by omega)
          · rw [if_neg e3, if_neg e3]
            refine CLr_c fun q => ?_
            have s := stp_ok ht hsk.2.1
            have k := want_eq (s := 59) ht s.1 s.2.1
            have k2 := want_lt s.1 q
            exact ih f' _ _ _ _ k.1 (by omega) (by omega)
def CO (X : List Nat) (a : Nat) (cur : List St) (K : Ks) (W : Nat) : (Nat × Nat) ⊕ Ps := CL X (X.length - a) a cur K W
section CO
variable {X : List Nat} {a : Nat} {cur : List St} {K : Ks} {W : Nat}
theorem CO_end (ht : txt X) (ha : a ≤ X.length) (e : X[skp X a]? = none) : CO X a cur K W = CLe X cur K W := by
  unfold CO
  rw [CL_f ht (X.length - a) (X.length - a + 1) a cur K W ha (by omega) (by omega)]
  rw [CL_s, if_pos e]
theorem CO_skp (ht : txt X) (ha : a ≤ X.length) : CO X (skp X a) cur K W = CO X a cur K W := by
  have hsk := skp_ok ha
  unfold CO
  rw [CL_f ht (X.length - a) (X.length + 1) a cur K W ha (by omega) (by omega), CL_f ht (X.length - skp X a) (X.length + 1) (skp X a) cur K W hsk.2.1 (by omega) (by omega)]
  unfold CL
  rw [skp_id ha]
theorem CO_close {n : Nat} {o : List St} {K' : Ks} (ht : txt X) (ha : a ≤ X.length) (e : X[skp X a]? = some 93) (hK : K = (n, o) :: K') : CO X a cur K W = CLr (wantP X 59 (skp X a + 1, none)) (fun a' => CO X a' (o ++ rpt n cur) K' W) := by
  have hsk := skp_ok ha
  have hl := at_some e
  subst hK
  unfold CO
  rw [CL_f ht (X.length - a) (X.length + 1) a cur _ W ha (by omega) (by omega)]
  rw [CL_s, if_neg (by rw [e]; exact fun q => by cases q), if_pos ⟨by rw [List.length_cons]; omega, e⟩]
  refine CLr_c fun q => ?_
  have k := want_eq (s := 59) (z := (skp X a + 1, none)) ht hl (fun e q => by cases q)
  exact CL_f ht X.length _ _ _ _ _ k.1 (by omega) (Nat.le_refl _)
theorem CO_open {b : Nat} (ht : txt X) (ha : a ≤ X.length) (e : X[skp X a]? = some b) (h93 : ¬ (0 < K.length ∧ b = 93)) (hw : wd X (skp X a) wAgain = true) : CO X a cur K W = CLr (opP X K.length (skp X a)) (fun a' => CO X a' [] (((numP X 50 (skp X a + 5, none)).2, cur) :: K) (W + 1)) := by
  have hsk := skp_ok ha
  unfold CO
  rw [CL_f ht (X.length - a) (X.length + 1) a cur K W ha (by omega) (by omega)]
  rw [CL_s, if_neg (by rw [e]; exact fun q => by cases q), if_neg (fun q => h93 ⟨q.1, by have := q.2; rw [e] at this; injection this⟩), if_pos hw]
  refine CLr_c fun q => ?_
  have k := op_ok (dp := K.length) ht (wd_len hsk.2.1 hw)
  exact CL_f ht X.length _ _ _ _ _ k.1 (by omega) (Nat.le_refl _)
theorem CO_step {b : Nat} (ht : txt X) (ha : a ≤ X.length) (e : X[skp X a]? = some b) (h93 : ¬ (0 < K.length ∧ b = 93)) (hw : wd X (skp X a) wAgain = false) : CO X a cur K W = CLr (wantP X 59 (stpP X (skp X a)).1) (fun a' => CO X a' (cur ++ (stpP X (skp X a)).2) K (W + 1)) := by
  have hsk := skp_ok ha
  unfold CO
  rw [CL_f ht (X.length - a) (X.length + 1) a cur K W ha (by omega) (by omega)]
  rw [CL_s, if_neg (by rw [e]; exact fun q => by cases q), if_neg (fun q => h93 ⟨q.1, by have := q.2; rw [e] at this; injection this⟩), if_neg (by rw [hw]; exact fun q => by cases q)]
  refine CLr_c fun q => ?_
  have s := stp_ok ht hsk.2.1
  have k := want_eq (s := 59) ht s.1 s.2.1
  exact CL_f ht X.length _ _ _ _ _ k.1 (by omega) (Nat.le_refl _)
end CO
/-! the unrolled steps, cut -/
def fullC : Ks → List St → List St
  | [], cur => cur
  | (_, o) :: K, cur => fullC K o ++ cur
theorem fullC_app : ∀ (K : Ks) (a b : List St), fullC K (a ++ b) = fullC K a ++ b
  | [], a, b => rfl
  | (n, o) :: K, a, b => by show fullC K o ++ (a ++ b) = fullC K o ++ a ++ b; rw [List.append_assoc]
theorem tk_tk {α : Type} (n : Nat) (L R : List α) : (L.take n ++ R).take n = (L ++ R).take n := by
  rw [List.take_append, List.take_append, List.take_take, Nat.min_self, List.length_take]
  congr 1
  by_cases h : L.length ≤ n
  · rw [Nat.min_eq_right h]
  · rw [Nat.min_eq_left (by omega), Nat.sub_self, Nat.sub_eq_zero_of_le (by omega)]
theorem rpt_s (n : Nat) (U : List St) : rpt (n + 1) U = U ++ rpt n U := by unfold rpt; rw [List.replicate_succ, List.flatten_cons]
theorem rpt_e (n : Nat) (U : List St) : rpt (n + 1) U = rpt n U ++ U := by
  induction n with
  | zero => rw [rpt_s]; show U ++ [] = [] ++ U; simp
  | succ n ih => rw [rpt_s (n + 1), ih, ← List.append_assoc, ← rpt_s n, ih]
/-- a body that is cut, repeated and cut, is the whole repeated and cut -/
theorem tk_rpt {N : Nat} {L U : List St} : ∀ t, (L.take N ++ rpt t (U.take (N - (L.take N).length))).take N = (L ++ rpt t U).take N := by
  by_cases h : N ≤ L.length
  · intro t
    have e : (L.take N).length = N := by rw [List.length_take]; omega
    rw [List.take_append_of_le_length (by omega), List.take_take, Nat.min_self, List.take_append_of_le_length h]
  · have e : L.take N = L := List.take_of_length_le (by omega)
    rw [e]
    by_cases h2 : L.length + U.length ≤ N
    · intro t; rw [List.take_of_length_le (l := U) (by omega)]
    · intro t
      cases t with
      | zero => rfl
      | succ t =>
        rw [rpt_s, rpt_s, ← List.append_assoc, ← List.append_assoc]
        have l1 : (L ++ U.take (N - L.length)).length = N := by rw [List.length_append, List.length_take]; omega
        rw [List.take_append_of_le_length (by omega), List.take_append_of_le_length (l₁ := L ++ U) (by rw [List.length_append]; omega)]
        rw [List.take_append, List.take_append, List.take_take, Nat.min_self]
