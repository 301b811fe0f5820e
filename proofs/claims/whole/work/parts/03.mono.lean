section PMM
variable {js : List (List Nat)} {hd : Nat → Option (Nat × Nat)} {K K' : pm_K} {C C' : pm_C} {Q Q' : pm_Q}
theorem pm_call_mono (hK : ∀ bc bs pc ls st h, K bc bs pc ls st h → K' bc bs pc ls st h) (hC : ∀ y as h q q', (∀ r h, q r h → q' r h) → C y as h q → C' y as h q') (hQ : ∀ r h, Q r h → Q' r h)
    {k k' : pm_k} (hk : ∀ bc bs ls st h, k bc bs ls st h → k' bc bs ls st h) {y cc cs bc bs : Nat} {ls : pm_L} {as : List Value} {r : pm_S} {h : pm_H} :
    pm_call hd K C Q y cc cs k bc bs ls as r h → pm_call hd K' C' Q' y cc cs k' bc bs ls as r h := by
  intro H
  refine ⟨H.1, H.2.1, H.2.2.1, hC _ _ _ _ _ ?_ H.2.2.2⟩
  intro res h' H2
  cases res with
  | inl v => exact hk _ _ _ _ _ H2
  | inr E =>
    dsimp only at H2 ⊢
    cases he : hd E with
    | none => rw [he] at H2; exact hQ _ _ H2
    | some q => rw [he] at H2; exact hK _ _ _ _ _ _ H2
set_option maxHeartbeats 4000000 in
theorem pm_1_mono (hK : ∀ bc bs pc ls st h, K bc bs pc ls st h → K' bc bs pc ls st h) (hC : ∀ y as h q q', (∀ r h, q r h → q' r h) → C y as h q → C' y as h q') (hQ : ∀ r h, Q r h → Q' r h)
    {k k' : pm_k} (hk : ∀ bc bs ls st h, k bc bs ls st h → k' bc bs ls st h) {o : pm_O} {bc bs : Nat} {ls : pm_L} {st : pm_S} {h : pm_H} :
    pm_1 js hd K C Q o k bc bs ls st h → pm_1 js hd K' C' Q' o k' bc bs ls st h := by
  obtain ⟨i, a, b, c, d, e⟩ := o
  have hcall := @pm_call_mono hd K K' C C' Q Q' hK hC hQ k k' hk
  cases i with
  | ifCond cd off => cases cd <;> (simp only [pm_1]; split <;> (try split) <;> first | exact id | exact hK _ _ _ _ _ _ | exact hk _ _ _ _ _)
  | if_icmp cd off => cases cd <;> (simp only [pm_1]; split <;> (try split) <;> first | exact id | exact hK _ _ _ _ _ _ | exact hk _ _ _ _ _)
  | getfield ix =>
    simp only [pm_1]
    split
    · refine fun H => ⟨H.1, ?_⟩
      have H2 := H.2
      split
      · rw [if_pos (by assumption)] at H2; exact hk _ _ _ _ _ H2
      · rw [if_neg (by assumption)] at H2
        split
        · rw [if_pos (by assumption)] at H2; exact hk _ _ _ _ _ H2
        · rw [if_neg (by assumption)] at H2; exact ⟨H2.1, hk _ _ _ _ _ H2.2⟩
    · exact id
  | tableswitch df lo hi offs =>
    simp only [pm_1]
    split
    · split
      · exact hK _ _ _ _ _ _
      · split <;> first | exact id | exact hK _ _ _ _ _ _
    · exact id
  | invokespecial ix =>
    simp only [pm_1]
    split
    · split <;> first | exact id | exact fun H => ⟨H.1, hk _ _ _ _ _ H.2⟩
    · split <;> first | exact id | exact hcall
  | invokevirtual ix =>
    simp only [pm_1]
    split
    · split <;> first | exact id | exact fun H => ⟨H.1, H.2.1, H.2.2.1, hk _ _ _ _ _ H.2.2.2⟩
    · split
      · split <;> first | exact id | exact fun H => ⟨H.1, H.2.1, H.2.2.1, H.2.2.2.1, hk _ _ _ _ _ H.2.2.2.2⟩
      · split <;> first | exact id | exact fun H => ⟨H.1, hcall H.2⟩
  | invokestatic ix =>
    simp only [pm_1]
    split
    · split <;> first | exact id | exact fun H => ⟨H.1, hk _ _ _ _ _ H.2⟩
    · split
      · split <;> first | exact id | exact fun H => ⟨H.1, hk _ _ _ _ _ H.2⟩
      · split
        · split <;> first | exact id | exact fun H => ⟨H.1, hk _ _ _ _ _ H.2⟩
        · split
          · split <;> first | exact id | exact fun H => ⟨H.1, H.2.1, H.2.2.1, H.2.2.2.1, H.2.2.2.2.1, H.2.2.2.2.2.1, H.2.2.2.2.2.2.1, H.2.2.2.2.2.2.2.1, hk _ _ _ _ _ H.2.2.2.2.2.2.2.2⟩
          · split
            · split <;> first | exact id | exact fun H => ⟨H.1, H.2.1, H.2.2.1, H.2.2.2.1, H.2.2.2.2.1, H.2.2.2.2.2.1, H.2.2.2.2.2.2.1, H.2.2.2.2.2.2.2.1, hk _ _ _ _ _ H.2.2.2.2.2.2.2.2⟩
            · split <;> first | exact id | exact hcall
  | _ =>
    simp only [pm_1]
    first
    | exact id
    | exact hK _ _ _ _ _ _
    | exact hk _ _ _ _ _
    | (split <;> first | exact id | exact hk _ _ _ _ _ | exact hQ _ _ | exact fun H => ⟨H.1, hk _ _ _ _ _ H.2⟩ | exact fun H => ⟨H.1, hQ _ _ H.2⟩ | exact fun H => ⟨H.1, H.2.1, hk _ _ _ _ _ H.2.2⟩ | exact fun H => ⟨H.1, H.2.1, H.2.2.1, hQ _ _ H.2.2.2⟩ | exact fun H => ⟨H.1, H.2.1, H.2.2.1, hk _ _ _ _ _ H.2.2.2⟩ | exact fun H => ⟨H.1, H.2.1, H.2.2.1, H.2.2.2.1, hk _ _ _ _ _ H.2.2.2.2⟩ | exact fun H => ⟨H.1, H.2.1, H.2.2.1, H.2.2.2.1, H.2.2.2.2.1, hk _ _ _ _ _ H.2.2.2.2.2⟩ | exact fun H => ⟨H.1, H.2.1, H.2.2.1, H.2.2.2.1, H.2.2.2.2.1, H.2.2.2.2.2.1, H.2.2.2.2.2.2.1, hk _ _ _ _ _ H.2.2.2.2.2.2.2⟩)
theorem pm_ops_mono (hK : ∀ bc bs pc ls st h, K bc bs pc ls st h → K' bc bs pc ls st h) (hC : ∀ y as h q q', (∀ r h, q r h → q' r h) → C y as h q → C' y as h q') (hQ : ∀ r h, Q r h → Q' r h) (nx : Nat) :
    ∀ (l : List pm_O) (bc bs : Nat) (ls : pm_L) (st : pm_S) (h : pm_H), pm_ops js hd K C Q nx l bc bs ls st h → pm_ops js hd K' C' Q' nx l bc bs ls st h
  | [], _, _, _, _, _ => hK _ _ _ _ _ _
  | _ :: r, _, _, _, _, _ => pm_1_mono hK hC hQ (pm_ops_mono hK hC hQ nx r)
theorem pm_lfp_mono {pg : Nat → List pm_O × Nat} (hC : ∀ y as h q q', (∀ r h, q r h → q' r h) → C y as h q → C' y as h q') (hQ : ∀ r h, Q r h → Q' r h) (bc bs pc : Nat) (ls : pm_L) (st : pm_S) (h : pm_H)
    (H : pm_lfp js hd pg C Q bc bs pc ls st h) : pm_lfp js hd pg C' Q' bc bs pc ls st h := by
  intro X hX
  exact H X fun bc bs pc ls st h q => hX _ _ _ _ _ _ (pm_ops_mono (fun _ _ _ _ _ _ z => z) hC hQ _ _ _ _ _ _ _ q)
theorem pm_lfp_fold {pg : Nat → List pm_O × Nat} (hC : ∀ y as h q q', (∀ r h, q r h → q' r h) → C y as h q → C y as h q') (bc bs pc : Nat) (ls : pm_L) (st : pm_S) (h : pm_H)
    (H : pm_ops js hd (pm_lfp js hd pg C Q) C Q (pg pc).2 (pg pc).1 bc bs ls st h) : pm_lfp js hd pg C Q bc bs pc ls st h := by
  intro X hX
  exact hX _ _ _ _ _ _ (pm_ops_mono (fun _ _ _ _ _ _ z => z X hX) hC (fun _ _ z => z) _ _ _ _ _ _ _ H)
theorem pm_lfp_unfold {pg : Nat → List pm_O × Nat} (hC : ∀ y as h q q', (∀ r h, q r h → q' r h) → C y as h q → C y as h q') (bc bs pc : Nat) (ls : pm_L) (st : pm_S) (h : pm_H)
    (H : pm_lfp js hd pg C Q bc bs pc ls st h) : pm_ops js hd (pm_lfp js hd pg C Q) C Q (pg pc).2 (pg pc).1 bc bs ls st h :=
  H (fun bc bs pc ls st h => pm_ops js hd (pm_lfp js hd pg C Q) C Q (pg pc).2 (pg pc).1 bc bs ls st h) fun _ _ _ _ _ _ q => pm_ops_mono (fun _ _ _ _ _ _ z => pm_lfp_fold hC _ _ _ _ _ _ z) hC (fun _ _ z => z) _ _ _ _ _ _ _ q
end PMM
theorem pm_M_mono (P : pm_P) : ∀ (d : Nat) (y : Nat) (as : List Value) (h : pm_H) (q q' : pm_Q), (∀ r h, q r h → q' r h) → pm_M P d y as h q → pm_M P d y as h q'
  | 0, _, _, _, _, _, _ => id
  | d + 1, y, as, h, q, q', hq => by
    intro H
    have H2 : pm_W P d y q (P.2.2.2.2.1 y) (P.2.2.2.2.2 y) 0 (pm_in (P.2.2.2.1 y) as) [] h := H.2
    refine ⟨H.1, ?_⟩
    show pm_W P d y q' (P.2.2.2.2.1 y) (P.2.2.2.2.2 y) 0 (pm_in (P.2.2.2.1 y) as) [] h
    rw [pm_W_eq] at H2 ⊢
    exact pm_lfp_mono (C := pm_M P d) (C' := pm_M P d) (pm_M_mono P d) hq _ _ _ _ _ _ H2
theorem pm_M_succ (P : pm_P) : ∀ (d : Nat) (y : Nat) (as : List Value) (h : pm_H) (q : pm_Q), pm_M P d y as h q → pm_M P (d + 1) y as h q
  | 0, _, _, _, _ => False.elim
  | d + 1, y, as, h, q => by
    intro H
    have H2 : pm_W P d y q (P.2.2.2.2.1 y) (P.2.2.2.2.2 y) 0 (pm_in (P.2.2.2.1 y) as) [] h := H.2
    refine ⟨H.1, ?_⟩
    show pm_W P (d + 1) y q (P.2.2.2.2.1 y) (P.2.2.2.2.2 y) 0 (pm_in (P.2.2.2.1 y) as) [] h
    rw [pm_W_eq] at H2 ⊢
    exact pm_lfp_mono (C := pm_M P d) (C' := pm_M P (d + 1)) (fun y as h q q' z w => pm_M_mono P (d + 1) y as h q q' z (pm_M_succ P d y as h q w)) (fun _ _ z => z) _ _ _ _ _ _ H2
/-- a block: the goal at pc is the goal of its row of instructions -/
theorem pm_go (P : pm_P) (d y : Nat) (Q : pm_Q) (bc bs pc : Nat) (ls : pm_L) (st : pm_S) (h : pm_H) : pm_W P d y Q bc bs pc ls st h ↔ pm_ops P.1 (P.2.1 y) (pm_W P d y Q) (pm_M P d) Q (P.2.2.1 y pc).2 (P.2.2.1 y pc).1 bc bs ls st h := by
  rw [pm_W_eq]
  exact ⟨pm_lfp_unfold (C := pm_M P d) (pm_M_mono P d) _ _ _ _ _ _, pm_lfp_fold (C := pm_M P d) (pm_M_mono P d) _ _ _ _ _ _⟩
