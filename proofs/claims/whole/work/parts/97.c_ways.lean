/-! ===== WAYS, plain ===== -/
/-- taking: the item, what stays -/
theorem take_f {bits limit : Nat} {A : Qs} (hI1 : qI bits limit A) (hne : qN A ≠ []) :
    qTop bits A ∈ qN A ∧ qK (qTake bits A) = qK A ∧ qL (qTake bits A) = qK A (qTop bits A) ∧ qTop bits A < qC A ∧ ∀ x, x ∈ qN (qTake bits A) ↔ x ∈ qN A ∧ x ≠ qTop bits A := by
  obtain ⟨r1, r2, r3, r4, r5, r6⟩ := rdy_spec hI1 hne
  have eK : qK (qRdy bits A) = qK A := by unfold qRdy; split <;> rfl
  have eS : qS (qRdy bits A) = qS A := by unfold qRdy; split <;> rfl
  have hm : ∀ x, x ∈ qN (qRdy bits A) ↔ x ∈ qN A := fun x => by
    rw [r1.2.2.2.2.2.2.2.1 x, hI1.2.2.2.2.2.2.2.1 x, r5, eS]
  have ht : qTop bits A ∈ qN (qRdy bits A) := by
    unfold qTop
    cases hN : qN (qRdy bits A) with
    | nil => exact absurd hN r3
    | cons y r => exact List.mem_cons_self ..
  have hl := r1.2.2.2.2.2.2.2.2.2.1 _ ht
  have h0 : qW (qRdy bits A) (qTop bits A) = 0 := r2
  rw [h0] at hl
  have hz := (bk_z (by have := hI1.1; omega) hl.2).mp hl.1.symm
  have hT1 := qI_take hI1 hne
  refine ⟨(hm _).mp ht, eK, by show qL (qRdy bits A) = _; rw [← hz, eK], ((hI1.2.2.2.2.2.2.2.1 _).mp ((hm _).mp ht)).1, fun x => ?_⟩
  rw [hT1.1.2.2.2.2.2.2.2.1 x, hT1.2.1, hI1.2.2.2.2.2.2.2.1 x]
  have e : qS (qTake bits A) x = va_up (qS A) (qTop bits A) 1 x := by show va_up (qS (qRdy bits A)) _ 1 x = _; rw [eS]; rfl
  rw [e, va_upE]
  by_cases z : x = qTop bits A
  · rw [if_pos z]; exact ⟨fun q => absurd q.2 (by decide), fun q => absurd z q.2⟩
  · rw [if_neg z]; exact ⟨fun q => ⟨q, z⟩, fun q => q.1⟩
theorem add_N {bits key x : Nat} {A : Qs} : x ∈ qN (qAdd bits key A) ↔ x = qC A ∨ x ∈ qN A := by
  show x ∈ insB _ _ _ _ ↔ _
  rw [mem_insB]
theorem low_mem {bits i key x : Nat} {A : Qs} (hI1 : qI bits 16 A) (hi : i ∈ qN A) : x ∈ qN (qLow bits i key A) ↔ x ∈ qN A := by
  unfold qLow
  by_cases e : bk bits (qL A) key = qW A i
  · rw [if_pos e]; exact Iff.rfl
  · rw [if_neg e]
    show x ∈ insB _ _ _ _ ↔ _
    rw [mem_insB, hI1.2.2.2.2.2.2.1.mem_erase_iff]
    by_cases z : x = i
    · rw [z]; exact ⟨fun _ => hi, fun _ => .inl rfl⟩
    · exact ⟨fun q => by rcases q with q | q; exact absurd q z; exact q.2, fun q => .inr ⟨z, q⟩⟩
theorem low_K {bits i key : Nat} {A : Qs} : qK (qLow bits i key A) = va_up (qK A) i key := by
  unfold qLow
  by_cases e : bk bits (qL A) key = qW A i
  · rw [if_pos e]; rfl
  · rw [if_neg e]; rfl
theorem low_L {bits i key : Nat} {A : Qs} : qL (qLow bits i key A) = qL A := by
  unfold qLow
  by_cases e : bk bits (qL A) key = qW A i
  · rw [if_pos e]; rfl
  · rw [if_neg e]; rfl
/-- queue, items of nodes, nodes of items, by, rank, lessened, reached, most waiting -/
abbrev WT : Type := Qs × (Nat → Option Nat) × (Nat → Nat) × (Nat → Option Nat) × (Nat → Option Nat) × (Nat → Nat) × Nat × Nat
def wQ (w : WT) : Qs := w.1
def wI (w : WT) : Nat → Option Nat := w.2.1
def wO (w : WT) : Nat → Nat := w.2.2.1
def wB (w : WT) : Nat → Option Nat := w.2.2.2.1
def wR (w : WT) : Nat → Option Nat := w.2.2.2.2.1
def wL (w : WT) : Nat → Nat := w.2.2.2.2.2.1
def wN (w : WT) : Nat := w.2.2.2.2.2.2.1
def wM (w : WT) : Nat := w.2.2.2.2.2.2.2
def wCome (bits n k : Nat) (w : WT) : WT := (qAdd bits k (wQ w), va_up (wI w) n (some (qC (wQ w))), va_up (wO w) (qC (wQ w)) n, wB w, wR w, wL w, wN w, wM w)
def wTry (bits nd to far : Nat) (w : WT) : WT := match wI w to with
  | none => (qAdd bits far (wQ w), va_up (wI w) to (some (qC (wQ w))), va_up (wO w) (qC (wQ w)) to, va_up (wB w) to (some nd), wR w, wL w, wN w, wM w)
  | some i => if far < qK (wQ w) i then (qLow bits i far (wQ w), wI w, wO w, va_up (wB w) to (some nd), wR w, va_up (wL w) to (wL w to + 1), wN w, wM w) else w
def wEd (bits nd : Nat) (e : Ed) (w : WT) : WT := if e.1 = nd ∧ wR w e.2.1 = none then wTry bits nd e.2.1 (qL (wQ w) + e.2.2) w else w
def wFol (bits nd : Nat) : List Ed → WT → WT
  | [], w => w
  | e :: r, w => wFol bits nd r (wEd bits nd e w)
def wTake (bits : Nat) (w : WT) : WT := (qTake bits (wQ w), wI w, wO w, wB w, va_up (wR w) (wO w (qTop bits (wQ w))) (some (wN w)), wL w, wN w + 1, wM w)
def wMost (w : WT) : WT := (wQ w, wI w, wO w, wB w, wR w, wL w, wN w, max (wM w) (qN (wQ w)).length)
def wTurn (bits : Nat) (E : List Ed) (w : WT) : WT := wMost (wFol bits (wO w (qTop bits (wQ w))) E (wTake bits w))
def wGo (bits : Nat) (E : List Ed) : Nat → WT → WT
  | 0, w => w
  | n + 1, w => if (qN (wQ w)).length = 0 then w else wGo bits E n (wTurn bits E w)
def w0 : WT := (q0, fun _ => none, fun _ => 0, fun _ => none, fun _ => none, fun _ => 0, 0, 1)
def wAll (bits nd : Nat) (E : List Ed) : WT := wGo bits E 16 (wCome bits nd 0 w0)
/-- what holds all the way -/
def wOK (bits T : Nat) (w : WT) : Prop := qI bits 16 (wQ w) ∧ (∀ i, i < qC (wQ w) → wO w i < 16 ∧ wI w (wO w i) = some i) ∧ (∀ n i, n < 16 → wI w n = some i → i < qC (wQ w) ∧ wO w i = n) ∧
  (qN (wQ w)).length + wN w = qC (wQ w) ∧ (∀ n i, n < 16 → wI w n = some i → (wR w n = none ↔ i ∈ qN (wQ w))) ∧ (∀ n, n < 16 → wI w n = none → wR w n = none) ∧ (∀ n r, n < 16 → wR w n = some r → r < wN w) ∧
  (∀ i, i < qC (wQ w) → qK (wQ w) i ≤ wN w * 1000000000) ∧ qL (wQ w) ≤ wN w * 1000000000 ∧
  (∀ n b, n < 16 → wB w n = some b → b < 16 ∧ ∃ r, wR w b = some r ∧ ∀ r', wR w n = some r' → r < r') ∧ (∀ i, i < qC (wQ w) → qM (wQ w) i ≤ T) ∧ ∀ n, n < 16 → wL w n ≤ T
theorem php {N : Nat} : ∀ (n : Nat) (f : Nat → Nat), (∀ i, i < n → f i < N) → (∀ i j, i < n → j < n → f i = f j → i = j) → n ≤ N := by
  intro n f h1 h2
  have hnd : ((List.range n).map f).Nodup := by
    rw [List.nodup_iff_pairwise_ne, List.pairwise_map]
    refine List.Pairwise.imp_of_mem (fun ha hb hab => ?_) List.pairwise_lt_range
    intro e
    have := h2 _ _ (List.mem_range.mp ha) (List.mem_range.mp hb) e
    omega
  have h16 : ∀ y, y ∈ (List.range n).map f → y < N := fun y hy => by
    obtain ⟨i, hi, e⟩ := List.mem_map.mp hy
    rw [← e]; exact h1 i (List.mem_range.mp hi)
  have e1 := sw_eq (f := fun _ => 1) N _ hnd h16
  have sl1 : ∀ (M : List Nat) (k : Nat), sw M (fun _ => 1) k ≤ k := fun M k => by
    induction k with
    | zero => exact Nat.le_refl _
    | succ k ih => show sw M (fun _ => 1) k + (if _ then 1 else 0) ≤ k + 1; split <;> omega
  have := sl1 ((List.range n).map f) N
  rw [e1, sl_one, List.length_map, List.length_range] at this
  exact this
theorem wOK_room {bits T n : Nat} {w : WT} (hw : wOK bits T w) (hn : n < 16) (h0 : wI w n = none) : qC (wQ w) < 16 := by
  have a := hw.2.1
  have := php (N := 16) (qC (wQ w) + 1) (fun i => if i = qC (wQ w) then n else wO w i) (fun i hi => by
    show (if _ then n else wO w i) < 16
    split
    · exact hn
    · exact (a i (by omega)).1) (fun i j hi hj e => by
    have e : (if i = qC (wQ w) then n else wO w i) = (if j = qC (wQ w) then n else wO w j) := e
    by_cases c1 : i = qC (wQ w)
    · by_cases c2 : j = qC (wQ w)
      · omega
      · rw [if_pos c1, if_neg c2] at e
        have := (a j (by omega)).2
        rw [← e, h0] at this
        cases this
    · by_cases c2 : j = qC (wQ w)
      · rw [if_neg c1, if_pos c2] at e
        have := (a i (by omega)).2
        rw [e, h0] at this
        cases this
      · rw [if_neg c1, if_neg c2] at e
        have q1 := (a i (by omega)).2
        have q2 := (a j (by omega)).2
        rw [e, q2] at q1
        cases q1
        rfl)
  omega
theorem wOK_come {bits T n k : Nat} {w : WT} (hw : wOK bits T w) (hn : n < 16) (h0 : wI w n = none) (hk : qL (wQ w) ≤ k) (hk2 : k ≤ wN w * 1000000000) (hN : wN w ≤ 16) : wOK bits (T + 1) (wCome bits n k w) := by
  have hr := wOK_room hw hn h0
  obtain ⟨a1, a2, a3, a4, a5, a6, a7, a8, a9, b1, b2, b3⟩ := hw
  have hq := qI_line a1
  refine ⟨qI_add a1 (by omega) hk hr, fun i hi => ?_, fun j i hj hi => ?_, ?_, fun j i hj hi => ?_, fun j hj hi => ?_, a7, fun i hi => ?_, a9, b1, fun i hi => ?_, fun j hj => Nat.le_succ_of_le (b3 j hj)⟩
  · have hi : i < qC (wQ w) + 1 := hi
    show va_up (wO w) (qC (wQ w)) n i < 16 ∧ va_up (wI w) n (some (qC (wQ w))) (va_up (wO w) (qC (wQ w)) n i) = some i
    by_cases c : i = qC (wQ w)
    · rw [c, va_up_self, va_up_self]; exact ⟨hn, rfl⟩
    · rw [va_up_ne _ _ c]
      have := a2 i (by omega)
      refine ⟨this.1, ?_⟩
      rw [va_up_ne _ _ (fun q => by rw [q, h0] at this; cases this.2)]
      exact this.2
  · have hi : va_up (wI w) n (some (qC (wQ w))) j = some i := hi
    show i < qC (wQ w) + 1 ∧ va_up (wO w) (qC (wQ w)) n i = j
    by_cases c : j = n
    · rw [c, va_up_self] at hi
      cases hi
      rw [va_up_self]; exact ⟨by omega, c.symm⟩
    · rw [va_up_ne _ _ c] at hi
      have := a3 j i hj hi
      rw [va_up_ne _ _ (by omega)]; exact ⟨by omega, this.2⟩
  · show (insB _ _ _ _).length + wN w = qC (wQ w) + 1
    rw [insB_len]; omega
  · have hi : va_up (wI w) n (some (qC (wQ w))) j = some i := hi
    show wR w j = none ↔ i ∈ qN (qAdd bits k (wQ w))
    rw [add_N]
    by_cases c : j = n
    · rw [c, va_up_self] at hi
      cases hi
      exact ⟨fun _ => .inl rfl, fun _ => by rw [c]; exact a6 n hn h0⟩
    · rw [va_up_ne _ _ c] at hi
      have := (a3 j i hj hi).1
      rw [a5 j i hj hi]
      exact ⟨.inr, fun q => by rcases q with q | q; omega; exact q⟩
  · have hi : va_up (wI w) n (some (qC (wQ w))) j = none := hi
    by_cases c : j = n
    · rw [c, va_up_self] at hi; cases hi
    · rw [va_up_ne _ _ c] at hi; exact a6 j hj hi
  · have hi : i < qC (wQ w) + 1 := hi
    show va_up _ _ _ i ≤ _
    rw [va_upE]; split
    · exact hk2
    · exact a8 i (by omega)
  · have hi : i < qC (wQ w) + 1 := hi
    show va_up _ _ _ i ≤ _
    rw [va_upE]; split
    · omega
    · have := b2 i (by omega); omega
/-- by, set for a node not yet reached -/
theorem wOK_by {bits T n b : Nat} {w : WT} (hw : wOK bits T w) (hn : n < 16) (hb : b < 16) (hr : wR w b ≠ none) (hu : wR w n = none) : wOK bits T (wQ w, wI w, wO w, va_up (wB w) n (some b), wR w, wL w, wN w, wM w) := by
  obtain ⟨a1, a2, a3, a4, a5, a6, a7, a8, a9, b1, b2, b3⟩ := hw
  refine ⟨a1, a2, a3, a4, a5, a6, a7, a8, a9, fun j c hj hc => ?_, b2, b3⟩
  have hc : va_up (wB w) n (some b) j = some c := hc
  by_cases e : j = n
  · rw [e, va_up_self] at hc
    cases hc
    cases hrb : wR w b with
    | none => exact absurd hrb hr
    | some r => exact ⟨hb, r, hrb, fun r' hr' => by have hr' : wR w j = some r' := hr'; rw [e, hu] at hr'; cases hr'⟩
  · rw [va_up_ne _ _ e] at hc
    exact b1 j c hj hc
theorem wOK_low {bits T n i k : Nat} {w : WT} (hw : wOK bits T w) (hn : n < 16) (h0 : wI w n = some i) (hu : wR w n = none) (hk : qL (wQ w) ≤ k) (hlt : k < qK (wQ w) i) : wOK bits (T + 1) (qLow bits i k (wQ w), wI w, wO w, wB w, wR w, va_up (wL w) n (wL w n + 1), wN w, wM w) := by
  obtain ⟨a1, a2, a3, a4, a5, a6, a7, a8, a9, b1, b2, b3⟩ := hw
  have hi := (a5 n i hn h0).mp hu
  have hC := (a3 n i hn h0).1
  have kb := a1.2.2.2.2.2.1 i hC
  have k8 := a8 i hC
  refine ⟨qI_low a1 hi (by omega) hk, fun j hj => ?_, fun j e hj he => ?_, ?_, fun j e hj he => ?_, a6, a7, fun j hj => ?_, ?_, b1, fun j hj => ?_, fun j hj => ?_⟩
  · have hj : j < qC (qLow bits i k (wQ w)) := hj
    rw [low_C] at hj; exact a2 j hj
  · show e < qC (qLow bits i k (wQ w)) ∧ _
    rw [low_C]; exact a3 j e hj he
  · show (qN (qLow bits i k (wQ w))).length + wN w = qC (qLow bits i k (wQ w))
    rw [low_C, low_N hi]; exact a4
  · show wR w j = none ↔ e ∈ qN (qLow bits i k (wQ w))
    rw [low_mem a1 hi]; exact a5 j e hj he
  · have hj : j < qC (qLow bits i k (wQ w)) := hj
    rw [low_C] at hj
    show qK (qLow bits i k (wQ w)) j ≤ _
    rw [low_K, va_upE]; split
    · show k ≤ wN w * 1000000000; omega
    · exact a8 j hj
  · show qL (qLow bits i k (wQ w)) ≤ _
    rw [low_L]; exact a9
  · have hj : j < qC (qLow bits i k (wQ w)) := hj
    rw [low_C] at hj
    have h1 := low_M (bits := bits) (i := i) (key := k) (j := j) (A := wQ w)
    have := b2 j hj
    show qM (qLow bits i k (wQ w)) j ≤ T + 1
    omega
  · show va_up _ _ _ j ≤ T + 1
    rw [va_upE]; split
    · have := b3 n hn; omega
    · have := b3 j hj; omega
theorem wOK_up {bits T T' : Nat} {w : WT} (h : T ≤ T') (hw : wOK bits T w) : wOK bits T' w := by
  obtain ⟨a1, a2, a3, a4, a5, a6, a7, a8, a9, b1, b2, b3⟩ := hw
  exact ⟨a1, a2, a3, a4, a5, a6, a7, a8, a9, b1, fun i hi => Nat.le_trans (b2 i hi) h, fun i hi => Nat.le_trans (b3 i hi) h⟩
theorem wTry_none {bits nd to far : Nat} {w : WT} (h : wI w to = none) : wTry bits nd to far w = (qAdd bits far (wQ w), va_up (wI w) to (some (qC (wQ w))), va_up (wO w) (qC (wQ w)) to, va_up (wB w) to (some nd), wR w, wL w, wN w, wM w) := by unfold wTry; rw [h]
theorem wTry_lt {bits nd to far i : Nat} {w : WT} (h : wI w to = some i) (hl : far < qK (wQ w) i) : wTry bits nd to far w = (qLow bits i far (wQ w), wI w, wO w, va_up (wB w) to (some nd), wR w, va_up (wL w) to (wL w to + 1), wN w, wM w) := by
  unfold wTry; rw [h]; show (if _ then _ else _) = _; rw [if_pos hl]
theorem wTry_ge {bits nd to far i : Nat} {w : WT} (h : wI w to = some i) (hl : ¬ far < qK (wQ w) i) : wTry bits nd to far w = w := by
  unfold wTry; rw [h]; show (if _ then _ else _) = _; rw [if_neg hl]
theorem wOK_try {bits T nd to far : Nat} {w : WT} (hw : wOK bits T w) (hN : wN w ≤ 16) (hnd : nd < 16) (hto : to < 16) (hr : wR w nd ≠ none) (hu : wR w to = none) (hk : qL (wQ w) ≤ far) (hk2 : far ≤ wN w * 1000000000) : wOK bits (T + 1) (wTry bits nd to far w) := by
  cases h0 : wI w to with
  | none =>
    rw [wTry_none h0]
    exact wOK_by (w := wCome bits to far w) (wOK_come hw hto h0 hk hk2 hN) hto hnd hr hu
  | some i =>
    by_cases hl : far < qK (wQ w) i
    · rw [wTry_lt h0 hl]
      exact wOK_by (w := (qLow bits i far (wQ w), wI w, wO w, wB w, wR w, va_up (wL w) to (wL w to + 1), wN w, wM w)) (wOK_low hw hto h0 hu hk hl) hto hnd hr hu
    · rw [wTry_ge h0 hl]; exact wOK_up (by omega) hw
theorem wTry_R {bits nd to far : Nat} {w : WT} : wR (wTry bits nd to far w) = wR w ∧ wN (wTry bits nd to far w) = wN w ∧ qL (wQ (wTry bits nd to far w)) = qL (wQ w) := by
  cases h0 : wI w to with
  | none => rw [wTry_none h0]; exact ⟨rfl, rfl, rfl⟩
  | some i =>
    by_cases hl : far < qK (wQ w) i
    · rw [wTry_lt h0 hl]; exact ⟨rfl, rfl, low_L⟩
    · rw [wTry_ge h0 hl]; exact ⟨rfl, rfl, rfl⟩
