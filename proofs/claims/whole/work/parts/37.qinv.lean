/-! ===== a queue keeps what holds of it ===== -/
theorem mem_insB {W : Nat → Nat} {b i x : Nat} : ∀ {L : List Nat}, x ∈ insB W b i L ↔ x = i ∨ x ∈ L
  | [] => by
    show x ∈ [i] ↔ _
    rw [List.mem_singleton]
    exact ⟨.inl, fun z => z.resolve_right List.not_mem_nil⟩
  | y :: r => by
    show x ∈ (if W y ≤ b then y :: insB W b i r else i :: y :: r) ↔ _
    split
    · rw [List.mem_cons, mem_insB, List.mem_cons]
      exact ⟨fun z => by rcases z with z | z | z <;> simp [z], fun z => by rcases z with z | z | z <;> simp [z]⟩
    · rw [List.mem_cons]
theorem nodup_insB {W : Nat → Nat} {b i : Nat} : ∀ {L : List Nat}, L.Nodup → i ∉ L → (insB W b i L).Nodup
  | [], _, _ => List.nodup_cons.mpr ⟨List.not_mem_nil, List.nodup_nil⟩
  | y :: r, h, hi => by
    show (if W y ≤ b then y :: insB W b i r else i :: y :: r).Nodup
    have h1 := List.nodup_cons.mp h
    split
    · refine List.nodup_cons.mpr ⟨fun q => ?_, nodup_insB h1.2 (fun q => hi (List.mem_cons_of_mem _ q))⟩
      rcases mem_insB.mp q with q | q
      · exact hi (by rw [q]; exact List.mem_cons_self ..)
      · exact h1.1 q
    · exact List.nodup_cons.mpr ⟨hi, h⟩
theorem sorted_insB {W : Nat → Nat} {b i : Nat} : ∀ {L : List Nat}, L.Pairwise (fun x y => W x ≤ W y) → i ∉ L → (insB W b i L).Pairwise (fun x y => va_up W i b x ≤ va_up W i b y)
  | [], _, _ => List.pairwise_singleton ..
  | y :: r, h, hi => by
    show (if W y ≤ b then y :: insB W b i r else i :: y :: r).Pairwise _
    have h1 := List.pairwise_cons.mp h
    have hy : y ≠ i := fun q => hi (by rw [q]; exact List.mem_cons_self ..)
    have hr : ∀ x, x ∈ r → x ≠ i := fun x hx q => hi (by rw [← q]; exact List.mem_cons_of_mem _ hx)
    split
    · rename_i hb
      refine List.pairwise_cons.mpr ⟨fun x hx => ?_, sorted_insB h1.2 (fun q => hi (List.mem_cons_of_mem _ q))⟩
      rw [va_up_ne _ _ hy]
      rcases mem_insB.mp hx with e | e
      · rw [e, va_up_self]; exact hb
      · rw [va_up_ne _ _ (hr x e)]; exact h1.1 x e
    · rename_i hb
      refine List.pairwise_cons.mpr ⟨fun x hx => ?_, List.Pairwise.imp_of_mem (fun {x z} hx hz q => ?_) h⟩
      · rw [va_up_self]
        rcases List.mem_cons.mp hx with e | e
        · rw [e, va_up_ne _ _ hy]; omega
        · rw [va_up_ne _ _ (hr x e)]; have := h1.1 x e; omega
      · have a1 : x ≠ i := fun q => hi (by rw [← q]; exact hx)
        have a2 : z ≠ i := fun q => hi (by rw [← q]; exact hz)
        rw [va_up_ne _ _ a1, va_up_ne _ _ a2]; exact q
theorem qI_add {bits limit key : Nat} {A : Qs} (hI : qI bits limit A) (hk : key < 2 ^ 40) (h1 : qL A ≤ key) (h2 : qC A < limit) : qI bits limit (qAdd bits key A) := by
  have hq := qI_line hI
  obtain ⟨i1, i2, i3, i4, i5, i6, i7, i8, i9, i10, i11, i12⟩ := hI
  have hn : qC A ∉ qN A := fun q => by have := (hq _ q).1; omega
  refine ⟨i1, i2, h2, i4, i5, ?_, nodup_insB i7 hn, ?_, sorted_insB i9 hn, ?_, ?_, ?_⟩
  · intro i hi
    show va_up (qK A) (qC A) key i < _
    rw [va_upE]
    split
    · exact hk
    · exact i6 i (by have : i < qC A + 1 := hi; omega)
  · intro i
    show i ∈ insB (qW A) (bk bits (qL A) key) (qC A) (qN A) ↔ i < qC A + 1 ∧ va_up (qS A) (qC A) 0 i = 0
    rw [mem_insB, va_upE, i8]
    by_cases e : i = qC A
    · rw [if_pos e]; exact ⟨fun _ => ⟨by omega, rfl⟩, fun _ => .inl e⟩
    · rw [if_neg e]
      exact ⟨fun q => ⟨by have := (q.resolve_left e).1; omega, (q.resolve_left e).2⟩, fun q => .inr ⟨by omega, q.2⟩⟩
  · intro i hi
    show va_up (qW A) (qC A) (bk bits (qL A) key) i = bk bits (qL A) (va_up (qK A) (qC A) key i) ∧ qL A ≤ va_up (qK A) (qC A) key i
    rw [va_upE, va_upE]
    rcases mem_insB.mp (show i ∈ insB (qW A) (bk bits (qL A) key) (qC A) (qN A) from hi) with e | e
    · rw [if_pos e, if_pos e]; exact ⟨rfl, h1⟩
    · have : i ≠ qC A := fun q => by have := (hq i e).1; omega
      rw [if_neg this, if_neg this]; exact i10 i e
  · show (insB (qW A) (bk bits (qL A) key) (qC A) (qN A)).length ≤ qC A + 1
    rw [insB_len]; omega
  · intro i hi
    show va_up (qS A) (qC A) 0 i ≤ 2
    rw [va_upE]
    split
    · omega
    · exact i12 i (by have : i < qC A + 1 := hi; omega)
theorem erase_mid {i : Nat} {pre r : List Nat} (h : ∀ x, x ∈ pre → x ≠ i) : (pre ++ i :: r).erase i = pre ++ r := by
  rw [List.erase_append_right _ (fun q => h i q rfl), List.erase_cons_head]
theorem qI_cast {bits limit i : Nat} {A : Qs} (hI : qI bits limit A) (hi : i ∈ qN A) : qI bits limit (qCast i A) := by
  have hq := qI_line hI
  obtain ⟨i1, i2, i3, i4, i5, i6, i7, i8, i9, i10, i11, i12⟩ := hI
  have hm : ∀ x, x ∈ (qN A).erase i ↔ x ∈ qN A ∧ x ≠ i := fun x => by rw [i7.mem_erase_iff]; exact And.comm
  refine ⟨i1, i2, i3, i4, i5, i6, i7.erase _, ?_, i9.sublist List.erase_sublist, ?_, ?_, ?_⟩
  · intro x
    show x ∈ (qN A).erase i ↔ x < qC A ∧ va_up (qS A) i 2 x = 0
    rw [hm, i8, va_upE]
    by_cases e : x = i
    · rw [if_pos e]; exact ⟨fun q => absurd e q.2, fun q => absurd q.2 (by omega)⟩
    · rw [if_neg e]; exact ⟨fun q => q.1, fun q => ⟨q, e⟩⟩
  · intro x hx
    exact i10 x ((hm x).mp hx).1
  · show ((qN A).erase i).length ≤ qC A
    have := List.length_erase_le (a := i) (l := qN A)
    omega
  · intro x hx
    show va_up (qS A) i 2 x ≤ 2
    rw [va_upE]; split
    · omega
    · exact i12 x hx
theorem qI_low {bits limit i key : Nat} {A : Qs} (hI : qI bits limit A) (hi : i ∈ qN A) (hk : key < 2 ^ 40) (h1 : qL A ≤ key) : qI bits limit (qLow bits i key A) := by
  have hq := qI_line hI
  obtain ⟨i1, i2, i3, i4, i5, i6, i7, i8, i9, i10, i11, i12⟩ := hI
  have hK : ∀ x, x < qC A → va_up (qK A) i key x < 2 ^ 40 := fun x hx => by
    rw [va_upE]; split
    · exact hk
    · exact i6 x hx
  unfold qLow
  by_cases e : bk bits (qL A) key = qW A i
  · rw [if_pos e]
    refine ⟨i1, i2, i3, i4, i5, hK, i7, i8, i9, ?_, i11, i12⟩
    intro x hx
    show qW A x = bk bits (qL A) (va_up (qK A) i key x) ∧ qL A ≤ va_up (qK A) i key x
    rw [va_upE]; split
    · rename_i z; rw [z]; exact ⟨e.symm, h1⟩
    · exact i10 x hx
  · rw [if_neg e]
    have hm : ∀ x, x ∈ (qN A).erase i ↔ x ∈ qN A ∧ x ≠ i := fun x => by rw [i7.mem_erase_iff]; exact And.comm
    have hne : i ∉ (qN A).erase i := fun q => ((hm i).mp q).2 rfl
    refine ⟨i1, i2, i3, i4, i5, hK, nodup_insB (i7.erase _) hne, ?_, sorted_insB (i9.sublist List.erase_sublist) hne, ?_, ?_, i12⟩
    · intro x
      show x ∈ insB (qW A) _ i ((qN A).erase i) ↔ x < qC A ∧ qS A x = 0
      rw [mem_insB, hm, i8]
      constructor
      · rintro (q | q)
        · rw [q]; exact (i8 i).mp hi
        · exact q.1
      · intro q
        by_cases z : x = i
        · exact .inl z
        · exact .inr ⟨q, z⟩
    · intro x hx
      show va_up (qW A) i (bk bits (qL A) key) x = bk bits (qL A) (va_up (qK A) i key x) ∧ qL A ≤ va_up (qK A) i key x
      rw [va_upE, va_upE]
      rcases mem_insB.mp (show x ∈ insB (qW A) (bk bits (qL A) key) i ((qN A).erase i) from hx) with z | z
      · rw [if_pos z, if_pos z]; exact ⟨rfl, h1⟩
      · rw [if_neg ((hm x).mp z).2, if_neg ((hm x).mp z).2]; exact i10 x ((hm x).mp z).1
    · show (insB (qW A) _ i ((qN A).erase i)).length ≤ qC A
      rw [insB_len, List.length_erase_of_mem hi]
      have : 0 < (qN A).length := List.length_pos_of_mem hi
      omega
theorem qI_emp {bits limit : Nat} {A : Qs} (h1 : 1 ≤ bits) (h2 : bits ≤ 4) (h3 : limit ≤ 300) : qI bits limit (qEmp A) :=
  ⟨h1, h2, Nat.zero_le _, h3, (show (0 : Nat) < 2 ^ 40 by decide), fun i hi => absurd hi (Nat.not_lt_zero _), List.nodup_nil, fun i => ⟨fun q => absurd q List.not_mem_nil, fun q => absurd q.1 (Nat.not_lt_zero _)⟩, List.Pairwise.nil, fun i hi => absurd hi List.not_mem_nil, Nat.le_refl _, fun i hi => absurd hi (Nat.not_lt_zero _)⟩
/-! the least key -/
theorem minA_le {K : Nat → Nat} : ∀ {L : List Nat} {m : Nat}, minA K m L ≤ m ∧ ∀ x, x ∈ L → minA K m L ≤ K x
  | [], m => ⟨Nat.le_refl _, fun x hx => absurd hx List.not_mem_nil⟩
  | y :: r, m => by
    show minA K (if K y < m then K y else m) r ≤ m ∧ ∀ x, x ∈ y :: r → minA K (if K y < m then K y else m) r ≤ K x
    have a := minA_le (K := K) (L := r) (m := if K y < m then K y else m)
    have b1 : (if K y < m then K y else m) ≤ m := by split <;> omega
    have b2 : (if K y < m then K y else m) ≤ K y := by split <;> omega
    refine ⟨Nat.le_trans a.1 b1, fun x hx => ?_⟩
    rcases List.mem_cons.mp hx with e | e
    · rw [e]; exact Nat.le_trans a.1 b2
    · exact a.2 x e
theorem minA_mem {K : Nat → Nat} : ∀ {L : List Nat} {m : Nat}, minA K m L = m ∨ ∃ x, x ∈ L ∧ minA K m L = K x
  | [], m => .inl rfl
  | y :: r, m => by
    show minA K (if K y < m then K y else m) r = m ∨ ∃ x, x ∈ y :: r ∧ minA K (if K y < m then K y else m) r = K x
    rcases minA_mem (K := K) (L := r) (m := if K y < m then K y else m) with e | ⟨x, hx, e⟩
    · rw [e]
      split
      · exact .inr ⟨y, List.mem_cons_self .., rfl⟩
      · exact .inl rfl
    · exact .inr ⟨x, List.mem_cons_of_mem _ hx, e⟩
theorem minK_le {K : Nat → Nat} {L : List Nat} : ∀ x, x ∈ L → minK K L ≤ K x := by
  cases L with
  | nil => intro x hx; exact absurd hx List.not_mem_nil
  | cons y r =>
    intro x hx
    have a := minA_le (K := K) (L := r) (m := K y)
    rcases List.mem_cons.mp hx with e | e
    · rw [e]; exact a.1
    · exact a.2 x e
theorem minK_mem {K : Nat → Nat} {L : List Nat} (h : L ≠ []) : ∃ x, x ∈ L ∧ minK K L = K x := by
  cases L with
  | nil => exact absurd rfl h
  | cons y r =>
    rcases minA_mem (K := K) (L := r) (m := K y) with e | ⟨x, hx, e⟩
    · exact ⟨y, List.mem_cons_self .., e⟩
    · exact ⟨x, List.mem_cons_of_mem _ hx, e⟩
/-! dealt out -/
theorem dlt_spec {bits l : Nat} {K : Nat → Nat} : ∀ (D : List Nat) (M W : Nat → Nat) (L : List Nat), (D ++ L).Nodup → L.Pairwise (fun x y => W x ≤ W y) →
    (dlt bits l K D M W L).2.2.Pairwise (fun x y => (dlt bits l K D M W L).2.1 x ≤ (dlt bits l K D M W L).2.1 y) ∧ (∀ x, x ∈ (dlt bits l K D M W L).2.2 ↔ x ∈ D ∨ x ∈ L) ∧ (dlt bits l K D M W L).2.2.Nodup ∧
    (dlt bits l K D M W L).2.2.length = D.length + L.length ∧ (∀ x, x ∉ D → (dlt bits l K D M W L).2.1 x = W x ∧ (dlt bits l K D M W L).1 x = M x) ∧ (∀ x, x ∈ D → (dlt bits l K D M W L).2.1 x = bk bits l (K x) ∧ (dlt bits l K D M W L).1 x = M x + 1)
  | [], M, W, L, hn, hs => ⟨hs, fun x => ⟨.inr, fun q => q.resolve_left List.not_mem_nil⟩, hn, (Nat.zero_add _).symm, fun _ _ => ⟨rfl, rfl⟩, fun x hx => absurd hx List.not_mem_nil⟩
  | y :: r, M, W, L, hn, hs => by
    have h0 := List.nodup_cons.mp hn
    have hyr : y ∉ r := fun q => h0.1 (List.mem_append_left _ q)
    have hyL : y ∉ L := fun q => h0.1 (List.mem_append_right _ q)
    have hn2 := List.nodup_append.mp h0.2
    have hn3 : (r ++ insB W (bk bits l (K y)) y L).Nodup := by
      refine List.nodup_append.mpr ⟨hn2.1, nodup_insB hn2.2.1 hyL, fun a ha c hc e => ?_⟩
      rcases mem_insB.mp hc with q | q
      · exact hyr (by rw [← q, ← e]; exact ha)
      · exact hn2.2.2 a ha c q e
    obtain ⟨z1, z2, z3, z4, z5, z6⟩ := dlt_spec r (va_up M y (M y + 1)) (va_up W y (bk bits l (K y))) (insB W (bk bits l (K y)) y L) hn3 (sorted_insB hs hyL)
    show (dlt bits l K r (va_up M y (M y + 1)) (va_up W y (bk bits l (K y))) (insB W (bk bits l (K y)) y L)).2.2.Pairwise _ ∧ _
    refine ⟨z1, fun x => ?_, z3, ?_, fun x hx => ?_, fun x hx => ?_⟩
    · refine (z2 x).trans ?_
      rw [mem_insB, List.mem_cons]
      exact ⟨fun q => by rcases q with q | q | q <;> simp [q], fun q => by rcases q with (q | q) | q <;> simp [q]⟩
    · refine z4.trans ?_
      rw [insB_len, List.length_cons]; omega
    · have hx1 : x ∉ r := fun q => hx (List.mem_cons_of_mem _ q)
      have hx2 : x ≠ y := fun q => hx (by rw [q]; exact List.mem_cons_self ..)
      have := z5 x hx1
      rw [va_up_ne _ _ hx2, va_up_ne _ _ hx2] at this
      exact this
    · rcases List.mem_cons.mp hx with e | e
      · have := z5 x (by rw [e]; exact hyr)
        rw [e, va_up_self, va_up_self] at this
        rw [e]; exact this
      · have hxy : x ≠ y := fun q => hyr (by rw [← q]; exact e)
        have := z6 x e
        rw [va_up_ne _ _ hxy] at this
        exact this
/-! the head's bucket -/
theorem hd_split (A : Qs) : hdD A ++ hdR A = qN A := List.takeWhile_append_dropWhile
theorem hdD_W {A : Qs} : ∀ x, x ∈ hdD A → qW A x = hdB A := by
  unfold hdD
  generalize qN A = L
  intro x
  induction L with
  | nil => intro hx; exact absurd hx List.not_mem_nil
  | cons y r ih =>
    rw [List.takeWhile_cons]
    split
    · rename_i h
      intro hx
      rcases List.mem_cons.mp hx with e | e
      · rw [e]; exact beq_iff_eq.mp h
      · exact ih e
    · intro hx; exact absurd hx List.not_mem_nil
theorem hdR_W {bits limit : Nat} {A : Qs} (hI : qI bits limit A) : ∀ x, x ∈ hdR A → hdB A < qW A x := by
  have i9 := hI.2.2.2.2.2.2.2.2.1
  cases hL : qN A with
  | nil =>
    intro x hx
    unfold hdR at hx
    rw [hL] at hx
    exact absurd hx List.not_mem_nil
  | cons a t =>
    have hb : hdB A = qW A a := by unfold hdB; rw [hL]; rfl
    have hle : ∀ x, x ∈ qN A → hdB A ≤ qW A x := by
      intro x hx
      rw [hL] at hx i9
      rw [hb]
      rcases List.mem_cons.mp hx with e | e
      · rw [e]; exact Nat.le_refl _
      · exact (List.pairwise_cons.mp i9).1 x e
    have key : ∀ L : List Nat, L.Pairwise (fun x y => qW A x ≤ qW A y) → (∀ x, x ∈ L → hdB A ≤ qW A x) → ∀ x, x ∈ L.dropWhile (fun x => qW A x == hdB A) → hdB A < qW A x := by
      intro L
      induction L with
      | nil => intro _ _ x hx; exact absurd hx List.not_mem_nil
      | cons y r ih =>
        intro hp hl x hx
        rw [List.dropWhile_cons] at hx
        have hp2 := List.pairwise_cons.mp hp
        split at hx
        · exact ih hp2.2 (fun z hz => hl z (List.mem_cons_of_mem _ hz)) x hx
        · rename_i hne
          have h1 : qW A y ≠ hdB A := fun q => hne (beq_iff_eq.mpr q)
          have h2 := hl y (List.mem_cons_self ..)
          rcases List.mem_cons.mp hx with e | e
          · rw [e]; omega
          · have := hp2.1 x e; omega
    exact key _ i9 hle
theorem hdD_ne {A : Qs} (h : qN A ≠ []) : hdD A ≠ [] := by
  unfold hdD hdB
  cases hL : qN A with
  | nil => exact absurd hL h
  | cons a t =>
    rw [List.takeWhile_cons, if_pos (by exact beq_self_eq_true _)]
    exact List.cons_ne_nil _ _
/-- the dealt one's parts -/
theorem deal_facts {bits limit : Nat} {A : Qs} (hI : qI bits limit A) (hne : qN A ≠ []) (h0 : 0 < hdB A) :
    qL A ≤ minK (qK A) (hdD A) ∧ minK (qK A) (hdD A) < 2 ^ 40 ∧ (∀ x, x ∈ hdD A → minK (qK A) (hdD A) ≤ qK A x ∧ bk bits (minK (qK A) (hdD A)) (qK A x) < hdB A) ∧
    (∀ x, x ∈ hdR A → minK (qK A) (hdD A) ≤ qK A x ∧ bk bits (minK (qK A) (hdD A)) (qK A x) = qW A x) ∧ (∃ x, x ∈ hdD A ∧ minK (qK A) (hdD A) = qK A x) := by
  have hq := qI_line hI
  have hR := hdR_W hI
  obtain ⟨i1, i2, i3, i4, i5, i6, i7, i8, i9, i10, i11, i12⟩ := hI
  have hD : ∀ x, x ∈ hdD A → x ∈ qN A := fun x hx => by rw [← hd_split A]; exact List.mem_append_left _ hx
  have hRm : ∀ x, x ∈ hdR A → x ∈ qN A := fun x hx => by rw [← hd_split A]; exact List.mem_append_right _ hx
  obtain ⟨x0, hx0, e0⟩ := minK_mem (K := qK A) (hdD_ne hne)
  have a0 := i10 x0 (hD x0 hx0)
  have hm : bk bits (qL A) (minK (qK A) (hdD A)) = hdB A := by rw [e0, ← a0.1]; exact hdD_W x0 hx0
  have hlm : qL A ≤ minK (qK A) (hdD A) := by rw [e0]; exact a0.2
  refine ⟨hlm, by rw [e0]; exact i6 x0 (hq x0 (hD x0 hx0)).1, fun x hx => ?_, fun x hx => ?_, x0, hx0, e0⟩
  · have hle := minK_le (K := qK A) x hx
    have hx2 := i10 x (hD x hx)
    have e : bk bits (qL A) (qK A x) = hdB A := by rw [← hx2.1]; exact hdD_W x hx
    refine ⟨hle, ?_⟩
    have := bk_deal (by omega) hlm hle (hm.trans e.symm) (by omega)
    omega
  · have hx2 := i10 x (hRm x hx)
    have h3 := hR x hx
    have hlt : bk bits (qL A) (minK (qK A) (hdD A)) < bk bits (qL A) (qK A x) := by rw [hm, ← hx2.1]; exact h3
    have hle : minK (qK A) (hdD A) ≤ qK A x := by
      refine Classical.byContradiction fun q => ?_
      have := bk_le (b := bits) (by omega) hx2.2 (show qK A x ≤ minK (qK A) (hdD A) by omega)
      omega
    refine ⟨hle, ?_⟩
    rw [bk_keep (by omega) hlm hle hlt, ← hx2.1]
theorem deal_spec {bits limit : Nat} {A : Qs} (hI : qI bits limit A) (hne : qN A ≠ []) (h0 : 0 < hdB A) :
    qI bits limit (qDeal bits A) ∧ hdB (qDeal bits A) = 0 ∧ qN (qDeal bits A) ≠ [] ∧ (qN (qDeal bits A)).length = (qN A).length ∧ qC (qDeal bits A) = qC A ∧ (∀ x, qM (qDeal bits A) x ≤ qM A x + 1) := by
  have hq := qI_line hI
  have hR := hdR_W hI
  obtain ⟨d1, d2, d3, d4, x0, d5, d6⟩ := deal_facts hI hne h0
  obtain ⟨i1, i2, i3, i4, i5, i6, i7, i8, i9, i10, i11, i12⟩ := hI
  have hD : ∀ x, x ∈ hdD A → x ∈ qN A := fun x hx => by rw [← hd_split A]; exact List.mem_append_left _ hx
  have hRm : ∀ x, x ∈ hdR A → x ∈ qN A := fun x hx => by rw [← hd_split A]; exact List.mem_append_right _ hx
  have hnd := i7
  rw [← hd_split A] at hnd
  have hnd2 := List.nodup_append.mp hnd
  have hnd3 : (hdD A ++ []).Nodup := by rw [List.append_nil]; exact hnd2.1
  obtain ⟨z1, z2, z3, z4, z5, z6⟩ := dlt_spec (bits := bits) (l := minK (qK A) (hdD A)) (K := qK A) (hdD A) (qM A) (qW A) [] hnd3 List.Pairwise.nil
  have z2' : ∀ x, x ∈ (dlt bits (minK (qK A) (hdD A)) (qK A) (hdD A) (qM A) (qW A) []).2.2 ↔ x ∈ hdD A := fun x => (z2 x).trans ⟨fun q => q.resolve_right List.not_mem_nil, .inl⟩
  have eN : qN (qDeal bits A) = (dlt bits (minK (qK A) (hdD A)) (qK A) (hdD A) (qM A) (qW A) []).2.2 ++ hdR A := rfl
  have eW : qW (qDeal bits A) = (dlt bits (minK (qK A) (hdD A)) (qK A) (hdD A) (qM A) (qW A) []).2.1 := rfl
  have eM : qM (qDeal bits A) = (dlt bits (minK (qK A) (hdD A)) (qK A) (hdD A) (qM A) (qW A) []).1 := rfl
  have hRD : ∀ x, x ∈ hdR A → x ∉ hdD A := fun x hx q => hnd2.2.2 x q x hx rfl
  have hlen : (qN (qDeal bits A)).length = (qN A).length := by
    rw [eN, List.length_append, z4, List.length_nil, Nat.add_zero, ← List.length_append, hd_split]
  have hmem : ∀ x, x ∈ qN (qDeal bits A) ↔ x ∈ qN A := fun x => by
    rw [eN, List.mem_append, z2', ← List.mem_append, hd_split]
  have hWR : ∀ x, x ∈ hdR A → qW (qDeal bits A) x = qW A x := fun x hx => by rw [eW]; exact (z5 x (hRD x hx)).1
  have hWD : ∀ x, x ∈ hdD A → qW (qDeal bits A) x = bk bits (minK (qK A) (hdD A)) (qK A x) := fun x hx => by rw [eW]; exact (z6 x hx).1
  refine ⟨⟨i1, i2, i3, i4, d2, i6, ?_, ?_, ?_, ?_, ?_, i12⟩, ?_, ?_, hlen, rfl, ?_⟩
  · rw [eN]
    exact List.nodup_append.mpr ⟨z3, hnd2.2.1, fun a ha c hc e => hnd2.2.2 a ((z2' a).mp ha) c hc e⟩
  · intro x
    rw [hmem]; exact i8 x
  · rw [eN]
    refine List.pairwise_append.mpr ⟨z1, ?_, fun a ha c hc => ?_⟩
    · have := i9
      rw [← hd_split A] at this
      refine List.Pairwise.imp_of_mem (fun {x z} hx hz q => ?_) (List.pairwise_append.mp this).2.1
      rw [hWR x hx, hWR z hz]; exact q
    · have ha' := (z2' a).mp ha
      rw [hWD a ha', hWR c hc]
      have := (d3 a ha').2
      have := hR c hc
      omega
  · intro x hx
    rw [hmem, ← hd_split A] at hx
    show qW (qDeal bits A) x = bk bits (minK (qK A) (hdD A)) (qK A x) ∧ minK (qK A) (hdD A) ≤ qK A x
    rcases List.mem_append.mp hx with q | q
    · exact ⟨hWD x q, (d3 x q).1⟩
    · rw [hWR x q]; exact ⟨(d4 x q).2.symm, (d4 x q).1⟩
  · rw [hlen]; exact i11
  · -- the least key's item is in bucket 0, so the head is
    have hx0 : x0 ∈ (dlt bits (minK (qK A) (hdD A)) (qK A) (hdD A) (qM A) (qW A) []).2.2 := (z2' x0).mpr d5
    have hw0 : qW (qDeal bits A) x0 = 0 := by rw [hWD x0 d5, ← d6, bk_self]
    unfold hdB
    rw [eN]
    cases hz : (dlt bits (minK (qK A) (hdD A)) (qK A) (hdD A) (qM A) (qW A) []).2.2 with
    | nil => rw [hz] at hx0; exact absurd hx0 List.not_mem_nil
    | cons a t =>
      rw [hz] at hx0 z1
      show qW (qDeal bits A) a = 0
      rcases List.mem_cons.mp hx0 with e | e
      · rw [← e]; exact hw0
      · have := (List.pairwise_cons.mp z1).1 x0 e
        rw [← eW, hw0] at this
        omega
  · intro e
    have := congrArg List.length e
    rw [hlen] at this
    cases h : qN A with
    | nil => exact hne h
    | cons a t => rw [h] at this; exact absurd this (Nat.succ_ne_zero _)
  · intro x
    rw [eM]
    by_cases hx : x ∈ hdD A
    · rw [(z6 x hx).2]; exact Nat.le_refl _
    · rw [(z5 x hx).2]; omega
theorem rdy_spec {bits limit : Nat} {A : Qs} (hI : qI bits limit A) (hne : qN A ≠ []) :
    qI bits limit (qRdy bits A) ∧ hdB (qRdy bits A) = 0 ∧ qN (qRdy bits A) ≠ [] ∧ (qN (qRdy bits A)).length = (qN A).length ∧ qC (qRdy bits A) = qC A ∧ (∀ x, qM (qRdy bits A) x ≤ qM A x + 1) := by
  unfold qRdy
  split
  · rename_i h; exact ⟨hI, h, hne, rfl, rfl, fun x => Nat.le_succ _⟩
  · rename_i h; exact deal_spec hI hne (by omega)
theorem qI_tail {bits limit i : Nat} {A : Qs} {r : List Nat} (hI : qI bits limit A) (hN : qN A = i :: r) : qI bits limit (qL A, qC A, qK A, qM A, qW A, va_up (qS A) i 1, r) := by
  have hq := qI_line hI
  obtain ⟨i1, i2, i3, i4, i5, i6, i7, i8, i9, i10, i11, i12⟩ := hI
  rw [hN] at i7 i9
  have n1 := List.nodup_cons.mp i7
  refine ⟨i1, i2, i3, i4, i5, i6, n1.2, ?_, (List.pairwise_cons.mp i9).2, ?_, ?_, ?_⟩
  · intro x
    show x ∈ r ↔ x < qC A ∧ va_up (qS A) i 1 x = 0
    have h8 := i8 x
    rw [hN, List.mem_cons] at h8
    rw [va_upE]
    by_cases e : x = i
    · rw [if_pos e]; exact ⟨fun q => absurd (e ▸ q) n1.1, fun q => absurd q.2 (by omega)⟩
    · rw [if_neg e]; exact ⟨fun q => h8.mp (.inr q), fun q => (h8.mpr q).resolve_left e⟩
  · intro x hx
    exact i10 x (by rw [hN]; exact List.mem_cons_of_mem _ hx)
  · rw [hN, List.length_cons] at i11
    show r.length ≤ qC A
    omega
  · intro x hx
    show va_up (qS A) i 1 x ≤ 2
    rw [va_upE]; split
    · omega
    · exact i12 x hx
theorem qI_take {bits limit : Nat} {A : Qs} (hI : qI bits limit A) (hne : qN A ≠ []) : qI bits limit (qTake bits A) ∧ qC (qTake bits A) = qC A ∧ (qN (qTake bits A)).length + 1 = (qN A).length ∧ (∀ x, qM (qTake bits A) x ≤ qM A x + 1) := by
  obtain ⟨r1, r2, r3, r4, r5, r6⟩ := rdy_spec hI hne
  cases h : qN (qRdy bits A) with
  | nil => exact absurd h r3
  | cons i r =>
    have e : qTake bits A = (qL (qRdy bits A), qC (qRdy bits A), qK (qRdy bits A), qM (qRdy bits A), qW (qRdy bits A), va_up (qS (qRdy bits A)) i 1, r) := by
      unfold qTake
      dsimp only
      rw [h]; rfl
    rw [e]
    refine ⟨qI_tail r1 h, r5, ?_, r6⟩
    rw [← r4, h]; rfl
