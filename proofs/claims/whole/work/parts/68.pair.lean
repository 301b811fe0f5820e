/-! ===== PAIRS: a call of the class and the same call of the reference ===== -/
def gBump (G : Gs) (r : Nat) : Gs := (G.1, G.2.1, G.2.2.1, va_up G.2.2.2.1 r (G.2.2.2.1 r + nI 1), G.2.2.2.2)
def refd (x m yc ym : Nat) (as : List Value) (z : Value) (wl : List Nat) (G : Gs) (h : pm_H) : Prop := ∃ r, r < 4 ∧ 0 < wl.getD r 0 ∧
  (∀ Q : pm_Q, (∀ h', CI h' x (gBump G r) → frX x (x + 82) h h' → Q (.inr r) h') → pm_M PP 400 yc (.ref x :: as) h Q) ∧
  (∀ (h1 : pm_H) (Q : pm_Q), MI h1 m G → (∀ h', MI h' m (gBump G r) → frX m (m + 823) h1 h' → hI h' m 0 = nI (wl.getD r 0) → Q (.inl (some z)) h') → pm_M PP 400 ym (.ref m :: as) h1 Q)
def done (x m yc ym : Nat) (as : List Value) (v : Value) (G G' : Gs) (h : pm_H) : Prop := G'.2.2.1 ≤ G.2.2.1 + 300 ∧
  (∀ Q : pm_Q, (∀ h', CI h' x G' → frX x (x + 82) h h' → Q (.inl (some v)) h') → pm_M PP 400 yc (.ref x :: as) h Q) ∧
  (∀ (h1 : pm_H) (Q : pm_Q), MI h1 m G → (∀ h', MI h' m G' → frX m (m + 823) h1 h' → hI h' m 0 = nI 0 → Q (.inl (some v)) h') → pm_M PP 400 ym (.ref m :: as) h1 Q)
def pairI (x m yc ym : Nat) (as : List Value) (wl : List Nat) (G : Gs) (h : pm_H) : Prop := refd x m yc ym as (.int (nI 0)) wl G h ∨ ∃ v G', done x m yc ym as (.int v) G G' h
def pairL (x m yc ym : Nat) (as : List Value) (wl : List Nat) (G : Gs) (h : pm_H) : Prop := refd x m yc ym as (.long (lN 0)) wl G h ∨ ∃ v G', done x m yc ym as (.long v) G G' h
/-! numbers in and out -/
theorem i32_q (v : Int32) : (∃ n, n < 2 ∧ v = nI n) ∨ (¬ v = 0 ∧ ¬ v = nI 1) := by
  by_cases h0 : v = 0
  · exact .inl ⟨0, by decide, h0⟩
  · by_cases h1 : v = nI 1
    · exact .inl ⟨1, by decide, h1⟩
    · exact .inr ⟨h0, h1⟩
theorem i32_nn {v : Int32} (h : ¬ v < 0) : ∃ n, n < 2 ^ 31 ∧ v = nI n := by
  rw [Int32.lt_iff_toInt_lt] at h
  have e : (0 : Int32).toInt = 0 := by decide
  have hb := Int32.toInt_lt v
  refine ⟨v.toInt.toNat, by omega, Int32.toInt_inj.mp ?_⟩
  rw [nI_toInt (by omega)]; omega
theorem i32_in (v : Int32) {c : Nat} (hc : c < 2 ^ 31) : (∃ i, i < c ∧ v = nI i) ∨ (v < 0 ∨ nI c ≤ v) := by
  by_cases h : v < 0
  · exact .inr (.inl h)
  · obtain ⟨n, hn, e⟩ := i32_nn h
    subst e
    by_cases q : n < c
    · exact .inl ⟨n, q, rfl⟩
    · exact .inr (.inr ((nI_leI hc hn).mpr (by omega)))
theorem i64_nn {v : Int64} (h : ¬ v < lN 0) : ∃ n, n < 2 ^ 63 ∧ v = lN n := by
  rw [Int64.lt_iff_toInt_lt, pk_lT (by decide)] at h
  have hb := Int64.toInt_lt v
  refine ⟨v.toInt.toNat, by omega, Int64.toInt_inj.mp ?_⟩
  rw [pk_lT (by omega)]; omega
theorem i64_key (k : Int64) : (∃ n, n < 2 ^ 40 ∧ k = lN n) ∨ (k < lN 0 ∨ lN 1099511627775 < k) := by
  by_cases h : k < lN 0
  · exact .inr (.inl h)
  · obtain ⟨n, hn, e⟩ := i64_nn h
    subst e
    by_cases q : n < 2 ^ 40
    · exact .inl ⟨n, q, rfl⟩
    · exact .inr (.inr ((pk_lLT (by decide) hn).mpr (by omega)))
/-! the class refuses -/
theorem isC_fr {lo hi x : Nat} {H : Hs} {P : List Hs} {h h' : pm_H} (f : fr lo hi h h') (hd : hi ≤ x + 1 ∨ x + 32 ≤ lo) (hc : isC h x (x + 1) (x + 14) H P) : isC h' x (x + 1) (x + 14) H P := by
  obtain ⟨a1, a2, a3, a4, B, L, b1, b2, b3, b4, b5, b6, b7, b8⟩ := hc
  exact ⟨isX_same f.1 f.2.2.1 a1, a2, a3, a4, B, L, b1, b2, isH_fr f (by omega) b3, b4, b5, aS_fr f b6, aR_fr f (by omega) b7, isH_fr f (by omega) b8⟩
theorem refH_fr {h : pm_H} {x j : Nat} : fr x (x + 1) h (refH h x j) := fr_bmp (fr_sI (fr_refl _ _ _) (by omega) (by omega))
theorem CI_ref {h : pm_H} {x r : Nat} {G : Gs} (hr : r < 4) (hC : CI h x G) : CI (refH h x (11 + r)) x (gBump G r) := by
  obtain ⟨a, b, c⟩ := hC
  have f : fr x (x + 1) h (refH h x (11 + r)) := refH_fr
  refine ⟨isC_fr f (by omega) a, fun s hs => ?_, cTs_eq f.1 f.2.1 f.2.2.1 (fun k q1 q2 => (f.2.2.2.2 k (by omega)).1) c⟩
  show hI (sI h x _) x (11 + s) = va_up _ r _ s
  rw [hP1, va_up_self, va_upE, va_upE, b r hr, b s hs]
  by_cases e : s = r
  · rw [if_pos e, if_pos (by omega)]
  · rw [if_neg e, if_neg (by omega)]
theorem frX_ref {h : pm_H} {x j : Nat} : frX x (x + 82) h (refH h x j) := frX_fr refH_fr (by omega) (by omega)
/-! the reference refuses -/
theorem MI_ref {h : pm_H} {m w r : Nat} {G : Gs} (hr : r < 4) (hM : MI h m G) : MI (rfM (thr h m) m w r) m (gBump G r) ∧ hI (rfM (thr h m) m w r) m 0 = nI w ∧ frX m (m + 823) h (rfM (thr h m) m w r) := by
  obtain ⟨hM, b, c, ok⟩ := hM
  have h0 := isM_thr hM
  have em : ∀ j, j ≠ 0 → hI (rfM (thr h m) m w r) m j = hI h m j := fun j hj => by
    show hI (sI (sI (thr h m) m _) (m + 1) _) m j = _
    rw [hP1, va_up_ne _ _ (by omega), hP1, va_up_self, va_up_ne _ _ hj]
    show hI (sI h m _) m j = _
    rw [hP1, va_up_self, va_up_ne _ _ hj]
  have ek : ∀ k, k ≠ m → k ≠ m + 1 → hI (rfM (thr h m) m w r) k = hI h k := fun k h1 h2 => by
    show hI (sI (sI (thr h m) m _) (m + 1) _) k = _
    rw [hP1, va_up_ne _ _ h2, hP1, va_up_ne _ _ h1]
    show hI (sI h m _) k = _
    rw [hP1, va_up_ne _ _ h1]
  refine ⟨⟨?_, fun s hs => ?_, mTs_eq (em _ (by omega)) (em _ (by omega)) (em _ (by omega)) (em _ (by omega)) (em _ (by omega)) (em _ (by omega)) (fun k q => ek k (by omega) (by omega)) ok c, ok⟩, ?_, rfl, rfl, rfl, fun k q => ⟨ek k (by omega) (by omega), rfl, rfl⟩⟩
  · obtain ⟨hs, f14, hj, q1, q2, p1, p2, p3, p4⟩ := hM
    refine ⟨mS_eq (h := h) rfl rfl (fun _ _ => rfl) hs, (em _ (by omega)).trans f14, hj, mQ_eq (h := h) rfl rfl rfl q1, mQ_eq (h := h) rfl rfl rfl q2, p1, (em _ (by omega)).trans p2, p3, fun i hi => mRow_eq (h := h) rfl rfl rfl rfl ?_ (p4 i hi)⟩
    rw [ek _ (by omega) (by omega)]
  · show hI (sI (sI (thr h m) m _) (m + 1) _) (m + 1) s = va_up _ r _ s
    have e1 : hI (thr h m) (m + 1) = hI h (m + 1) := by show hI (sI h m _) (m + 1) = _; rw [hP1, va_up_ne _ _ (by omega)]
    rw [hP1, va_up_self, e1, va_upE, va_upE, b r hr, b s hs]
  · show hI (sI (sI (thr h m) m _) (m + 1) _) m 0 = _
    rw [hP1, va_up_ne _ _ (by omega), hP1, va_up_self, va_up_self]
/-! an act -/
theorem CI_act {h h' : pm_H} {x B : Nat} {G : Gs} {H : Hs} {P : List Hs} (hC : CI h x G) (hc : isC h' x (x + 1) (x + 14) H P) (f : frC (x + 1) (x + 14) h h') : CI h' x (H, P, B, G.2.2.2.1, G.2.2.2.2) := by
  obtain ⟨a, b, c⟩ := hC
  refine ⟨hc, fun s hs => ?_, cTs_eq f.1 f.2.1 f.2.2.1 (fun k q1 q2 => (f.2.2.2.2 k (by omega) (by omega)).1) c⟩
  rw [(f.2.2.2.2 x (by omega) (by omega)).1]; exact b s hs
theorem MI_act {h h' : pm_H} {m B : Nat} {G : Gs} {H : Hs} {P : List Hs} (hM : MI h m G) (hm : isM h' m H P B) (f : frP m h h') : MI h' m (H, P, B, G.2.2.2.1, G.2.2.2.2) := by
  obtain ⟨a, b, c, ok⟩ := hM
  obtain ⟨f1, f2, f3, f4, f5, f6, f7⟩ := f
  refine ⟨hm, fun s hs => ?_, mTs_eq (f5 _ (by omega) (by omega) (by omega)) (f5 _ (by omega) (by omega) (by omega)) (f5 _ (by omega) (by omega) (by omega)) (f5 _ (by omega) (by omega) (by omega)) (f5 _ (by omega) (by omega) (by omega)) (f5 _ (by omega) (by omega) (by omega)) (fun k q => f6 k (by omega) (by omega) (by omega)) ok c, ok⟩
  rw [f6 _ (by omega) (by omega) (by omega)]; exact b s hs
section PA
variable {h : pm_H} {x m : Nat} {G : Gs}
/-- push -/
theorem P905 (hC : CI h x G) (hM : MI h m G) (hB : G.2.2.1 < 2 ^ 50) (v : Int32) (k : Int64) : pairI x m 905 1026 [.int v, .long k] [1, 2, 3, 0] G h := by
  have hx := hC.1.1.1
  rcases i32_q v with ⟨n, hn, e⟩ | ⟨z0, z1⟩
  · subst e
    rcases i64_key k with ⟨k, hk, e⟩ | hk
    · subst e
      by_cases c : qL (hOf n G.1) ≤ k ∧ qC (hOf n G.1) < 200
      · exact .inr ⟨_, (hAct (0, n, 0, k) G.1, psh G.2.1 G.1, G.2.2.1 + 300, G.2.2.2.1, G.2.2.2.2), Nat.le_refl _,
          fun Q hQ => c905 393 hC.1 hn hk c.1 c.2 fun h' a b => hQ h' (CI_act hC a b) (frX_frC b),
          fun h1 Q hM1 hQ => c1026 396 hM1.1 hn hk c.1 c.2 hB fun h' a b t => hQ h' (MI_act hM1 a b) (frX_frP b) t⟩
      · exact .inl ⟨2, by decide, by decide, fun Q hQ => c905s 398 hC.1 hn hk c (hQ _ (CI_ref (by decide) hC) frX_ref),
          fun h1 Q hM1 hQ => r1026s 396 hM1.1 hn hk c (by have := MI_ref (w := 3) (r := 2) (by decide) hM1; exact hQ _ this.1 this.2.2 this.2.1)⟩
    · exact .inl ⟨1, by decide, by decide, fun Q hQ => c905a 398 hx hn hk (hQ _ (CI_ref (by decide) hC) frX_ref),
          fun h1 Q hM1 hQ => r1026a 396 hM1.1.1 hn hk (by have := MI_ref (w := 2) (r := 1) (by decide) hM1; exact hQ _ this.1 this.2.2 this.2.1)⟩
  · exact .inl ⟨0, by decide, by decide, fun Q hQ => c905q 398 hx z0 z1 (hQ _ (CI_ref (by decide) hC) frX_ref),
          fun h1 Q hM1 hQ => r1026q 396 hM1.1.1 z0 z1 (by have := MI_ref (w := 1) (r := 0) (by decide) hM1; exact hQ _ this.1 this.2.2 this.2.1)⟩
/-- pop -/
theorem P906 (hC : CI h x G) (hM : MI h m G) (hB : G.2.2.1 < 2 ^ 50) (v : Int32) : pairI x m 906 1027 [.int v] [1, 0, 2, 0] G h := by
  have hx := hC.1.1.1
  rcases i32_q v with ⟨n, hn, e⟩ | ⟨z0, z1⟩
  · subst e
    by_cases c : qN (hOf n G.1) = []
    · exact .inl ⟨2, by decide, by decide, fun Q hQ => c906s 398 hC.1 hn c (hQ _ (CI_ref (by decide) hC) frX_ref),
          fun h1 Q hM1 hQ => r1027s 396 hM1.1 hn c (by have := MI_ref (w := 2) (r := 2) (by decide) hM1; exact hQ _ this.1 this.2.2 this.2.1)⟩
    · exact .inr ⟨_, (hAct (1, n, 0, 0) G.1, psh G.2.1 G.1, G.2.2.1 + 300, G.2.2.2.1, G.2.2.2.2), Nat.le_refl _,
          fun Q hQ => c906 393 hC.1 hn c fun h' a b => hQ h' (CI_act hC a b) (frX_frC b),
          fun h1 Q hM1 hQ => c1027 394 hM1.1 hn c hB fun h' a b t => hQ h' (MI_act hM1 a b) (frX_frP b) t⟩
  · exact .inl ⟨0, by decide, by decide, fun Q hQ => c906q 398 hx z0 z1 (hQ _ (CI_ref (by decide) hC) frX_ref),
          fun h1 Q hM1 hQ => r1027q 396 hM1.1.1 z0 z1 (by have := MI_ref (w := 1) (r := 0) (by decide) hM1; exact hQ _ this.1 this.2.2 this.2.1)⟩
theorem hof_C {n : Nat} (hn : n < 2) (hC : CI h x G) : qC (hOf n G.1) ≤ 200 := (of_hJ hn (isC_J hC.1)).2.2.1
/-- lessen -/
theorem P907 (hC : CI h x G) (hM : MI h m G) (hB : G.2.2.1 < 2 ^ 50) (v i : Int32) (k : Int64) : pairI x m 907 1029 [.int v, .int i, .long k] [1, 3, 4, 2] G h := by
  have hx := hC.1.1.1
  rcases i32_q v with ⟨n, hn, e⟩ | ⟨z0, z1⟩
  · subst e
    have h200 := hof_C hn hC
    have hI1 := of_hJ hn (isC_J hC.1)
    rcases i32_in i (c := qC (hOf n G.1)) (by omega) with ⟨i, hi, e⟩ | hi
    · subst e
      rcases i64_key k with ⟨k, hk, e⟩ | hk
      · subst e
        by_cases c : i ∈ qN (hOf n G.1) ∧ qL (hOf n G.1) ≤ k ∧ k ≤ qK (hOf n G.1) i
        · exact .inr ⟨_, (hAct (2, n, i, k) G.1, psh G.2.1 G.1, G.2.2.1 + 300, G.2.2.2.1, G.2.2.2.2), Nat.le_refl _,
            fun Q hQ => c907 393 hC.1 hn c.1 hk c.2.1 c.2.2 fun h' a b => hQ h' (CI_act hC a b) (frX_frC b),
            fun h1 Q hM1 hQ => c1029 395 hM1.1 hn c.1 hk c.2.1 c.2.2 hB fun h' a b t => hQ h' (MI_act hM1 a b) (frX_frP b) t⟩
        · have c' : ¬ (qS (hOf n G.1) i = 0 ∧ qL (hOf n G.1) ≤ k ∧ k ≤ qK (hOf n G.1) i) := fun z => c ⟨(hI1.2.2.2.2.2.2.2.1 i).mpr ⟨hi, z.1⟩, z.2⟩
          exact .inl ⟨2, by decide, by decide, fun Q hQ => c907s 397 hC.1 hn hi hk c' (hQ _ (CI_ref (by decide) hC) frX_ref),
            fun h1 Q hM1 hQ => r1029s 396 hM1.1 hn hi hk c (by have := MI_ref (w := 4) (r := 2) (by decide) hM1; exact hQ _ this.1 this.2.2 this.2.1)⟩
      · exact .inl ⟨1, by decide, by decide, fun Q hQ => c907a 397 hC.1 hn hi hk (hQ _ (CI_ref (by decide) hC) frX_ref),
            fun h1 Q hM1 hQ => r1029a 396 hM1.1 hn hi hk (by have := MI_ref (w := 3) (r := 1) (by decide) hM1; exact hQ _ this.1 this.2.2 this.2.1)⟩
    · exact .inl ⟨3, by decide, by decide, fun Q hQ => c907e 398 hC.1 hn hi (hQ _ (CI_ref (by decide) hC) frX_ref),
            fun h1 Q hM1 hQ => r1029e 396 hM1.1 hn hi (by have := MI_ref (w := 2) (r := 3) (by decide) hM1; exact hQ _ this.1 this.2.2 this.2.1)⟩
  · exact .inl ⟨0, by decide, by decide, fun Q hQ => c907q 398 hx z0 z1 (hQ _ (CI_ref (by decide) hC) frX_ref),
            fun h1 Q hM1 hQ => r1029q 396 hM1.1.1 z0 z1 (by have := MI_ref (w := 1) (r := 0) (by decide) hM1; exact hQ _ this.1 this.2.2 this.2.1)⟩
/-- drop -/
theorem P908 (hC : CI h x G) (hM : MI h m G) (v i : Int32) : pairI x m 908 1030 [.int v, .int i] [1, 0, 3, 2] G h := by
  have hx := hC.1.1.1
  rcases i32_q v with ⟨n, hn, e⟩ | ⟨z0, z1⟩
  · subst e
    have h200 := hof_C hn hC
    rcases i32_in i (c := qC (hOf n G.1)) (by omega) with ⟨i, hi, e⟩ | hi
    · subst e
      by_cases c : i ∈ qN (hOf n G.1)
      · exact .inr ⟨_, (hAct (3, n, i, 0) G.1, psh G.2.1 G.1, G.2.2.1 + 300, G.2.2.2.1, G.2.2.2.2), Nat.le_refl _,
            fun Q hQ => c908 393 hC.1 hn c fun h' a b => hQ h' (CI_act hC a b) (frX_frC b),
            fun h1 Q hM1 hQ => c1030 396 hM1.1 hn c fun h' a b t => hQ h' (MI_act hM1 a b) (frX_frP b) t⟩
      · exact .inl ⟨2, by decide, by decide, fun Q hQ => c908s 398 hC.1 hn hi c (hQ _ (CI_ref (by decide) hC) frX_ref),
            fun h1 Q hM1 hQ => r1030s 396 hM1.1 hn hi c (by have := MI_ref (w := 3) (r := 2) (by decide) hM1; exact hQ _ this.1 this.2.2 this.2.1)⟩
    · exact .inl ⟨3, by decide, by decide, fun Q hQ => c908e 398 hC.1 hn hi (hQ _ (CI_ref (by decide) hC) frX_ref),
            fun h1 Q hM1 hQ => r1030e 396 hM1.1 hn hi (by have := MI_ref (w := 2) (r := 3) (by decide) hM1; exact hQ _ this.1 this.2.2 this.2.1)⟩
  · exact .inl ⟨0, by decide, by decide, fun Q hQ => c908q 398 hx z0 z1 (hQ _ (CI_ref (by decide) hC) frX_ref),
            fun h1 Q hM1 hQ => r1030q 396 hM1.1.1 z0 z1 (by have := MI_ref (w := 1) (r := 0) (by decide) hM1; exact hQ _ this.1 this.2.2 this.2.1)⟩
/-- pour -/
theorem P909 (hC : CI h x G) (hM : MI h m G) (hB : G.2.2.1 < 2 ^ 50) (v : Int32) : pairI x m 909 1031 [.int v] [1, 0, 2, 0] G h := by
  have hx := hC.1.1.1
  rcases i32_q v with ⟨n, hn, e⟩ | ⟨z0, z1⟩
  · subst e
    by_cases c : qC (hOf n G.1) + (qN (hOf (1 - n) G.1)).length ≤ 200 ∧ ∀ y, y ∈ qN (hOf (1 - n) G.1) → qL (hOf n G.1) ≤ qK (hOf (1 - n) G.1) y
    · exact .inr ⟨_, (hAct (4, n, 0, 0) G.1, psh G.2.1 G.1, G.2.2.1 + 300, G.2.2.2.1, G.2.2.2.2), Nat.le_refl _,
            fun Q hQ => c909 393 hC.1 hn c.1 c.2 fun h' a b => hQ h' (CI_act hC a b) (frX_frC b),
            fun h1 Q hM1 hQ => c1031 396 hM1.1 hn c.1 c.2 hB fun h' a b t => hQ h' (MI_act hM1 a b) (frX_frP b) t⟩
    · exact .inl ⟨2, by decide, by decide, fun Q hQ => c909s 398 hC.1 hn c (hQ _ (CI_ref (by decide) hC) frX_ref),
            fun h1 Q hM1 hQ => r1031s 396 hM1.1 hn c (by have := MI_ref (w := 2) (r := 2) (by decide) hM1; exact hQ _ this.1 this.2.2 this.2.1)⟩
  · exact .inl ⟨0, by decide, by decide, fun Q hQ => c909q 398 hx z0 z1 (hQ _ (CI_ref (by decide) hC) frX_ref),
            fun h1 Q hM1 hQ => r1031q 396 hM1.1.1 z0 z1 (by have := MI_ref (w := 1) (r := 0) (by decide) hM1; exact hQ _ this.1 this.2.2 this.2.1)⟩
theorem i32_b (v : Int32) : (∃ n, 1 ≤ n ∧ n ≤ 4 ∧ v = nI n) ∨ (v < nI 1 ∨ nI 4 < v) := by
  rcases i32_in v (c := 5) (by decide) with ⟨i, hi, e⟩ | z
  · subst e
    by_cases h0 : i = 0
    · subst h0; exact .inr (.inl (by decide))
    · exact .inl ⟨i, by omega, by omega, rfl⟩
  · refine .inr ?_
    rcases z with z | z
    · left; rw [Int32.lt_iff_toInt_lt] at z ⊢; have a : (0 : Int32).toInt = 0 := by decide
      have b : (nI 1).toInt = 1 := by decide
      omega
    · right; rw [Int32.le_iff_toInt_le] at z; rw [Int32.lt_iff_toInt_lt]; have a : (nI 4).toInt = 4 := by decide
      have b : (nI 5).toInt = 5 := by decide
      omega
/-- digits -/
theorem P910 (hC : CI h x G) (hM : MI h m G) (v : Int32) : pairI x m 910 1032 [.int v] [0, 1, 2, 0] G h := by
  have hx := hC.1.1.1
  rcases i32_b v with ⟨n, h1, h4, e⟩ | z
  · subst e
    by_cases c : qN G.1.2.1 = [] ∧ qN G.1.2.2 = []
    · exact .inr ⟨_, (hAct (5, 0, n, 0) G.1, psh G.2.1 G.1, G.2.2.1 + 300, G.2.2.2.1, G.2.2.2.2), Nat.le_refl _,
            fun Q hQ => c910 393 hC.1 h1 h4 c.1 c.2 fun h' a b => hQ h' (CI_act hC a b) (frX_frC b),
            fun h9 Q hM1 hQ => c1032 396 hM1.1 h1 h4 c.1 c.2 fun h' a b t => hQ h' (MI_act hM1 a b) (frX_frP b) t⟩
    · exact .inl ⟨2, by decide, by decide, fun Q hQ => c910s 398 hC.1 h1 h4 c (hQ _ (CI_ref (by decide) hC) frX_ref),
            fun h9 Q hM1 hQ => r1032s 396 hM1.1 h1 h4 c (by have := MI_ref (w := 2) (r := 2) (by decide) hM1; exact hQ _ this.1 this.2.2 this.2.1)⟩
  · exact .inl ⟨1, by decide, by decide, fun Q hQ => c910a 398 hx z (hQ _ (CI_ref (by decide) hC) frX_ref),
            fun h9 Q hM1 hQ => r1032a 396 hM1.1.1 z (by have := MI_ref (w := 1) (r := 1) (by decide) hM1; exact hQ _ this.1 this.2.2 this.2.1)⟩
/-- clear -/
theorem P911 (hC : CI h x G) (hM : MI h m G) (v : Int32) : pairI x m 911 1033 [.int v] [1, 0, 0, 0] G h := by
  have hx := hC.1.1.1
  rcases i32_q v with ⟨n, hn, e⟩ | ⟨z0, z1⟩
  · subst e
    exact .inr ⟨_, (hAct (6, n, 0, 0) G.1, psh G.2.1 G.1, G.2.2.1 + 300, G.2.2.2.1, G.2.2.2.2), Nat.le_refl _,
            fun Q hQ => c911 393 hC.1 hn fun h' a b => hQ h' (CI_act hC a b) (frX_frC b),
            fun h9 Q hM1 hQ => c1033 396 hM1.1 hn fun h' a b t => hQ h' (MI_act hM1 a b) (frX_frP b) t⟩
  · exact .inl ⟨0, by decide, by decide, fun Q hQ => c911q 398 hx z0 z1 (hQ _ (CI_ref (by decide) hC) frX_ref),
            fun h9 Q hM1 hQ => r1033q 396 hM1.1.1 z0 z1 (by have := MI_ref (w := 1) (r := 0) (by decide) hM1; exact hQ _ this.1 this.2.2 this.2.1)⟩
/-- undo -/
theorem P912 (hC : CI h x G) (hM : MI h m G) : ∃ v G', done x m 912 1023 [] (.int v) G G' h := by
  obtain ⟨H, P, B, R, Z⟩ := G
  by_cases e : P = []
  · subst e
    refine ⟨-nI 1, (H, [], B, R, Z), Nat.le_add_right _ _, fun Q hQ => c912e 398 hC.1 (hQ _ hC (frX_refl _ _ _)), fun h1 Q hM1 hQ => c1023e 399 hM1.1 ?_⟩
    have f : frP m h1 (thr h1 m) := frP_thr
    exact hQ _ (MI_act hM1 (isM_thr hM1.1) f) (frX_frP f) thr_0
  · obtain ⟨P0, H', e2⟩ : ∃ P0 H', P = P0 ++ [H'] := ⟨P.dropLast, P.getLast e, (List.dropLast_concat_getLast e).symm⟩
    subst e2
    exact ⟨_, (H', P0, B, R, Z), Nat.le_add_right _ _, fun Q hQ => c912 394 hC.1 fun h' a b => hQ h' (CI_act hC a b) (frX_frC b),
      fun h1 Q hM1 hQ => c1023 398 hM1.1 fun h' a b t => hQ h' (MI_act hM1 a b) (frX_frP b) t⟩
end PA
