/-! ===== THE STATE OF BOTH: the hand, what was before, refusals, the tape, the plan, the chart ===== -/
abbrev Pw : Type := Nat × Nat × Nat × Nat
abbrev St : Type := Nat × Nat × Nat
def p0 : Pw := (0, 0, 0, 0)
def s0 : St := (0, 0, 0)
/-- a row of the plan as a step: kind, item, key -/
def stOf (r : Pw) : St := if r.1 = 0 then (0, 0, r.2.1) else (r.1, r.2.1, r.2.2.1)
/-- a step's numbers -/
def stB (s : St) : Prop := s.1 < 4 ∧ s.2.1 < 200 ∧ s.2.2 ≤ 1000000000
/-- the rows from i to t, unrolled, are U -/
def SG (R : Nat → Pw) (i t : Nat) (U : List St) : Prop := ∀ P : Nat → Nat → List St → Prop, (∀ i, P i i []) →
  (∀ i t U, (R i).1 < 4 → stB (stOf (R i)) → P (i + 1) t U → P i t (stOf (R i) :: U)) →
  (∀ i e t U V, (R i).1 = 4 → (R i).2.1 ≤ 50 → (R i).2.2.2 = e → P (i + 1) e U → P e t V → P i t ((List.replicate (R i).2.1 U).flatten ++ V)) → P i t U
/-- a plan: its steps unrolled, how many are written -/
abbrev Ps : Type := List St × Nat
def plS (h : pm_H) (c : Nat) : Prop :=
  hT h c = 4 ∧ hR h c 0 = c + 1 ∧ hR h c 1 = c + 2 ∧ hR h c 2 = c + 3 ∧ hR h c 3 = c + 4 ∧ hR h c 4 = c + 5 ∧ hT h (c + 1) = 100 ∧ hT h (c + 2) = 100 ∧ hT h (c + 3) = 100 ∧ hT h (c + 4) = 100 ∧ hT h (c + 5) = 100 ∧
  hN h (c + 1) = 400 ∧ hN h (c + 2) = 400 ∧ hN h (c + 3) = 400 ∧ hN h (c + 4) = 3 ∧ hN h (c + 5) = 3
/-- the class's rows of steps -/
def isS (h : pm_H) (c : Nat) (S : List St) : Prop := S.length ≤ 400 ∧ hI h c 5 = nI S.length ∧ ∀ i, i < S.length → hI h (c + 1) i = nI (S.getD i s0).1 ∧ hI h (c + 2) i = nI (S.getD i s0).2.1 ∧ hI h (c + 3) i = nI (S.getD i s0).2.2
def chS (h : pm_H) (c : Nat) : Prop :=
  hT h c = 2 ∧ hR h c 0 = c + 1 ∧ hR h c 1 = c + 2 ∧ hR h c 2 = c + 3 ∧ hR h c 3 = c + 4 ∧ hR h c 4 = c + 5 ∧ hR h c 5 = c + 6 ∧ hR h c 6 = c + 7 ∧ hR h c 7 = c + 8 ∧
  hT h (c + 1) = 100 ∧ hT h (c + 2) = 100 ∧ hT h (c + 3) = 100 ∧ hT h (c + 4) = 100 ∧ hT h (c + 5) = 100 ∧ hT h (c + 6) = 100 ∧ hT h (c + 7) = 100 ∧ hT h (c + 8) = 100 ∧
  hN h (c + 1) = 60 ∧ hN h (c + 2) = 60 ∧ hN h (c + 3) = 60 ∧ hN h (c + 4) = 12 ∧ hN h (c + 5) = 12 ∧ hN h (c + 6) = 16 ∧ hN h (c + 7) = 16 ∧ hN h (c + 8) = 16
abbrev Ed : Type := Nat × Nat × Nat
abbrev Ev : Type := Nat × Nat
def ed0 : Ed := (0, 0, 0)
def ev0 : Ev := (0, 0)
abbrev Cs : Type := List Ed × List Ev × List Ed
def chOK (C : Cs) : Prop := C.1.length ≤ 60 ∧ C.2.1.length ≤ 12 ∧ C.2.2.length ≤ 16 ∧ (∀ e, e ∈ C.1 → e.1 < 16 ∧ e.2.1 < 16 ∧ e.2.2 ≤ 1000000000) ∧ (∀ e, e ∈ C.2.1 → e.1 < 8 ∧ e.2 ≤ 1000000000) ∧ ∀ e, e ∈ C.2.2 → e.1 < 8 ∧ e.2.1 ≤ 1000000000 ∧ e.2.2 < 8
def isCh (h : pm_H) (c : Nat) (C : Cs) : Prop :=
  hI h c 8 = nI C.1.length ∧ hI h c 9 = nI C.2.1.length ∧ hI h c 10 = nI C.2.2.length ∧
  (∀ i, i < C.1.length → hI h (c + 1) i = nI (C.1.getD i ed0).1 ∧ hI h (c + 2) i = nI (C.1.getD i ed0).2.1 ∧ hI h (c + 3) i = nI (C.1.getD i ed0).2.2) ∧
  (∀ i, i < C.2.1.length → hI h (c + 4) i = nI (C.2.1.getD i ev0).1 ∧ hI h (c + 5) i = nI (C.2.1.getD i ev0).2) ∧
  ∀ i, i < C.2.2.length → hI h (c + 6) i = nI (C.2.2.getD i ed0).1 ∧ hI h (c + 7) i = nI (C.2.2.getD i ed0).2.1 ∧ hI h (c + 8) i = nI (C.2.2.getD i ed0).2.2
/-- a byte as the class holds it -/
def bI (b : Nat) : Int32 := (nI b).toInt8.toInt32
def tpS (h : pm_H) (t : Nat) : Prop := hT h t = 8 ∧ hR h t 0 = t + 1 ∧ hT h (t + 1) = 102 ∧ hN h (t + 1) = 500
/-- the class's fixed links -/
def xS (h : pm_H) (x : Nat) : Prop :=
  hT h x = 9 ∧ hR h x 2 = x + 32 ∧ hR h x 7 = x + 64 ∧ hR h x 8 = x + 70 ∧ hR h x 9 = x + 72 ∧ hR h x 10 = x + 78 ∧ bS h (x + 64) 300 ∧
  (hT h (x + 70) = 5 ∧ hR h (x + 70) 0 = x + 64 ∧ hR h (x + 70) 1 = x + 71 ∧ hT h (x + 71) = 100 ∧ hN h (x + 71) = 200) ∧
  (hT h (x + 72) = 7 ∧ hR h (x + 72) 0 = x + 64 ∧ hR h (x + 72) 1 = x + 73 ∧ hR h (x + 72) 2 = x + 74 ∧ hR h (x + 72) 3 = x + 75 ∧ hR h (x + 72) 4 = x + 76 ∧ hR h (x + 72) 5 = x + 77 ∧
    hT h (x + 73) = 100 ∧ hT h (x + 74) = 100 ∧ hT h (x + 75) = 100 ∧ hT h (x + 76) = 100 ∧ hT h (x + 77) = 100 ∧ hN h (x + 73) = 16 ∧ hN h (x + 74) = 16 ∧ hN h (x + 75) = 16 ∧ hN h (x + 76) = 16 ∧ hN h (x + 77) = 16) ∧
  (hT h (x + 78) = 6 ∧ hR h (x + 78) 0 = x + 64 ∧ hR h (x + 78) 1 = x + 79 ∧ hR h (x + 78) 2 = x + 80 ∧ hR h (x + 78) 3 = x + 81 ∧ hT h (x + 79) = 100 ∧ hT h (x + 80) = 100 ∧ hT h (x + 81) = 100 ∧ hN h (x + 79) = 300 ∧ hN h (x + 80) = 200 ∧ hN h (x + 81) = 8) ∧
  tpS h (x + 32) ∧ plS h (x + 34) ∧ plS h (x + 40) ∧ chS h (x + 46) ∧ chS h (x + 55)
def cTp (h : pm_H) (t : Nat) (T : List Nat) (F : Option Nat) : Prop := hI h t 1 = nI T.length ∧ hI h t 5 = iv F ∧ ∀ i, i < T.length → hI h (t + 1) i = bI (T.getD i 0)
def cPl (h : pm_H) (x : Nat) (L : Ps) : Prop := ∃ c s, ((c = x + 34 ∧ s = x + 40) ∨ (c = x + 40 ∧ s = x + 34)) ∧ hR h x 3 = c ∧ hR h x 4 = s ∧ hI h c 6 = nI L.2 ∧ isS h c (L.1.take 400)
def cCh (h : pm_H) (x : Nat) (C : Cs) : Prop := ∃ c s, ((c = x + 46 ∧ s = x + 55) ∨ (c = x + 55 ∧ s = x + 46)) ∧ hR h x 5 = c ∧ hR h x 6 = s ∧ isCh h c C
/-- what stays in the text's part: the tape, the fault's place, the plan, the chart -/
abbrev Ts : Type := List Nat × Option Nat × Ps × Cs
def tsOK (Z : Ts) : Prop := Z.1.length ≤ 500 ∧ (∀ b, b ∈ Z.1 → b < 256) ∧ (∀ p, Z.2.1 = some p → p ≤ 500) ∧ Z.2.2.1.2 ≤ 300 ∧ (∀ s, s ∈ Z.2.2.1.1 → stB s) ∧ chOK Z.2.2.2
def cTs (h : pm_H) (x : Nat) (Z : Ts) : Prop := xS h x ∧ cTp h (x + 32) Z.1 Z.2.1 ∧ cPl h x Z.2.2.1 ∧ cCh h x Z.2.2.2
def mTp (h : pm_H) (m : Nat) (T : List Nat) (F : Option Nat) : Prop := hI h m 2 = nI T.length ∧ hI h m 5 = iv F ∧ ∀ i, i < T.length → hI h (m + 2) i = nI (T.getD i 0)
def rwIs (h : pm_H) (k : Nat) (r : Pw) : Prop := hI h k 0 = nI r.1 ∧ hI h k 1 = nI r.2.1 ∧ hI h k 2 = nI r.2.2.1 ∧ hI h k 3 = nI r.2.2.2
def mPl (h : pm_H) (m : Nat) (L : Ps) : Prop := hI h m 25 = nI L.2 ∧ ∃ R, SG R 0 L.2 L.1 ∧ ∀ i, i < L.2 → rwIs h (m + 28 + i) (R i) ∧ (R i).1 ≤ 4
def mCh (h : pm_H) (m : Nat) (C : Cs) : Prop :=
  hI h m 26 = nI C.1.length ∧ hI h m 27 = nI C.2.1.length ∧ hI h m 28 = nI C.2.2.length ∧
  (∀ i, i < C.1.length → hI h (m + 630 + i) 0 = nI (C.1.getD i ed0).1 ∧ hI h (m + 630 + i) 1 = nI (C.1.getD i ed0).2.1 ∧ hI h (m + 630 + i) 2 = nI (C.1.getD i ed0).2.2) ∧
  (∀ i, i < C.2.1.length → hI h (m + 691 + i) 0 = nI (C.2.1.getD i ev0).1 ∧ hI h (m + 691 + i) 1 = nI (C.2.1.getD i ev0).2) ∧
  ∀ i, i < C.2.2.length → hI h (m + 704 + i) 0 = nI (C.2.2.getD i ed0).1 ∧ hI h (m + 704 + i) 1 = nI (C.2.2.getD i ed0).2.1 ∧ hI h (m + 704 + i) 2 = nI (C.2.2.getD i ed0).2.2
def mTs (h : pm_H) (m : Nat) (Z : Ts) : Prop := mTp h m Z.1 Z.2.1 ∧ mPl h m Z.2.2.1 ∧ mCh h m Z.2.2.2
def cRf (h : pm_H) (x : Nat) (R : Nat → Int32) : Prop := ∀ r, r < 4 → hI h x (11 + r) = R r
def mRf (h : pm_H) (m : Nat) (R : Nat → Int32) : Prop := ∀ r, r < 4 → hI h (m + 1) r = R r
/-- the whole state: hand, before, bound, refusals, texts -/
abbrev Gs : Type := Hs × List Hs × Nat × (Nat → Int32) × Ts
def CI (h : pm_H) (x : Nat) (G : Gs) : Prop := isC h x (x + 1) (x + 14) G.1 G.2.1 ∧ cRf h x G.2.2.2.1 ∧ cTs h x G.2.2.2.2
def MI (h : pm_H) (m : Nat) (G : Gs) : Prop := isM h m G.1 G.2.1 G.2.2.1 ∧ mRf h m G.2.2.2.1 ∧ mTs h m G.2.2.2.2 ∧ tsOK G.2.2.2.2
/-- rows outside lo to hi stay -/
def frX (lo hi : Nat) (h h' : pm_H) : Prop := hT h' = hT h ∧ hN h' = hN h ∧ hn h' = hn h ∧ ∀ k, (k < lo ∨ hi ≤ k) → hI h' k = hI h k ∧ hL h' k = hL h k ∧ hR h' k = hR h k
theorem frX_refl (lo hi : Nat) (h : pm_H) : frX lo hi h h := ⟨rfl, rfl, rfl, fun _ _ => ⟨rfl, rfl, rfl⟩⟩
theorem frX_trans {lo hi : Nat} {h h1 h2 : pm_H} (a : frX lo hi h h1) (b : frX lo hi h1 h2) : frX lo hi h h2 :=
  ⟨b.1.trans a.1, b.2.1.trans a.2.1, b.2.2.1.trans a.2.2.1, fun k q => ⟨(b.2.2.2 k q).1.trans (a.2.2.2 k q).1, (b.2.2.2 k q).2.1.trans (a.2.2.2 k q).2.1, (b.2.2.2 k q).2.2.trans (a.2.2.2 k q).2.2⟩⟩
theorem frX_fr {lo hi a b : Nat} {h h' : pm_H} (f : fr a b h h') (h1 : lo ≤ a) (h2 : b ≤ hi) : frX lo hi h h' :=
  ⟨f.1, f.2.1, f.2.2.2.1, fun k q => ⟨(f.2.2.2.2 k (by omega)).1, (f.2.2.2.2 k (by omega)).2, by rw [f.2.2.1]⟩⟩
theorem frX_frC {x : Nat} {h h' : pm_H} (f : frC (x + 1) (x + 14) h h') : frX x (x + 82) h h' :=
  ⟨f.1, f.2.1, f.2.2.2.1, fun k q => ⟨(f.2.2.2.2 k (by omega) (by omega)).1, (f.2.2.2.2 k (by omega) (by omega)).2, by rw [f.2.2.1]⟩⟩
theorem frX_frP {m : Nat} {h h' : pm_H} (f : frP m h h') : frX m (m + 823) h h' :=
  ⟨f.1, f.2.1, f.2.2.2.1, fun k q => ⟨f.2.2.2.2.2.1 k (by omega) (by omega) (by omega), f.2.2.2.2.2.2 k (by omega), by rw [f.2.2.1]⟩⟩
/-! what a row does not touch stays -/
theorem plS_eq {h h' : pm_H} {c : Nat} (h1 : hT h' = hT h) (h2 : hN h' = hN h) (h3 : hR h' c = hR h c) (hs : plS h c) : plS h' c := by
  unfold plS at *; rw [h1, h2, h3]; exact hs
theorem chS_eq {h h' : pm_H} {c : Nat} (h1 : hT h' = hT h) (h2 : hN h' = hN h) (h3 : hR h' c = hR h c) (hs : chS h c) : chS h' c := by
  unfold chS at *; rw [h1, h2, h3]; exact hs
theorem tpS_eq {h h' : pm_H} {c : Nat} (h1 : hT h' = hT h) (h2 : hN h' = hN h) (h3 : hR h' c = hR h c) (hs : tpS h c) : tpS h' c := by
  unfold tpS at *; rw [h1, h2, h3]; exact hs
theorem bS_eq {h h' : pm_H} {c cap : Nat} (h1 : hT h' = hT h) (h2 : hN h' = hN h) (h3 : hR h' c = hR h c) (hs : bS h c cap) : bS h' c cap := by
  unfold bS at *; rw [h1, h2, h3]; exact hs
/-- the links, where the object's own row of links but 3 to 6 and the others' stay -/
theorem xS_eq {h h' : pm_H} {x : Nat} (h1 : hT h' = hT h) (h2 : hN h' = hN h) (h3 : ∀ j, (j < 3 ∨ 6 < j) → hR h' x j = hR h x j) (h4 : ∀ k, x < k → k < x + 82 → hR h' k = hR h k) (hs : xS h x) : xS h' x := by
  obtain ⟨a0, a1, a2, a3, a4, a5, a6, a7, a8, a9, b1, b2, b3, b4, b5⟩ := hs
  refine ⟨?_, ?_, ?_, ?_, ?_, ?_, bS_eq h1 h2 (h4 _ (by omega) (by omega)) a6, ?_, ?_, ?_, tpS_eq h1 h2 (h4 _ (by omega) (by omega)) b1, plS_eq h1 h2 (h4 _ (by omega) (by omega)) b2, plS_eq h1 h2 (h4 _ (by omega) (by omega)) b3, chS_eq h1 h2 (h4 _ (by omega) (by omega)) b4, chS_eq h1 h2 (h4 _ (by omega) (by omega)) b5⟩
  · rw [h1]; exact a0
  · rw [h3 _ (by omega)]; exact a1
  · rw [h3 _ (by omega)]; exact a2
  · rw [h3 _ (by omega)]; exact a3
  · rw [h3 _ (by omega)]; exact a4
  · rw [h3 _ (by omega)]; exact a5
  · rw [h1, h2, h4 _ (by omega) (by omega)]; exact a7
  · rw [h1, h2, h4 _ (by omega) (by omega)]; exact a8
  · rw [h1, h2, h4 _ (by omega) (by omega)]; exact a9
theorem isS_eq {h h' : pm_H} {c : Nat} {S : List St} (h1 : ∀ k, c ≤ k → k < c + 4 → hI h' k = hI h k) (hs : isS h c S) : isS h' c S := by
  unfold isS at *
  rw [h1 c (by omega) (by omega), h1 (c + 1) (by omega) (by omega), h1 (c + 2) (by omega) (by omega), h1 (c + 3) (by omega) (by omega)]
  exact hs
theorem isCh_eq {h h' : pm_H} {c : Nat} {C : Cs} (h1 : ∀ k, c ≤ k → k < c + 9 → hI h' k = hI h k) (hs : isCh h c C) : isCh h' c C := by
  unfold isCh at *
  rw [h1 c (by omega) (by omega), h1 (c + 1) (by omega) (by omega), h1 (c + 2) (by omega) (by omega), h1 (c + 3) (by omega) (by omega), h1 (c + 4) (by omega) (by omega), h1 (c + 5) (by omega) (by omega), h1 (c + 6) (by omega) (by omega), h1 (c + 7) (by omega) (by omega), h1 (c + 8) (by omega) (by omega)]
  exact hs
theorem cTp_eq {h h' : pm_H} {t : Nat} {T : List Nat} {F : Option Nat} (h1 : hI h' t = hI h t) (h2 : hI h' (t + 1) = hI h (t + 1)) (hs : cTp h t T F) : cTp h' t T F := by
  unfold cTp at *; rw [h1, h2]; exact hs
theorem cPl_eq {h h' : pm_H} {x : Nat} {L : Ps} (h1 : hR h' x 3 = hR h x 3) (h2 : hR h' x 4 = hR h x 4) (h3 : ∀ k, x + 34 ≤ k → k < x + 46 → hI h' k = hI h k) (hs : cPl h x L) : cPl h' x L := by
  obtain ⟨c, s, a1, a2, a3, a4, a5⟩ := hs
  refine ⟨c, s, a1, h1.trans a2, h2.trans a3, ?_, isS_eq (fun k q1 q2 => h3 k (by omega) (by omega)) a5⟩
  rw [h3 c (by omega) (by omega)]; exact a4
theorem cCh_eq {h h' : pm_H} {x : Nat} {C : Cs} (h1 : hR h' x 5 = hR h x 5) (h2 : hR h' x 6 = hR h x 6) (h3 : ∀ k, x + 46 ≤ k → k < x + 64 → hI h' k = hI h k) (hs : cCh h x C) : cCh h' x C := by
  obtain ⟨c, s, a1, a2, a3, a4⟩ := hs
  exact ⟨c, s, a1, h1.trans a2, h2.trans a3, isCh_eq (fun k q1 q2 => h3 k (by omega) (by omega)) a4⟩
theorem cTs_eq {h h' : pm_H} {x : Nat} {Z : Ts} (h1 : hT h' = hT h) (h2 : hN h' = hN h) (h3 : hR h' = hR h) (h4 : ∀ k, x + 32 ≤ k → k < x + 64 → hI h' k = hI h k) (hs : cTs h x Z) : cTs h' x Z :=
  ⟨xS_eq h1 h2 (fun _ _ => by rw [h3]) (fun _ _ _ => by rw [h3]) hs.1, cTp_eq (h4 _ (by omega) (by omega)) (h4 _ (by omega) (by omega)) hs.2.1, cPl_eq (by rw [h3]) (by rw [h3]) (fun k a b => h4 k (by omega) (by omega)) hs.2.2.1, cCh_eq (by rw [h3]) (by rw [h3]) (fun k a b => h4 k (by omega) (by omega)) hs.2.2.2⟩
theorem mTs_eq {h h' : pm_H} {m : Nat} {Z : Ts} (h1 : hI h' m 2 = hI h m 2) (h2 : hI h' m 5 = hI h m 5) (h3 : hI h' m 25 = hI h m 25) (h4 : hI h' m 26 = hI h m 26) (h5 : hI h' m 27 = hI h m 27) (h6 : hI h' m 28 = hI h m 28)
    (h7 : ∀ k, (k = m + 2 ∨ (m + 28 ≤ k ∧ k < m + 328) ∨ (m + 630 ≤ k ∧ k < m + 720)) → hI h' k = hI h k) (hO : tsOK Z) (hs : mTs h m Z) : mTs h' m Z := by
  obtain ⟨⟨a1, a2, a3⟩, ⟨b1, R, b0, b2⟩, c1, c2, c3, c4, c5, c6⟩ := hs
  obtain ⟨t1, t2, t3, t4, t5, u1, u2, u3, _⟩ := hO
  refine ⟨⟨h1.trans a1, h2.trans a2, fun i hi => ?_⟩, ⟨h3.trans b1, R, b0, fun i hi => ?_⟩, h4.trans c1, h5.trans c2, h6.trans c3, fun i hi => ?_, fun i hi => ?_, fun i hi => ?_⟩
  · rw [h7 _ (by omega)]; exact a3 i hi
  · unfold rwIs; rw [h7 _ (by omega)]; exact b2 i hi
  · rw [h7 _ (by omega)]; exact c4 i hi
  · rw [h7 _ (by omega)]; exact c5 i hi
  · rw [h7 _ (by omega)]; exact c6 i hi
