/-! ===== A QUEUE, PLAIN: last, how many came, keys, moves, buckets, states (0 waits, 1 taken, 2 dropped), the line of those that wait ===== -/
abbrev Qs : Type := Nat × Nat × (Nat → Nat) × (Nat → Nat) × (Nat → Nat) × (Nat → Nat) × List Nat
def qL (A : Qs) : Nat := A.1
def qC (A : Qs) : Nat := A.2.1
def qK (A : Qs) : Nat → Nat := A.2.2.1
def qM (A : Qs) : Nat → Nat := A.2.2.2.1
def qW (A : Qs) : Nat → Nat := A.2.2.2.2.1
def qS (A : Qs) : Nat → Nat := A.2.2.2.2.2.1
def qN (A : Qs) : List Nat := A.2.2.2.2.2.2
/-- an item comes behind all of its bucket -/
def insB (W : Nat → Nat) (b i : Nat) : List Nat → List Nat
  | [] => [i]
  | x :: r => if W x ≤ b then x :: insB W b i r else i :: x :: r
def qAdd (bits key : Nat) (A : Qs) : Qs :=
  (qL A, qC A + 1, va_up (qK A) (qC A) key, va_up (qM A) (qC A) 0, va_up (qW A) (qC A) (bk bits (qL A) key), va_up (qS A) (qC A) 0, insB (qW A) (bk bits (qL A) key) (qC A) (qN A))
/-- the least of the keys -/
def minA (K : Nat → Nat) : Nat → List Nat → Nat
  | m, [] => m
  | m, y :: r => minA K (if K y < m then K y else m) r
def minK (K : Nat → Nat) : List Nat → Nat
  | [] => 0
  | x :: r => minA K (K x) r
def sumM (M : Nat → Nat) : Nat → Nat
  | 0 => 0
  | n + 1 => sumM M n + M n
def maxM (M : Nat → Nat) : Nat → Nat
  | 0 => 0
  | n + 1 => if maxM M n < M n then M n else maxM M n
def mixN (K M : Nat → Nat) (s : Nat) : Nat → Nat
  | 0 => s
  | n + 1 => 31 * (31 * mixN K M s n + K n) + M n
/-- dealt out: the moves, the buckets, the line -/
def dlt (bits l : Nat) (K : Nat → Nat) : List Nat → (Nat → Nat) → (Nat → Nat) → List Nat → (Nat → Nat) × (Nat → Nat) × List Nat
  | [], M, W, L => (M, W, L)
  | x :: r, M, W, L => dlt bits l K r (va_up M x (M x + 1)) (va_up W x (bk bits l (K x))) (insB W (bk bits l (K x)) x L)
def hdB (A : Qs) : Nat := qW A ((qN A).headD 0)
def hdD (A : Qs) : List Nat := (qN A).takeWhile fun x => qW A x == hdB A
def hdR (A : Qs) : List Nat := (qN A).dropWhile fun x => qW A x == hdB A
def qDeal (bits : Nat) (A : Qs) : Qs :=
  let m := minK (qK A) (hdD A)
  let z := dlt bits m (qK A) (hdD A) (qM A) (qW A) []
  (m, qC A, qK A, z.1, z.2.1, qS A, z.2.2 ++ hdR A)
def qRdy (bits : Nat) (A : Qs) : Qs := if hdB A = 0 then A else qDeal bits A
def qTop (bits : Nat) (A : Qs) : Nat := (qN (qRdy bits A)).headD 0
def qTake (bits : Nat) (A : Qs) : Qs :=
  let B := qRdy bits A
  (qL B, qC B, qK B, qM B, qW B, va_up (qS B) ((qN B).headD 0) 1, (qN B).tail)
def qLow (bits i key : Nat) (A : Qs) : Qs :=
  let w := bk bits (qL A) key
  if w = qW A i then (qL A, qC A, va_up (qK A) i key, qM A, qW A, qS A, qN A)
  else (qL A, qC A, va_up (qK A) i key, va_up (qM A) i (qM A i + 1), va_up (qW A) i w, qS A, insB (qW A) w i ((qN A).erase i))
def qCast (i : Nat) (A : Qs) : Qs := (qL A, qC A, qK A, qM A, qW A, va_up (qS A) i 2, (qN A).erase i)
def qEmp (A : Qs) : Qs := (0, 0, qK A, qM A, qW A, qS A, [])
/-- all dropped -/
def dropS : List Nat → (Nat → Nat) → (Nat → Nat)
  | [], S => S
  | x :: r, S => dropS r (va_up S x 2)
def qOut (A : Qs) : Qs := (qL A, qC A, qK A, qM A, qW A, dropS (qN A) (qS A), [])
def addAll (bits : Nat) (K : Nat → Nat) : List Nat → Qs → Qs
  | [], A => A
  | x :: r, A => addAll bits K r (qAdd bits (K x) A)
/-- what holds of a queue at all times -/
def qI (bits limit : Nat) (A : Qs) : Prop :=
  1 ≤ bits ∧ bits ≤ 4 ∧ qC A ≤ limit ∧ limit ≤ 300 ∧ qL A < 2 ^ 40 ∧ (∀ i, i < qC A → qK A i < 2 ^ 40) ∧ (qN A).Nodup ∧ (∀ i, i ∈ qN A ↔ i < qC A ∧ qS A i = 0) ∧
  (qN A).Pairwise (fun x y => qW A x ≤ qW A y) ∧ (∀ i, i ∈ qN A → qW A i = bk bits (qL A) (qK A i) ∧ qL A ≤ qK A i) ∧ (qN A).length ≤ qC A ∧ (∀ i, i < qC A → qS A i ≤ 2)
/-! ===== ONE QUEUE OF THE CLASS: its rows in the heap ===== -/
/-- the object at b with its five arrays behind it -/
def bS (h : pm_H) (b cap : Nat) : Prop :=
  hT h b = 1 ∧ hR h b 0 = b + 2 ∧ hR h b 1 = b + 3 ∧ hR h b 2 = b + 4 ∧ hR h b 3 = b + 5 ∧ hR h b 4 = b + 1 ∧
  hT h (b + 1) = 101 ∧ hT h (b + 2) = 101 ∧ hT h (b + 3) = 100 ∧ hT h (b + 4) = 100 ∧ hT h (b + 5) = 100 ∧
  hN h (b + 1) = 3 ∧ hN h (b + 2) = cap ∧ hN h (b + 3) = cap ∧ hN h (b + 4) = cap ∧ hN h (b + 5) = cap ∧ cap ≤ 300
def wv (s w : Nat) : Int32 := if s = 0 then nI w else if s = 1 then -nI 1 else -nI 2
def isB (h : pm_H) (b cap bits limit : Nat) (A : Qs) : Prop :=
  bS h b cap ∧ limit ≤ cap ∧ hI h b 5 = nI limit ∧ hI h b 6 = nI bits ∧ hL h b 7 = lN (qL A) ∧ hI h b 8 = nI (qC A) ∧ hI h b 9 = nI (qN A).length ∧
  (∀ i, i < qC A → hL h (b + 2) i = lN (qK A i)) ∧ (∀ i, i < qC A → hI h (b + 3) i = wv (qS A i) (qW A i)) ∧ (∀ i, i < qC A → hI h (b + 4) i = nI (qM A i)) ∧
  (∀ j, j < (qN A).length → hI h (b + 5) j = nI ((qN A).getD j 0))
/-- the buckets that ever had an item -/
def isF (h : pm_H) (b : Nat) (U : Nat → Bool) : Prop := ∀ k, k < 192 → (hL h (b + 1) (k / 64)).toBitVec.getLsbD (k % 64) = U k
/-- nothing else changed but rows between lo and hi -/
def fr (lo hi : Nat) (h h' : pm_H) : Prop := hT h' = hT h ∧ hN h' = hN h ∧ hR h' = hR h ∧ hn h' = hn h ∧ ∀ k, (k < lo ∨ hi ≤ k) → hI h' k = hI h k ∧ hL h' k = hL h k
theorem fr_refl (lo hi : Nat) (h : pm_H) : fr lo hi h h := ⟨rfl, rfl, rfl, rfl, fun _ _ => ⟨rfl, rfl⟩⟩
theorem fr_trans {lo hi : Nat} {h h1 h2 : pm_H} (a : fr lo hi h h1) (b : fr lo hi h1 h2) : fr lo hi h h2 :=
  ⟨b.1.trans a.1, b.2.1.trans a.2.1, b.2.2.1.trans a.2.2.1, b.2.2.2.1.trans a.2.2.2.1, fun k hk => ⟨(b.2.2.2.2 k hk).1.trans (a.2.2.2.2 k hk).1, (b.2.2.2.2 k hk).2.trans (a.2.2.2.2 k hk).2⟩⟩
theorem fr_wide {lo hi lo' hi' : Nat} {h h' : pm_H} (a : fr lo hi h h') (h1 : lo' ≤ lo) (h2 : hi ≤ hi') : fr lo' hi' h h' :=
  ⟨a.1, a.2.1, a.2.2.1, a.2.2.2.1, fun k hk => a.2.2.2.2 k (by omega)⟩
theorem fr_sI {lo hi : Nat} {h h' : pm_H} (a : fr lo hi h h') {k : Nat} {g : Nat → Int32} (h1 : lo ≤ k) (h2 : k < hi) : fr lo hi h (sI h' k g) :=
  ⟨a.1, a.2.1, a.2.2.1, a.2.2.2.1, fun j hj => ⟨by rw [hP1, va_up_ne _ _ (by omega)]; exact (a.2.2.2.2 j hj).1, (a.2.2.2.2 j hj).2⟩⟩
theorem fr_sL {lo hi : Nat} {h h' : pm_H} (a : fr lo hi h h') {k : Nat} {g : Nat → Int64} (h1 : lo ≤ k) (h2 : k < hi) : fr lo hi h (sL h' k g) :=
  ⟨a.1, a.2.1, a.2.2.1, a.2.2.2.1, fun j hj => ⟨(a.2.2.2.2 j hj).1, by rw [hP7, va_up_ne _ _ (by omega)]; exact (a.2.2.2.2 j hj).2⟩⟩
theorem fr_bmp {lo hi : Nat} {h h' : pm_H} (a : fr lo hi h h') : fr lo hi h (bmp h') := ⟨a.1, a.2.1, a.2.2.1, a.2.2.2.1, a.2.2.2.2⟩
theorem bS_fr {lo hi b cap : Nat} {h h' : pm_H} (a : fr lo hi h h') (hs : bS h b cap) : bS h' b cap := by
  unfold bS at *
  rw [a.1, a.2.1, a.2.2.1]
  exact hs
theorem isB_fr {lo hi b cap bits limit : Nat} {A : Qs} {h h' : pm_H} (a : fr lo hi h h') (hd : b + 6 ≤ lo ∨ hi ≤ b) (hs : isB h b cap bits limit A) : isB h' b cap bits limit A := by
  have e : ∀ j, j < 6 → hI h' (b + j) = hI h (b + j) ∧ hL h' (b + j) = hL h (b + j) := fun j hj => a.2.2.2.2 _ (by omega)
  have e0 := e 0 (by omega)
  unfold isB at *
  refine ⟨bS_fr a hs.1, hs.2.1, ?_⟩
  rw [show hI h' b = hI h b from e0.1, show hL h' b = hL h b from e0.2, (e 2 (by omega)).2, (e 3 (by omega)).1, (e 4 (by omega)).1, (e 5 (by omega)).1]
  exact hs.2.2
theorem isF_fr {lo hi b : Nat} {U : Nat → Bool} {h h' : pm_H} (a : fr lo hi h h') (hd : b + 6 ≤ lo ∨ hi ≤ b) (hs : isF h b U) : isF h' b U := by
  unfold isF at *
  rw [(a.2.2.2.2 (b + 1) (by omega)).2]
  exact hs
