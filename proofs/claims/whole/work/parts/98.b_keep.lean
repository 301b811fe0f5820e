/-! ===== what the one does, the other does not feel ===== -/
section KP
variable {h h' : pm_H} {lo hi : Nat}
theorem isB_X {b cap bits limit : Nat} {A : Qs} (f : frX lo hi h h') (hd : b + 6 ≤ lo ∨ hi ≤ b) (hs : isB h b cap bits limit A) : isB h' b cap bits limit A := by
  have e : ∀ j, j < 6 → hI h' (b + j) = hI h (b + j) ∧ hL h' (b + j) = hL h (b + j) ∧ hR h' (b + j) = hR h (b + j) := fun j hj => f.2.2.2 _ (by omega)
  have e0 := e 0 (by omega)
  unfold isB at *
  refine ⟨bS_eq f.1 f.2.1 e0.2.2 hs.1, hs.2.1, ?_⟩
  rw [show hI h' b = hI h b from e0.1, show hL h' b = hL h b from e0.2.1, (e 2 (by omega)).2.1, (e 3 (by omega)).1, (e 4 (by omega)).1, (e 5 (by omega)).1]
  exact hs.2.2
theorem isH_X {a : Nat} {H : Hs} (f : frX lo hi h h') (hd : a + 13 ≤ lo ∨ hi ≤ a) (hs : isH h a H) : isH h' a H := by
  refine ⟨?_, isB_X f (by omega) hs.2.1, isB_X f (by omega) hs.2.2⟩
  have := hs.1
  unfold hS at *
  rw [f.1, (f.2.2.2 a (by omega)).2.2]; exact this
theorem isC_X {x : Nat} {H : Hs} {P : List Hs} (f : frX lo hi h h') (hd : x + 32 ≤ lo ∨ hi ≤ x) (hc : isC h x (x + 1) (x + 14) H P) : isC h' x (x + 1) (x + 14) H P := by
  obtain ⟨a1, a2, a3, a4, B, L, b1, b2, b3, b4, b5, b6, b7, b8⟩ := hc
  refine ⟨?_, a2, a3, a4, B, L, b1, b2, isH_X f (by omega) b3, b4, b5, ?_, ?_, isH_X f (by omega) b8⟩
  · unfold isX at *; rw [f.1, (f.2.2.2 x (by omega)).2.2]; exact a1
  · unfold aS at *; rw [f.1, f.2.1, (f.2.2.2 (x + 14) (by omega)).2.2]; exact b6
  · unfold aR at *
    rw [(f.2.2.2 (x + 14) (by omega)).1, (f.2.2.2 (x + 14 + 14) (by omega)).1, (f.2.2.2 (x + 14 + 15) (by omega)).1, (f.2.2.2 (x + 14 + 16) (by omega)).1, (f.2.2.2 (x + 14 + 17) (by omega)).2.1]
    exact b7
theorem CI_X {x : Nat} {G : Gs} (f : frX lo hi h h') (hd : x + 82 ≤ lo ∨ hi ≤ x) (hC : CI h x G) : CI h' x G := by
  obtain ⟨a, b, c1, c2, c3, c4⟩ := hC
  have ex := f.2.2.2 x (by omega)
  refine ⟨isC_X f (by omega) a, fun s hs => ?_, xS_eq f.1 f.2.1 (fun j _ => by rw [ex.2.2]) (fun k q1 q2 => (f.2.2.2 k (by omega)).2.2) c1, cTp_eq (f.2.2.2 _ (by omega)).1 (f.2.2.2 _ (by omega)).1 c2, cPl_eq (by rw [ex.2.2]) (by rw [ex.2.2]) (fun k q1 q2 => (f.2.2.2 k (by omega)).1) c3, cCh_eq (by rw [ex.2.2]) (by rw [ex.2.2]) (fun k q1 q2 => (f.2.2.2 k (by omega)).1) c4⟩
  rw [ex.1]; exact b s hs
theorem mTab2_lt : ∀ e, e ∈ mTab2 → e.1 < 823 := by decide
theorem mS_X {m : Nat} (f : frX lo hi h h') (hd : m + 823 ≤ lo ∨ hi ≤ m) (hs : mS h m) : mS h' m := by
  obtain ⟨a, b, c⟩ := hs
  refine ⟨by rw [f.1]; exact a, fun e he => ?_, fun e he i hi => ?_⟩
  · rw [f.1, f.2.1, (f.2.2.2 m (by omega)).2.2]; exact b e he
  · have := mTab2_lt e he
    rw [f.1, f.2.1, (f.2.2.2 (m + e.1) (by omega)).2.2]; exact c e he i hi
theorem MI_X {m : Nat} {G : Gs} (f : frX lo hi h h') (hd : m + 823 ≤ lo ∨ hi ≤ m) (hM : MI h m G) : MI h' m G := by
  obtain ⟨⟨hs, f14, hj, q1, q2, p1, p2, p3, p4⟩, b, c, ok⟩ := hM
  have e := fun k (q : m ≤ k ∧ k < m + 823) => f.2.2.2 k (by omega)
  refine ⟨⟨mS_X f hd hs, ?_, hj, mQ_eq f.1 f.2.1 (e _ (by omega)).2.1 q1, mQ_eq f.1 f.2.1 (e _ (by omega)).2.1 q2, p1, ?_, p3, fun i hi => mRow_eq f.1 f.2.1 (e _ (by omega)).2.1 (e _ (by omega)).2.1 (by rw [(e _ (by omega)).1]) (p4 i hi)⟩, fun s hs => ?_,
    mTs_eq (by rw [(e m (by omega)).1]) (by rw [(e m (by omega)).1]) (by rw [(e m (by omega)).1]) (by rw [(e m (by omega)).1]) (by rw [(e m (by omega)).1]) (by rw [(e m (by omega)).1]) (fun k q => (e k (by omega)).1) ok c, ok⟩
  · rw [(e m (by omega)).1]; exact f14
  · rw [(e m (by omega)).1]; exact p2
  · rw [(e (m + 1) (by omega)).1]; exact b s hs
end KP
