/-! ===== THE START: class and reference as they are made ===== -/
section ZS
variable {L b cap x m : Nat} {xs : Nat → Int32} {h g : pm_H}
theorem bS_z (e : eqz L xs h g) (hb : 0 < b) (s : bS g b cap) : bS h b cap := by
  obtain ⟨a1, a2, a3, _, _, _, a7, _, _⟩ := e
  have eN : ∀ k, 0 < k → hN h k = hN g k := fun k q => (a7 k q).2
  unfold bS at *
  simp (disch := omega) only [a2, a3, eN]
  exact s
theorem aS_z (e : eqz L xs h g) (hb : 0 < b) (s : aS g b) : aS h b := by
  obtain ⟨a1, a2, a3, _, _, _, a7, _, _⟩ := e
  have eN : ∀ k, 0 < k → hN h k = hN g k := fun k q => (a7 k q).2
  unfold aS at *
  simp (disch := omega) only [a2, a3, eN]
  exact s
theorem tpS_z (e : eqz L xs h g) (hb : 0 < b) (s : tpS g b) : tpS h b := by
  obtain ⟨a1, a2, a3, _, _, _, a7, _, _⟩ := e
  have eN : ∀ k, 0 < k → hN h k = hN g k := fun k q => (a7 k q).2
  unfold tpS at *
  simp (disch := omega) only [a2, a3, eN]
  exact s
theorem plS_z (e : eqz L xs h g) (hb : 0 < b) (s : plS g b) : plS h b := by
  obtain ⟨a1, a2, a3, _, _, _, a7, _, _⟩ := e
  have eN : ∀ k, 0 < k → hN h k = hN g k := fun k q => (a7 k q).2
  unfold plS at *
  simp (disch := omega) only [a2, a3, eN]
  exact s
theorem chS_z (e : eqz L xs h g) (hb : 0 < b) (s : chS g b) : chS h b := by
  obtain ⟨a1, a2, a3, _, _, _, a7, _, _⟩ := e
  have eN : ∀ k, 0 < k → hN h k = hN g k := fun k q => (a7 k q).2
  unfold chS at *
  simp (disch := omega) only [a2, a3, eN]
  exact s
theorem xS_z (e : eqz L xs h g) (hb : 0 < x) (s : xS g x) : xS h x := by
  obtain ⟨a1, a2, a3, _, _, _, a7, _, _⟩ := id e
  have eN : ∀ k, 0 < k → hN h k = hN g k := fun k q => (a7 k q).2
  have pz : ∀ j, 0 < x + j := fun j => Nat.add_pos_left hb j
  obtain ⟨c1, c2, c3, c4, c5, c6, c7, c8, c9, d1, d2, d3, d4, d5, d6⟩ := s
  refine ⟨by rw [a3]; exact c1, by rw [a2]; exact c2, by rw [a2]; exact c3, by rw [a2]; exact c4, by rw [a2]; exact c5, by rw [a2]; exact c6, bS_z e (pz _) c7, ?_, ?_, ?_, tpS_z e (pz _) d2, plS_z e (pz _) d3, plS_z e (pz _) d4, chS_z e (pz _) d5, chS_z e (pz _) d6⟩
  · rw [a2, a3, eN _ (pz _)]
    exact c8
  · rw [a2, a3, eN (x + 73) (pz _), eN (x + 74) (pz _), eN (x + 75) (pz _), eN (x + 76) (pz _), eN (x + 77) (pz _)]
    exact c9
  · rw [a2, a3, eN (x + 79) (pz _), eN (x + 80) (pz _), eN (x + 81) (pz _)]
    exact d1
theorem mS_z (e : eqz L xs h g) (hb : 0 < m) (s : mS g m) : mS h m := by
  obtain ⟨a1, a2, a3, _, _, _, a7, _, _⟩ := e
  obtain ⟨s1, s2, s3⟩ := s
  refine ⟨by rw [a3]; exact s1, fun e q => ?_, fun e q i qi => ?_⟩
  · rw [a2, a3, (a7 _ (by omega)).2]
    exact s2 e q
  · rw [a2, a3, (a7 _ (by omega)).2]
    exact s3 e q i qi
/-- an empty queue of the class -/
theorem isB_0 (s : bS h b 200) (a : hI h b 5 = nI 200 ∧ hI h b 6 = nI 1 ∧ hL h b 7 = lN 0 ∧ hI h b 8 = nI 0 ∧ hI h b 9 = nI 0) : isB h b 200 1 200 q0 :=
  ⟨s, Nat.le_refl _, a.1, a.2.1, a.2.2.1, a.2.2.2.1, a.2.2.2.2, fun _ q => absurd q (Nat.not_lt_zero _), fun _ q => absurd q (Nat.not_lt_zero _), fun _ q => absurd q (Nat.not_lt_zero _), fun _ q => absurd q (Nat.not_lt_zero _)⟩
theorem isB_z (e : eqz L xs h g) (hb : 0 < b) (s : bS g b 200) (a : hI g b 5 = nI 200 ∧ hI g b 6 = nI 1 ∧ hL g b 7 = lN 0 ∧ hI g b 8 = nI 0 ∧ hI g b 9 = nI 0) : isB h b 200 1 200 q0 := by
  refine isB_0 (bS_z e hb s) ?_
  rw [(e.2.2.2.2.2.2.1 b hb).1, e.1]
  exact a
/-- an empty queue of the reference -/
theorem mQ_z (e : eqz L xs h g) (hb : 0 < b) (s : mS h m) (ht : hT h b = 101) (hl : hN h b = 1503) (a : hL g b 0 = lN 0 ∧ hL g b 1 = lN 0 ∧ hL g b 2 = lN 0) : mQ h b q0 0 := by
  refine ⟨fun _ => 0, 0, ⟨ht, hl, ?_, ?_, ?_, fun _ q => absurd q (Nat.not_lt_zero _), fun _ q => absurd q (Nat.not_lt_zero _), fun _ q => absurd q (Nat.not_lt_zero _), fun _ q => absurd q (Nat.not_lt_zero _), fun _ q => absurd q (Nat.not_lt_zero _)⟩, ⟨fun x q => ?_, List.Pairwise.nil, by decide⟩, Nat.le_refl _, fun _ q => absurd q (Nat.not_lt_zero _)⟩
  · rw [e.1]; exact a.1
  · rw [e.1]; exact a.2.1
  · rw [e.1]; exact a.2.2
  · have q : x ∈ ([] : List Nat) := q
    cases q
end ZS
theorem qI_0 : qI 1 200 q0 := by
  refine ⟨by decide, by decide, by decide, by decide, by decide, fun _ q => absurd q (Nat.not_lt_zero _), List.Pairwise.nil, fun i => ⟨fun q => ?_, fun q => absurd q.1 (Nat.not_lt_zero _)⟩, List.Pairwise.nil, fun i q => ?_, by decide, fun _ q => absurd q (Nat.not_lt_zero _)⟩
  · have q : i ∈ ([] : List Nat) := q
    cases q
  · have q : i ∈ ([] : List Nat) := q
    cases q
/-! what stands there, read off -/
theorem hc_x : hT hc_A 32 = 9 ∧ hR hc_A 32 0 = 33 ∧ hR hc_A 32 1 = 46 := by decide +kernel
theorem hc_h : hT hc_A 33 = 3 ∧ hR hc_A 33 0 = 34 ∧ hR hc_A 33 1 = 40 ∧ hT hc_A 47 = 3 ∧ hR hc_A 47 0 = 48 ∧ hR hc_A 47 1 = 54 := by decide +kernel
theorem hc_b1 : bS hc_A 34 200 := by unfold bS; decide +kernel
theorem hc_b2 : bS hc_A 40 200 := by unfold bS; decide +kernel
theorem hc_b3 : bS hc_A 48 200 := by unfold bS; decide +kernel
theorem hc_b4 : bS hc_A 54 200 := by unfold bS; decide +kernel
theorem hc_v1 : hI hc_A 34 5 = nI 200 ∧ hI hc_A 34 6 = nI 1 ∧ hL hc_A 34 7 = lN 0 ∧ hI hc_A 34 8 = nI 0 ∧ hI hc_A 34 9 = nI 0 := by decide +kernel
theorem hc_v2 : hI hc_A 40 5 = nI 200 ∧ hI hc_A 40 6 = nI 1 ∧ hL hc_A 40 7 = lN 0 ∧ hI hc_A 40 8 = nI 0 ∧ hI hc_A 40 9 = nI 0 := by decide +kernel
theorem hc_v3 : hI hc_A 48 5 = nI 200 ∧ hI hc_A 48 6 = nI 1 ∧ hL hc_A 48 7 = lN 0 ∧ hI hc_A 48 8 = nI 0 ∧ hI hc_A 48 9 = nI 0 := by decide +kernel
theorem hc_v4 : hI hc_A 54 5 = nI 200 ∧ hI hc_A 54 6 = nI 1 ∧ hL hc_A 54 7 = lN 0 ∧ hI hc_A 54 8 = nI 0 ∧ hI hc_A 54 9 = nI 0 := by decide +kernel
theorem hc_a : aS hc_A 46 := by unfold aS; decide +kernel
theorem hc_k : hI hc_A 46 5 = nI 0 := by decide +kernel
theorem hc_r : ∀ r, r < 4 → hI hc_A 32 (11 + r) = 0 := by decide +kernel
theorem hc_S : xS hc_A 32 := by
  refine ⟨by decide +kernel, by decide +kernel, by decide +kernel, by decide +kernel, by decide +kernel, by decide +kernel, ?_, by decide +kernel, by decide +kernel, by decide +kernel, ?_, ?_, ?_, ?_, ?_⟩
  · unfold bS; decide +kernel
  · unfold tpS; decide +kernel
  · unfold plS; decide +kernel
  · unfold plS; decide +kernel
  · unfold chS; decide +kernel
  · unfold chS; decide +kernel
theorem hc_t : hI hc_A 64 1 = nI 0 ∧ hI hc_A 64 5 = -nI 1 := by decide +kernel
theorem hc_p : hR hc_A 32 3 = 66 ∧ hR hc_A 32 4 = 72 ∧ hI hc_A 66 6 = nI 0 ∧ hI hc_A 66 5 = nI 0 := by decide +kernel
theorem hc_c : hR hc_A 32 5 = 78 ∧ hR hc_A 32 6 = 87 ∧ hI hc_A 78 8 = nI 0 ∧ hI hc_A 78 9 = nI 0 ∧ hI hc_A 78 10 = nI 0 := by decide +kernel
theorem hc_mS : mS hc_A 114 := by unfold mS; decide +kernel
theorem hc_m : hI hc_A 114 14 = nI 1 ∧ hI hc_A 114 15 = nI 0 ∧ hI hc_A 114 2 = nI 0 ∧ hI hc_A 114 5 = -nI 1 ∧ hI hc_A 114 25 = nI 0 ∧ hI hc_A 114 26 = nI 0 ∧ hI hc_A 114 27 = nI 0 ∧ hI hc_A 114 28 = nI 0 := by decide +kernel
theorem hc_q : hL hc_A 118 0 = lN 0 ∧ hL hc_A 118 1 = lN 0 ∧ hL hc_A 118 2 = lN 0 ∧ hL hc_A 119 0 = lN 0 ∧ hL hc_A 119 1 = lN 0 ∧ hL hc_A 119 2 = lN 0 := by decide +kernel
theorem hc_f : ∀ r, r < 4 → hI hc_A 115 r = 0 := by decide +kernel
theorem hc_o : hT hc_A 937 = 101 ∧ hN hc_A 937 = 1 ∧ hT hc_A 0 = 110 := by decide +kernel
/-- the state at the start -/
def gs_0 : Gs := (hs0, [], 0, fun _ => 0, ([], none, ([], 0), ([], [], [])))
theorem LI_0 (L : Nat) (xs : Nat → Int32) : LI (kn_all (hz0 L xs)) 32 L xs gs_0 := by
  have E : eqz L xs (kn_all (hz0 L xs)) hc_A := ez_all (ez_z L xs)
  generalize kn_all (hz0 L xs) = h at E ⊢
  obtain ⟨a1, a2, a3, a4, a5, a6, a7, a8, a9⟩ := id E
  have eI : ∀ k, 0 < k → hI h k = hI hc_A k := fun k q => (a7 k q).1
  have eN : ∀ k, 0 < k → hN h k = hN hc_A k := fun k q => (a7 k q).2
  have hj : hJ hs0 := ⟨qI_0, qI_0⟩
  have H1 : isH h 33 hs0 := ⟨⟨by rw [a3]; exact hc_h.1, by rw [a2]; exact hc_h.2.1, by rw [a2]; exact hc_h.2.2.1⟩, isB_z E (by decide) hc_b1 hc_v1, isB_z E (by decide) hc_b2 hc_v2⟩
  have H2 : isH h 47 hs0 := ⟨⟨by rw [a3]; exact hc_h.2.2.2.1, by rw [a2]; exact hc_h.2.2.2.2.1, by rw [a2]; exact hc_h.2.2.2.2.2⟩, isB_z E (by decide) hc_b3 hc_v3, isB_z E (by decide) hc_b4 hc_v4⟩
  have X : isX h 32 33 46 := ⟨by rw [a3]; exact hc_x.1, by rw [a2]; exact hc_x.2.1, by rw [a2]; exact hc_x.2.2, by decide, by decide⟩
  have AR : aR h 46 [] := ⟨by decide, by rw [eI _ (by decide)]; exact hc_k, fun _ q => absurd q (Nat.not_lt_zero _), fun _ q => absurd q (Nat.not_lt_zero _), fun _ q => absurd q (Nat.not_lt_zero _), fun _ q => absurd q (Nat.not_lt_zero _)⟩
  have C1 : isC h 32 33 46 hs0 [] := ⟨X, by decide, by decide, by decide, hs0, [], rfl, rfl, H1, hj, trivial, aS_z E (by decide) hc_a, AR, H2⟩
  have C2 : cRf h 32 (fun _ => 0) := fun r q => by rw [eI _ (by decide)]; exact hc_r r q
  have C3 : cTp h 64 [] none := ⟨by rw [eI _ (by decide)]; exact hc_t.1, by rw [eI _ (by decide)]; exact hc_t.2, fun _ q => absurd q (Nat.not_lt_zero _)⟩
  have C4 : cPl h 32 ([], 0) := ⟨66, 72, by decide, by rw [a2]; exact hc_p.1, by rw [a2]; exact hc_p.2.1, by rw [eI _ (by decide)]; exact hc_p.2.2.1, by decide, by rw [eI _ (by decide)]; exact hc_p.2.2.2, fun _ q => absurd q (Nat.not_lt_zero _)⟩
  have C5 : cCh h 32 ([], [], []) := ⟨78, 87, by decide, by rw [a2]; exact hc_c.1, by rw [a2]; exact hc_c.2.1, by rw [eI _ (by decide)]; exact hc_c.2.2.1, by rw [eI _ (by decide)]; exact hc_c.2.2.2.1, by rw [eI _ (by decide)]; exact hc_c.2.2.2.2, fun _ q => absurd q (Nat.not_lt_zero _), fun _ q => absurd q (Nat.not_lt_zero _), fun _ q => absurd q (Nat.not_lt_zero _)⟩
  have CC : CI h 32 gs_0 := ⟨C1, C2, xS_z E (by decide) hc_S, C3, C4, C5⟩
  have MS : mS h 114 := mS_z E (by decide) hc_mS
  have M1 : mQ h 118 q0 0 := mQ_z E (by decide) MS (m_q0t MS) (m_q0n MS) ⟨hc_q.1, hc_q.2.1, hc_q.2.2.1⟩
  have M2 : mQ h 119 q0 0 := mQ_z E (by decide) MS (m_q1t MS) (m_q1n MS) ⟨hc_q.2.2.2.1, hc_q.2.2.2.2.1, hc_q.2.2.2.2.2⟩
  have em : hI h 114 = hI hc_A 114 := eI _ (by decide)
  have M3 : mP h 114 [] 0 := ⟨by decide, by rw [em]; exact hc_m.2.1, fun S q => (by cases q), fun _ q => absurd q (Nat.not_lt_zero _)⟩
  have M4 : isM h 114 hs0 [] 0 := ⟨MS, by rw [em]; exact hc_m.1, hj, M1, M2, M3⟩
  have M5 : mRf h 114 (fun _ => 0) := fun r q => by rw [eI _ (by decide)]; exact hc_f r q
  have M6 : mTp h 114 [] none := ⟨by rw [em]; exact hc_m.2.2.1, by rw [em]; exact hc_m.2.2.2.1, fun _ q => absurd q (Nat.not_lt_zero _)⟩
  have M7 : mPl h 114 ([], 0) := ⟨by rw [em]; exact hc_m.2.2.2.2.1, fun _ => p0, fun _ z _ _ => z 0, fun _ q => absurd q (Nat.not_lt_zero _)⟩
  have M8 : mCh h 114 ([], [], []) := ⟨by rw [em]; exact hc_m.2.2.2.2.2.1, by rw [em]; exact hc_m.2.2.2.2.2.2.1, by rw [em]; exact hc_m.2.2.2.2.2.2.2, fun _ q => absurd q (Nat.not_lt_zero _), fun _ q => absurd q (Nat.not_lt_zero _), fun _ q => absurd q (Nat.not_lt_zero _)⟩
  have M9 : tsOK ([], none, ([], 0), ([], [], [])) := ⟨by decide, fun _ q => (by cases q), fun _ q => (by cases q), by decide, fun _ q => (by cases q), by decide, by decide, by decide, fun _ q => (by cases q), fun _ q => (by cases q), fun _ q => (by cases q)⟩
  have MM : MI h 114 gs_0 := ⟨M4, M5, ⟨M6, M7, M8⟩, M9⟩
  exact ⟨CC, MM, by rw [a3]; exact hc_o.1, by rw [eN _ (by decide)]; exact hc_o.2.1, by rw [a3]; exact hc_o.2.2, a9, a8⟩
