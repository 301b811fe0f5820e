/-! ===== CALLS AND TEXTS IN A BODY ===== -/
def pm_end (o : pm_O) : Bool := match o with
  | (.ireturn, _) | (.lreturn, _) | (.areturn, _) | (.return_, _) => true
  | (.new _, _, _, c, _) => decide (c ≠ 0)
  | _ => false
theorem pm_ad_s {b sz : Nat} {aS : Nat → Nat} {o : Nat} (h0 : 0 < o) (h1 : o ≤ 20) : pm_ad b sz aS o = aS o := by
  unfold pm_ad
  rw [if_neg (by omega), if_pos (by omega)]
theorem pm_js_len : pm_js.length = 20 := by decide +kernel
section PSD
variable {p : Program} {l : Launch} {e : Env} {R : Room} {s : State} {m : MethodId} {args : Array Value} {below : List Frame} {meth : Method} {c : Code} {Z : State → Prop}
variable {D : va_G} {cA : Nat → ClassId} {b sz Ls : Nat} {aS : Nat → Nat} {xs : Nat → Int32} {y MC MS d : Nat}
/-- what a thrown exception does here -/
def pm_Ct (p : Program) (l : Launch) (e : Env) (R : Room) (s : State) (m : MethodId) (args : Array Value) (below : List Frame) (meth : Method) (c : Code) (Z : State → Prop) (D : va_G) (cA : Nat → ClassId) (b sz Ls : Nat) (aS : Nat → Nat) (xs : Nat → Int32) (y MC MS : Nat) (hd : Nat → Option (Nat × Nat)) (X : pm_K) (Q : pm_Q) : Prop :=
  ∀ (n pc bc bs : Nat) (ls : pm_L) (h' : pm_H) (H1 : Heap) (locs1 : List Loc) (lr : Array Slot) (cells slots : Nat) (rest : List Value) (q9 : Addr) (ce : Cell), n < 4 → pm_cov y pc = true → (match hd n with
    | some (t, j) => X bc bs t (ls1 ls j none) [] h'
    | none => Q (.inr n) h') → pm_Rel D cA (pm_ad b sz aS) sz Ls xs h' H1 → va_S (fun q => sz ≤ q) s.heap H1 locs1 → lv_has lr (pm_mx y) (las (pm_ad b sz aS) 0 ls) → ls.length = pm_mx y → cells + bc ≤ MC → slots + bs ≤ MS →
    H1[q9]? = some ce → ce.vm = .none → s.vm.findClass (exN n) = some ce.cls → vx_W p l e R s m args below meth c H1 locs1 cells slots Z (F0 m pc lr rest) q9
theorem pm_after {Q : pm_Q} {hd : Nat → Option (Nat × Nat)} {X : pm_K} {k : pm_k} {pc bc bs a : Nat} {ls : pm_L} {H : Heap} {locs : List Loc} {lr : Array Slot} {cells slots : Nat} {st0 r : List Value} {a9 : Array Value}
    (hct : pm_Ct p l e R s m args below meth c Z D cA b sz Ls aS xs y MC MS hd X Q) (hcov : pm_cov y pc = true)
    (hk : ∀ bc bs ls st h, k bc bs ls st h → pm_N p l e R s m args below meth c Z D cA b sz Ls aS xs y MC MS (pc + 3) bc bs ls st h)
    (hS : va_S (fun q => sz ≤ q) s.heap H locs) (hl : lv_has lr (pm_mx y) (las (pm_ad b sz aS) 0 ls)) (hlen : ls.length = pm_mx y) (hcb : cells + bc ≤ MC) (hsb : slots + bs ≤ MS) (h1 : pm_bc a ≤ bc) (h2 : pm_bs a ≤ bs)
    (hr : vx_Run p l e R s m args below meth c H locs cells slots (pm_bc a) (pm_bs a) (F0 m pc lr st0) (r.map (vmv (pm_ad b sz aS))) (pm_Qc D cA b sz Ls aS xs (fun res h' => match res with
      | .inl v => k (bc - pm_bc a) (bs - pm_bs a) ls (v.toList ++ r) h'
      | .inr E => match hd E with
        | some (pc, j) => X (bc - pm_bc a) (bs - pm_bs a) pc (ls1 ls j none) [] h'
        | none => Q (.inr E) h') a9) (pm_XC D cA b sz Ls aS xs (fun res h' => match res with
      | .inl v => k (bc - pm_bc a) (bs - pm_bs a) ls (v.toList ++ r) h'
      | .inr E => match hd E with
        | some (pc, j) => X (bc - pm_bc a) (bs - pm_bs a) pc (ls1 ls j none) [] h'
        | none => Q (.inr E) h')) (fun q => sz ≤ q)) : W p l e R s m args below meth c H locs cells slots Z (F0 m pc lr st0) := by
  refine pm_cont hS hr (fun r' h' H1 locs1 hk1 hr1 hS1 => ?_) (fun n h' H1 locs1 q9 ce hn hk1 hr1 hS1 g1 g2 g3 => ?_)
  · have h9 := hk _ _ _ _ _ hk1 H1 locs1 lr (cells + pm_bc a) (slots + pm_bs a) hr1 hS1 hl hlen (by omega) (by omega)
    have e9 : (r'.map (vmv (pm_ad b sz aS))).toList ++ r.map (vmv (pm_ad b sz aS)) = (r'.toList ++ r).map (vmv (pm_ad b sz aS)) := by cases r' <;> rfl
    rw [e9]
    exact h9
  · exact hct n pc (bc - pm_bc a) (bs - pm_bs a) ls h' H1 locs1 lr _ _ _ q9 ce hn hcov hk1 hr1 hS1 hl hlen (by omega) (by omega) g1 g2 g3
theorem pm_pop0 {n : Nat} {st as r : List Value} {o : Nat} (h : pm_pop (n + 1) st [] = some (.ref o :: as, r)) : st = as.reverse ++ .ref o :: r ∧ as.length = n := by
  obtain ⟨us, h1, h2, h3⟩ := pm_pop_eq _ _ _ _ _ h
  rw [List.append_nil] at h3
  have h4 : us = as.reverse ++ [.ref o] := by rw [← List.reverse_reverse us, ← h3]; simp
  subst h4
  refine ⟨by rw [h2]; simp, ?_⟩
  simp at h1
  exact h1
set_option maxHeartbeats 4000000 in
theorem pm_hard1 {Q : pm_Q} {hd : Nat → Option (Nat × Nat)} {X : pm_K} {o : pm_O} {k : pm_k} {pc bc bs : Nat} {ls : pm_L} {st : pm_S} {h : pm_H} (hC : pm_Cx p R s m meth c D cA b sz Ls aS xs y MC MS (d + 1))
    (IH : ∀ a as h k, pm_mk a = true → pm_M PP d a as h k → pm_Met l D cA b sz Ls aS xs d a as h k) (hct : pm_Ct p l e R s m args below meth c Z D cA b sz Ls aS xs y MC MS hd X Q)
    (hck : pm_ck y pc o = true) (hh : pm_hard o = true) (he : pm_end o = false) (Hop : pm_1 pm_js hd X (pm_M PP d) Q o k bc bs ls st h)
    (hk : ∀ bc bs ls st h, k bc bs ls st h → pm_N p l e R s m args below meth c Z D cA b sz Ls aS xs y MC MS (pc + 3) bc bs ls st h) : pm_N p l e R s m args below meth c Z D cA b sz Ls aS xs y MC MS pc bc bs ls st h := by
  obtain ⟨hx, hb, hml, hown, hTb, hK0, hCs, hsz, hMC, hMS, hRf, hRl, hini⟩ := id hC
  obtain ⟨i, a, b9, c9, d9, e9⟩ := o
  cases i with
  | invokevirtual ix =>
    simp only [pm_ck, Bool.and_eq_true] at hck
    obtain ⟨⟨hdc, hcov⟩, hck⟩ := hck
    simp only [pm_1] at Hop
    by_cases h1 : a = 9001
    · rw [if_pos h1] at hck Hop
      split at Hop
      · rename_i o r
        obtain ⟨k1, k2, k3, Hop⟩ := Hop
        rw [pm_js_len] at k2
        intro H locs lr cells slots hr hS hl hlen hcb hsb
        obtain ⟨av, g1, -⟩ := sv_str hCs k1 k2
        have e0 : pm_ad b sz aS o = aS o := pm_ad_s k1 k2
        show W p l e R s m args below meth c H locs cells slots Z (F0 m pc lr (.ref (pm_ad b sz aS o) :: r.map (vmv (pm_ad b sz aS))))
        rw [e0]
        exact sv_callV (As := []) (y := yJ0_length_8abf5) hx hb hml hown hTb hCs hS (sv_length k1 k2) (by omega) (by omega) (fun a U q => q.v 5 rfl a) (hTb.v 0 rfl _) ⟨by decide, by decide⟩ (show _ = some 0 by decide +kernel) (hTb.it hck args) (hTb.v 3 rfl _) (hTb.v 4 rfl _) g1 hl.1 (by rw [pm_cat_map]; exact k3) (pm_dcE hdc) ⟨by omega, by omega⟩ (hk _ _ _ _ _ Hop H locs lr cells slots hr hS hl hlen hcb hsb)
      · exact Hop.elim
    · rw [if_neg h1] at hck Hop
      by_cases h2 : a = 9002
      · rw [if_pos h2] at hck Hop
        split at Hop
        · rename_i i o r
          obtain ⟨k1, k2, k3, k4, Hop⟩ := Hop
          rw [pm_js_len] at k2
          have hlen9 := sv_len (o - 1)
          obtain ⟨kk, hkk, ei⟩ := vp_in_of k4 (by omega)
          subst ei
          rw [nI_clamp (by omega)] at Hop
          intro H locs lr cells slots hr hS hl hlen hcb hsb
          obtain ⟨av, g1, -⟩ := sv_str hCs k1 k2
          have e0 : pm_ad b sz aS o = aS o := pm_ad_s k1 k2
          show W p l e R s m args below meth c H locs cells slots Z (F0 m pc lr (.int (nI kk) :: .ref (pm_ad b sz aS o) :: r.map (vmv (pm_ad b sz aS))))
          rw [e0]
          exact sv_callV (As := [.int (nI kk)]) (y := yJ0_charAt_5068e) hx hb hml hown hTb hCs hS (sv_charAt k1 k2 hkk) (by omega) (by omega) (fun a U q => q.v 13 rfl a) (hTb.v 0 rfl _) ⟨by decide, by decide⟩ (show _ = some 1 by decide +kernel) (hTb.it hck args) (hTb.v 11 rfl _) (hTb.v 12 rfl _) g1 hl.1 (by rw [pm_cat_map]; exact k3) (pm_dcE hdc) ⟨by omega, by omega⟩ (hk _ _ _ _ _ Hop H locs lr cells slots hr hS hl hlen hcb hsb)
        · exact Hop.elim
      · rw [if_neg h2] at hck Hop
        simp only [Bool.and_eq_true, decide_eq_true_eq] at hck
        obtain ⟨⟨⟨⟨⟨⟨⟨⟨⟨g1, g2⟩, g3⟩, g4⟩, g5⟩, g6⟩, g7⟩, g8⟩, g9⟩, g10⟩ := hck
        subst g6
        subst g7
        split at Hop
        · rename_i o as r hp
          obtain ⟨ho, k1, k2, k3, Hop⟩ := Hop
          obtain ⟨rfl, hal⟩ := pm_pop0 hp
          intro H locs lr cells slots hr hS hl hlen hcb hsb
          exact pm_after hct hcov hk hS hl hlen hcb hsb k1 k2 (pm_runV hC hl.1 hr hS (IH _ _ _ _ g1 Hop) g1 g2 (hal.trans g3) g4 g5 g8 g9 g10 ho k3 (by omega) (by omega) (pm_dcE hdc))
        · exact Hop.elim
  | invokespecial ix =>
    simp only [pm_hard, decide_eq_true_eq] at hh
    simp only [pm_ck, Bool.and_eq_true] at hck
    obtain ⟨⟨hdc, hcov⟩, hck⟩ := hck
    simp only [pm_1] at Hop
    rw [if_neg hh] at hck Hop
    simp only [Bool.and_eq_true, decide_eq_true_eq] at hck
    obtain ⟨⟨⟨⟨⟨⟨⟨⟨g1, g2⟩, g3⟩, g6⟩, g7⟩, g8⟩, g9⟩, g10⟩, g11⟩ := hck
    subst g6
    subst g7
    split at Hop
    · rename_i o as r hp
      obtain ⟨k1, k2, k3, Hop⟩ := Hop
      obtain ⟨rfl, hal⟩ := pm_pop0 hp
      intro H locs lr cells slots hr hS hl hlen hcb hsb
      exact pm_after hct hcov hk hS hl hlen hcb hsb k1 k2 (pm_runI hC hl.1 hr hS (IH _ _ _ _ g1 Hop) g1 g2 (hal.trans g3) g8 g9 g10 g11 k3 (by omega) (by omega) (pm_dcE hdc))
    · exact Hop.elim
  | invokestatic ix =>
    simp only [pm_hard, Bool.not_eq_true', Bool.or_eq_false_iff, decide_eq_false_iff_not] at hh
    obtain ⟨⟨⟨⟨n3, n4⟩, n5⟩, n6⟩, n7⟩ := hh
    simp only [pm_ck, Bool.and_eq_true] at hck
    obtain ⟨⟨hdc, hcov⟩, hck⟩ := hck
    simp only [pm_1] at Hop
    rw [if_neg n3, if_neg n4, if_neg n5, if_neg n6, if_neg n7] at hck Hop
    simp only [Bool.and_eq_true, Bool.or_eq_true, decide_eq_true_eq] at hck
    obtain ⟨⟨⟨⟨⟨⟨g1, g2⟩, g3⟩, g6⟩, g7⟩, g8⟩, g9⟩ := hck
    subst g6
    subst g7
    split at Hop
    · rename_i as r hp
      obtain ⟨k1, k2, k3, Hop⟩ := Hop
      obtain ⟨us, q1, q2, q3⟩ := pm_pop_eq _ _ _ _ _ hp
      rw [List.append_nil] at q3
      have q4 : us = as.reverse := by rw [q3, List.reverse_reverse]
      subst q4
      subst q2
      intro H locs lr cells slots hr hS hl hlen hcb hsb
      exact pm_after hct hcov hk hS hl hlen hcb hsb k1 k2 (pm_runS hC hl.1 hr hS (IH _ _ _ _ g1 Hop) g1 g2 (by rw [← g3, ← q1, List.length_reverse]) g8 g9 k3 (by omega) (by omega) (pm_dcE hdc))
    · exact Hop.elim
  | new ix => simp only [pm_hard] at hh; simp only [pm_end] at he; rw [hh] at he; cases he
  | ireturn => cases he
  | lreturn => cases he
  | areturn => cases he
  | return_ => cases he
  | _ => cases hh
end PSD
