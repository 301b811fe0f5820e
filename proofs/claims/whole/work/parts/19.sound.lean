/-! ===== A BODY, A METHOD ===== -/
theorem pm_gl_eq (g : List (Nat × List pm_O × Nat)) (pc : Nat) : pm_gl g pc = ([(.nop, 0, 0, 0, 0, 0)], 0) ∨ (pc, pm_gl g pc) ∈ g := by
  induction g with
  | nil => exact Or.inl rfl
  | cons x r ih =>
    unfold pm_gl
    by_cases e : pc = x.1
    · rw [if_pos e]
      refine Or.inr (List.mem_cons.mpr (Or.inl ?_))
      rw [e]
    · rw [if_neg e]
      rcases ih with h | h
      · exact Or.inl h
      · exact Or.inr (List.mem_cons_of_mem _ h)
section PSB
variable {p : Program} {l : Launch} {e : Env} {R : Room} {s : State} {m : MethodId} {args : Array Value} {below : List Frame} {meth : Method} {c : Code} {Z : State → Prop}
variable {D : va_G} {cA : Nat → ClassId} {b sz Ls : Nat} {aS : Nat → Nat} {xs : Nat → Int32} {y MC MS d : Nat}
/-- what a method's ends do here -/
def pm_En (p : Program) (l : Launch) (e : Env) (R : Room) (s : State) (m : MethodId) (args : Array Value) (below : List Frame) (meth : Method) (c : Code) (Z : State → Prop) (D : va_G) (cA : Nat → ClassId) (b sz Ls : Nat) (aS : Nat → Nat) (xs : Nat → Int32) (y MC MS d : Nat) (hd : Nat → Option (Nat × Nat)) (X : pm_K) (Q : pm_Q) : Prop :=
  ∀ (o : pm_O) (k : pm_k) (pc bc bs : Nat) (ls : pm_L) (st : pm_S) (h : pm_H), pm_ck y pc o = true → pm_end o = true → pm_1 pm_js hd X (pm_M PP d) Q o k bc bs ls st h → pm_N p l e R s m args below meth c Z D cA b sz Ls aS xs y MC MS pc bc bs ls st h
theorem pm_rows {Q : pm_Q} {hd : Nat → Option (Nat × Nat)} (hC : pm_Cx p R s m meth c D cA b sz Ls aS xs y MC MS (d + 1))
    (IH : ∀ a as h k, pm_mk a = true → pm_M PP d a as h k → pm_Met l D cA b sz Ls aS xs d a as h k)
    (hct : pm_Ct p l e R s m args below meth c Z D cA b sz Ls aS xs y MC MS hd (fun bc bs pc ls st h => pm_N p l e R s m args below meth c Z D cA b sz Ls aS xs y MC MS pc bc bs ls st h) Q)
    (hen : pm_En p l e R s m args below meth c Z D cA b sz Ls aS xs y MC MS d hd (fun bc bs pc ls st h => pm_N p l e R s m args below meth c Z D cA b sz Ls aS xs y MC MS pc bc bs ls st h) Q) (nx : Nat) :
    ∀ (ops : List pm_O) (pc bc bs : Nat) (ls : pm_L) (st : pm_S) (h : pm_H), pm_cb y pc ops nx = true → pm_ops pm_js hd (fun bc bs pc ls st h => pm_N p l e R s m args below meth c Z D cA b sz Ls aS xs y MC MS pc bc bs ls st h) (pm_M PP d) Q nx ops bc bs ls st h →
      pm_N p l e R s m args below meth c Z D cA b sz Ls aS xs y MC MS pc bc bs ls st h := by
  intro ops
  induction ops with
  | nil =>
    intro pc bc bs ls st h hcb H
    have e9 : pc = nx := of_decide_eq_true hcb
    subst e9
    exact H
  | cons o r ih =>
    intro pc bc bs ls st h hcb H
    rw [pm_cb, Bool.and_eq_true, Bool.or_eq_true] at hcb
    have H' : pm_1 pm_js hd (fun bc bs pc ls st h => pm_N p l e R s m args below meth c Z D cA b sz Ls aS xs y MC MS pc bc bs ls st h) (pm_M PP d) Q o (pm_ops pm_js hd (fun bc bs pc ls st h => pm_N p l e R s m args below meth c Z D cA b sz Ls aS xs y MC MS pc bc bs ls st h) (pm_M PP d) Q nx r) bc bs ls st h := H
    refine pm_op hC hcb.1 H' (fun hf bc bs ls st h hk => ?_) (fun bc bs pc ls st h hk => hk) (fun hh => ?_)
    · have h2 := hcb.2.resolve_left (by rw [hf]; exact Bool.false_ne_true)
      exact ih _ bc bs ls st h h2 hk
    · by_cases he : pm_end o = true
      · exact hen o _ pc bc bs ls st h hcb.1 he H'
      · have he' : pm_end o = false := by simpa using he
        have hf : pm_fin o = false := by
          obtain ⟨i, a, b9, c9, d9, e9⟩ := o
          cases i <;> first | rfl | (simp [pm_end] at he'; done) | (simp [pm_hard] at hh; done) | (simp only [pm_end] at he'; simp only [pm_fin]; exact he')
        have hl : pm_ln o.1 = 3 := by
          obtain ⟨i, a, b9, c9, d9, e9⟩ := o
          cases i <;> first | rfl | (simp [pm_end] at he'; done) | (simp [pm_hard] at hh; done)
        refine pm_hard1 hC IH hct hcb.1 hh he' H' (fun bc bs ls st h hk => ?_)
        have h2 := hcb.2.resolve_left (by rw [hf]; exact Bool.false_ne_true)
        rw [hl] at h2
        exact ih _ bc bs ls st h h2 hk
theorem pm_blocks {Q : pm_Q} (hC : pm_Cx p R s m meth c D cA b sz Ls aS xs y MC MS (d + 1)) (hbk : pm_bk y = true)
    (IH : ∀ a as h k, pm_mk a = true → pm_M PP d a as h k → pm_Met l D cA b sz Ls aS xs d a as h k)
    (hct : pm_Ct p l e R s m args below meth c Z D cA b sz Ls aS xs y MC MS (pm_hd y) (fun bc bs pc ls st h => pm_N p l e R s m args below meth c Z D cA b sz Ls aS xs y MC MS pc bc bs ls st h) Q)
    (hen : pm_En p l e R s m args below meth c Z D cA b sz Ls aS xs y MC MS d (pm_hd y) (fun bc bs pc ls st h => pm_N p l e R s m args below meth c Z D cA b sz Ls aS xs y MC MS pc bc bs ls st h) Q)
    (bc bs pc : Nat) (ls : pm_L) (st : pm_S) (h : pm_H) (H : pm_W PP d y Q bc bs pc ls st h) : pm_N p l e R s m args below meth c Z D cA b sz Ls aS xs y MC MS pc bc bs ls st h := by
  rw [pm_W_eq] at H
  refine H (fun bc bs pc ls st h => pm_N p l e R s m args below meth c Z D cA b sz Ls aS xs y MC MS pc bc bs ls st h) ?_
  intro bc bs pc ls st h hq
  unfold pm_bk at hbk
  rw [Bool.and_eq_true] at hbk
  have hq' : pm_ops pm_js (pm_hd y) (fun bc bs pc ls st h => pm_N p l e R s m args below meth c Z D cA b sz Ls aS xs y MC MS pc bc bs ls st h) (pm_M PP d) Q (pm_gl (pm_gt y) pc).2 (pm_gl (pm_gt y) pc).1 bc bs ls st h := hq
  rcases pm_gl_eq (pm_gt y) pc with h0 | h0
  · rw [h0] at hq'
    exact (hq' : False).elim
  · exact pm_rows hC IH hct hen _ _ pc bc bs ls st h (List.all_eq_true.mp hbk.2 _ h0) hq'
/-- a handler takes it -/
theorem pm_catches {Q : pm_Q} {n : Nat} (hC : pm_Cx p R s m meth c D cA b sz Ls aS xs y MC MS (d + 1)) (hn : n < 4) {pc bc bs : Nat} {ls : pm_L} {h' : pm_H} {H1 : Heap} {locs1 : List Loc} {lr : Array Slot} {cells slots : Nat} {rest : List Value} {q9 : Addr} {ce : Cell}
    (hk : match pm_hd y n with
      | some (t, j) => pm_N p l e R s m args below meth c Z D cA b sz Ls aS xs y MC MS t bc bs (ls1 ls j none) [] h'
      | none => Q (.inr n) h')
    (hnone : pm_hd y n = none → (∀ z ∈ c.exceptionTable.toList, covers z pc = false ∨ (z.catchType ≠ 0 ∧ ∃ nm : String, (Cond.classLink (mC y) z.catchType nm).before args s = true ∧ va_Nc (exN n) nm s)) → Q (.inr n) h' → vx_W p l e R s m args below meth c H1 locs1 cells slots Z (F0 m pc lr rest) q9)
    (hr1 : pm_Rel D cA (pm_ad b sz aS) sz Ls xs h' H1) (hS1 : va_S (fun q => sz ≤ q) s.heap H1 locs1) (hl : lv_has lr (pm_mx y) (las (pm_ad b sz aS) 0 ls)) (hlen : ls.length = pm_mx y) (hcb : cells + bc ≤ MC) (hsb : slots + bs ≤ MS)
    (g1 : H1[q9]? = some ce) (g2 : ce.vm = .none) (g3 : s.vm.findClass (exN n) = some ce.cls) :
    ∀ (hh : List (Nat × Nat × Nat × Nat)) (pre : List ExceptionTableEntry), pm_fh y n hh = true → hh.all (fun x => decide (x.1 ≤ pc) && decide (pc < x.2.1)) = true → c.exceptionTable.toList = pre ++ tableOf hh →
      (∀ z ∈ pre, covers z pc = false ∨ (z.catchType ≠ 0 ∧ ∃ nm : String, (Cond.classLink (mC y) z.catchType nm).before args s = true ∧ va_Nc (exN n) nm s)) → vx_W p l e R s m args below meth c H1 locs1 cells slots Z (F0 m pc lr rest) q9 := by
  obtain ⟨hx, hb, hml, hown, hTb, hK0, hCs, hsz, hMC, hMS, hRf, hRl, hini⟩ := id hC
  intro hh
  induction hh with
  | nil =>
    intro pre hf _ ht hp
    have h0 : pm_hd y n = none := of_decide_eq_true hf
    rw [h0] at hk
    exact hnone h0 (by rw [ht]; intro z hz; exact hp z (by simpa [tableOf] using hz)) hk
  | cons x r ih =>
    intro pre hf hc ht hp
    rw [pm_fh, Bool.and_eq_true, Bool.and_eq_true, Bool.and_eq_true] at hf
    simp only [decide_eq_true_eq] at hf
    obtain ⟨⟨⟨f1, f2⟩, f3⟩, f4⟩ := hf
    rw [List.all_cons, Bool.and_eq_true, Bool.and_eq_true] at hc
    simp only [decide_eq_true_eq] at hc
    obtain ⟨⟨c1, c2⟩, c3⟩ := hc
    have ht' : c.exceptionTable.toList = pre ++ (⟨x.1, x.2.1, x.2.2.1, x.2.2.2⟩ : ExceptionTableEntry) :: tableOf r := ht
    by_cases hE : exL x.2.2.2 = n
    · rw [if_pos hE] at f4
      cases h0 : pm_hd y n with
      | none => rw [h0] at f4; cases f4
      | some tj =>
        obtain ⟨t, j⟩ := tj
        rw [h0] at f4 hk
        dsimp only at f4 hk
        rw [Bool.and_eq_true] at f4
        have hj : j < pm_mx y := of_decide_eq_true f4.1
        refine vx_catch (name := exN n) hown pre ⟨x.1, x.2.1, x.2.2.1, x.2.2.2⟩ (tableOf r) ht' hp ?_ f2 (by rw [← hE]; exact hTb.it f3 args) ?_ g1 g2 g3 ?_
        · simp [covers, c1, c2]
        · rcases (show n = 0 ∨ n = 1 ∨ n = 2 ∨ n = 3 by omega) with rfl | rfl | rfl | rfl
          · exact hTb _ (List.mem_of_getElem? (i := 888) (by decide +kernel)) rfl args
          · exact hTb _ (List.mem_of_getElem? (i := 634) (by decide +kernel)) rfl args
          · exact hTb _ (List.mem_of_getElem? (i := 913) (by decide +kernel)) rfl args
          · exact hTb _ (List.mem_of_getElem? (i := 966) (by decide +kernel)) rfl args
        · have key : ∀ lr2 : Array Slot, lv_has lr2 (pm_mx y) ((j, .ref q9) :: (las (pm_ad b sz aS) 0 ls).filter (fun q => !(q.1 == j) && !(q.1 + 1 == j && q.2.category == 2))) → W p l e R s m args below meth c H1 locs1 cells slots Z (F0 m t lr2 []) :=
            fun lr2 hl2 => hk H1 locs1 lr2 cells slots hr1 hS1 (las_st1 (fun v hv => by cases hv) (by omega) hl2) (by rw [ls1_len]; exact hlen) hcb hsb
          rw [Bool.or_eq_true, Bool.and_eq_true, Bool.and_eq_true] at f4
          rcases f4.2 with ⟨q1, q2⟩ | ⟨q1, q2⟩
          · have e2 : t = x.2.2.1 + 1 := of_decide_eq_true q2
            subst e2
            split at q1
            · cases q1
            · exact lv_astore_n (nL := pm_mx y) hx hb (pm_dcE q1) rfl hl hj rfl (fun lr2 hl2 => key lr2 hl2)
            · exact lv_astore_n (nL := pm_mx y) hx hb (pm_dcE q1) rfl hl hj rfl (fun lr2 hl2 => key lr2 hl2)
            · exact lv_astore_n (nL := pm_mx y) hx hb (pm_dcE q1) rfl hl hj rfl (fun lr2 hl2 => key lr2 hl2)
            · cases q1
          · have e2 : t = x.2.2.1 + 2 := of_decide_eq_true q2
            subst e2
            exact lv_astore (nL := pm_mx y) hx hb (pm_dcE q1) hl hj rfl (fun lr2 hl2 => key lr2 hl2)
    · rw [if_neg hE] at f4
      refine ih (pre ++ [⟨x.1, x.2.1, x.2.2.1, x.2.2.2⟩]) f4 c3 (by rw [ht']; simp) (fun z hz => ?_)
      rcases List.mem_append.mp hz with q | q
      · exact hp z q
      · rw [List.mem_singleton.mp q]
        exact Or.inr ⟨f2, exN (exL x.2.2.2), hTb.it f3 args, hCs.2.2.2.2.2.2.2.2.2 n (exL x.2.2.2) hn f1 (fun q => hE q.symm)⟩
theorem pm_hk_at {y n : Nat} (h : pm_hk y = true) (hn : n < 4) : pm_fh y n (mHH y) = true := by
  unfold pm_hk at h
  rw [Bool.and_eq_true, Bool.and_eq_true, Bool.and_eq_true] at h
  rcases (show n = 0 ∨ n = 1 ∨ n = 2 ∨ n = 3 by omega) with rfl | rfl | rfl | rfl
  · exact h.1.1.1
  · exact h.1.1.2
  · exact h.1.2
  · exact h.2
end PSB
