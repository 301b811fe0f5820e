/-- what pm_op leaves to others: calls, ends, throws -/
def pm_hard (o : pm_O) : Bool := match o with
  | (.invokevirtual _, _) => true
  | (.invokespecial _, a, _) => decide (a ≠ 9008)
  | (.invokestatic _, a, _) => !(decide (a = 9003) || decide (a = 9004) || decide (a = 9005) || decide (a = 9006) || decide (a = 9007))
  | (.ireturn, _) | (.lreturn, _) | (.areturn, _) | (.return_, _) => true
  | (.new _, _, _, c, _) => decide (c ≠ 0)
  | _ => false
/-- the words of the library's own methods, by their places -/
def pm_xw : List Cond := [.static Lib.Math.min.name, .static Lib.Math.max.name, .static Lib.MathLoose.min_long.x, .initialized "java/lang/Math", .code Lib.Math.min.name Lib.Math.min.code 2 (some .int), .code Lib.Math.max.name Lib.Math.max.code 2 (some .int), .code Lib.MathLoose.min_long.x Lib.MathLoose.min_long.code 4 (some .long), .native arraycopyName, .static arraycopyName, .initialized "java/lang/System", .instanceMethod objectInit, .code objectInit ⟨#[0xb1]⟩ 1 none, .arrayClass .int, .arrayClass .long, .arrayClass .byte, .arrayClass .boolean]
theorem pm_xw_ok : pm_xw.all (fun w => decide (w ∈ lw_tbl) && pm_pw w) = true := by decide +kernel
theorem pm_Tb.x {U : State} (h : pm_Tb U) (i : Nat) {w : Cond} (hi : pm_xw[i]? = some w) (a : Array Value) : w.before a U = true := by
  have h1 := List.all_eq_true.mp pm_xw_ok w (List.mem_of_getElem? hi)
  simp only [Bool.and_eq_true, decide_eq_true_eq] at h1
  exact h w h1.1 h1.2 a
theorem pm_nfw : nativeFrameWords "java/lang/System" "arraycopy" 5 + 11 ≤ 150 := by decide +kernel
theorem sI_at (h : pm_H) (o : Nat) (g : Nat → Int32) : hI (sI h o g) o = g := va_up_self _ _ _
theorem sL_at (h : pm_H) (o : Nat) (g : Nat → Int64) : hL (sL h o g) o = g := va_up_self _ _ _
theorem sR_at (h : pm_H) (o : Nat) (g : Nat → Nat) : hR (sR h o g) o = g := va_up_self _ _ _
section POM
variable {p : Program} {l : Launch} {e : Env} {R : Room} {s : State} {m : MethodId} {args : Array Value} {below : List Frame} {meth : Method} {c : Code} {Z : State → Prop}
variable {D : va_G} {cA : Nat → ClassId} {b sz Ls : Nat} {aS : Nat → Nat} {xs : Nat → Int32} {y MC MS d : Nat}
theorem pm_cat_map (ad : Nat → Nat) (r : pm_S) : ((r.map (vmv ad)).map fun v => v.category).sum = pm_cat r := by
  unfold pm_cat
  rw [List.map_map]
  congr 1
  apply List.map_congr_left
  intro v _
  exact vmv_cat ad v
theorem pm_low {D : va_G} {cA : Nat → ClassId} {b sz : Nat} {aS : Nat → Nat} {h : pm_H} {H : Heap} (h1 : 32 ≤ hn h) (hP : va_P D cls_ (pm_ws cA (pm_ad b sz aS) h) H) (hz : sz ≤ H.size) : sz + (hn h - 32) ≤ H.size := by
  by_cases e : hn h = 32
  · rw [e]; exact hz
  · have h2 : (pm_ad b sz aS (hn h - 33 + 32)) < H.size := (hP (hn h - 33) _ (pm_ws_at (by omega))).lt
    rw [pm_ad_hi (by omega)] at h2
    omega
set_option maxHeartbeats 8000000 in
theorem pm_op {K : pm_K} {C : pm_C} {Q : pm_Q} {hd : Nat → Option (Nat × Nat)} {o : pm_O} {k : pm_k} {pc bc bs : Nat} {ls : pm_L} {st : pm_S} {h : pm_H}
    (hC : pm_Cx p R s m meth c D cA b sz Ls aS xs y MC MS d) (hck : pm_ck y pc o = true) (Hop : pm_1 pm_js hd K C Q o k bc bs ls st h)
    (hk : pm_fin o = false → ∀ bc bs ls st h, k bc bs ls st h → pm_N p l e R s m args below meth c Z D cA b sz Ls aS xs y MC MS (pc + pm_ln o.1) bc bs ls st h)
    (hK : ∀ bc bs pc ls st h, K bc bs pc ls st h → pm_N p l e R s m args below meth c Z D cA b sz Ls aS xs y MC MS pc bc bs ls st h)
    (hhard : pm_hard o = true → pm_N p l e R s m args below meth c Z D cA b sz Ls aS xs y MC MS pc bc bs ls st h) : pm_N p l e R s m args below meth c Z D cA b sz Ls aS xs y MC MS pc bc bs ls st h := by
  obtain ⟨hx, hb, hml, hown, hTb, hK0, hCs, hsz, hMC, hMS, hRf, hRl, hini⟩ := hC
  obtain ⟨i, a, b9, c9, d9, e9⟩ := o
  cases i with
  | aload_n q =>
    simp only [pm_ck, Bool.and_eq_true, decide_eq_true_eq] at hck
    simp only [pm_1] at Hop
    split at Hop
    · rename_i x hg
      intro H locs lr cells slots hr hS hl hlen hcb hsb
      exact lv_aload_n hx hb (pm_dcE hck.2) hck.1 (las_at hl hg) (hk rfl _ _ _ _ _ Hop H locs lr cells slots hr hS hl hlen hcb hsb)
    · exact Hop.elim
  | aload q =>
    simp only [pm_ck, Bool.and_eq_true, decide_eq_true_eq] at hck
    simp only [pm_1] at Hop
    split at Hop
    · rename_i x hg
      intro H locs lr cells slots hr hS hl hlen hcb hsb
      exact lv_aload hx hb (pm_dcE hck.2) (by rw [hck.1]; exact las_at hl hg) (hk rfl _ _ _ _ _ Hop H locs lr cells slots hr hS hl hlen hcb hsb)
    · exact Hop.elim
  | iload_n q =>
    simp only [pm_ck, Bool.and_eq_true, decide_eq_true_eq] at hck
    simp only [pm_1] at Hop
    split at Hop
    · rename_i x hg
      intro H locs lr cells slots hr hS hl hlen hcb hsb
      exact lv_iload_n hx hb (pm_dcE hck.2) hck.1 (las_at hl hg) (hk rfl _ _ _ _ _ Hop H locs lr cells slots hr hS hl hlen hcb hsb)
    · exact Hop.elim
  | iload q =>
    simp only [pm_ck, Bool.and_eq_true, decide_eq_true_eq] at hck
    simp only [pm_1] at Hop
    split at Hop
    · rename_i x hg
      intro H locs lr cells slots hr hS hl hlen hcb hsb
      exact lv_iload hx hb (pm_dcE hck.2) (by rw [hck.1]; exact las_at hl hg) (hk rfl _ _ _ _ _ Hop H locs lr cells slots hr hS hl hlen hcb hsb)
    · exact Hop.elim
  | lload_n q =>
    simp only [pm_ck, Bool.and_eq_true, decide_eq_true_eq] at hck
    simp only [pm_1] at Hop
    split at Hop
    · rename_i x hg
      intro H locs lr cells slots hr hS hl hlen hcb hsb
      exact lv_lload_n hx hb (pm_dcE hck.2) hck.1 (las_at hl hg) (hk rfl _ _ _ _ _ Hop H locs lr cells slots hr hS hl hlen hcb hsb)
    · exact Hop.elim
  | lload q =>
    simp only [pm_ck, Bool.and_eq_true, decide_eq_true_eq] at hck
    simp only [pm_1] at Hop
    split at Hop
    · rename_i x hg
      intro H locs lr cells slots hr hS hl hlen hcb hsb
      exact lv_lload hx hb (pm_dcE hck.2) (by rw [hck.1]; exact las_at hl hg) (hk rfl _ _ _ _ _ Hop H locs lr cells slots hr hS hl hlen hcb hsb)
    · exact Hop.elim
  | istore_n q =>
    simp only [pm_ck, Bool.and_eq_true, decide_eq_true_eq] at hck
    simp only [pm_1] at Hop
    split at Hop
    · obtain ⟨ha, Hop⟩ := Hop
      intro H locs lr cells slots hr hS hl hlen hcb hsb
      refine lv_istore_n (nL := pm_mx y) hx hb (pm_dcE hck.2) hck.1 hl (by omega) rfl (fun lr2 hl2 => ?_)
      exact hk rfl _ _ _ _ _ Hop H locs lr2 cells slots hr hS (las_st1 (fun v hv => by cases hv; rfl) ha hl2) (by rw [ls1_len]; exact hlen) hcb hsb
    · exact Hop.elim
  | istore q =>
    simp only [pm_ck, Bool.and_eq_true, decide_eq_true_eq] at hck
    simp only [pm_1] at Hop
    split at Hop
    · obtain ⟨ha, Hop⟩ := Hop
      intro H locs lr cells slots hr hS hl hlen hcb hsb
      refine lv_istore (nL := pm_mx y) hx hb (pm_dcE hck.2) hl (by rw [hck.1]; omega) rfl (fun lr2 hl2 => ?_)
      exact hk rfl _ _ _ _ _ Hop H locs lr2 cells slots hr hS (las_st1 (fun v hv => by cases hv; rfl) ha (by rw [hck.1] at hl2; exact hl2)) (by rw [ls1_len]; exact hlen) hcb hsb
    · exact Hop.elim
  | astore_n q =>
    simp only [pm_ck, Bool.and_eq_true, decide_eq_true_eq] at hck
    simp only [pm_1] at Hop
    split at Hop
    · obtain ⟨ha, Hop⟩ := Hop
      intro H locs lr cells slots hr hS hl hlen hcb hsb
      refine lv_astore_n (nL := pm_mx y) hx hb (pm_dcE hck.2) hck.1 hl (by omega) rfl (fun lr2 hl2 => ?_)
      exact hk rfl _ _ _ _ _ Hop H locs lr2 cells slots hr hS (las_st1 (fun v hv => by cases hv; rfl) ha hl2) (by rw [ls1_len]; exact hlen) hcb hsb
    · exact Hop.elim
  | astore q =>
    simp only [pm_ck, Bool.and_eq_true, decide_eq_true_eq] at hck
    simp only [pm_1] at Hop
    split at Hop
    · obtain ⟨ha, Hop⟩ := Hop
      intro H locs lr cells slots hr hS hl hlen hcb hsb
      refine lv_astore (nL := pm_mx y) hx hb (pm_dcE hck.2) hl (by rw [hck.1]; omega) rfl (fun lr2 hl2 => ?_)
      exact hk rfl _ _ _ _ _ Hop H locs lr2 cells slots hr hS (las_st1 (fun v hv => by cases hv; rfl) ha (by rw [hck.1] at hl2; exact hl2)) (by rw [ls1_len]; exact hlen) hcb hsb
    · exact Hop.elim
  | lstore_n q =>
    simp only [pm_ck, Bool.and_eq_true, decide_eq_true_eq] at hck
    simp only [pm_1] at Hop
    split at Hop
    · obtain ⟨ha, Hop⟩ := Hop
      intro H locs lr cells slots hr hS hl hlen hcb hsb
      refine lv_lstore_n (nL := pm_mx y) hx hb (pm_dcE hck.2) hck.1 hl (by omega) rfl (fun lr2 hl2 => ?_)
      exact hk rfl _ _ _ _ _ Hop H locs lr2 cells slots hr hS (las_st2 (w := .long _) ha hl2) (by rw [ls2_len]; exact hlen) hcb hsb
    · exact Hop.elim
  | lstore q =>
    simp only [pm_ck, Bool.and_eq_true, decide_eq_true_eq] at hck
    simp only [pm_1] at Hop
    split at Hop
    · obtain ⟨ha, Hop⟩ := Hop
      intro H locs lr cells slots hr hS hl hlen hcb hsb
      refine lv_lstore (nL := pm_mx y) hx hb (pm_dcE hck.2) hl (by rw [hck.1]; omega) rfl (fun lr2 hl2 => ?_)
      exact hk rfl _ _ _ _ _ Hop H locs lr2 cells slots hr hS (las_st2 (w := .long _) ha (by rw [hck.1] at hl2; exact hl2)) (by rw [ls2_len]; exact hlen) hcb hsb
    · exact Hop.elim
  | iinc q n =>
    simp only [pm_ck, Bool.and_eq_true, decide_eq_true_eq] at hck
    simp only [pm_1] at Hop
    split at Hop
    · rename_i x hg
      obtain ⟨ha, Hop⟩ := Hop
      intro H locs lr cells slots hr hS hl hlen hcb hsb
      obtain ⟨kk, hkk⟩ := List.mem_iff_getElem?.mp ((las_mem (ad := pm_ad b sz aS) ls 0 (a, .int x)).mpr ⟨.int x, Nat.zero_le _, hg, rfl⟩)
      have hq := hck.1.1
      subst hq
      refine lv_iinc (nL := pm_mx y) (k := kk) (v := x + cN b9 c9) hx hb (pm_dcE hck.2) hl hkk (by rw [hck.1.2]) (by omega) rfl (fun lr2 hl2 => ?_)
      exact hk rfl _ _ _ _ _ Hop H locs lr2 cells slots hr hS (las_st1 (fun v hv => by cases hv; rfl) ha hl2) (by rw [ls1_len]; exact hlen) hcb hsb
    · exact Hop.elim
  | iconst q =>
    simp only [pm_ck, Bool.and_eq_true, decide_eq_true_eq] at hck
    simp only [pm_1] at Hop
    intro H locs lr cells slots hr hS hl hlen hcb hsb
    exact lv_iconst hx hb (pm_dcE hck.2) hck.1 (hk rfl _ _ _ _ _ Hop H locs lr cells slots hr hS hl hlen hcb hsb)
  | bipush q =>
    simp only [pm_ck, Bool.and_eq_true, decide_eq_true_eq] at hck
    simp only [pm_1] at Hop
    intro H locs lr cells slots hr hS hl hlen hcb hsb
    exact lv_bipush hx hb (pm_dcE hck.2) hck.1 (hk rfl _ _ _ _ _ Hop H locs lr cells slots hr hS hl hlen hcb hsb)
  | sipush q =>
    simp only [pm_ck, Bool.and_eq_true, decide_eq_true_eq] at hck
    simp only [pm_1] at Hop
    intro H locs lr cells slots hr hS hl hlen hcb hsb
    exact lv_sipush hx hb (pm_dcE hck.2) hck.1 (hk rfl _ _ _ _ _ Hop H locs lr cells slots hr hS hl hlen hcb hsb)
  | lconst q =>
    simp only [pm_ck, Bool.and_eq_true, decide_eq_true_eq] at hck
    simp only [pm_1] at Hop
    intro H locs lr cells slots hr hS hl hlen hcb hsb
    exact lv_lconst hx hb (pm_dcE hck.2) hck.1 (hk rfl _ _ _ _ _ Hop H locs lr cells slots hr hS hl hlen hcb hsb)
  | ldc ix =>
    simp only [pm_ck] at hck
    simp only [pm_1] at Hop
    rw [Bool.and_eq_true] at hck
    by_cases h0 : b9 = 0
    · rw [if_pos h0] at hck Hop
      intro H locs lr cells slots hr hS hl hlen hcb hsb
      exact lv_ldc hx hb hown (hTb.it hck.1 args) (pm_dcE hck.2) (hk rfl _ _ _ _ _ Hop H locs lr cells slots hr hS hl hlen hcb hsb)
    · rw [if_neg h0] at hck Hop
      simp only [Bool.and_eq_true, decide_eq_true_eq] at hck
      obtain ⟨⟨⟨⟨g1, g2⟩, g3⟩, g4⟩, g5⟩ := hck
      intro H locs lr cells slots hr hS hl hlen hcb hsb
      obtain ⟨av, hR9, -⟩ := hCs.1 a g1 g2
      rw [g3, g4] at hR9
      have hgo := hk rfl _ _ _ _ _ Hop H locs lr cells slots hr hS hl hlen hcb hsb
      have e9 : vmv (pm_ad b sz aS) (.ref a) = .ref (aS a) := by show Value.ref (pm_ad b sz aS a) = _; unfold pm_ad; rw [if_neg (by omega), if_pos (by omega)]
      rw [List.map_cons, e9] at hgo
      exact va_ldcS hx hb hown hR9 (pm_dcE g5) hgo
  | ldc_w ix =>
    simp only [pm_ck] at hck
    simp only [pm_1] at Hop
    rw [Bool.and_eq_true] at hck
    by_cases h0 : b9 = 0
    · rw [if_pos h0] at hck Hop
      intro H locs lr cells slots hr hS hl hlen hcb hsb
      exact lv_ldcw hx hb hown (hTb.it hck.1 args) (pm_dcE hck.2) (hk rfl _ _ _ _ _ Hop H locs lr cells slots hr hS hl hlen hcb hsb)
    · rw [if_neg h0] at hck Hop
      simp only [Bool.and_eq_true, decide_eq_true_eq] at hck
      obtain ⟨⟨⟨⟨g1, g2⟩, g3⟩, g4⟩, g5⟩ := hck
      intro H locs lr cells slots hr hS hl hlen hcb hsb
      obtain ⟨av, hR9, -⟩ := hCs.1 a g1 g2
      rw [g3, g4] at hR9
      have hgo := hk rfl _ _ _ _ _ Hop H locs lr cells slots hr hS hl hlen hcb hsb
      have e9 : vmv (pm_ad b sz aS) (.ref a) = .ref (aS a) := by show Value.ref (pm_ad b sz aS a) = _; unfold pm_ad; rw [if_neg (by omega), if_pos (by omega)]
      rw [List.map_cons, e9] at hgo
      exact pm_ldcSW hx hb hown hR9 (pm_dcE g5) hgo
  | ldc2_w ix =>
    simp only [pm_ck] at hck
    simp only [pm_1] at Hop
    rw [Bool.and_eq_true] at hck
    intro H locs lr cells slots hr hS hl hlen hcb hsb
    exact lv_ldc2 hx hb hown (hTb.it hck.1 args) (pm_dcE hck.2) (hk rfl _ _ _ _ _ Hop H locs lr cells slots hr hS hl hlen hcb hsb)
  | iadd =>
    simp only [pm_ck] at hck
    simp only [pm_1] at Hop
    split at Hop
    · intro H locs lr cells slots hr hS hl hlen hcb hsb
      exact lv_iadd hx hb (pm_dcE hck) (hk rfl _ _ _ _ _ Hop H locs lr cells slots hr hS hl hlen hcb hsb)
    · exact Hop.elim
  | isub =>
    simp only [pm_ck] at hck
    simp only [pm_1] at Hop
    split at Hop
    · intro H locs lr cells slots hr hS hl hlen hcb hsb
      exact lv_isub hx hb (pm_dcE hck) (hk rfl _ _ _ _ _ Hop H locs lr cells slots hr hS hl hlen hcb hsb)
    · exact Hop.elim
  | imul =>
    simp only [pm_ck] at hck
    simp only [pm_1] at Hop
    split at Hop
    · intro H locs lr cells slots hr hS hl hlen hcb hsb
      exact lv_imul hx hb (pm_dcE hck) (hk rfl _ _ _ _ _ Hop H locs lr cells slots hr hS hl hlen hcb hsb)
    · exact Hop.elim
  | iand =>
    simp only [pm_ck] at hck
    simp only [pm_1] at Hop
    split at Hop
    · intro H locs lr cells slots hr hS hl hlen hcb hsb
      exact lv_iand hx hb (pm_dcE hck) (hk rfl _ _ _ _ _ Hop H locs lr cells slots hr hS hl hlen hcb hsb)
    · exact Hop.elim
  | ior =>
    simp only [pm_ck] at hck
    simp only [pm_1] at Hop
    split at Hop
    · intro H locs lr cells slots hr hS hl hlen hcb hsb
      exact lv_ior hx hb (pm_dcE hck) (hk rfl _ _ _ _ _ Hop H locs lr cells slots hr hS hl hlen hcb hsb)
    · exact Hop.elim
  | ishl =>
    simp only [pm_ck] at hck
    simp only [pm_1] at Hop
    split at Hop
    · intro H locs lr cells slots hr hS hl hlen hcb hsb
      exact lv_ishl hx hb (pm_dcE hck) (hk rfl _ _ _ _ _ Hop H locs lr cells slots hr hS hl hlen hcb hsb)
    · exact Hop.elim
  | ishr =>
    simp only [pm_ck] at hck
    simp only [pm_1] at Hop
    split at Hop
    · intro H locs lr cells slots hr hS hl hlen hcb hsb
      exact lv_ishr hx hb (pm_dcE hck) (hk rfl _ _ _ _ _ Hop H locs lr cells slots hr hS hl hlen hcb hsb)
    · exact Hop.elim
  | ladd =>
    simp only [pm_ck] at hck
    simp only [pm_1] at Hop
    split at Hop
    · intro H locs lr cells slots hr hS hl hlen hcb hsb
      exact lv_ladd hx hb (pm_dcE hck) (hk rfl _ _ _ _ _ Hop H locs lr cells slots hr hS hl hlen hcb hsb)
    · exact Hop.elim
  | lsub =>
    simp only [pm_ck] at hck
    simp only [pm_1] at Hop
    split at Hop
    · intro H locs lr cells slots hr hS hl hlen hcb hsb
      exact lv_lsub hx hb (pm_dcE hck) (hk rfl _ _ _ _ _ Hop H locs lr cells slots hr hS hl hlen hcb hsb)
    · exact Hop.elim
  | lmul =>
    simp only [pm_ck] at hck
    simp only [pm_1] at Hop
    split at Hop
    · intro H locs lr cells slots hr hS hl hlen hcb hsb
      exact lv_lmul hx hb (pm_dcE hck) (hk rfl _ _ _ _ _ Hop H locs lr cells slots hr hS hl hlen hcb hsb)
    · exact Hop.elim
  | land =>
    simp only [pm_ck] at hck
    simp only [pm_1] at Hop
    split at Hop
    · intro H locs lr cells slots hr hS hl hlen hcb hsb
      exact lv_land hx hb (pm_dcE hck) (hk rfl _ _ _ _ _ Hop H locs lr cells slots hr hS hl hlen hcb hsb)
    · exact Hop.elim
  | lor =>
    simp only [pm_ck] at hck
    simp only [pm_1] at Hop
    split at Hop
    · intro H locs lr cells slots hr hS hl hlen hcb hsb
      exact lv_lor hx hb (pm_dcE hck) (hk rfl _ _ _ _ _ Hop H locs lr cells slots hr hS hl hlen hcb hsb)
    · exact Hop.elim
  | lxor =>
    simp only [pm_ck] at hck
    simp only [pm_1] at Hop
    split at Hop
    · intro H locs lr cells slots hr hS hl hlen hcb hsb
      exact lv_lxor hx hb (pm_dcE hck) (hk rfl _ _ _ _ _ Hop H locs lr cells slots hr hS hl hlen hcb hsb)
    · exact Hop.elim
  | iushr =>
    simp only [pm_ck] at hck
    simp only [pm_1] at Hop
    split at Hop
    · intro H locs lr cells slots hr hS hl hlen hcb hsb
      exact lv_iushr hx hb (pm_dcE hck) rfl (hk rfl _ _ _ _ _ Hop H locs lr cells slots hr hS hl hlen hcb hsb)
    · exact Hop.elim
  | lshl =>
    simp only [pm_ck] at hck
    simp only [pm_1] at Hop
    split at Hop
    · intro H locs lr cells slots hr hS hl hlen hcb hsb
      exact lv_lshl hx hb (pm_dcE hck) rfl (hk rfl _ _ _ _ _ Hop H locs lr cells slots hr hS hl hlen hcb hsb)
    · exact Hop.elim
  | lshr =>
    simp only [pm_ck] at hck
    simp only [pm_1] at Hop
    split at Hop
    · intro H locs lr cells slots hr hS hl hlen hcb hsb
      exact lv_lshr hx hb (pm_dcE hck) rfl (hk rfl _ _ _ _ _ Hop H locs lr cells slots hr hS hl hlen hcb hsb)
    · exact Hop.elim
  | lushr =>
    simp only [pm_ck] at hck
    simp only [pm_1] at Hop
    split at Hop
    · intro H locs lr cells slots hr hS hl hlen hcb hsb
      exact lv_lushr hx hb (pm_dcE hck) rfl (hk rfl _ _ _ _ _ Hop H locs lr cells slots hr hS hl hlen hcb hsb)
    · exact Hop.elim
  | i2l =>
    simp only [pm_ck] at hck
    simp only [pm_1] at Hop
    split at Hop
    · intro H locs lr cells slots hr hS hl hlen hcb hsb
      exact lv_i2l hx hb (pm_dcE hck) rfl (hk rfl _ _ _ _ _ Hop H locs lr cells slots hr hS hl hlen hcb hsb)
    · exact Hop.elim
  | l2i =>
    simp only [pm_ck] at hck
    simp only [pm_1] at Hop
    split at Hop
    · intro H locs lr cells slots hr hS hl hlen hcb hsb
      exact lv_l2i hx hb (pm_dcE hck) rfl (hk rfl _ _ _ _ _ Hop H locs lr cells slots hr hS hl hlen hcb hsb)
    · exact Hop.elim
  | i2b =>
    simp only [pm_ck] at hck
    simp only [pm_1] at Hop
    split at Hop
    · intro H locs lr cells slots hr hS hl hlen hcb hsb
      exact lv_i2b hx hb (pm_dcE hck) rfl (hk rfl _ _ _ _ _ Hop H locs lr cells slots hr hS hl hlen hcb hsb)
    · exact Hop.elim
  | i2c =>
    simp only [pm_ck] at hck
    simp only [pm_1] at Hop
    split at Hop
    · intro H locs lr cells slots hr hS hl hlen hcb hsb
      exact lv_i2c hx hb (pm_dcE hck) rfl (hk rfl _ _ _ _ _ Hop H locs lr cells slots hr hS hl hlen hcb hsb)
    · exact Hop.elim
  | idiv =>
    simp only [pm_ck] at hck
    simp only [pm_1] at Hop
    split at Hop
    · intro H locs lr cells slots hr hS hl hlen hcb hsb
      exact lv_idiv hx hb (pm_dcE hck) Hop.1 (hk rfl _ _ _ _ _ Hop.2 H locs lr cells slots hr hS hl hlen hcb hsb)
    · exact Hop.elim
  | irem =>
    simp only [pm_ck] at hck
    simp only [pm_1] at Hop
    split at Hop
    · intro H locs lr cells slots hr hS hl hlen hcb hsb
      exact lv_irem hx hb (pm_dcE hck) Hop.1 (hk rfl _ _ _ _ _ Hop.2 H locs lr cells slots hr hS hl hlen hcb hsb)
    · exact Hop.elim
  | lcmp =>
    simp only [pm_ck] at hck
    simp only [pm_1] at Hop
    split at Hop
    · intro H locs lr cells slots hr hS hl hlen hcb hsb
      exact W.lcmp hx hb (pm_dcE hck) (hk rfl _ _ _ _ _ Hop H locs lr cells slots hr hS hl hlen hcb hsb)
    · exact Hop.elim
  | pop =>
    simp only [pm_ck] at hck
    simp only [pm_1] at Hop
    split at Hop
    · intro H locs lr cells slots hr hS hl hlen hcb hsb
      exact lv_pop hx hb (pm_dcE hck) rfl (hk rfl _ _ _ _ _ Hop H locs lr cells slots hr hS hl hlen hcb hsb)
    · exact Hop.elim
  | dup =>
    simp only [pm_ck] at hck
    simp only [pm_1] at Hop
    split at Hop
    · intro H locs lr cells slots hr hS hl hlen hcb hsb
      exact lv_dup hx hb (pm_dcE hck) rfl (hk rfl _ _ _ _ _ Hop H locs lr cells slots hr hS hl hlen hcb hsb)
    · intro H locs lr cells slots hr hS hl hlen hcb hsb
      exact lv_dup hx hb (pm_dcE hck) rfl (hk rfl _ _ _ _ _ Hop H locs lr cells slots hr hS hl hlen hcb hsb)
    · exact Hop.elim
  | dup2 =>
    simp only [pm_ck] at hck
    simp only [pm_1] at Hop
    split at Hop
    · intro H locs lr cells slots hr hS hl hlen hcb hsb
      exact lv_dup2_11 hx hb (pm_dcE hck) rfl rfl (hk rfl _ _ _ _ _ Hop H locs lr cells slots hr hS hl hlen hcb hsb)
    · exact Hop.elim
  | getfield ix =>
    simp only [pm_ck] at hck
    simp only [pm_1] at Hop
    simp only [Bool.and_eq_true, decide_eq_true_eq] at hck
    obtain ⟨⟨⟨⟨g1, g2⟩, g3⟩, g4⟩, g5⟩ := hck
    split at Hop
    · rename_i o r
      obtain ⟨ho, Hop⟩ := Hop
      intro H locs lr cells slots hr hS hl hlen hcb hsb
      refine pm_get hx hb hown hTb hK0 hr g1 g2 ho g4 (pm_dcE g5) ?_
      split at Hop
      · rename_i h0
        have e9 : pm_fv (pm_ad b sz aS) h o b9 (pm_ty a b9) = .int (hI h o b9) := by unfold pm_fv; rw [if_pos (by rw [g3]; exact h0)]
        rw [e9]
        exact hk rfl _ _ _ _ _ Hop H locs lr cells slots hr hS hl hlen hcb hsb
      · rename_i h0
        split at Hop
        · rename_i h1
          have e9 : pm_fv (pm_ad b sz aS) h o b9 (pm_ty a b9) = .long (hL h o b9) := by unfold pm_fv; rw [if_neg (by rw [g3]; exact h0), if_pos (by rw [g3]; exact h1)]
          rw [e9]
          exact hk rfl _ _ _ _ _ Hop H locs lr cells slots hr hS hl hlen hcb hsb
        · rename_i h1
          have e9 : pm_fv (pm_ad b sz aS) h o b9 (pm_ty a b9) = .ref (pm_ad b sz aS (hR h o b9)) := by unfold pm_fv pm_rf; rw [if_neg (by rw [g3]; exact h0), if_neg (by rw [g3]; exact h1), if_neg Hop.1]; rfl
          rw [e9]
          exact hk rfl _ _ _ _ _ Hop.2 H locs lr cells slots hr hS hl hlen hcb hsb
    · exact Hop.elim
  | putfield ix =>
    simp only [pm_ck] at hck
    simp only [pm_1] at Hop
    rw [Bool.and_eq_true, Bool.and_eq_true, Bool.and_eq_true, Bool.and_eq_true, decide_eq_true_eq, decide_eq_true_eq, decide_eq_true_eq] at hck
    obtain ⟨⟨⟨⟨g1, g2⟩, g3⟩, g4⟩, g5⟩ := hck
    split at Hop
    · rename_i v o r
      obtain ⟨h0, ho, Hop⟩ := Hop
      intro H locs lr cells slots hr hS hl hlen hcb hsb
      have hty : pm_tg (pm_ty a b9) = 0 := by rw [g3]; exact h0
      refine pm_put (h := h) (o := o) (v := .int v) hx hb hown hTb hK0 hr hS g1 g2 ho hini g4 (by cases hq : pm_ty a b9 <;> simp [pm_tg, hq] at hty; rfl) (by cases hq : pm_ty a b9 <;> simp [pm_tg, hq] at hty; rfl) (pm_dcE g5) (fun H1 locs1 hP1 hS1 hz => ?_)
      obtain ⟨g6, g7, -⟩ := pm_obj (cA := cA) (ad := pm_ad b sz aS) hr.2.1 g1 ho
      refine hk rfl _ _ _ _ _ Hop H1 locs1 lr cells slots (hr.put ?_ rfl rfl rfl rfl ?_ hz) hS1 hl hlen hcb hsb
      · rw [← pm_ws_set (h := h) (h' := sI h o (va_up (hI h o) b9 v)) (k := o) g6 g7 rfl (fun j hj => pm_ent_congr (va_up_ne _ _ hj) rfl rfl rfl rfl)]
        have e9 : pm_ent cA (pm_ad b sz aS) (sI h o (va_up (hI h o) b9 v)) o = .inr (a, ((List.range (pm_nf a)).map fun j => pm_fv (pm_ad b sz aS) h o j (pm_ty a j)).set b9 (.int v)) := by
          unfold pm_ent
          rw [show hT (sI h o (va_up (hI h o) b9 v)) o = a from ho, if_pos (by omega)]
          rw [map_set (f' := fun j => pm_fv (pm_ad b sz aS) (sI h o (va_up (hI h o) b9 v)) o j (pm_ty a j))]
          · show pm_fv _ _ _ _ _ = _
            unfold pm_fv 
            rw [if_pos hty]
            have e8 : hI (sI h o (va_up (hI h o) b9 v)) o b9 = v := by rw [sI_at, va_up_self]
            rw [e8]
            skip
          · intro j hj
            have e8 : hI (sI h o (va_up (hI h o) b9 v)) o j = hI h o j := by rw [sI_at, va_up_ne _ _ hj]
            show pm_fv _ _ _ _ _ = pm_fv _ _ _ _ _
            unfold pm_fv
            rw [e8]
            rfl
        rw [e9]
        exact hP1
      · show va_up _ o _ 0 = _; rw [va_up_ne _ _ (by omega)]; rfl
    · rename_i v o r
      obtain ⟨h0, ho, Hop⟩ := Hop
      intro H locs lr cells slots hr hS hl hlen hcb hsb
      have hty : pm_tg (pm_ty a b9) = 1 := by rw [g3]; exact h0
      refine pm_put (h := h) (o := o) (v := .long v) hx hb hown hTb hK0 hr hS g1 g2 ho hini g4 (by cases hq : pm_ty a b9 <;> simp [pm_tg, hq] at hty; rfl) (by cases hq : pm_ty a b9 <;> simp [pm_tg, hq] at hty; rfl) (pm_dcE g5) (fun H1 locs1 hP1 hS1 hz => ?_)
      obtain ⟨g6, g7, -⟩ := pm_obj (cA := cA) (ad := pm_ad b sz aS) hr.2.1 g1 ho
      refine hk rfl _ _ _ _ _ Hop H1 locs1 lr cells slots (hr.put ?_ rfl rfl rfl rfl ?_ hz) hS1 hl hlen hcb hsb
      · rw [← pm_ws_set (h := h) (h' := sL h o (va_up (hL h o) b9 v)) (k := o) g6 g7 rfl (fun j hj => pm_ent_congr rfl (va_up_ne _ _ hj) rfl rfl rfl)]
        have e9 : pm_ent cA (pm_ad b sz aS) (sL h o (va_up (hL h o) b9 v)) o = .inr (a, ((List.range (pm_nf a)).map fun j => pm_fv (pm_ad b sz aS) h o j (pm_ty a j)).set b9 (.long v)) := by
          unfold pm_ent
          rw [show hT (sL h o (va_up (hL h o) b9 v)) o = a from ho, if_pos (by omega)]
          rw [map_set (f' := fun j => pm_fv (pm_ad b sz aS) (sL h o (va_up (hL h o) b9 v)) o j (pm_ty a j))]
          · show pm_fv _ _ _ _ _ = _
            unfold pm_fv 
            rw [if_neg (by omega), if_pos hty]
            have e8 : hL (sL h o (va_up (hL h o) b9 v)) o b9 = v := by rw [sL_at, va_up_self]
            rw [e8]
            skip
          · intro j hj
            have e8 : hL (sL h o (va_up (hL h o) b9 v)) o j = hL h o j := by rw [sL_at, va_up_ne _ _ hj]
            show pm_fv _ _ _ _ _ = pm_fv _ _ _ _ _
            unfold pm_fv
            rw [e8]
            rfl
        rw [e9]
        exact hP1
      · rfl
    · rename_i v o r
      obtain ⟨h0, ho, hv0, Hop⟩ := Hop
      intro H locs lr cells slots hr hS hl hlen hcb hsb
      have hty : pm_tg (pm_ty a b9) = 2 := by rw [g3]; exact h0
      refine pm_put (h := h) (o := o) (v := .ref (pm_ad b sz aS v)) hx hb hown hTb hK0 hr hS g1 g2 ho hini g4 (by cases hq : pm_ty a b9 <;> simp [pm_tg, hq] at hty <;> rfl) (by cases hq : pm_ty a b9 <;> simp [pm_tg, hq] at hty <;> rfl) (pm_dcE g5) (fun H1 locs1 hP1 hS1 hz => ?_)
      obtain ⟨g6, g7, -⟩ := pm_obj (cA := cA) (ad := pm_ad b sz aS) hr.2.1 g1 ho
      refine hk rfl _ _ _ _ _ Hop H1 locs1 lr cells slots (hr.put ?_ rfl rfl rfl rfl ?_ hz) hS1 hl hlen hcb hsb
      · rw [← pm_ws_set (h := h) (h' := sR h o (va_up (hR h o) b9 v)) (k := o) g6 g7 rfl (fun j hj => pm_ent_congr rfl rfl (va_up_ne _ _ hj) rfl rfl)]
        have e9 : pm_ent cA (pm_ad b sz aS) (sR h o (va_up (hR h o) b9 v)) o = .inr (a, ((List.range (pm_nf a)).map fun j => pm_fv (pm_ad b sz aS) h o j (pm_ty a j)).set b9 (.ref (pm_ad b sz aS v))) := by
          unfold pm_ent
          rw [show hT (sR h o (va_up (hR h o) b9 v)) o = a from ho, if_pos (by omega)]
          rw [map_set (f' := fun j => pm_fv (pm_ad b sz aS) (sR h o (va_up (hR h o) b9 v)) o j (pm_ty a j))]
          · show pm_fv _ _ _ _ _ = _
            unfold pm_fv pm_rf
            rw [if_neg (by omega), if_neg (by omega)]
            have e8 : hR (sR h o (va_up (hR h o) b9 v)) o b9 = v := by rw [sR_at, va_up_self]
            rw [e8, if_neg hv0]
            rfl
          · intro j hj
            have e8 : hR (sR h o (va_up (hR h o) b9 v)) o j = hR h o j := by rw [sR_at, va_up_ne _ _ hj]
            show pm_fv _ _ _ _ _ = pm_fv _ _ _ _ _
            unfold pm_fv
            rw [e8]
            rfl
        rw [e9]
        exact hP1
      · rfl
    · exact Hop.elim
  | iaload =>
    simp only [pm_ck] at hck
    simp only [pm_1] at Hop
    simp only [Bool.and_eq_true, Bool.or_eq_true, decide_eq_true_eq] at hck
    split at Hop
    · rename_i i o r
      obtain ⟨ho, hi, Hop⟩ := Hop
      intro H locs lr cells slots hr hS hl hlen hcb hsb
      have hgo := hk rfl _ _ _ _ _ Hop H locs lr cells slots hr hS hl hlen hcb hsb
      rcases hck.1 with h0 | h0
      · obtain ⟨g6, g7, g8⟩ := pm_arr (cA := cA) (ad := pm_ad b sz aS) (t := 100) (o := o) hr.2.1 (by omega) (by omega) (by omega)
        rw [pm_ro_i (by omega) (by omega)] at g8
        exact va_iald hx hb hK0 hr.1 (o - 32) 0 g8 rfl hi (pm_dcE hck.2) hgo
      · have e0 : o = 0 := (hr.2.1.2 o).2.2 (by omega)
        subst e0
        obtain ⟨g6, g7⟩ := hr.2.2.2.2 (by omega)
        obtain ⟨-, -, -, -, -, -, hX, hbs, -⟩ := hCs
        rw [g6] at hi
        rw [g7] at hgo
        exact va_sld (b := b) (A := fun q => sz ≤ q) hx hb hX (by omega) (by omega) hS hi (pm_dcE hck.2) hgo
    · exact Hop.elim
  | baload =>
    simp only [pm_ck] at hck
    simp only [pm_1] at Hop
    simp only [Bool.and_eq_true, Bool.or_eq_true, decide_eq_true_eq] at hck
    split at Hop
    · rename_i i o r
      obtain ⟨ho, hi, Hop⟩ := Hop
      intro H locs lr cells slots hr hS hl hlen hcb hsb
      have hgo := hk rfl _ _ _ _ _ Hop H locs lr cells slots hr hS hl hlen hcb hsb
      obtain ⟨g6, g7, g8⟩ := pm_arr (cA := cA) (ad := pm_ad b sz aS) (t := a) (o := o) hr.2.1 (by omega) (by omega) (by omega)
      rw [pm_ro_i (by omega) (by omega)] at g8
      rcases hck.1 with h0 | h0
      · subst h0
        exact va_bald hx hb hK0 hr.1 (o - 32) 2 g8 rfl hi (pm_dcE hck.2) hgo
      · subst h0
        exact va_zald hx hb hK0 hr.1 (o - 32) 3 g8 rfl hi (pm_dcE hck.2) hgo
    · exact Hop.elim
  | laload =>
    simp only [pm_ck] at hck
    simp only [pm_1] at Hop
    split at Hop
    · rename_i i o r
      obtain ⟨ho, hi, Hop⟩ := Hop
      intro H locs lr cells slots hr hS hl hlen hcb hsb
      have hgo := hk rfl _ _ _ _ _ Hop H locs lr cells slots hr hS hl hlen hcb hsb
      obtain ⟨g6, g7, g8⟩ := pm_arr (cA := cA) (ad := pm_ad b sz aS) (t := 101) hr.2.1 (by omega) (by omega) ho
      rw [pm_ro_l ho] at g8
      exact va_lald hx hb hK0 hr.1 (o - 32) 1 g8 rfl hi (pm_dcE hck) hgo
    · exact Hop.elim
  | aaload =>
    simp only [pm_ck] at hck
    simp only [pm_1] at Hop
    simp only [Bool.and_eq_true, Bool.or_eq_true, decide_eq_true_eq] at hck
    split at Hop
    · rename_i i o r
      obtain ⟨ho, hi, hne, Hop⟩ := Hop
      intro H locs lr cells slots hr hS hl hlen hcb hsb
      have hgo := hk rfl _ _ _ _ _ Hop H locs lr cells slots hr hS hl hlen hcb hsb
      obtain ⟨g6, g7, g8⟩ := pm_arr (cA := cA) (ad := pm_ad b sz aS) (t := a) (o := o) hr.2.1 (by omega) (by omega) (by omega)
      rw [pm_ro_q (by omega)] at g8
      have hlt : i.toNatClampNeg < hN h o := Nat.not_le.mp fun q => hi (Or.inr q)
      have e9 : va_rf (pm_rf (pm_ad b sz aS) (hR h o i.toNatClampNeg)) = .ref (pm_ad b sz aS (hR h o i.toNatClampNeg)) := by unfold pm_rf; rw [if_neg hne]; rfl
      rcases hck.1 with h0 | h0
      · subst h0
        refine W.aald (v := va_rf (pm_rf (pm_ad b sz aS) (hR h o i.toNatClampNeg))) (ty := .array .int) hx hb (hr.1 (o - 32) _ g8) ((hK0.2 4 _ rfl).1 (hN h o) (fun j => va_rf (pm_rf (pm_ad b sz aS) (hR h o j)))) rfl (fun q => by cases q) (by show ¬ (i < 0 ∨ (arrV _ _ _).slots.size ≤ _); rw [arrV_size]; exact hi) (by show (arrV _ _ _).slots[_]? = _; rw [arrV_read _ _ hlt]) rfl rfl (pm_dcE hck.2) ?_
        rw [e9]
        exact hgo
      · subst h0
        refine W.aald (v := va_rf (pm_rf (pm_ad b sz aS) (hR h o i.toNatClampNeg))) (ty := .array .long) hx hb (hr.1 (o - 32) _ g8) ((hK0.2 5 _ rfl).1 (hN h o) (fun j => va_rf (pm_rf (pm_ad b sz aS) (hR h o j)))) rfl (fun q => by cases q) (by show ¬ (i < 0 ∨ (arrV _ _ _).slots.size ≤ _); rw [arrV_size]; exact hi) (by show (arrV _ _ _).slots[_]? = _; rw [arrV_read _ _ hlt]) rfl rfl (pm_dcE hck.2) ?_
        rw [e9]
        exact hgo
    · exact Hop.elim
  | iastore =>
    simp only [pm_ck] at hck
    simp only [pm_1] at Hop
    split at Hop
    · rename_i v i o r
      obtain ⟨ho, hi, Hop⟩ := Hop
      intro H locs lr cells slots hr hS hl hlen hcb hsb
      obtain ⟨g6, g7, g8⟩ := pm_arr (cA := cA) (ad := pm_ad b sz aS) (t := 100) hr.2.1 (by omega) (by omega) ho
      rw [pm_ro_i (by omega) (by omega)] at g8
      refine W.iast hx hb (hr.1 (o - 32) _ g8) ((hK0.2 0 _ rfl).1 (hN h o) (fun j => .int (hI h o j))) (fun q => by cases q) (by show ¬ (i < 0 ∨ (arrV _ _ _).slots.size ≤ _); rw [arrV_size]; exact hi) rfl rfl (pm_dcE hck) fun H1 e1 z1 oq1 => ?_
      have e7 : pm_ro (pm_ad b sz aS) (sI h o (va_up (hI h o) i.toNatClampNeg (v))) o = .inl (va_up (hI h o) i.toNatClampNeg (v)) := by
        have e6 : pm_ro (pm_ad b sz aS) (sI h o (va_up (hI h o) i.toNatClampNeg (v))) o = .inl (hI (sI h o (va_up (hI h o) i.toNatClampNeg (v))) o) := pm_ro_i (show hT h o ≠ 101 by omega) (show hT h o < 104 by omega)
        rw [e6, sI_at]
      have e5 : H1[pm_ad b sz aS o]? = some (vp_cell (cA 100) (hN h o, pm_ro (pm_ad b sz aS) (sI h o (va_up (hI h o) i.toNatClampNeg (v))) o)) := by
        rw [e1, e7]
        show some ((arrV (cA 100) (hN h o) (fun j => .int (hI h o j))).setSlot _ _) = some (arrV (cA 100) (hN h o) (fun j => .int (va_up (hI h o) i.toNatClampNeg (v) j)))
        rw [arrV_store]
        congr 2
        funext q
        by_cases hq : q = i.toNatClampNeg
        · subst hq; simp [updV, va_up]
        · simp [updV, va_up, hq]
      obtain ⟨hr1, hS1⟩ := pm_ast (k := i.toNatClampNeg) (h' := sI h o (va_up (hI h o) i.toNatClampNeg (v))) hr hS (t := 100) (by omega) (by omega) (by omega) rfl rfl rfl rfl (fun j hj => va_up_ne _ _ hj) (fun j hj => rfl) rfl e5 z1 oq1
      exact hk rfl _ _ _ _ _ Hop H1 _ lr cells slots hr1 hS1 hl hlen hcb hsb
    · exact Hop.elim
  | bastore =>
    simp only [pm_ck] at hck
    simp only [pm_1] at Hop
    simp only [Bool.and_eq_true, Bool.or_eq_true, decide_eq_true_eq] at hck
    split at Hop
    · rename_i v i o r
      obtain ⟨ho, hi, Hop⟩ := Hop
      intro H locs lr cells slots hr hS hl hlen hcb hsb
      obtain ⟨g6, g7, g8⟩ := pm_arr (cA := cA) (ad := pm_ad b sz aS) (t := a) (o := o) hr.2.1 (by omega) (by omega) (by omega)
      rw [pm_ro_i (by omega) (by omega)] at g8
      rcases hck.1 with h0 | h0
      · subst h0
        rw [if_pos rfl] at Hop
        refine W.bast hx hb (hr.1 (o - 32) _ g8) ((hK0.2 2 _ rfl).1 (hN h o) (fun j => .int (hI h o j))) (fun q => by cases q) (by show ¬ (i < 0 ∨ (arrV _ _ _).slots.size ≤ _); rw [arrV_size]; exact hi) rfl rfl (pm_dcE hck.2) fun H1 e1 z1 oq1 => ?_
        have e7 : pm_ro (pm_ad b sz aS) (sI h o (va_up (hI h o) i.toNatClampNeg (v.toInt8.toInt32))) o = .inl (va_up (hI h o) i.toNatClampNeg (v.toInt8.toInt32)) := by
          have e6 : pm_ro (pm_ad b sz aS) (sI h o (va_up (hI h o) i.toNatClampNeg (v.toInt8.toInt32))) o = .inl (hI (sI h o (va_up (hI h o) i.toNatClampNeg (v.toInt8.toInt32))) o) := pm_ro_i (show hT h o ≠ 101 by omega) (show hT h o < 104 by omega)
          rw [e6, sI_at]
        have e5 : H1[pm_ad b sz aS o]? = some (vp_cell (cA 102) (hN h o, pm_ro (pm_ad b sz aS) (sI h o (va_up (hI h o) i.toNatClampNeg (v.toInt8.toInt32))) o)) := by
          rw [e1, e7]
          show some ((arrV (cA 102) (hN h o) (fun j => .int (hI h o j))).setSlot _ _) = some (arrV (cA 102) (hN h o) (fun j => .int (va_up (hI h o) i.toNatClampNeg (v.toInt8.toInt32) j)))
          rw [arrV_store]
          congr 2
          funext q
          by_cases hq : q = i.toNatClampNeg
          · subst hq; simp [updV, va_up, narrow]
          · simp [updV, va_up, hq]
        obtain ⟨hr1, hS1⟩ := pm_ast (k := i.toNatClampNeg) (h' := sI h o (va_up (hI h o) i.toNatClampNeg (v.toInt8.toInt32))) hr hS (t := 102) (by omega) (by omega) (by omega) rfl rfl rfl rfl (fun j hj => va_up_ne _ _ hj) (fun j hj => rfl) rfl e5 z1 oq1
        exact hk rfl _ _ _ _ _ Hop H1 _ lr cells slots hr1 hS1 hl hlen hcb hsb
      · subst h0
        rw [if_neg (by decide)] at Hop
        refine W.zast hx hb (hr.1 (o - 32) _ g8) ((hK0.2 3 _ rfl).1 (hN h o) (fun j => .int (hI h o j))) (fun q => by cases q) (by show ¬ (i < 0 ∨ (arrV _ _ _).slots.size ≤ _); rw [arrV_size]; exact hi) rfl rfl (pm_dcE hck.2) fun H1 e1 z1 oq1 => ?_
        have e7 : pm_ro (pm_ad b sz aS) (sI h o (va_up (hI h o) i.toNatClampNeg (vp_nar .boolean v))) o = .inl (va_up (hI h o) i.toNatClampNeg (vp_nar .boolean v)) := by
          have e6 : pm_ro (pm_ad b sz aS) (sI h o (va_up (hI h o) i.toNatClampNeg (vp_nar .boolean v))) o = .inl (hI (sI h o (va_up (hI h o) i.toNatClampNeg (vp_nar .boolean v))) o) := pm_ro_i (show hT h o ≠ 101 by omega) (show hT h o < 104 by omega)
          rw [e6, sI_at]
        have e5 : H1[pm_ad b sz aS o]? = some (vp_cell (cA 103) (hN h o, pm_ro (pm_ad b sz aS) (sI h o (va_up (hI h o) i.toNatClampNeg (vp_nar .boolean v))) o)) := by
          rw [e1, e7]
          show some ((arrV (cA 103) (hN h o) (fun j => .int (hI h o j))).setSlot _ _) = some (arrV (cA 103) (hN h o) (fun j => .int (va_up (hI h o) i.toNatClampNeg (vp_nar .boolean v) j)))
          rw [arrV_store]
          congr 2
          funext q
          by_cases hq : q = i.toNatClampNeg
          · subst hq; simp [updV, va_up, narrow, vp_nar]
          · simp [updV, va_up, hq]
        obtain ⟨hr1, hS1⟩ := pm_ast (k := i.toNatClampNeg) (h' := sI h o (va_up (hI h o) i.toNatClampNeg (vp_nar .boolean v))) hr hS (t := 103) (by omega) (by omega) (by omega) rfl rfl rfl rfl (fun j hj => va_up_ne _ _ hj) (fun j hj => rfl) rfl e5 z1 oq1
        exact hk rfl _ _ _ _ _ Hop H1 _ lr cells slots hr1 hS1 hl hlen hcb hsb
    · exact Hop.elim
  | lastore =>
    simp only [pm_ck] at hck
    simp only [pm_1] at Hop
    split at Hop
    · rename_i v i o r
      obtain ⟨ho, hi, Hop⟩ := Hop
      intro H locs lr cells slots hr hS hl hlen hcb hsb
      obtain ⟨g6, g7, g8⟩ := pm_arr (cA := cA) (ad := pm_ad b sz aS) (t := 101) hr.2.1 (by omega) (by omega) ho
      rw [pm_ro_l ho] at g8
      refine W.last hx hb (hr.1 (o - 32) _ g8) ((hK0.2 1 _ rfl).1 (hN h o) (fun j => .long (hL h o j))) (fun q => by cases q) (by show ¬ (i < 0 ∨ (arrV _ _ _).slots.size ≤ _); rw [arrV_size]; exact hi) rfl rfl (pm_dcE hck) fun H1 e1 z1 oq1 => ?_
      have e7 : pm_ro (pm_ad b sz aS) (sL h o (va_up (hL h o) i.toNatClampNeg (v))) o = .inr (.inl (va_up (hL h o) i.toNatClampNeg (v))) := by
        have e6 : pm_ro (pm_ad b sz aS) (sL h o (va_up (hL h o) i.toNatClampNeg (v))) o = .inr (.inl (hL (sL h o (va_up (hL h o) i.toNatClampNeg (v))) o)) := pm_ro_l (show hT h o = 101 by omega)
        rw [e6, sL_at]
      have e5 : H1[pm_ad b sz aS o]? = some (vp_cell (cA 101) (hN h o, pm_ro (pm_ad b sz aS) (sL h o (va_up (hL h o) i.toNatClampNeg (v))) o)) := by
        rw [e1, e7]
        show some ((arrV (cA 101) (hN h o) (fun j => .long (hL h o j))).setSlot _ _) = some (arrV (cA 101) (hN h o) (fun j => .long (va_up (hL h o) i.toNatClampNeg (v) j)))
        rw [arrV_store]
        congr 2
        funext q
        by_cases hq : q = i.toNatClampNeg
        · subst hq; simp [updV, va_up]
        · simp [updV, va_up, hq]
      obtain ⟨hr1, hS1⟩ := pm_ast (k := i.toNatClampNeg) (h' := sL h o (va_up (hL h o) i.toNatClampNeg (v))) hr hS (t := 101) (by omega) (by omega) (by omega) rfl rfl rfl rfl (fun j hj => rfl) (fun j hj => va_up_ne _ _ hj) rfl e5 z1 oq1
      exact hk rfl _ _ _ _ _ Hop H1 _ lr cells slots hr1 hS1 hl hlen hcb hsb
    · exact Hop.elim
  | arraylength =>
    simp only [pm_ck] at hck
    simp only [pm_1] at Hop
    simp only [Bool.and_eq_true, Bool.or_eq_true, decide_eq_true_eq] at hck
    split at Hop
    · rename_i o r
      obtain ⟨ho, Hop⟩ := Hop
      intro H locs lr cells slots hr hS hl hlen hcb hsb
      have hgo := hk rfl _ _ _ _ _ Hop H locs lr cells slots hr hS hl hlen hcb hsb
      rcases hck.1 with h0 | h0
      · have e0 : o = 0 := (hr.2.1.2 o).2.2 (by omega)
        subst e0
        obtain ⟨g6, g7⟩ := hr.2.2.2.2 (by omega)
        obtain ⟨-, -, -, -, -, -, hX, hbs, -⟩ := hCs
        rw [g6] at hgo
        exact va_slen (b := b) (A := fun q => sz ≤ q) hx hb hX (by omega) (by omega) hS (pm_dcE hck.2) hgo
      · obtain ⟨g6, g7, g8⟩ := pm_arr (cA := cA) (ad := pm_ad b sz aS) (t := a) hr.2.1 (by omega) (by omega) ho
        have ht : ∃ ty, (pm_tys cA)[a - 100]? = some (cA a, ty) := by
          rcases (show a = 100 ∨ a = 101 ∨ a = 102 ∨ a = 103 ∨ a = 104 ∨ a = 105 by omega) with rfl | rfl | rfl | rfl | rfl | rfl <;> exact ⟨_, rfl⟩
        obtain ⟨ty, ht⟩ := ht
        exact va_alen hx hb hK0 hr.1 (o - 32) (a - 100) g8 ht rfl (pm_dcE hck.2) hgo
    · exact Hop.elim
  | goto off =>
    simp only [pm_ck, Bool.and_eq_true, decide_eq_true_eq] at hck
    simp only [pm_1] at Hop
    intro H locs lr cells slots hr hS hl hlen hcb hsb
    exact lv_goto hx hb (pm_dcE hck.2) hck.1 (hK _ _ _ _ _ _ Hop H locs lr cells slots hr hS hl hlen hcb hsb)
  | ifCond cd off =>
    cases cd <;>
    · simp only [pm_ck, Bool.and_eq_true, decide_eq_true_eq] at hck
      simp only [pm_1] at Hop
      split at Hop
      · intro H locs lr cells slots hr hS hl hlen hcb hsb
        first
        | exact lv_if_eq hx hb (pm_dcE hck.2) hck.1 (fun q => hK _ _ _ _ _ _ (by rw [if_pos q] at Hop; exact Hop) H locs lr cells slots hr hS hl hlen hcb hsb) (fun q => hk rfl _ _ _ _ _ (by rw [if_neg q] at Hop; exact Hop) H locs lr cells slots hr hS hl hlen hcb hsb)
        | exact lv_if_ne hx hb (pm_dcE hck.2) hck.1 (fun q => hK _ _ _ _ _ _ (by rw [if_pos q] at Hop; exact Hop) H locs lr cells slots hr hS hl hlen hcb hsb) (fun q => hk rfl _ _ _ _ _ (by rw [if_neg (fun z => z q)] at Hop; exact Hop) H locs lr cells slots hr hS hl hlen hcb hsb)
        | exact lv_if_lt hx hb (pm_dcE hck.2) hck.1 (fun q => hK _ _ _ _ _ _ (by rw [if_pos q] at Hop; exact Hop) H locs lr cells slots hr hS hl hlen hcb hsb) (fun q => hk rfl _ _ _ _ _ (by rw [if_neg q] at Hop; exact Hop) H locs lr cells slots hr hS hl hlen hcb hsb)
        | exact lv_if_ge hx hb (pm_dcE hck.2) hck.1 (fun q => hK _ _ _ _ _ _ (by rw [if_pos q] at Hop; exact Hop) H locs lr cells slots hr hS hl hlen hcb hsb) (fun q => hk rfl _ _ _ _ _ (by rw [if_neg q] at Hop; exact Hop) H locs lr cells slots hr hS hl hlen hcb hsb)
        | exact lv_if_gt hx hb (pm_dcE hck.2) hck.1 (fun q => hK _ _ _ _ _ _ (by rw [if_pos q] at Hop; exact Hop) H locs lr cells slots hr hS hl hlen hcb hsb) (fun q => hk rfl _ _ _ _ _ (by rw [if_neg q] at Hop; exact Hop) H locs lr cells slots hr hS hl hlen hcb hsb)
        | exact lv_if_le hx hb (pm_dcE hck.2) hck.1 (fun q => hK _ _ _ _ _ _ (by rw [if_pos q] at Hop; exact Hop) H locs lr cells slots hr hS hl hlen hcb hsb) (fun q => hk rfl _ _ _ _ _ (by rw [if_neg q] at Hop; exact Hop) H locs lr cells slots hr hS hl hlen hcb hsb)
      · exact Hop.elim
  | if_icmp cd off =>
    cases cd <;>
    · simp only [pm_ck, Bool.and_eq_true, decide_eq_true_eq] at hck
      simp only [pm_1] at Hop
      split at Hop
      · intro H locs lr cells slots hr hS hl hlen hcb hsb
        first
        | exact lv_icmp_eq hx hb (pm_dcE hck.2) hck.1 (fun q => hK _ _ _ _ _ _ (by rw [if_pos q] at Hop; exact Hop) H locs lr cells slots hr hS hl hlen hcb hsb) (fun q => hk rfl _ _ _ _ _ (by rw [if_neg q] at Hop; exact Hop) H locs lr cells slots hr hS hl hlen hcb hsb)
        | exact lv_icmp_ne hx hb (pm_dcE hck.2) hck.1 (fun q => hK _ _ _ _ _ _ (by rw [if_pos q] at Hop; exact Hop) H locs lr cells slots hr hS hl hlen hcb hsb) (fun q => hk rfl _ _ _ _ _ (by rw [if_neg (fun z => z q)] at Hop; exact Hop) H locs lr cells slots hr hS hl hlen hcb hsb)
        | exact lv_icmp_lt hx hb (pm_dcE hck.2) hck.1 (fun q => hK _ _ _ _ _ _ (by rw [if_pos q] at Hop; exact Hop) H locs lr cells slots hr hS hl hlen hcb hsb) (fun q => hk rfl _ _ _ _ _ (by rw [if_neg q] at Hop; exact Hop) H locs lr cells slots hr hS hl hlen hcb hsb)
        | exact lv_icmp_ge hx hb (pm_dcE hck.2) hck.1 (fun q => hK _ _ _ _ _ _ (by rw [if_pos q] at Hop; exact Hop) H locs lr cells slots hr hS hl hlen hcb hsb) (fun q => hk rfl _ _ _ _ _ (by rw [if_neg q] at Hop; exact Hop) H locs lr cells slots hr hS hl hlen hcb hsb)
        | exact lv_icmp_gt hx hb (pm_dcE hck.2) hck.1 (fun q => hK _ _ _ _ _ _ (by rw [if_pos q] at Hop; exact Hop) H locs lr cells slots hr hS hl hlen hcb hsb) (fun q => hk rfl _ _ _ _ _ (by rw [if_neg q] at Hop; exact Hop) H locs lr cells slots hr hS hl hlen hcb hsb)
        | exact lv_icmp_le hx hb (pm_dcE hck.2) hck.1 (fun q => hK _ _ _ _ _ _ (by rw [if_pos q] at Hop; exact Hop) H locs lr cells slots hr hS hl hlen hcb hsb) (fun q => hk rfl _ _ _ _ _ (by rw [if_neg q] at Hop; exact Hop) H locs lr cells slots hr hS hl hlen hcb hsb)
      · exact Hop.elim
  | tableswitch df lo hi offs =>
    simp only [pm_ck] at hck
    simp only [pm_1] at Hop
    simp only [Bool.and_eq_true, decide_eq_true_eq] at hck
    obtain ⟨⟨⟨g1, g2⟩, g3⟩, g4⟩ := hck
    subst g1
    have hdg : ∃ n, decode (mB y) a = .ok (.tableswitch df lo hi offs, n) := by
      split at g4
      · rename_i i n hh; exact ⟨n, by rw [hh, of_decide_eq_true g4]⟩
      · cases g4
    obtain ⟨n, hdg⟩ := hdg
    split at Hop
    · rename_i x r
      intro H locs lr cells slots hr hS hl hlen hcb hsb
      split at Hop
      · rename_i hq
        exact lv_tableOut hx hb hdg hq (by omega) (hK _ _ _ _ _ _ Hop H locs lr cells slots hr hS hl hlen hcb hsb)
      · rename_i hq
        split at Hop
        · rename_i off ho
          have g5 := List.all_eq_true.mp g3 off (by have := Array.mem_of_getElem? ho; exact Array.mem_toList_iff.mpr this)
          rw [decide_eq_true_eq] at g5
          exact lv_tableIn hx hb hdg (fun z => hq (Or.inl z)) (fun z => hq (Or.inr z)) ho (by omega) (hK _ _ _ _ _ _ Hop H locs lr cells slots hr hS hl hlen hcb hsb)
        · exact Hop.elim
    · exact Hop.elim
  | invokespecial ix =>
    by_cases h0 : a = 9008
    · subst h0
      simp only [pm_ck, if_pos, Bool.and_eq_true] at hck; obtain ⟨⟨hck1, -⟩, hck2⟩ := hck; have hck := And.intro hck1 hck2
      simp only [pm_1, if_pos] at Hop
      split at Hop
      · rename_i o r
        obtain ⟨hcat, Hop⟩ := Hop
        intro H locs lr cells slots hr hS hl hlen hcb hsb
        refine W.objInit hx hb hown (hTb.it hck.2 args) (hTb.x 10 rfl args) (hTb.x 11 rfl args) rfl (by rw [hml]; exact hl.1) rfl (pm_dcE hck.1) (by omega) ?_ (hk rfl _ _ _ _ _ Hop H locs lr cells slots hr hS hl hlen hcb hsb)
        show 2 * 0 + (((r.map (vmv (pm_ad b sz aS))).map fun v => v.category).sum) + 12 ≤ R.locals
        rw [pm_cat_map]; omega
      · exact Hop.elim
    · exact hhard (by simp [pm_hard, h0])
  | invokestatic ix =>
    by_cases h3 : a = 9003
    · subst h3
      simp only [pm_ck, if_pos, Bool.and_eq_true, Nat.reduceEqDiff, if_false] at hck; obtain ⟨⟨hck1, -⟩, hck2⟩ := hck; have hck := And.intro hck1 hck2
      simp only [pm_1, if_pos, Nat.reduceEqDiff, if_false] at Hop
      split at Hop
      · rename_i y2 x2 r
        obtain ⟨hcat, Hop⟩ := Hop
        intro H locs lr cells slots hr hS hl hlen hcb hsb
        refine va_mmin hx hb (by rw [hml]; exact hl.1.symm) hown (hTb.it hck.2 args) (hTb.x 0 rfl args) (hTb.x 3 rfl args) (hTb.x 4 rfl args) (by omega) (by rw [pm_cat_map]; omega) (by omega) (by omega) (pm_dcE hck.1) (hk rfl _ _ _ _ _ Hop H locs lr cells slots hr hS hl hlen hcb hsb)
      · exact Hop.elim
    · skip
      by_cases h4 : a = 9004
      · subst h4
        simp only [pm_ck, if_pos, Bool.and_eq_true, Nat.reduceEqDiff, if_false] at hck; obtain ⟨⟨hck1, -⟩, hck2⟩ := hck; have hck := And.intro hck1 hck2
        simp only [pm_1, if_pos, Nat.reduceEqDiff, if_false] at Hop
        split at Hop
        · rename_i y2 x2 r
          obtain ⟨hcat, Hop⟩ := Hop
          intro H locs lr cells slots hr hS hl hlen hcb hsb
          refine va_mmax hx hb (by rw [hml]; exact hl.1.symm) hown (hTb.it hck.2 args) (hTb.x 1 rfl args) (hTb.x 3 rfl args) (hTb.x 5 rfl args) (by omega) (by rw [pm_cat_map]; omega) (by omega) (by omega) (pm_dcE hck.1) (hk rfl _ _ _ _ _ Hop H locs lr cells slots hr hS hl hlen hcb hsb)
        · exact Hop.elim
      · skip
        by_cases h5 : a = 9005
        · subst h5
          simp only [pm_ck, if_pos, Bool.and_eq_true, Nat.reduceEqDiff, if_false] at hck; obtain ⟨⟨hck1, -⟩, hck2⟩ := hck; have hck := And.intro hck1 hck2
          simp only [pm_1, if_pos, Nat.reduceEqDiff, if_false] at Hop
          split at Hop
          · rename_i y2 x2 r
            obtain ⟨hcat, Hop⟩ := Hop
            intro H locs lr cells slots hr hS hl hlen hcb hsb
            refine va_mmin_long hx hb (by rw [hml]; exact hl.1.symm) hown (hTb.it hck.2 args) (hTb.x 2 rfl args) (hTb.x 3 rfl args) (hTb.x 6 rfl args) (by omega) (by rw [pm_cat_map]; omega) (by omega) (by omega) (pm_dcE hck.1) (hk rfl _ _ _ _ _ Hop H locs lr cells slots hr hS hl hlen hcb hsb)
          · exact Hop.elim
        · skip
          by_cases h6 : a = 9006
          · subst h6
            simp only [pm_ck, if_pos, Bool.and_eq_true, Nat.reduceEqDiff, if_false] at hck; obtain ⟨⟨hck1, -⟩, hck2⟩ := hck; have hck := And.intro hck1 hck2
            simp only [pm_1, if_pos, Nat.reduceEqDiff, if_false] at Hop
            split at Hop
            · rename_i n dp t sp u r
              obtain ⟨hu, ht, k1, k2, k3, k4, k5, hcat, Hop⟩ := Hop
              intro H locs lr cells slots hr hS hl hlen hcb hsb
              obtain ⟨g6, g7, g8⟩ := pm_arr (cA := cA) (ad := pm_ad b sz aS) (t := 100) hr.2.1 (by omega) (by omega) hu
              obtain ⟨f6, f7, f8⟩ := pm_arr (cA := cA) (ad := pm_ad b sz aS) (t := 100) hr.2.1 (by omega) (by omega) ht
              rw [pm_ro_i (by omega) (by omega)] at g8 f8
              refine va_copyi hx hb (by rw [hml]; exact hl.1.symm) hown (hTb.it hck.2 args) (hTb.x 7 rfl args) (hTb.x 8 rfl args) (hTb.x 9 rfl args) hK0 hr.1 pm_D hS (u - 32) (t - 32) 0 0 g8 f8 rfl rfl rfl k1 k2 k3 k4 k5 (fun _ _ => rfl) (by omega) (by rw [pm_cat_map]; have := pm_nfw; omega) (pm_dcE hck.1) (fun H1 locs1 hP1 hD1 hS1 => ?_)
              refine hk rfl _ _ _ _ _ Hop H1 locs1 lr cells slots ?_ hS1 hl hlen hcb hsb
              have e8 : hI (sI h t (va_cpy (hI h u) (hI h t) sp.toNatClampNeg dp.toNatClampNeg n.toNatClampNeg)) t = va_cpy (hI h u) (hI h t) sp.toNatClampNeg dp.toNatClampNeg n.toNatClampNeg := va_up_self _ _ _
              have e7 : pm_ws cA (pm_ad b sz aS) (bmp (sI h t (va_cpy (hI h u) (hI h t) sp.toNatClampNeg dp.toNatClampNeg n.toNatClampNeg))) = (pm_ws cA (pm_ad b sz aS) h).set (t - 32) (pm_ad b sz aS t, .inl (cA 100, hN h t, .inl (va_cpy (hI h u) (hI h t) sp.toNatClampNeg dp.toNatClampNeg n.toNatClampNeg))) := by
                rw [← pm_ws_set (h := h) (h' := bmp (sI h t (va_cpy (hI h u) (hI h t) sp.toNatClampNeg dp.toNatClampNeg n.toNatClampNeg))) (k := t) f6 f7 rfl (fun j hj => pm_ent_congr (va_up_ne _ _ hj) rfl rfl rfl rfl)]
                congr 2
                unfold pm_ent
                rw [show hT (bmp (sI h t (va_cpy (hI h u) (hI h t) sp.toNatClampNeg dp.toNatClampNeg n.toNatClampNeg))) t = 100 from ht, if_neg (by omega)]
                congr 2
                have e6 : pm_ro (pm_ad b sz aS) (bmp (sI h t (va_cpy (hI h u) (hI h t) sp.toNatClampNeg dp.toNatClampNeg n.toNatClampNeg))) t = .inl (hI (bmp (sI h t (va_cpy (hI h u) (hI h t) sp.toNatClampNeg dp.toNatClampNeg n.toNatClampNeg))) t) := pm_ro_i (show hT h t ≠ 101 by omega) (show hT h t < 104 by omega)
                rw [e6]
                exact congrArg (fun z => (hN h t, Sum.inl z)) e8
              refine ⟨by rw [e7]; exact hP1, hr.2.1, fun q => absurd q (Nat.succ_ne_zero _), ?_, ?_⟩
              · exact pm_low hr.2.1.1 (h := bmp (sI h t (va_cpy (hI h u) (hI h t) sp.toNatClampNeg dp.toNatClampNeg n.toNatClampNeg))) (by rw [e7]; exact hP1) (Nat.le_trans hsz hS1.1)
              · show hT h 0 = 110 → hN h 0 = Ls ∧ va_up _ t _ 0 = xs
                rw [va_up_ne _ _ (Nat.ne_of_lt (Nat.lt_of_lt_of_le (by decide) f6))]; exact hr.2.2.2.2
            · exact Hop.elim
          · skip
            by_cases h7 : a = 9007
            · subst h7
              simp only [pm_ck, if_pos, Bool.and_eq_true, Nat.reduceEqDiff, if_false] at hck; obtain ⟨⟨hck1, -⟩, hck2⟩ := hck; have hck := And.intro hck1 hck2
              simp only [pm_1, if_pos, Nat.reduceEqDiff, if_false] at Hop
              split at Hop
              · rename_i n dp t sp u r
                obtain ⟨hu, ht, k1, k2, k3, k4, k5, hcat, Hop⟩ := Hop
                intro H locs lr cells slots hr hS hl hlen hcb hsb
                obtain ⟨g6, g7, g8⟩ := pm_arr (cA := cA) (ad := pm_ad b sz aS) (t := 101) hr.2.1 (by omega) (by omega) hu
                obtain ⟨f6, f7, f8⟩ := pm_arr (cA := cA) (ad := pm_ad b sz aS) (t := 101) hr.2.1 (by omega) (by omega) ht
                rw [pm_ro_l (by omega)] at g8 f8
                refine va_copyl hx hb (by rw [hml]; exact hl.1.symm) hown (hTb.it hck.2 args) (hTb.x 7 rfl args) (hTb.x 8 rfl args) (hTb.x 9 rfl args) hK0 hr.1 pm_D hS (u - 32) (t - 32) 1 1 g8 f8 rfl rfl rfl k1 k2 k3 k4 k5 (fun _ _ => rfl) (by omega) (by rw [pm_cat_map]; have := pm_nfw; omega) (pm_dcE hck.1) (fun H1 locs1 hP1 hD1 hS1 => ?_)
                refine hk rfl _ _ _ _ _ Hop H1 locs1 lr cells slots ?_ hS1 hl hlen hcb hsb
                have e8 : hL (sL h t (va_cpy (hL h u) (hL h t) sp.toNatClampNeg dp.toNatClampNeg n.toNatClampNeg)) t = va_cpy (hL h u) (hL h t) sp.toNatClampNeg dp.toNatClampNeg n.toNatClampNeg := va_up_self _ _ _
                have e7 : pm_ws cA (pm_ad b sz aS) (bmp (sL h t (va_cpy (hL h u) (hL h t) sp.toNatClampNeg dp.toNatClampNeg n.toNatClampNeg))) = (pm_ws cA (pm_ad b sz aS) h).set (t - 32) (pm_ad b sz aS t, .inl (cA 101, hN h t, .inr (.inl (va_cpy (hL h u) (hL h t) sp.toNatClampNeg dp.toNatClampNeg n.toNatClampNeg)))) := by
                  rw [← pm_ws_set (h := h) (h' := bmp (sL h t (va_cpy (hL h u) (hL h t) sp.toNatClampNeg dp.toNatClampNeg n.toNatClampNeg))) (k := t) f6 f7 rfl (fun j hj => pm_ent_congr rfl (va_up_ne _ _ hj) rfl rfl rfl)]
                  congr 2
                  unfold pm_ent
                  rw [show hT (bmp (sL h t (va_cpy (hL h u) (hL h t) sp.toNatClampNeg dp.toNatClampNeg n.toNatClampNeg))) t = 101 from ht, if_neg (by omega)]
                  congr 2
                  have e6 : pm_ro (pm_ad b sz aS) (bmp (sL h t (va_cpy (hL h u) (hL h t) sp.toNatClampNeg dp.toNatClampNeg n.toNatClampNeg))) t = .inr (.inl (hL (bmp (sL h t (va_cpy (hL h u) (hL h t) sp.toNatClampNeg dp.toNatClampNeg n.toNatClampNeg))) t)) := pm_ro_l (show hT h t = 101 from ht)
                  rw [e6]
                  exact congrArg (fun z => (hN h t, Sum.inr (Sum.inl z))) e8
                refine ⟨by rw [e7]; exact hP1, hr.2.1, fun q => absurd q (Nat.succ_ne_zero _), ?_, ?_⟩
                · exact pm_low hr.2.1.1 (h := bmp (sL h t (va_cpy (hL h u) (hL h t) sp.toNatClampNeg dp.toNatClampNeg n.toNatClampNeg))) (by rw [e7]; exact hP1) (Nat.le_trans hsz hS1.1)
                · show hT h 0 = 110 → hN h 0 = Ls ∧ hI h 0 = xs
                  exact hr.2.2.2.2
              · exact Hop.elim
            · skip
              exact hhard (by simp [pm_hard, h3, h4, h5, h6, h7])
  | invokevirtual ix =>
    exact hhard rfl
  | ireturn =>
    exact hhard rfl
  | lreturn =>
    exact hhard rfl
  | areturn =>
    exact hhard rfl
  | return_ =>
    exact hhard rfl
  | newarray t =>
    simp only [pm_ck, Bool.and_eq_true, decide_eq_true_eq] at hck
    simp only [pm_1] at Hop
    obtain ⟨⟨g1, g2⟩, g3⟩ := hck
    split at Hop
    · rename_i n r
      obtain ⟨hx0, k1, k2, k3, k4, Hop⟩ := Hop
      intro H locs lr cells slots hr hS hl hlen hcb hsb
      have hw : (Cond.arrayClass (newarray.typeOf t)).before args s = true := by
        cases t <;> first | exact hTb.x 12 rfl args | exact hTb.x 13 rfl args | exact hTb.x 14 rfl args | exact hTb.x 15 rfl args | (simp [pm_at] at g1; omega)
      exact pm_newa hx hb hK0 hr hS hx0 g1 g2 hw k1 k2 (by omega) (by omega) (pm_dcE g3) (fun H1 hr1 hS1 => hk rfl _ _ _ _ _ Hop H1 locs lr _ _ hr1 hS1 hl hlen (by omega) (by omega))
    · exact Hop.elim
  | multianewarray ix k2 =>
    simp only [pm_ck] at hck
    simp only [pm_1] at Hop
    simp only [Bool.and_eq_true, Bool.or_eq_true, decide_eq_true_eq] at hck
    obtain ⟨⟨g1, g2⟩, g3⟩ := hck
    subst g1
    split at Hop
    · rename_i mm n r
      obtain ⟨hx0, k1, k2, k3, k4, k5, k6, Hop⟩ := Hop
      intro H locs lr cells slots hr hS hl hlen hcb hsb
      rcases g2 with ⟨⟨g4, g5⟩, g6⟩ | ⟨⟨g4, g5⟩, g6⟩
      · subst g4
        subst g5
        exact pm_mna (ty := .int) hx hb hown hK0 hr hS hx0 (by decide) (by decide) (hTb.it g6 args) hCs.2.2.2.2.1 (hTb.x 12 rfl args) (k0 := 4) (k1 := 0) rfl rfl (fun q => q) k1 k2 k3 k4 (by decide) rfl rfl (fun cc => (arrV_new _ _ _).trans rfl) (by omega) (by omega) (pm_dcE g3) (fun H1 hr1 hS1 => hk rfl _ _ _ _ _ Hop H1 locs lr _ _ hr1 hS1 hl hlen (by omega) (by omega))
      · subst g4
        subst g5
        exact pm_mna (ty := .long) hx hb hown hK0 hr hS hx0 (by decide) (by decide) (hTb.it g6 args) hCs.2.2.2.2.2.1 (hTb.x 13 rfl args) (k0 := 5) (k1 := 1) rfl rfl (fun q => q) k1 k2 k3 k4 (by decide) rfl rfl (fun cc => (arrV_new _ _ _).trans rfl) (by omega) (by omega) (pm_dcE g3) (fun H1 hr1 hS1 => hk rfl _ _ _ _ _ Hop H1 locs lr _ _ hr1 hS1 hl hlen (by omega) (by omega))
    · exact Hop.elim
  | new ix =>
    by_cases h0 : c9 = 0
    · subst h0
      simp only [pm_ck, if_true, Bool.and_eq_true, decide_eq_true_eq] at hck
      simp only [pm_1, if_true] at Hop
      obtain ⟨⟨⟨⟨⟨g1, g2⟩, g3⟩, g4⟩, g5⟩, g6⟩ := hck
      subst g2
      obtain ⟨hx0, k1, k2, Hop⟩ := Hop
      intro H locs lr cells slots hr hS hl hlen hcb hsb
      exact pm_newc hx hb hown hTb hK0 hr hS hx0 g1 g3 g4 g5 (by omega) (by omega) (pm_dcE g6) (fun H1 hr1 hS1 => hk rfl _ _ _ _ _ Hop H1 locs lr _ _ hr1 hS1 hl hlen (by omega) (by omega))
    · exact hhard (by simp [pm_hard, h0])
  | _ => exact absurd hck (by simp [pm_ck])
end POM
