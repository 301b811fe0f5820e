/-! ===== length() and charAt(k) of the written texts ===== -/
def sv_w : List Cond := [.initialized RJ0, .initialized RJ1, .initialized RJ3, .instanceMethod yJ0_length_8abf5, .selects RJ0 yJ0_length_8abf5 yJ0_length_8abf5, .code yJ0_length_8abf5 cJ0_length_8abf5 1 (some .int), .methodLink RJ0 335 yJ0_coder_7d493, .instanceMethod yJ0_coder_7d493, .selects RJ0 yJ0_coder_7d493 yJ0_coder_7d493, .code yJ0_coder_7d493 cJ0_coder_7d493 1 (some .byte),
  .fieldLink RJ0 38 "java/lang/String" "COMPACT_STRINGS" "Z", .instanceMethod yJ0_charAt_5068e, .selects RJ0 yJ0_charAt_5068e yJ0_charAt_5068e, .code yJ0_charAt_5068e cJ0_charAt_5068e 2 (some .char), .methodLink RJ0 492 yJ0_isLatin1_aae02, .instanceMethod yJ0_isLatin1_aae02, .selects RJ0 yJ0_isLatin1_aae02 yJ0_isLatin1_aae02, .code yJ0_isLatin1_aae02 cJ0_isLatin1_aae02 1 (some .boolean),
  .methodLink RJ0 495 yJ1_charAt_3b067, .static yJ1_charAt_3b067, .code yJ1_charAt_3b067 cJ1_charAt_3b067 2 (some .char), .methodLink RJ1 9 yJ0_checkIndex_df160, .static yJ0_checkIndex_df160, .code yJ0_checkIndex_df160 cJ0_checkIndex_df160 2 none, .fieldLink RJ0 1053 "jdk/internal/util/Preconditions" "SIOOBE_FORMATTER" "Ljava/util/function/BiFunction;", .methodLink RJ0 1059 yJ3_checkIndex_8e157, .static yJ3_checkIndex_8e157, .code yJ3_checkIndex_8e157 cJ3_checkIndex_8e157 3 (some .int),
  .fieldLink RJ0 9 "java/lang/String" "value" "[B", .fieldLink RJ0 15 "java/lang/String" "coder" "B"]
theorem sv_w_ok : sv_w.all (fun w => decide (w ∈ lw_tbl) && pm_pw w) = true := by decide +kernel
theorem pm_Tb.v {U : State} (h : pm_Tb U) (i : Nat) {w : Cond} (hi : sv_w[i]? = some w) (a : Array Value) : w.before a U = true := by
  have h1 := List.all_eq_true.mp sv_w_ok w (List.mem_of_getElem? hi)
  simp only [Bool.and_eq_true, decide_eq_true_eq] at h1
  exact h w h1.1 h1.2 a
def sv_P (b sz Ls : Nat) (aS : Nat → Nat) (xs : Nat → Int32) (vs : List Value) : Array Value → State → Prop := fun v U => v = vs.toArray ∧ pm_Tb U ∧ pm_Cst b sz aS Ls xs U U.heap
def sv_Q (r : Option Value) : Array Value → State → Outcome → State → Prop := fun _ st o t => o = .returned r ∧ t.heap = st.heap
theorem sv_blind {b sz Ls : Nat} {aS : Nat → Nat} {xs : Nat → Int32} {vs : List Value} : FrameBlind (sv_P b sz Ls aS xs vs) := by
  intro a U g mk ⟨h1, h2, h3⟩
  have hW : U.WarmedH (U.calling g mk a).vm := State.WarmedH.refl U
  exact ⟨h1, h2.warm hW, h3.to (locs := []) hW va_S.rf⟩
theorem sv_n {y : MethodName} {n : Nat} (h : (parseMethodDescriptor y.desc).map (fun d => d.parameters.length) = some n) : ∀ sig, parseMethodDescriptor y.desc = some sig → n = sig.parameters.length := by
  intro sig q
  rw [q] at h
  exact (Option.some.inj h).symm
section SVS
variable {l : Launch} {b sz Ls : Nat} {aS : Nat → Nat} {xs : Nat → Int32}
section SVC
variable {p : Program} {e : Env} {R : Room} {s : State} {m : MethodId} {args : Array Value} {below : List Frame} {meth : Method} {c : Code} {H : Heap} {locs : List Loc} {cells slots : Nat} {Z : State → Prop}
variable {cc bytes : ByteArray} {pc ix maxL nL n f9 n9 : Nat} {lr : Array Slot} {rest As : List Value} {y : MethodName} {own : String} {r : Option Value} {ret : Option FieldType}
theorem sv_begin (hTb : pm_Tb s) (hCs : pm_Cst b sz aS Ls xs s s.heap) (hS : va_S (fun q => sz ≤ q) s.heap H locs) (vs : List Value) : ∀ U : State, U.heap = H → s.WarmedH U.vm → sv_P b sz Ls aS xs vs vs.toArray U :=
  fun U hU hW => ⟨rfl, hTb.warm hW, by rw [hU]; exact hCs.to hW hS⟩
theorem sv_go {g : JFrame} {a : Array Value} (hr : CallRun p l e R s m args below meth c H locs cells slots 0 0 g rest (sv_Q r a) (fun _ => False)) (kk : W p l e R s m args below meth c H locs cells slots Z { g with pc := g.pc + 3, stack := r.toList ++ rest }) : W p l e R s m args below meth c H locs cells slots Z g := by
  intro T hT X
  obtain ⟨v, st₀, t, T', L, h0, X', hL, e1, ⟨hv, hh⟩, st⟩ := hr T hT X
  cases hv
  obtain ⟨t2, a1, b1⟩ := kk T' (by rw [e1, hh, h0]) (Stand.forget X' (fun q h => (hL q h).elim))
  exact ⟨t2, st t2 a1, b1⟩
theorem sv_callS (hx : p.tables.exec = Jvm.exec) (hb : c.code = cc) (hml : c.maxLocals = nL) (hown : s.vm.findClass own = some m.cls) (hTb : pm_Tb s) (hCs : pm_Cst b sz aS Ls xs s s.heap) (hS : va_S (fun q => sz ≤ q) s.heap H locs)
    (hM : Met l y [.code y bytes maxL ret] (k2_rm f9 n9) (sv_P b sz Ls aS xs As) (sv_Q r) 0 0 (fun _ => False)) (hf : f9 + 1 ≤ R.frames) (hlo : 8 + (maxL + 11) + n9 ≤ R.locals)
    (w1 : ∀ (a : Array Value) (U : State), pm_Tb U → (Cond.code y bytes maxL ret).before a U = true) (w2 : (Cond.initialized y.cls).before args s = true) (hd : y.cls ≠ "java/lang/invoke/MethodHandle" ∧ y.cls ≠ "java/lang/invoke/VarHandle") (hn : (parseMethodDescriptor y.desc).map (fun d => d.parameters.length) = some As.length) (w3 : (Cond.methodLink own ix y).before args s = true) (w4 : (Cond.static y).before args s = true)
    (hlr : lr.size = nL) (hcat : (rest.map fun v => v.category).sum ≤ 8) (hdg : decode cc pc = .ok (.invokestatic ix, 3)) (hc : cells ≤ R.cells ∧ slots ≤ R.slots)
    (kk : W p l e R s m args below meth c H locs cells slots Z (F0 m (pc + 3) lr (r.toList ++ rest))) : W p l e R s m args below meth c H locs cells slots Z (F0 m pc lr (As.reverse ++ rest)) := by
  refine sv_go (W.runS (Ts := []) (n := As.length) ⟨hx, hb, hml, hown, fun w hw => by cases hw⟩ hM ⟨⟨rfl, rfl, hf, hlo, fun w hw a' U hW => by rw [List.mem_singleton.mp hw]; exact w1 a' U (hTb.warm hW), List.mem_singleton.mpr rfl, w1 _ _ hTb, w2, hd, sv_n hn, w3⟩, w4⟩ ⟨sv_blind, sv_begin hTb hCs hS As⟩ rfl rfl hlr rfl (lv_room hcat) hdg hc) kk
theorem sv_callV {C : String} {q : Nat} (hx : p.tables.exec = Jvm.exec) (hb : c.code = cc) (hml : c.maxLocals = nL) (hown : s.vm.findClass own = some m.cls) (hTb : pm_Tb s) (hCs : pm_Cst b sz aS Ls xs s s.heap) (hS : va_S (fun q => sz ≤ q) s.heap H locs)
    (hM : Met l y [.code y bytes maxL ret] (k2_rm f9 n9) (sv_P b sz Ls aS xs (.ref q :: As)) (sv_Q r) 0 0 (fun _ => False)) (hf : f9 + 1 ≤ R.frames) (hlo : 8 + (maxL + 11) + n9 ≤ R.locals)
    (w1 : ∀ (a : Array Value) (U : State), pm_Tb U → (Cond.code y bytes maxL ret).before a U = true) (w2 : (Cond.initialized y.cls).before args s = true) (hd : y.cls ≠ "java/lang/invoke/MethodHandle" ∧ y.cls ≠ "java/lang/invoke/VarHandle") (hn : (parseMethodDescriptor y.desc).map (fun d => d.parameters.length) = some As.length) (w3 : (Cond.methodLink own ix y).before args s = true) (w4 : (Cond.instanceMethod y).before args s = true) (w5 : (Cond.selects C y y).before args s = true)
    (hrec : va_O C q (fun q => sz ≤ q) s s.heap) (hlr : lr.size = nL) (hcat : (rest.map fun v => v.category).sum ≤ 8) (hdg : decode cc pc = .ok (.invokevirtual ix, 3)) (hc : cells ≤ R.cells ∧ slots ≤ R.slots)
    (kk : W p l e R s m args below meth c H locs cells slots Z (F0 m (pc + 3) lr (r.toList ++ rest))) : W p l e R s m args below meth c H locs cells slots Z (F0 m pc lr (As.reverse ++ .ref q :: rest)) := by
  obtain ⟨cell, h1, h2, h3, -⟩ := hrec.kept hS.2.1
  refine sv_go (W.runV (Ts := []) (n := As.length) ⟨hx, hb, hml, hown, fun w hw => by cases hw⟩ hM ⟨⟨rfl, rfl, hf, hlo, fun w hw a' U hW => by rw [List.mem_singleton.mp hw]; exact w1 a' U (hTb.warm hW), List.mem_singleton.mpr rfl, w1 _ _ hTb, w2, hd, sv_n hn, w3⟩, w4, w5⟩ ⟨sv_blind, ⟨cell, h1, h2, h3⟩, sv_begin hTb hCs hS (.ref q :: As)⟩ rfl rfl hlr rfl (lv_room hcat) hdg hc) kk
end SVC
theorem sv_dec : decode cJ0_length_8abf5 0 = .ok (.aload_n 0, 1) ∧ decode cJ0_length_8abf5 1 = .ok (.getfield 9, 3) ∧ decode cJ0_length_8abf5 4 = .ok (.arraylength, 1) ∧ decode cJ0_length_8abf5 5 = .ok (.aload_n 0, 1) ∧ decode cJ0_length_8abf5 6 = .ok (.invokevirtual 335, 3) ∧ decode cJ0_length_8abf5 9 = .ok (.ishr, 1) ∧ decode cJ0_length_8abf5 10 = .ok (.ireturn, 1) := by decide +kernel
theorem sv_dec2 : decode cJ0_coder_7d493 0 = .ok (.getstatic 38, 3) ∧ decode cJ0_coder_7d493 3 = .ok (.ifCond .eq 10, 3) ∧ decode cJ0_coder_7d493 6 = .ok (.aload_n 0, 1) ∧ decode cJ0_coder_7d493 7 = .ok (.getfield 15, 3) ∧ decode cJ0_coder_7d493 10 = .ok (.goto 4, 3) ∧ decode cJ0_coder_7d493 14 = .ok (.ireturn, 1) := by decide +kernel
theorem sv_dec3 : decode cJ0_charAt_5068e 0 = .ok (.aload_n 0, 1) ∧ decode cJ0_charAt_5068e 1 = .ok (.invokevirtual 492, 3) ∧ decode cJ0_charAt_5068e 4 = .ok (.ifCond .eq 12, 3) ∧ decode cJ0_charAt_5068e 7 = .ok (.aload_n 0, 1) ∧ decode cJ0_charAt_5068e 8 = .ok (.getfield 9, 3) ∧ decode cJ0_charAt_5068e 11 = .ok (.iload_n 1, 1) ∧ decode cJ0_charAt_5068e 12 = .ok (.invokestatic 495, 3) ∧ decode cJ0_charAt_5068e 15 = .ok (.ireturn, 1) := by decide +kernel
theorem sv_dec4 : decode cJ0_isLatin1_aae02 0 = .ok (.getstatic 38, 3) ∧ decode cJ0_isLatin1_aae02 3 = .ok (.ifCond .eq 14, 3) ∧ decode cJ0_isLatin1_aae02 6 = .ok (.aload_n 0, 1) ∧ decode cJ0_isLatin1_aae02 7 = .ok (.getfield 15, 3) ∧ decode cJ0_isLatin1_aae02 10 = .ok (.ifCond .ne 7, 3) ∧ decode cJ0_isLatin1_aae02 13 = .ok (.iconst 1, 1) ∧ decode cJ0_isLatin1_aae02 14 = .ok (.goto 4, 3) ∧ decode cJ0_isLatin1_aae02 18 = .ok (.ireturn, 1) := by decide +kernel
theorem sv_dec5 : decode cJ1_charAt_3b067 0 = .ok (.iload_n 1, 1) ∧ decode cJ1_charAt_3b067 1 = .ok (.aload_n 0, 1) ∧ decode cJ1_charAt_3b067 2 = .ok (.arraylength, 1) ∧ decode cJ1_charAt_3b067 3 = .ok (.invokestatic 9, 3) ∧ decode cJ1_charAt_3b067 6 = .ok (.aload_n 0, 1) ∧ decode cJ1_charAt_3b067 7 = .ok (.iload_n 1, 1) ∧ decode cJ1_charAt_3b067 8 = .ok (.baload, 1) ∧ decode cJ1_charAt_3b067 9 = .ok (.sipush 255, 3) ∧ decode cJ1_charAt_3b067 12 = .ok (.iand, 1) ∧ decode cJ1_charAt_3b067 13 = .ok (.i2c, 1) ∧ decode cJ1_charAt_3b067 14 = .ok (.ireturn, 1) := by decide +kernel
theorem sv_dec6 : decode cJ0_checkIndex_df160 0 = .ok (.iload_n 0, 1) ∧ decode cJ0_checkIndex_df160 1 = .ok (.iload_n 1, 1) ∧ decode cJ0_checkIndex_df160 2 = .ok (.getstatic 1053, 3) ∧ decode cJ0_checkIndex_df160 5 = .ok (.invokestatic 1059, 3) ∧ decode cJ0_checkIndex_df160 8 = .ok (.pop, 1) ∧ decode cJ0_checkIndex_df160 9 = .ok (.return_, 1) := by decide +kernel
theorem sv_dec7 : decode cJ3_checkIndex_8e157 0 = .ok (.iload_n 0, 1) ∧ decode cJ3_checkIndex_8e157 1 = .ok (.ifCond .lt 8, 3) ∧ decode cJ3_checkIndex_8e157 4 = .ok (.iload_n 0, 1) ∧ decode cJ3_checkIndex_8e157 5 = .ok (.iload_n 1, 1) ∧ decode cJ3_checkIndex_8e157 6 = .ok (.if_icmp .lt 10, 3) ∧ decode cJ3_checkIndex_8e157 16 = .ok (.iload_n 0, 1) ∧ decode cJ3_checkIndex_8e157 17 = .ok (.ireturn, 1) := by decide +kernel
set_option maxRecDepth 20000 in
theorem sv_check3 {k n : Nat} (hk : k < n) (hn : n < 2 ^ 31) {v : Value} (hv : v = .null ∨ ∃ t, v = .ref t) : Met l yJ3_checkIndex_8e157 [.code yJ3_checkIndex_8e157 cJ3_checkIndex_8e157 3 (some .int)] (k2_rm 0 0) (sv_P b sz Ls aS xs [.int (nI k), .int (nI n), v]) (sv_Q (some (.int (nI k)))) 0 0 (fun _ => False) := by
  refine Met.ofW (cc := cJ3_checkIndex_8e157) (maxL := 3) (ret := some .int) (by decide) rfl ?_
  intro p e s m args below meth c s₁ B hml hv9
  obtain ⟨rfl, hTb, hCs⟩ := hv9
  have hx := B.exec
  have hb := B.bytes
  have hr := B.returns
  have hlocks := B.notSynchronized
  obtain ⟨d0, d1, d4, d5, d6, d16, d17⟩ := sv_dec7
  have hlen : (lg_sl [Value.int (nI k), .int (nI n), v]).length ≤ 3 := by rcases hv with rfl | ⟨t, rfl⟩ <;> exact Nat.le_of_ble_eq_true rfl
  have hl := lv_entry ([.int (nI k), .int (nI n), v]) (n := 3) hlen
  rw [lg_entry_eq]
  generalize (lg_sl ([.int (nI k), .int (nI n), v]) ++ List.replicate (3 - (lg_sl ([.int (nI k), .int (nI n), v])).length) Slot.unset).toArray = ls at hl ⊢
  have h0 : ls[0]? = some (.val (.int (nI k))) := lv_at hl 0 rfl
  have h1 : ls[1]? = some (.val (.int (nI n))) := lv_at hl 1 rfl
  refine lv_iload_n hx hb d0 rfl h0 ?_
  refine lv_if_lt (tgt := 9) hx hb d1 (by decide) (fun q => absurd q (nI_pos (by omega))) (fun _ => ?_)
  refine lv_iload_n hx hb d4 rfl h0 ?_
  refine lv_iload_n hx hb d5 rfl h1 ?_
  refine lv_icmp_lt (tgt := 16) hx hb d6 (by decide) (fun _ => ?_) (fun q => absurd (nI_lt hk hn) q)
  refine lv_iload_n hx hb d16 rfl h0 ?_
  exact W.iret hx hb hr (fun t ht _ => ⟨rfl, ht⟩) (fun q hq => by cases hq) d17
set_option maxRecDepth 20000 in
theorem sv_check0 {k n : Nat} (hk : k < n) (hn : n < 2 ^ 31) : Met l yJ0_checkIndex_df160 [.code yJ0_checkIndex_df160 cJ0_checkIndex_df160 2 none] (k2_rm 1 30) (sv_P b sz Ls aS xs [.int (nI k), .int (nI n)]) (sv_Q none) 0 0 (fun _ => False) := by
  refine Met.ofW (cc := cJ0_checkIndex_df160) (maxL := 2) (ret := none) (by decide) rfl ?_
  intro p e s m args below meth c s₁ B hml hv9
  obtain ⟨rfl, hTb, hCs⟩ := hv9
  have hx := B.exec
  have hb := B.bytes
  have hr := B.returns
  have hlocks := B.notSynchronized
  have hown : s.vm.findClass RJ0 = some m.cls := findClass_of_methodNamed B.named
  have hS : va_S (fun q => sz ≤ q) s.heap s.heap [] := va_S.rf
  obtain ⟨d0, d1, d2, d5, d8, d9⟩ := sv_dec6
  have hl := lv_entry ([.int (nI k), .int (nI n)]) (n := 2) (Nat.le_of_ble_eq_true rfl)
  rw [lg_entry_eq]
  generalize (lg_sl ([.int (nI k), .int (nI n)]) ++ List.replicate (2 - (lg_sl ([.int (nI k), .int (nI n)])).length) Slot.unset).toArray = ls at hl ⊢
  refine lv_iload_n hx hb d0 rfl (lv_at hl 0 rfl) ?_
  refine lv_iload_n hx hb d1 rfl (lv_at hl 1 rfl) ?_
  have key : ∃ v : Value, (v = .null ∨ ∃ t, v = .ref t) ∧ va_Z "jdk/internal/util/Preconditions" "SIOOBE_FORMATTER" "Ljava/util/function/BiFunction;" v (fun q => sz ≤ q) s s.heap := by
    rcases hCs.2.2.2.2.2.2.2.2.1 with q | ⟨t, q⟩
    · exact ⟨_, Or.inl rfl, q⟩
    · exact ⟨_, Or.inr ⟨t, rfl⟩, q⟩
  obtain ⟨v, hv, hZ⟩ := key
  refine va_gets hx hb hZ hS hown (hTb.v 24 rfl _) (fun _ q => q) d2 ?_
  refine sv_callS (As := [.int (nI k), .int (nI n), v]) (rest := []) hx hb hml hown hTb hCs hS (sv_check3 hk hn hv) (Nat.le_of_ble_eq_true rfl) (Nat.le_of_ble_eq_true rfl) (fun a U q => q.v 27 rfl a) (hTb.v 2 rfl _) ⟨by decide, by decide⟩ (show _ = some 3 by decide +kernel) (hTb.v 25 rfl _) (hTb.v 26 rfl _) hl.1 (by decide) d5 ⟨Nat.zero_le _, Nat.zero_le _⟩ ?_
  refine lv_pop hx hb d8 rfl ?_
  exact W.vret hx hb hr (fun t ht _ => ⟨rfl, ht⟩) (fun q hq => by cases hq) d9
theorem sv_chars : pm_js.all (fun l => l.all (fun c => decide (c < 128))) = true := by decide +kernel
theorem sv_char (i k : Nat) : (pm_js.getD i []).getD k 0 < 128 := by
  rw [List.getD_eq_getElem?_getD (l := pm_js), List.getD_eq_getElem?_getD]
  cases hi : pm_js[i]? with
  | none => simp
  | some l =>
    have h1 := List.all_eq_true.mp (List.all_eq_true.mp sv_chars l (List.mem_of_getElem? hi))
    simp only [Option.getD_some]
    cases hk : l[k]? with
    | none => simp
    | some c => simpa using h1 c (List.mem_of_getElem? hk)
theorem sv_ch : ∀ c, c < 128 → ((nI c &&& (Int16.ofInt 255).toInt32).toUInt32 % 65536).toInt32 = nI c := by decide +kernel
theorem sv_lens : pm_js.all (fun l => decide (l.length < 1000)) = true := by decide +kernel
theorem sv_len (i : Nat) : (pm_js.getD i []).length < 1000 := by
  rw [List.getD_eq_getElem?_getD]
  cases hi : pm_js[i]? with
  | none => simp
  | some l => simpa using List.all_eq_true.mp sv_lens l (List.mem_of_getElem? hi)
set_option maxRecDepth 20000 in
theorem sv_charAt1 {i k av : Nat} (hk : k < (pm_js.getD (i - 1) []).length) : Met l yJ1_charAt_3b067 [.code yJ1_charAt_3b067 cJ1_charAt_3b067 2 (some .char)] (k2_rm 2 60) (fun v U => sv_P b sz Ls aS xs [.ref av, .int (nI k)] v U ∧ va_T .byte av (pm_js.getD (i - 1) []).length (fun j => .int (nI ((pm_js.getD (i - 1) []).getD j 0))) (fun q => sz ≤ q) U U.heap) (sv_Q (some (.int (nI ((pm_js.getD (i - 1) []).getD k 0))))) 0 0 (fun _ => False) := by
  refine Met.ofW (cc := cJ1_charAt_3b067) (maxL := 2) (ret := some .char) (by decide) rfl ?_
  intro p e s m args below meth c s₁ B hml hv9
  obtain ⟨⟨rfl, hTb, hCs⟩, hA⟩ := hv9
  have hx := B.exec
  have hb := B.bytes
  have hr := B.returns
  have hlocks := B.notSynchronized
  have hS : va_S (fun q => sz ≤ q) s.heap s.heap [] := va_S.rf
  have hown : s.vm.findClass RJ1 = some m.cls := findClass_of_methodNamed B.named
  have hlen := sv_len (i - 1)
  have hch := sv_char (i - 1) k
  obtain ⟨d0, d1, d2, d3, d6, d7, d8, d9, d12, d13, d14⟩ := sv_dec5
  have hl := lv_entry ([.ref av, .int (nI k)]) (n := 2) (Nat.le_of_ble_eq_true rfl)
  rw [lg_entry_eq]
  generalize (lg_sl ([.ref av, .int (nI k)]) ++ List.replicate (2 - (lg_sl ([.ref av, .int (nI k)])).length) Slot.unset).toArray = ls at hl ⊢
  refine lv_iload_n hx hb d0 rfl (lv_at hl 1 rfl) ?_
  refine lv_aload_n hx hb d1 rfl (lv_at hl 0 rfl) ?_
  refine va_tlen (v := nI (pm_js.getD (i - 1) []).length) hx hb hA hS rfl d2 ?_
  refine sv_callS (As := [.int (nI k), .int (nI (pm_js.getD (i - 1) []).length)]) (rest := []) hx hb hml hown hTb hCs hS (sv_check0 hk (by omega)) (Nat.le_of_ble_eq_true rfl) (Nat.le_of_ble_eq_true rfl) (fun a U q => q.v 23 rfl a) (hTb.v 0 rfl _) ⟨by decide, by decide⟩ (show _ = some 2 by decide +kernel) (hTb.v 21 rfl _) (hTb.v 22 rfl _) hl.1 (by decide) d3 ⟨Nat.zero_le _, Nat.zero_le _⟩ ?_
  refine lv_aload_n hx hb d6 rfl (lv_at hl 0 rfl) ?_
  refine lv_iload_n hx hb d7 rfl (lv_at hl 1 rfl) ?_
  refine va_tb (v := .int (nI ((pm_js.getD (i - 1) []).getD k 0))) hx hb hA hS (vp_in_nI hk (by omega)) (by rw [nI_clamp (by omega)]) d8 ?_
  refine lv_sipush hx hb d9 rfl ?_
  refine lv_iand hx hb d12 ?_
  refine lv_i2c hx hb d13 (sv_ch _ hch) ?_
  exact W.zret (ty := .char) hx hb hr (pk_charN (by omega)).1 (fun t ht _ => ⟨rfl, ht⟩) (fun q hq => by cases hq) d14
theorem sv_str {s : State} {H : Heap} {i : Nat} (hCs : pm_Cst b sz aS Ls xs s H) (h0 : 0 < i) (h1 : i ≤ 20) : ∃ av : Nat, va_O "java/lang/String" (aS i) (fun q => sz ≤ q) s H ∧ va_OF "java/lang/String" "coder" "B" (.int 0) (aS i) (fun q => sz ≤ q) s H ∧ va_OF "java/lang/String" "value" "[B" (.ref av) (aS i) (fun q => sz ≤ q) s H ∧
    va_T .byte av (pm_js.getD (i - 1) []).length (fun j => .int (nI ((pm_js.getD (i - 1) []).getD j 0))) (fun q => sz ≤ q) s H := by
  obtain ⟨av, -, g⟩ := hCs.1 i h0 h1
  exact ⟨av, g⟩
set_option maxRecDepth 20000 in
theorem sv_coder {i : Nat} (h0 : 0 < i) (h1 : i ≤ 20) : Met l yJ0_coder_7d493 [.code yJ0_coder_7d493 cJ0_coder_7d493 1 (some .byte)] (k2_rm 0 0) (sv_P b sz Ls aS xs [.ref (aS i)]) (sv_Q (some (.int 0))) 0 0 (fun _ => False) := by
  refine Met.ofW (cc := cJ0_coder_7d493) (maxL := 1) (ret := some .byte) (by decide) rfl ?_
  intro p e s m args below meth c s₁ B hml hv9
  obtain ⟨rfl, hTb, hCs⟩ := hv9
  have hx := B.exec
  have hb := B.bytes
  have hr := B.returns
  have hlocks := B.notSynchronized
  have hS : va_S (fun q => sz ≤ q) s.heap s.heap [] := va_S.rf
  have hown : s.vm.findClass RJ0 = some m.cls := findClass_of_methodNamed B.named
  obtain ⟨d0, d3, d6, d7, d10, d14⟩ := sv_dec2
  obtain ⟨av, g1, g2, g3, g4⟩ := sv_str hCs h0 h1
  have hl := lv_entry ([.ref (aS i)]) (n := 1) (Nat.le_of_ble_eq_true rfl)
  rw [lg_entry_eq]
  generalize (lg_sl ([.ref (aS i)]) ++ List.replicate (1 - (lg_sl ([.ref (aS i)])).length) Slot.unset).toArray = ls at hl ⊢
  refine va_gets hx hb hCs.2.2.2.1 hS hown (hTb.v 10 rfl _) (fun _ q => q) d0 ?_
  refine lv_if_eq (tgt := 13) hx hb d3 (by decide) (fun q => absurd q (by decide)) (fun _ => ?_)
  refine lv_aload_n hx hb d6 rfl (lv_at hl 0 rfl) ?_
  refine vk_getf hx hb g2 hS hown (hTb.v 29 rfl _) (fun _ q => q) d7 ?_
  refine lv_goto (tgt := 14) hx hb d10 (by decide) ?_
  exact W.zret (ty := .byte) hx hb hr rfl (fun t ht _ => ⟨rfl, ht⟩) (fun q hq => by cases hq) d14
set_option maxRecDepth 20000 in
theorem sv_latin {i : Nat} (h0 : 0 < i) (h1 : i ≤ 20) : Met l yJ0_isLatin1_aae02 [.code yJ0_isLatin1_aae02 cJ0_isLatin1_aae02 1 (some .boolean)] (k2_rm 0 0) (sv_P b sz Ls aS xs [.ref (aS i)]) (sv_Q (some (.int 1))) 0 0 (fun _ => False) := by
  refine Met.ofW (cc := cJ0_isLatin1_aae02) (maxL := 1) (ret := some .boolean) (by decide) rfl ?_
  intro p e s m args below meth c s₁ B hml hv9
  obtain ⟨rfl, hTb, hCs⟩ := hv9
  have hx := B.exec
  have hb := B.bytes
  have hr := B.returns
  have hlocks := B.notSynchronized
  have hS : va_S (fun q => sz ≤ q) s.heap s.heap [] := va_S.rf
  have hown : s.vm.findClass RJ0 = some m.cls := findClass_of_methodNamed B.named
  obtain ⟨d0, d3, d6, d7, d10, d13, d14, d18⟩ := sv_dec4
  obtain ⟨av, g1, g2, g3, g4⟩ := sv_str hCs h0 h1
  have hl := lv_entry ([.ref (aS i)]) (n := 1) (Nat.le_of_ble_eq_true rfl)
  rw [lg_entry_eq]
  generalize (lg_sl ([.ref (aS i)]) ++ List.replicate (1 - (lg_sl ([.ref (aS i)])).length) Slot.unset).toArray = ls at hl ⊢
  refine va_gets hx hb hCs.2.2.2.1 hS hown (hTb.v 10 rfl _) (fun _ q => q) d0 ?_
  refine lv_if_eq (tgt := 17) hx hb d3 (by decide) (fun q => absurd q (by decide)) (fun _ => ?_)
  refine lv_aload_n hx hb d6 rfl (lv_at hl 0 rfl) ?_
  refine vk_getf hx hb g2 hS hown (hTb.v 29 rfl _) (fun _ q => q) d7 ?_
  refine lv_if_ne (tgt := 17) hx hb d10 (by decide) (fun q => absurd rfl q) (fun _ => ?_)
  refine lv_iconst (v := 1) hx hb d13 (by decide) ?_
  refine lv_goto (tgt := 18) hx hb d14 (by decide) ?_
  exact W.zret (ty := .boolean) hx hb hr rfl (fun t ht _ => ⟨rfl, ht⟩) (fun q hq => by cases hq) d18
set_option maxRecDepth 20000 in
theorem sv_length {i : Nat} (h0 : 0 < i) (h1 : i ≤ 20) : Met l yJ0_length_8abf5 [.code yJ0_length_8abf5 cJ0_length_8abf5 1 (some .int)] (k2_rm 1 30) (sv_P b sz Ls aS xs [.ref (aS i)]) (sv_Q (some (.int (nI (pm_js.getD (i - 1) []).length)))) 0 0 (fun _ => False) := by
  refine Met.ofW (cc := cJ0_length_8abf5) (maxL := 1) (ret := some .int) (by decide) rfl ?_
  intro p e s m args below meth c s₁ B hml hv9
  obtain ⟨rfl, hTb, hCs⟩ := hv9
  have hx := B.exec
  have hb := B.bytes
  have hr := B.returns
  have hlocks := B.notSynchronized
  have hS : va_S (fun q => sz ≤ q) s.heap s.heap [] := va_S.rf
  have hown : s.vm.findClass RJ0 = some m.cls := findClass_of_methodNamed B.named
  obtain ⟨d0, d1, d4, d5, d6, d9, d10⟩ := sv_dec
  obtain ⟨av, g1, g2, g3, g4⟩ := sv_str hCs h0 h1
  have hlen := sv_len (i - 1)
  have hl := lv_entry ([.ref (aS i)]) (n := 1) (Nat.le_of_ble_eq_true rfl)
  rw [lg_entry_eq]
  generalize (lg_sl ([.ref (aS i)]) ++ List.replicate (1 - (lg_sl ([.ref (aS i)])).length) Slot.unset).toArray = ls at hl ⊢
  refine lv_aload_n hx hb d0 rfl (lv_at hl 0 rfl) ?_
  refine vk_getf hx hb g3 hS hown (hTb.v 28 rfl _) (fun _ q => q) d1 ?_
  refine va_tlen (v := nI (pm_js.getD (i - 1) []).length) hx hb g4 hS rfl d4 ?_
  refine lv_aload_n hx hb d5 rfl (lv_at hl 0 rfl) ?_
  refine sv_callV (As := []) (rest := [.int (nI (pm_js.getD (i - 1) []).length)]) hx hb hml hown hTb hCs hS (sv_coder h0 h1) (Nat.le_of_ble_eq_true rfl) (Nat.le_of_ble_eq_true rfl) (fun a U q => q.v 9 rfl a) (hTb.v 0 rfl _) ⟨by decide, by decide⟩ (by decide +kernel) (hTb.v 6 rfl _) (hTb.v 7 rfl _) (hTb.v 8 rfl _) g1 hl.1 (Nat.le_of_ble_eq_true rfl) d6 ⟨Nat.zero_le _, Nat.zero_le _⟩ ?_
  refine lv_ishr hx hb d9 ?_
  have e9 : nI (pm_js.getD (i - 1) []).length >>> ((0 : Int32) &&& 31) = nI (pm_js.getD (i - 1) []).length := by
    rw [pk_shrN (by omega) _ 0 (by decide)]
    simp
  rw [e9]
  exact W.iret hx hb hr (fun t ht _ => ⟨rfl, ht⟩) (fun q hq => by cases hq) d10
set_option maxRecDepth 20000 in
theorem sv_charAt {i k : Nat} (h0 : 0 < i) (h1 : i ≤ 20) (hk : k < (pm_js.getD (i - 1) []).length) : Met l yJ0_charAt_5068e [.code yJ0_charAt_5068e cJ0_charAt_5068e 2 (some .char)] (k2_rm 3 90) (sv_P b sz Ls aS xs [.ref (aS i), .int (nI k)]) (sv_Q (some (.int (nI ((pm_js.getD (i - 1) []).getD k 0))))) 0 0 (fun _ => False) := by
  refine Met.ofW (cc := cJ0_charAt_5068e) (maxL := 2) (ret := some .char) (by decide) rfl ?_
  intro p e s m args below meth c s₁ B hml hv9
  obtain ⟨rfl, hTb, hCs⟩ := hv9
  have hx := B.exec
  have hb := B.bytes
  have hr := B.returns
  have hlocks := B.notSynchronized
  have hS : va_S (fun q => sz ≤ q) s.heap s.heap [] := va_S.rf
  have hown : s.vm.findClass RJ0 = some m.cls := findClass_of_methodNamed B.named
  obtain ⟨d0, d1, d4, d7, d8, d11, d12, d15⟩ := sv_dec3
  obtain ⟨av, g1, g2, g3, g4⟩ := sv_str hCs h0 h1
  have hlen := sv_len (i - 1)
  have hch := sv_char (i - 1) k
  have hl := lv_entry ([.ref (aS i), .int (nI k)]) (n := 2) (Nat.le_of_ble_eq_true rfl)
  rw [lg_entry_eq]
  generalize (lg_sl ([.ref (aS i), .int (nI k)]) ++ List.replicate (2 - (lg_sl ([.ref (aS i), .int (nI k)])).length) Slot.unset).toArray = ls at hl ⊢
  refine lv_aload_n hx hb d0 rfl (lv_at hl 0 rfl) ?_
  refine sv_callV (As := []) (rest := []) hx hb hml hown hTb hCs hS (sv_latin h0 h1) (Nat.le_of_ble_eq_true rfl) (Nat.le_of_ble_eq_true rfl) (fun a U q => q.v 17 rfl a) (hTb.v 0 rfl _) ⟨by decide, by decide⟩ (by decide +kernel) (hTb.v 14 rfl _) (hTb.v 15 rfl _) (hTb.v 16 rfl _) g1 hl.1 (Nat.le_of_ble_eq_true rfl) d1 ⟨Nat.zero_le _, Nat.zero_le _⟩ ?_
  refine lv_if_eq (tgt := 16) hx hb d4 (by decide) (fun q => absurd q (by decide)) (fun _ => ?_)
  refine lv_aload_n hx hb d7 rfl (lv_at hl 0 rfl) ?_
  refine vk_getf hx hb g3 hS hown (hTb.v 28 rfl _) (fun _ q => q) d8 ?_
  refine lv_iload_n hx hb d11 rfl (lv_at hl 1 rfl) ?_
  refine sv_go (r := some (.int (nI ((pm_js.getD (i - 1) []).getD k 0)))) (rest := []) (W.runS (Ts := []) (As := [.ref av, .int (nI k)]) (n := 2) ⟨hx, hb, hml, hown, fun w hw => by cases hw⟩ (sv_charAt1 (i := i) (av := av) hk) ⟨⟨rfl, rfl, Nat.le_of_ble_eq_true rfl, Nat.le_of_ble_eq_true rfl, fun w hw a' U hW => by rw [List.mem_singleton.mp hw]; exact (hTb.warm hW).v 20 rfl a', List.mem_singleton.mpr rfl, hTb.v 20 rfl _, hTb.v 1 rfl _, ⟨by decide, by decide⟩, sv_n (by decide +kernel), hTb.v 18 rfl _⟩, hTb.v 19 rfl _⟩
    ⟨fun a U g mk q => ⟨sv_blind a U g mk q.1, va_T.moved (State.WarmedH.refl U).alike q.2⟩, fun U hU hW => ⟨sv_begin hTb hCs hS _ U hU hW, by rw [hU]; exact va_T.moved hW.alike g4⟩⟩ rfl rfl hl.1 rfl (lv_room (by decide)) d12 ⟨Nat.zero_le _, Nat.zero_le _⟩) ?_
  exact W.zret (ty := .char) hx hb hr (pk_charN (by omega)).1 (fun t ht _ => ⟨rfl, ht⟩) (fun q hq => by cases hq) d15
end SVS
