/-! ===== THE START: the law's entry ===== -/
def lw_fl : List Cond := flatC (Jvm.Cond.and given_1 narrow_1)
def st_tm (i : Nat) : Term := .string (stO i).1 (stO i).2.1
def st_va (i : Nat) : Term := .field (st_tm i) "java/lang/String" "value" "[B"
def st_by (i : Nat) : List Int32 := (pm_js.getD (i - 1) []).map nI
def st_c (i : Nat) : List Cond := [.exactly (st_tm i) "java/lang/String", .eq (.field (st_tm i) "java/lang/String" "coder" "B") (.int 0), .arrayOf (st_va i) .byte, .eq (.length (st_va i)) (.int (Int32.ofNat (pm_js.getD (i - 1) []).length))] ++
  (List.range (pm_js.getD (i - 1) []).length).map (fun j => .eq (.elem (st_va i) (.int (Int32.ofNat j))) (.int ((st_by i).getD j 0)))
theorem st_c_1 : (lw_fl.drop 67).take 23 = st_c 1 := by decide +kernel
theorem st_c_2 : (lw_fl.drop 90).take 9 = st_c 2 := by decide +kernel
theorem st_c_3 : (lw_fl.drop 100).take 8 = st_c 3 := by decide +kernel
theorem st_c_4 : (lw_fl.drop 110).take 7 = st_c 4 := by decide +kernel
theorem st_c_5 : (lw_fl.drop 120).take 8 = st_c 5 := by decide +kernel
theorem st_c_6 : (lw_fl.drop 132).take 8 = st_c 6 := by decide +kernel
theorem st_c_7 : (lw_fl.drop 145).take 8 = st_c 7 := by decide +kernel
theorem st_c_8 : (lw_fl.drop 159).take 9 = st_c 8 := by decide +kernel
theorem st_c_9 : (lw_fl.drop 175).take 8 = st_c 9 := by decide +kernel
theorem st_c_10 : (lw_fl.drop 191).take 17 = st_c 10 := by decide +kernel
theorem st_c_11 : (lw_fl.drop 217).take 11 = st_c 11 := by decide +kernel
theorem st_c_12 : (lw_fl.drop 238).take 22 = st_c 12 := by decide +kernel
theorem st_c_13 : (lw_fl.drop 271).take 8 = st_c 13 := by decide +kernel
theorem st_c_14 : (lw_fl.drop 291).take 7 = st_c 14 := by decide +kernel
theorem st_c_15 : (lw_fl.drop 311).take 8 = st_c 15 := by decide +kernel
theorem st_c_16 : (lw_fl.drop 333).take 8 = st_c 16 := by decide +kernel
theorem st_c_17 : (lw_fl.drop 356).take 9 = st_c 17 := by decide +kernel
theorem st_c_18 : (lw_fl.drop 381).take 8 = st_c 18 := by decide +kernel
theorem st_c_19 : (lw_fl.drop 406).take 9 = st_c 19 := by decide +kernel
theorem st_c_20 : (lw_fl.drop 433).take 8 = st_c 20 := by decide +kernel
theorem st_c_mem {w : Cond} {i p n : Nat} (h : (lw_fl.drop p).take n = st_c i) (hw : w ∈ st_c i) : w ∈ lw_fl := by
  rw [← h] at hw
  exact List.mem_of_mem_drop (List.mem_of_mem_take hw)
theorem st_c_in {i : Nat} (h0 : 0 < i) (h1 : i ≤ 20) : ∀ w ∈ st_c i, w ∈ lw_fl := by
  rcases (show i = 1 ∨ i = 2 ∨ i = 3 ∨ i = 4 ∨ i = 5 ∨ i = 6 ∨ i = 7 ∨ i = 8 ∨ i = 9 ∨ i = 10 ∨ i = 11 ∨ i = 12 ∨ i = 13 ∨ i = 14 ∨ i = 15 ∨ i = 16 ∨ i = 17 ∨ i = 18 ∨ i = 19 ∨ i = 20 by omega) with rfl | rfl | rfl | rfl | rfl | rfl | rfl | rfl | rfl | rfl | rfl | rfl | rfl | rfl | rfl | rfl | rfl | rfl | rfl | rfl
  · exact fun w hw => st_c_mem st_c_1 hw
  · exact fun w hw => st_c_mem st_c_2 hw
  · exact fun w hw => st_c_mem st_c_3 hw
  · exact fun w hw => st_c_mem st_c_4 hw
  · exact fun w hw => st_c_mem st_c_5 hw
  · exact fun w hw => st_c_mem st_c_6 hw
  · exact fun w hw => st_c_mem st_c_7 hw
  · exact fun w hw => st_c_mem st_c_8 hw
  · exact fun w hw => st_c_mem st_c_9 hw
  · exact fun w hw => st_c_mem st_c_10 hw
  · exact fun w hw => st_c_mem st_c_11 hw
  · exact fun w hw => st_c_mem st_c_12 hw
  · exact fun w hw => st_c_mem st_c_13 hw
  · exact fun w hw => st_c_mem st_c_14 hw
  · exact fun w hw => st_c_mem st_c_15 hw
  · exact fun w hw => st_c_mem st_c_16 hw
  · exact fun w hw => st_c_mem st_c_17 hw
  · exact fun w hw => st_c_mem st_c_18 hw
  · exact fun w hw => st_c_mem st_c_19 hw
  · exact fun w hw => st_c_mem st_c_20 hw
def st_w (i : Nat) : Cond := .stringRef (stO i).1 (stO i).2.1 (stO i).2.2
theorem st_w_ok : (List.range 20).all (fun i => decide (st_w (i + 1) ∈ lw_tbl)) = true := by decide +kernel
/-- other words of the start -/
def st_x : List Cond := [.isRef (.static Bundle.tN "UNASSIGNED_STACK" Bundle.steD), .isRef (.static Bundle.tN "SUPPRESSED_SENTINEL" Bundle.listD), .eq (.static "java/lang/String" "COMPACT_STRINGS" "Z") (.int 1), .isRef (.static "jdk/internal/util/Preconditions" "SIOOBE_FORMATTER" "Ljava/util/function/BiFunction;")]
theorem st_x_ok : st_x.all (fun w => decide (w ∈ lw_fl)) = true := by decide +kernel
def st_y : List Cond := [.laysStatic Bundle.tN "UNASSIGNED_STACK" Bundle.steD, .laysStatic Bundle.tN "SUPPRESSED_SENTINEL" Bundle.listD, .laysStatic "java/lang/String" "COMPACT_STRINGS" "Z", .laysStatic "jdk/internal/util/Preconditions" "SIOOBE_FORMATTER" "Ljava/util/function/BiFunction;", .initialized Bundle.tN, .initialized "java/lang/String", .initialized "jdk/internal/util/Preconditions", .arrayOver (.array .int), .arrayOver (.array .long)]
theorem st_y_ok : st_y.all (fun w => decide (w ∈ lw_tbl)) = true := by decide +kernel
def st_np : List (Nat × Nat × Nat) := [(0, 1, 22), (0, 2, 51), (0, 3, 65), (1, 0, 36), (1, 2, 50), (1, 3, 64), (2, 0, 37), (2, 1, 23), (2, 3, 66), (3, 0, 38), (3, 1, 24), (3, 2, 52)]
theorem st_nc_ok : st_np.all (fun x => decide (lw_fl[x.2.2]? = some (Cond.not (.castable (exN x.1) (exN x.2.1))))) = true := by decide +kernel
theorem st_in_ok : ∀ a, a < 11 → pm_it (cw_ a).1 (.instantiable (pm_cn a) (pm_nf a)) = true := by decide +kernel
theorem pm_Tb.of {a : Array Value} {s : State} (hts : ∀ w ∈ lw_tbl, w.before a s = true) : pm_Tb s := by
  intro w hw hp a'
  have hW := State.WarmedH.refl s
  unfold pm_pw at hp
  rw [Bool.or_eq_true] at hp
  rcases hp with hp | hp
  · exact word_at hW (good_of_word hp) (hts w hw)
  · split at hp
    · exact va_Nw.use rfl (va_Nw.of rfl (hts _ hw))
    · exact va_Nw.use rfl (va_Nw.of rfl (hts _ hw))
    · exact va_Nw.use rfl (va_Nw.of rfl (hts _ hw))
    · exact va_Nw.use rfl (va_Nw.of rfl (hts _ hw))
    · cases hp
section STA
variable {s : State} {b : Nat} {a : Array Value}
theorem st_class (hTb : pm_Tb s) (hcl : ∀ w ∈ lw_tbl, w.before a s = true) : ∃ (D : va_G) (cA : Nat → ClassId), va_K D cls_ (pm_tys cA) s := by
  have h1 : ∀ k : Nat, ∃ q : ClassId × (Nat → Nat), k < 11 → u_Kn s (pm_cn k) (pm_tf k) (pm_nf k) q.1 q.2 := by
    intro k
    by_cases hk : k < 11
    · obtain ⟨cC, iS, h⟩ := u_known (ws := u_ws (pm_cn k) (pm_tf k) (pm_nf k)) (N := pm_nf k) (n := pm_nf k) (args := a) (fun w hw => hcl w (lay_ok hk w hw).1) (fun w q => q) (hTb.it (st_in_ok k hk) a)
      exact ⟨(cC, iS), fun _ => h⟩
    · exact ⟨(0, fun _ => 0), fun q => absurd q hk⟩
  obtain ⟨f, hf⟩ := Classical.axiomOfChoice h1
  obtain ⟨c0, k0, m0, a0, b0, d0⟩ := Cond.arrayClass_spec (hTb.x 12 rfl a)
  obtain ⟨c1, k1, m1, a1, b1, d1⟩ := Cond.arrayClass_spec (hTb.x 13 rfl a)
  obtain ⟨c2, k2, m2, a2, b2, d2⟩ := Cond.arrayClass_spec (hTb.x 14 rfl a)
  obtain ⟨c3, k3, m3, a3, b3, d3⟩ := Cond.arrayClass_spec (hTb.x 15 rfl a)
  have hy : ∀ w ∈ st_y, w.before a s = true := fun w hw => hcl w (of_decide_eq_true (List.all_eq_true.mp st_y_ok w hw))
  obtain ⟨m4, c4, k4, -, -, b4, d4, a4⟩ := pm_over (ty := .int) (va_AOA.of (hy (.arrayOver (.array .int)) (List.mem_of_getElem? (i := 7) rfl)))
  obtain ⟨m5, c5, k5, -, -, b5, d5, a5⟩ := pm_over (ty := .long) (va_AOA.of (hy (.arrayOver (.array .long)) (List.mem_of_getElem? (i := 8) rfl)))
  refine ⟨(fun k => (f k).1, fun k => (f k).2), fun t => if t = 100 then c0 else if t = 101 then c1 else if t = 102 then c2 else if t = 103 then c3 else if t = 104 then c4 else c5, fun k q hq => ?_, fun k q hq => ?_⟩
  · have hk : k < 11 := (List.getElem?_eq_some_iff.mp hq).1
    rw [cls_at hk] at hq
    cases hq
    exact hf k hk
  · match k, hq with
    | 0, hq => cases hq; exact ⟨fun n z => ⟨fun k h => (by cases h), k0, b0, m0, d0⟩, a0⟩
    | 1, hq => cases hq; exact ⟨fun n z => ⟨fun k h => (by cases h), k1, b1, m1, d1⟩, a1⟩
    | 2, hq => cases hq; exact ⟨fun n z => ⟨fun k h => (by cases h), k2, b2, m2, d2⟩, a2⟩
    | 3, hq => cases hq; exact ⟨fun n z => ⟨fun k h => (by cases h), k3, b3, m3, d3⟩, a3⟩
    | 4, hq => cases hq; exact ⟨fun n z => ⟨fun k h => (by cases h), k4, b4, m4, d4⟩, a4⟩
    | 5, hq => cases hq; exact ⟨fun n z => ⟨fun k h => (by cases h), k5, b5, m5, d5⟩, a5⟩
    | k + 6, hq => simp [pm_tys] at hq
theorem st_by_len (i : Nat) : (st_by i).length = (pm_js.getD (i - 1) []).length := by simp [st_by]
theorem st_by_at (i j : Nat) : (st_by i).getD j 0 = nI ((pm_js.getD (i - 1) []).getD j 0) := by
  unfold st_by
  rw [List.getD_eq_getElem?_getD, List.getD_eq_getElem?_getD (l := pm_js.getD (i - 1) []), List.getElem?_map]
  cases (pm_js.getD (i - 1) [])[j]? <;> rfl
theorem st_str {A : Nat → Prop} (hA : ∀ q : Nat, q < s.heap.size → ¬ A q) (hf : ∀ w ∈ lw_fl, w.before a s = true) (hcl : ∀ w ∈ lw_tbl, w.before a s = true) {i : Nat} (h0 : 0 < i) (h1 : i ≤ 20) :
    ∃ q av : Nat, vk_R (stO i).1 (stO i).2.1 (stO i).2.2 q s ∧ va_O "java/lang/String" q A s s.heap ∧ va_OF "java/lang/String" "coder" "B" (.int 0) q A s s.heap ∧ va_OF "java/lang/String" "value" "[B" (.ref av) q A s s.heap ∧
    va_T .byte av (pm_js.getD (i - 1) []).length (fun j => .int (nI ((pm_js.getD (i - 1) []).getD j 0))) A s s.heap := by
  have hc : ∀ w ∈ st_c i, w.before a s = true := fun w hw => hf w (st_c_in h0 h1 w hw)
  have hl := sv_len (i - 1)
  obtain ⟨adK, adV, hS, hE⟩ := vk_Sof (args := a) (s := s) (N := 1) (tm := fun _ => st_tm i) (len := [(pm_js.getD (i - 1) []).length]) (byt := [st_by i]) (A := A)
    (fun k hk => by rw [show k = 0 by omega]; show (pm_js.getD (i - 1) []).length < 2 ^ 31; omega)
    (fun _ _ => hc _ (List.mem_append_left _ (List.mem_of_getElem? (i := 0) rfl))) (fun _ _ => hc _ (List.mem_append_left _ (List.mem_of_getElem? (i := 1) rfl)))
    (fun _ _ => hc _ (List.mem_append_left _ (List.mem_of_getElem? (i := 2) rfl))) (fun k hk => by rw [show k = 0 by omega]; exact hc _ (List.mem_append_left _ (List.mem_of_getElem? (i := 3) rfl)))
    (fun k hk j hj => by
      rw [show k = 0 by omega] at hj ⊢
      exact hc _ (List.mem_append_right _ (List.mem_map.mpr ⟨j, List.mem_range.mpr hj, rfl⟩)))
    (fun k j hk hj hne => absurd (show k = j by omega) hne) hA
  obtain ⟨g1, g2, g3, g4⟩ := hS.1 0 (by omega)
  refine ⟨adK 0, adV 0, vk_R.of (A := a) (hcl _ ?_) (hE 0 (by omega)), g1, g2, g3, ?_⟩
  · have := List.all_eq_true.mp st_w_ok (i - 1) (List.mem_range.mpr (by omega))
    rw [show i - 1 + 1 = i by omega] at this
    exact of_decide_eq_true this
  · have e9 : (fun j => Value.int (([st_by i].getD 0 []).getD j 0)) = fun j => .int (nI ((pm_js.getD (i - 1) []).getD j 0)) := by
      funext j
      show Value.int ((st_by i).getD j 0) = _
      rw [st_by_at]
    rw [e9] at g4
    exact g4
theorem st_cst {L : Nat} {xs : Nat → Int32} (hf : ∀ w ∈ lw_fl, w.before a s = true) (hcl : ∀ w ∈ lw_tbl, w.before a s = true) (hX : va_X b L xs s s.heap) (hb : b < s.heap.size) : ∃ aS : Nat → Nat, pm_Cst b s.heap.size aS L xs s s.heap := by
  have hA : ∀ q : Nat, q < s.heap.size → ¬ (fun q => s.heap.size ≤ q) q := fun q h => Nat.not_le.mpr h
  have h1 : ∀ i : Nat, ∃ q : Nat, 0 < i → i ≤ 20 → ∃ av : Nat, vk_R (stO i).1 (stO i).2.1 (stO i).2.2 q s ∧ va_O "java/lang/String" q (fun q => s.heap.size ≤ q) s s.heap ∧ va_OF "java/lang/String" "coder" "B" (.int 0) q (fun q => s.heap.size ≤ q) s s.heap ∧ va_OF "java/lang/String" "value" "[B" (.ref av) q (fun q => s.heap.size ≤ q) s s.heap ∧
    va_T .byte av (pm_js.getD (i - 1) []).length (fun j => .int (nI ((pm_js.getD (i - 1) []).getD j 0))) (fun q => s.heap.size ≤ q) s s.heap := by
    intro i
    by_cases h : 0 < i ∧ i ≤ 20
    · obtain ⟨q, av, g⟩ := st_str (A := fun q => s.heap.size ≤ q) hA hf hcl h.1 h.2
      exact ⟨q, fun _ _ => ⟨av, g⟩⟩
    · exact ⟨0, fun q1 q2 => absurd ⟨q1, q2⟩ h⟩
  obtain ⟨aS, haS⟩ := Classical.axiomOfChoice h1
  have hy : ∀ w ∈ st_y, w.before a s = true := fun w hw => hcl w (of_decide_eq_true (List.all_eq_true.mp st_y_ok w hw))
  have hx : ∀ w ∈ st_x, w.before a s = true := fun w hw => hf w (of_decide_eq_true (List.all_eq_true.mp st_x_ok w hw))
  refine ⟨aS, haS, vx_Zqof (hy _ (List.mem_of_getElem? (i := 0) rfl)) (hy _ (List.mem_of_getElem? (i := 4) rfl)) (hx _ (List.mem_of_getElem? (i := 0) rfl)) hA, vx_Zqof (hy _ (List.mem_of_getElem? (i := 1) rfl)) (hy _ (List.mem_of_getElem? (i := 4) rfl)) (hx _ (List.mem_of_getElem? (i := 1) rfl)) hA,
    va_Zof (hy _ (List.mem_of_getElem? (i := 2) rfl)) (hy _ (List.mem_of_getElem? (i := 5) rfl)) (va_eqi (hx _ (List.mem_of_getElem? (i := 2) rfl))) hA, va_AOA.of (hy _ (List.mem_of_getElem? (i := 7) rfl)), va_AOA.of (hy _ (List.mem_of_getElem? (i := 8) rfl)), hX, hb,
    va_Zqof (hy _ (List.mem_of_getElem? (i := 3) rfl)) (hy _ (List.mem_of_getElem? (i := 6) rfl)) (hx _ (List.mem_of_getElem? (i := 3) rfl)) hA, fun i j hi hj hij => va_Nc.of (args := a) (hf _ ?_)⟩
  have key : ∀ x ∈ st_np, Cond.not (.castable (exN x.1) (exN x.2.1)) ∈ lw_fl := fun x hx => List.mem_of_getElem? (of_decide_eq_true (List.all_eq_true.mp st_nc_ok x hx))
  have hcov : ∀ i, i < 4 → ∀ j, j < 4 → i ≠ j → ∃ z, (i, j, z) ∈ st_np := by
    intro i hi j hj hij
    rcases (show i = 0 ∨ i = 1 ∨ i = 2 ∨ i = 3 by omega) with rfl | rfl | rfl | rfl <;> rcases (show j = 0 ∨ j = 1 ∨ j = 2 ∨ j = 3 by omega) with rfl | rfl | rfl | rfl <;> first | exact absurd rfl hij | exact ⟨_, List.mem_of_getElem? (i := 0) rfl⟩ | exact ⟨_, List.mem_of_getElem? (i := 1) rfl⟩ | exact ⟨_, List.mem_of_getElem? (i := 2) rfl⟩ | exact ⟨_, List.mem_of_getElem? (i := 3) rfl⟩ | exact ⟨_, List.mem_of_getElem? (i := 4) rfl⟩ | exact ⟨_, List.mem_of_getElem? (i := 5) rfl⟩ | exact ⟨_, List.mem_of_getElem? (i := 6) rfl⟩ | exact ⟨_, List.mem_of_getElem? (i := 7) rfl⟩ | exact ⟨_, List.mem_of_getElem? (i := 8) rfl⟩ | exact ⟨_, List.mem_of_getElem? (i := 9) rfl⟩ | exact ⟨_, List.mem_of_getElem? (i := 10) rfl⟩ | exact ⟨_, List.mem_of_getElem? (i := 11) rfl⟩
  obtain ⟨z, hz⟩ := hcov i hi j hj hij
  exact key _ hz
end STA
/-- the pure heap at the law's entry -/
def hz0 (L : Nat) (xs : Nat → Int32) : pm_H := (fun a => if a = 0 then xs else fun _ => 0, fun _ _ => 0, fun _ _ => 0, fun a => if a = 0 then 110 else 999, fun a => if a = 0 then L else 0, 32, 0)
theorem st_fl (l : Launch) (h : l.flags = flags0) : l.stackTraces = false := by
  unfold Launch.stackTraces
  rw [h]
  decide +kernel
