/-! ===== THE START: the law's entry ===== -/
def lw_fl : List Cond := flatC (Jvm.Cond.and given_1 narrow_1)
def st_tm (i : Nat) : Term := .string (stO i).1 (stO i).2.1
def st_va (i : Nat) : Term := .field (st_tm i) "java/lang/String" "value" "[B"
def st_by (i : Nat) : List Int32 := (pm_js.getD (i - 1) []).map nI
def st_c (i : Nat) : List Cond := [.exactly (st_tm i) "java/lang/String", .eq (.field (st_tm i) "java/lang/String" "coder" "B") (.int 0), .arrayOf (st_va i) .byte, .eq (.length (st_va i)) (.int (Int32.ofNat (pm_js.getD (i - 1) []).length))] ++
  (List.range (pm_js.getD (i - 1) []).length).map (fun j => .eq (.elem (st_va i) (.int (Int32.ofNat j))) (.int ((st_by i).getD j 0)))
theorem st_c_1 : (lw_fl.drop 67).take 23 = st_c 1 := by decide +kernel
theorem st_c_2 : (lw_fl.drop 90).take 9 = st_c 2 := by decide +kernel
theorem st_c_3 : (lw_fl.drop 100).take 8 = st_c 3 := by decide +kernel
theorem st_c_4 : (lw_fl.drop 110).take 7 = st_c 4 := by decide +kernel
theorem st_c_5 : (lw_fl.drop 120).take 8 = st_c 5 := by decide +kernel
theorem st_c_6 : (lw_fl.drop 132).take 8 = st_c 6 := by decide +kernel
theorem st_c_7 : (lw_fl.drop 145).take 8 = st_c 7 := by decide +kernel
theorem st_c_8 : (lw_fl.drop 159).take 9 = st_c 8 := by decide +kernel
theorem st_c_9 : (lw_fl.drop 175).take 8 = st_c 9 := by decide +kernel
theorem st_c_10 : (lw_fl.drop 191).take 17 = st_c 10 := by decide +kernel
theorem st_c_11 : (lw_fl.drop 217).take 11 = st_c 11 := by decide +kernel
theorem st_c_12 : (lw_fl.drop 238).take 22 = st_c 12 := by decide +kernel
theorem st_c_13 : (lw_fl.drop 271).take 8 = st_c 13 := by decide +kernel
theorem st_c_14 : (lw_fl.drop 291).take 7 = st_c 14 := by decide +kernel
theorem st_c_15 : (lw_fl.drop 311).take 8 = st_c 15 := by decide +kernel
theorem st_c_16 : (lw_fl.drop 333).take 8 = st_c 16 := by decide +kernel
theorem st_c_17 : (lw_fl.drop 356).take 9 = st_c 17 := by decide +kernel
theorem st_c_18 : (lw_fl.drop 381).take 8 = st_c 18 := by decide +kernel
theorem st_c_19 : (lw_fl.drop 406).take 9 = st_c 19 := by decide +kernel
theorem st_c_20 : (lw_fl.drop 433).take 8 = st_c 20 := by decide +kernel
theorem st_c_mem {w : Cond} {i p n : Nat} (h : (lw_fl.drop p).take n = st_c i) (hw : w ∈ st_c i) : w ∈ lw_fl := by
  rw [← h] at hw
  exact List.mem_of_mem_drop (List.mem_of_mem_take hw)
theorem st_c_in {i : Nat} (h0 : 0 < i) (h1 : i ≤ 20) : ∀ w ∈ st_c i, w ∈ lw_fl := by
  rcases (show i = 1 ∨ i = 2 ∨ i = 3 ∨ i = 4 ∨ i = 5 ∨ i = 6 ∨ i = 7 ∨ i = 8 ∨ i = 9 ∨ i = 10 ∨ i = 11 ∨ i = 12 ∨ i = 13 ∨ i = 14 ∨ i = 15 ∨ i = 16 ∨ i = 17 ∨ i = 18 ∨ i = 19 ∨ i = 20 by omega) with rfl | rfl | rfl | rfl | rfl | rfl | rfl | rfl | rfl | rfl | rfl | rfl | rfl | rfl | rfl | rfl | rfl | rfl | rfl | rfl
  · exact fun w hw => st_c_mem st_c_1 hw
  · exact fun w hw => st_c_mem st_c_2 hw
  · exact fun w hw => st_c_mem st_c_3 hw
  · exact fun w hw => st_c_mem st_c_4 hw
  · exact fun w hw => st_c_mem st_c_5 hw
  · exact fun w hw => st_c_mem st_c_6 hw
  · exact fun w hw => st_c_mem st_c_7 hw
  · exact fun w hw => st_c_mem st_c_8 hw
  · exact fun w hw => st_c_mem st_c_9 hw
  · exact fun w hw => st_c_mem st_c_10 hw
  · exact fun w hw => st_c_mem st_c_11 hw
  · exact fun w hw => st_c_mem st_c_12 hw
  · exact fun w hw => st_c_mem st_c_13 hw
  · exact fun w hw => st_c_mem st_c_14 hw
  · exact fun w hw => st_c_mem st_c_15 hw
  · exact fun w hw => st_c_mem st_c_16 hw
  · exact fun w hw => st_c_mem st_c_17 hw
  · exact fun w hw => st_c_mem st_c_18 hw
  · exact fun w hw => st_c_mem st_c_19 hw
  · exact fun w hw => st_c_mem st_c_20 hw
def st_w (i : Nat) : Cond := .stringRef (stO i).1 (stO i).2.1 (stO i).2.2
theorem st_w_ok : (List.range 20).all (fun i => decide (st_w (i + 1) ∈ lw_tbl)) = true := by decide +kernel
/-- other words of the start -/
def st_x : List Cond := [.isRef (.static Bundle.tN "UNASSIGNED_STACK" Bundle.steD), .isRef (.static Bundle.tN "SUPPRESSED_SENTINEL" Bundle.listD), .eq (.static "java/lang/String" "COMPACT_STRINGS" "Z") (.int 1), .isRef (.static "jdk/internal/util/Preconditions" "SIOOBE_FORMATTER" "Ljava/util/function/BiFunction;")]
theorem st_x_ok : st_x.all (fun w => decide (w ∈ lw_fl)) = true := by decide +kernel
def st_y : List Cond := [.laysStatic Bundle.tN "UNASSIGNED_STACK" Bundle.steD, .laysStatic Bundle.tN "SUPPRESSED_SENTINEL" Bundle.listD, .laysStatic "java/lang/String" "COMPACT_STRINGS" "Z", .laysStatic "jdk/internal/util/Preconditions" "SIOOBE_FORMATTER" "Ljava/util/function/BiFunction;", .initialized Bundle.tN, .initialized "java/lang/String", .initialized "jdk/internal/util/Preconditions", .arrayOver (.array .int), .arrayOver (.array .long)]
theorem st_y_ok : st_y.all (fun w => decide (w ∈ lw_tbl)) = true := by decide +kernel
def st_np : List (Nat × Nat × Nat) := [(0, 1, 22), (0, 2, 51), (0, 3, 65), (1, 0, 36), (1, 2, 50), (1, 3, 64), (2, 0, 37), (2, 1, 23), (2, 3, 66), (3, 0, 38), (3, 1, 24), (3, 2, 52)]
theorem st_nc_ok : st_np.all (fun x => decide (lw_fl[x.2.2]? = some (Cond.not (.castable (exN x.1) (exN x.2.1))))) = true := by decide +kernel
theorem st_in_ok : ∀ a, a < 11 → pm_it (cw_ a).1 (.instantiable (pm_cn a) (pm_nf a)) = true := by decide +kernel
theorem pm_Tb.of {a : Array Value} {s : State} (hts : ∀ w ∈ lw_tbl, w.before a s = true) : pm_Tb s := by
  intro w hw hp a'
  have hW := State.WarmedH.refl s
  unfold pm_pw at hp
  rw [Bool.or_eq_true] at hp
  rcases hp with hp | hp
  · exact word_at hW (good_of_word hp) (hts w hw)
  · split at hp
    · exact va_Nw.use rfl (va_Nw.of rfl (hts _ hw))
    · exact va_Nw.use rfl (va_Nw.of rfl (hts _ hw))
    · exact va_Nw.use rfl (va_Nw.of rfl (hts _ hw))
    · exact va_Nw.use rfl (va_Nw.of rfl (hts _ hw))
    · cases hp
section STA
variable {s : State} {b : Nat} {a : Array Value}
theorem st_class (hTb : pm_Tb s) (hcl : ∀ w ∈ lw_tbl, w.before a s = true) : ∃ (D : va_G) (cA : Nat → ClassId), va_K D cls_ (pm_tys cA) s := by
  have h1 : ∀ k : Nat, ∃ q : ClassId × (Nat → Nat), k < 11 → u_Kn s (pm_cn k) (pm_tf k) (pm_nf k) q.1 q.2 := by
    intro k
    by_cases hk : k < 11
    · obtain ⟨cC, iS, h⟩ := u_known (ws := u_ws (pm_cn k) (pm_tf k) (pm_nf k)) (N := pm_nf k) (n := pm_nf k) (args := a) (fun w hw => hcl w (lay_ok hk w hw).1) (fun w q => q) (hTb.it (st_in_ok k hk) a)
      exact ⟨(cC, iS), fun _ => h⟩
    · exact ⟨(0, fun _ => 0), fun q => absurd q hk⟩
  obtain ⟨f, hf⟩ := Classical.axiomOfChoice h1
  have prim : ∀ (i : Nat) (ty : FieldType), pm_xw[i]? = some (.arrayClass ty) → (∀ (cA : ClassId), (match ty with | .object _ => False | _ => True) → s.vm.findClass ("[" ++ ty.toString) = some cA → va_RA s cA ty) → (match ty with | .object _ => False | _ => True) → ∃ cA : ClassId, ArrOfT s cA ty ∧ va_RA s cA ty := by
    intro i ty hi hra ht
    obtain ⟨cA, kA, comp, q1, q2, q3⟩ := Cond.arrayClass_spec (hTb.x i hi a)
    sorry
  sorry
end STA
