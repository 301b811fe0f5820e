/-! ===== WHAT IS CHECKED OF THE PROGRAM TABLES, by evaluation ===== -/
/-- a word that goes along with the machine's warming -/
def pm_pw (w : Cond) : Bool := goodWord w || (match w with
  | .fieldLinkNest .. => true
  | .methodLinkNest .. => true
  | .declares _ => true
  | .castable .. => true
  | _ => false)
def pm_it (i : Nat) (w : Cond) : Bool := decide (lw_tbl[i]? = some w) && pm_pw w
theorem pm_it_mem {i : Nat} {w : Cond} (h : pm_it i w = true) : w ∈ lw_tbl ∧ pm_pw w = true := by
  unfold pm_it at h
  rw [Bool.and_eq_true] at h
  exact ⟨List.mem_of_getElem? (of_decide_eq_true h.1), h.2⟩
def pm_Tb (U : State) : Prop := ∀ w ∈ lw_tbl, pm_pw w = true → ∀ a : Array Value, w.before a U = true
theorem pm_Tb.it {U : State} (h : pm_Tb U) {i : Nat} {w : Cond} (hi : pm_it i w = true) (a : Array Value) : w.before a U = true := h w (pm_it_mem hi).1 (pm_it_mem hi).2 a
theorem pm_Tb.warm {s U : State} (hW : s.WarmedH U.vm) (h : pm_Tb s) : pm_Tb U := by
  intro w hw hp a
  unfold pm_pw at hp
  rw [Bool.or_eq_true] at hp
  rcases hp with hp | hp
  · exact word_at hW (good_of_word hp) (h w hw (by unfold pm_pw; rw [hp]; rfl) #[])
  · split at hp
    · exact va_Nw.use rfl (va_Nw.warmF hW (va_Nw.of rfl (h _ hw (by unfold pm_pw; rw [Bool.or_eq_true]; exact Or.inr rfl) #[])))
    · exact va_Nw.use rfl (va_Nw.warmM hW (va_Nw.of rfl (h _ hw (by unfold pm_pw; rw [Bool.or_eq_true]; exact Or.inr rfl) #[])))
    · exact va_Nw.use rfl (va_Nw.warmD hW (va_Nw.of rfl (h _ hw (by unfold pm_pw; rw [Bool.or_eq_true]; exact Or.inr rfl) #[])))
    · refine va_Nw.use rfl (va_tabs rfl (rfl : (s.setVm U.vm).vm = U.vm) (A := #[]) ?_)
      rw [Cond.castable_setVm hW.alike]
      exact h _ hw (by unfold pm_pw; rw [Bool.or_eq_true]; exact Or.inr rfl) #[]
    · cases hp
/-- a field's sort: 0 int, 1 long, 2 a reference -/
def pm_tg (t : FieldType) : Nat := match t with
  | .int => 0
  | .long => 1
  | .object _ => 2
  | .array _ => 2
  | _ => 9
def pm_at (t : ArrayType) : Nat := match t with
  | .int => 100
  | .long => 101
  | .byte => 102
  | .boolean => 103
  | _ => 999
/-- the exceptions: their names; in DueQueue: the class's entry, the string's, the constructor's; the string's number -/
def exN : Nat → String := fun y => if y = 0 then "java/lang/IndexOutOfBoundsException" else if y = 1 then "java/lang/IllegalArgumentException" else if y = 2 then "java/lang/IllegalStateException" else "java/util/NoSuchElementException"
def exS : Nat → Nat := fun y => if y = 0 then 10 else if y = 1 then 1 else if y = 2 then 11 else 12
/-- the constructor's entry by which it passes on, its bytes -/
def exI : Nat → Nat := fun y => if y = 3 then 13 else 7
def exR : Nat → ByteArray := fun y => if y = 3 then ⟨#[0x2a, 0x2b, 0xb7, 0x00, 0x0d, 0xb1]⟩ else ⟨#[0x2a, 0x2b, 0xb7, 0x00, 0x07, 0xb1]⟩
def exM : List String := ["java/lang/RuntimeException", "java/lang/Exception"]
def pm_fl (y ix a b : Nat) : Bool := pm_it (lp (mNo y) ix) (.fieldLink (mC y) ix (pm_tf a b).1 (pm_tf a b).2.1 (pm_tf a b).2.2.1) || pm_it (lp (mNo y) ix) (.fieldLinkNest (mC y) ix (pm_tf a b).1 (pm_tf a b).2.1 (pm_tf a b).2.2.1 "DueQueue")
def pm_ml (y ix a : Nat) : Bool := pm_it (lp (mNo y) ix) (.methodLink (mC y) ix (mY a)) || pm_it (lp (mNo y) ix) (.methodLinkNest (mC y) ix (mY a) "DueQueue")
/-- a method's own words -/
def pm_mk (a : Nat) : Bool :=
  (if mSt a then pm_it (mw a).1 (.static (mY a)) else pm_it (mw a).1 (.instanceMethod (mY a)) && (decide ((mY a).name = "<init>") || pm_it (mw a).2.1 (.selects (mY a).cls (mY a) (mY a)))) && pm_it (mw a).2.2.1 (.initialized (mY a).cls) &&
  (if mHH a = [] then pm_it (mw a).2.2.2 (.code (mY a) (mB a) (pm_mx a) (mR a)) else pm_it (mw a).2.2.2 (.codeWith (mY a) (mB a) (pm_mx a) (mR a) (mHH a))) &&
  decide ((mY a).cls ≠ "java/lang/invoke/MethodHandle") && decide ((mY a).cls ≠ "java/lang/invoke/VarHandle") && decide ((parseMethodDescriptor (mY a).desc).map (fun d => d.parameters.length) = some (mNa a)) && plainName (mY a).cls && decide (mC a = (mY a).cls) && decide (pm_mx a ≤ 20) && decide (a ∈ pm_all)
def pm_dc (y pc : Nat) (i : Instr) (n : Nat) : Bool := decide (decode (mB y) pc = .ok (i, n))
/-- a call lies under all of the method's handlers -/
def pm_cov (y pc : Nat) : Bool := (mHH y).all (fun x => decide (x.1 ≤ pc) && decide (pc < x.2.1))
/-- which exception a handler of the law's methods is for, by its entry -/
def exL : Nat → Nat := fun c => if c = 22 then 0 else if c = 13 then 1 else if c = 24 then 2 else if c = 33 then 3 else 9
/-- the handlers are as pm_hd says: exception n -/
def pm_fh (y n : Nat) : List (Nat × Nat × Nat × Nat) → Bool
  | [] => decide (pm_hd y n = none)
  | x :: r => decide (exL x.2.2.2 < 4) && decide (x.2.2.2 ≠ 0) && pm_it (lp (mNo y) x.2.2.2) (.classLink (mC y) x.2.2.2 (exN (exL x.2.2.2))) && (if exL x.2.2.2 = n then (match pm_hd y n with
    | some (t, j) => decide (j < pm_mx y) && ((match j with
      | 0 => false
      | 1 => pm_dc y x.2.2.1 (.astore_n 1) 1
      | 2 => pm_dc y x.2.2.1 (.astore_n 2) 1
      | 3 => pm_dc y x.2.2.1 (.astore_n 3) 1
      | _ => false) && decide (t = x.2.2.1 + 1) || (pm_dc y x.2.2.1 (.astore j) 2 && decide (t = x.2.2.1 + 2)))
    | none => false) else pm_fh y n r)
def pm_hk (y : Nat) : Bool := pm_fh y 0 (mHH y) && pm_fh y 1 (mHH y) && pm_fh y 2 (mHH y) && pm_fh y 3 (mHH y)
/-- the links of one instruction -/
def pm_ck (y pc : Nat) (o : pm_O) : Bool :=
  match o with
  | (.aload_n k, a, _) | (.iload_n k, a, _) | (.lload_n k, a, _) | (.istore_n k, a, _) | (.astore_n k, a, _) | (.lstore_n k, a, _) => decide ((k : Nat) = a) && pm_dc y pc o.1 1
  | (.aload k, a, _) | (.iload k, a, _) | (.lload k, a, _) | (.istore k, a, _) | (.astore k, a, _) | (.lstore k, a, _) => decide (k = a) && pm_dc y pc o.1 2
  | (.iinc k n, a, b, c, _) => decide (k = a) && decide (Int32.ofInt n = cN b c) && pm_dc y pc o.1 3
  | (.iconst n, a, b, _) => decide (Int32.ofInt n = cN a b) && pm_dc y pc o.1 1
  | (.bipush n, a, b, _) => decide ((Int8.ofInt n).toInt32 = cN a b) && pm_dc y pc o.1 2
  | (.sipush n, a, b, _) => decide ((Int16.ofInt n).toInt32 = cN a b) && pm_dc y pc o.1 3
  | (.lconst n, a, b, _) => decide (Int64.ofNat (n : Nat) = cL a b) && pm_dc y pc o.1 1
  | (.ldc ix, a, b, _) => (if b = 0 then pm_it (lp (mNo y) ix) (.constant (mC y) ix (nI a)) else decide (0 < a) && decide (a ≤ 20) && decide ((stO a).1 = mC y) && decide ((stO a).2.1 = ix)) && pm_dc y pc o.1 2
  | (.ldc_w ix, a, b, _) => (if b = 0 then pm_it (lp (mNo y) ix) (.constant (mC y) ix (nI a)) else decide (0 < a) && decide (a ≤ 20) && decide ((stO a).1 = mC y) && decide ((stO a).2.1 = ix)) && pm_dc y pc o.1 3
  | (.ldc2_w ix, a, b, _) => pm_it (lp (mNo y) ix) (.constantLong (mC y) ix (cL a b)) && pm_dc y pc o.1 3
  | (.iadd, _) | (.isub, _) | (.imul, _) | (.iand, _) | (.ior, _) | (.ishl, _) | (.ishr, _) | (.iushr, _) | (.idiv, _) | (.irem, _) | (.ladd, _) | (.lsub, _) | (.lmul, _) | (.land, _) | (.lor, _) | (.lxor, _) | (.lshl, _) | (.lshr, _) | (.lushr, _)
  | (.lcmp, _) | (.i2l, _) | (.l2i, _) | (.i2b, _) | (.i2c, _) | (.pop, _) | (.dup, _) | (.dup2, _) | (.laload, _) | (.iastore, _) | (.lastore, _) => pm_dc y pc o.1 1
  | (.getfield ix, a, b, c, _) => decide (a < 11) && decide (b < pm_nf a) && decide (pm_tg (pm_ty a b) = c) && pm_fl y ix a b && pm_dc y pc o.1 3
  | (.putfield ix, a, b, c, _) => decide (a < 11) && decide (b < pm_nf a) && decide (pm_tg (pm_ty a b) = c) && (if (pm_tf a b).2.2.2 then decide ((mY y).name = "<init>") && decide ((pm_tf a b).1 = mC y) && pm_it (lp (mNo y) ix) (.fieldLink (mC y) ix (pm_tf a b).1 (pm_tf a b).2.1 (pm_tf a b).2.2.1) else pm_fl y ix a b) && pm_dc y pc o.1 3
  | (.iaload, a, _) => (decide (a = 100) || decide (a = 110)) && pm_dc y pc o.1 1
  | (.baload, a, _) | (.bastore, a, _) => (decide (a = 102) || decide (a = 103)) && pm_dc y pc o.1 1
  | (.aaload, a, _) => (decide (a = 104) || decide (a = 105)) && pm_dc y pc o.1 1
  | (.arraylength, a, _) => (decide (a = 110) || decide (100 ≤ a ∧ a < 106)) && pm_dc y pc o.1 1
  | (.newarray t, a, _) => decide (pm_at t = a) && decide (a < 104) && pm_dc y pc o.1 2
  | (.multianewarray ix k, a, b, _) => decide (k = 2) && ((decide (a = 104) && decide (b = 100) && pm_it (lp (mNo y) ix) (.classLink (mC y) ix "[[I")) || (decide (a = 105) && decide (b = 101) && pm_it (lp (mNo y) ix) (.classLink (mC y) ix "[[J"))) && pm_dc y pc o.1 4
  | (.new ix, a, b, c, d, e) => if c = 0 then decide (a < 11) && decide (b = pm_nf a) && pm_it (lp (mNo y) ix) (.classLink (mC y) ix (pm_cn a)) && pm_it (cw_ a).1 (.instantiable (pm_cn a) (pm_nf a)) && pm_it (cw_ a).2 (.initialized (pm_cn a)) && pm_dc y pc o.1 3
    else decide (a < 4) && pm_dc y pc o.1 3 && pm_dc y (pc + 3) .dup 1 && (if b = 0 then pm_dc y (pc + 4) (.ldc d) 2 && pm_dc y (pc + 6) (.invokespecial e) 3 && pm_dc y (pc + 9) .athrow 1 else pm_dc y (pc + 4) (.ldc_w d) 3 && pm_dc y (pc + 7) (.invokespecial e) 3 && pm_dc y (pc + 10) .athrow 1) &&
      decide (mHH y = []) && decide ((stO (exS a)).1 = mC y) && decide ((stO (exS a)).2.1 = d) && decide (mC y ≠ "DueQueueLaw") && (Cond.classLink (mC y) ix (exN a) :: Cond.initialized (exN a) :: (Bundle.ownAtomsX (mC y) e (exN a) (exI a) (exR a) exM).filter vx_no).all (fun w => decide (w ∈ lw_tbl) && pm_pw w && vx_ot w)
  | (.goto off, a, _) | (.ifCond _ off, a, _) | (.if_icmp _ off, a, _) => decide ((pc : Int) + off = (a : Int)) && pm_dc y pc o.1 3
  | (.tableswitch dflt lo hi offs, a, _) => decide (a = pc) && decide (0 ≤ (pc : Int) + dflt) && offs.toList.all (fun off => decide (0 ≤ (pc : Int) + off)) && (match decode (mB y) pc with
    | .ok (i, _) => decide (i = .tableswitch dflt lo hi offs)
    | _ => false)
  | (.ireturn, a, _) => (if a = 0 then decide (mR y = some .int) else decide (mR y = some .boolean)) && pm_dc y pc o.1 1
  | (.lreturn, _) => decide (mR y = some .long) && pm_dc y pc o.1 1
  | (.areturn, _) => (match mR y with
    | some (.object _) => true
    | some (.array _) => true
    | _ => false) && pm_dc y pc o.1 1
  | (.return_, _) => decide (mR y = none) && pm_dc y pc o.1 1
  | (.invokevirtual ix, a, b, c, d, e) => pm_dc y pc o.1 3 && pm_cov y pc && (if a = 9001 then pm_it (lp (mNo y) ix) (.methodLink (mC y) ix yJ0_length_8abf5) else if a = 9002 then pm_it (lp (mNo y) ix) (.methodLink (mC y) ix yJ0_charAt_5068e)
    else pm_mk a && pm_ml y ix a && decide (b = mNa a) && decide (c < 11) && decide (pm_cn c = mC a) && decide (d = pm_bc a) && decide (e = pm_bs a) && decide (mSt a = false) && decide ((mY a).name ≠ "<init>") && decide (mHH a = []))
  | (.invokespecial ix, a, b, _, d, e) => pm_dc y pc o.1 3 && pm_cov y pc && (if a = 9008 then pm_it (lp (mNo y) ix) (.methodLink (mC y) ix objectInit)
    else pm_mk a && pm_ml y ix a && decide (b = mNa a) && decide (d = pm_bc a) && decide (e = pm_bs a) && decide (mSt a = false) && decide ((mY a).name = "<init>") && decide (mHH a = []) && decide (mR a = none))
  | (.invokestatic ix, a, b, _, d, e) => pm_dc y pc o.1 3 && pm_cov y pc && (if a = 9003 then pm_it (lp (mNo y) ix) (.methodLink (mC y) ix Lib.Math.min.name) else if a = 9004 then pm_it (lp (mNo y) ix) (.methodLink (mC y) ix Lib.Math.max.name)
    else if a = 9005 then pm_it (lp (mNo y) ix) (.methodLink (mC y) ix Lib.MathLoose.min_long.x) else if a = 9006 then pm_it (lp (mNo y) ix) (.methodLink (mC y) ix arraycopyName) else if a = 9007 then pm_it (lp (mNo y) ix) (.methodLink (mC y) ix arraycopyName)
    else pm_mk a && pm_ml y ix a && decide (b = mNa a) && decide (d = pm_bc a) && decide (e = pm_bs a) && decide (mSt a = true) && (decide (mHH a = []) || pm_it (lp (mNo y) ix) (.methodLink (mC y) ix (mY a))))
  | _ => false
/-- how long an instruction is -/
def pm_ln (i : Instr) : Nat := match i with
  | .aload _ | .iload _ | .lload _ | .istore _ | .astore _ | .lstore _ | .bipush _ | .ldc _ | .newarray _ => 2
  | .iinc _ _ | .sipush _ | .ldc_w _ | .ldc2_w _ | .getfield _ | .putfield _ | .new _ | .goto _ | .ifCond _ _ | .if_icmp _ _ | .invokevirtual _ | .invokespecial _ | .invokestatic _ => 3
  | .multianewarray _ _ => 4
  | _ => 1
/-- nothing follows -/
def pm_fin (o : pm_O) : Bool := match o with
  | (.goto _, _) | (.tableswitch _ _ _ _, _) | (.ireturn, _) | (.lreturn, _) | (.areturn, _) | (.return_, _) => true
  | (.new _, _, _, c, _) => decide (c ≠ 0)
  | _ => false
def pm_cb (y : Nat) : Nat → List pm_O → Nat → Bool
  | pc, [], nx => decide (pc = nx)
  | pc, o :: r, nx => pm_ck y pc o && (pm_fin o || pm_cb y (pc + pm_ln o.1) r nx)
def pm_bk (y : Nat) : Bool := pm_hk y && (pm_gt y).all (fun x => pm_cb y x.1 x.2.1 x.2.2)
