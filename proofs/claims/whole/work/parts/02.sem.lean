/-! ===== THE PURE MACHINE: frames and heap as plain values; a predicate transformer an instruction ===== -/
/-- the pure heap: int rows, long rows, reference rows (0: null), tags, lengths, the next handle, how often a cell came that has no handle, or could have (exceptions; arraycopy) -/
abbrev pm_H : Type := (Nat → Nat → Int32) × (Nat → Nat → Int64) × (Nat → Nat → Nat) × (Nat → Nat) × (Nat → Nat) × Nat × Nat
abbrev pm_L : Type := List (Option Value)
abbrev pm_S : Type := List Value
/-- how a method ends: with a value or none, or with an exception's number -/
abbrev pm_R : Type := Option Value ⊕ Nat
/-- an instruction and five numbers: what its links come to -/
abbrev pm_O : Type := Instr × Nat × Nat × Nat × Nat × Nat
abbrev pm_K : Type := Nat → Nat → Nat → pm_L → pm_S → pm_H → Prop
abbrev pm_k : Type := Nat → Nat → pm_L → pm_S → pm_H → Prop
abbrev pm_Q : Type := pm_R → pm_H → Prop
abbrev pm_C : Type := Nat → List Value → pm_H → pm_Q → Prop
def hI (h : pm_H) : Nat → Nat → Int32 := h.1
def hL (h : pm_H) : Nat → Nat → Int64 := h.2.1
def hR (h : pm_H) : Nat → Nat → Nat := h.2.2.1
def hT (h : pm_H) : Nat → Nat := h.2.2.2.1
def hN (h : pm_H) : Nat → Nat := h.2.2.2.2.1
def hn (h : pm_H) : Nat := h.2.2.2.2.2.1
def hx (h : pm_H) : Nat := h.2.2.2.2.2.2
/-- a row replaced -/
def sI (h : pm_H) (k : Nat) (g : Nat → Int32) : pm_H := (va_up h.1 k g, h.2)
def sL (h : pm_H) (k : Nat) (g : Nat → Int64) : pm_H := (h.1, va_up h.2.1 k g, h.2.2)
def sR (h : pm_H) (k : Nat) (g : Nat → Nat) : pm_H := (h.1, h.2.1, va_up h.2.2.1 k g, h.2.2.2)
/-- an exception more -/
def bmp (h : pm_H) : pm_H := (h.1, h.2.1, h.2.2.1, h.2.2.2.1, h.2.2.2.2.1, hn h, hx h + 1)
/-- a new cell of tag t and length n -/
def nw (h : pm_H) (t n : Nat) : pm_H := (va_up h.1 (hn h) (fun _ => 0), va_up h.2.1 (hn h) (fun _ => 0), va_up h.2.2.1 (hn h) (fun _ => 0), va_up h.2.2.2.1 (hn h) t, va_up h.2.2.2.2.1 (hn h) n, hn h + 1, hx h)
/-- a new array of n new arrays of k places -/
def nwM (h : pm_H) (t t1 n k : Nat) : pm_H :=
  (fun a => if hn h ≤ a ∧ a < hn h + 1 + n then (fun _ => 0) else h.1 a, fun a => if hn h ≤ a ∧ a < hn h + 1 + n then (fun _ => 0) else h.2.1 a,
    fun a => if a = hn h then (fun i => if i < n then hn h + 1 + i else 0) else if hn h ≤ a ∧ a < hn h + 1 + n then (fun _ => 0) else h.2.2.1 a,
    fun a => if a = hn h then t else if hn h ≤ a ∧ a < hn h + 1 + n then t1 else h.2.2.2.1 a, fun a => if a = hn h then n else if hn h ≤ a ∧ a < hn h + 1 + n then k else h.2.2.2.2.1 a, hn h + 1 + n, hx h)
/-- locals -/
def lg : pm_L → Nat → Option Value
  | [], _ => none
  | x :: _, 0 => x
  | _ :: l, n + 1 => lg l n
/-- a long is gone when its second half is written -/
def lq (x : Option Value) : Option Value := match x with
  | some (.long _) => none
  | some (.double _) => none
  | y => y
def ls1 : pm_L → Nat → Option Value → pm_L
  | [], _, _ => []
  | _ :: l, 0, v => v :: l
  | x :: l, 1, v => lq x :: ls1 l 0 v
  | x :: l, n + 2, v => x :: ls1 l (n + 1) v
def ls2 : pm_L → Nat → Value → pm_L
  | x :: _ :: l, 0, v => some v :: none :: l
  | x :: l, 1, v => lq x :: ls2 l 0 v
  | x :: l, n + 2, v => x :: ls2 l (n + 1) v
  | l, _, _ => l
def cN (a b : Nat) : Int32 := if b = 0 then nI a else -nI a
def cL (a b : Nat) : Int64 := if b = 0 then lN a else -lN a
/-- the locals at a method's entry -/
def pm_sl : List Value → pm_L
  | [] => []
  | .long v :: r => some (.long v) :: none :: pm_sl r
  | .double v :: r => some (.double v) :: none :: pm_sl r
  | v :: r => some v :: pm_sl r
def pm_in (mx : Nat) (vs : List Value) : pm_L := pm_sl vs ++ List.replicate (mx - (pm_sl vs).length) none
def pm_cat (r : pm_S) : Nat := (r.map fun v => v.category).sum
/-- the n topmost values, deepest first, and the rest -/
def pm_pop : Nat → pm_S → List Value → Option (List Value × pm_S)
  | 0, st, acc => some (acc, st)
  | n + 1, v :: st, acc => pm_pop n st (v :: acc)
  | _ + 1, [], _ => none
/-- a call of y, and what follows it -/
def pm_call (hd : Nat → Option (Nat × Nat)) (K : pm_K) (C : pm_C) (Q : pm_Q) (y cc cs : Nat) (k : pm_k) (bc bs : Nat) (ls : pm_L) (as : List Value) (r : pm_S) (h : pm_H) : Prop :=
  cc ≤ bc ∧ cs ≤ bs ∧ pm_cat r ≤ 8 ∧ C y as h (fun res h' => match res with
    | .inl v => k (bc - cc) (bs - cs) ls (v.toList ++ r) h'
    | .inr E => match hd E with
      | some (pc, j) => K (bc - cc) (bs - cs) pc (ls1 ls j none) [] h'
      | none => Q (.inr E) h')
/-- one instruction -/
def pm_1 (js : List (List Nat)) (hd : Nat → Option (Nat × Nat)) (K : pm_K) (C : pm_C) (Q : pm_Q) (o : pm_O) (k : pm_k) (bc bs : Nat) (ls : pm_L) (st : pm_S) (h : pm_H) : Prop :=
  match o with
  | (.aload_n _, a, _) | (.aload _, a, _) => match lg ls a with
    | some (.ref x) => k bc bs ls (.ref x :: st) h
    | _ => False
  | (.iload_n _, a, _) | (.iload _, a, _) => match lg ls a with
    | some (.int x) => k bc bs ls (.int x :: st) h
    | _ => False
  | (.lload_n _, a, _) | (.lload _, a, _) => match lg ls a with
    | some (.long x) => k bc bs ls (.long x :: st) h
    | _ => False
  | (.istore_n _, a, _) | (.istore _, a, _) => match st with
    | .int x :: r => a < ls.length ∧ k bc bs (ls1 ls a (some (.int x))) r h
    | _ => False
  | (.astore_n _, a, _) | (.astore _, a, _) => match st with
    | .ref x :: r => a < ls.length ∧ k bc bs (ls1 ls a (some (.ref x))) r h
    | _ => False
  | (.lstore_n _, a, _) | (.lstore _, a, _) => match st with
    | .long x :: r => a + 1 < ls.length ∧ k bc bs (ls2 ls a (.long x)) r h
    | _ => False
  | (.iinc _ _, a, b, c, _) => match lg ls a with
    | some (.int x) => a < ls.length ∧ k bc bs (ls1 ls a (some (.int (x + cN b c)))) st h
    | _ => False
  | (.iconst _, a, b, _) | (.bipush _, a, b, _) | (.sipush _, a, b, _) => k bc bs ls (.int (cN a b) :: st) h
  | (.ldc _, a, b, _) | (.ldc_w _, a, b, _) => if b = 0 then k bc bs ls (.int (nI a) :: st) h else k bc bs ls (.ref a :: st) h
  | (.lconst _, a, b, _) | (.ldc2_w _, a, b, _) => k bc bs ls (.long (cL a b) :: st) h
  | (.iadd, _) => match st with
    | .int y :: .int x :: r => k bc bs ls (.int (x + y) :: r) h
    | _ => False
  | (.isub, _) => match st with
    | .int y :: .int x :: r => k bc bs ls (.int (x - y) :: r) h
    | _ => False
  | (.imul, _) => match st with
    | .int y :: .int x :: r => k bc bs ls (.int (x * y) :: r) h
    | _ => False
  | (.iand, _) => match st with
    | .int y :: .int x :: r => k bc bs ls (.int (x &&& y) :: r) h
    | _ => False
  | (.ior, _) => match st with
    | .int y :: .int x :: r => k bc bs ls (.int (x ||| y) :: r) h
    | _ => False
  | (.ishl, _) => match st with
    | .int y :: .int x :: r => k bc bs ls (.int (x <<< (y &&& 31)) :: r) h
    | _ => False
  | (.ishr, _) => match st with
    | .int y :: .int x :: r => k bc bs ls (.int (x >>> (y &&& 31)) :: r) h
    | _ => False
  | (.iushr, _) => match st with
    | .int y :: .int x :: r => k bc bs ls (.int ((x.toUInt32 >>> (y.toUInt32 &&& Int32.toUInt32 31)).toInt32) :: r) h
    | _ => False
  | (.idiv, _) => match st with
    | .int y :: .int x :: r => ¬ y = 0 ∧ k bc bs ls (.int (x / y) :: r) h
    | _ => False
  | (.irem, _) => match st with
    | .int y :: .int x :: r => ¬ y = 0 ∧ k bc bs ls (.int (x - x / y * y) :: r) h
    | _ => False
  | (.ladd, _) => match st with
    | .long y :: .long x :: r => k bc bs ls (.long (x + y) :: r) h
    | _ => False
  | (.lsub, _) => match st with
    | .long y :: .long x :: r => k bc bs ls (.long (x - y) :: r) h
    | _ => False
  | (.lmul, _) => match st with
    | .long y :: .long x :: r => k bc bs ls (.long (x * y) :: r) h
    | _ => False
  | (.land, _) => match st with
    | .long y :: .long x :: r => k bc bs ls (.long (x &&& y) :: r) h
    | _ => False
  | (.lor, _) => match st with
    | .long y :: .long x :: r => k bc bs ls (.long (x ||| y) :: r) h
    | _ => False
  | (.lxor, _) => match st with
    | .long y :: .long x :: r => k bc bs ls (.long (x ^^^ y) :: r) h
    | _ => False
  | (.lshl, _) => match st with
    | .int y :: .long x :: r => k bc bs ls (.long (x <<< (y.toInt64 &&& 63)) :: r) h
    | _ => False
  | (.lshr, _) => match st with
    | .int y :: .long x :: r => k bc bs ls (.long (x >>> (y.toInt64 &&& 63)) :: r) h
    | _ => False
  | (.lushr, _) => match st with
    | .int y :: .long x :: r => k bc bs ls (.long ((x.toUInt64 >>> (y.toInt64.toUInt64 &&& Int64.toUInt64 63)).toInt64) :: r) h
    | _ => False
  | (.lcmp, _) => match st with
    | .long y :: .long x :: r => k bc bs ls (.int (lg_cmp x y) :: r) h
    | _ => False
  | (.i2l, _) => match st with
    | .int x :: r => k bc bs ls (.long x.toInt64 :: r) h
    | _ => False
  | (.l2i, _) => match st with
    | .long x :: r => k bc bs ls (.int x.toInt32 :: r) h
    | _ => False
  | (.i2b, _) => match st with
    | .int x :: r => k bc bs ls (.int x.toInt8.toInt32 :: r) h
    | _ => False
  | (.i2c, _) => match st with
    | .int x :: r => k bc bs ls (.int (x.toUInt32 % 65536).toInt32 :: r) h
    | _ => False
  | (.pop, _) => match st with
    | .int _ :: r => k bc bs ls r h
    | _ => False
  | (.dup, _) => match st with
    | .int x :: r => k bc bs ls (.int x :: .int x :: r) h
    | .ref x :: r => k bc bs ls (.ref x :: .ref x :: r) h
    | _ => False
  | (.dup2, _) => match st with
    | .int x :: .ref y :: r => k bc bs ls (.int x :: .ref y :: .int x :: .ref y :: r) h
    | _ => False
  | (.getfield _, a, b, c, _) => match st with
    | .ref o :: r => hT h o = a ∧ (if c = 0 then k bc bs ls (.int (hI h o b) :: r) h else if c = 1 then k bc bs ls (.long (hL h o b) :: r) h else ¬ hR h o b = 0 ∧ k bc bs ls (.ref (hR h o b) :: r) h)
    | _ => False
  | (.putfield _, a, b, c, _) => match st with
    | .int v :: .ref o :: r => c = 0 ∧ hT h o = a ∧ k bc bs ls r (sI h o (va_up (hI h o) b v))
    | .long v :: .ref o :: r => c = 1 ∧ hT h o = a ∧ k bc bs ls r (sL h o (va_up (hL h o) b v))
    | .ref v :: .ref o :: r => c = 2 ∧ hT h o = a ∧ ¬ v = 0 ∧ k bc bs ls r (sR h o (va_up (hR h o) b v))
    | _ => False
  | (.iaload, a, _) => match st with
    | .int i :: .ref o :: r => hT h o = a ∧ vp_in i (hN h o) ∧ k bc bs ls (.int (hI h o i.toNatClampNeg) :: r) h
    | _ => False
  | (.baload, a, _) => match st with
    | .int i :: .ref o :: r => hT h o = a ∧ vp_in i (hN h o) ∧ k bc bs ls (.int (hI h o i.toNatClampNeg) :: r) h
    | _ => False
  | (.laload, _) => match st with
    | .int i :: .ref o :: r => hT h o = 101 ∧ vp_in i (hN h o) ∧ k bc bs ls (.long (hL h o i.toNatClampNeg) :: r) h
    | _ => False
  | (.aaload, a, _) => match st with
    | .int i :: .ref o :: r => hT h o = a ∧ vp_in i (hN h o) ∧ ¬ hR h o i.toNatClampNeg = 0 ∧ k bc bs ls (.ref (hR h o i.toNatClampNeg) :: r) h
    | _ => False
  | (.iastore, _) => match st with
    | .int v :: .int i :: .ref o :: r => hT h o = 100 ∧ vp_in i (hN h o) ∧ k bc bs ls r (sI h o (va_up (hI h o) i.toNatClampNeg v))
    | _ => False
  | (.bastore, a, _) => match st with
    | .int v :: .int i :: .ref o :: r => hT h o = a ∧ vp_in i (hN h o) ∧ k bc bs ls r (sI h o (va_up (hI h o) i.toNatClampNeg (if a = 102 then v.toInt8.toInt32 else vp_nar .boolean v)))
    | _ => False
  | (.lastore, _) => match st with
    | .long v :: .int i :: .ref o :: r => hT h o = 101 ∧ vp_in i (hN h o) ∧ k bc bs ls r (sL h o (va_up (hL h o) i.toNatClampNeg v))
    | _ => False
  | (.arraylength, a, _) => match st with
    | .ref o :: r => hT h o = a ∧ k bc bs ls (.int (nI (hN h o)) :: r) h
    | _ => False
  | (.newarray _, a, _) => match st with
    | .int n :: r => hx h = 0 ∧ ¬ n < 0 ∧ n.toNatClampNeg ≤ 100000 ∧ 1 ≤ bc ∧ n.toNatClampNeg ≤ bs ∧ k (bc - 1) (bs - n.toNatClampNeg) ls (.ref (hn h) :: r) (nw h a n.toNatClampNeg)
    | _ => False
  | (.multianewarray _ _, a, b, _) => match st with
    | .int m :: .int n :: r => hx h = 0 ∧ ¬ n < 0 ∧ ¬ m < 0 ∧ n.toNatClampNeg ≤ 100000 ∧ m.toNatClampNeg ≤ 100000 ∧ 1 + n.toNatClampNeg ≤ bc ∧ n.toNatClampNeg + n.toNatClampNeg * m.toNatClampNeg ≤ bs ∧
        k (bc - (1 + n.toNatClampNeg)) (bs - (n.toNatClampNeg + n.toNatClampNeg * m.toNatClampNeg)) ls (.ref (hn h) :: r) (nwM h a b n.toNatClampNeg m.toNatClampNeg)
    | _ => False
  | (.new _, a, b, c, _) => if c = 0 then hx h = 0 ∧ 1 ≤ bc ∧ b ≤ bs ∧ k (bc - 1) (bs - b) ls (.ref (hn h) :: st) (nw h a b) else 1 ≤ bc ∧ 6 ≤ bs ∧ pm_cat st ≤ 8 ∧ Q (.inr a) (bmp h)
  | (.goto _, a, _) => K bc bs a ls st h
  | (.ifCond .eq _, a, _) => match st with
    | .int x :: r => if x = 0 then K bc bs a ls r h else k bc bs ls r h
    | _ => False
  | (.ifCond .ne _, a, _) => match st with
    | .int x :: r => if ¬ x = 0 then K bc bs a ls r h else k bc bs ls r h
    | _ => False
  | (.ifCond .lt _, a, _) => match st with
    | .int x :: r => if x < 0 then K bc bs a ls r h else k bc bs ls r h
    | _ => False
  | (.ifCond .ge _, a, _) => match st with
    | .int x :: r => if 0 ≤ x then K bc bs a ls r h else k bc bs ls r h
    | _ => False
  | (.ifCond .gt _, a, _) => match st with
    | .int x :: r => if 0 < x then K bc bs a ls r h else k bc bs ls r h
    | _ => False
  | (.ifCond .le _, a, _) => match st with
    | .int x :: r => if x ≤ 0 then K bc bs a ls r h else k bc bs ls r h
    | _ => False
  | (.if_icmp .eq _, a, _) => match st with
    | .int y :: .int x :: r => if x = y then K bc bs a ls r h else k bc bs ls r h
    | _ => False
  | (.if_icmp .ne _, a, _) => match st with
    | .int y :: .int x :: r => if ¬ x = y then K bc bs a ls r h else k bc bs ls r h
    | _ => False
  | (.if_icmp .lt _, a, _) => match st with
    | .int y :: .int x :: r => if x < y then K bc bs a ls r h else k bc bs ls r h
    | _ => False
  | (.if_icmp .ge _, a, _) => match st with
    | .int y :: .int x :: r => if y ≤ x then K bc bs a ls r h else k bc bs ls r h
    | _ => False
  | (.if_icmp .gt _, a, _) => match st with
    | .int y :: .int x :: r => if y < x then K bc bs a ls r h else k bc bs ls r h
    | _ => False
  | (.if_icmp .le _, a, _) => match st with
    | .int y :: .int x :: r => if x ≤ y then K bc bs a ls r h else k bc bs ls r h
    | _ => False
  | (.tableswitch dflt lo hi offs, a, _) => match st with
    | .int x :: r => if x.toInt < lo ∨ hi < x.toInt then K bc bs ((a : Int) + dflt).toNat ls r h else match offs[(x.toInt - lo).toNat]? with
      | some off => K bc bs ((a : Int) + off).toNat ls r h
      | none => False
    | _ => False
  | (.ireturn, a, _) => match st with
    | [.int v] => (a = 0 ∨ v = 0 ∨ v = 1) ∧ Q (.inl (some (.int v))) h
    | _ => False
  | (.lreturn, _) => match st with
    | [.long v] => Q (.inl (some (.long v))) h
    | _ => False
  | (.areturn, _) => match st with
    | [.ref v] => Q (.inl (some (.ref v))) h
    | _ => False
  | (.return_, _) => match st with
    | [] => Q (.inl none) h
    | _ => False
  | (.invokevirtual _, a, b, c, d, e) => if a = 9001 then (match st with
      | .ref o :: r => 0 < o ∧ o ≤ js.length ∧ pm_cat r ≤ 8 ∧ k bc bs ls (.int (nI (js.getD (o - 1) []).length) :: r) h
      | _ => False)
    else if a = 9002 then (match st with
      | .int i :: .ref o :: r => 0 < o ∧ o ≤ js.length ∧ pm_cat r ≤ 8 ∧ vp_in i (js.getD (o - 1) []).length ∧ k bc bs ls (.int (nI ((js.getD (o - 1) []).getD i.toNatClampNeg 0)) :: r) h
      | _ => False)
    else match pm_pop (b + 1) st [] with
      | some (.ref o :: as, r) => hT h o = c ∧ pm_call hd K C Q a d e k bc bs ls (.ref o :: as) r h
      | _ => False
  | (.invokespecial _, a, b, _, d, e) => if a = 9008 then (match st with
      | .ref o :: r => pm_cat r ≤ 8 ∧ k bc bs ls r h
      | _ => False)
    else match pm_pop (b + 1) st [] with
      | some (.ref o :: as, r) => pm_call hd K C Q a d e k bc bs ls (.ref o :: as) r h
      | _ => False
  | (.invokestatic _, a, b, _, d, e) => if a = 9003 then (match st with
      | .int y :: .int x :: r => pm_cat r ≤ 8 ∧ k bc bs ls (.int (if y < x then y else x) :: r) h
      | _ => False)
    else if a = 9004 then (match st with
      | .int y :: .int x :: r => pm_cat r ≤ 8 ∧ k bc bs ls (.int (if x < y then y else x) :: r) h
      | _ => False)
    else if a = 9005 then (match st with
      | .long y :: .long x :: r => pm_cat r ≤ 8 ∧ k bc bs ls (.long (if y < x then y else x) :: r) h
      | _ => False)
    else if a = 9006 then (match st with
      | .int n :: .int dp :: .ref t :: .int sp :: .ref u :: r => hT h u = 100 ∧ hT h t = 100 ∧ ¬ sp < 0 ∧ ¬ dp < 0 ∧ ¬ n < 0 ∧ sp.toNatClampNeg + n.toNatClampNeg ≤ hN h u ∧ dp.toNatClampNeg + n.toNatClampNeg ≤ hN h t ∧ pm_cat r ≤ 8 ∧
          k bc bs ls r (bmp (sI h t (va_cpy (hI h u) (hI h t) sp.toNatClampNeg dp.toNatClampNeg n.toNatClampNeg)))
      | _ => False)
    else if a = 9007 then (match st with
      | .int n :: .int dp :: .ref t :: .int sp :: .ref u :: r => hT h u = 101 ∧ hT h t = 101 ∧ ¬ sp < 0 ∧ ¬ dp < 0 ∧ ¬ n < 0 ∧ sp.toNatClampNeg + n.toNatClampNeg ≤ hN h u ∧ dp.toNatClampNeg + n.toNatClampNeg ≤ hN h t ∧ pm_cat r ≤ 8 ∧
          k bc bs ls r (bmp (sL h t (va_cpy (hL h u) (hL h t) sp.toNatClampNeg dp.toNatClampNeg n.toNatClampNeg)))
      | _ => False)
    else match pm_pop b st [] with
      | some (as, r) => pm_call hd K C Q a d e k bc bs ls as r h
      | none => False
  | _ => False
/-- a row of instructions, and where it goes on -/
def pm_ops (js : List (List Nat)) (hd : Nat → Option (Nat × Nat)) (K : pm_K) (C : pm_C) (Q : pm_Q) (nx : Nat) : List pm_O → pm_k
  | [] => fun bc bs ls st h => K bc bs nx ls st h
  | o :: r => fun bc bs ls st h => pm_1 js hd K C Q o (pm_ops js hd K C Q nx r) bc bs ls st h
/-- the least transformer that a method's blocks allow -/
def pm_lfp (js : List (List Nat)) (hd : Nat → Option (Nat × Nat)) (pg : Nat → List pm_O × Nat) (C : pm_C) (Q : pm_Q) (bc bs pc : Nat) (ls : pm_L) (st : pm_S) (h : pm_H) : Prop :=
  ∀ X : pm_K, (∀ bc bs pc ls st h, pm_ops js hd X C Q (pg pc).2 (pg pc).1 bc bs ls st h → X bc bs pc ls st h) → X bc bs pc ls st h
/-- a method's blocks by their places; elsewhere none -/
def pm_gl : List (Nat × List pm_O × Nat) → Nat → List pm_O × Nat
  | [], _ => ([(.nop, 0, 0, 0, 0, 0)], 0)
  | x :: r, pc => if pc = x.1 then x.2 else pm_gl r pc
/-- a program: the strings, handlers, blocks, the locals' number, cells, slots of each method -/
abbrev pm_P : Type := List (List Nat) × (Nat → Nat → Option (Nat × Nat)) × (Nat → Nat → List pm_O × Nat) × (Nat → Nat) × (Nat → Nat) × (Nat → Nat)
/-- method y at pc, calls nested at most d deep -/
def pm_W (P : pm_P) : Nat → Nat → pm_Q → pm_K
  | 0 => fun y Q => pm_lfp P.1 (P.2.1 y) (P.2.2.1 y) (fun _ _ _ _ => False) Q
  | d + 1 => fun y Q => pm_lfp P.1 (P.2.1 y) (P.2.2.1 y) (fun z as h Q' => (pm_sl as).length ≤ P.2.2.2.1 z ∧ pm_W P d z Q' (P.2.2.2.2.1 z) (P.2.2.2.2.2 z) 0 (pm_in (P.2.2.2.1 z) as) [] h) Q
/-- a call -/
def pm_M (P : pm_P) : Nat → pm_C
  | 0 => fun _ _ _ _ => False
  | d + 1 => fun z as h Q' => (pm_sl as).length ≤ P.2.2.2.1 z ∧ pm_W P d z Q' (P.2.2.2.2.1 z) (P.2.2.2.2.2 z) 0 (pm_in (P.2.2.2.1 z) as) [] h
theorem pm_W_eq (P : pm_P) (d y : Nat) (Q : pm_Q) : pm_W P d y Q = pm_lfp P.1 (P.2.1 y) (P.2.2.1 y) (pm_M P d) Q := by cases d <;> rfl
