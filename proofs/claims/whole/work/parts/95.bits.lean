/-! ===== ones counted ===== -/
def pc : Nat → Nat → Nat
  | 0, _ => 0
  | n + 1, X => X % 2 + pc n (X / 2)
theorem pc_8 (n X : Nat) : pc (n + 8) X = pc 8 (X % 256) + pc n (X / 256) := by
  show X % 2 + (X / 2 % 2 + (X / 2 / 2 % 2 + (X / 2 / 2 / 2 % 2 + (X / 2 / 2 / 2 / 2 % 2 + (X / 2 / 2 / 2 / 2 / 2 % 2 + (X / 2 / 2 / 2 / 2 / 2 / 2 % 2 + (X / 2 / 2 / 2 / 2 / 2 / 2 / 2 % 2 + pc n (X / 2 / 2 / 2 / 2 / 2 / 2 / 2 / 2)))))))) =
    (X % 256 % 2 + (X % 256 / 2 % 2 + (X % 256 / 2 / 2 % 2 + (X % 256 / 2 / 2 / 2 % 2 + (X % 256 / 2 / 2 / 2 / 2 % 2 + (X % 256 / 2 / 2 / 2 / 2 / 2 % 2 + (X % 256 / 2 / 2 / 2 / 2 / 2 / 2 % 2 + (X % 256 / 2 / 2 / 2 / 2 / 2 / 2 / 2 % 2 + 0)))))))) + pc n (X / 256)
  rw [show X / 2 / 2 / 2 / 2 / 2 / 2 / 2 / 2 = X / 256 by omega]
  generalize pc n (X / 256) = y
  omega
theorem an_8 {a b x y : Nat} (ha : a < 256) (hb : b < 256) : (a + 256 * x) &&& (b + 256 * y) = (a &&& b) + 256 * (x &&& y) := by
  have e1 : ((a + 256 * x) &&& (b + 256 * y)) % 2 ^ 8 = a &&& b := by
    rw [Nat.and_mod_two_pow, show (a + 256 * x) % 2 ^ 8 = a by omega, show (b + 256 * y) % 2 ^ 8 = b by omega]
  have e2 : ((a + 256 * x) &&& (b + 256 * y)) / 2 ^ 8 = x &&& y := by
    rw [Nat.and_div_two_pow, show (a + 256 * x) / 2 ^ 8 = x by omega, show (b + 256 * y) / 2 ^ 8 = y by omega]
  omega
/-- a shift by k, and a mask that lets nothing of the next byte in -/
theorem sm_8 {a c x y k : Nat} (hk : k ≤ 8) (ha : a < 256) (hc : c < 2 ^ (8 - k)) : ((a + 256 * x) / 2 ^ k) &&& (c + 256 * y) = ((a / 2 ^ k) &&& c) + 256 * ((x / 2 ^ k) &&& y) := by
  have hp : 2 ^ (8 - k) * 2 ^ k = 256 := by rw [← Nat.pow_add, show 8 - k + k = 8 by omega]
  have h0 : 0 < 2 ^ k := Nat.two_pow_pos k
  have h01 : 0 < 2 ^ (8 - k) := Nat.two_pow_pos _
  have hc8 : c < 256 := Nat.lt_of_lt_of_le hc (by have := Nat.pow_le_pow_right (show 0 < 2 by decide) (show 8 - k ≤ 8 by omega); exact this)
  have ea : (a + 256 * x) / 2 ^ k = a / 2 ^ k + 2 ^ (8 - k) * x := by
    rw [← hp, show 2 ^ (8 - k) * 2 ^ k * x = 2 ^ k * (2 ^ (8 - k) * x) by rw [Nat.mul_comm (2 ^ (8 - k)), Nat.mul_assoc], Nat.add_mul_div_left _ _ h0]
  have la : a / 2 ^ k < 2 ^ (8 - k) := by rw [Nat.div_lt_iff_lt_mul h0, hp]; exact ha
  have ex : x = x % 2 ^ k + 2 ^ k * (x / 2 ^ k) := (Nat.mod_add_div x (2 ^ k)).symm
  have e3 : a / 2 ^ k + 2 ^ (8 - k) * x = (a / 2 ^ k + 2 ^ (8 - k) * (x % 2 ^ k)) + 256 * (x / 2 ^ k) := by
    have := congrArg (fun z => 2 ^ (8 - k) * z) ex
    have this : 2 ^ (8 - k) * x = 2 ^ (8 - k) * (x % 2 ^ k + 2 ^ k * (x / 2 ^ k)) := this
    rw [this, Nat.mul_add, ← Nat.mul_assoc, hp, Nat.add_assoc]
  have l2 : a / 2 ^ k + 2 ^ (8 - k) * (x % 2 ^ k) < 256 := by
    have lx := Nat.mod_lt x h0
    have : 2 ^ (8 - k) * (x % 2 ^ k + 1) ≤ 2 ^ (8 - k) * 2 ^ k := Nat.mul_le_mul_left _ lx
    rw [hp, Nat.mul_add, Nat.mul_one] at this
    omega
  rw [ea, e3, an_8 l2 hc8]
  have e5 : (a / 2 ^ k + 2 ^ (8 - k) * (x % 2 ^ k)) &&& c = (a / 2 ^ k) &&& c := by
    have t1 : ((a / 2 ^ k + 2 ^ (8 - k) * (x % 2 ^ k)) &&& c) % 2 ^ (8 - k) = (a / 2 ^ k) &&& c := by
      rw [Nat.and_mod_two_pow, Nat.add_mul_mod_self_left, Nat.mod_eq_of_lt la, Nat.mod_eq_of_lt hc]
    have t2 : (a / 2 ^ k + 2 ^ (8 - k) * (x % 2 ^ k)) &&& c < 2 ^ (8 - k) := Nat.lt_of_le_of_lt Nat.and_le_right hc
    rw [Nat.mod_eq_of_lt t2] at t1
    exact t1
  rw [e5]
def b1 (b : Nat) : Nat := b - ((b / 2 ^ 1) &&& 85)
def b2 (b : Nat) : Nat := (b1 b &&& 51) + ((b1 b / 2 ^ 2) &&& 51)
def b3 (b : Nat) : Nat := b2 b % 16 + b2 b / 16
theorem b_f : ∀ b, b < 256 → ((b / 2 ^ 1) &&& 85) ≤ b ∧ b1 b < 256 ∧ b2 b % 16 ≤ 4 ∧ b2 b / 16 ≤ 4 ∧ b3 b = pc 8 b := by decide +kernel
/-- four bytes -/
def v4 (a b c e : Nat) : Nat := a + 256 * (b + 256 * (c + 256 * e))
def v8 (a b c e f g i j : Nat) : Nat := a + 256 * (b + 256 * (c + 256 * (e + 256 * (f + 256 * (g + 256 * (i + 256 * j))))))
theorem v8_of {X : Nat} (h : X < 2 ^ 64) : ∃ a b c e f g i j, a < 256 ∧ b < 256 ∧ c < 256 ∧ e < 256 ∧ f < 256 ∧ g < 256 ∧ i < 256 ∧ j < 256 ∧ X = v8 a b c e f g i j :=
  ⟨X % 256, X / 256 % 256, X / 65536 % 256, X / 16777216 % 256, X / 4294967296 % 256, X / 1099511627776 % 256, X / 281474976710656 % 256, X / 72057594037927936 % 256, by omega, by omega, by omega, by omega, by omega, by omega, by omega, by omega, by unfold v8; omega⟩
section V8
variable {a b c e f g i j a' b' c' e' f' g' i' j' : Nat}
theorem v8_and (h : a < 256 ∧ b < 256 ∧ c < 256 ∧ e < 256 ∧ f < 256 ∧ g < 256 ∧ i < 256) (h' : a' < 256 ∧ b' < 256 ∧ c' < 256 ∧ e' < 256 ∧ f' < 256 ∧ g' < 256 ∧ i' < 256) :
    v8 a b c e f g i j &&& v8 a' b' c' e' f' g' i' j' = v8 (a &&& a') (b &&& b') (c &&& c') (e &&& e') (f &&& f') (g &&& g') (i &&& i') (j &&& j') := by
  obtain ⟨h1, h2, h3, h4, h5, h6, h7⟩ := h
  obtain ⟨k1, k2, k3, k4, k5, k6, k7⟩ := h'
  unfold v8
  rw [an_8 h1 k1, an_8 h2 k2, an_8 h3 k3, an_8 h4 k4, an_8 h5 k5, an_8 h6 k6, an_8 h7 k7]
theorem v8_sm {k m : Nat} (hk : k ≤ 8) (hm : m < 2 ^ (8 - k)) (h : a < 256 ∧ b < 256 ∧ c < 256 ∧ e < 256 ∧ f < 256 ∧ g < 256 ∧ i < 256) :
    (v8 a b c e f g i j / 2 ^ k) &&& v8 m m m m m m m m = v8 ((a / 2 ^ k) &&& m) ((b / 2 ^ k) &&& m) ((c / 2 ^ k) &&& m) ((e / 2 ^ k) &&& m) ((f / 2 ^ k) &&& m) ((g / 2 ^ k) &&& m) ((i / 2 ^ k) &&& m) ((j / 2 ^ k) &&& m) := by
  obtain ⟨h1, h2, h3, h4, h5, h6, h7⟩ := h
  unfold v8
  rw [sm_8 hk h1 hm, sm_8 hk h2 hm, sm_8 hk h3 hm, sm_8 hk h4 hm, sm_8 hk h5 hm, sm_8 hk h6 hm, sm_8 hk h7 hm]
theorem v8_pc (h : a < 256 ∧ b < 256 ∧ c < 256 ∧ e < 256 ∧ f < 256 ∧ g < 256 ∧ i < 256 ∧ j < 256) : pc 64 (v8 a b c e f g i j) = pc 8 a + pc 8 b + pc 8 c + pc 8 e + pc 8 f + pc 8 g + pc 8 i + pc 8 j := by
  obtain ⟨h1, h2, h3, h4, h5, h6, h7, h8⟩ := h
  have st : ∀ (n y z : Nat), y < 256 → pc (n + 8) (y + 256 * z) = pc 8 y + pc n z := fun n y z hy => by
    rw [pc_8, show (y + 256 * z) % 256 = y by omega, show (y + 256 * z) / 256 = z by omega]
  unfold v8
  rw [show (64 : Nat) = 56 + 8 from rfl, st 56 _ _ h1, show (56 : Nat) = 48 + 8 from rfl, st 48 _ _ h2, show (48 : Nat) = 40 + 8 from rfl, st 40 _ _ h3, show (40 : Nat) = 32 + 8 from rfl, st 32 _ _ h4, show (32 : Nat) = 24 + 8 from rfl, st 24 _ _ h5, show (24 : Nat) = 16 + 8 from rfl, st 16 _ _ h6, show (16 : Nat) = 8 + 8 from rfl, st 8 _ _ h7]
  omega
end V8
def k5 : Nat := 6148914691236517205
def k3 : Nat := 3689348814741910323
def kf : Nat := 1085102592571150095
theorem and15 (n : Nat) : n &&& 15 = n % 16 := by
  have := Nat.and_two_pow_sub_one_eq_mod n 4
  exact this
/-- the steps of the count, in numbers -/
theorem pc_nat {X Y Z W V1 V2 : Nat} (hX : X < 2 ^ 64) (e1 : Y = X - ((X / 2 ^ 1) &&& k5)) (e2 : Z = (Y &&& k3) + ((Y / 2 ^ 2) &&& k3)) (e3 : W = (Z + Z / 16) &&& kf) (e4 : V1 = W + W / 256) (e5 : V2 = V1 + V1 / 65536) :
    ((X / 2 ^ 1) &&& k5) ≤ X ∧ Y < 2 ^ 64 ∧ Z < 2 ^ 63 ∧ W < 2 ^ 61 ∧ V1 < 2 ^ 62 ∧ V2 < 2 ^ 63 ∧ (V2 + V2 / 4294967296) % 128 = pc 64 X ∧ V2 + V2 / 4294967296 < 2 ^ 64 := by
  obtain ⟨a, b, c, e, f, g, i, j, h1, h2, h3, h4, h5, h6, h7, h8, rfl⟩ := v8_of hX
  have ha := b_f a h1
  have hb := b_f b h2
  have hc := b_f c h3
  have he := b_f e h4
  have hf := b_f f h5
  have hg := b_f g h6
  have hi := b_f i h7
  have hj := b_f j h8
  have k5e : k5 = v8 85 85 85 85 85 85 85 85 := by decide
  have k3e : k3 = v8 51 51 51 51 51 51 51 51 := by decide
  have kfe : kf = v8 15 15 15 15 15 15 15 15 := by decide
  have s1 := v8_sm (a := a) (b := b) (c := c) (e := e) (f := f) (g := g) (i := i) (j := j) (k := 1) (m := 85) (by decide) (by decide) ⟨h1, h2, h3, h4, h5, h6, h7⟩
  rw [← k5e] at s1
  have Ye : Y = v8 (b1 a) (b1 b) (b1 c) (b1 e) (b1 f) (b1 g) (b1 i) (b1 j) := by
    rw [e1, s1]
    have q1 := ha.1; have q2 := hb.1; have q3 := hc.1; have q4 := he.1; have q5 := hf.1; have q6 := hg.1; have q7 := hi.1; have q8 := hj.1
    unfold v8 b1
    omega
  have s2 := v8_sm (a := b1 a) (b := b1 b) (c := b1 c) (e := b1 e) (f := b1 f) (g := b1 g) (i := b1 i) (j := b1 j) (k := 2) (m := 51) (by decide) (by decide) ⟨ha.2.1, hb.2.1, hc.2.1, he.2.1, hf.2.1, hg.2.1, hi.2.1⟩
  have s3 := v8_and (a := b1 a) (b := b1 b) (c := b1 c) (e := b1 e) (f := b1 f) (g := b1 g) (i := b1 i) (j := b1 j) (a' := 51) (b' := 51) (c' := 51) (e' := 51) (f' := 51) (g' := 51) (i' := 51) (j' := 51) ⟨ha.2.1, hb.2.1, hc.2.1, he.2.1, hf.2.1, hg.2.1, hi.2.1⟩ (by decide)
  rw [← k3e] at s2 s3
  have Ze : Z = v8 (b2 a) (b2 b) (b2 c) (b2 e) (b2 f) (b2 g) (b2 i) (b2 j) := by
    rw [e2, Ye, s2, s3]
    unfold v8 b2
    omega
  have q3a := ha.2.2.1; have q3b := hb.2.2.1; have q3c := hc.2.2.1; have q3e := he.2.2.1; have q3f := hf.2.2.1; have q3g := hg.2.2.1; have q3i := hi.2.2.1; have q3j := hj.2.2.1
  have q4a := ha.2.2.2.1; have q4b := hb.2.2.2.1; have q4c := hc.2.2.2.1; have q4e := he.2.2.2.1; have q4f := hf.2.2.2.1; have q4g := hg.2.2.2.1; have q4i := hi.2.2.2.1; have q4j := hj.2.2.2.1
  have Yl : Y < 2 ^ 64 := by rw [e1]; exact Nat.lt_of_le_of_lt (Nat.sub_le _ _) hX
  have Zl : Z < 2 ^ 63 := by rw [Ze]; unfold v8; omega
  have We : W = v8 (b3 a) (b3 b) (b3 c) (b3 e) (b3 f) (b3 g) (b3 i) (b3 j) := by
    have z1 : Z + Z / 16 = v8 (b3 a + 16 * (b2 a / 16 + b2 b % 16)) (b3 b + 16 * (b2 b / 16 + b2 c % 16)) (b3 c + 16 * (b2 c / 16 + b2 e % 16)) (b3 e + 16 * (b2 e / 16 + b2 f % 16)) (b3 f + 16 * (b2 f / 16 + b2 g % 16)) (b3 g + 16 * (b2 g / 16 + b2 i % 16)) (b3 i + 16 * (b2 i / 16 + b2 j % 16)) (b3 j + 16 * (b2 j / 16)) := by
      rw [Ze]; unfold v8 b3
      omega
    rw [e3, z1, kfe, v8_and (by unfold b3; omega) (by decide)]
    have m15 : ∀ u t, u ≤ 8 → (u + 16 * t) &&& 15 = u := fun u t hu => by rw [and15]; omega
    rw [m15 _ _ (by unfold b3; omega), m15 _ _ (by unfold b3; omega), m15 _ _ (by unfold b3; omega), m15 _ _ (by unfold b3; omega), m15 _ _ (by unfold b3; omega), m15 _ _ (by unfold b3; omega), m15 _ _ (by unfold b3; omega), m15 _ _ (by unfold b3; omega)]
  have r1 : b3 a ≤ 8 := by unfold b3; omega
  have r2 : b3 b ≤ 8 := by unfold b3; omega
  have r3 : b3 c ≤ 8 := by unfold b3; omega
  have r4 : b3 e ≤ 8 := by unfold b3; omega
  have r5 : b3 f ≤ 8 := by unfold b3; omega
  have r6 : b3 g ≤ 8 := by unfold b3; omega
  have r7 : b3 i ≤ 8 := by unfold b3; omega
  have r8 : b3 j ≤ 8 := by unfold b3; omega
  rw [v8_pc ⟨h1, h2, h3, h4, h5, h6, h7, h8⟩, ← ha.2.2.2.2, ← hb.2.2.2.2, ← hc.2.2.2.2, ← he.2.2.2.2, ← hf.2.2.2.2, ← hg.2.2.2.2, ← hi.2.2.2.2, ← hj.2.2.2.2]
  clear s1 s2 s3 e1 e2 e3 ha hb hc he hf hg hi hj
  refine ⟨?_, Yl, Zl, ?_⟩
  · exact Nat.le_trans Nat.and_le_left (Nat.div_le_self _ _)
  · clear Ye Ze q3a q3b q3c q3e q3f q3g q3i q3j q4a q4b q4c q4e q4f q4g q4i q4j Yl Zl
    generalize b3 a = a3 at *
    generalize b3 b = b3' at *
    generalize b3 c = c3 at *
    generalize b3 e = e3 at *
    generalize b3 f = f3 at *
    generalize b3 g = g3 at *
    generalize b3 i = i3 at *
    generalize b3 j = j3 at *
    have V1e : V1 = v8 (a3 + b3') (b3' + c3) (c3 + e3) (e3 + f3) (f3 + g3) (g3 + i3) (i3 + j3) j3 := by rw [e4, We]; unfold v8; omega
    have V2e : V2 = v8 (a3 + b3' + c3 + e3) (b3' + c3 + e3 + f3) (c3 + e3 + f3 + g3) (e3 + f3 + g3 + i3) (f3 + g3 + i3 + j3) (g3 + i3 + j3) (i3 + j3) j3 := by rw [e5, V1e]; unfold v8; omega
    have V3e : V2 + V2 / 4294967296 = v8 (a3 + b3' + c3 + e3 + f3 + g3 + i3 + j3) (b3' + c3 + e3 + f3 + g3 + i3 + j3) (c3 + e3 + f3 + g3 + i3 + j3) (e3 + f3 + g3 + i3 + j3) (f3 + g3 + i3 + j3) (g3 + i3 + j3) (i3 + j3) j3 := by rw [V2e]; unfold v8; omega
    refine ⟨?_, ?_, ?_, ?_, ?_⟩
    · rw [We]; unfold v8; omega
    · rw [V1e]; unfold v8; omega
    · rw [V2e]; unfold v8; omega
    · rw [V3e]; unfold v8; omega
    · rw [V3e]; unfold v8; omega
