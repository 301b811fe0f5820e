/-! ===== BUCKETS: the number of a key's bucket, and how it goes with the least key ===== -/
def bkP (b l k p : Nat) : Prop := k / 2 ^ (b * (p + 1)) = l / 2 ^ (b * (p + 1)) ∧ ¬ k / 2 ^ (b * p) = l / 2 ^ (b * p)
def bk (b l k : Nat) : Nat := if k = l then 0 else (Nat.log2 (k ^^^ l) / b) * (2 ^ b - 1) + k / 2 ^ (b * (Nat.log2 (k ^^^ l) / b)) % 2 ^ b
theorem xor_z {a b : Nat} : a ^^^ b = 0 ↔ a = b := by
  constructor
  · intro h
    have e : a ^^^ b ^^^ b = b := by rw [h, Nat.zero_xor]
    rw [Nat.xor_assoc, Nat.xor_self, Nat.xor_zero] at e
    exact e
  · intro h; rw [h, Nat.xor_self]
theorem xor_lt (k l m : Nat) : k ^^^ l < 2 ^ m ↔ k / 2 ^ m = l / 2 ^ m := by
  rw [← xor_z, ← Nat.shiftRight_eq_div_pow, ← Nat.shiftRight_eq_div_pow, ← Nat.shiftRight_xor_distrib, Nat.shiftRight_eq_div_pow]
  exact (Nat.div_eq_zero_iff_lt (Nat.two_pow_pos m)).symm
theorem bk_place {b l k p : Nat} (hb : 0 < b) (h : bkP b l k p) : Nat.log2 (k ^^^ l) / b = p := by
  have h1 := (xor_lt k l _).mpr h.1
  have h2 : ¬ k ^^^ l < 2 ^ (b * p) := fun q => h.2 ((xor_lt k l _).mp q)
  have h0 : k ^^^ l ≠ 0 := fun q => h2 (by rw [q]; exact Nat.two_pow_pos _)
  have h3 := (Nat.log2_lt h0).mpr h1
  have h4 := (Nat.le_log2 h0).mpr (Nat.le_of_not_lt h2)
  refine Nat.div_eq_of_lt_le ?_ ?_
  · rw [Nat.mul_comm]; exact h4
  · rw [Nat.mul_comm]; exact h3
theorem bk_ne {b l k p : Nat} (h : bkP b l k p) : k ≠ l := fun q => h.2 (by rw [q])
theorem bk_eq {b l k p : Nat} (hb : 0 < b) (h : bkP b l k p) : bk b l k = p * (2 ^ b - 1) + k / 2 ^ (b * p) % 2 ^ b := by
  unfold bk
  rw [if_neg (bk_ne h), bk_place hb h]
theorem bk_ex {b l k : Nat} (hb : 0 < b) (h : k ≠ l) : ∃ p, bkP b l k p := by
  have h0 : k ^^^ l ≠ 0 := fun q => h (xor_z.mp q)
  refine ⟨Nat.log2 (k ^^^ l) / b, (xor_lt k l _).mp ?_, fun q => ?_⟩
  · apply (Nat.log2_lt h0).mp
    have := Nat.lt_mul_div_succ (Nat.log2 (k ^^^ l)) hb
    exact this
  · have q2 := (xor_lt k l _).mpr q
    have q3 := (Nat.log2_lt h0).mpr q2
    have := Nat.mul_div_le (Nat.log2 (k ^^^ l)) b
    omega
theorem bk_self (b l : Nat) : bk b l l = 0 := by unfold bk; rw [if_pos rfl]
/-- two numbers alike at a place are alike at each higher one -/
theorem dv_up {b x y p q : Nat} (hpq : p ≤ q) (h : x / 2 ^ (b * p) = y / 2 ^ (b * p)) : x / 2 ^ (b * q) = y / 2 ^ (b * q) := by
  have e : b * q = b * p + b * (q - p) := by rw [← Nat.mul_add]; congr 1; omega
  rw [e, Nat.pow_add, ← Nat.div_div_eq_div_mul, ← Nat.div_div_eq_div_mul, h]
theorem dv_s (b x p : Nat) : x / 2 ^ (b * (p + 1)) = x / 2 ^ (b * p) / 2 ^ b := by
  rw [Nat.mul_add, Nat.mul_one, Nat.pow_add, Nat.div_div_eq_div_mul]
theorem dv_bt {a x y z n : Nat} (h1 : x ≤ y) (h2 : y ≤ z) (h : z / n = x / n) : y / n = x / n := by
  have a1 := Nat.div_le_div_right (c := n) h1
  have a2 := Nat.div_le_div_right (c := n) h2
  omega
/-- the digit at the place is larger -/
theorem bk_digit {b l k p : Nat} (h : bkP b l k p) (hl : l ≤ k) : l / 2 ^ (b * p) % 2 ^ b < k / 2 ^ (b * p) % 2 ^ b := by
  have h1 := h.1
  have h2 := h.2
  rw [dv_s, dv_s] at h1
  have h3 := Nat.div_le_div_right (c := 2 ^ (b * p)) hl
  have e1 := Nat.div_add_mod (k / 2 ^ (b * p)) (2 ^ b)
  have e2 := Nat.div_add_mod (l / 2 ^ (b * p)) (2 ^ b)
  rw [h1] at e1
  omega
theorem bk_dl (b k p : Nat) : k / 2 ^ (b * p) % 2 ^ b ≤ 2 ^ b - 1 := by
  have := Nat.mod_lt (k / 2 ^ (b * p)) (Nat.two_pow_pos b)
  omega
theorem bk_pos {b l k : Nat} (hb : 0 < b) (h : l ≤ k) (hne : k ≠ l) : 0 < bk b l k := by
  obtain ⟨p, hp⟩ := bk_ex hb hne
  rw [bk_eq hb hp]
  have := bk_digit hp h
  omega
theorem bk_z {b l k : Nat} (hb : 0 < b) (h : l ≤ k) : bk b l k = 0 ↔ k = l := by
  constructor
  · intro q
    refine Classical.byContradiction fun r => ?_
    have := bk_pos hb h r
    omega
  · intro q; rw [q, bk_self]
theorem pl_lt {p q c d e : Nat} (h : p < q) (hd : d ≤ c) (he : 0 < e) : p * c + d < q * c + e := by
  have := Nat.mul_le_mul_right c (show p + 1 ≤ q from h)
  rw [Nat.add_mul, Nat.one_mul] at this
  omega
theorem bk_le {b l k k' : Nat} (hb : 0 < b) (h : l ≤ k) (h' : k ≤ k') : bk b l k ≤ bk b l k' := by
  by_cases e : k = l
  · rw [e, bk_self]; exact Nat.zero_le _
  · have e' : k' ≠ l := by omega
    obtain ⟨p, hp⟩ := bk_ex hb e
    obtain ⟨p', hp'⟩ := bk_ex hb e'
    have hpp : p ≤ p' := by
      refine Classical.byContradiction fun r => ?_
      exact hp.2 (dv_up (show p' + 1 ≤ p by omega) (dv_bt (a := 0) h h' hp'.1))
    rw [bk_eq hb hp, bk_eq hb hp']
    have d := bk_digit hp h
    have d' := bk_digit hp' (Nat.le_trans h h')
    have u := bk_dl b k p
    by_cases q : p = p'
    · subst q
      have h3 := Nat.div_le_div_right (c := 2 ^ (b * p)) h'
      have e1 := Nat.div_add_mod (k / 2 ^ (b * p)) (2 ^ b)
      have e2 := Nat.div_add_mod (k' / 2 ^ (b * p)) (2 ^ b)
      have a1 := hp.1
      have a2 := hp'.1
      rw [dv_s, dv_s] at a1 a2
      rw [a1] at e1
      rw [a2] at e2
      omega
    · have := pl_lt (c := 2 ^ b - 1) (show p < p' by omega) u (show 0 < k' / 2 ^ (b * p') % 2 ^ b by omega)
      omega
theorem bk_cmp {b l m k p q : Nat} (hb : 0 < b) (hp : bkP b l m p) (hq : bkP b l k q) (hm : l ≤ m) (hk : l ≤ k) :
    (bk b l m = bk b l k → p = q ∧ m / 2 ^ (b * p) % 2 ^ b = k / 2 ^ (b * q) % 2 ^ b) ∧ (bk b l m < bk b l k → p < q ∨ (p = q ∧ m / 2 ^ (b * p) % 2 ^ b < k / 2 ^ (b * q) % 2 ^ b)) := by
  rw [bk_eq hb hp, bk_eq hb hq]
  have d := bk_digit hp hm
  have d' := bk_digit hq hk
  have u := bk_dl b m p
  have u' := bk_dl b k q
  rcases Nat.lt_trichotomy p q with r | r | r
  · have := pl_lt (c := 2 ^ b - 1) r u (show 0 < k / 2 ^ (b * q) % 2 ^ b by omega)
    exact ⟨fun z => by omega, fun _ => .inl r⟩
  · subst r
    exact ⟨fun z => ⟨rfl, by omega⟩, fun z => .inr ⟨rfl, by omega⟩⟩
  · have := pl_lt (c := 2 ^ b - 1) r u' (show 0 < m / 2 ^ (b * p) % 2 ^ b by omega)
    exact ⟨fun z => by omega, fun z => by omega⟩
/-- dealt out, an item comes to a lower bucket -/
theorem bk_deal {b l m k : Nat} (hb : 0 < b) (hm : l ≤ m) (hk : m ≤ k) (he : bk b l m = bk b l k) (h0 : 0 < bk b l k) : bk b m k < bk b l k := by
  by_cases e : k = m
  · rw [e, bk_self, ← he] at *; omega
  · have em : m ≠ l := fun q => by rw [q, bk_self] at he; omega
    have ek : k ≠ l := by omega
    obtain ⟨p, hp⟩ := bk_ex hb em
    obtain ⟨q, hq⟩ := bk_ex hb ek
    obtain ⟨r, hr⟩ := bk_ex hb e
    obtain ⟨c1, c2⟩ := (bk_cmp hb hp hq hm (Nat.le_trans hm hk)).1 he
    subst c1
    have a1 := hp.1
    have a2 := hq.1
    have e1 := Nat.div_add_mod (m / 2 ^ (b * p)) (2 ^ b)
    have e2 := Nat.div_add_mod (k / 2 ^ (b * p)) (2 ^ b)
    rw [dv_s, dv_s] at a1 a2
    rw [a1, c2] at e1
    rw [a2] at e2
    have hs : k / 2 ^ (b * p) = m / 2 ^ (b * p) := e2.symm.trans e1
    have hrp : r < p := by
      refine Classical.byContradiction fun z => ?_
      exact hr.2 (dv_up (show p ≤ r by omega) hs)
    rw [bk_eq hb hr, bk_eq hb hq]
    have d := bk_digit hq (Nat.le_trans hm hk)
    exact pl_lt hrp (bk_dl b k r) (by omega)
/-- in a higher bucket an item stays -/
theorem bk_keep {b l m k : Nat} (hb : 0 < b) (hm : l ≤ m) (hk : m ≤ k) (h : bk b l m < bk b l k) : bk b m k = bk b l k := by
  by_cases e : m = l
  · rw [e]
  · have ek : k ≠ l := fun q => by rw [q, bk_self] at h; omega
    obtain ⟨p, hp⟩ := bk_ex hb e
    obtain ⟨q, hq⟩ := bk_ex hb ek
    have key : bkP b m k q := by
      rcases (bk_cmp hb hp hq hm (Nat.le_trans hm hk)).2 h with r | ⟨r, r2⟩
      · refine ⟨hq.1.trans (dv_up (show p + 1 ≤ q + 1 by omega) hp.1).symm, fun z => hq.2 (z.trans (dv_up (show p + 1 ≤ q by omega) hp.1))⟩
      · subst r
        refine ⟨hq.1.trans hp.1.symm, fun z => ?_⟩
        rw [z] at r2
        omega
    rw [bk_eq hb key, bk_eq hb hq]
theorem bk_p40 {b l k p : Nat} (hk : k < 2 ^ 40) (hl : l < 2 ^ 40) (h : bkP b l k p) : b * p < 40 := by
  refine Classical.byContradiction fun q => h.2 ?_
  have : 2 ^ 40 ≤ 2 ^ (b * p) := Nat.pow_le_pow_right (by decide) (by omega)
  rw [Nat.div_eq_of_lt (by omega), Nat.div_eq_of_lt (by omega)]
theorem bk_bound {b l k : Nat} (hb : 0 < b) (hb4 : b ≤ 4) (hk : k < 2 ^ 40) (hl : l < 2 ^ 40) : bk b l k < 160 := by
  by_cases e : k = l
  · rw [e, bk_self]; decide
  · obtain ⟨p, hp⟩ := bk_ex hb e
    have h40 := bk_p40 hk hl hp
    rw [bk_eq hb hp]
    have u := bk_dl b k p
    have hb' : b = 1 ∨ b = 2 ∨ b = 3 ∨ b = 4 := by omega
    rcases hb' with r | r | r | r <;> subst r <;> (simp only [Nat.reducePow, Nat.reduceSub] at u ⊢; omega)
