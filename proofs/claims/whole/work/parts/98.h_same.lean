/-! ===== TWO HEAPS THAT DIFFER AT THE SCRIPT ALONE; written by news.py ===== -/
def eqz (L : Nat) (xs : Nat → Int32) (h g : pm_H) : Prop := hL h = hL g ∧ hR h = hR g ∧ hT h = hT g ∧ hn h = hn g ∧ 0 < hn h ∧ hx h = hx g ∧ (∀ k, 0 < k → hI h k = hI g k ∧ hN h k = hN g k) ∧ hI h 0 = xs ∧ hN h 0 = L
section EZ
variable {L : Nat} {xs : Nat → Int32} {h g : pm_H} {o f t u n v : Nat} {w : Int32} {k : pm_H → Nat → pm_H}
theorem ez_w (e : eqz L xs h g) : eqz L xs (nw h t n) (nw g t n) := by
  obtain ⟨a1, a2, a3, a4, a5, a6, a7, a8, a9⟩ := e
  refine ⟨?_, ?_, ?_, ?_, ?_, a6, fun k q => ⟨?_, ?_⟩, ?_, ?_⟩
  · show va_up (hL h) (hn h) _ = va_up (hL g) (hn g) _
    rw [a1, a4]
  · show va_up (hR h) (hn h) _ = va_up (hR g) (hn g) _
    rw [a2, a4]
  · show va_up (hT h) (hn h) _ = va_up (hT g) (hn g) _
    rw [a3, a4]
  · show hn h + 1 = hn g + 1
    rw [a4]
  · exact Nat.succ_pos _
  · show va_up (hI h) (hn h) _ k = va_up (hI g) (hn g) _ k
    rw [va_upE, va_upE, a4, (a7 k q).1]
  · show va_up (hN h) (hn h) _ k = va_up (hN g) (hn g) _ k
    rw [va_upE, va_upE, a4, (a7 k q).2]
  · show va_up (hI h) (hn h) _ 0 = xs
    rw [va_up_ne _ _ (by omega)]
    exact a8
  · show va_up (hN h) (hn h) _ 0 = L
    rw [va_up_ne _ _ (by omega)]
    exact a9
theorem ez_m {kk : Nat} (e : eqz L xs h g) : eqz L xs (nwM h t u n kk) (nwM g t u n kk) := by
  obtain ⟨a1, a2, a3, a4, a5, a6, a7, a8, a9⟩ := e
  refine ⟨?_, ?_, ?_, ?_, ?_, a6, fun k q => ⟨?_, ?_⟩, ?_, ?_⟩
  · show (fun a => if hn h ≤ a ∧ a < hn h + 1 + n then (fun _ => 0) else hL h a) = (fun a => if hn g ≤ a ∧ a < hn g + 1 + n then (fun _ => 0) else hL g a)
    rw [a1, a4]
  · show (fun a => if a = hn h then (fun i => if i < n then hn h + 1 + i else 0) else if hn h ≤ a ∧ a < hn h + 1 + n then (fun _ => 0) else hR h a) = (fun a => if a = hn g then (fun i => if i < n then hn g + 1 + i else 0) else if hn g ≤ a ∧ a < hn g + 1 + n then (fun _ => 0) else hR g a)
    rw [a2, a4]
  · show (fun a => if a = hn h then t else if hn h ≤ a ∧ a < hn h + 1 + n then u else hT h a) = (fun a => if a = hn g then t else if hn g ≤ a ∧ a < hn g + 1 + n then u else hT g a)
    rw [a3, a4]
  · show hn h + 1 + n = hn g + 1 + n
    rw [a4]
  · show 0 < hn h + 1 + n
    omega
  · show (if hn h ≤ k ∧ k < hn h + 1 + n then (fun _ => 0) else hI h k) = (if hn g ≤ k ∧ k < hn g + 1 + n then (fun _ => 0) else hI g k)
    rw [a4, (a7 k q).1]
  · show (if k = hn h then n else if hn h ≤ k ∧ k < hn h + 1 + n then kk else hN h k) = (if k = hn g then n else if hn g ≤ k ∧ k < hn g + 1 + n then kk else hN g k)
    rw [a4, (a7 k q).2]
  · show (if hn h ≤ 0 ∧ 0 < hn h + 1 + n then (fun _ => 0) else hI h 0) = xs
    rw [if_neg (by omega)]
    exact a8
  · show (if 0 = hn h then n else if hn h ≤ 0 ∧ 0 < hn h + 1 + n then kk else hN h 0) = L
    rw [if_neg (by omega), if_neg (by omega)]
    exact a9
theorem ez_R (e : eqz L xs h g) : eqz L xs (nk_R h o f v) (nk_R g o f v) := by
  obtain ⟨a1, a2, a3, a4, a5, a6, a7, a8, a9⟩ := e
  refine ⟨a1, ?_, a3, a4, a5, a6, a7, a8, a9⟩
  show va_up (hR h) o (va_up (hR h o) f v) = va_up (hR g) o (va_up (hR g o) f v)
  rw [a2]
theorem ez_I (ho : 0 < o) (e : eqz L xs h g) : eqz L xs (nk_I h o f w) (nk_I g o f w) := by
  obtain ⟨a1, a2, a3, a4, a5, a6, a7, a8, a9⟩ := e
  refine ⟨a1, a2, a3, a4, a5, a6, fun k q => ⟨?_, (a7 k q).2⟩, ?_, a9⟩
  · show va_up (hI h) o (va_up (hI h o) f w) k = va_up (hI g) o (va_up (hI g o) f w) k
    rw [va_upE (hI h), va_upE (hI g), (a7 k q).1, (a7 o ho).1]
  · show va_up (hI h) o (va_up (hI h o) f w) 0 = xs
    rw [va_up_ne _ _ (by omega)]
    exact a8
theorem ez_a (e : eqz L xs h g) : eqz L xs (nk_a h o f t n) (nk_a g o f t n) := by
  unfold nk_a
  rw [← e.2.2.2.1]
  exact ez_R (ez_w e)
theorem ez_mm {kk : Nat} (e : eqz L xs h g) : eqz L xs (nk_m h o f t u n kk) (nk_m g o f t u n kk) := by
  unfold nk_m
  rw [← e.2.2.2.1]
  exact ez_R (ez_m e)
theorem ez_o (e : eqz L xs h g) (kc : ∀ u w p, 0 < p → eqz L xs u w → eqz L xs (k u p) (k w p)) : eqz L xs (nk_o h o f t n k) (nk_o g o f t n k) := by
  unfold nk_o
  rw [← e.2.2.2.1]
  exact ez_R (kc _ _ _ e.2.2.2.2.1 (ez_w e))
theorem ez_100 {n : Nat} (ho : 0 < o) (e : eqz L xs h g) : eqz L xs (kn_100 n h o) (kn_100 n g o) := ez_I ho (ez_a (ez_a (ez_a (ez_a (ez_I ho (ez_a (e)))))))
theorem ez_300 (ho : 0 < o) (e : eqz L xs h g) : eqz L xs (kn_300 h o) (kn_300 g o) := ez_o (ez_o (e) (fun _ _ _ q e => ez_100 q e)) (fun _ _ _ q e => ez_100 q e)
theorem ez_0 (ho : 0 < o) (e : eqz L xs h g) : eqz L xs (kn_0 h o) (kn_0 g o) := ez_a (ez_a (ez_a (ez_a (ez_o (e) (fun _ _ _ q e => ez_300 q e)))))
theorem ez_200 (ho : 0 < o) (e : eqz L xs h g) : eqz L xs (kn_200 h o) (kn_200 g o) := ez_a (ez_a (ez_a (ez_a (ez_a (ez_a (ez_a (ez_a (e))))))))
theorem ez_400 (ho : 0 < o) (e : eqz L xs h g) : eqz L xs (kn_400 h o) (kn_400 g o) := ez_a (ez_a (ez_a (ez_a (ez_a (e)))))
theorem ez_500 {v : Nat} (ho : 0 < o) (e : eqz L xs h g) : eqz L xs (kn_500 v h o) (kn_500 v g o) := ez_R (ez_a (e))
theorem ez_600 {v : Nat} (ho : 0 < o) (e : eqz L xs h g) : eqz L xs (kn_600 v h o) (kn_600 v g o) := ez_R (ez_a (ez_a (ez_a (e))))
theorem ez_700 {v : Nat} (ho : 0 < o) (e : eqz L xs h g) : eqz L xs (kn_700 v h o) (kn_700 v g o) := ez_R (ez_a (ez_a (ez_a (ez_a (ez_a (e))))))
theorem ez_800 (ho : 0 < o) (e : eqz L xs h g) : eqz L xs (kn_800 h o) (kn_800 g o) := ez_I ho (ez_a (e))
theorem ez_900_1 (ho : 0 < o) (e : eqz L xs h g) : eqz L xs (kn_900_1 h o) (kn_900_1 g o) := ez_o (ez_o (ez_o (ez_o (ez_o (ez_o (ez_o (ez_o (e) (fun _ _ _ q e => ez_300 q e)) (fun _ _ _ q e => ez_0 q e)) (fun _ _ _ q e => ez_800 q e)) (fun _ _ _ q e => ez_400 q e)) (fun _ _ _ q e => ez_400 q e)) (fun _ _ _ q e => ez_200 q e)) (fun _ _ _ q e => ez_200 q e)) (fun _ _ _ q e => ez_100 q e)
theorem ez_900_2 (ho : 0 < o) (e : eqz L xs h g) : eqz L xs (kn_900_2 h o) (kn_900_2 g o) := ez_o (ez_900_1 ho e) (fun u w p q e => by show eqz L xs (kn_500 (hR u o 7) u p) (kn_500 (hR w o 7) w p); rw [e.2.1]; exact ez_500 q e)
theorem ez_900_3 (ho : 0 < o) (e : eqz L xs h g) : eqz L xs (kn_900_3 h o) (kn_900_3 g o) := ez_o (ez_900_2 ho e) (fun u w p q e => by show eqz L xs (kn_700 (hR u o 7) u p) (kn_700 (hR w o 7) w p); rw [e.2.1]; exact ez_700 q e)
theorem ez_900 (ho : 0 < o) (e : eqz L xs h g) : eqz L xs (kn_900 h o) (kn_900 g o) := ez_o (ez_900_3 ho e) (fun u w p q e => by show eqz L xs (kn_600 (hR u o 7) u p) (kn_600 (hR w o 7) w p); rw [e.2.1]; exact ez_600 q e)
theorem ez_1000 (ho : 0 < o) (e : eqz L xs h g) : eqz L xs (kn_1000 h o) (kn_1000 g o) := ez_a (ez_a (ez_a (ez_a (ez_a (ez_a (ez_a (ez_a (ez_a (ez_a (ez_a (ez_a (ez_mm (ez_mm (ez_mm (ez_mm (ez_mm (ez_mm (ez_mm (ez_mm (ez_a (ez_I ho (ez_a (ez_a (ez_mm (ez_mm (ez_mm (ez_a (ez_I ho (ez_a (e))))))))))))))))))))))))))))))
end EZ
/-- all that the law makes ahead of its loop -/
def kn_x (h : pm_H) : pm_H := kn_900 (nw h 9 15) (hn h)
def kn_y (h : pm_H) : pm_H := kn_1000 (nw (kn_x h) 10 53) (hn (kn_x h))
def kn_all (h : pm_H) : pm_H := nw (kn_y h) 101 1
section EY
variable {L : Nat} {xs : Nat → Int32} {h g : pm_H}
theorem ez_x (e : eqz L xs h g) : eqz L xs (kn_x h) (kn_x g) := by
  unfold kn_x
  rw [← e.2.2.2.1]
  exact ez_900 e.2.2.2.2.1 (ez_w e)
theorem ez_y (e : eqz L xs h g) : eqz L xs (kn_y h) (kn_y g) := by
  have e1 := ez_x e
  unfold kn_y
  rw [← e1.2.2.2.1]
  exact ez_1000 e1.2.2.2.2.1 (ez_w e1)
theorem ez_all (e : eqz L xs h g) : eqz L xs (kn_all h) (kn_all g) := ez_w (ez_y e)
end EY
/-- the same over an empty script -/
def hc_0 : pm_H := hz0 0 (fun _ => 0)
theorem ez_z (L : Nat) (xs : Nat → Int32) : eqz L xs (hz0 L xs) hc_0 := by
  refine ⟨rfl, rfl, rfl, rfl, (by show 0 < 32; decide), rfl, fun k q => ⟨?_, ?_⟩, rfl, rfl⟩
  · show (if k = 0 then xs else fun _ => 0) = (if k = 0 then (fun _ => 0) else fun _ => 0)
    rw [if_neg (by omega), if_neg (by omega)]
  · show (if k = 0 then L else 0) = (if k = 0 then 0 else 0)
    rw [if_neg (by omega), if_neg (by omega)]
def hc_X : pm_H := kn_x hc_0
def hc_Y : pm_H := kn_y hc_0
def hc_A : pm_H := kn_all hc_0
theorem hc_n1 : hn hc_X = 114 := by decide +kernel
theorem hc_n2 : hn hc_Y = 937 := by decide +kernel
theorem hc_n3 : hn hc_A = 938 := by decide +kernel
