/-! ===== THE LAW'S BLOCKS, checked some at a time ===== -/
def lz_f (x : Nat × List pm_O × Nat) : Bool := pm_cb 2021 x.1 x.2.1 x.2.2
def lz_l : Nat → List (Nat × List pm_O × Nat)
  | 0 => g_2021
  | j + 1 => (lz_l j).drop 5
theorem lz_s (j : Nat) (a : ((lz_l j).take 5).all lz_f = true) (b : (lz_l (j + 1)).all lz_f = true) : (lz_l j).all lz_f = true := by
  have e : (lz_l j).take 5 ++ lz_l (j + 1) = lz_l j := List.take_append_drop 5 (lz_l j)
  rw [← e, List.all_append, a, b]
  rfl
theorem lz_0 : ((lz_l 0).take 5).all lz_f = true := by decide +kernel
theorem lz_1 : ((lz_l 1).take 5).all lz_f = true := by decide +kernel
theorem lz_2 : ((lz_l 2).take 5).all lz_f = true := by decide +kernel
theorem lz_3 : ((lz_l 3).take 5).all lz_f = true := by decide +kernel
theorem lz_4 : ((lz_l 4).take 5).all lz_f = true := by decide +kernel
theorem lz_5 : ((lz_l 5).take 5).all lz_f = true := by decide +kernel
theorem lz_6 : ((lz_l 6).take 5).all lz_f = true := by decide +kernel
theorem lz_7 : ((lz_l 7).take 5).all lz_f = true := by decide +kernel
theorem lz_8 : ((lz_l 8).take 5).all lz_f = true := by decide +kernel
theorem lz_9 : ((lz_l 9).take 5).all lz_f = true := by decide +kernel
theorem lz_10 : ((lz_l 10).take 5).all lz_f = true := by decide +kernel
theorem lz_11 : ((lz_l 11).take 5).all lz_f = true := by decide +kernel
theorem lz_12 : ((lz_l 12).take 5).all lz_f = true := by decide +kernel
theorem lz_13 : ((lz_l 13).take 5).all lz_f = true := by decide +kernel
theorem lz_14 : ((lz_l 14).take 5).all lz_f = true := by decide +kernel
theorem lz_e : (lz_l 15).all lz_f = true := by decide +kernel
theorem lz_h : pm_hk 2021 = true := by decide +kernel
theorem bk_2021 : pm_bk 2021 = true := by
  have a : (lz_l 0).all lz_f = true := lz_s 0 lz_0 (lz_s 1 lz_1 (lz_s 2 lz_2 (lz_s 3 lz_3 (lz_s 4 lz_4 (lz_s 5 lz_5 (lz_s 6 lz_6 (lz_s 7 lz_7 (lz_s 8 lz_8 (lz_s 9 lz_9 (lz_s 10 lz_10 (lz_s 11 lz_11 (lz_s 12 lz_12 (lz_s 13 lz_13 (lz_s 14 lz_14 (lz_e)))))))))))))))
  have e : pm_gt 2021 = g_2021 := by decide +kernel
  unfold pm_bk
  rw [lz_h, e]
  exact a
