/-! ===== THE LAW'S BLOCKS, checked some at a time ===== -/
def lz_f (x : Nat × List pm_O × Nat) : Bool := pm_cb 2021 x.1 x.2.1 x.2.2
def lz_l : Nat → List (Nat × List pm_O × Nat)
  | 0 => g_2021
  | j + 1 => (lz_l j).drop 2
theorem lz_s (j : Nat) (a : ((lz_l j).take 2).all lz_f = true) (b : (lz_l (j + 1)).all lz_f = true) : (lz_l j).all lz_f = true := by
  have e : (lz_l j).take 2 ++ lz_l (j + 1) = lz_l j := List.take_append_drop 2 (lz_l j)
  rw [← e, List.all_append, a, b]
  rfl
theorem lz_0 : ((lz_l 0).take 2).all lz_f = true := by decide +kernel
theorem lz_1 : ((lz_l 1).take 2).all lz_f = true := by decide +kernel
theorem lz_2 : ((lz_l 2).take 2).all lz_f = true := by decide +kernel
theorem lz_3 : ((lz_l 3).take 2).all lz_f = true := by decide +kernel
theorem lz_4 : ((lz_l 4).take 2).all lz_f = true := by decide +kernel
theorem lz_5 : ((lz_l 5).take 2).all lz_f = true := by decide +kernel
theorem lz_6 : ((lz_l 6).take 2).all lz_f = true := by decide +kernel
theorem lz_7 : ((lz_l 7).take 2).all lz_f = true := by decide +kernel
theorem lz_8 : ((lz_l 8).take 2).all lz_f = true := by decide +kernel
theorem lz_9 : ((lz_l 9).take 2).all lz_f = true := by decide +kernel
theorem lz_10 : ((lz_l 10).take 2).all lz_f = true := by decide +kernel
theorem lz_11 : ((lz_l 11).take 2).all lz_f = true := by decide +kernel
theorem lz_12 : ((lz_l 12).take 2).all lz_f = true := by decide +kernel
theorem lz_13 : ((lz_l 13).take 2).all lz_f = true := by decide +kernel
theorem lz_14 : ((lz_l 14).take 2).all lz_f = true := by decide +kernel
theorem lz_15 : ((lz_l 15).take 2).all lz_f = true := by decide +kernel
theorem lz_16 : ((lz_l 16).take 2).all lz_f = true := by decide +kernel
theorem lz_17 : ((lz_l 17).take 2).all lz_f = true := by decide +kernel
theorem lz_18 : ((lz_l 18).take 2).all lz_f = true := by decide +kernel
theorem lz_19 : ((lz_l 19).take 2).all lz_f = true := by decide +kernel
theorem lz_20 : ((lz_l 20).take 2).all lz_f = true := by decide +kernel
theorem lz_21 : ((lz_l 21).take 2).all lz_f = true := by decide +kernel
theorem lz_22 : ((lz_l 22).take 2).all lz_f = true := by decide +kernel
theorem lz_23 : ((lz_l 23).take 2).all lz_f = true := by decide +kernel
theorem lz_24 : ((lz_l 24).take 2).all lz_f = true := by decide +kernel
theorem lz_25 : ((lz_l 25).take 2).all lz_f = true := by decide +kernel
theorem lz_26 : ((lz_l 26).take 2).all lz_f = true := by decide +kernel
theorem lz_27 : ((lz_l 27).take 2).all lz_f = true := by decide +kernel
theorem lz_28 : ((lz_l 28).take 2).all lz_f = true := by decide +kernel
theorem lz_29 : ((lz_l 29).take 2).all lz_f = true := by decide +kernel
theorem lz_30 : ((lz_l 30).take 2).all lz_f = true := by decide +kernel
theorem lz_31 : ((lz_l 31).take 2).all lz_f = true := by decide +kernel
theorem lz_32 : ((lz_l 32).take 2).all lz_f = true := by decide +kernel
theorem lz_33 : ((lz_l 33).take 2).all lz_f = true := by decide +kernel
theorem lz_34 : ((lz_l 34).take 2).all lz_f = true := by decide +kernel
theorem lz_35 : ((lz_l 35).take 2).all lz_f = true := by decide +kernel
theorem lz_36 : ((lz_l 36).take 2).all lz_f = true := by decide +kernel
theorem lz_e : (lz_l 37).all lz_f = true := by decide +kernel
theorem lz_h : pm_hk 2021 = true := by decide +kernel
theorem lz_a : (lz_l 0).all lz_f = true := lz_s 0 lz_0 (lz_s 1 lz_1 (lz_s 2 lz_2 (lz_s 3 lz_3 (lz_s 4 lz_4 (lz_s 5 lz_5 (lz_s 6 lz_6 (lz_s 7 lz_7 (lz_s 8 lz_8 (lz_s 9 lz_9 (lz_s 10 lz_10 (lz_s 11 lz_11 (lz_s 12 lz_12 (lz_s 13 lz_13 (lz_s 14 lz_14 (lz_s 15 lz_15 (lz_s 16 lz_16 (lz_s 17 lz_17 (lz_s 18 lz_18 (lz_s 19 lz_19 (lz_s 20 lz_20 (lz_s 21 lz_21 (lz_s 22 lz_22 (lz_s 23 lz_23 (lz_s 24 lz_24 (lz_s 25 lz_25 (lz_s 26 lz_26 (lz_s 27 lz_27 (lz_s 28 lz_28 (lz_s 29 lz_29 (lz_s 30 lz_30 (lz_s 31 lz_31 (lz_s 32 lz_32 (lz_s 33 lz_33 (lz_s 34 lz_34 (lz_s 35 lz_35 (lz_s 36 lz_36 (lz_e)))))))))))))))))))))))))))))))))))))
theorem lz_b : g_2021.all (fun x => pm_cb 2021 x.1 x.2.1 x.2.2) = true := by
  have a := lz_a
  have b : lz_l 0 = g_2021 := rfl
  have c : lz_f = fun x => pm_cb 2021 x.1 x.2.1 x.2.2 := rfl
  rw [b, c] at a
  exact a
theorem bk_2021 : pm_bk 2021 = true := by
  have e : pm_gt 2021 = g_2021 := by first | rfl | (unfold pm_gt; simp)
  unfold pm_bk
  rw [lz_h, e, Bool.true_and]
  exact lz_b
