/-! ===== THE REFERENCE: its shape, the two queues, what was before ===== -/
def mTab : List (Nat × Nat × Nat × Nat) := [(1, 1, 100, 4), (8, 2, 100, 500), (9, 3, 105, 2), (10, 6, 105, 8), (11, 15, 105, 8), (12, 24, 100, 8), (13, 25, 101, 1503), (16, 26, 103, 160), (17, 27, 104, 300), (18, 328, 104, 300), (19, 629, 104, 60), (20, 690, 104, 12), (21, 703, 104, 16), (22, 720, 104, 60), (23, 781, 104, 12), (24, 794, 104, 16), (34, 811, 101, 1503), (35, 812, 100, 400), (39, 813, 100, 16), (40, 814, 100, 16), (41, 815, 100, 16), (42, 816, 100, 16), (43, 817, 100, 16), (44, 818, 101, 16), (48, 819, 100, 300), (49, 820, 100, 200), (50, 821, 100, 8), (51, 822, 101, 200)]
def mTab2 : List (Nat × Nat × Nat × Nat) := [(3, 2, 101, 1503), (6, 8, 101, 1503), (15, 8, 101, 1503), (27, 300, 100, 4), (328, 300, 100, 4), (629, 60, 100, 3), (690, 12, 100, 2), (703, 16, 100, 3), (720, 60, 100, 3), (781, 12, 100, 2), (794, 16, 100, 3)]
def mS (h : pm_H) (m : Nat) : Prop := hT h m = 10 ∧ (∀ e, e ∈ mTab → hR h m e.1 = m + e.2.1 ∧ hT h (m + e.2.1) = e.2.2.1 ∧ hN h (m + e.2.1) = e.2.2.2) ∧ ∀ e, e ∈ mTab2 → ∀ i, i < e.2.1 → hR h (m + e.1) i = m + (e.1 + 1) + i ∧ hT h (m + (e.1 + 1) + i) = e.2.2.1 ∧ hN h (m + (e.1 + 1) + i) = e.2.2.2
section MSL
variable {h : pm_H} {m : Nat}
theorem m_g1 (hs : mS h m) : hR h m 1 = m + 1 := (hs.2.1 (1, 1, 100, 4) (List.mem_of_getElem? (i := 0) rfl)).1
theorem m_t1 (hs : mS h m) : hT h (m + 1) = 100 := (hs.2.1 (1, 1, 100, 4) (List.mem_of_getElem? (i := 0) rfl)).2.1
theorem m_n1 (hs : mS h m) : hN h (m + 1) = 4 := (hs.2.1 (1, 1, 100, 4) (List.mem_of_getElem? (i := 0) rfl)).2.2
theorem m_g8 (hs : mS h m) : hR h m 8 = m + 2 := (hs.2.1 (8, 2, 100, 500) (List.mem_of_getElem? (i := 1) rfl)).1
theorem m_t2 (hs : mS h m) : hT h (m + 2) = 100 := (hs.2.1 (8, 2, 100, 500) (List.mem_of_getElem? (i := 1) rfl)).2.1
theorem m_n2 (hs : mS h m) : hN h (m + 2) = 500 := (hs.2.1 (8, 2, 100, 500) (List.mem_of_getElem? (i := 1) rfl)).2.2
theorem m_g9 (hs : mS h m) : hR h m 9 = m + 3 := (hs.2.1 (9, 3, 105, 2) (List.mem_of_getElem? (i := 2) rfl)).1
theorem m_t3 (hs : mS h m) : hT h (m + 3) = 105 := (hs.2.1 (9, 3, 105, 2) (List.mem_of_getElem? (i := 2) rfl)).2.1
theorem m_n3 (hs : mS h m) : hN h (m + 3) = 2 := (hs.2.1 (9, 3, 105, 2) (List.mem_of_getElem? (i := 2) rfl)).2.2
theorem m_g10 (hs : mS h m) : hR h m 10 = m + 6 := (hs.2.1 (10, 6, 105, 8) (List.mem_of_getElem? (i := 3) rfl)).1
theorem m_t6 (hs : mS h m) : hT h (m + 6) = 105 := (hs.2.1 (10, 6, 105, 8) (List.mem_of_getElem? (i := 3) rfl)).2.1
theorem m_n6 (hs : mS h m) : hN h (m + 6) = 8 := (hs.2.1 (10, 6, 105, 8) (List.mem_of_getElem? (i := 3) rfl)).2.2
theorem m_g11 (hs : mS h m) : hR h m 11 = m + 15 := (hs.2.1 (11, 15, 105, 8) (List.mem_of_getElem? (i := 4) rfl)).1
theorem m_t15 (hs : mS h m) : hT h (m + 15) = 105 := (hs.2.1 (11, 15, 105, 8) (List.mem_of_getElem? (i := 4) rfl)).2.1
theorem m_n15 (hs : mS h m) : hN h (m + 15) = 8 := (hs.2.1 (11, 15, 105, 8) (List.mem_of_getElem? (i := 4) rfl)).2.2
theorem m_g12 (hs : mS h m) : hR h m 12 = m + 24 := (hs.2.1 (12, 24, 100, 8) (List.mem_of_getElem? (i := 5) rfl)).1
theorem m_t24 (hs : mS h m) : hT h (m + 24) = 100 := (hs.2.1 (12, 24, 100, 8) (List.mem_of_getElem? (i := 5) rfl)).2.1
theorem m_n24 (hs : mS h m) : hN h (m + 24) = 8 := (hs.2.1 (12, 24, 100, 8) (List.mem_of_getElem? (i := 5) rfl)).2.2
theorem m_g13 (hs : mS h m) : hR h m 13 = m + 25 := (hs.2.1 (13, 25, 101, 1503) (List.mem_of_getElem? (i := 6) rfl)).1
theorem m_t25 (hs : mS h m) : hT h (m + 25) = 101 := (hs.2.1 (13, 25, 101, 1503) (List.mem_of_getElem? (i := 6) rfl)).2.1
theorem m_n25 (hs : mS h m) : hN h (m + 25) = 1503 := (hs.2.1 (13, 25, 101, 1503) (List.mem_of_getElem? (i := 6) rfl)).2.2
theorem m_g16 (hs : mS h m) : hR h m 16 = m + 26 := (hs.2.1 (16, 26, 103, 160) (List.mem_of_getElem? (i := 7) rfl)).1
theorem m_t26 (hs : mS h m) : hT h (m + 26) = 103 := (hs.2.1 (16, 26, 103, 160) (List.mem_of_getElem? (i := 7) rfl)).2.1
theorem m_n26 (hs : mS h m) : hN h (m + 26) = 160 := (hs.2.1 (16, 26, 103, 160) (List.mem_of_getElem? (i := 7) rfl)).2.2
theorem m_g17 (hs : mS h m) : hR h m 17 = m + 27 := (hs.2.1 (17, 27, 104, 300) (List.mem_of_getElem? (i := 8) rfl)).1
theorem m_t27 (hs : mS h m) : hT h (m + 27) = 104 := (hs.2.1 (17, 27, 104, 300) (List.mem_of_getElem? (i := 8) rfl)).2.1
theorem m_n27 (hs : mS h m) : hN h (m + 27) = 300 := (hs.2.1 (17, 27, 104, 300) (List.mem_of_getElem? (i := 8) rfl)).2.2
theorem m_g18 (hs : mS h m) : hR h m 18 = m + 328 := (hs.2.1 (18, 328, 104, 300) (List.mem_of_getElem? (i := 9) rfl)).1
theorem m_t328 (hs : mS h m) : hT h (m + 328) = 104 := (hs.2.1 (18, 328, 104, 300) (List.mem_of_getElem? (i := 9) rfl)).2.1
theorem m_n328 (hs : mS h m) : hN h (m + 328) = 300 := (hs.2.1 (18, 328, 104, 300) (List.mem_of_getElem? (i := 9) rfl)).2.2
theorem m_g19 (hs : mS h m) : hR h m 19 = m + 629 := (hs.2.1 (19, 629, 104, 60) (List.mem_of_getElem? (i := 10) rfl)).1
theorem m_t629 (hs : mS h m) : hT h (m + 629) = 104 := (hs.2.1 (19, 629, 104, 60) (List.mem_of_getElem? (i := 10) rfl)).2.1
theorem m_n629 (hs : mS h m) : hN h (m + 629) = 60 := (hs.2.1 (19, 629, 104, 60) (List.mem_of_getElem? (i := 10) rfl)).2.2
theorem m_g20 (hs : mS h m) : hR h m 20 = m + 690 := (hs.2.1 (20, 690, 104, 12) (List.mem_of_getElem? (i := 11) rfl)).1
theorem m_t690 (hs : mS h m) : hT h (m + 690) = 104 := (hs.2.1 (20, 690, 104, 12) (List.mem_of_getElem? (i := 11) rfl)).2.1
theorem m_n690 (hs : mS h m) : hN h (m + 690) = 12 := (hs.2.1 (20, 690, 104, 12) (List.mem_of_getElem? (i := 11) rfl)).2.2
theorem m_g21 (hs : mS h m) : hR h m 21 = m + 703 := (hs.2.1 (21, 703, 104, 16) (List.mem_of_getElem? (i := 12) rfl)).1
theorem m_t703 (hs : mS h m) : hT h (m + 703) = 104 := (hs.2.1 (21, 703, 104, 16) (List.mem_of_getElem? (i := 12) rfl)).2.1
theorem m_n703 (hs : mS h m) : hN h (m + 703) = 16 := (hs.2.1 (21, 703, 104, 16) (List.mem_of_getElem? (i := 12) rfl)).2.2
theorem m_g22 (hs : mS h m) : hR h m 22 = m + 720 := (hs.2.1 (22, 720, 104, 60) (List.mem_of_getElem? (i := 13) rfl)).1
theorem m_t720 (hs : mS h m) : hT h (m + 720) = 104 := (hs.2.1 (22, 720, 104, 60) (List.mem_of_getElem? (i := 13) rfl)).2.1
theorem m_n720 (hs : mS h m) : hN h (m + 720) = 60 := (hs.2.1 (22, 720, 104, 60) (List.mem_of_getElem? (i := 13) rfl)).2.2
theorem m_g23 (hs : mS h m) : hR h m 23 = m + 781 := (hs.2.1 (23, 781, 104, 12) (List.mem_of_getElem? (i := 14) rfl)).1
theorem m_t781 (hs : mS h m) : hT h (m + 781) = 104 := (hs.2.1 (23, 781, 104, 12) (List.mem_of_getElem? (i := 14) rfl)).2.1
theorem m_n781 (hs : mS h m) : hN h (m + 781) = 12 := (hs.2.1 (23, 781, 104, 12) (List.mem_of_getElem? (i := 14) rfl)).2.2
theorem m_g24 (hs : mS h m) : hR h m 24 = m + 794 := (hs.2.1 (24, 794, 104, 16) (List.mem_of_getElem? (i := 15) rfl)).1
theorem m_t794 (hs : mS h m) : hT h (m + 794) = 104 := (hs.2.1 (24, 794, 104, 16) (List.mem_of_getElem? (i := 15) rfl)).2.1
theorem m_n794 (hs : mS h m) : hN h (m + 794) = 16 := (hs.2.1 (24, 794, 104, 16) (List.mem_of_getElem? (i := 15) rfl)).2.2
theorem m_g34 (hs : mS h m) : hR h m 34 = m + 811 := (hs.2.1 (34, 811, 101, 1503) (List.mem_of_getElem? (i := 16) rfl)).1
theorem m_t811 (hs : mS h m) : hT h (m + 811) = 101 := (hs.2.1 (34, 811, 101, 1503) (List.mem_of_getElem? (i := 16) rfl)).2.1
theorem m_n811 (hs : mS h m) : hN h (m + 811) = 1503 := (hs.2.1 (34, 811, 101, 1503) (List.mem_of_getElem? (i := 16) rfl)).2.2
theorem m_g35 (hs : mS h m) : hR h m 35 = m + 812 := (hs.2.1 (35, 812, 100, 400) (List.mem_of_getElem? (i := 17) rfl)).1
theorem m_t812 (hs : mS h m) : hT h (m + 812) = 100 := (hs.2.1 (35, 812, 100, 400) (List.mem_of_getElem? (i := 17) rfl)).2.1
theorem m_n812 (hs : mS h m) : hN h (m + 812) = 400 := (hs.2.1 (35, 812, 100, 400) (List.mem_of_getElem? (i := 17) rfl)).2.2
theorem m_g39 (hs : mS h m) : hR h m 39 = m + 813 := (hs.2.1 (39, 813, 100, 16) (List.mem_of_getElem? (i := 18) rfl)).1
theorem m_t813 (hs : mS h m) : hT h (m + 813) = 100 := (hs.2.1 (39, 813, 100, 16) (List.mem_of_getElem? (i := 18) rfl)).2.1
theorem m_n813 (hs : mS h m) : hN h (m + 813) = 16 := (hs.2.1 (39, 813, 100, 16) (List.mem_of_getElem? (i := 18) rfl)).2.2
theorem m_g40 (hs : mS h m) : hR h m 40 = m + 814 := (hs.2.1 (40, 814, 100, 16) (List.mem_of_getElem? (i := 19) rfl)).1
theorem m_t814 (hs : mS h m) : hT h (m + 814) = 100 := (hs.2.1 (40, 814, 100, 16) (List.mem_of_getElem? (i := 19) rfl)).2.1
theorem m_n814 (hs : mS h m) : hN h (m + 814) = 16 := (hs.2.1 (40, 814, 100, 16) (List.mem_of_getElem? (i := 19) rfl)).2.2
theorem m_g41 (hs : mS h m) : hR h m 41 = m + 815 := (hs.2.1 (41, 815, 100, 16) (List.mem_of_getElem? (i := 20) rfl)).1
theorem m_t815 (hs : mS h m) : hT h (m + 815) = 100 := (hs.2.1 (41, 815, 100, 16) (List.mem_of_getElem? (i := 20) rfl)).2.1
theorem m_n815 (hs : mS h m) : hN h (m + 815) = 16 := (hs.2.1 (41, 815, 100, 16) (List.mem_of_getElem? (i := 20) rfl)).2.2
theorem m_g42 (hs : mS h m) : hR h m 42 = m + 816 := (hs.2.1 (42, 816, 100, 16) (List.mem_of_getElem? (i := 21) rfl)).1
theorem m_t816 (hs : mS h m) : hT h (m + 816) = 100 := (hs.2.1 (42, 816, 100, 16) (List.mem_of_getElem? (i := 21) rfl)).2.1
theorem m_n816 (hs : mS h m) : hN h (m + 816) = 16 := (hs.2.1 (42, 816, 100, 16) (List.mem_of_getElem? (i := 21) rfl)).2.2
theorem m_g43 (hs : mS h m) : hR h m 43 = m + 817 := (hs.2.1 (43, 817, 100, 16) (List.mem_of_getElem? (i := 22) rfl)).1
theorem m_t817 (hs : mS h m) : hT h (m + 817) = 100 := (hs.2.1 (43, 817, 100, 16) (List.mem_of_getElem? (i := 22) rfl)).2.1
theorem m_n817 (hs : mS h m) : hN h (m + 817) = 16 := (hs.2.1 (43, 817, 100, 16) (List.mem_of_getElem? (i := 22) rfl)).2.2
theorem m_g44 (hs : mS h m) : hR h m 44 = m + 818 := (hs.2.1 (44, 818, 101, 16) (List.mem_of_getElem? (i := 23) rfl)).1
theorem m_t818 (hs : mS h m) : hT h (m + 818) = 101 := (hs.2.1 (44, 818, 101, 16) (List.mem_of_getElem? (i := 23) rfl)).2.1
theorem m_n818 (hs : mS h m) : hN h (m + 818) = 16 := (hs.2.1 (44, 818, 101, 16) (List.mem_of_getElem? (i := 23) rfl)).2.2
theorem m_g48 (hs : mS h m) : hR h m 48 = m + 819 := (hs.2.1 (48, 819, 100, 300) (List.mem_of_getElem? (i := 24) rfl)).1
theorem m_t819 (hs : mS h m) : hT h (m + 819) = 100 := (hs.2.1 (48, 819, 100, 300) (List.mem_of_getElem? (i := 24) rfl)).2.1
theorem m_n819 (hs : mS h m) : hN h (m + 819) = 300 := (hs.2.1 (48, 819, 100, 300) (List.mem_of_getElem? (i := 24) rfl)).2.2
theorem m_g49 (hs : mS h m) : hR h m 49 = m + 820 := (hs.2.1 (49, 820, 100, 200) (List.mem_of_getElem? (i := 25) rfl)).1
theorem m_t820 (hs : mS h m) : hT h (m + 820) = 100 := (hs.2.1 (49, 820, 100, 200) (List.mem_of_getElem? (i := 25) rfl)).2.1
theorem m_n820 (hs : mS h m) : hN h (m + 820) = 200 := (hs.2.1 (49, 820, 100, 200) (List.mem_of_getElem? (i := 25) rfl)).2.2
theorem m_g50 (hs : mS h m) : hR h m 50 = m + 821 := (hs.2.1 (50, 821, 100, 8) (List.mem_of_getElem? (i := 26) rfl)).1
theorem m_t821 (hs : mS h m) : hT h (m + 821) = 100 := (hs.2.1 (50, 821, 100, 8) (List.mem_of_getElem? (i := 26) rfl)).2.1
theorem m_n821 (hs : mS h m) : hN h (m + 821) = 8 := (hs.2.1 (50, 821, 100, 8) (List.mem_of_getElem? (i := 26) rfl)).2.2
theorem m_g51 (hs : mS h m) : hR h m 51 = m + 822 := (hs.2.1 (51, 822, 101, 200) (List.mem_of_getElem? (i := 27) rfl)).1
theorem m_t822 (hs : mS h m) : hT h (m + 822) = 101 := (hs.2.1 (51, 822, 101, 200) (List.mem_of_getElem? (i := 27) rfl)).2.1
theorem m_n822 (hs : mS h m) : hN h (m + 822) = 200 := (hs.2.1 (51, 822, 101, 200) (List.mem_of_getElem? (i := 27) rfl)).2.2
theorem m_q0 (hs : mS h m) : hR h (m + 3) 0 = m + 4 := (hs.2.2 (3, 2, 101, 1503) (List.mem_of_getElem? (i := 0) rfl) 0 (by decide)).1
theorem m_q0t (hs : mS h m) : hT h (m + 4) = 101 := (hs.2.2 (3, 2, 101, 1503) (List.mem_of_getElem? (i := 0) rfl) 0 (by decide)).2.1
theorem m_q0n (hs : mS h m) : hN h (m + 4) = 1503 := (hs.2.2 (3, 2, 101, 1503) (List.mem_of_getElem? (i := 0) rfl) 0 (by decide)).2.2
theorem m_q1 (hs : mS h m) : hR h (m + 3) 1 = m + 5 := (hs.2.2 (3, 2, 101, 1503) (List.mem_of_getElem? (i := 0) rfl) 1 (by decide)).1
theorem m_q1t (hs : mS h m) : hT h (m + 5) = 101 := (hs.2.2 (3, 2, 101, 1503) (List.mem_of_getElem? (i := 0) rfl) 1 (by decide)).2.1
theorem m_q1n (hs : mS h m) : hN h (m + 5) = 1503 := (hs.2.2 (3, 2, 101, 1503) (List.mem_of_getElem? (i := 0) rfl) 1 (by decide)).2.2
theorem m_r3 (hs : mS h m) (i : Nat) (hi : i < 2) : hR h (m + 3) i = m + 4 + i := (hs.2.2 (3, 2, 101, 1503) (List.mem_of_getElem? (i := 0) rfl) i hi).1
theorem m_rt3 (hs : mS h m) (i : Nat) (hi : i < 2) : hT h (m + 4 + i) = 101 := (hs.2.2 (3, 2, 101, 1503) (List.mem_of_getElem? (i := 0) rfl) i hi).2.1
theorem m_rn3 (hs : mS h m) (i : Nat) (hi : i < 2) : hN h (m + 4 + i) = 1503 := (hs.2.2 (3, 2, 101, 1503) (List.mem_of_getElem? (i := 0) rfl) i hi).2.2
theorem m_r6 (hs : mS h m) (i : Nat) (hi : i < 8) : hR h (m + 6) i = m + 7 + i := (hs.2.2 (6, 8, 101, 1503) (List.mem_of_getElem? (i := 1) rfl) i hi).1
theorem m_rt6 (hs : mS h m) (i : Nat) (hi : i < 8) : hT h (m + 7 + i) = 101 := (hs.2.2 (6, 8, 101, 1503) (List.mem_of_getElem? (i := 1) rfl) i hi).2.1
theorem m_rn6 (hs : mS h m) (i : Nat) (hi : i < 8) : hN h (m + 7 + i) = 1503 := (hs.2.2 (6, 8, 101, 1503) (List.mem_of_getElem? (i := 1) rfl) i hi).2.2
theorem m_r15 (hs : mS h m) (i : Nat) (hi : i < 8) : hR h (m + 15) i = m + 16 + i := (hs.2.2 (15, 8, 101, 1503) (List.mem_of_getElem? (i := 2) rfl) i hi).1
theorem m_rt15 (hs : mS h m) (i : Nat) (hi : i < 8) : hT h (m + 16 + i) = 101 := (hs.2.2 (15, 8, 101, 1503) (List.mem_of_getElem? (i := 2) rfl) i hi).2.1
theorem m_rn15 (hs : mS h m) (i : Nat) (hi : i < 8) : hN h (m + 16 + i) = 1503 := (hs.2.2 (15, 8, 101, 1503) (List.mem_of_getElem? (i := 2) rfl) i hi).2.2
theorem m_r27 (hs : mS h m) (i : Nat) (hi : i < 300) : hR h (m + 27) i = m + 28 + i := (hs.2.2 (27, 300, 100, 4) (List.mem_of_getElem? (i := 3) rfl) i hi).1
theorem m_rt27 (hs : mS h m) (i : Nat) (hi : i < 300) : hT h (m + 28 + i) = 100 := (hs.2.2 (27, 300, 100, 4) (List.mem_of_getElem? (i := 3) rfl) i hi).2.1
theorem m_rn27 (hs : mS h m) (i : Nat) (hi : i < 300) : hN h (m + 28 + i) = 4 := (hs.2.2 (27, 300, 100, 4) (List.mem_of_getElem? (i := 3) rfl) i hi).2.2
theorem m_r328 (hs : mS h m) (i : Nat) (hi : i < 300) : hR h (m + 328) i = m + 329 + i := (hs.2.2 (328, 300, 100, 4) (List.mem_of_getElem? (i := 4) rfl) i hi).1
theorem m_rt328 (hs : mS h m) (i : Nat) (hi : i < 300) : hT h (m + 329 + i) = 100 := (hs.2.2 (328, 300, 100, 4) (List.mem_of_getElem? (i := 4) rfl) i hi).2.1
theorem m_rn328 (hs : mS h m) (i : Nat) (hi : i < 300) : hN h (m + 329 + i) = 4 := (hs.2.2 (328, 300, 100, 4) (List.mem_of_getElem? (i := 4) rfl) i hi).2.2
theorem m_r629 (hs : mS h m) (i : Nat) (hi : i < 60) : hR h (m + 629) i = m + 630 + i := (hs.2.2 (629, 60, 100, 3) (List.mem_of_getElem? (i := 5) rfl) i hi).1
theorem m_rt629 (hs : mS h m) (i : Nat) (hi : i < 60) : hT h (m + 630 + i) = 100 := (hs.2.2 (629, 60, 100, 3) (List.mem_of_getElem? (i := 5) rfl) i hi).2.1
theorem m_rn629 (hs : mS h m) (i : Nat) (hi : i < 60) : hN h (m + 630 + i) = 3 := (hs.2.2 (629, 60, 100, 3) (List.mem_of_getElem? (i := 5) rfl) i hi).2.2
theorem m_r690 (hs : mS h m) (i : Nat) (hi : i < 12) : hR h (m + 690) i = m + 691 + i := (hs.2.2 (690, 12, 100, 2) (List.mem_of_getElem? (i := 6) rfl) i hi).1
theorem m_rt690 (hs : mS h m) (i : Nat) (hi : i < 12) : hT h (m + 691 + i) = 100 := (hs.2.2 (690, 12, 100, 2) (List.mem_of_getElem? (i := 6) rfl) i hi).2.1
theorem m_rn690 (hs : mS h m) (i : Nat) (hi : i < 12) : hN h (m + 691 + i) = 2 := (hs.2.2 (690, 12, 100, 2) (List.mem_of_getElem? (i := 6) rfl) i hi).2.2
theorem m_r703 (hs : mS h m) (i : Nat) (hi : i < 16) : hR h (m + 703) i = m + 704 + i := (hs.2.2 (703, 16, 100, 3) (List.mem_of_getElem? (i := 7) rfl) i hi).1
theorem m_rt703 (hs : mS h m) (i : Nat) (hi : i < 16) : hT h (m + 704 + i) = 100 := (hs.2.2 (703, 16, 100, 3) (List.mem_of_getElem? (i := 7) rfl) i hi).2.1
theorem m_rn703 (hs : mS h m) (i : Nat) (hi : i < 16) : hN h (m + 704 + i) = 3 := (hs.2.2 (703, 16, 100, 3) (List.mem_of_getElem? (i := 7) rfl) i hi).2.2
theorem m_r720 (hs : mS h m) (i : Nat) (hi : i < 60) : hR h (m + 720) i = m + 721 + i := (hs.2.2 (720, 60, 100, 3) (List.mem_of_getElem? (i := 8) rfl) i hi).1
theorem m_rt720 (hs : mS h m) (i : Nat) (hi : i < 60) : hT h (m + 721 + i) = 100 := (hs.2.2 (720, 60, 100, 3) (List.mem_of_getElem? (i := 8) rfl) i hi).2.1
theorem m_rn720 (hs : mS h m) (i : Nat) (hi : i < 60) : hN h (m + 721 + i) = 3 := (hs.2.2 (720, 60, 100, 3) (List.mem_of_getElem? (i := 8) rfl) i hi).2.2
theorem m_r781 (hs : mS h m) (i : Nat) (hi : i < 12) : hR h (m + 781) i = m + 782 + i := (hs.2.2 (781, 12, 100, 2) (List.mem_of_getElem? (i := 9) rfl) i hi).1
theorem m_rt781 (hs : mS h m) (i : Nat) (hi : i < 12) : hT h (m + 782 + i) = 100 := (hs.2.2 (781, 12, 100, 2) (List.mem_of_getElem? (i := 9) rfl) i hi).2.1
theorem m_rn781 (hs : mS h m) (i : Nat) (hi : i < 12) : hN h (m + 782 + i) = 2 := (hs.2.2 (781, 12, 100, 2) (List.mem_of_getElem? (i := 9) rfl) i hi).2.2
theorem m_r794 (hs : mS h m) (i : Nat) (hi : i < 16) : hR h (m + 794) i = m + 795 + i := (hs.2.2 (794, 16, 100, 3) (List.mem_of_getElem? (i := 10) rfl) i hi).1
theorem m_rt794 (hs : mS h m) (i : Nat) (hi : i < 16) : hT h (m + 795 + i) = 100 := (hs.2.2 (794, 16, 100, 3) (List.mem_of_getElem? (i := 10) rfl) i hi).2.1
theorem m_rn794 (hs : mS h m) (i : Nat) (hi : i < 16) : hN h (m + 795 + i) = 3 := (hs.2.2 (794, 16, 100, 3) (List.mem_of_getElem? (i := 10) rfl) i hi).2.2
end MSL
theorem mS_eq {h h' : pm_H} {m : Nat} (h1 : hT h' = hT h) (h2 : hN h' = hN h) (h3 : ∀ k, m ≤ k → hR h' k = hR h k) (hs : mS h m) : mS h' m := by
  unfold mS at *
  rw [h1, h2, h3 m (Nat.le_refl _)]
  refine ⟨hs.1, hs.2.1, fun e he i hi => ?_⟩
  rw [h3 (m + e.1) (Nat.le_add_right _ _)]
  exact hs.2.2 e he i hi
def q0 : Qs := (0, 0, fun _ => 0, fun _ => 0, fun _ => 0, fun _ => 0, [])
def hs0 : Hs := (1, q0, q0)
def mQ (h : pm_H) (q : Nat) (A : Qs) (B : Nat) : Prop := ∃ sn st, isQ h q A sn st ∧ qT A sn st ∧ st ≤ B ∧ ∀ i, i < qC A → qM A i ≤ B
theorem isQ_eq {h h' : pm_H} {q st : Nat} {A : Qs} {sn : Nat → Nat} (h1 : hT h' = hT h) (h2 : hN h' = hN h) (h3 : hL h' q = hL h q) (hq : isQ h q A sn st) : isQ h' q A sn st := by
  unfold isQ at *
  rw [h1, h2, h3]
  exact hq
theorem mQ_eq {h h' : pm_H} {q B : Nat} {A : Qs} (h1 : hT h' = hT h) (h2 : hN h' = hN h) (h3 : hL h' q = hL h q) (hq : mQ h q A B) : mQ h' q A B := by
  obtain ⟨sn, st, a, b⟩ := hq
  exact ⟨sn, st, isQ_eq h1 h2 h3 a, b⟩
theorem mQ_up {h : pm_H} {q B B' : Nat} {A : Qs} (hb : B ≤ B') (hq : mQ h q A B) : mQ h q A B' := by
  obtain ⟨sn, st, a, b, c, e⟩ := hq
  exact ⟨sn, st, a, b, Nat.le_trans c hb, fun i hi => Nat.le_trans (e i hi) hb⟩
theorem mQ_sL {h : pm_H} {q k B : Nat} {A : Qs} {g : Nat → Int64} (hne : q ≠ k) (hq : mQ h q A B) : mQ (sL h k g) q A B := mQ_eq (h := h) rfl rfl (by rw [hP7, va_up_ne _ _ hne]) hq
theorem mQ_sI {h : pm_H} {q k B : Nat} {A : Qs} {g : Nat → Int32} (hq : mQ h q A B) : mQ (sI h k g) q A B := mQ_eq (h := h) rfl rfl rfl hq
theorem mQ_cpy {h : pm_H} {a q B : Nat} {A : Qs} {g : Nat → Int64} (hq : mQ h a A B) (hC : qC A ≤ 300) (ht : hT h q = 101) (hn : hN h q = 1503) (hg : ∀ j, j < 1503 → g j = hL h a j) : mQ (sL h q g) q A B := by
  obtain ⟨sn, st, a, b⟩ := hq
  exact ⟨sn, st, q_cpy a hC ht hn hg, b⟩
def mRow (h : pm_H) (m i : Nat) (S : Hs) (B : Nat) : Prop := mQ h (m + 7 + i) S.2.1 B ∧ mQ h (m + 16 + i) S.2.2 B ∧ hI h (m + 24) i = nI S.1
def mP (h : pm_H) (m : Nat) (P : List Hs) (B : Nat) : Prop := P.length ≤ 8 ∧ hI h m 15 = nI P.length ∧ (∀ S, S ∈ P → hJ S) ∧ ∀ i, i < P.length → mRow h m i (P.getD i hs0) B
def isM (h : pm_H) (m : Nat) (H : Hs) (P : List Hs) (B : Nat) : Prop := mS h m ∧ hI h m 14 = nI H.1 ∧ hJ H ∧ mQ h (m + 4) H.2.1 B ∧ mQ h (m + 5) H.2.2 B ∧ mP h m P B
/-- nothing changed but what was before -/
def frK (m : Nat) (h h' : pm_H) : Prop := hT h' = hT h ∧ hN h' = hN h ∧ hR h' = hR h ∧ hn h' = hn h ∧ (∀ j, j ≠ 15 → hI h' m j = hI h m j) ∧ (∀ k, k ≠ m → k ≠ m + 24 → hI h' k = hI h k) ∧ ∀ k, (k < m + 7 ∨ m + 24 ≤ k) → hL h' k = hL h k
theorem frK_trans {m : Nat} {h h1 h2 : pm_H} (a : frK m h h1) (b : frK m h1 h2) : frK m h h2 :=
  ⟨b.1.trans a.1, b.2.1.trans a.2.1, b.2.2.1.trans a.2.2.1, b.2.2.2.1.trans a.2.2.2.1, fun j q => (b.2.2.2.2.1 j q).trans (a.2.2.2.2.1 j q), fun k q1 q2 => (b.2.2.2.2.2.1 k q1 q2).trans (a.2.2.2.2.2.1 k q1 q2), fun k q => (b.2.2.2.2.2.2 k q).trans (a.2.2.2.2.2.2 k q)⟩
theorem mRow_eq {h h' : pm_H} {m i B : Nat} {S : Hs} (h1 : hT h' = hT h) (h2 : hN h' = hN h) (h3 : hL h' (m + 7 + i) = hL h (m + 7 + i)) (h4 : hL h' (m + 16 + i) = hL h (m + 16 + i)) (h5 : hI h' (m + 24) i = hI h (m + 24) i) (hr : mRow h m i S B) : mRow h' m i S B :=
  ⟨mQ_eq h1 h2 h3 hr.1, mQ_eq h1 h2 h4 hr.2.1, h5.trans hr.2.2⟩
theorem getD_mem8 {P : List Hs} {i : Nat} (hi : i < P.length) : P.getD i hs0 ∈ P := by
  rw [List.getD_eq_getElem?_getD, List.getElem?_eq_getElem hi]
  exact List.getElem_mem hi
theorem getD_apH {L : List Hs} {y : Hs} {j : Nat} (hj : j < L.length) : (L ++ [y]).getD j hs0 = L.getD j hs0 := by
  rw [List.getD_eq_getElem?_getD, List.getElem?_append_left hj, ← List.getD_eq_getElem?_getD]
theorem getD_laH {L : List Hs} {y : Hs} : (L ++ [y]).getD L.length hs0 = y := by
  rw [List.getD_eq_getElem?_getD, List.getElem?_append_right (Nat.le_refl _), Nat.sub_self]; rfl
theorem l1022 (d : Nat) {m B : Nat} {P : List Hs} {Q : pm_Q} (hPl : P.length = 8) (hJP : ∀ S, S ∈ P → hJ S) :
    ∀ (n k : Nat) (h : pm_H), n + k = 8 → 1 ≤ k → mS h m → (∀ i, i < 8 → mRow h m i (P.getD (if i + 1 < k then i + 1 else i) hs0) B) →
      (∀ h', (∀ i, i < 7 → mRow h' m i (P.getD (i + 1) hs0) B) → frK m h h' → hI h' m 15 = hI h m 15 → pm_W PP (d + 1) 1022 Q 0 0 71 [some (.ref m), some (.int (nI 8))] [] h') →
      pm_W PP (d + 1) 1022 Q 0 0 11 [some (.ref m), some (.int (nI k))] [] h := by
  intro n
  induction n with
  | zero =>
    intro k h hk h1 hs hr hQ
    have e : k = 8 := by omega
    subst e
    rw [u_1022_11]
    simp (disch := omega) only [B_1022_11, nI1T, Nat.left_eq_add, Nat.add_eq_left, Nat.add_eq_zero_iff, and_false, false_and, if_false, if_true, opsN, opsC, pm_1, lg, ls1, ls2, lq, List.length_cons, List.length_nil, cN, cL, callE, retV, retN, pm_pop, pm_cat, List.map_cons, List.map_nil, List.sum_cons, List.sum_nil, Value.category, Option.toList, List.cons_append, List.nil_append, ↓reduceIte, reduceCtorEq, Nat.reduceAdd, Nat.reduceLT, Nat.reduceLeDiff, Nat.reduceSub, Nat.reduceEqDiff, Nat.zero_le, Nat.sub_zero, Nat.le_refl, true_and, and_true, not_true_eq_false, not_false_eq_true, true_or, or_true, lc_eq, lc_ne, lc_lt, lc_ge, lc_gt, lc_le, nI_add, lN_add, nI_leI, nI_ltI, nI_eq, nI_clamp, pk_lLT, pk_lLE, pk_lEQ, pk_sub, vp_inT, nz_eq, nz_lt, nz_ge, nz_gt, nz_le, lz_eq, lz_lt, lz_ge, hP1, hP2, hP3, hP4, hP5, hP6, hP7, hP8, hP9, hP10, hP11, hP12, hP13, hP14, hP15, hP16, hP17, hP18, hP19, hP20]
    refine hQ h (fun i hi => ?_) ⟨rfl, rfl, rfl, rfl, fun _ _ => rfl, fun _ _ _ => rfl, fun _ _ => rfl⟩ rfl
    have := hr i (by omega)
    rw [if_pos (by omega)] at this
    exact this
  | succ n ih =>
    intro k h hk h1 hs hr hQ
    have c : ¬ 8 ≤ k := by omega
    have hrk := hr k (by omega)
    rw [if_neg (by omega)] at hrk
    have hjk := hJP _ (getD_mem8 (P := P) (i := k) (by omega))
    have hC1 : qC (P.getD k hs0).2.1 ≤ 300 := by have := hjk.1.2.2.1; omega
    have hC2 : qC (P.getD k hs0).2.2 ≤ 300 := by have := hjk.2.2.2.1; omega
    rw [u_1022_11]
    simp (disch := omega) only [B_1022_11, nI1T, Nat.left_eq_add, Nat.add_eq_left, Nat.add_eq_zero_iff, and_false, false_and, if_false, if_true, opsN, opsC, pm_1, lg, ls1, ls2, lq, List.length_cons, List.length_nil, cN, cL, callE, retV, retN, pm_pop, pm_cat, List.map_cons, List.map_nil, List.sum_cons, List.sum_nil, Value.category, Option.toList, List.cons_append, List.nil_append, ↓reduceIte, reduceCtorEq, Nat.reduceAdd, Nat.reduceLT, Nat.reduceLeDiff, Nat.reduceSub, Nat.reduceEqDiff, Nat.zero_le, Nat.sub_zero, Nat.le_refl, true_and, and_true, not_true_eq_false, not_false_eq_true, true_or, or_true, lc_eq, lc_ne, lc_lt, lc_ge, lc_gt, lc_le, nI_add, lN_add, nI_leI, nI_ltI, nI_eq, nI_clamp, pk_lLT, pk_lLE, pk_lEQ, pk_sub, vp_inT, nz_eq, nz_lt, nz_ge, nz_gt, nz_le, lz_eq, lz_lt, lz_ge, hP1, hP2, hP3, hP4, hP5, hP6, hP7, hP8, hP9, hP10, hP11, hP12, hP13, hP14, hP15, hP16, hP17, hP18, hP19, hP20, c, hs.1, m_g10 hs, m_t6 hs, m_n6 hs, m_r6 hs, m_rt6 hs, m_rn6 hs, m_g11 hs, m_t15 hs, m_n15 hs, m_r15 hs, m_rt15 hs, m_rn15 hs, m_g12 hs, m_t24 hs, m_n24 hs]
    refine c1021 d (by omega) (m_rt6 hs k (by omega)) (m_rn6 hs k (by omega)) (m_rt6 hs (k - 1) (by omega)) (m_rn6 hs (k - 1) (by omega)) ?_
    intro g1 hg1
    simp (disch := omega) only [nI1T, Nat.left_eq_add, Nat.add_eq_left, Nat.add_eq_zero_iff, and_false, false_and, if_false, if_true, opsN, opsC, pm_1, lg, ls1, ls2, lq, List.length_cons, List.length_nil, cN, cL, callE, retV, retN, pm_pop, pm_cat, List.map_cons, List.map_nil, List.sum_cons, List.sum_nil, Value.category, Option.toList, List.cons_append, List.nil_append, ↓reduceIte, reduceCtorEq, Nat.reduceAdd, Nat.reduceLT, Nat.reduceLeDiff, Nat.reduceSub, Nat.reduceEqDiff, Nat.zero_le, Nat.sub_zero, Nat.le_refl, true_and, and_true, not_true_eq_false, not_false_eq_true, true_or, or_true, lc_eq, lc_ne, lc_lt, lc_ge, lc_gt, lc_le, nI_add, lN_add, nI_leI, nI_ltI, nI_eq, nI_clamp, pk_lLT, pk_lLE, pk_lEQ, pk_sub, vp_inT, nz_eq, nz_lt, nz_ge, nz_gt, nz_le, lz_eq, lz_lt, lz_ge, hP1, hP2, hP3, hP4, hP5, hP6, hP7, hP8, hP9, hP10, hP11, hP12, hP13, hP14, hP15, hP16, hP17, hP18, hP19, hP20, hs.1, m_g10 hs, m_t6 hs, m_n6 hs, m_r6 hs, m_rt6 hs, m_rn6 hs, m_g11 hs, m_t15 hs, m_n15 hs, m_r15 hs, m_rt15 hs, m_rn15 hs, m_g12 hs, m_t24 hs, m_n24 hs]
    refine c1021 d (by omega) (m_rt15 hs k (by omega)) (m_rn15 hs k (by omega)) (m_rt15 hs (k - 1) (by omega)) (m_rn15 hs (k - 1) (by omega)) ?_
    intro g2 hg2
    have e12 : ¬ m + 16 + k = m + 7 + (k - 1) := by omega
    have hg2' : ∀ j, j < 1503 → g2 j = hL h (m + 16 + k) j := fun j hj => by
      rw [hg2 j hj, hP7, va_upE, if_neg e12]
    simp (disch := omega) only [nI1T, Nat.left_eq_add, Nat.add_eq_left, Nat.add_eq_zero_iff, and_false, false_and, if_false, if_true, opsN, opsC, pm_1, lg, ls1, ls2, lq, List.length_cons, List.length_nil, cN, cL, callE, retV, retN, pm_pop, pm_cat, List.map_cons, List.map_nil, List.sum_cons, List.sum_nil, Value.category, Option.toList, List.cons_append, List.nil_append, ↓reduceIte, reduceCtorEq, Nat.reduceAdd, Nat.reduceLT, Nat.reduceLeDiff, Nat.reduceSub, Nat.reduceEqDiff, Nat.zero_le, Nat.sub_zero, Nat.le_refl, true_and, and_true, not_true_eq_false, not_false_eq_true, true_or, or_true, lc_eq, lc_ne, lc_lt, lc_ge, lc_gt, lc_le, nI_add, lN_add, nI_leI, nI_ltI, nI_eq, nI_clamp, pk_lLT, pk_lLE, pk_lEQ, pk_sub, vp_inT, nz_eq, nz_lt, nz_ge, nz_gt, nz_le, lz_eq, lz_lt, lz_ge, hP1, hP2, hP3, hP4, hP5, hP6, hP7, hP8, hP9, hP10, hP11, hP12, hP13, hP14, hP15, hP16, hP17, hP18, hP19, hP20, hs.1, m_g10 hs, m_t6 hs, m_n6 hs, m_r6 hs, m_rt6 hs, m_rn6 hs, m_g11 hs, m_t15 hs, m_n15 hs, m_r15 hs, m_rt15 hs, m_rn15 hs, m_g12 hs, m_t24 hs, m_n24 hs]
    refine ih (k + 1) _ (by omega) (by omega) (mS_eq (h := h) rfl rfl (fun _ _ => rfl) hs) (fun i hi => ?_) (fun h' hh hf h15 => hQ h' hh (frK_trans ?_ hf) ?_)
    · by_cases e : i = k - 1
      · subst e
        rw [if_pos (by omega), show k - 1 + 1 = k by omega]
        refine ⟨mQ_sI (mQ_sL (by omega) (mQ_cpy hrk.1 hC1 (m_rt6 hs (k - 1) (by omega)) (m_rn6 hs (k - 1) (by omega)) hg1)), mQ_sI ?_, ?_⟩
        · have hb := mQ_cpy (q := m + 16 + (k - 1)) (g := g2) hrk.2.1 hC2 (m_rt15 hs (k - 1) (by omega)) (m_rn15 hs (k - 1) (by omega)) hg2'
          exact mQ_eq (h := sL h (m + 16 + (k - 1)) g2) rfl rfl (by rw [hP7, va_up_self, hP7, va_up_self]) hb
        · rw [hP1, va_up_self, va_up_self]; exact hrk.2.2
      · have hri := hr i hi
        rw [show (if i + 1 < k + 1 then i + 1 else i) = (if i + 1 < k then i + 1 else i) by split <;> split <;> omega]
        refine mRow_eq (h := h) rfl rfl ?_ ?_ ?_ hri
        · rw [hP2, hP7, va_up_ne _ _ (by omega), hP7, va_up_ne _ _ (by omega)]
        · rw [hP2, hP7, va_up_ne _ _ (by omega), hP7, va_up_ne _ _ (by omega)]
        · rw [hP1, va_up_self, va_up_ne _ _ (by omega)]
    · refine ⟨rfl, rfl, rfl, rfl, fun j _ => ?_, fun j q1 q2 => ?_, fun j q => ?_⟩
      · rw [hP1, va_up_ne _ _ (by omega)]; rfl
      · rw [hP1, va_up_ne _ _ q2]; rfl
      · rw [hP2, hP7, va_up_ne _ _ (by omega), hP7, va_up_ne _ _ (by omega)]
    · rw [h15, hP1, va_up_ne _ _ (by omega)]; rfl
theorem x1022 (d : Nat) {h : pm_H} {m B : Nat} {H : Hs} {P : List Hs} {Q : pm_Q} {a1 : Option Value} (hM : isM h m H P B) (hl : P.length < 8)
    (hQ : ∀ h', isM h' m H (P ++ [H]) B → frK m h h' → Q (.inl none) h') : pm_W PP (d + 1) 1022 Q 0 0 81 [some (.ref m), a1] [] h := by
  obtain ⟨hs, f14, hj, q1, q2, p1, p2, p3, p4⟩ := hM
  have hC1 : qC H.2.1 ≤ 300 := by have := hj.1.2.2.1; omega
  have hC2 : qC H.2.2 ≤ 300 := by have := hj.2.2.2.1; omega
  simp (disch := omega) only [u_1022_81, B_1022_81, nI1T, Nat.left_eq_add, Nat.add_eq_left, Nat.add_eq_zero_iff, and_false, false_and, if_false, if_true, opsN, opsC, pm_1, lg, ls1, ls2, lq, List.length_cons, List.length_nil, cN, cL, callE, retV, retN, pm_pop, pm_cat, List.map_cons, List.map_nil, List.sum_cons, List.sum_nil, Value.category, Option.toList, List.cons_append, List.nil_append, ↓reduceIte, reduceCtorEq, Nat.reduceAdd, Nat.reduceLT, Nat.reduceLeDiff, Nat.reduceSub, Nat.reduceEqDiff, Nat.zero_le, Nat.sub_zero, Nat.le_refl, true_and, and_true, not_true_eq_false, not_false_eq_true, true_or, or_true, lc_eq, lc_ne, lc_lt, lc_ge, lc_gt, lc_le, nI_add, lN_add, nI_leI, nI_ltI, nI_eq, nI_clamp, pk_lLT, pk_lLE, pk_lEQ, pk_sub, vp_inT, nz_eq, nz_lt, nz_ge, nz_gt, nz_le, lz_eq, lz_lt, lz_ge, hP1, hP2, hP3, hP4, hP5, hP6, hP7, hP8, hP9, hP10, hP11, hP12, hP13, hP14, hP15, hP16, hP17, hP18, hP19, hP20, hs.1, m_g9 hs, m_t3 hs, m_n3 hs, m_q0 hs, m_q1 hs, m_q0t hs, m_q1t hs, m_q0n hs, m_q1n hs, m_g10 hs, m_t6 hs, m_n6 hs, m_r6 hs, m_rt6 hs, m_rn6 hs, m_g11 hs, m_t15 hs, m_n15 hs, m_r15 hs, m_rt15 hs, m_rn15 hs, m_g12 hs, m_t24 hs, m_n24 hs, p2]
  refine c1021 d (by omega) (m_q0t hs) (m_q0n hs) (m_rt6 hs _ hl) (m_rn6 hs _ hl) ?_
  intro g1 hg1
  simp (disch := omega) only [nI1T, Nat.left_eq_add, Nat.add_eq_left, Nat.add_eq_zero_iff, and_false, false_and, if_false, if_true, opsN, opsC, pm_1, lg, ls1, ls2, lq, List.length_cons, List.length_nil, cN, cL, callE, retV, retN, pm_pop, pm_cat, List.map_cons, List.map_nil, List.sum_cons, List.sum_nil, Value.category, Option.toList, List.cons_append, List.nil_append, ↓reduceIte, reduceCtorEq, Nat.reduceAdd, Nat.reduceLT, Nat.reduceLeDiff, Nat.reduceSub, Nat.reduceEqDiff, Nat.zero_le, Nat.sub_zero, Nat.le_refl, true_and, and_true, not_true_eq_false, not_false_eq_true, true_or, or_true, lc_eq, lc_ne, lc_lt, lc_ge, lc_gt, lc_le, nI_add, lN_add, nI_leI, nI_ltI, nI_eq, nI_clamp, pk_lLT, pk_lLE, pk_lEQ, pk_sub, vp_inT, nz_eq, nz_lt, nz_ge, nz_gt, nz_le, lz_eq, lz_lt, lz_ge, hP1, hP2, hP3, hP4, hP5, hP6, hP7, hP8, hP9, hP10, hP11, hP12, hP13, hP14, hP15, hP16, hP17, hP18, hP19, hP20, hs.1, m_g9 hs, m_t3 hs, m_n3 hs, m_q0 hs, m_q1 hs, m_q0t hs, m_q1t hs, m_q0n hs, m_q1n hs, m_g10 hs, m_t6 hs, m_n6 hs, m_r6 hs, m_rt6 hs, m_rn6 hs, m_g11 hs, m_t15 hs, m_n15 hs, m_r15 hs, m_rt15 hs, m_rn15 hs, m_g12 hs, m_t24 hs, m_n24 hs, p2]
  refine c1021 d (by omega) (m_q1t hs) (m_q1n hs) (m_rt15 hs _ hl) (m_rn15 hs _ hl) ?_
  intro g2 hg2
  have hg2' : ∀ j, j < 1503 → g2 j = hL h (m + 5) j := fun j hj => by
    rw [hg2 j hj, hP7, va_up_ne _ _ (by omega)]
  simp (disch := omega) only [nI1T, Nat.left_eq_add, Nat.add_eq_left, Nat.add_eq_zero_iff, and_false, false_and, if_false, if_true, opsN, opsC, pm_1, lg, ls1, ls2, lq, List.length_cons, List.length_nil, cN, cL, callE, retV, retN, pm_pop, pm_cat, List.map_cons, List.map_nil, List.sum_cons, List.sum_nil, Value.category, Option.toList, List.cons_append, List.nil_append, ↓reduceIte, reduceCtorEq, Nat.reduceAdd, Nat.reduceLT, Nat.reduceLeDiff, Nat.reduceSub, Nat.reduceEqDiff, Nat.zero_le, Nat.sub_zero, Nat.le_refl, true_and, and_true, not_true_eq_false, not_false_eq_true, true_or, or_true, lc_eq, lc_ne, lc_lt, lc_ge, lc_gt, lc_le, nI_add, lN_add, nI_leI, nI_ltI, nI_eq, nI_clamp, pk_lLT, pk_lLE, pk_lEQ, pk_sub, vp_inT, nz_eq, nz_lt, nz_ge, nz_gt, nz_le, lz_eq, lz_lt, lz_ge, hP1, hP2, hP3, hP4, hP5, hP6, hP7, hP8, hP9, hP10, hP11, hP12, hP13, hP14, hP15, hP16, hP17, hP18, hP19, hP20, hs.1, m_g9 hs, m_t3 hs, m_n3 hs, m_q0 hs, m_q1 hs, m_q0t hs, m_q1t hs, m_q0n hs, m_q1n hs, m_g10 hs, m_t6 hs, m_n6 hs, m_r6 hs, m_rt6 hs, m_rn6 hs, m_g11 hs, m_t15 hs, m_n15 hs, m_r15 hs, m_rt15 hs, m_rn15 hs, m_g12 hs, m_t24 hs, m_n24 hs, p2, f14, va_upE]
  refine hQ _ ⟨mS_eq (h := h) rfl rfl (fun _ _ => rfl) hs, ?_, hj, mQ_sI (mQ_sI (mQ_sL (by omega) (mQ_sL (by omega) q1))), mQ_sI (mQ_sI (mQ_sL (by omega) (mQ_sL (by omega) q2))), ?_, ?_, ?_, ?_⟩ ?_
  · rw [hP1, va_up_self, va_upE, if_neg (by omega)]; exact f14
  · rw [List.length_append]; show P.length + 1 ≤ 8; omega
  · rw [hP1, va_up_self, va_up_self, List.length_append]; rfl
  · intro S hS
    rcases List.mem_append.mp hS with z | z
    · exact p3 S z
    · rw [List.mem_singleton.mp z]; exact hj
  · intro i hi
    rw [List.length_append] at hi
    have hi : i < P.length + 1 := hi
    by_cases e : i = P.length
    · subst e
      rw [getD_laH]
      refine ⟨mQ_sI (mQ_sI (mQ_sL (by omega) (mQ_cpy q1 hC1 (m_rt6 hs _ hl) (m_rn6 hs _ hl) hg1))), mQ_sI (mQ_sI ?_), ?_⟩
      · exact mQ_eq (h := sL h (m + 16 + P.length) g2) rfl rfl (by rw [hP7, va_up_self, hP7, va_up_self]) (mQ_cpy (q := m + 16 + P.length) (g := g2) q2 hC2 (m_rt15 hs _ hl) (m_rn15 hs _ hl) hg2')
      · rw [hP1, va_up_ne _ _ (by omega), hP1, va_up_self, va_up_self]
    · rw [getD_apH (by omega)]
      refine mRow_eq (h := h) rfl rfl ?_ ?_ ?_ (p4 i (by omega))
      · rw [hP2, hP2, hP7, va_up_ne _ _ (by omega), hP7, va_up_ne _ _ (by omega)]
      · rw [hP2, hP2, hP7, va_up_ne _ _ (by omega), hP7, va_up_ne _ _ (by omega)]
      · rw [hP1, va_up_ne _ _ (by omega), hP1, va_up_self, va_up_ne _ _ e]
  · refine ⟨rfl, rfl, rfl, rfl, fun j q => ?_, fun j q1 q2 => ?_, fun j q => ?_⟩
    · rw [hP1, va_up_self, va_upE, if_neg q]
    · rw [hP1, va_up_ne _ _ q1, hP1, va_up_ne _ _ q2]; rfl
    · rw [hP2, hP2, hP7, va_up_ne _ _ (by omega), hP7, va_up_ne _ _ (by omega)]
theorem getD_tlH {P : List Hs} {i : Nat} : P.tail.getD i hs0 = P.getD (i + 1) hs0 := by
  cases P with
  | nil => rfl
  | cons x r => rfl
/-- remembers -/
theorem c1022 (d : Nat) {h : pm_H} {m B : Nat} {H : Hs} {P : List Hs} {Q : pm_Q} (hM : isM h m H P B)
    (hQ : ∀ h', isM h' m H (psh P H) B → frK m h h' → Q (.inl none) h') : pm_M PP (d + 2) 1022 [.ref m] h Q := by
  have hM0 := hM
  obtain ⟨hs, f14, hj, q1, q2, p1, p2, p3, p4⟩ := hM
  rw [e_1022]
  by_cases c : P.length = 8
  · have pe : psh P H = P.tail ++ [H] := by unfold psh; rw [if_neg (by omega)]
    simp (disch := omega) only [u_1022_0, B_1022_0, nI1T, Nat.left_eq_add, Nat.add_eq_left, Nat.add_eq_zero_iff, and_false, false_and, if_false, if_true, opsN, opsC, pm_1, lg, ls1, ls2, lq, List.length_cons, List.length_nil, cN, cL, callE, retV, retN, pm_pop, pm_cat, List.map_cons, List.map_nil, List.sum_cons, List.sum_nil, Value.category, Option.toList, List.cons_append, List.nil_append, ↓reduceIte, reduceCtorEq, Nat.reduceAdd, Nat.reduceLT, Nat.reduceLeDiff, Nat.reduceSub, Nat.reduceEqDiff, Nat.zero_le, Nat.sub_zero, Nat.le_refl, true_and, and_true, not_true_eq_false, not_false_eq_true, true_or, or_true, lc_eq, lc_ne, lc_lt, lc_ge, lc_gt, lc_le, nI_add, lN_add, nI_leI, nI_ltI, nI_eq, nI_clamp, pk_lLT, pk_lLE, pk_lEQ, pk_sub, vp_inT, nz_eq, nz_lt, nz_ge, nz_gt, nz_le, lz_eq, lz_lt, lz_ge, hP1, hP2, hP3, hP4, hP5, hP6, hP7, hP8, hP9, hP10, hP11, hP12, hP13, hP14, hP15, hP16, hP17, hP18, hP19, hP20, hs.1, p2, c]
    refine l1022 d (B := B) c p3 7 1 h (by omega) (by omega) hs (fun i hi => ?_) ?_
    · rw [if_neg (by omega)]; exact p4 i (by omega)
    · intro h1 hr1 hf1 h15
      have hs1 : mS h1 m := mS_eq hf1.1 hf1.2.1 (fun k _ => by rw [hf1.2.2.1]) hs
      have e15 : hI h1 m 15 = nI 8 := by rw [h15, p2, c]
      simp (disch := omega) only [u_1022_71, B_1022_71, nI1T, Nat.left_eq_add, Nat.add_eq_left, Nat.add_eq_zero_iff, and_false, false_and, if_false, if_true, opsN, opsC, pm_1, lg, ls1, ls2, lq, List.length_cons, List.length_nil, cN, cL, callE, retV, retN, pm_pop, pm_cat, List.map_cons, List.map_nil, List.sum_cons, List.sum_nil, Value.category, Option.toList, List.cons_append, List.nil_append, ↓reduceIte, reduceCtorEq, Nat.reduceAdd, Nat.reduceLT, Nat.reduceLeDiff, Nat.reduceSub, Nat.reduceEqDiff, Nat.zero_le, Nat.sub_zero, Nat.le_refl, true_and, and_true, not_true_eq_false, not_false_eq_true, true_or, or_true, lc_eq, lc_ne, lc_lt, lc_ge, lc_gt, lc_le, nI_add, lN_add, nI_leI, nI_ltI, nI_eq, nI_clamp, pk_lLT, pk_lLE, pk_lEQ, pk_sub, vp_inT, nz_eq, nz_lt, nz_ge, nz_gt, nz_le, lz_eq, lz_lt, lz_ge, hP1, hP2, hP3, hP4, hP5, hP6, hP7, hP8, hP9, hP10, hP11, hP12, hP13, hP14, hP15, hP16, hP17, hP18, hP19, hP20, hs1.1, e15]
      have htl : P.tail.length = 7 := by rw [List.length_tail, c]
      refine x1022 d (H := H) (P := P.tail) (B := B) ⟨mS_eq (h := h1) rfl rfl (fun _ _ => rfl) hs1, ?_, hj, ?_, ?_, by omega, ?_, fun S hS => p3 S (List.mem_of_mem_tail hS), fun i hi => ?_⟩ (by omega) (fun h' hM' hf' => ?_)
      · rw [hP1, va_up_self, va_up_ne _ _ (by omega), hf1.2.2.2.2.1 14 (by omega)]; exact f14
      · exact mQ_sI (mQ_eq hf1.1 hf1.2.1 (hf1.2.2.2.2.2.2 _ (by omega)) q1)
      · exact mQ_sI (mQ_eq hf1.1 hf1.2.1 (hf1.2.2.2.2.2.2 _ (by omega)) q2)
      · rw [hP1, va_up_self, va_up_self, htl]
      · rw [getD_tlH]
        refine mRow_eq (h := h1) rfl rfl rfl rfl ?_ (hr1 i (by omega))
        rw [hP1, va_up_ne _ _ (by omega)]
      · rw [← pe] at hM'
        refine hQ h' hM' (frK_trans hf1 (frK_trans ?_ hf'))
        refine ⟨rfl, rfl, rfl, rfl, fun j q => ?_, fun j q1 q2 => ?_, fun j q => rfl⟩
        · rw [hP1, va_up_self, va_up_ne _ _ q]
        · rw [hP1, va_up_ne _ _ q1]
  · have pe : psh P H = P ++ [H] := by unfold psh; rw [if_pos (by omega)]
    simp (disch := omega) only [u_1022_0, B_1022_0, nI1T, Nat.left_eq_add, Nat.add_eq_left, Nat.add_eq_zero_iff, and_false, false_and, if_false, if_true, opsN, opsC, pm_1, lg, ls1, ls2, lq, List.length_cons, List.length_nil, cN, cL, callE, retV, retN, pm_pop, pm_cat, List.map_cons, List.map_nil, List.sum_cons, List.sum_nil, Value.category, Option.toList, List.cons_append, List.nil_append, ↓reduceIte, reduceCtorEq, Nat.reduceAdd, Nat.reduceLT, Nat.reduceLeDiff, Nat.reduceSub, Nat.reduceEqDiff, Nat.zero_le, Nat.sub_zero, Nat.le_refl, true_and, and_true, not_true_eq_false, not_false_eq_true, true_or, or_true, lc_eq, lc_ne, lc_lt, lc_ge, lc_gt, lc_le, nI_add, lN_add, nI_leI, nI_ltI, nI_eq, nI_clamp, pk_lLT, pk_lLE, pk_lEQ, pk_sub, vp_inT, nz_eq, nz_lt, nz_ge, nz_gt, nz_le, lz_eq, lz_lt, lz_ge, hP1, hP2, hP3, hP4, hP5, hP6, hP7, hP8, hP9, hP10, hP11, hP12, hP13, hP14, hP15, hP16, hP17, hP18, hP19, hP20, hs.1, p2, c]
    rw [pe] at hQ
    exact x1022 d hM0 (by omega) hQ
